-- ===== PART A: goes FIRST, ahead of the names: the tables' words, and 'selects' of the private methods out of them =====
/-- a private method of a class that the tables say can be made, by its rows of tables_1 -/
def lw_okq (q : MethodName × Nat) : Prop := (q.1.cls ≠ "java/lang/invoke/MethodHandle" ∧ q.1.cls ≠ "java/lang/invoke/VarHandle") ∧ Cond.instantiable q.1.cls q.2 ∈ tables_1 ∧ Cond.privateMethod q.1 ∈ tables_1 ∧ Cond.instanceMethod q.1 ∈ tables_1
theorem lw_p0 : lw_okq (⟨"IharaZeta$History", "discardOldest", "()V"⟩, 2) := ⟨⟨by decide +kernel, by decide +kernel⟩, List.mem_of_getElem? (i := 58) (by decide +kernel), List.mem_of_getElem? (i := 232) (by decide +kernel), List.mem_of_getElem? (i := 233) (by decide +kernel)⟩
theorem lw_p1 : lw_okq (⟨"IharaZeta$EdgeText", "accept", "(ILIharaZeta$Graph;)Z"⟩, 6) := ⟨⟨by decide +kernel, by decide +kernel⟩, List.mem_of_getElem? (i := 75) (by decide +kernel), List.mem_of_getElem? (i := 273) (by decide +kernel), List.mem_of_getElem? (i := 274) (by decide +kernel)⟩
theorem lw_p2 : lw_okq (⟨"IharaZeta$EdgeText", "acceptFirst", "(ILIharaZeta$Graph;)Z"⟩, 6) := ⟨⟨by decide +kernel, by decide +kernel⟩, List.mem_of_getElem? (i := 75) (by decide +kernel), List.mem_of_getElem? (i := 277) (by decide +kernel), List.mem_of_getElem? (i := 278) (by decide +kernel)⟩
theorem lw_p3 : lw_okq (⟨"IharaZeta$EdgeText", "acceptSign", "(I)Z"⟩, 6) := ⟨⟨by decide +kernel, by decide +kernel⟩, List.mem_of_getElem? (i := 75) (by decide +kernel), List.mem_of_getElem? (i := 283) (by decide +kernel), List.mem_of_getElem? (i := 284) (by decide +kernel)⟩
theorem lw_p4 : lw_okq (⟨"IharaZeta$EdgeText", "acceptSecond", "(ILIharaZeta$Graph;)Z"⟩, 6) := ⟨⟨by decide +kernel, by decide +kernel⟩, List.mem_of_getElem? (i := 75) (by decide +kernel), List.mem_of_getElem? (i := 287) (by decide +kernel), List.mem_of_getElem? (i := 288) (by decide +kernel)⟩
theorem lw_p5 : lw_okq (⟨"IharaZeta$EdgeText", "acceptEnd", "(ILIharaZeta$Graph;)Z"⟩, 6) := ⟨⟨by decide +kernel, by decide +kernel⟩, List.mem_of_getElem? (i := 75) (by decide +kernel), List.mem_of_getElem? (i := 291) (by decide +kernel), List.mem_of_getElem? (i := 292) (by decide +kernel)⟩
theorem lw_p6 : lw_okq (⟨"IharaZeta$WalkCounter", "addReturns", "(LIharaZeta$Graph;Z[J)V"⟩, 6) := ⟨⟨by decide +kernel, by decide +kernel⟩, List.mem_of_getElem? (i := 114) (by decide +kernel), List.mem_of_getElem? (i := 356) (by decide +kernel), List.mem_of_getElem? (i := 357) (by decide +kernel)⟩
theorem lw_p7 : lw_okq (⟨"IharaZeta$WalkCounter", "goOn", "(LIharaZeta$Graph;Z)V"⟩, 6) := ⟨⟨by decide +kernel, by decide +kernel⟩, List.mem_of_getElem? (i := 114) (by decide +kernel), List.mem_of_getElem? (i := 363) (by decide +kernel), List.mem_of_getElem? (i := 364) (by decide +kernel)⟩
theorem lw_p8 : lw_okq (⟨"IharaZeta$Grouping", "separate", "()V"⟩, 2) := ⟨⟨by decide +kernel, by decide +kernel⟩, List.mem_of_getElem? (i := 101) (by decide +kernel), List.mem_of_getElem? (i := 389) (by decide +kernel), List.mem_of_getElem? (i := 390) (by decide +kernel)⟩
theorem lw_p9 : lw_okq (⟨"IharaZeta$Grouping", "unite", "(LIharaZeta$Graph;I)Z"⟩, 2) := ⟨⟨by decide +kernel, by decide +kernel⟩, List.mem_of_getElem? (i := 101) (by decide +kernel), List.mem_of_getElem? (i := 393) (by decide +kernel), List.mem_of_getElem? (i := 394) (by decide +kernel)⟩
theorem lw_p10 : lw_okq (⟨"IharaZeta$Grouping", "turnFor", "(LIharaZeta$Graph;I)I"⟩, 2) := ⟨⟨by decide +kernel, by decide +kernel⟩, List.mem_of_getElem? (i := 101) (by decide +kernel), List.mem_of_getElem? (i := 397) (by decide +kernel), List.mem_of_getElem? (i := 398) (by decide +kernel)⟩
theorem lw_p11 : lw_okq (⟨"IharaZeta$PrimeSearch", "extend", "(LIharaZeta$Graph;III)Z"⟩, 2) := ⟨⟨by decide +kernel, by decide +kernel⟩, List.mem_of_getElem? (i := 144) (by decide +kernel), List.mem_of_getElem? (i := 466) (by decide +kernel), List.mem_of_getElem? (i := 467) (by decide +kernel)⟩
theorem lw_p12 : lw_okq (⟨"IharaZeta$PrimeSearch", "isWanted", "(LIharaZeta$Graph;II)Z"⟩, 2) := ⟨⟨by decide +kernel, by decide +kernel⟩, List.mem_of_getElem? (i := 144) (by decide +kernel), List.mem_of_getElem? (i := 470) (by decide +kernel), List.mem_of_getElem? (i := 471) (by decide +kernel)⟩
theorem lw_p13 : lw_okq (⟨"IharaZeta", "makeEdgePolynomial", "()V"⟩, 9) := ⟨⟨by decide +kernel, by decide +kernel⟩, List.mem_of_getElem? (i := 14) (by decide +kernel), List.mem_of_getElem? (i := 490) (by decide +kernel), List.mem_of_getElem? (i := 491) (by decide +kernel)⟩
theorem lw_p14 : lw_okq (⟨"IharaZeta$VertexPolynomial", "makeMinor", "(LIharaZeta$Graph;I)V"⟩, 2) := ⟨⟨by decide +kernel, by decide +kernel⟩, List.mem_of_getElem? (i := 172) (by decide +kernel), List.mem_of_getElem? (i := 511) (by decide +kernel), List.mem_of_getElem? (i := 512) (by decide +kernel)⟩
theorem lw_p15 : lw_okq (⟨"IharaZeta$Grouping", "isForest", "(LIharaZeta$Graph;I)Z"⟩, 2) := ⟨⟨by decide +kernel, by decide +kernel⟩, List.mem_of_getElem? (i := 101) (by decide +kernel), List.mem_of_getElem? (i := 609) (by decide +kernel), List.mem_of_getElem? (i := 610) (by decide +kernel)⟩
def lw_privs_1 : List (MethodName × Nat) := [(⟨"IharaZeta$History", "discardOldest", "()V"⟩, 2), (⟨"IharaZeta$EdgeText", "accept", "(ILIharaZeta$Graph;)Z"⟩, 6), (⟨"IharaZeta$EdgeText", "acceptFirst", "(ILIharaZeta$Graph;)Z"⟩, 6), (⟨"IharaZeta$EdgeText", "acceptSign", "(I)Z"⟩, 6), (⟨"IharaZeta$EdgeText", "acceptSecond", "(ILIharaZeta$Graph;)Z"⟩, 6), (⟨"IharaZeta$EdgeText", "acceptEnd", "(ILIharaZeta$Graph;)Z"⟩, 6), (⟨"IharaZeta$WalkCounter", "addReturns", "(LIharaZeta$Graph;Z[J)V"⟩, 6), (⟨"IharaZeta$WalkCounter", "goOn", "(LIharaZeta$Graph;Z)V"⟩, 6), (⟨"IharaZeta$Grouping", "separate", "()V"⟩, 2), (⟨"IharaZeta$Grouping", "unite", "(LIharaZeta$Graph;I)Z"⟩, 2), (⟨"IharaZeta$Grouping", "turnFor", "(LIharaZeta$Graph;I)I"⟩, 2), (⟨"IharaZeta$PrimeSearch", "extend", "(LIharaZeta$Graph;III)Z"⟩, 2), (⟨"IharaZeta$PrimeSearch", "isWanted", "(LIharaZeta$Graph;II)Z"⟩, 2), (⟨"IharaZeta", "makeEdgePolynomial", "()V"⟩, 9), (⟨"IharaZeta$VertexPolynomial", "makeMinor", "(LIharaZeta$Graph;I)V"⟩, 2), (⟨"IharaZeta$Grouping", "isForest", "(LIharaZeta$Graph;I)Z"⟩, 2)]
theorem lw_r1 : ∀ q ∈ lw_privs_1, lw_okq q := List.forall_mem_cons.mpr ⟨lw_p0, List.forall_mem_cons.mpr ⟨lw_p1, List.forall_mem_cons.mpr ⟨lw_p2, List.forall_mem_cons.mpr ⟨lw_p3, List.forall_mem_cons.mpr ⟨lw_p4, List.forall_mem_cons.mpr ⟨lw_p5, List.forall_mem_cons.mpr ⟨lw_p6, List.forall_mem_cons.mpr ⟨lw_p7, List.forall_mem_cons.mpr ⟨lw_p8, List.forall_mem_cons.mpr ⟨lw_p9, List.forall_mem_cons.mpr ⟨lw_p10, List.forall_mem_cons.mpr ⟨lw_p11, List.forall_mem_cons.mpr ⟨lw_p12, List.forall_mem_cons.mpr ⟨lw_p13, List.forall_mem_cons.mpr ⟨lw_p14, List.forall_mem_cons.mpr ⟨lw_p15, fun _ h => absurd h List.not_mem_nil⟩⟩⟩⟩⟩⟩⟩⟩⟩⟩⟩⟩⟩⟩⟩⟩
def lw_privs : List (MethodName × Nat) := lw_privs_1
def lw_tbl : List Cond := k2_sels lw_privs ++ tables_1
theorem lw_privs_ok : ∀ q ∈ lw_privs, lw_okq q := lw_r1
-- ===== end of PART A; then your names; then what follows =====
def va_AOA (t : FieldType) (U : State) : Prop := (Cond.arrayOver (.array t)).before #[] U = true
theorem va_AOA.of {t : FieldType} {A : Array Value} {U : State} (h : (Cond.arrayOver (.array t)).before A U = true) : va_AOA t U := h
theorem va_AOA.use {t : FieldType} {A : Array Value} {U : State} (h : va_AOA t U) : (Cond.arrayOver (.array t)).before A U = true := h
/-! ===== BEGIN words of one list among another's, by their places ===== -/
theorem goodIn_r {big : List Cond} (ws : List Cond) (ps : List Nat) (hp : ws = ps.filterMap (fun i => big[i]?)) (h : ws.all goodWord = true) : GoodIn big ws := by
  intro w hw
  have h1 := List.all_eq_true.mp h w hw
  rw [hp] at hw
  obtain ⟨i, -, hi⟩ := List.mem_filterMap.mp hw
  have hm : w ∈ big := by first | exact List.mem_of_getElem? hi | exact List.getElem?_mem hi
  exact ⟨hm, good_of_word h1⟩
theorem goodIn_app {big a b : List Cond} (ha : GoodIn big a) (hb : GoodIn big b) : GoodIn big (a ++ b) := fun w h => (List.mem_append.mp h).elim (ha w) (hb w)
theorem goodIn_ca {big a b : List Cond} {c : Cond} (ha : GoodIn big (c :: a)) (hb : GoodIn big b) : GoodIn big (c :: (a ++ b)) := fun w h => (List.mem_cons.mp h).elim (fun e => ha w (List.mem_cons.mpr (Or.inl e))) (fun h => (List.mem_append.mp h).elim (fun h => ha w (List.mem_cons.mpr (Or.inr h))) (hb w))
theorem goodIn_sub {big ws : List Cond} (hm : ∀ w ∈ ws, w ∈ big) (h : ws.all goodWord = true) : GoodIn big ws := fun w hw => ⟨hm w hw, good_of_word (List.all_eq_true.mp h w hw)⟩
/-! ===== END ===== -/
/-! ===== BEGIN new T[n][m]: the outer array a place, the inner ones among the pooled ===== -/
/-- f, but v at every address of l -/
def vr_up {α : Type} (f : Nat → α) (l : List Nat) (v : α) : Nat → α := fun a => if a ∈ l then v else f a
theorem vr_up_in {α : Type} {f : Nat → α} {l : List Nat} {v : α} {a : Nat} (h : a ∈ l) : vr_up f l v a = v := if_pos h
theorem vr_up_ne {α : Type} {f : Nat → α} {l : List Nat} {v : α} {a : Nat} (h : a ∉ l) : vr_up f l v a = f a := if_neg h
theorem vr_rows {L l : List Nat} {f : Nat → va_E} {e : va_E} (h : ∀ a, a ∈ l → a ∉ L) : va_pl L f ++ l.map (fun a => (a, e)) = va_pl (L ++ l) (vr_up f l e) := by
  unfold va_pl
  rw [List.map_append]
  congr 1
  · apply List.map_congr_left
    intro a ha
    rw [vr_up_ne (fun q => h a q ha)]
  · apply List.map_congr_left
    intro a ha
    rw [vr_up_in ha]
theorem vr_lay {X rows : va_W} {x : Nat × va_E} {pl : va_W} {D : va_G} {cl : List vw_C} {H : Heap} (hP : va_P D cl (((X ++ pl) ++ [x]) ++ rows) H) : va_P D cl ((X ++ [x]) ++ (pl ++ rows)) H := by
  rw [List.append_assoc (X ++ pl)] at hP
  have h := va_P.swap hP
  rw [← List.append_assoc X] at h
  have h2 := va_P.swap h
  rw [List.append_assoc (X ++ [x])] at h2
  exact h2
theorem vr_layD {X rows : va_W} {x : Nat × va_E} {pl : va_W} {A : Nat → Prop} (hD : va_D A (((X ++ pl) ++ [x]) ++ rows)) : va_D A ((X ++ [x]) ++ (pl ++ rows)) := by
  rw [List.append_assoc (X ++ pl)] at hD
  have h := va_D.swap hD
  rw [← List.append_assoc X] at h
  have h2 := va_D.swap h
  rw [List.append_assoc (X ++ [x])] at h2
  exact h2
theorem vr_outer (c : ClassId) (N h0 : Nat) : ∀ i : Nat, Jvm.Free.Multi.outerC c N h0 i = arrV c N (fun j => va_rf (if j < i then some (h0 + 1 + j) else none))
  | 0 => by
    show ({ cls := c, slots := Array.replicate N .null, vm := .none } : Cell) = _
    rw [arrV_new]
    refine congrArg (arrV c N) (funext fun j => ?_)
    simp [va_rf]
  | i + 1 => by
    show (Jvm.Free.Multi.outerC c N h0 i).setSlot i (.ref (h0 + 1 + i)) = _
    rw [vr_outer c N h0 i, arrV_store]
    refine congrArg (arrV c N) (funext fun j => ?_)
    by_cases e : j = i
    · subst e
      simp [updV, va_rf]
    · by_cases h : j < i
      · simp [updV, e, h, Nat.lt_succ_of_lt h]
      · simp [updV, e, h, show ¬ j < i + 1 by omega]
section VGM
variable {p : Program} {l : Launch} {e : Env} {R : Room} {s : State} {m : MethodId} {args : Array Value} {below : List Frame} {meth : Method} {c : Code} {H : Heap} {locs : List Loc} {cells slots : Nat} {Q : State → Prop}
variable {cc : ByteArray} {pc : Nat} {ls : Array Slot} {rest : List Value} {D : va_G} {cl : List vw_C} {A : Nat → Prop} {a : Nat} {tys : List (ClassId × FieldType)} {ws : va_W} {H0 : Heap}
theorem va_mna {X : va_W} {L : List Nat} {f : Nat → va_E} {cc : ByteArray} (hexec : p.tables.exec = Jvm.exec) (hb : c.code = cc) {own : String} {index : Nat} {ty : FieldType} {cy : ClassId} (hown : s.vm.findClass own = some m.cls) (hclink : (Cond.classLink own index ("[" ++ (FieldType.array ty).toString)).before args s = true) (hover : va_AOA ty s) (harr : (Cond.arrayClass ty).before args s = true) (hcy : s.vm.findClass (FieldType.array ty).toString = some cy)
    (hK : va_K D cl tys s) (hP : va_P D cl (X ++ va_pl L f) H) (hD : va_D A (X ++ va_pl L f)) (hS : va_S A H0 H locs) (hA : ∀ q, H0.size ≤ q → A q) {n k : Int32} {N' K' : Nat} {z : vp_A} (hn : ¬ n < 0) (hk : ¬ k < 0) (hN : n.toNatClampNeg = N') (hM : k.toNatClampNeg = K')
    (hb1 : N' * 4 ≤ 536870912) (hb2 : K' * componentBytes ty ≤ 536870912) (hb3 : K' ≤ 536870912) (hdf : fits ty (defaultValue ty) = true) (hdd : (defaultValue ty).isDefault = true) (hcells : cells + (1 + N') ≤ R.cells) (hslots : slots + (N' + N' * K') ≤ R.slots) (hz : ∀ c : ClassId, Jvm.Free.Multi.innerC c K' (defaultValue ty) = vp_cell c z) (hdg : decode cc pc = .ok (.multianewarray index 2, 4))
    (kk : ∀ (q : Nat) (r : Nat → Nat) (cA : ClassId) (H1 : Heap), (∀ i j : Nat, i < N' → j < N' → r i = r j → i = j) → (∀ i : Nat, i < N' → r i ∉ L) → va_K D cl (tys ++ [(cA, .array ty)]) s →
      va_P D cl ((X ++ [(q, .inl (cA, N', .inr (.inr (.inr (.inr (fun i => if i < N' then some (r i) else none))))))]) ++ va_pl (L ++ (List.range N').map r) (vr_up f ((List.range N').map r) (.inl (cy, z)))) H1 → va_D A ((X ++ [(q, .inl (cA, N', .inr (.inr (.inr (.inr (fun i => if i < N' then some (r i) else none))))))]) ++ va_pl (L ++ (List.range N').map r) (vr_up f ((List.range N').map r) (.inl (cy, z)))) → va_S A H0 H1 locs →
      W p l e R s m args below meth c H1 locs (cells + 1 + N') (slots + N' + N' * K') Q (F0 m (pc + 4) ls (.ref q :: rest))) : W p l e R s m args below meth c H locs cells slots Q (F0 m pc ls (.int k :: .int n :: rest)) := by
  subst hN
  subst hM
  intro T hT Xs
  obtain ⟨vm₁, cA, comp, -, fA, fC, hO, -, X', step⟩ := Xs.multianewarray2F hexec hown hclink (va_AOA.use hover) harr (g := F0 m pc ls (.int k :: .int n :: rest)) rfl (by rw [hb]; exact hdg) rfl hn hk hb1 hb2 hb3 hdf hdd hcells hslots
  have ec : some cy = some comp := hcy.symm.trans fC
  cases ec
  generalize hF : Jvm.Free.Multi.fill (T.setVm vm₁) cA cy n.toNatClampNeg k.toNatClampNeg (defaultValue ty) n.toNatClampNeg = F at X' step
  have hTh : (T.setVm vm₁).heap = H := hT
  obtain ⟨f1, f2, -, -⟩ := Jvm.Free.Multi.fill_facts (T.setVm vm₁) cA cy n.toNatClampNeg k.toNatClampNeg (defaultValue ty) n.toNatClampNeg
  rw [hF, hTh] at f1 f2
  have hold : ∀ x : Nat, x < H.size → F.heap[x]? = H[x]? := fun x hx => by
    have := Jvm.Free.Multi.fill_old (T.setVm vm₁) cA cy n.toNatClampNeg k.toNatClampNeg (defaultValue ty) (a := x) (by rw [hTh]; exact hx) n.toNatClampNeg
    rw [hF, hTh] at this
    exact this
  have hrow : ∀ j : Nat, j < n.toNatClampNeg → F.heap[H.size + 1 + j]? = some (vp_cell cy z) := fun j hj => by
    have := Jvm.Free.Multi.fill_inner (T.setVm vm₁) cA cy n.toNatClampNeg k.toNatClampNeg (defaultValue ty) n.toNatClampNeg j hj
    rw [hF, hTh, hz] at this
    exact this
  have hout : Jvm.Free.Multi.outerC cA n.toNatClampNeg H.size n.toNatClampNeg = vp_cell cA (n.toNatClampNeg, .inr (.inr (.inr (.inr (fun i => if i < n.toNatClampNeg then some (H.size + 1 + i) else none))))) := by
    rw [vp_cell_q]
    exact vr_outer cA n.toNatClampNeg H.size n.toNatClampNeg
  rw [hout] at f2
  have hlt : ∀ a, a ∈ L → a < H.size := fun a ha => by
    obtain ⟨k9, hk9⟩ := va_pl_get (X := X) (f := f) ha
    exact (hP k9 _ hk9).lt
  have hnl : ∀ i : Nat, i < n.toNatClampNeg → H.size + 1 + i ∉ L := fun i _ h => by
    have := hlt _ h
    omega
  have hnm : ∀ a, a ∈ (List.range n.toNatClampNeg).map (fun i => H.size + 1 + i) → a ∉ L := fun a ha h => by
    obtain ⟨i, -, rfl⟩ := List.mem_map.mp ha
    have := hlt _ h
    omega
  have hP0 : va_P D cl (X ++ va_pl L f) F.heap := hP.kept (fun k9 x hx => hold x.1 ((hP k9 x hx).lt))
  have hP1 : va_P D cl ((X ++ va_pl L f) ++ [(H.size, .inl (cA, n.toNatClampNeg, .inr (.inr (.inr (.inr (fun i => if i < n.toNatClampNeg then some (H.size + 1 + i) else none))))))]) F.heap := hP0.app (fun k9 x hx => by
    have h0 : k9 < 1 := (List.getElem?_eq_some_iff.mp hx).1
    rw [show k9 = 0 by omega] at hx
    cases hx
    exact f2)
  have hP2 : va_P D cl (((X ++ va_pl L f) ++ [(H.size, .inl (cA, n.toNatClampNeg, .inr (.inr (.inr (.inr (fun i => if i < n.toNatClampNeg then some (H.size + 1 + i) else none))))))]) ++ ((List.range n.toNatClampNeg).map (fun i => H.size + 1 + i)).map (fun a => (a, .inl (cy, z)))) F.heap := hP1.app (fun k9 x hx => by
    obtain ⟨a, ha, rfl⟩ := List.mem_map.mp (List.mem_of_getElem? hx)
    obtain ⟨i, hi, rfl⟩ := List.mem_map.mp ha
    exact hrow i (List.mem_range.mp hi))
  have hD2 : va_D A (((X ++ va_pl L f) ++ [(H.size, .inl (cA, n.toNatClampNeg, .inr (.inr (.inr (.inr (fun i => if i < n.toNatClampNeg then some (H.size + 1 + i) else none))))))]) ++ ((List.range n.toNatClampNeg).map (fun i => H.size + 1 + i)).map (fun a => (a, .inl (cy, z)))) := by
    have hD1 := hD.push (e := .inl (cA, n.toNatClampNeg, .inr (.inr (.inr (.inr (fun i => if i < n.toNatClampNeg then some (H.size + 1 + i) else none)))))) hP rfl (hA _ hS.1)
    generalize hW1 : (X ++ va_pl L f) ++ [(H.size, .inl (cA, n.toNatClampNeg, .inr (.inr (.inr (.inr (fun i => if i < n.toNatClampNeg then some (H.size + 1 + i) else none))))))] = W1 at hD1 hP1 ⊢
    have hle : ∀ (k9 : Nat) (x : Nat × va_E), W1[k9]? = some x → x.1 ≤ H.size := fun k9 x hx => by
      rw [← hW1] at hx
      by_cases hl : k9 < (X ++ va_pl L f).length
      · rw [List.getElem?_append_left hl] at hx
        exact Nat.le_of_lt ((hP k9 x hx).lt)
      · rw [List.getElem?_append_right (by omega)] at hx
        have h0 : k9 - (X ++ va_pl L f).length < 1 := (List.getElem?_eq_some_iff.mp hx).1
        rw [show k9 - (X ++ va_pl L f).length = 0 by omega] at hx
        cases hx
        exact Nat.le_refl _
    have hr : ∀ (k9 : Nat) (x : Nat × va_E), (((List.range n.toNatClampNeg).map (fun i => H.size + 1 + i)).map (fun a => ((a, .inl (cy, z)) : Nat × va_E)))[k9]? = some x → x.1 = H.size + 1 + k9 := fun k9 x hx => by
      rw [List.getElem?_map, List.getElem?_map] at hx
      by_cases h9 : k9 < n.toNatClampNeg
      · rw [List.getElem?_range h9] at hx
        cases hx
        rfl
      · have hn0 : (List.range n.toNatClampNeg)[k9]? = none := List.getElem?_eq_none (by rw [List.length_range]; omega)
        rw [hn0] at hx
        cases hx
    refine ⟨fun i j x y hi hj hxy => ?_, fun k9 x hx => ?_⟩
    · by_cases h1 : i < W1.length <;> by_cases h2 : j < W1.length
      · rw [List.getElem?_append_left h1] at hi
        rw [List.getElem?_append_left h2] at hj
        exact hD1.1 i j x y hi hj hxy
      · rw [List.getElem?_append_left h1] at hi
        rw [List.getElem?_append_right (by omega)] at hj
        have := hle _ _ hi
        have := hr _ _ hj
        omega
      · rw [List.getElem?_append_right (by omega)] at hi
        rw [List.getElem?_append_left h2] at hj
        have := hle _ _ hj
        have := hr _ _ hi
        omega
      · rw [List.getElem?_append_right (by omega)] at hi hj
        have := hr _ _ hi
        have := hr _ _ hj
        omega
    · by_cases h1 : k9 < W1.length
      · rw [List.getElem?_append_left h1] at hx
        exact hD1.2 k9 x hx
      · rw [List.getElem?_append_right (by omega)] at hx
        have := hr _ _ hx
        exact hA _ (by have := hS.1; omega)
  have hAr : ArrOfT s cA (.array ty) := fun N9 z9 => by
    obtain ⟨-, k9, hk9, cm9, hkk9⟩ := (hO 0 0 0).1
    exact ⟨(fun q hq => by cases hq), k9, hk9, cm9, hkk9⟩
  have hK2 : va_K D cl (tys ++ [(cA, .array ty)]) s := ⟨hK.1, fun k9 x hx => by
    by_cases hl : k9 < tys.length
    · rw [List.getElem?_append_left hl] at hx
      exact hK.2 k9 x hx
    · rw [List.getElem?_append_right (by omega)] at hx
      have h0 : k9 - tys.length < 1 := (List.getElem?_eq_some_iff.mp hx).1
      rw [show k9 - tys.length = 0 by omega] at hx
      cases hx
      exact ⟨hAr, fA⟩⟩
  obtain ⟨t, a1, b1⟩ := kk H.size (fun i => H.size + 1 + i) cA F.heap (fun i j _ _ h => by have h9 : H.size + 1 + i = H.size + 1 + j := h; omega) hnl hK2 (by rw [← vr_rows hnm]; exact vr_lay hP2) (by rw [← vr_rows hnm]; exact vr_layD hD2) ⟨by rw [f1]; have := hS.1; omega, fun x h1 h2 => (hold x (Nat.lt_of_lt_of_le h1 hS.1)).trans (hS.2.1 x h1 h2), hS.2.2⟩ F rfl X'
  refine ⟨t, step t ?_, b1⟩
  have e : T.heap.size = H.size := by rw [hT]
  rw [e]
  exact a1
end VGM
/-! ===== END ===== -/
/-! ===== BEGIN printed: names, fields, word lists, decode rows ===== -/
def RX0 : String := "IharaZeta$EdgePolynomial"
def TX0 : u_T := fun k => match k with
  | 0 => ("IharaZeta$EdgePolynomial", "coefficients", "[J", true)
  | _ => ("IharaZeta$EdgePolynomial", "work", "[J", true)
def tyX0 : Nat → FieldType := fun k => match k with
  | 0 => .array .long
  | _ => .array .long
abbrev wsX00 : List Cond := u_ws RX0 TX0 2
theorem nmX0 : ∀ a, a < 2 → ∀ b, b < 2 → a ≠ b → (TX0 a).2.1 ≠ (TX0 b).2.1 := by decide +kernel
theorem tyX0_ok : ∀ k, k < 2 → parseFieldDescriptor (TX0 k).2.2.1 = some (tyX0 k) := by decide +kernel
abbrev cX0_init : ByteArray := prog_2_method_1_code
def yX0_init : MethodName := ⟨RX0, "<init>", "()V"⟩
abbrev cX0_makeFrom : ByteArray := prog_2_method_2_code
def yX0_makeFrom : MethodName := ⟨RX0, "makeFrom", "([J)V"⟩
abbrev cX0_inverseCoefficient : ByteArray := prog_2_method_3_code
def yX0_inverseCoefficient : MethodName := ⟨RX0, "inverseCoefficient", "(I)J"⟩
abbrev cX0_valueAt : ByteArray := prog_2_method_4_code
def yX0_valueAt : MethodName := ⟨RX0, "valueAt", "(J)J"⟩
abbrev cX0_coefficientAroundOne : ByteArray := prog_2_method_5_code
def yX0_coefficientAroundOne : MethodName := ⟨RX0, "coefficientAroundOne", "(I)J"⟩
abbrev cX0_highestPower : ByteArray := prog_2_method_6_code
def yX0_highestPower : MethodName := ⟨RX0, "highestPower", "()I"⟩
def RX1 : String := "IharaZeta$EdgeText"
def TX1 : u_T := fun k => match k with
  | 0 => ("IharaZeta$EdgeText", "length", "I", false)
  | 1 => ("IharaZeta$EdgeText", "characters", "[I", true)
  | 2 => ("IharaZeta$EdgeText", "stage", "I", false)
  | 3 => ("IharaZeta$EdgeText", "first", "I", false)
  | 4 => ("IharaZeta$EdgeText", "second", "I", false)
  | _ => ("IharaZeta$EdgeText", "sign", "I", false)
def tyX1 : Nat → FieldType := fun k => match k with
  | 0 => .int
  | 1 => .array .int
  | 2 => .int
  | 3 => .int
  | 4 => .int
  | _ => .int
abbrev wsX10 : List Cond := u_ws RX1 TX1 6
theorem nmX1 : ∀ a, a < 6 → ∀ b, b < 6 → a ≠ b → (TX1 a).2.1 ≠ (TX1 b).2.1 := by decide +kernel
theorem tyX1_ok : ∀ k, k < 6 → parseFieldDescriptor (TX1 k).2.2.1 = some (tyX1 k) := by decide +kernel
abbrev cX1_init : ByteArray := prog_3_method_1_code
def yX1_init : MethodName := ⟨RX1, "<init>", "()V"⟩
abbrev cX1_append : ByteArray := prog_3_method_2_code
def yX1_append : MethodName := ⟨RX1, "append", "(I)V"⟩
abbrev cX1_readInto : ByteArray := prog_3_method_3_code
def yX1_readInto : MethodName := ⟨RX1, "readInto", "(LIharaZeta$Graph;)I"⟩
abbrev cX1_accept : ByteArray := prog_3_method_4_code
def yX1_accept : MethodName := ⟨RX1, "accept", "(ILIharaZeta$Graph;)Z"⟩
abbrev cX1_acceptFirst : ByteArray := prog_3_method_5_code
def yX1_acceptFirst : MethodName := ⟨RX1, "acceptFirst", "(ILIharaZeta$Graph;)Z"⟩
abbrev cX1_acceptSign : ByteArray := prog_3_method_6_code
def yX1_acceptSign : MethodName := ⟨RX1, "acceptSign", "(I)Z"⟩
abbrev cX1_acceptSecond : ByteArray := prog_3_method_7_code
def yX1_acceptSecond : MethodName := ⟨RX1, "acceptSecond", "(ILIharaZeta$Graph;)Z"⟩
abbrev cX1_acceptEnd : ByteArray := prog_3_method_8_code
def yX1_acceptEnd : MethodName := ⟨RX1, "acceptEnd", "(ILIharaZeta$Graph;)Z"⟩
def RX2 : String := "IharaZeta$Graph"
def TX2 : u_T := fun k => match k with
  | 0 => ("IharaZeta$Graph", "vertices", "I", false)
  | 1 => ("IharaZeta$Graph", "edges", "I", false)
  | 2 => ("IharaZeta$Graph", "firsts", "[I", true)
  | 3 => ("IharaZeta$Graph", "seconds", "[I", true)
  | _ => ("IharaZeta$Graph", "signs", "[I", true)
def tyX2 : Nat → FieldType := fun k => match k with
  | 0 => .int
  | 1 => .int
  | 2 => .array .int
  | 3 => .array .int
  | _ => .array .int
abbrev wsX20 : List Cond := u_ws RX2 TX2 5
theorem nmX2 : ∀ a, a < 5 → ∀ b, b < 5 → a ≠ b → (TX2 a).2.1 ≠ (TX2 b).2.1 := by decide +kernel
theorem tyX2_ok : ∀ k, k < 5 → parseFieldDescriptor (TX2 k).2.2.1 = some (tyX2 k) := by decide +kernel
abbrev cX2_init : ByteArray := prog_4_method_1_code
def yX2_init : MethodName := ⟨RX2, "<init>", "()V"⟩
abbrev cX2_makeEmpty : ByteArray := prog_4_method_2_code
def yX2_makeEmpty : MethodName := ⟨RX2, "makeEmpty", "(I)V"⟩
abbrev cX2_copyFrom : ByteArray := prog_4_method_3_code
def yX2_copyFrom : MethodName := ⟨RX2, "copyFrom", "(LIharaZeta$Graph;)V"⟩
abbrev cX2_isFull : ByteArray := prog_4_method_4_code
def yX2_isFull : MethodName := ⟨RX2, "isFull", "()Z"⟩
abbrev cX2_hasVertex : ByteArray := prog_4_method_5_code
def yX2_hasVertex : MethodName := ⟨RX2, "hasVertex", "(I)Z"⟩
abbrev cX2_hasEdge : ByteArray := prog_4_method_6_code
def yX2_hasEdge : MethodName := ⟨RX2, "hasEdge", "(I)Z"⟩
abbrev cX2_hasDirected : ByteArray := prog_4_method_7_code
def yX2_hasDirected : MethodName := ⟨RX2, "hasDirected", "(I)Z"⟩
abbrev cX2_append : ByteArray := prog_4_method_8_code
def yX2_append : MethodName := ⟨RX2, "append", "(III)V"⟩
abbrev cX2_delete : ByteArray := prog_4_method_9_code
def yX2_delete : MethodName := ⟨RX2, "delete", "(I)V"⟩
abbrev cX2_startOf : ByteArray := prog_4_method_10_code
def yX2_startOf : MethodName := ⟨RX2, "startOf", "(I)I"⟩
abbrev cX2_endOf : ByteArray := prog_4_method_11_code
def yX2_endOf : MethodName := ⟨RX2, "endOf", "(I)I"⟩
abbrev cX2_leadsOn : ByteArray := prog_4_method_12_code
def yX2_leadsOn : MethodName := ⟨RX2, "leadsOn", "(II)Z"⟩
abbrev cX2_edgesAt : ByteArray := prog_4_method_13_code
def yX2_edgesAt : MethodName := ⟨RX2, "edgesAt", "(I)I"⟩
abbrev cX2_edgesBetween : ByteArray := prog_4_method_14_code
def yX2_edgesBetween : MethodName := ⟨RX2, "edgesBetween", "(II)I"⟩
def RX3 : String := "IharaZeta$Grouping"
def TX3 : u_T := fun k => match k with
  | 0 => ("IharaZeta$Grouping", "groups", "[I", true)
  | _ => ("IharaZeta$Grouping", "sides", "[I", true)
def tyX3 : Nat → FieldType := fun k => match k with
  | 0 => .array .int
  | _ => .array .int
abbrev wsX30 : List Cond := u_ws RX3 TX3 2
theorem nmX3 : ∀ a, a < 2 → ∀ b, b < 2 → a ≠ b → (TX3 a).2.1 ≠ (TX3 b).2.1 := by decide +kernel
theorem tyX3_ok : ∀ k, k < 2 → parseFieldDescriptor (TX3 k).2.2.1 = some (tyX3 k) := by decide +kernel
abbrev cX3_init : ByteArray := prog_5_method_1_code
def yX3_init : MethodName := ⟨RX3, "<init>", "()V"⟩
abbrev cX3_countGroups : ByteArray := prog_5_method_2_code
def yX3_countGroups : MethodName := ⟨RX3, "countGroups", "(LIharaZeta$Graph;)I"⟩
abbrev cX3_canDivide : ByteArray := prog_5_method_3_code
def yX3_canDivide : MethodName := ⟨RX3, "canDivide", "(LIharaZeta$Graph;)Z"⟩
abbrev cX3_countTrees : ByteArray := prog_5_method_4_code
def yX3_countTrees : MethodName := ⟨RX3, "countTrees", "(LIharaZeta$Graph;)I"⟩
abbrev cX3_isForest : ByteArray := prog_5_method_5_code
def yX3_isForest : MethodName := ⟨RX3, "isForest", "(LIharaZeta$Graph;I)Z"⟩
abbrev cX3_separate : ByteArray := prog_5_method_6_code
def yX3_separate : MethodName := ⟨RX3, "separate", "()V"⟩
abbrev cX3_unite : ByteArray := prog_5_method_7_code
def yX3_unite : MethodName := ⟨RX3, "unite", "(LIharaZeta$Graph;I)Z"⟩
abbrev cX3_turnFor : ByteArray := prog_5_method_8_code
def yX3_turnFor : MethodName := ⟨RX3, "turnFor", "(LIharaZeta$Graph;I)I"⟩
def RX4 : String := "IharaZeta$History"
def TX4 : u_T := fun k => match k with
  | 0 => ("IharaZeta$History", "count", "I", false)
  | _ => ("IharaZeta$History", "saved", "[LIharaZeta$Graph;", true)
def tyX4 : Nat → FieldType := fun k => match k with
  | 0 => .int
  | _ => .array (.object "IharaZeta$Graph")
abbrev wsX40 : List Cond := u_ws RX4 TX4 2
theorem nmX4 : ∀ a, a < 2 → ∀ b, b < 2 → a ≠ b → (TX4 a).2.1 ≠ (TX4 b).2.1 := by decide +kernel
theorem tyX4_ok : ∀ k, k < 2 → parseFieldDescriptor (TX4 k).2.2.1 = some (tyX4 k) := by decide +kernel
abbrev cX4_init : ByteArray := prog_6_method_1_code
def yX4_init : MethodName := ⟨RX4, "<init>", "()V"⟩
abbrev cX4_save : ByteArray := prog_6_method_2_code
def yX4_save : MethodName := ⟨RX4, "save", "(LIharaZeta$Graph;)V"⟩
abbrev cX4_restore : ByteArray := prog_6_method_3_code
def yX4_restore : MethodName := ⟨RX4, "restore", "(LIharaZeta$Graph;)V"⟩
abbrev cX4_discardOldest : ByteArray := prog_6_method_4_code
def yX4_discardOldest : MethodName := ⟨RX4, "discardOldest", "()V"⟩
def RX5 : String := "IharaZeta$PrimeSearch"
def TX5 : u_T := fun k => match k with
  | 0 => ("IharaZeta$PrimeSearch", "word", "[I", true)
  | _ => ("IharaZeta$PrimeSearch", "toSkip", "I", false)
def tyX5 : Nat → FieldType := fun k => match k with
  | 0 => .array .int
  | _ => .int
abbrev wsX50 : List Cond := u_ws RX5 TX5 2
theorem nmX5 : ∀ a, a < 2 → ∀ b, b < 2 → a ≠ b → (TX5 a).2.1 ≠ (TX5 b).2.1 := by decide +kernel
theorem tyX5_ok : ∀ k, k < 2 → parseFieldDescriptor (TX5 k).2.2.1 = some (tyX5 k) := by decide +kernel
abbrev cX5_init : ByteArray := prog_7_method_1_code
def yX5_init : MethodName := ⟨RX5, "<init>", "()V"⟩
abbrev cX5_find : ByteArray := prog_7_method_2_code
def yX5_find : MethodName := ⟨RX5, "find", "(LIharaZeta$Graph;II)Z"⟩
abbrev cX5_signOfWord : ByteArray := prog_7_method_3_code
def yX5_signOfWord : MethodName := ⟨RX5, "signOfWord", "(LIharaZeta$Graph;I)I"⟩
abbrev cX5_extend : ByteArray := prog_7_method_4_code
def yX5_extend : MethodName := ⟨RX5, "extend", "(LIharaZeta$Graph;III)Z"⟩
abbrev cX5_isWanted : ByteArray := prog_7_method_5_code
def yX5_isWanted : MethodName := ⟨RX5, "isWanted", "(LIharaZeta$Graph;II)Z"⟩
def RX6 : String := "IharaZeta$VertexPolynomial"
def TX6 : u_T := fun k => match k with
  | 0 => ("IharaZeta$VertexPolynomial", "coefficients", "[J", true)
  | _ => ("IharaZeta$VertexPolynomial", "minors", "[[J", true)
def tyX6 : Nat → FieldType := fun k => match k with
  | 0 => .array .long
  | _ => .array (.array .long)
abbrev wsX60 : List Cond := u_ws RX6 TX6 2
theorem nmX6 : ∀ a, a < 2 → ∀ b, b < 2 → a ≠ b → (TX6 a).2.1 ≠ (TX6 b).2.1 := by decide +kernel
theorem tyX6_ok : ∀ k, k < 2 → parseFieldDescriptor (TX6 k).2.2.1 = some (tyX6 k) := by decide +kernel
abbrev cX6_init : ByteArray := prog_8_method_1_code
def yX6_init : MethodName := ⟨RX6, "<init>", "()V"⟩
abbrev cX6_makeFrom : ByteArray := prog_8_method_2_code
def yX6_makeFrom : MethodName := ⟨RX6, "makeFrom", "(LIharaZeta$Graph;)V"⟩
abbrev cX6_turnIntoBass : ByteArray := prog_8_method_3_code
def yX6_turnIntoBass : MethodName := ⟨RX6, "turnIntoBass", "(I)V"⟩
abbrev cX6_makeMinor : ByteArray := prog_8_method_4_code
def yX6_makeMinor : MethodName := ⟨RX6, "makeMinor", "(LIharaZeta$Graph;I)V"⟩
abbrev cX6_addProduct : ByteArray := prog_8_method_5_code
def yX6_addProduct : MethodName := ⟨RX6, "addProduct", "(LIharaZeta$Graph;IIJ[J[J)V"⟩
abbrev cX6_addShifted : ByteArray := prog_8_method_6_code
def yX6_addShifted : MethodName := ⟨RX6, "addShifted", "([JIJ[J)V"⟩
def RX7 : String := "IharaZeta$WalkCounter"
def TX7 : u_T := fun k => match k with
  | 0 => ("IharaZeta$WalkCounter", "closed", "[J", true)
  | 1 => ("IharaZeta$WalkCounter", "closedSigned", "[J", true)
  | 2 => ("IharaZeta$WalkCounter", "primitive", "[J", true)
  | 3 => ("IharaZeta$WalkCounter", "primitiveSigned", "[J", true)
  | 4 => ("IharaZeta$WalkCounter", "reached", "[J", true)
  | _ => ("IharaZeta$WalkCounter", "arrived", "[J", true)
def tyX7 : Nat → FieldType := fun k => match k with
  | 0 => .array .long
  | 1 => .array .long
  | 2 => .array .long
  | 3 => .array .long
  | 4 => .array .long
  | _ => .array .long
abbrev wsX70 : List Cond := u_ws RX7 TX7 6
theorem nmX7 : ∀ a, a < 6 → ∀ b, b < 6 → a ≠ b → (TX7 a).2.1 ≠ (TX7 b).2.1 := by decide +kernel
theorem tyX7_ok : ∀ k, k < 6 → parseFieldDescriptor (TX7 k).2.2.1 = some (tyX7 k) := by decide +kernel
abbrev cX7_init : ByteArray := prog_9_method_1_code
def yX7_init : MethodName := ⟨RX7, "<init>", "()V"⟩
abbrev cX7_countClosed : ByteArray := prog_9_method_2_code
def yX7_countClosed : MethodName := ⟨RX7, "countClosed", "(LIharaZeta$Graph;)V"⟩
abbrev cX7_countClosedSigned : ByteArray := prog_9_method_3_code
def yX7_countClosedSigned : MethodName := ⟨RX7, "countClosedSigned", "(LIharaZeta$Graph;)V"⟩
abbrev cX7_countPrimitive : ByteArray := prog_9_method_4_code
def yX7_countPrimitive : MethodName := ⟨RX7, "countPrimitive", "(LIharaZeta$Graph;)V"⟩
abbrev cX7_countPrimitiveSigned : ByteArray := prog_9_method_5_code
def yX7_countPrimitiveSigned : MethodName := ⟨RX7, "countPrimitiveSigned", "(LIharaZeta$Graph;)V"⟩
abbrev cX7_addReturns : ByteArray := prog_9_method_6_code
def yX7_addReturns : MethodName := ⟨RX7, "addReturns", "(LIharaZeta$Graph;Z[J)V"⟩
abbrev cX7_goOn : ByteArray := prog_9_method_7_code
def yX7_goOn : MethodName := ⟨RX7, "goOn", "(LIharaZeta$Graph;Z)V"⟩
def RX8 : String := "IharaZeta"
def TX8 : u_T := fun k => match k with
  | 0 => ("IharaZeta", "graph", "LIharaZeta$Graph;", true)
  | 1 => ("IharaZeta", "draft", "LIharaZeta$Graph;", true)
  | 2 => ("IharaZeta", "history", "LIharaZeta$History;", true)
  | 3 => ("IharaZeta", "text", "LIharaZeta$EdgeText;", true)
  | 4 => ("IharaZeta", "grouping", "LIharaZeta$Grouping;", true)
  | 5 => ("IharaZeta", "counter", "LIharaZeta$WalkCounter;", true)
  | 6 => ("IharaZeta", "search", "LIharaZeta$PrimeSearch;", true)
  | 7 => ("IharaZeta", "edgePolynomial", "LIharaZeta$EdgePolynomial;", true)
  | _ => ("IharaZeta", "vertexPolynomial", "LIharaZeta$VertexPolynomial;", true)
def tyX8 : Nat → FieldType := fun k => match k with
  | 0 => .object "IharaZeta$Graph"
  | 1 => .object "IharaZeta$Graph"
  | 2 => .object "IharaZeta$History"
  | 3 => .object "IharaZeta$EdgeText"
  | 4 => .object "IharaZeta$Grouping"
  | 5 => .object "IharaZeta$WalkCounter"
  | 6 => .object "IharaZeta$PrimeSearch"
  | 7 => .object "IharaZeta$EdgePolynomial"
  | _ => .object "IharaZeta$VertexPolynomial"
abbrev wsX80 : List Cond := u_ws RX8 TX8 9
theorem nmX8 : ∀ a, a < 9 → ∀ b, b < 9 → a ≠ b → (TX8 a).2.1 ≠ (TX8 b).2.1 := by decide +kernel
theorem tyX8_ok : ∀ k, k < 9 → parseFieldDescriptor (TX8 k).2.2.1 = some (tyX8 k) := by decide +kernel
abbrev cX8_init : ByteArray := prog_1_method_1_code
def yX8_init : MethodName := ⟨RX8, "<init>", "()V"⟩
abbrev cX8_configure : ByteArray := prog_1_method_2_code
def yX8_configure : MethodName := ⟨RX8, "configure", "(I)I"⟩
abbrev cX8_addEdge : ByteArray := prog_1_method_3_code
def yX8_addEdge : MethodName := ⟨RX8, "addEdge", "(III)I"⟩
abbrev cX8_removeEdge : ByteArray := prog_1_method_4_code
def yX8_removeEdge : MethodName := ⟨RX8, "removeEdge", "(I)I"⟩
abbrev cX8_flipSign : ByteArray := prog_1_method_5_code
def yX8_flipSign : MethodName := ⟨RX8, "flipSign", "(I)I"⟩
abbrev cX8_appendCharacter : ByteArray := prog_1_method_6_code
def yX8_appendCharacter : MethodName := ⟨RX8, "appendCharacter", "(I)I"⟩
abbrev cX8_clearText : ByteArray := prog_1_method_7_code
def yX8_clearText : MethodName := ⟨RX8, "clearText", "()I"⟩
abbrev cX8_loadGraph : ByteArray := prog_1_method_8_code
def yX8_loadGraph : MethodName := ⟨RX8, "loadGraph", "()I"⟩
abbrev cX8_undo : ByteArray := prog_1_method_9_code
def yX8_undo : MethodName := ⟨RX8, "undo", "()I"⟩
abbrev cX8_vertexCount : ByteArray := prog_1_method_10_code
def yX8_vertexCount : MethodName := ⟨RX8, "vertexCount", "()I"⟩
abbrev cX8_edgeCount : ByteArray := prog_1_method_11_code
def yX8_edgeCount : MethodName := ⟨RX8, "edgeCount", "()I"⟩
abbrev cX8_headOf : ByteArray := prog_1_method_12_code
def yX8_headOf : MethodName := ⟨RX8, "headOf", "(I)I"⟩
abbrev cX8_follows : ByteArray := prog_1_method_13_code
def yX8_follows : MethodName := ⟨RX8, "follows", "(II)I"⟩
abbrev cX8_degree : ByteArray := prog_1_method_14_code
def yX8_degree : MethodName := ⟨RX8, "degree", "(I)I"⟩
abbrev cX8_components : ByteArray := prog_1_method_15_code
def yX8_components : MethodName := ⟨RX8, "components", "()I"⟩
abbrev cX8_rank : ByteArray := prog_1_method_16_code
def yX8_rank : MethodName := ⟨RX8, "rank", "()I"⟩
abbrev cX8_isBalanced : ByteArray := prog_1_method_17_code
def yX8_isBalanced : MethodName := ⟨RX8, "isBalanced", "()I"⟩
abbrev cX8_walks : ByteArray := prog_1_method_18_code
def yX8_walks : MethodName := ⟨RX8, "walks", "(I)J"⟩
abbrev cX8_signedWalks : ByteArray := prog_1_method_19_code
def yX8_signedWalks : MethodName := ⟨RX8, "signedWalks", "(I)J"⟩
abbrev cX8_coverWalks : ByteArray := prog_1_method_20_code
def yX8_coverWalks : MethodName := ⟨RX8, "coverWalks", "(I)J"⟩
abbrev cX8_primes : ByteArray := prog_1_method_21_code
def yX8_primes : MethodName := ⟨RX8, "primes", "(I)J"⟩
abbrev cX8_positivePrimes : ByteArray := prog_1_method_22_code
def yX8_positivePrimes : MethodName := ⟨RX8, "positivePrimes", "(I)J"⟩
abbrev cX8_girth : ByteArray := prog_1_method_23_code
def yX8_girth : MethodName := ⟨RX8, "girth", "()I"⟩
abbrev cX8_period : ByteArray := prog_1_method_24_code
def yX8_period : MethodName := ⟨RX8, "period", "()I"⟩
abbrev cX8_primeEdge : ByteArray := prog_1_method_25_code
def yX8_primeEdge : MethodName := ⟨RX8, "primeEdge", "(III)I"⟩
abbrev cX8_primeSign : ByteArray := prog_1_method_26_code
def yX8_primeSign : MethodName := ⟨RX8, "primeSign", "(II)I"⟩
abbrev cX8_edgeCoefficient : ByteArray := prog_1_method_27_code
def yX8_edgeCoefficient : MethodName := ⟨RX8, "edgeCoefficient", "(I)J"⟩
abbrev cX8_signedCoefficient : ByteArray := prog_1_method_28_code
def yX8_signedCoefficient : MethodName := ⟨RX8, "signedCoefficient", "(I)J"⟩
abbrev cX8_vertexCoefficient : ByteArray := prog_1_method_29_code
def yX8_vertexCoefficient : MethodName := ⟨RX8, "vertexCoefficient", "(I)J"⟩
abbrev cX8_bassCoefficient : ByteArray := prog_1_method_30_code
def yX8_bassCoefficient : MethodName := ⟨RX8, "bassCoefficient", "(I)J"⟩
abbrev cX8_zetaCoefficient : ByteArray := prog_1_method_31_code
def yX8_zetaCoefficient : MethodName := ⟨RX8, "zetaCoefficient", "(I)J"⟩
abbrev cX8_edgeValue : ByteArray := prog_1_method_32_code
def yX8_edgeValue : MethodName := ⟨RX8, "edgeValue", "(I)J"⟩
abbrev cX8_taylorAtOne : ByteArray := prog_1_method_33_code
def yX8_taylorAtOne : MethodName := ⟨RX8, "taylorAtOne", "(I)J"⟩
abbrev cX8_edgeDegree : ByteArray := prog_1_method_34_code
def yX8_edgeDegree : MethodName := ⟨RX8, "edgeDegree", "()I"⟩
abbrev cX8_spanningTrees : ByteArray := prog_1_method_35_code
def yX8_spanningTrees : MethodName := ⟨RX8, "spanningTrees", "()I"⟩
abbrev cX8_makeEdgePolynomial : ByteArray := prog_1_method_36_code
def yX8_makeEdgePolynomial : MethodName := ⟨RX8, "makeEdgePolynomial", "()V"⟩
abbrev cX8_isWalkLength : ByteArray := prog_1_method_37_code
def yX8_isWalkLength : MethodName := ⟨RX8, "isWalkLength", "(I)Z"⟩
abbrev cX8_isPrimeLength : ByteArray := prog_1_method_38_code
def yX8_isPrimeLength : MethodName := ⟨RX8, "isPrimeLength", "(I)Z"⟩
abbrev cX8_isIndex : ByteArray := prog_1_method_39_code
def yX8_isIndex : MethodName := ⟨RX8, "isIndex", "(II)Z"⟩
abbrev cX8_commonDivisor : ByteArray := prog_1_method_40_code
def yX8_commonDivisor : MethodName := ⟨RX8, "commonDivisor", "(II)I"⟩
def RX9 : String := "IharaZetaModel"
def TX9 : u_T := fun k => match k with
  | _ => ("", "", "", false)
def tyX9 : Nat → FieldType := fun k => match k with
  | _ => .int
abbrev wsX90 : List Cond := u_ws RX9 TX9 0
theorem nmX9 : ∀ a, a < 0 → ∀ b, b < 0 → a ≠ b → (TX9 a).2.1 ≠ (TX9 b).2.1 := by decide +kernel
theorem tyX9_ok : ∀ k, k < 0 → parseFieldDescriptor (TX9 k).2.2.1 = some (tyX9 k) := by decide +kernel
def RJ6 : String := "java/lang/Integer"
def TJ6 : u_T := fun k => match k with
  | _ => ("", "", "", false)
def tyJ6 : Nat → FieldType := fun k => match k with
  | _ => .int
abbrev wsJ60 : List Cond := u_ws RJ6 TJ6 0
theorem nmJ6 : ∀ a, a < 0 → ∀ b, b < 0 → a ≠ b → (TJ6 a).2.1 ≠ (TJ6 b).2.1 := by decide +kernel
theorem tyJ6_ok : ∀ k, k < 0 → parseFieldDescriptor (TJ6 k).2.2.1 = some (tyJ6 k) := by decide +kernel
abbrev cJ6_bitCount_0f7a4 : ByteArray := prog_12_method_49_code
def yJ6_bitCount_0f7a4 : MethodName := ⟨RJ6, "bitCount", "(I)I"⟩
def RJ10 : String := "java/lang/System"
def TJ10 : u_T := fun k => match k with
  | _ => ("", "", "", false)
def tyJ10 : Nat → FieldType := fun k => match k with
  | _ => .int
abbrev wsJ100 : List Cond := u_ws RJ10 TJ10 0
theorem nmJ10 : ∀ a, a < 0 → ∀ b, b < 0 → a ≠ b → (TJ10 a).2.1 ≠ (TJ10 b).2.1 := by decide +kernel
theorem tyJ10_ok : ∀ k, k < 0 → parseFieldDescriptor (TJ10 k).2.2.1 = some (tyJ10 k) := by decide +kernel
def RJ7 : String := "java/util/Arrays"
def TJ7 : u_T := fun k => match k with
  | _ => ("", "", "", false)
def tyJ7 : Nat → FieldType := fun k => match k with
  | _ => .int
abbrev wsJ70 : List Cond := u_ws RJ7 TJ7 0
theorem nmJ7 : ∀ a, a < 0 → ∀ b, b < 0 → a ≠ b → (TJ7 a).2.1 ≠ (TJ7 b).2.1 := by decide +kernel
theorem tyJ7_ok : ∀ k, k < 0 → parseFieldDescriptor (TJ7 k).2.2.1 = some (tyJ7 k) := by decide +kernel
abbrev cJ7_fill_d0a16 : ByteArray := prog_14_method_101_code
def yJ7_fill_d0a16 : MethodName := ⟨RJ7, "fill", "([JJ)V"⟩
def RL : String := "IharaZetaLaw"
abbrev cL_part : ByteArray := method_2_code
def yL_part : MethodName := ⟨RL, "part", "(II)I"⟩
abbrev cL_cell : ByteArray := method_3_code
def yL_cell : MethodName := ⟨RL, "cell", "([II)I"⟩
abbrev cL_builds : ByteArray := method_4_code
def yL_builds : MethodName := ⟨RL, "builds", "(LIharaZeta;[I[IIII)Z"⟩
abbrev cL_digest : ByteArray := method_8_code
def yL_digest : MethodName := ⟨RL, "digest", "(LIharaZeta;)J"⟩
abbrev cL_refused : ByteArray := method_9_code
def yL_refused : MethodName := ⟨RL, "refused", "(LIharaZeta;)Z"⟩
abbrev cL_types : ByteArray := method_10_code
def yL_types : MethodName := ⟨RL, "types", "(LIharaZeta;J)I"⟩
abbrev cL_texts : ByteArray := method_11_code
def yL_texts : MethodName := ⟨RL, "texts", "(LIharaZeta;)Z"⟩
abbrev cL_known : ByteArray := method_12_code
def yL_known : MethodName := ⟨RL, "known", "(LIharaZeta;)Z"⟩
abbrev cL_law : ByteArray := code
def yL_law : MethodName := ⟨RL, "law", "([I)Z"⟩
theorem inJ6 : ∀ w ∈ wsJ60, w ∈ lw_tbl := by decide +kernel
theorem inJ10 : ∀ w ∈ wsJ100, w ∈ lw_tbl := by decide +kernel
theorem inJ7 : ∀ w ∈ wsJ70, w ∈ lw_tbl := by decide +kernel
abbrev vwCl : List vw_C := [(RX0, TX0, 2), (RX1, TX1, 6), (RX2, TX2, 5), (RX3, TX3, 2), (RX4, TX4, 2), (RX5, TX5, 2), (RX6, TX6, 2), (RX7, TX7, 6), (RX8, TX8, 9)]
