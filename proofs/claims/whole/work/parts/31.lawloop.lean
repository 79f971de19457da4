/-! THE CLAIM OUT OF ONE WALK OF THE LAW'S BODY. Your part is whole_start (and what it stands on); all else here is the same for every law, but numbers. -/
def R_law : String := "IharaZetaLaw"
def lw_P (b : Addr) (xs : List Int32) (args : Array Value) (s : State) : Prop := args = #[.ref b] ∧ s.IntsAt b xs ∧ xs.length ≤ 2048 ∧ (Jvm.Cond.and given_1 narrow_1).before args s = true
def lw_Q (_ : Array Value) (s : State) (o : Outcome) (t : State) : Prop := o = .returned (some (.int 1)) ∧ Framed s o t [] 600000 7302250
def lw_Z (below : List Frame) (a : Array Value) (s : State) : State → Prop := fun t => ∃ o, t.status = .running ∧ Ended t below o ∧ lw_Q a s o t
/-- the law's own end, with 1 on the stack, nothing written that was there before, its room as the claim has it -/
theorem lw_ret {p : Program} {l : Launch} {e : Env} {s : State} {m : MethodId} {below : List Frame} {meth : Method} {c : Code} {b : Nat} (hx : p.tables.exec = Jvm.exec) (hb : c.code = code) (hr : meth.sig.returnType = ret) (hlocks : meth.locks = false) {pc : Nat} {H : Heap} {ls : Array Slot} (hdg : decode code pc = .ok (.ireturn, 1)) : W p l e room_1 s m #[Value.ref b] below meth c H [] 600000 7302250 (lw_Z below #[Value.ref b] s) (F0 m pc ls [.int 1]) := by
  intro T hT X
  obtain ⟨fs, hret, hrun, hended, hW, hframe⟩ := X.leave (v := some (.int 1)) (hlocks := hlocks) (fun h => by rw [hr] at h; cases h)
  have hmeth' : T.vm.method? m = some meth := X.method'
  refine ⟨T.setFrames fs, ?_, .returned (some (.int 1)), hrun, hended, rfl, ⟨_, rfl⟩, hW, hframe⟩
  jvm_step X.here [X.here.top, hx, hb, hdg, hmeth', hr, ret, narrow_b1]
  (try refine ⟨rfl, ?_⟩); (try refine ⟨rfl, ?_⟩)
  first | (intro acts; rw [hret _ acts rfl rfl rfl]) | rw [hret _ _ rfl rfl rfl]
  exact Steps.refl _
/-- what holds at the law's entry: the machine, the code, the tables' words (any of lw_tbl by 'hts w (by decide +kernel)'), the script of L ints xs at the cell b, what the Statement gives of the start (any of its parts by flat_of_before) -/
def lw_At (p : Program) (s : State) (m : MethodId) (meth : Method) (c : Code) (b L : Nat) (xs : Nat → Int32) : Prop :=
  p.tables.exec = Jvm.exec ∧ c.code = code ∧ meth.sig.returnType = ret ∧ c.maxLocals = 4 ∧ s.vm.findClass R_law = some m.cls ∧ (∀ w ∈ lw_tbl, w.before #[Value.ref b] s = true) ∧ va_X b L xs s s.heap ∧ b < s.heap.size ∧ meth.locks = false ∧ (Jvm.Cond.and given_1 narrow_1).before #[Value.ref b] s = true
theorem nwL_in : ∀ w ∈ nwL, w ∈ lw_tbl := List.forall_mem_cons.mpr ⟨m_65, List.forall_mem_cons.mpr ⟨m_70, List.forall_mem_cons.mpr ⟨m_71, List.forall_mem_cons.mpr ⟨m_72, List.forall_mem_cons.mpr ⟨m_74, List.forall_mem_cons.mpr ⟨m_75, List.forall_mem_cons.mpr ⟨m_76, List.forall_mem_cons.mpr ⟨m_77, List.forall_mem_cons.mpr ⟨m_79, List.forall_mem_cons.mpr ⟨m_81, List.forall_mem_cons.mpr ⟨m_83, List.forall_mem_cons.mpr ⟨m_84, List.forall_mem_cons.mpr ⟨m_85, List.forall_mem_cons.mpr ⟨m_86, List.forall_mem_cons.mpr ⟨m_107, List.forall_mem_cons.mpr ⟨m_109, List.forall_mem_cons.mpr ⟨m_118, List.forall_mem_cons.mpr ⟨m_123, List.forall_mem_cons.mpr ⟨m_144, List.forall_mem_cons.mpr ⟨m_157, List.forall_mem_cons.mpr ⟨m_162, List.forall_mem_cons.mpr ⟨m_164, List.forall_mem_cons.mpr ⟨m_166, List.forall_mem_cons.mpr ⟨m_168, List.forall_mem_cons.mpr ⟨m_187, List.forall_mem_cons.mpr ⟨m_192, List.forall_mem_cons.mpr ⟨m_201, List.forall_mem_cons.mpr ⟨m_206, List.forall_mem_cons.mpr ⟨m_215, List.forall_mem_cons.mpr ⟨m_222, fun _ h => absurd h List.not_mem_nil⟩⟩⟩⟩⟩⟩⟩⟩⟩⟩⟩⟩⟩⟩⟩⟩⟩⟩⟩⟩⟩⟩⟩⟩⟩⟩⟩⟩⟩⟩
theorem kk_of {s : State} {args : Array Value} (hts : ∀ w ∈ lw_tbl, w.before args s = true) : ∃ g : GG, KK g s := by
  obtain ⟨c0, i0, h0⟩ := u_known (C := RX0) (T := TX0) (N := 2) (n := 2) hts (fun w h => tbG_sub (inX0 w h)) (hts _ (tbG_sub m_200))
  obtain ⟨c1, i1, h1⟩ := u_known (C := RX1) (T := TX1) (N := 6) (n := 6) hts (fun w h => tbG_sub (inX1 w h)) (hts _ (tbG_sub m_117))
  obtain ⟨c2, i2, h2⟩ := u_known (C := RX2) (T := TX2) (N := 5) (n := 5) hts (fun w h => tbG_sub (inX2 w h)) (hts _ (tbG_sub m_64))
  obtain ⟨c3, i3, h3⟩ := u_known (C := RX3) (T := TX3) (N := 2) (n := 2) hts (fun w h => tbG_sub (inX3 w h)) (hts _ (tbG_sub m_143))
  obtain ⟨c4, i4, h4⟩ := u_known (C := RX4) (T := TX4) (N := 2) (n := 2) hts (fun w h => tbG_sub (inX4 w h)) (hts _ (tbG_sub m_100))
  obtain ⟨c5, i5, h5⟩ := u_known (C := RX5) (T := TX5) (N := 2) (n := 2) hts (fun w h => tbG_sub (inX5 w h)) (hts _ (tbG_sub m_186))
  obtain ⟨c6, i6, h6⟩ := u_known (C := RX6) (T := TX6) (N := 2) (n := 2) hts (fun w h => tbG_sub (inX6 w h)) (hts _ (tbG_sub m_214))
  obtain ⟨c7, i7, h7⟩ := u_known (C := RX7) (T := TX7) (N := 6) (n := 6) hts (fun w h => tbG_sub (inX7 w h)) (hts _ (tbG_sub m_156))
  obtain ⟨c8, i8, h8⟩ := u_known (C := RX8) (T := TX8) (N := 9) (n := 9) hts (fun w h => tbG_sub (inX8 w h)) (hts _ (tbG_sub m_56))
  obtain ⟨c9, i9, h9⟩ := u_known (C := RX9) (T := TX9) (N := 22) (n := 22) hts (fun w h => tbG_sub (inX9 w h)) (hts _ (tbG_sub m_639))
  obtain ⟨cI, kI, coI, a1, a2, a3⟩ := Cond.arrayClass_spec (hts _ (tbG_sub m_98))
  obtain ⟨cJ, kJ, coJ, b1, b2, b3⟩ := Cond.arrayClass_spec (hts _ (tbG_sub m_184))
  obtain ⟨coG, cG, kG, d1, d2, d3, d4, d5⟩ := Cond.arrayOver_spec (hts _ m_106)
  obtain ⟨coM, cM, kM, e1, e2, e3, e4, e5⟩ := arrayOverA_spec (hts _ m_220)
  refine ⟨(fun k => [c0, c1, c2, c3, c4, c5, c6, c7, c8, c9].getD k c9, fun k => [i0, i1, i2, i3, i4, i5, i6, i7, i8, i9].getD k i9, cI, cJ, cG, cM), ⟨?_, ?_⟩, ?_, ?_, ?_⟩
  · intro k q hq
    match k, hq with
    | 0, hq => cases hq; exact h0
    | 1, hq => cases hq; exact h1
    | 2, hq => cases hq; exact h2
    | 3, hq => cases hq; exact h3
    | 4, hq => cases hq; exact h4
    | 5, hq => cases hq; exact h5
    | 6, hq => cases hq; exact h6
    | 7, hq => cases hq; exact h7
    | 8, hq => cases hq; exact h8
    | 9, hq => cases hq; exact h9
    | k + 10, hq => simp [vwCl] at hq
  · intro k q hq
    match k, hq with
    | 0, hq => cases hq; exact ⟨fun N z => ⟨(fun q hq => by cases hq), kI, a2, coI, a3⟩, a1⟩
    | 1, hq => cases hq; exact ⟨fun N z => ⟨(fun q hq => by cases hq), kJ, b2, coJ, b3⟩, b1⟩
    | 2, hq => cases hq; exact ⟨fun N z => ⟨(fun q hq => by cases hq), kG, d3, coG, d4⟩, kG, coG, d3, d4, d1, d5⟩
    | 3, hq => cases hq; exact ⟨fun N z => ⟨(fun q hq => by cases hq), kM, e3, coM, e4⟩, e5⟩
    | k + 4, hq => simp at hq
  · intro w hw
    exact va_Nw.of (nwL_tab w hw) (hts w (nwL_in w hw))
  · exact va_AO.of (hts _ m_106)
  · exact va_AOA.of (hts _ m_220)
theorem ts_out34 {x : Int32} (h0 : ¬ x = nI 0) (h1 : ¬ x = nI 1) (h2 : ¬ x = nI 2) (h3 : ¬ x = nI 3) (h4 : ¬ x = nI 4) (h5 : ¬ x = nI 5) (h6 : ¬ x = nI 6) (h7 : ¬ x = nI 7) (h8 : ¬ x = nI 8) (h9 : ¬ x = nI 9) (h10 : ¬ x = nI 10) (h11 : ¬ x = nI 11) (h12 : ¬ x = nI 12) (h13 : ¬ x = nI 13) (h14 : ¬ x = nI 14) (h15 : ¬ x = nI 15) (h16 : ¬ x = nI 16) (h17 : ¬ x = nI 17) (h18 : ¬ x = nI 18) (h19 : ¬ x = nI 19) (h20 : ¬ x = nI 20) (h21 : ¬ x = nI 21) (h22 : ¬ x = nI 22) (h23 : ¬ x = nI 23) (h24 : ¬ x = nI 24) (h25 : ¬ x = nI 25) (h26 : ¬ x = nI 26) (h27 : ¬ x = nI 27) (h28 : ¬ x = nI 28) (h29 : ¬ x = nI 29) (h30 : ¬ x = nI 30) (h31 : ¬ x = nI 31) (h32 : ¬ x = nI 32) (h33 : ¬ x = nI 33) : x.toInt < 0 ∨ 33 < x.toInt := by
  have e0 : x.toInt ≠ 0 := fun h => h0 (Int32.toInt_inj.mp (h.trans (by decide)))
  have e1 : x.toInt ≠ 1 := fun h => h1 (Int32.toInt_inj.mp (h.trans (by decide)))
  have e2 : x.toInt ≠ 2 := fun h => h2 (Int32.toInt_inj.mp (h.trans (by decide)))
  have e3 : x.toInt ≠ 3 := fun h => h3 (Int32.toInt_inj.mp (h.trans (by decide)))
  have e4 : x.toInt ≠ 4 := fun h => h4 (Int32.toInt_inj.mp (h.trans (by decide)))
  have e5 : x.toInt ≠ 5 := fun h => h5 (Int32.toInt_inj.mp (h.trans (by decide)))
  have e6 : x.toInt ≠ 6 := fun h => h6 (Int32.toInt_inj.mp (h.trans (by decide)))
  have e7 : x.toInt ≠ 7 := fun h => h7 (Int32.toInt_inj.mp (h.trans (by decide)))
  have e8 : x.toInt ≠ 8 := fun h => h8 (Int32.toInt_inj.mp (h.trans (by decide)))
  have e9 : x.toInt ≠ 9 := fun h => h9 (Int32.toInt_inj.mp (h.trans (by decide)))
  have e10 : x.toInt ≠ 10 := fun h => h10 (Int32.toInt_inj.mp (h.trans (by decide)))
  have e11 : x.toInt ≠ 11 := fun h => h11 (Int32.toInt_inj.mp (h.trans (by decide)))
  have e12 : x.toInt ≠ 12 := fun h => h12 (Int32.toInt_inj.mp (h.trans (by decide)))
  have e13 : x.toInt ≠ 13 := fun h => h13 (Int32.toInt_inj.mp (h.trans (by decide)))
  have e14 : x.toInt ≠ 14 := fun h => h14 (Int32.toInt_inj.mp (h.trans (by decide)))
  have e15 : x.toInt ≠ 15 := fun h => h15 (Int32.toInt_inj.mp (h.trans (by decide)))
  have e16 : x.toInt ≠ 16 := fun h => h16 (Int32.toInt_inj.mp (h.trans (by decide)))
  have e17 : x.toInt ≠ 17 := fun h => h17 (Int32.toInt_inj.mp (h.trans (by decide)))
  have e18 : x.toInt ≠ 18 := fun h => h18 (Int32.toInt_inj.mp (h.trans (by decide)))
  have e19 : x.toInt ≠ 19 := fun h => h19 (Int32.toInt_inj.mp (h.trans (by decide)))
  have e20 : x.toInt ≠ 20 := fun h => h20 (Int32.toInt_inj.mp (h.trans (by decide)))
  have e21 : x.toInt ≠ 21 := fun h => h21 (Int32.toInt_inj.mp (h.trans (by decide)))
  have e22 : x.toInt ≠ 22 := fun h => h22 (Int32.toInt_inj.mp (h.trans (by decide)))
  have e23 : x.toInt ≠ 23 := fun h => h23 (Int32.toInt_inj.mp (h.trans (by decide)))
  have e24 : x.toInt ≠ 24 := fun h => h24 (Int32.toInt_inj.mp (h.trans (by decide)))
  have e25 : x.toInt ≠ 25 := fun h => h25 (Int32.toInt_inj.mp (h.trans (by decide)))
  have e26 : x.toInt ≠ 26 := fun h => h26 (Int32.toInt_inj.mp (h.trans (by decide)))
  have e27 : x.toInt ≠ 27 := fun h => h27 (Int32.toInt_inj.mp (h.trans (by decide)))
  have e28 : x.toInt ≠ 28 := fun h => h28 (Int32.toInt_inj.mp (h.trans (by decide)))
  have e29 : x.toInt ≠ 29 := fun h => h29 (Int32.toInt_inj.mp (h.trans (by decide)))
  have e30 : x.toInt ≠ 30 := fun h => h30 (Int32.toInt_inj.mp (h.trans (by decide)))
  have e31 : x.toInt ≠ 31 := fun h => h31 (Int32.toInt_inj.mp (h.trans (by decide)))
  have e32 : x.toInt ≠ 32 := fun h => h32 (Int32.toInt_inj.mp (h.trans (by decide)))
  have e33 : x.toInt ≠ 33 := fun h => h33 (Int32.toInt_inj.mp (h.trans (by decide)))
  omega
theorem law_end {i Lx : Nat} (hL : Lx ≤ 2048) (hi : i ≤ Lx + 4) (h : ¬ nI Lx - nI 4 < nI i) : i + 4 ≤ Lx := by
  have h1 : (nI Lx - nI 4).toInt = (Lx : Int) - 4 := pk_sub_toInt (by omega) (by omega)
  have h2 : (nI i).toInt = i := nI_toInt (by omega)
  rw [Int32.lt_iff_toInt_lt, h1, h2] at h
  omega
set_option maxHeartbeats 8000000 in
set_option maxRecDepth 100000 in
theorem law_loop (pr0 : Pr_configure) (pr1 : Pr_addEdge) (pr2 : Pr_removeEdge) (pr3 : Pr_flipSign) (pr4 : Pr_appendCharacter) (pr5 : Pr_clearText) (pr6 : Pr_loadGraph) (pr7 : Pr_undo) (pr8 : Pr_vertexCount) (pr9 : Pr_edgeCount) (pr10 : Pr_headOf) (pr11 : Pr_follows) (pr12 : Pr_degree) (pr13 : Pr_components) (pr14 : Pr_rank) (pr15 : Pr_isBalanced) (pr16 : Pr_walks) (pr17 : Pr_signedWalks) (pr18 : Pr_coverWalks) (pr19 : Pr_primes) (pr20 : Pr_positivePrimes) (pr21 : Pr_girth) (pr22 : Pr_period) (pr23 : Pr_primeEdge) (pr24 : Pr_primeSign) (pr25 : Pr_edgeCoefficient) (pr26 : Pr_signedCoefficient) (pr27 : Pr_vertexCoefficient) (pr28 : Pr_bassCoefficient) (pr29 : Pr_zetaCoefficient) (pr30 : Pr_edgeValue) (pr31 : Pr_taylorAtOne) (pr32 : Pr_edgeDegree) (pr33 : Pr_spanningTrees) {g : GG} {p : Program} {l : Launch} {e : Env} {s : State} {m : MethodId} {below : List Frame} {meth : Method} {c : Code} {b Lx : Nat} {xs : Nat → Int32} (lc : LC g p s m c b Lx xs) (hr : meth.sig.returnType = ret) (hlocks : meth.locks = false) {hx hm : Nat} {α β : Nat → Nat} (hL : Lx ≤ 2048) : ∀ (n i : Nat), i ≤ Lx + 4 → Lx + 8 ≤ i + n → ∀ (I : Nat → Nat → Int32) (J : Nat → Nat → Int64) (K : Nat → Int32) (L : List Nat) (C : Nat → GC) (Mm : Nat → Nat → Int64) (H : Heap) (locs : List Loc) (ls : Array Slot), Inv I K L C → va_P (gD g) vwCl (WW g hx α hm β I J K L C Mm) H → va_D (fun q => s.heap.size ≤ q) (WW g hx α hm β I J K L C Mm) → va_S (fun q => s.heap.size ≤ q) s.heap H locs → lv_has ls 4 [(3, .int (nI i)), (2, .ref hm), (1, .ref hx), (0, .ref b)] → W p l e room_1 s m #[Value.ref b] below meth c H locs 146 3014 (lw_Z below #[Value.ref b] s) (F0 m 18 ls []) := by
  obtain ⟨cx, hX, hbl⟩ := id lc
  have hx0 := cx.1
  have hb := cx.2.1
  have hbA : ¬ (fun q : Nat => s.heap.size ≤ q) b := Nat.not_le.mpr hbl
  intro n
  induction n with
  | zero => intro i h1 h2; exact absurd h2 (by omega)
  | succ n ih =>
    intro i h1 h2 I J K L C Mm H locs ls hI hP hD hS hl
    refine lv_iload_n hx0 hb dL_law_18 rfl (lv_at hl 0 rfl) ?_
    refine lv_aload_n hx0 hb dL_law_19 rfl (lv_at hl 3 rfl) ?_
    refine va_slen hx0 hb hX hbl hbA hS dL_law_20 ?_
    refine lv_iconst (v := (nI 4)) hx0 hb dL_law_21 (by decide) ?_
    refine lv_isub hx0 hb dL_law_22 ?_
    refine lv_icmp_gt (tgt := 924) hx0 hb dL_law_23 (by decide) (fun c_ => ?_) (fun c_ => ?_)
    · refine lv_iconst (v := 1) hx0 hb dL_law_924 (by decide) ?_
      refine va_forget (fun q hq => hS.2.2 q hq) ?_
      refine W.widen (k := 600000) (n := 7302250) (Nat.le_of_ble_eq_true rfl) (Nat.le_of_ble_eq_true rfl) ?_
      exact lw_ret hx0 hb hr hlocks dL_law_925
    · have hi : i + 4 ≤ Lx := law_end hL h1 c_
      have hin : vp_in (nI i) Lx := vp_in_nI (by omega) (by omega)
      refine lv_aload_n hx0 hb dL_law_26 rfl (lv_at hl 3 rfl) ?_
      refine lv_iload_n hx0 hb dL_law_27 rfl (lv_at hl 0 rfl) ?_
      refine va_sld hx0 hb hX hbl hbA hS hin dL_law_28 ?_
      refine lv_bipush (v := (nI 63)) hx0 hb dL_law_29 (by decide) ?_
      refine lv_iand hx0 hb dL_law_31 ?_
      refine lv_topi (fun v ev => ?_)
      have kk : ∀ (I : Nat → Nat → Int32) (J : Nat → Nat → Int64) (K : Nat → Int32) (L : List Nat) (C : Nat → GC) (Mm : Nat → Nat → Int64) (H : Heap) (locs : List Loc), Inv I K L C → va_P (gD g) vwCl (WW g hx α hm β I J K L C Mm) H → va_D (fun q => s.heap.size ≤ q) (WW g hx α hm β I J K L C Mm) → va_S (fun q => s.heap.size ≤ q) s.heap H locs → W p l e room_1 s m #[Value.ref b] below meth c H locs 146 3014 (lw_Z below #[Value.ref b] s) (F0 m 918 ls []) := by
        intro I J K L C Mm H locs hI hP hD hS
        refine lv_iinc (v := nI (i + 4)) (lv' := [(3, .int (nI (i + 4))), (2, .ref hm), (1, .ref hx), (0, .ref b)]) hx0 hb dL_law_918 hl (k := 0) rfl ((congrArg (fun q => nI i + q) (show Int32.ofInt 4 = nI 4 by decide)).trans (nI_add i 4)) (by decide) rfl (fun ls hl => ?_)
        refine lv_goto (tgt := 18) hx0 hb dL_law_921 (by decide) ?_
        exact ih (i + 4) (by omega) (by omega) I J K L C Mm H locs ls hI hP hD hS hl
      by_cases c0 : v = nI 0
      · refine lv_tableIn (x := v) (off := 152) (tgt := 184) hx0 hb dL_law_32 (by rw [c0]; decide) (by rw [c0]; decide) (by rw [c0]; rfl) (by decide) ?_
        exact law_configure pr0 lc hL hi hI hP hD hS hl kk
      by_cases c1 : v = nI 1
      · refine lv_tableIn (x := v) (off := 175) (tgt := 207) hx0 hb dL_law_32 (by rw [c1]; decide) (by rw [c1]; decide) (by rw [c1]; rfl) (by decide) ?_
        exact law_addEdge pr1 lc hL hi hI hP hD hS hl kk
      by_cases c2 : v = nI 2
      · refine lv_tableIn (x := v) (off := 218) (tgt := 250) hx0 hb dL_law_32 (by rw [c2]; decide) (by rw [c2]; decide) (by rw [c2]; rfl) (by decide) ?_
        exact law_removeEdge pr2 lc hL hi hI hP hD hS hl kk
      by_cases c3 : v = nI 3
      · refine lv_tableIn (x := v) (off := 241) (tgt := 273) hx0 hb dL_law_32 (by rw [c3]; decide) (by rw [c3]; decide) (by rw [c3]; rfl) (by decide) ?_
        exact law_flipSign pr3 lc hL hi hI hP hD hS hl kk
      by_cases c4 : v = nI 4
      · refine lv_tableIn (x := v) (off := 264) (tgt := 296) hx0 hb dL_law_32 (by rw [c4]; decide) (by rw [c4]; decide) (by rw [c4]; rfl) (by decide) ?_
        exact law_appendCharacter pr4 lc hL hi hI hP hD hS hl kk
      by_cases c5 : v = nI 5
      · refine lv_tableIn (x := v) (off := 287) (tgt := 319) hx0 hb dL_law_32 (by rw [c5]; decide) (by rw [c5]; decide) (by rw [c5]; rfl) (by decide) ?_
        exact law_clearText pr5 lc hL hi hI hP hD hS hl kk
      by_cases c6 : v = nI 6
      · refine lv_tableIn (x := v) (off := 300) (tgt := 332) hx0 hb dL_law_32 (by rw [c6]; decide) (by rw [c6]; decide) (by rw [c6]; rfl) (by decide) ?_
        exact law_loadGraph pr6 lc hL hi hI hP hD hS hl kk
      by_cases c7 : v = nI 7
      · refine lv_tableIn (x := v) (off := 313) (tgt := 345) hx0 hb dL_law_32 (by rw [c7]; decide) (by rw [c7]; decide) (by rw [c7]; rfl) (by decide) ?_
        exact law_undo pr7 lc hL hi hI hP hD hS hl kk
      by_cases c8 : v = nI 8
      · refine lv_tableIn (x := v) (off := 326) (tgt := 358) hx0 hb dL_law_32 (by rw [c8]; decide) (by rw [c8]; decide) (by rw [c8]; rfl) (by decide) ?_
        exact law_vertexCount pr8 lc hL hi hI hP hD hS hl kk
      by_cases c9 : v = nI 9
      · refine lv_tableIn (x := v) (off := 339) (tgt := 371) hx0 hb dL_law_32 (by rw [c9]; decide) (by rw [c9]; decide) (by rw [c9]; rfl) (by decide) ?_
        exact law_edgeCount pr9 lc hL hi hI hP hD hS hl kk
      by_cases c10 : v = nI 10
      · refine lv_tableIn (x := v) (off := 352) (tgt := 384) hx0 hb dL_law_32 (by rw [c10]; decide) (by rw [c10]; decide) (by rw [c10]; rfl) (by decide) ?_
        exact law_headOf pr10 lc hL hi hI hP hD hS hl kk
      by_cases c11 : v = nI 11
      · refine lv_tableIn (x := v) (off := 375) (tgt := 407) hx0 hb dL_law_32 (by rw [c11]; decide) (by rw [c11]; decide) (by rw [c11]; rfl) (by decide) ?_
        exact law_follows pr11 lc hL hi hI hP hD hS hl kk
      by_cases c12 : v = nI 12
      · refine lv_tableIn (x := v) (off := 408) (tgt := 440) hx0 hb dL_law_32 (by rw [c12]; decide) (by rw [c12]; decide) (by rw [c12]; rfl) (by decide) ?_
        exact law_degree pr12 lc hL hi hI hP hD hS hl kk
      by_cases c13 : v = nI 13
      · refine lv_tableIn (x := v) (off := 431) (tgt := 463) hx0 hb dL_law_32 (by rw [c13]; decide) (by rw [c13]; decide) (by rw [c13]; rfl) (by decide) ?_
        exact law_components pr13 lc hL hi hI hP hD hS hl kk
      by_cases c14 : v = nI 14
      · refine lv_tableIn (x := v) (off := 444) (tgt := 476) hx0 hb dL_law_32 (by rw [c14]; decide) (by rw [c14]; decide) (by rw [c14]; rfl) (by decide) ?_
        exact law_rank pr14 lc hL hi hI hP hD hS hl kk
      by_cases c15 : v = nI 15
      · refine lv_tableIn (x := v) (off := 457) (tgt := 489) hx0 hb dL_law_32 (by rw [c15]; decide) (by rw [c15]; decide) (by rw [c15]; rfl) (by decide) ?_
        exact law_isBalanced pr15 lc hL hi hI hP hD hS hl kk
      by_cases c16 : v = nI 16
      · refine lv_tableIn (x := v) (off := 470) (tgt := 502) hx0 hb dL_law_32 (by rw [c16]; decide) (by rw [c16]; decide) (by rw [c16]; rfl) (by decide) ?_
        exact law_walks pr16 lc hL hi hI hP hD hS hl kk
      by_cases c17 : v = nI 17
      · refine lv_tableIn (x := v) (off := 494) (tgt := 526) hx0 hb dL_law_32 (by rw [c17]; decide) (by rw [c17]; decide) (by rw [c17]; rfl) (by decide) ?_
        exact law_signedWalks pr17 lc hL hi hI hP hD hS hl kk
      by_cases c18 : v = nI 18
      · refine lv_tableIn (x := v) (off := 518) (tgt := 550) hx0 hb dL_law_32 (by rw [c18]; decide) (by rw [c18]; decide) (by rw [c18]; rfl) (by decide) ?_
        exact law_coverWalks pr18 lc hL hi hI hP hD hS hl kk
      by_cases c19 : v = nI 19
      · refine lv_tableIn (x := v) (off := 542) (tgt := 574) hx0 hb dL_law_32 (by rw [c19]; decide) (by rw [c19]; decide) (by rw [c19]; rfl) (by decide) ?_
        exact law_primes pr19 lc hL hi hI hP hD hS hl kk
      by_cases c20 : v = nI 20
      · refine lv_tableIn (x := v) (off := 566) (tgt := 598) hx0 hb dL_law_32 (by rw [c20]; decide) (by rw [c20]; decide) (by rw [c20]; rfl) (by decide) ?_
        exact law_positivePrimes pr20 lc hL hi hI hP hD hS hl kk
      by_cases c21 : v = nI 21
      · refine lv_tableIn (x := v) (off := 590) (tgt := 622) hx0 hb dL_law_32 (by rw [c21]; decide) (by rw [c21]; decide) (by rw [c21]; rfl) (by decide) ?_
        exact law_girth pr21 lc hL hi hI hP hD hS hl kk
      by_cases c22 : v = nI 22
      · refine lv_tableIn (x := v) (off := 603) (tgt := 635) hx0 hb dL_law_32 (by rw [c22]; decide) (by rw [c22]; decide) (by rw [c22]; rfl) (by decide) ?_
        exact law_period pr22 lc hL hi hI hP hD hS hl kk
      by_cases c23 : v = nI 23
      · refine lv_tableIn (x := v) (off := 616) (tgt := 648) hx0 hb dL_law_32 (by rw [c23]; decide) (by rw [c23]; decide) (by rw [c23]; rfl) (by decide) ?_
        exact law_primeEdge pr23 lc hL hi hI hP hD hS hl kk
      by_cases c24 : v = nI 24
      · refine lv_tableIn (x := v) (off := 659) (tgt := 691) hx0 hb dL_law_32 (by rw [c24]; decide) (by rw [c24]; decide) (by rw [c24]; rfl) (by decide) ?_
        exact law_primeSign pr24 lc hL hi hI hP hD hS hl kk
      by_cases c25 : v = nI 25
      · refine lv_tableIn (x := v) (off := 692) (tgt := 724) hx0 hb dL_law_32 (by rw [c25]; decide) (by rw [c25]; decide) (by rw [c25]; rfl) (by decide) ?_
        exact law_edgeCoefficient pr25 lc hL hi hI hP hD hS hl kk
      by_cases c26 : v = nI 26
      · refine lv_tableIn (x := v) (off := 716) (tgt := 748) hx0 hb dL_law_32 (by rw [c26]; decide) (by rw [c26]; decide) (by rw [c26]; rfl) (by decide) ?_
        exact law_signedCoefficient pr26 lc hL hi hI hP hD hS hl kk
      by_cases c27 : v = nI 27
      · refine lv_tableIn (x := v) (off := 740) (tgt := 772) hx0 hb dL_law_32 (by rw [c27]; decide) (by rw [c27]; decide) (by rw [c27]; rfl) (by decide) ?_
        exact law_vertexCoefficient pr27 lc hL hi hI hP hD hS hl kk
      by_cases c28 : v = nI 28
      · refine lv_tableIn (x := v) (off := 764) (tgt := 796) hx0 hb dL_law_32 (by rw [c28]; decide) (by rw [c28]; decide) (by rw [c28]; rfl) (by decide) ?_
        exact law_bassCoefficient pr28 lc hL hi hI hP hD hS hl kk
      by_cases c29 : v = nI 29
      · refine lv_tableIn (x := v) (off := 788) (tgt := 820) hx0 hb dL_law_32 (by rw [c29]; decide) (by rw [c29]; decide) (by rw [c29]; rfl) (by decide) ?_
        exact law_zetaCoefficient pr29 lc hL hi hI hP hD hS hl kk
      by_cases c30 : v = nI 30
      · refine lv_tableIn (x := v) (off := 812) (tgt := 844) hx0 hb dL_law_32 (by rw [c30]; decide) (by rw [c30]; decide) (by rw [c30]; rfl) (by decide) ?_
        exact law_edgeValue pr30 lc hL hi hI hP hD hS hl kk
      by_cases c31 : v = nI 31
      · refine lv_tableIn (x := v) (off := 836) (tgt := 868) hx0 hb dL_law_32 (by rw [c31]; decide) (by rw [c31]; decide) (by rw [c31]; rfl) (by decide) ?_
        exact law_taylorAtOne pr31 lc hL hi hI hP hD hS hl kk
      by_cases c32 : v = nI 32
      · refine lv_tableIn (x := v) (off := 860) (tgt := 892) hx0 hb dL_law_32 (by rw [c32]; decide) (by rw [c32]; decide) (by rw [c32]; rfl) (by decide) ?_
        exact law_edgeDegree pr32 lc hL hi hI hP hD hS hl kk
      by_cases c33 : v = nI 33
      · refine lv_tableIn (x := v) (off := 873) (tgt := 905) hx0 hb dL_law_32 (by rw [c33]; decide) (by rw [c33]; decide) (by rw [c33]; rfl) (by decide) ?_
        exact law_spanningTrees pr33 lc hL hi hI hP hD hS hl kk
      refine lv_tableOut (x := v) (tgt := 918) hx0 hb dL_law_32 (ts_out34 c0 c1 c2 c3 c4 c5 c6 c7 c8 c9 c10 c11 c12 c13 c14 c15 c16 c17 c18 c19 c20 c21 c22 c23 c24 c25 c26 c27 c28 c29 c30 c31 c32 c33) (by decide) ?_
      exact kk I J K L C Mm H locs hI hP hD hS
def K0 : Nat → Int32 := fun k => bif k == 0 then nI 4 else bif k == 2 then nI 4 else nI 0
def I0 : Nat → Nat → Int32 := fun k => bif k == 10 then upd (fun _ => 0) (nI 0).toNatClampNeg (nI 4) else fun _ => 0
theorem inv_0 : Inv I0 K0 [0, 1, 2, 3, 4, 5, 6, 7] C0 := by
  refine ⟨⟨4, 0, by decide, by decide, by decide, rfl, rfl, rfl, rfl, fun k h => absurd h (Nat.not_lt_zero k)⟩, ⟨0, by decide, rfl, rfl, rfl, by decide, by decide, fun k j h => absurd h (Nat.not_lt_zero k)⟩, ⟨0, by decide, rfl, rfl, fun k h => absurd h (Nat.not_lt_zero k)⟩⟩
set_option maxHeartbeats 8000000 in
set_option maxRecDepth 100000 in
theorem whole_open (pr0 : Pr_configure) (pr1 : Pr_addEdge) (pr2 : Pr_removeEdge) (pr3 : Pr_flipSign) (pr4 : Pr_appendCharacter) (pr5 : Pr_clearText) (pr6 : Pr_loadGraph) (pr7 : Pr_undo) (pr8 : Pr_vertexCount) (pr9 : Pr_edgeCount) (pr10 : Pr_headOf) (pr11 : Pr_follows) (pr12 : Pr_degree) (pr13 : Pr_components) (pr14 : Pr_rank) (pr15 : Pr_isBalanced) (pr16 : Pr_walks) (pr17 : Pr_signedWalks) (pr18 : Pr_coverWalks) (pr19 : Pr_primes) (pr20 : Pr_positivePrimes) (pr21 : Pr_girth) (pr22 : Pr_period) (pr23 : Pr_primeEdge) (pr24 : Pr_primeSign) (pr25 : Pr_edgeCoefficient) (pr26 : Pr_signedCoefficient) (pr27 : Pr_vertexCoefficient) (pr28 : Pr_bassCoefficient) (pr29 : Pr_zetaCoefficient) (pr30 : Pr_edgeValue) (pr31 : Pr_taylorAtOne) (pr32 : Pr_edgeDegree) (pr33 : Pr_spanningTrees) {p : Program} {e : Env} {s : State} {m : MethodId} {below : List Frame} {meth : Method} {c : Code} (l : Launch) {b L : Nat} {xs : Nat → Int32} (hL : L ≤ 2048) (hC0 : lw_At p s m meth c b L xs) : W p l e room_1 s m #[Value.ref b] below meth c s.heap [] 0 0 (lw_Z below #[Value.ref b] s) (entryFrame m ([Value.ref b] : List Value).toArray 4) := by
  obtain ⟨hx0, hb, hr, hml, hown, hts, hX, hbl, hlocks, hgv⟩ := id hC0
  obtain ⟨g, hK⟩ := kk_of hts
  have cx : Cx g p s m #[.ref b] c cL_law RL 4 := ⟨hx0, hb, hml, hown, fun w hw => hts w (tbG_sub hw), hK⟩
  have lc : LC g p s m c b L xs := ⟨cx, hX, hbl⟩
  have hA : ∀ q : Nat, s.heap.size ≤ q → (fun q : Nat => s.heap.size ≤ q) q := fun _ h => h
  have hS : va_S (fun q : Nat => s.heap.size ≤ q) s.heap s.heap [] := va_S.rf
  have hP : va_P (gD g) vwCl ([] ++ []) s.heap := fun k q h => by simp at h
  have hD : va_D (fun q : Nat => s.heap.size ≤ q) ([] ++ []) := ⟨fun i j p q h => by simp at h, fun k q h => by simp at h⟩
  have hl := lv_entry ([.ref b]) (n := 4) (Nat.le_of_ble_eq_true rfl)
  rw [lg_entry_eq]
  generalize (lg_sl ([.ref b]) ++ List.replicate (4 - (lg_sl ([.ref b])).length) Slot.unset).toArray = ls at hl ⊢
  have hl : lv_has ls 4 [(0, .ref b)] := hl
  refine w_newO cx (P := []) (G := []) hP hD hS hA 8 (fs := [.null, .null, .null, .null, .null, .null, .null, .null, .null]) rfl tyX8 tyX8_ok (fun j hj => by rcases (show j = 0 ∨ j = 1 ∨ j = 2 ∨ j = 3 ∨ j = 4 ∨ j = 5 ∨ j = 6 ∨ j = 7 ∨ j = 8 by omega) with rfl | rfl | rfl | rfl | rfl | rfl | rfl | rfl | rfl <;> rfl) m_55 m_56 m_42 (Nat.le_of_ble_eq_true rfl) (Nat.le_of_ble_eq_true rfl) dL_law_0 (fun hx H hP hD hS => ?_)
  refine lv_dup hx0 hb dL_law_3 rfl ?_
  refine w_callN cx (Pr := []) (x := ob hx 8 [.null, .null, .null, .null, .null, .null, .null, .null, .null]) (G := []) hP hD hS hA (c_X8_init g l hx) yq_X8_init rfl m_57 m_58 m_42 m_59 ⟨Nat.le_of_ble_eq_true rfl, Nat.le_of_ble_eq_true rfl⟩ hl.1 (Nat.le_of_ble_eq_true rfl) dL_law_4 ⟨Nat.le_of_ble_eq_true rfl, Nat.le_of_ble_eq_true rfl⟩ (fun α H locs hP hD hS => ?_)
  refine lv_astore_n (lv' := [(1, .ref hx), (0, .ref b)]) hx0 hb dL_law_7 rfl hl (by decide) rfl (fun ls hl => ?_)
  have eP : (([] ++ B_X8 g hx α) ++ []) = [ob hx 8 [.ref (α 0), .ref (α 4), .ref (α 8), .ref (α 9), .ref (α 11), .ref (α 14), .ref (α 21), .ref (α 23), .ref (α 26)], ob (α 0) 2 [.int (nI 4), .int (nI 0), .ref (α 1), .ref (α 2), .ref (α 3)], aI g (α 1) 9 (fun _ => 0), aI g (α 2) 9 (fun _ => 0), aI g (α 3) 9 (fun _ => 0), ob (α 4) 2 [.int (nI 4), .int (nI 0), .ref (α 5), .ref (α 6), .ref (α 7)], aI g (α 5) 9 (fun _ => 0), aI g (α 6) 9 (fun _ => 0), aI g (α 7) 9 (fun _ => 0), ob (α 8) 4 [.int (nI 0), .ref (α 29)], ob (α 9) 1 [.int (nI 0), .ref (α 10), .int (nI 0), .int (nI 0), .int (nI 0), .int (nI 0)], aI g (α 10) 60 (fun _ => 0), ob (α 11) 3 [.ref (α 12), .ref (α 13)], aI g (α 12) 6 (fun _ => 0), aI g (α 13) 6 (fun _ => 0), ob (α 14) 7 [.ref (α 15), .ref (α 16), .ref (α 17), .ref (α 18), .ref (α 19), .ref (α 20)], aJ g (α 15) 19 (fun _ => 0), aJ g (α 16) 19 (fun _ => 0), aJ g (α 17) 19 (fun _ => 0), aJ g (α 18) 19 (fun _ => 0), aJ g (α 19) 18 (fun _ => 0), aJ g (α 20) 6 (fun _ => 0), ob (α 21) 5 [.ref (α 22), .int (nI 0)], aI g (α 22) 5 (fun _ => 0), ob (α 23) 0 [.ref (α 24), .ref (α 25)], aJ g (α 24) 19 (fun _ => 0), aJ g (α 25) 19 (fun _ => 0), ob (α 26) 6 [.ref (α 27), .ref (α 28)], aJ g (α 27) 19 (fun _ => 0), aM g (α 28) 64 (mref (fun i => α (i + 62)))] ++ (WG g α [0, 1, 2, 3, 4, 5, 6, 7] C0 ++ WR g α (fun _ _ => 0)) := by rw [List.append_nil, List.nil_append]; rfl
  rw [eP] at hP hD
  refine w_newO cx (P := [ob hx 8 [.ref (α 0), .ref (α 4), .ref (α 8), .ref (α 9), .ref (α 11), .ref (α 14), .ref (α 21), .ref (α 23), .ref (α 26)], ob (α 0) 2 [.int (nI 4), .int (nI 0), .ref (α 1), .ref (α 2), .ref (α 3)], aI g (α 1) 9 (fun _ => 0), aI g (α 2) 9 (fun _ => 0), aI g (α 3) 9 (fun _ => 0), ob (α 4) 2 [.int (nI 4), .int (nI 0), .ref (α 5), .ref (α 6), .ref (α 7)], aI g (α 5) 9 (fun _ => 0), aI g (α 6) 9 (fun _ => 0), aI g (α 7) 9 (fun _ => 0), ob (α 8) 4 [.int (nI 0), .ref (α 29)], ob (α 9) 1 [.int (nI 0), .ref (α 10), .int (nI 0), .int (nI 0), .int (nI 0), .int (nI 0)], aI g (α 10) 60 (fun _ => 0), ob (α 11) 3 [.ref (α 12), .ref (α 13)], aI g (α 12) 6 (fun _ => 0), aI g (α 13) 6 (fun _ => 0), ob (α 14) 7 [.ref (α 15), .ref (α 16), .ref (α 17), .ref (α 18), .ref (α 19), .ref (α 20)], aJ g (α 15) 19 (fun _ => 0), aJ g (α 16) 19 (fun _ => 0), aJ g (α 17) 19 (fun _ => 0), aJ g (α 18) 19 (fun _ => 0), aJ g (α 19) 18 (fun _ => 0), aJ g (α 20) 6 (fun _ => 0), ob (α 21) 5 [.ref (α 22), .int (nI 0)], aI g (α 22) 5 (fun _ => 0), ob (α 23) 0 [.ref (α 24), .ref (α 25)], aJ g (α 24) 19 (fun _ => 0), aJ g (α 25) 19 (fun _ => 0), ob (α 26) 6 [.ref (α 27), .ref (α 28)], aJ g (α 27) 19 (fun _ => 0), aM g (α 28) 64 (mref (fun i => α (i + 62)))]) (G := WG g α [0, 1, 2, 3, 4, 5, 6, 7] C0 ++ WR g α (fun _ _ => 0)) hP hD hS hA 9 (fs := [.null, .null, .null, .int (nI 0), .null, .int (nI 0), .int (nI 0), .null, .int (nI 0), .null, .null, .null, .null, .null, .null, .null, .null, .null, .null, .null, .null, .null]) rfl tyX9 tyX9_ok (fun j hj => by rcases (show j = 0 ∨ j = 1 ∨ j = 2 ∨ j = 3 ∨ j = 4 ∨ j = 5 ∨ j = 6 ∨ j = 7 ∨ j = 8 ∨ j = 9 ∨ j = 10 ∨ j = 11 ∨ j = 12 ∨ j = 13 ∨ j = 14 ∨ j = 15 ∨ j = 16 ∨ j = 17 ∨ j = 18 ∨ j = 19 ∨ j = 20 ∨ j = 21 by omega) with rfl | rfl | rfl | rfl | rfl | rfl | rfl | rfl | rfl | rfl | rfl | rfl | rfl | rfl | rfl | rfl | rfl | rfl | rfl | rfl | rfl | rfl <;> rfl) m_638 m_639 m_51 (Nat.le_of_ble_eq_true rfl) (Nat.le_of_ble_eq_true rfl) dL_law_8 (fun hm H hP hD hS => ?_)
  refine lv_dup hx0 hb dL_law_11 rfl ?_
  refine w_callN cx (Pr := [ob hx 8 [.ref (α 0), .ref (α 4), .ref (α 8), .ref (α 9), .ref (α 11), .ref (α 14), .ref (α 21), .ref (α 23), .ref (α 26)], ob (α 0) 2 [.int (nI 4), .int (nI 0), .ref (α 1), .ref (α 2), .ref (α 3)], aI g (α 1) 9 (fun _ => 0), aI g (α 2) 9 (fun _ => 0), aI g (α 3) 9 (fun _ => 0), ob (α 4) 2 [.int (nI 4), .int (nI 0), .ref (α 5), .ref (α 6), .ref (α 7)], aI g (α 5) 9 (fun _ => 0), aI g (α 6) 9 (fun _ => 0), aI g (α 7) 9 (fun _ => 0), ob (α 8) 4 [.int (nI 0), .ref (α 29)], ob (α 9) 1 [.int (nI 0), .ref (α 10), .int (nI 0), .int (nI 0), .int (nI 0), .int (nI 0)], aI g (α 10) 60 (fun _ => 0), ob (α 11) 3 [.ref (α 12), .ref (α 13)], aI g (α 12) 6 (fun _ => 0), aI g (α 13) 6 (fun _ => 0), ob (α 14) 7 [.ref (α 15), .ref (α 16), .ref (α 17), .ref (α 18), .ref (α 19), .ref (α 20)], aJ g (α 15) 19 (fun _ => 0), aJ g (α 16) 19 (fun _ => 0), aJ g (α 17) 19 (fun _ => 0), aJ g (α 18) 19 (fun _ => 0), aJ g (α 19) 18 (fun _ => 0), aJ g (α 20) 6 (fun _ => 0), ob (α 21) 5 [.ref (α 22), .int (nI 0)], aI g (α 22) 5 (fun _ => 0), ob (α 23) 0 [.ref (α 24), .ref (α 25)], aJ g (α 24) 19 (fun _ => 0), aJ g (α 25) 19 (fun _ => 0), ob (α 26) 6 [.ref (α 27), .ref (α 28)], aJ g (α 27) 19 (fun _ => 0), aM g (α 28) 64 (mref (fun i => α (i + 62)))]) (x := ob hm 9 [.null, .null, .null, .int (nI 0), .null, .int (nI 0), .int (nI 0), .null, .int (nI 0), .null, .null, .null, .null, .null, .null, .null, .null, .null, .null, .null, .null, .null]) (G := WG g α [0, 1, 2, 3, 4, 5, 6, 7] C0 ++ WR g α (fun _ _ => 0)) hP hD hS hA (c_X9_init g l hm) yq_X9_init rfl m_640 m_641 m_51 m_642 ⟨Nat.le_of_ble_eq_true rfl, Nat.le_of_ble_eq_true rfl⟩ hl.1 (Nat.le_of_ble_eq_true rfl) dL_law_12 ⟨Nat.le_of_ble_eq_true rfl, Nat.le_of_ble_eq_true rfl⟩ (fun β H locs hP hD hS => ?_)
  refine lv_astore_n (lv' := [(2, .ref hm), (1, .ref hx), (0, .ref b)]) hx0 hb dL_law_15 rfl hl (by decide) rfl (fun ls hl => ?_)
  refine lv_iconst (v := (nI 0)) hx0 hb dL_law_16 (by decide) ?_
  refine lv_istore_n (lv' := [(3, .int (nI 0)), (2, .ref hm), (1, .ref hx), (0, .ref b)]) hx0 hb dL_law_17 rfl hl (by decide) rfl (fun ls hl => ?_)
  refine law_loop pr0 pr1 pr2 pr3 pr4 pr5 pr6 pr7 pr8 pr9 pr10 pr11 pr12 pr13 pr14 pr15 pr16 pr17 pr18 pr19 pr20 pr21 pr22 pr23 pr24 pr25 pr26 pr27 pr28 pr29 pr30 pr31 pr32 pr33 lc hr hlocks (α := α) (β := β) hL (L + 8) 0 (Nat.zero_le _) (by omega) I0 (fun _ _ => 0) K0 [0, 1, 2, 3, 4, 5, 6, 7] C0 (fun _ _ => 0) H locs ls inv_0 ?_ ?_ hS hl
  · exact hP
  · exact hD
