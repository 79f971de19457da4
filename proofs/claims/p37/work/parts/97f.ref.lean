/-! what is refused changes nothing -/
theorem rng_hi {n : Nat} (hn : n < 2 ^ 31) : rng (nI n) n = nI 0 := by
  unfold rng
  rw [nI_toInt hn, if_neg (by omega)]
theorem rng_m1 {n : Nat} : rng (nI 4294967295) n = nI 0 := by
  unfold rng
  rw [show (nI 4294967295).toInt = -1 by decide, if_neg (by omega)]
set_option maxHeartbeats 4000000 in
set_option maxRecDepth 100000 in
theorem rf_97 {A : AG} {hs : List AG} {t : List Nat} {S : QS} {d : Int64} (h : RS A hs t S) (hd : DG A d) : ∃ S', t_L_refused_97 (nI A.2.length) (nI A.1) d S = some (nI 1, S') ∧ RS A hs t S' := by
  obtain ⟨v1, v2, v3, v4⟩ := h.VG
  obtain ⟨S0, e0, h0⟩ := s_removeEdge_no h (rng_hi (by omega))
  obtain ⟨S1, e1, h1⟩ := s_removeEdge_no h0 rng_m1
  obtain ⟨S2, e2, h2⟩ := s_flipSign_no h1 (rng_hi (by omega))
  obtain ⟨S3, e3, h3⟩ := s_flipSign_no h2 rng_m1
  obtain ⟨S4, e4, h4⟩ := s_append_no h3 (p := nI 4294967295) (Or.inl (by decide))
  obtain ⟨S5, e5, h5⟩ := s_append_no h4 (p := nI 256) (Or.inr (by decide))
  obtain ⟨S6, e6, h6⟩ := qb_headOf h5 rng_m1
  obtain ⟨S7, e7, h7⟩ := qb_headOf h6 (p := nI 2 * nI A.2.length) (by rw [pk_mul]; exact rng_hi (by omega))
  obtain ⟨S8, e8, h8⟩ := qb_follows h7 (p1 := nI 0) (p2 := nI 2 * nI A.2.length) (Or.inr (by rw [pk_mul]; exact rng_hi (by omega)))
  obtain ⟨S9, e9, h9⟩ := qb_follows h8 (p1 := nI 4294967295) (p2 := nI 0) (Or.inl rng_m1)
  obtain ⟨S10, e10, h10⟩ := qb_degree h9 rng_m1
  obtain ⟨S11, e11, h11⟩ := qb_degree h10 (rng_hi (by omega))
  obtain ⟨S12, e12, h12⟩ := qb_walks h11 (p := nI 0) (by decide)
  obtain ⟨S13, e13, h13⟩ := qb_walks h12 (p := nI 19) (by decide)
  obtain ⟨S14, e14, h14⟩ := qb_signedWalks h13 (p := nI 0) (by decide)
  obtain ⟨S15, e15, h15⟩ := qb_coverWalks h14 (p := nI 19) (by decide)
  obtain ⟨S16, e16, h16⟩ := qb_primes h15 (p := nI 0) (by decide)
  obtain ⟨S17, e17, h17⟩ := qb_positivePrimes h16 (p := nI 19) (by decide)
  obtain ⟨S18, e18, h18⟩ := qb_primeEdge h17 (p1 := nI 0) (p2 := nI 0) (p3 := nI 0) (Or.inl (by decide))
  obtain ⟨S19, e19, h19⟩ := qb_primeEdge h18 (p1 := nI 6) (p2 := nI 0) (p3 := nI 0) (Or.inl (by decide))
  obtain ⟨S20, e20, h20⟩ := qb_primeEdge h19 (p1 := nI 3) (p2 := nI 0) (p3 := nI 3) (Or.inr ⟨by decide, Or.inr (Or.inr (by decide))⟩)
  obtain ⟨S21, e21, h21⟩ := qb_primeEdge h20 (p1 := nI 3) (p2 := nI 0) (p3 := nI 4294967295) (Or.inr ⟨by decide, Or.inr (Or.inl (by decide))⟩)
  obtain ⟨S22, e22, h22⟩ := qb_primeEdge h21 (p1 := nI 3) (p2 := nI 4294967295) (p3 := nI 0) (Or.inr ⟨by decide, Or.inl (by decide)⟩)
  obtain ⟨S23, e23, h23⟩ := qb_primeSign h22 (p1 := nI 0) (p2 := nI 0) (Or.inl (by decide))
  obtain ⟨S24, e24, h24⟩ := qb_primeSign h23 (p1 := nI 6) (p2 := nI 0) (Or.inl (by decide))
  obtain ⟨S25, e25, h25⟩ := qb_primeSign h24 (p1 := nI 3) (p2 := nI 4294967295) (Or.inr ⟨by decide, by decide⟩)
  obtain ⟨S26, e26, h26⟩ := qb_one h25
  obtain ⟨S27, e27, h27⟩ := qb_edgeCoefficient h26 (p := nI 4294967295) (by decide)
  obtain ⟨S28, e28, h28⟩ := qb_edgeCoefficient h27 (p := nI 19) (by decide)
  obtain ⟨S29, e29, h29⟩ := qb_signedCoefficient h28 (p := nI 19) (by decide)
  obtain ⟨S30, e30, h30⟩ := qb_vertexCoefficient h29 (p := nI 13) (by decide)
  obtain ⟨S31, e31, h31⟩ := qb_bassCoefficient h30 (p := nI 4294967295) (by decide)
  obtain ⟨S32, e32, h32⟩ := qb_zetaCoefficient h31 (p := nI 13) (by decide)
  obtain ⟨S33, e33, h33⟩ := qb_edgeValue h32 (p := nI 3) (Or.inr (by decide))
  obtain ⟨S34, e34, h34⟩ := qb_edgeValue h33 (p := nI 4294967293) (Or.inl (by decide))
  obtain ⟨S35, e35, h35⟩ := qb_taylorAtOne h34 (p := nI 19) (by decide)
  obtain ⟨S36, e36, h36⟩ := hd _ _ _ h35
  refine ⟨S36, ?_, h36⟩
  unfold t_L_refused_97
  rw [bd_t e0]
  rw [if_pos (show (nI 4294967295 : Int32) = nI 4294967295 from rfl)]
  rw [bd_t e1]
  rw [if_pos (show (nI 4294967295 : Int32) = nI 4294967295 from rfl)]
  rw [bd_t e2]
  rw [if_pos (show (nI 0 : Int32) = 0 by decide)]
  rw [bd_t e3]
  rw [if_pos (show (nI 0 : Int32) = 0 by decide)]
  rw [bd_t e4]
  rw [if_pos (show (nI 4294967295 : Int32) = nI 4294967295 from rfl)]
  rw [bd_t e5]
  rw [if_pos (show (nI 4294967295 : Int32) = nI 4294967295 from rfl)]
  rw [bd_t e6]
  rw [if_pos (show (nI 4294967295 : Int32) = nI 4294967295 from rfl)]
  rw [bd_t e7]
  rw [if_pos (show (nI 4294967295 : Int32) = nI 4294967295 from rfl)]
  rw [bd_t e8]
  rw [if_pos (show (nI 4294967295 : Int32) = nI 4294967295 from rfl)]
  rw [bd_t e9]
  rw [if_pos (show (nI 4294967295 : Int32) = nI 4294967295 from rfl)]
  rw [bd_t e10]
  rw [if_pos (show (nI 4294967295 : Int32) = nI 4294967295 from rfl)]
  rw [bd_t e11]
  rw [if_pos (show (nI 4294967295 : Int32) = nI 4294967295 from rfl)]
  rw [bd_t e12]
  rw [nm_s]
  rw [if_pos (show lg_cmp (-9223372036854775808 : Int64) (-9223372036854775808 : Int64) = 0 from cmp_eq rfl)]
  rw [bd_t e13]
  rw [nm_s]
  rw [if_pos (show lg_cmp (-9223372036854775808 : Int64) (-9223372036854775808 : Int64) = 0 from cmp_eq rfl)]
  rw [bd_t e14]
  rw [nm_s]
  rw [if_pos (show lg_cmp (-9223372036854775808 : Int64) (-9223372036854775808 : Int64) = 0 from cmp_eq rfl)]
  rw [bd_t e15]
  rw [nm_s]
  rw [if_pos (show lg_cmp (-9223372036854775808 : Int64) (-9223372036854775808 : Int64) = 0 from cmp_eq rfl)]
  rw [bd_t e16]
  rw [nm_s]
  rw [if_pos (show lg_cmp (-9223372036854775808 : Int64) (-9223372036854775808 : Int64) = 0 from cmp_eq rfl)]
  rw [bd_t e17]
  rw [nm_s]
  rw [if_pos (show lg_cmp (-9223372036854775808 : Int64) (-9223372036854775808 : Int64) = 0 from cmp_eq rfl)]
  rw [bd_t e18]
  rw [if_pos (show (nI 4294967295 : Int32) = nI 4294967295 from rfl)]
  rw [bd_t e19]
  rw [if_pos (show (nI 4294967295 : Int32) = nI 4294967295 from rfl)]
  rw [bd_t e20]
  rw [if_pos (show (nI 4294967295 : Int32) = nI 4294967295 from rfl)]
  rw [bd_t e21]
  rw [if_pos (show (nI 4294967295 : Int32) = nI 4294967295 from rfl)]
  rw [bd_t e22]
  rw [if_pos (show (nI 4294967295 : Int32) = nI 4294967295 from rfl)]
  rw [bd_t e23]
  rw [if_pos (show (nI 0 : Int32) = 0 by decide)]
  rw [bd_t e24]
  rw [if_pos (show (nI 0 : Int32) = 0 by decide)]
  rw [bd_t e25]
  rw [if_pos (show (nI 0 : Int32) = 0 by decide)]
  rw [bd_t e26]
  rw [if_pos (show (nI 4294967287 : Int32) = nI 4294967287 from rfl)]
  rw [bd_t e27]
  rw [nm_s]
  rw [if_pos (show lg_cmp (-9223372036854775808 : Int64) (-9223372036854775808 : Int64) = 0 from cmp_eq rfl)]
  rw [bd_t e28]
  rw [nm_s]
  rw [if_pos (show lg_cmp (-9223372036854775808 : Int64) (-9223372036854775808 : Int64) = 0 from cmp_eq rfl)]
  rw [bd_t e29]
  rw [nm_s]
  rw [if_pos (show lg_cmp (-9223372036854775808 : Int64) (-9223372036854775808 : Int64) = 0 from cmp_eq rfl)]
  rw [bd_t e30]
  rw [nm_s]
  rw [if_pos (show lg_cmp (-9223372036854775808 : Int64) (-9223372036854775808 : Int64) = 0 from cmp_eq rfl)]
  rw [bd_t e31]
  rw [nm_s]
  rw [if_pos (show lg_cmp (-9223372036854775808 : Int64) (-9223372036854775808 : Int64) = 0 from cmp_eq rfl)]
  rw [bd_t e32]
  rw [nm_s]
  rw [if_pos (show lg_cmp (-9223372036854775808 : Int64) (-9223372036854775808 : Int64) = 0 from cmp_eq rfl)]
  rw [bd_t e33]
  rw [nm_s]
  rw [if_pos (show lg_cmp (-9223372036854775808 : Int64) (-9223372036854775808 : Int64) = 0 from cmp_eq rfl)]
  rw [bd_t e34]
  rw [nm_s]
  rw [if_pos (show lg_cmp (-9223372036854775808 : Int64) (-9223372036854775808 : Int64) = 0 from cmp_eq rfl)]
  rw [bd_t e35]
  rw [nm_s]
  rw [if_pos (show lg_cmp (-9223372036854775808 : Int64) (-9223372036854775808 : Int64) = 0 from cmp_eq rfl)]
  rw [bd_t e36]
  rw [if_pos (show lg_cmp d d = 0 from cmp_eq rfl)]
set_option maxHeartbeats 4000000 in
set_option maxRecDepth 100000 in
theorem p_refused {A : AG} {hs : List AG} {t : List Nat} {S : QS} (h : RS A hs t S) : ∃ S', f_L_refused S = some (nI 1, S') ∧ RS A hs t S' := by
  obtain ⟨v1, v2, v3, v4⟩ := h.VG
  obtain ⟨d, hd⟩ := dg_ex h.VG
  obtain ⟨S0, e0, h0⟩ := hd _ _ _ h
  obtain ⟨S1, e1, h1⟩ := o_vc h0
  obtain ⟨S2, e2, h2⟩ := o_ec h1
  obtain ⟨S3, e3, h3⟩ := s_configure_no h2 (p := nI 0) (Or.inl (by decide))
  obtain ⟨S4, e4, h4⟩ := s_configure_no h3 (p := nI 7) (Or.inr (by decide))
  obtain ⟨S5, e5, h5⟩ := s_addEdge_no h4 (p1 := nI 4294967295) (p2 := nI 0) (p3 := nI 1) (Or.inl rng_m1)
  obtain ⟨S6, e6, h6⟩ := s_addEdge_no h5 (p1 := nI 0) (p2 := nI A.1) (p3 := nI 1) (Or.inr (Or.inl (rng_hi (by omega))))
  obtain ⟨S7, e7, h7⟩ := s_addEdge_no h6 (p1 := nI 0) (p2 := nI 0) (p3 := nI 1) (Or.inr (Or.inr (Or.inl rfl)))
  by_cases c : nI A.1 ≤ nI 1
  · obtain ⟨S', k1, k2⟩ := rf_97 h7 hd
    refine ⟨S', ?_, k2⟩
    unfold f_L_refused
    rw [bd_t e0]
    rw [bd_t e1]
    rw [bd_t e2]
    rw [bd_t e3]
    rw [if_pos (show (nI 4294967295 : Int32) = nI 4294967295 from rfl)]
    rw [bd_t e4]
    rw [if_pos (show (nI 4294967295 : Int32) = nI 4294967295 from rfl)]
    rw [bd_t e5]
    rw [if_pos (show (nI 4294967295 : Int32) = nI 4294967295 from rfl)]
    rw [bd_t e6]
    rw [if_pos (show (nI 4294967295 : Int32) = nI 4294967295 from rfl)]
    rw [bd_t e7]
    rw [if_pos (show (nI 4294967295 : Int32) = nI 4294967295 from rfl)]
    rw [if_pos c]
    exact k1
  · obtain ⟨Sa, ea, ha⟩ := s_addEdge_no h7 (p1 := nI 0) (p2 := nI 1) (p3 := nI 0) (Or.inr (Or.inr (Or.inr ⟨by decide, by decide⟩)))
    obtain ⟨Sb, eb, hb⟩ := s_addEdge_no ha (p1 := nI 1) (p2 := nI 0) (p3 := nI 2) (Or.inr (Or.inr (Or.inr ⟨by decide, by decide⟩)))
    obtain ⟨S', k1, k2⟩ := rf_97 hb hd
    refine ⟨S', ?_, k2⟩
    unfold f_L_refused
    rw [bd_t e0]
    rw [bd_t e1]
    rw [bd_t e2]
    rw [bd_t e3]
    rw [if_pos (show (nI 4294967295 : Int32) = nI 4294967295 from rfl)]
    rw [bd_t e4]
    rw [if_pos (show (nI 4294967295 : Int32) = nI 4294967295 from rfl)]
    rw [bd_t e5]
    rw [if_pos (show (nI 4294967295 : Int32) = nI 4294967295 from rfl)]
    rw [bd_t e6]
    rw [if_pos (show (nI 4294967295 : Int32) = nI 4294967295 from rfl)]
    rw [bd_t e7]
    rw [if_pos (show (nI 4294967295 : Int32) = nI 4294967295 from rfl)]
    rw [if_neg c, bd_t ea, if_pos (show (nI 4294967295 : Int32) = nI 4294967295 from rfl), bd_t eb, if_pos (show (nI 4294967295 : Int32) = nI 4294967295 from rfl)]
    exact k1
