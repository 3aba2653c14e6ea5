/-! part 22: told, owes, seed, tear, write, judge -/
theorem told_0 (d : Nat) (M : Mem) (hI : Inv M) : PairOK (d + 5) 74 126 [.ref 0, .int 0] [.ref 40, .int 0] M := by
  intro K hK
  obtain ⟨n, nc, np, B, hY, hL, ⟨px, u, -, -, -, u1, u2, -⟩, -, -, ⟨tc, -, t1, t2, -⟩, ⟨hc, -, -, -, -, -, k1, k2, -⟩, ⟨bc, -, b1, b2, -⟩, -⟩ := id hI
  obtain ⟨⟨g1, g2, g3, g4⟩, ⟨h13, h4⟩, ⟨h12, h3⟩, ⟨h14, h5⟩, ⟨h11, h2⟩, ⟨h0, -⟩, ⟨h1, ⟨R, hR, h10, hR0⟩, -⟩, hC, hD, -⟩ := hY
  obtain ⟨l1, l2, l3, ⟨l48, l49, l50⟩, -⟩ := hL
  simp (maxSteps := 400000) (disch := first | omega | assumption) only [e74_0, e74_1, e126_0, e126_1, h0, kv, rv, tv, lnv, lv0, clv, clr_i, clr_r, clr_n, clr_l, true_and, and_true, Option.toList_some, Option.toList_none, List.cons_append, List.nil_append, bI_0, bI_1, bI_or, ↓reduceIte, or_true, true_or, eq_self, irv, i0_add, not_true_eq_false, not_false_eq_true, Bool.false_eq_true, and_false, false_and, or_false, false_or, reduceCtorEq, nev, ngv, nc_or, in64, l64v, ite_not, ite_notP, up2_upr, upr_upr, upr_at, nI_cl, nI_ir, iav, nI_1, nI_mul6, nI_6mul, nI_lt2, nI_eq2, nI_neg, nI_m1, ltv, nI_z, upd_at, upd_off, upr_off, usv, upd_upd]
  exact hK _ _ hI
theorem told_1 (d : Nat) (M : Mem) (hI : Inv M) : PairOK (d + 5) 74 126 [.ref 0, .int 1] [.ref 40, .int 1] M := by
  intro K hK
  obtain ⟨n, nc, np, B, hY, hL, ⟨px, u, -, -, -, u1, u2, -⟩, -, -, ⟨tc, -, t1, t2, -⟩, ⟨hc, -, -, -, -, -, k1, k2, -⟩, ⟨bc, -, b1, b2, -⟩, -⟩ := id hI
  obtain ⟨⟨g1, g2, g3, g4⟩, ⟨h13, h4⟩, ⟨h12, h3⟩, ⟨h14, h5⟩, ⟨h11, h2⟩, ⟨h0, -⟩, ⟨h1, ⟨R, hR, h10, hR0⟩, -⟩, hC, hD, -⟩ := hY
  obtain ⟨l1, l2, l3, ⟨l48, l49, l50⟩, -⟩ := hL
  have z0 : (1 : Int32) = 0 ↔ False := ⟨fun h => absurd h (by decide), False.elim⟩
  simp (maxSteps := 400000) (disch := first | omega | assumption) only [e74_0, e74_1, e126_0, e126_1, h1, z0, kv, rv, tv, lnv, lv0, clv, clr_i, clr_r, clr_n, clr_l, true_and, and_true, Option.toList_some, Option.toList_none, List.cons_append, List.nil_append, bI_0, bI_1, bI_or, ↓reduceIte, or_true, true_or, eq_self, irv, i0_add, not_true_eq_false, not_false_eq_true, Bool.false_eq_true, and_false, false_and, or_false, false_or, reduceCtorEq, nev, ngv, nc_or, in64, l64v, ite_not, ite_notP, up2_upr, upr_upr, upr_at, nI_cl, nI_ir, iav, nI_1, nI_mul6, nI_6mul, nI_lt2, nI_eq2, nI_neg, nI_m1, ltv, nI_z, upd_at, upd_off, upr_off, usv, upd_upd]
  exact hK _ _ hI
theorem told_2 (d : Nat) (M : Mem) (hI : Inv M) : PairOK (d + 5) 74 126 [.ref 0, .int 2] [.ref 40, .int 2] M := by
  intro K hK
  obtain ⟨n, nc, np, B, hY, hL, ⟨px, u, -, -, -, u1, u2, -⟩, -, -, ⟨tc, -, t1, t2, -⟩, ⟨hc, -, -, -, -, -, k1, k2, -⟩, ⟨bc, -, b1, b2, -⟩, -⟩ := id hI
  obtain ⟨⟨g1, g2, g3, g4⟩, ⟨h13, h4⟩, ⟨h12, h3⟩, ⟨h14, h5⟩, ⟨h11, h2⟩, ⟨h0, -⟩, ⟨h1, ⟨R, hR, h10, hR0⟩, -⟩, hC, hD, -⟩ := hY
  obtain ⟨l1, l2, l3, ⟨l48, l49, l50⟩, -⟩ := hL
  have z0 : (2 : Int32) = 0 ↔ False := ⟨fun h => absurd h (by decide), False.elim⟩
  have z1 : (2 : Int32) = 1 ↔ False := ⟨fun h => absurd h (by decide), False.elim⟩
  simp (maxSteps := 400000) (disch := first | omega | assumption) only [e74_0, e74_1, e126_0, e126_1, h11, h2, z0, z1, kv, rv, tv, lnv, lv0, clv, clr_i, clr_r, clr_n, clr_l, true_and, and_true, Option.toList_some, Option.toList_none, List.cons_append, List.nil_append, bI_0, bI_1, bI_or, ↓reduceIte, or_true, true_or, eq_self, irv, i0_add, not_true_eq_false, not_false_eq_true, Bool.false_eq_true, and_false, false_and, or_false, false_or, reduceCtorEq, nev, ngv, nc_or, in64, l64v, ite_not, ite_notP, up2_upr, upr_upr, upr_at, nI_cl, nI_ir, iav, nI_1, nI_mul6, nI_6mul, nI_lt2, nI_eq2, nI_neg, nI_m1, ltv, nI_z, upd_at, upd_off, upr_off, usv, upd_upd]
  exact hK _ _ hI
theorem told_3 (d : Nat) (M : Mem) (hI : Inv M) : PairOK (d + 5) 74 126 [.ref 0, .int 3] [.ref 40, .int 3] M := by
  intro K hK
  obtain ⟨n, nc, np, B, hY, hL, ⟨px, u, -, -, -, u1, u2, -⟩, -, -, ⟨tc, -, t1, t2, -⟩, ⟨hc, -, -, -, -, -, k1, k2, -⟩, ⟨bc, -, b1, b2, -⟩, -⟩ := id hI
  obtain ⟨⟨g1, g2, g3, g4⟩, ⟨h13, h4⟩, ⟨h12, h3⟩, ⟨h14, h5⟩, ⟨h11, h2⟩, ⟨h0, -⟩, ⟨h1, ⟨R, hR, h10, hR0⟩, -⟩, hC, hD, -⟩ := hY
  obtain ⟨l1, l2, l3, ⟨l48, l49, l50⟩, -⟩ := hL
  have z0 : (3 : Int32) = 0 ↔ False := ⟨fun h => absurd h (by decide), False.elim⟩
  have z1 : (3 : Int32) = 1 ↔ False := ⟨fun h => absurd h (by decide), False.elim⟩
  have z2 : (3 : Int32) = 2 ↔ False := ⟨fun h => absurd h (by decide), False.elim⟩
  simp (maxSteps := 400000) (disch := first | omega | assumption) only [e74_0, e74_1, e126_0, e126_1, h12, h3, z0, z1, z2, kv, rv, tv, lnv, lv0, clv, clr_i, clr_r, clr_n, clr_l, true_and, and_true, Option.toList_some, Option.toList_none, List.cons_append, List.nil_append, bI_0, bI_1, bI_or, ↓reduceIte, or_true, true_or, eq_self, irv, i0_add, not_true_eq_false, not_false_eq_true, Bool.false_eq_true, and_false, false_and, or_false, false_or, reduceCtorEq, nev, ngv, nc_or, in64, l64v, ite_not, ite_notP, up2_upr, upr_upr, upr_at, nI_cl, nI_ir, iav, nI_1, nI_mul6, nI_6mul, nI_lt2, nI_eq2, nI_neg, nI_m1, ltv, nI_z, upd_at, upd_off, upr_off, usv, upd_upd]
  exact hK _ _ hI
theorem told_4 (d : Nat) (M : Mem) (hI : Inv M) : PairOK (d + 5) 74 126 [.ref 0, .int 4] [.ref 40, .int 4] M := by
  intro K hK
  obtain ⟨n, nc, np, B, hY, hL, ⟨px, u, -, -, -, u1, u2, -⟩, -, -, ⟨tc, -, t1, t2, -⟩, ⟨hc, -, -, -, -, -, k1, k2, -⟩, ⟨bc, -, b1, b2, -⟩, -⟩ := id hI
  obtain ⟨⟨g1, g2, g3, g4⟩, ⟨h13, h4⟩, ⟨h12, h3⟩, ⟨h14, h5⟩, ⟨h11, h2⟩, ⟨h0, -⟩, ⟨h1, ⟨R, hR, h10, hR0⟩, -⟩, hC, hD, -⟩ := hY
  obtain ⟨l1, l2, l3, ⟨l48, l49, l50⟩, -⟩ := hL
  have z0 : (4 : Int32) = 0 ↔ False := ⟨fun h => absurd h (by decide), False.elim⟩
  have z1 : (4 : Int32) = 1 ↔ False := ⟨fun h => absurd h (by decide), False.elim⟩
  have z2 : (4 : Int32) = 2 ↔ False := ⟨fun h => absurd h (by decide), False.elim⟩
  have z3 : (4 : Int32) = 3 ↔ False := ⟨fun h => absurd h (by decide), False.elim⟩
  simp (maxSteps := 400000) (disch := first | omega | assumption) only [e74_0, e74_1, e126_0, e126_1, h13, h4, z0, z1, z2, z3, kv, rv, tv, lnv, lv0, clv, clr_i, clr_r, clr_n, clr_l, true_and, and_true, Option.toList_some, Option.toList_none, List.cons_append, List.nil_append, bI_0, bI_1, bI_or, ↓reduceIte, or_true, true_or, eq_self, irv, i0_add, not_true_eq_false, not_false_eq_true, Bool.false_eq_true, and_false, false_and, or_false, false_or, reduceCtorEq, nev, ngv, nc_or, in64, l64v, ite_not, ite_notP, up2_upr, upr_upr, upr_at, nI_cl, nI_ir, iav, nI_1, nI_mul6, nI_6mul, nI_lt2, nI_eq2, nI_neg, nI_m1, ltv, nI_z, upd_at, upd_off, upr_off, usv, upd_upd]
  exact hK _ _ hI
theorem told_5 (d : Nat) (M : Mem) (hI : Inv M) : PairOK (d + 5) 74 126 [.ref 0, .int 5] [.ref 40, .int 5] M := by
  intro K hK
  obtain ⟨n, nc, np, B, hY, hL, ⟨px, u, -, -, -, u1, u2, -⟩, -, -, ⟨tc, -, t1, t2, -⟩, ⟨hc, -, -, -, -, -, k1, k2, -⟩, ⟨bc, -, b1, b2, -⟩, -⟩ := id hI
  obtain ⟨⟨g1, g2, g3, g4⟩, ⟨h13, h4⟩, ⟨h12, h3⟩, ⟨h14, h5⟩, ⟨h11, h2⟩, ⟨h0, -⟩, ⟨h1, ⟨R, hR, h10, hR0⟩, -⟩, hC, hD, -⟩ := hY
  obtain ⟨l1, l2, l3, ⟨l48, l49, l50⟩, -⟩ := hL
  have z0 : (5 : Int32) = 0 ↔ False := ⟨fun h => absurd h (by decide), False.elim⟩
  have z1 : (5 : Int32) = 1 ↔ False := ⟨fun h => absurd h (by decide), False.elim⟩
  have z2 : (5 : Int32) = 2 ↔ False := ⟨fun h => absurd h (by decide), False.elim⟩
  have z3 : (5 : Int32) = 3 ↔ False := ⟨fun h => absurd h (by decide), False.elim⟩
  have z4 : (5 : Int32) = 4 ↔ False := ⟨fun h => absurd h (by decide), False.elim⟩
  simp (maxSteps := 400000) (disch := first | omega | assumption) only [e74_0, e74_1, e126_0, e126_1, h14, h5, z0, z1, z2, z3, z4, kv, rv, tv, lnv, lv0, clv, clr_i, clr_r, clr_n, clr_l, true_and, and_true, Option.toList_some, Option.toList_none, List.cons_append, List.nil_append, bI_0, bI_1, bI_or, ↓reduceIte, or_true, true_or, eq_self, irv, i0_add, not_true_eq_false, not_false_eq_true, Bool.false_eq_true, and_false, false_and, or_false, false_or, reduceCtorEq, nev, ngv, nc_or, in64, l64v, ite_not, ite_notP, up2_upr, upr_upr, upr_at, nI_cl, nI_ir, iav, nI_1, nI_mul6, nI_6mul, nI_lt2, nI_eq2, nI_neg, nI_m1, ltv, nI_z, upd_at, upd_off, upr_off, usv, upd_upd]
  exact hK _ _ hI
theorem told_6 (d : Nat) (M : Mem) (hI : Inv M) : PairOK (d + 5) 74 126 [.ref 0, .int 6] [.ref 40, .int 6] M := by
  intro K hK
  obtain ⟨n, nc, np, B, hY, hL, ⟨px, u, -, -, -, u1, u2, -⟩, -, -, ⟨tc, -, t1, t2, -⟩, ⟨hc, -, -, -, -, -, k1, k2, -⟩, ⟨bc, -, b1, b2, -⟩, -⟩ := id hI
  obtain ⟨⟨g1, g2, g3, g4⟩, ⟨h13, h4⟩, ⟨h12, h3⟩, ⟨h14, h5⟩, ⟨h11, h2⟩, ⟨h0, -⟩, ⟨h1, ⟨R, hR, h10, hR0⟩, -⟩, hC, hD, -⟩ := hY
  obtain ⟨l1, l2, l3, ⟨l48, l49, l50⟩, -⟩ := hL
  have z0 : (6 : Int32) = 0 ↔ False := ⟨fun h => absurd h (by decide), False.elim⟩
  have z1 : (6 : Int32) = 1 ↔ False := ⟨fun h => absurd h (by decide), False.elim⟩
  have z2 : (6 : Int32) = 2 ↔ False := ⟨fun h => absurd h (by decide), False.elim⟩
  have z3 : (6 : Int32) = 3 ↔ False := ⟨fun h => absurd h (by decide), False.elim⟩
  have z4 : (6 : Int32) = 4 ↔ False := ⟨fun h => absurd h (by decide), False.elim⟩
  have z5 : (6 : Int32) = 5 ↔ False := ⟨fun h => absurd h (by decide), False.elim⟩
  simp (maxSteps := 400000) (disch := first | omega | assumption) only [e74_0, e74_1, e126_0, e126_1, t1, t2, z0, z1, z2, z3, z4, z5, kv, rv, tv, lnv, lv0, clv, clr_i, clr_r, clr_n, clr_l, true_and, and_true, Option.toList_some, Option.toList_none, List.cons_append, List.nil_append, bI_0, bI_1, bI_or, ↓reduceIte, or_true, true_or, eq_self, irv, i0_add, not_true_eq_false, not_false_eq_true, Bool.false_eq_true, and_false, false_and, or_false, false_or, reduceCtorEq, nev, ngv, nc_or, in64, l64v, ite_not, ite_notP, up2_upr, upr_upr, upr_at, nI_cl, nI_ir, iav, nI_1, nI_mul6, nI_6mul, nI_lt2, nI_eq2, nI_neg, nI_m1, ltv, nI_z, upd_at, upd_off, upr_off, usv, upd_upd]
  exact hK _ _ hI
theorem told_7 (d : Nat) (M : Mem) (hI : Inv M) : PairOK (d + 5) 74 126 [.ref 0, .int 7] [.ref 40, .int 7] M := by
  intro K hK
  obtain ⟨n, nc, np, B, hY, hL, ⟨px, u, -, -, -, u1, u2, -⟩, -, -, ⟨tc, -, t1, t2, -⟩, ⟨hc, -, -, -, -, -, k1, k2, -⟩, ⟨bc, -, b1, b2, -⟩, -⟩ := id hI
  obtain ⟨⟨g1, g2, g3, g4⟩, ⟨h13, h4⟩, ⟨h12, h3⟩, ⟨h14, h5⟩, ⟨h11, h2⟩, ⟨h0, -⟩, ⟨h1, ⟨R, hR, h10, hR0⟩, -⟩, hC, hD, -⟩ := hY
  obtain ⟨l1, l2, l3, ⟨l48, l49, l50⟩, -⟩ := hL
  have z0 : (7 : Int32) = 0 ↔ False := ⟨fun h => absurd h (by decide), False.elim⟩
  have z1 : (7 : Int32) = 1 ↔ False := ⟨fun h => absurd h (by decide), False.elim⟩
  have z2 : (7 : Int32) = 2 ↔ False := ⟨fun h => absurd h (by decide), False.elim⟩
  have z3 : (7 : Int32) = 3 ↔ False := ⟨fun h => absurd h (by decide), False.elim⟩
  have z4 : (7 : Int32) = 4 ↔ False := ⟨fun h => absurd h (by decide), False.elim⟩
  have z5 : (7 : Int32) = 5 ↔ False := ⟨fun h => absurd h (by decide), False.elim⟩
  have z6 : (7 : Int32) = 6 ↔ False := ⟨fun h => absurd h (by decide), False.elim⟩
  simp (maxSteps := 400000) (disch := first | omega | assumption) only [e74_0, e74_1, e126_0, e126_1, l48, z0, z1, z2, z3, z4, z5, z6, kv, rv, tv, lnv, lv0, clv, clr_i, clr_r, clr_n, clr_l, true_and, and_true, Option.toList_some, Option.toList_none, List.cons_append, List.nil_append, bI_0, bI_1, bI_or, ↓reduceIte, or_true, true_or, eq_self, irv, i0_add, not_true_eq_false, not_false_eq_true, Bool.false_eq_true, and_false, false_and, or_false, false_or, reduceCtorEq, nev, ngv, nc_or, in64, l64v, ite_not, ite_notP, up2_upr, upr_upr, upr_at, nI_cl, nI_ir, iav, nI_1, nI_mul6, nI_6mul, nI_lt2, nI_eq2, nI_neg, nI_m1, ltv, nI_z, upd_at, upd_off, upr_off, usv, upd_upd]
  exact hK _ _ hI
theorem told_8 (d : Nat) (M : Mem) (hI : Inv M) : PairOK (d + 5) 74 126 [.ref 0, .int 8] [.ref 40, .int 8] M := by
  intro K hK
  obtain ⟨n, nc, np, B, hY, hL, ⟨px, u, -, -, -, u1, u2, -⟩, -, -, ⟨tc, -, t1, t2, -⟩, ⟨hc, -, -, -, -, -, k1, k2, -⟩, ⟨bc, -, b1, b2, -⟩, -⟩ := id hI
  obtain ⟨⟨g1, g2, g3, g4⟩, ⟨h13, h4⟩, ⟨h12, h3⟩, ⟨h14, h5⟩, ⟨h11, h2⟩, ⟨h0, -⟩, ⟨h1, ⟨R, hR, h10, hR0⟩, -⟩, hC, hD, -⟩ := hY
  obtain ⟨l1, l2, l3, ⟨l48, l49, l50⟩, -⟩ := hL
  have W42 : ∀ what d Q, Wp d 42 0 [.ref 14, .int what, .null, .null] [] M Q ↔ Q (some (.int (nI (whoN (M 25) what n)))) M := fun what d Q => s42 d n what M Q g1 h13
  have ew : ∀ what, whoN (M 43) what n = whoN (M 25) what n := fun what => whoN_c (fun k hk => l1 k (by omega))
  have W127 : ∀ what d Q, Wp d 127 0 [.ref 40, .int what, .null, .null] [] M Q ↔ Q (some (.int (nI (whoN (M 25) what n)))) M := fun what d Q => by rw [s127 d n what M Q g1 h4, ew]
  have z0 : (8 : Int32) = 0 ↔ False := ⟨fun h => absurd h (by decide), False.elim⟩
  have z1 : (8 : Int32) = 1 ↔ False := ⟨fun h => absurd h (by decide), False.elim⟩
  have z2 : (8 : Int32) = 2 ↔ False := ⟨fun h => absurd h (by decide), False.elim⟩
  have z3 : (8 : Int32) = 3 ↔ False := ⟨fun h => absurd h (by decide), False.elim⟩
  have z4 : (8 : Int32) = 4 ↔ False := ⟨fun h => absurd h (by decide), False.elim⟩
  have z5 : (8 : Int32) = 5 ↔ False := ⟨fun h => absurd h (by decide), False.elim⟩
  have z6 : (8 : Int32) = 6 ↔ False := ⟨fun h => absurd h (by decide), False.elim⟩
  have z7 : (8 : Int32) = 7 ↔ False := ⟨fun h => absurd h (by decide), False.elim⟩
  simp (maxSteps := 400000) (disch := first | omega | assumption) only [e74_0, e74_1, e126_0, e126_1, W42 1, W127 1, z0, z1, z2, z3, z4, z5, z6, z7, kv, rv, tv, lnv, lv0, clv, clr_i, clr_r, clr_n, clr_l, true_and, and_true, Option.toList_some, Option.toList_none, List.cons_append, List.nil_append, bI_0, bI_1, bI_or, ↓reduceIte, or_true, true_or, eq_self, irv, i0_add, not_true_eq_false, not_false_eq_true, Bool.false_eq_true, and_false, false_and, or_false, false_or, reduceCtorEq, nev, ngv, nc_or, in64, l64v, ite_not, ite_notP, up2_upr, upr_upr, upr_at, nI_cl, nI_ir, iav, nI_1, nI_mul6, nI_6mul, nI_lt2, nI_eq2, nI_neg, nI_m1, ltv, nI_z, upd_at, upd_off, upr_off, usv, upd_upd]
  exact hK _ _ hI
theorem told_9 (d : Nat) (M : Mem) (hI : Inv M) : PairOK (d + 5) 74 126 [.ref 0, .int 9] [.ref 40, .int 9] M := by
  intro K hK
  obtain ⟨n, nc, np, B, hY, hL, ⟨px, u, -, -, -, u1, u2, -⟩, -, -, ⟨tc, -, t1, t2, -⟩, ⟨hc, -, -, -, -, -, k1, k2, -⟩, ⟨bc, -, b1, b2, -⟩, -⟩ := id hI
  obtain ⟨⟨g1, g2, g3, g4⟩, ⟨h13, h4⟩, ⟨h12, h3⟩, ⟨h14, h5⟩, ⟨h11, h2⟩, ⟨h0, -⟩, ⟨h1, ⟨R, hR, h10, hR0⟩, -⟩, hC, hD, -⟩ := hY
  obtain ⟨l1, l2, l3, ⟨l48, l49, l50⟩, -⟩ := hL
  have W42 : ∀ what d Q, Wp d 42 0 [.ref 14, .int what, .null, .null] [] M Q ↔ Q (some (.int (nI (whoN (M 25) what n)))) M := fun what d Q => s42 d n what M Q g1 h13
  have ew : ∀ what, whoN (M 43) what n = whoN (M 25) what n := fun what => whoN_c (fun k hk => l1 k (by omega))
  have W127 : ∀ what d Q, Wp d 127 0 [.ref 40, .int what, .null, .null] [] M Q ↔ Q (some (.int (nI (whoN (M 25) what n)))) M := fun what d Q => by rw [s127 d n what M Q g1 h4, ew]
  have z0 : (9 : Int32) = 0 ↔ False := ⟨fun h => absurd h (by decide), False.elim⟩
  have z1 : (9 : Int32) = 1 ↔ False := ⟨fun h => absurd h (by decide), False.elim⟩
  have z2 : (9 : Int32) = 2 ↔ False := ⟨fun h => absurd h (by decide), False.elim⟩
  have z3 : (9 : Int32) = 3 ↔ False := ⟨fun h => absurd h (by decide), False.elim⟩
  have z4 : (9 : Int32) = 4 ↔ False := ⟨fun h => absurd h (by decide), False.elim⟩
  have z5 : (9 : Int32) = 5 ↔ False := ⟨fun h => absurd h (by decide), False.elim⟩
  have z6 : (9 : Int32) = 6 ↔ False := ⟨fun h => absurd h (by decide), False.elim⟩
  have z7 : (9 : Int32) = 7 ↔ False := ⟨fun h => absurd h (by decide), False.elim⟩
  have z8 : (9 : Int32) = 8 ↔ False := ⟨fun h => absurd h (by decide), False.elim⟩
  simp (maxSteps := 400000) (disch := first | omega | assumption) only [e74_0, e74_1, e126_0, e126_1, W42 0, W127 0, z0, z1, z2, z3, z4, z5, z6, z7, z8, kv, rv, tv, lnv, lv0, clv, clr_i, clr_r, clr_n, clr_l, true_and, and_true, Option.toList_some, Option.toList_none, List.cons_append, List.nil_append, bI_0, bI_1, bI_or, ↓reduceIte, or_true, true_or, eq_self, irv, i0_add, not_true_eq_false, not_false_eq_true, Bool.false_eq_true, and_false, false_and, or_false, false_or, reduceCtorEq, nev, ngv, nc_or, in64, l64v, ite_not, ite_notP, up2_upr, upr_upr, upr_at, nI_cl, nI_ir, iav, nI_1, nI_mul6, nI_6mul, nI_lt2, nI_eq2, nI_neg, nI_m1, ltv, nI_z, upd_at, upd_off, upr_off, usv, upd_upd]
  exact hK _ _ hI
theorem told_10 (d : Nat) (M : Mem) (hI : Inv M) : PairOK (d + 5) 74 126 [.ref 0, .int 10] [.ref 40, .int 10] M := by
  intro K hK
  obtain ⟨n, nc, np, B, hY, hL, ⟨px, u, -, -, -, u1, u2, -⟩, -, -, ⟨tc, -, t1, t2, -⟩, ⟨hc, -, -, -, -, -, k1, k2, -⟩, ⟨bc, -, b1, b2, -⟩, -⟩ := id hI
  obtain ⟨⟨g1, g2, g3, g4⟩, ⟨h13, h4⟩, ⟨h12, h3⟩, ⟨h14, h5⟩, ⟨h11, h2⟩, ⟨h0, -⟩, ⟨h1, ⟨R, hR, h10, hR0⟩, -⟩, hC, hD, -⟩ := hY
  obtain ⟨l1, l2, l3, ⟨l48, l49, l50⟩, -⟩ := hL
  have W42 : ∀ what d Q, Wp d 42 0 [.ref 14, .int what, .null, .null] [] M Q ↔ Q (some (.int (nI (whoN (M 25) what n)))) M := fun what d Q => s42 d n what M Q g1 h13
  have ew : ∀ what, whoN (M 43) what n = whoN (M 25) what n := fun what => whoN_c (fun k hk => l1 k (by omega))
  have W127 : ∀ what d Q, Wp d 127 0 [.ref 40, .int what, .null, .null] [] M Q ↔ Q (some (.int (nI (whoN (M 25) what n)))) M := fun what d Q => by rw [s127 d n what M Q g1 h4, ew]
  have z0 : (10 : Int32) = 0 ↔ False := ⟨fun h => absurd h (by decide), False.elim⟩
  have z1 : (10 : Int32) = 1 ↔ False := ⟨fun h => absurd h (by decide), False.elim⟩
  have z2 : (10 : Int32) = 2 ↔ False := ⟨fun h => absurd h (by decide), False.elim⟩
  have z3 : (10 : Int32) = 3 ↔ False := ⟨fun h => absurd h (by decide), False.elim⟩
  have z4 : (10 : Int32) = 4 ↔ False := ⟨fun h => absurd h (by decide), False.elim⟩
  have z5 : (10 : Int32) = 5 ↔ False := ⟨fun h => absurd h (by decide), False.elim⟩
  have z6 : (10 : Int32) = 6 ↔ False := ⟨fun h => absurd h (by decide), False.elim⟩
  have z7 : (10 : Int32) = 7 ↔ False := ⟨fun h => absurd h (by decide), False.elim⟩
  have z8 : (10 : Int32) = 8 ↔ False := ⟨fun h => absurd h (by decide), False.elim⟩
  have z9 : (10 : Int32) = 9 ↔ False := ⟨fun h => absurd h (by decide), False.elim⟩
  simp (maxSteps := 400000) (disch := first | omega | assumption) only [e74_0, e74_1, e126_0, e126_1, W42 3, W127 3, z0, z1, z2, z3, z4, z5, z6, z7, z8, z9, kv, rv, tv, lnv, lv0, clv, clr_i, clr_r, clr_n, clr_l, true_and, and_true, Option.toList_some, Option.toList_none, List.cons_append, List.nil_append, bI_0, bI_1, bI_or, ↓reduceIte, or_true, true_or, eq_self, irv, i0_add, not_true_eq_false, not_false_eq_true, Bool.false_eq_true, and_false, false_and, or_false, false_or, reduceCtorEq, nev, ngv, nc_or, in64, l64v, ite_not, ite_notP, up2_upr, upr_upr, upr_at, nI_cl, nI_ir, iav, nI_1, nI_mul6, nI_6mul, nI_lt2, nI_eq2, nI_neg, nI_m1, ltv, nI_z, upd_at, upd_off, upr_off, usv, upd_upd]
  exact hK _ _ hI
theorem told_11 (d : Nat) (M : Mem) (hI : Inv M) : PairOK (d + 5) 74 126 [.ref 0, .int 11] [.ref 40, .int 11] M := by
  intro K hK
  obtain ⟨n, nc, np, B, hY, hL, ⟨px, u, -, -, -, u1, u2, -⟩, -, -, ⟨tc, -, t1, t2, -⟩, ⟨hc, -, -, -, -, -, k1, k2, -⟩, ⟨bc, -, b1, b2, -⟩, -⟩ := id hI
  obtain ⟨⟨g1, g2, g3, g4⟩, ⟨h13, h4⟩, ⟨h12, h3⟩, ⟨h14, h5⟩, ⟨h11, h2⟩, ⟨h0, -⟩, ⟨h1, ⟨R, hR, h10, hR0⟩, -⟩, hC, hD, -⟩ := hY
  obtain ⟨l1, l2, l3, ⟨l48, l49, l50⟩, -⟩ := hL
  have W42 : ∀ what d Q, Wp d 42 0 [.ref 14, .int what, .null, .null] [] M Q ↔ Q (some (.int (nI (whoN (M 25) what n)))) M := fun what d Q => s42 d n what M Q g1 h13
  have ew : ∀ what, whoN (M 43) what n = whoN (M 25) what n := fun what => whoN_c (fun k hk => l1 k (by omega))
  have W127 : ∀ what d Q, Wp d 127 0 [.ref 40, .int what, .null, .null] [] M Q ↔ Q (some (.int (nI (whoN (M 25) what n)))) M := fun what d Q => by rw [s127 d n what M Q g1 h4, ew]
  have z0 : (11 : Int32) = 0 ↔ False := ⟨fun h => absurd h (by decide), False.elim⟩
  have z1 : (11 : Int32) = 1 ↔ False := ⟨fun h => absurd h (by decide), False.elim⟩
  have z2 : (11 : Int32) = 2 ↔ False := ⟨fun h => absurd h (by decide), False.elim⟩
  have z3 : (11 : Int32) = 3 ↔ False := ⟨fun h => absurd h (by decide), False.elim⟩
  have z4 : (11 : Int32) = 4 ↔ False := ⟨fun h => absurd h (by decide), False.elim⟩
  have z5 : (11 : Int32) = 5 ↔ False := ⟨fun h => absurd h (by decide), False.elim⟩
  have z6 : (11 : Int32) = 6 ↔ False := ⟨fun h => absurd h (by decide), False.elim⟩
  have z7 : (11 : Int32) = 7 ↔ False := ⟨fun h => absurd h (by decide), False.elim⟩
  have z8 : (11 : Int32) = 8 ↔ False := ⟨fun h => absurd h (by decide), False.elim⟩
  have z9 : (11 : Int32) = 9 ↔ False := ⟨fun h => absurd h (by decide), False.elim⟩
  have z10 : (11 : Int32) = 10 ↔ False := ⟨fun h => absurd h (by decide), False.elim⟩
  simp (maxSteps := 400000) (disch := first | omega | assumption) only [e74_0, e74_1, e126_0, e126_1, W42 2, W127 2, W42 4, W127 4, z0, z1, z2, z3, z4, z5, z6, z7, z8, z9, z10, kv, rv, tv, lnv, lv0, clv, clr_i, clr_r, clr_n, clr_l, true_and, and_true, Option.toList_some, Option.toList_none, List.cons_append, List.nil_append, bI_0, bI_1, bI_or, ↓reduceIte, or_true, true_or, eq_self, irv, i0_add, not_true_eq_false, not_false_eq_true, Bool.false_eq_true, and_false, false_and, or_false, false_or, reduceCtorEq, nev, ngv, nc_or, in64, l64v, ite_not, ite_notP, up2_upr, upr_upr, upr_at, nI_cl, nI_ir, iav, nI_1, nI_mul6, nI_6mul, nI_lt2, nI_eq2, nI_neg, nI_m1, ltv, nI_z, upd_at, upd_off, upr_off, usv, upd_upd]
  exact hK _ _ hI
theorem told_12 (d : Nat) (M : Mem) (hI : Inv M) : PairOK (d + 5) 74 126 [.ref 0, .int 12] [.ref 40, .int 12] M := by
  intro K hK
  obtain ⟨n, nc, np, B, hY, hL, ⟨px, u, -, -, -, u1, u2, -⟩, -, -, ⟨tc, -, t1, t2, -⟩, ⟨hc, -, -, -, -, -, k1, k2, -⟩, ⟨bc, -, b1, b2, -⟩, -⟩ := id hI
  obtain ⟨⟨g1, g2, g3, g4⟩, ⟨h13, h4⟩, ⟨h12, h3⟩, ⟨h14, h5⟩, ⟨h11, h2⟩, ⟨h0, -⟩, ⟨h1, ⟨R, hR, h10, hR0⟩, -⟩, hC, hD, -⟩ := hY
  obtain ⟨l1, l2, l3, ⟨l48, l49, l50⟩, -⟩ := hL
  have ew : whoN (M 43) 0 n = whoN (M 25) 0 n := whoN_c (fun k hk => l1 k (by omega))
  have et : takN (fun q => M 41 (20 + q)) n B (whoN (M 43) 0 n) 0 = takN (M 19) n B (whoN (M 25) 0 n) 0 := by
    rw [ew]
    exact takN_c (fun k hk => (hD k hk).2.2.1) B _ _
  have t43 := fun d Q => s43 d n B M Q g1 h13 g4 h11
  have t128 : ∀ d Q, Wp (d + 1) 128 0 [.ref 40, .null, .null, .null, .null, .null] [] M Q ↔ Q (some (.int (nI (takN (M 19) n B (whoN (M 25) 0 n) 0)))) M := fun d Q => by rw [s128 d n B M Q g1 h4 g4 h2, et]
  have z0 : (12 : Int32) = 0 ↔ False := ⟨fun h => absurd h (by decide), False.elim⟩
  have z1 : (12 : Int32) = 1 ↔ False := ⟨fun h => absurd h (by decide), False.elim⟩
  have z2 : (12 : Int32) = 2 ↔ False := ⟨fun h => absurd h (by decide), False.elim⟩
  have z3 : (12 : Int32) = 3 ↔ False := ⟨fun h => absurd h (by decide), False.elim⟩
  have z4 : (12 : Int32) = 4 ↔ False := ⟨fun h => absurd h (by decide), False.elim⟩
  have z5 : (12 : Int32) = 5 ↔ False := ⟨fun h => absurd h (by decide), False.elim⟩
  have z6 : (12 : Int32) = 6 ↔ False := ⟨fun h => absurd h (by decide), False.elim⟩
  have z7 : (12 : Int32) = 7 ↔ False := ⟨fun h => absurd h (by decide), False.elim⟩
  have z8 : (12 : Int32) = 8 ↔ False := ⟨fun h => absurd h (by decide), False.elim⟩
  have z9 : (12 : Int32) = 9 ↔ False := ⟨fun h => absurd h (by decide), False.elim⟩
  have z10 : (12 : Int32) = 10 ↔ False := ⟨fun h => absurd h (by decide), False.elim⟩
  have z11 : (12 : Int32) = 11 ↔ False := ⟨fun h => absurd h (by decide), False.elim⟩
  simp (maxSteps := 400000) (disch := first | omega | assumption) only [e74_0, e74_1, e126_0, e126_1, t43, t128, z0, z1, z2, z3, z4, z5, z6, z7, z8, z9, z10, z11, kv, rv, tv, lnv, lv0, clv, clr_i, clr_r, clr_n, clr_l, true_and, and_true, Option.toList_some, Option.toList_none, List.cons_append, List.nil_append, bI_0, bI_1, bI_or, ↓reduceIte, or_true, true_or, eq_self, irv, i0_add, not_true_eq_false, not_false_eq_true, Bool.false_eq_true, and_false, false_and, or_false, false_or, reduceCtorEq, nev, ngv, nc_or, in64, l64v, ite_not, ite_notP, up2_upr, upr_upr, upr_at, nI_cl, nI_ir, iav, nI_1, nI_mul6, nI_6mul, nI_lt2, nI_eq2, nI_neg, nI_m1, ltv, nI_z, upd_at, upd_off, upr_off, usv, upd_upd]
  exact hK _ _ hI
theorem told_13 (d : Nat) (M : Mem) (hI : Inv M) : PairOK (d + 5) 74 126 [.ref 0, .int 13] [.ref 40, .int 13] M := by
  intro K hK
  obtain ⟨n, nc, np, B, hY, hL, ⟨px, u, -, -, -, u1, u2, -⟩, -, -, ⟨tc, -, t1, t2, -⟩, ⟨hc, -, -, -, -, -, k1, k2, -⟩, ⟨bc, -, b1, b2, -⟩, -⟩ := id hI
  obtain ⟨⟨g1, g2, g3, g4⟩, ⟨h13, h4⟩, ⟨h12, h3⟩, ⟨h14, h5⟩, ⟨h11, h2⟩, ⟨h0, -⟩, ⟨h1, ⟨R, hR, h10, hR0⟩, -⟩, hC, hD, -⟩ := hY
  obtain ⟨l1, l2, l3, ⟨l48, l49, l50⟩, -⟩ := hL
  have et : mskN (fun k => sfB (M 43 k) (M 43 (6 + k)) (M 41 (26 + k)) (M 41 0)) n = mskN (fun k => sfB (M 25 k) (M 26 k) (M 20 k) (M 15 9)) n := mskN_c (fun k hk => by rw [l1 k (by omega), l2 k (by omega), (hD k hk).2.2.2.2.1, h0])
  have t45 := fun d Q => s45 d n M Q g1 h13
  have t130 : ∀ d Q, Wp (d + 3) 130 0 [.ref 40, .null, .null, .null] [] M Q ↔ Q (some (.int (nI (mskN (fun k => sfB (M 25 k) (M 26 k) (M 20 k) (M 15 9)) n)))) M := fun d Q => by rw [s130 d n M Q g1 h4, et]
  have z0 : (13 : Int32) = 0 ↔ False := ⟨fun h => absurd h (by decide), False.elim⟩
  have z1 : (13 : Int32) = 1 ↔ False := ⟨fun h => absurd h (by decide), False.elim⟩
  have z2 : (13 : Int32) = 2 ↔ False := ⟨fun h => absurd h (by decide), False.elim⟩
  have z3 : (13 : Int32) = 3 ↔ False := ⟨fun h => absurd h (by decide), False.elim⟩
  have z4 : (13 : Int32) = 4 ↔ False := ⟨fun h => absurd h (by decide), False.elim⟩
  have z5 : (13 : Int32) = 5 ↔ False := ⟨fun h => absurd h (by decide), False.elim⟩
  have z6 : (13 : Int32) = 6 ↔ False := ⟨fun h => absurd h (by decide), False.elim⟩
  have z7 : (13 : Int32) = 7 ↔ False := ⟨fun h => absurd h (by decide), False.elim⟩
  have z8 : (13 : Int32) = 8 ↔ False := ⟨fun h => absurd h (by decide), False.elim⟩
  have z9 : (13 : Int32) = 9 ↔ False := ⟨fun h => absurd h (by decide), False.elim⟩
  have z10 : (13 : Int32) = 10 ↔ False := ⟨fun h => absurd h (by decide), False.elim⟩
  have z11 : (13 : Int32) = 11 ↔ False := ⟨fun h => absurd h (by decide), False.elim⟩
  have z12 : (13 : Int32) = 12 ↔ False := ⟨fun h => absurd h (by decide), False.elim⟩
  simp (maxSteps := 400000) (disch := first | omega | assumption) only [e74_0, e74_1, e126_0, e126_1, t45, t130, z0, z1, z2, z3, z4, z5, z6, z7, z8, z9, z10, z11, z12, kv, rv, tv, lnv, lv0, clv, clr_i, clr_r, clr_n, clr_l, true_and, and_true, Option.toList_some, Option.toList_none, List.cons_append, List.nil_append, bI_0, bI_1, bI_or, ↓reduceIte, or_true, true_or, eq_self, irv, i0_add, not_true_eq_false, not_false_eq_true, Bool.false_eq_true, and_false, false_and, or_false, false_or, reduceCtorEq, nev, ngv, nc_or, in64, l64v, ite_not, ite_notP, up2_upr, upr_upr, upr_at, nI_cl, nI_ir, iav, nI_1, nI_mul6, nI_6mul, nI_lt2, nI_eq2, nI_neg, nI_m1, ltv, nI_z, upd_at, upd_off, upr_off, usv, upd_upd]
  exact hK _ _ hI
theorem told_14 (d : Nat) (M : Mem) (hI : Inv M) : PairOK (d + 5) 74 126 [.ref 0, .int 14] [.ref 40, .int 14] M := by
  intro K hK
  obtain ⟨n, nc, np, B, hY, hL, ⟨px, u, -, -, -, u1, u2, -⟩, -, -, ⟨tc, -, t1, t2, -⟩, ⟨hc, -, -, -, -, -, k1, k2, -⟩, ⟨bc, -, b1, b2, -⟩, -⟩ := id hI
  obtain ⟨⟨g1, g2, g3, g4⟩, ⟨h13, h4⟩, ⟨h12, h3⟩, ⟨h14, h5⟩, ⟨h11, h2⟩, ⟨h0, -⟩, ⟨h1, ⟨R, hR, h10, hR0⟩, -⟩, hC, hD, -⟩ := hY
  obtain ⟨l1, l2, l3, ⟨l48, l49, l50⟩, -⟩ := hL
  have z0 : (14 : Int32) = 0 ↔ False := ⟨fun h => absurd h (by decide), False.elim⟩
  have z1 : (14 : Int32) = 1 ↔ False := ⟨fun h => absurd h (by decide), False.elim⟩
  have z2 : (14 : Int32) = 2 ↔ False := ⟨fun h => absurd h (by decide), False.elim⟩
  have z3 : (14 : Int32) = 3 ↔ False := ⟨fun h => absurd h (by decide), False.elim⟩
  have z4 : (14 : Int32) = 4 ↔ False := ⟨fun h => absurd h (by decide), False.elim⟩
  have z5 : (14 : Int32) = 5 ↔ False := ⟨fun h => absurd h (by decide), False.elim⟩
  have z6 : (14 : Int32) = 6 ↔ False := ⟨fun h => absurd h (by decide), False.elim⟩
  have z7 : (14 : Int32) = 7 ↔ False := ⟨fun h => absurd h (by decide), False.elim⟩
  have z8 : (14 : Int32) = 8 ↔ False := ⟨fun h => absurd h (by decide), False.elim⟩
  have z9 : (14 : Int32) = 9 ↔ False := ⟨fun h => absurd h (by decide), False.elim⟩
  have z10 : (14 : Int32) = 10 ↔ False := ⟨fun h => absurd h (by decide), False.elim⟩
  have z11 : (14 : Int32) = 11 ↔ False := ⟨fun h => absurd h (by decide), False.elim⟩
  have z12 : (14 : Int32) = 12 ↔ False := ⟨fun h => absurd h (by decide), False.elim⟩
  have z13 : (14 : Int32) = 13 ↔ False := ⟨fun h => absurd h (by decide), False.elim⟩
  simp (maxSteps := 400000) (disch := first | omega | assumption) only [e74_0, e74_1, e126_0, e126_1, l49, z0, z1, z2, z3, z4, z5, z6, z7, z8, z9, z10, z11, z12, z13, kv, rv, tv, lnv, lv0, clv, clr_i, clr_r, clr_n, clr_l, true_and, and_true, Option.toList_some, Option.toList_none, List.cons_append, List.nil_append, bI_0, bI_1, bI_or, ↓reduceIte, or_true, true_or, eq_self, irv, i0_add, not_true_eq_false, not_false_eq_true, Bool.false_eq_true, and_false, false_and, or_false, false_or, reduceCtorEq, nev, ngv, nc_or, in64, l64v, ite_not, ite_notP, up2_upr, upr_upr, upr_at, nI_cl, nI_ir, iav, nI_1, nI_mul6, nI_6mul, nI_lt2, nI_eq2, nI_neg, nI_m1, ltv, nI_z, upd_at, upd_off, upr_off, usv, upd_upd]
  exact hK _ _ hI
theorem told_15 (d : Nat) (M : Mem) (hI : Inv M) : PairOK (d + 5) 74 126 [.ref 0, .int 15] [.ref 40, .int 15] M := by
  intro K hK
  obtain ⟨n, nc, np, B, hY, hL, ⟨px, u, -, -, -, u1, u2, -⟩, -, -, ⟨tc, -, t1, t2, -⟩, ⟨hc, -, -, -, -, -, k1, k2, -⟩, ⟨bc, -, b1, b2, -⟩, -⟩ := id hI
  obtain ⟨⟨g1, g2, g3, g4⟩, ⟨h13, h4⟩, ⟨h12, h3⟩, ⟨h14, h5⟩, ⟨h11, h2⟩, ⟨h0, -⟩, ⟨h1, ⟨R, hR, h10, hR0⟩, -⟩, hC, hD, -⟩ := hY
  obtain ⟨l1, l2, l3, ⟨l48, l49, l50⟩, -⟩ := hL
  have z0 : (15 : Int32) = 0 ↔ False := ⟨fun h => absurd h (by decide), False.elim⟩
  have z1 : (15 : Int32) = 1 ↔ False := ⟨fun h => absurd h (by decide), False.elim⟩
  have z2 : (15 : Int32) = 2 ↔ False := ⟨fun h => absurd h (by decide), False.elim⟩
  have z3 : (15 : Int32) = 3 ↔ False := ⟨fun h => absurd h (by decide), False.elim⟩
  have z4 : (15 : Int32) = 4 ↔ False := ⟨fun h => absurd h (by decide), False.elim⟩
  have z5 : (15 : Int32) = 5 ↔ False := ⟨fun h => absurd h (by decide), False.elim⟩
  have z6 : (15 : Int32) = 6 ↔ False := ⟨fun h => absurd h (by decide), False.elim⟩
  have z7 : (15 : Int32) = 7 ↔ False := ⟨fun h => absurd h (by decide), False.elim⟩
  have z8 : (15 : Int32) = 8 ↔ False := ⟨fun h => absurd h (by decide), False.elim⟩
  have z9 : (15 : Int32) = 9 ↔ False := ⟨fun h => absurd h (by decide), False.elim⟩
  have z10 : (15 : Int32) = 10 ↔ False := ⟨fun h => absurd h (by decide), False.elim⟩
  have z11 : (15 : Int32) = 11 ↔ False := ⟨fun h => absurd h (by decide), False.elim⟩
  have z12 : (15 : Int32) = 12 ↔ False := ⟨fun h => absurd h (by decide), False.elim⟩
  have z13 : (15 : Int32) = 13 ↔ False := ⟨fun h => absurd h (by decide), False.elim⟩
  have z14 : (15 : Int32) = 14 ↔ False := ⟨fun h => absurd h (by decide), False.elim⟩
  simp (maxSteps := 400000) (disch := first | omega | assumption) only [e74_0, e74_1, e126_0, e126_1, l50, z0, z1, z2, z3, z4, z5, z6, z7, z8, z9, z10, z11, z12, z13, z14, kv, rv, tv, lnv, lv0, clv, clr_i, clr_r, clr_n, clr_l, true_and, and_true, Option.toList_some, Option.toList_none, List.cons_append, List.nil_append, bI_0, bI_1, bI_or, ↓reduceIte, or_true, true_or, eq_self, irv, i0_add, not_true_eq_false, not_false_eq_true, Bool.false_eq_true, and_false, false_and, or_false, false_or, reduceCtorEq, nev, ngv, nc_or, in64, l64v, ite_not, ite_notP, up2_upr, upr_upr, upr_at, nI_cl, nI_ir, iav, nI_1, nI_mul6, nI_6mul, nI_lt2, nI_eq2, nI_neg, nI_m1, ltv, nI_z, upd_at, upd_off, upr_off, usv, upd_upd]
  exact hK _ _ hI
theorem told_16 (d : Nat) (M : Mem) (hI : Inv M) : PairOK (d + 5) 74 126 [.ref 0, .int 16] [.ref 40, .int 16] M := by
  intro K hK
  obtain ⟨n, nc, np, B, hY, hL, ⟨px, u, -, -, -, u1, u2, -⟩, -, -, ⟨tc, -, t1, t2, -⟩, ⟨hc, -, -, -, -, -, k1, k2, -⟩, ⟨bc, -, b1, b2, -⟩, -⟩ := id hI
  obtain ⟨⟨g1, g2, g3, g4⟩, ⟨h13, h4⟩, ⟨h12, h3⟩, ⟨h14, h5⟩, ⟨h11, h2⟩, ⟨h0, -⟩, ⟨h1, ⟨R, hR, h10, hR0⟩, -⟩, hC, hD, -⟩ := hY
  obtain ⟨l1, l2, l3, ⟨l48, l49, l50⟩, -⟩ := hL
  have ew : ∀ what, whoN (M 43) what n = whoN (M 25) what n := fun what => whoN_c (fun k hk => l1 k (by omega))
  have t49 := fun d Q => s49 d n R M Q g1 h13 hR h10
  obtain ⟨v, hv⟩ : ∃ v, priF (M 20) n (remN (M 20) n R (whoN (M 25) 1 n ||| whoN (M 25) 0 n)) = v := ⟨_, rfl⟩
  have t135 : ∀ d Q, Wp (d + 1) 135 0 [.ref 40, .null, .null, .null, .null, .null] [] M Q ↔ Q (some (.int v)) M := fun d Q => by
    rw [s135 d n R M Q g1 h4 hR (h1.trans h10), ew, ew, priF_c (fun k hk => (hD k hk).2.2.2.2.1), remN_c (fun k hk => (hD k hk).2.2.2.2.1), hv]
    by_cases hz : R = 0
    · rw [if_pos hz, ← hv]
      obtain rfl := hR0 hz
      rfl
    · rw [if_neg hz]
  simp only [hv] at t49
  have z0 : (16 : Int32) = 0 ↔ False := ⟨fun h => absurd h (by decide), False.elim⟩
  have z1 : (16 : Int32) = 1 ↔ False := ⟨fun h => absurd h (by decide), False.elim⟩
  have z2 : (16 : Int32) = 2 ↔ False := ⟨fun h => absurd h (by decide), False.elim⟩
  have z3 : (16 : Int32) = 3 ↔ False := ⟨fun h => absurd h (by decide), False.elim⟩
  have z4 : (16 : Int32) = 4 ↔ False := ⟨fun h => absurd h (by decide), False.elim⟩
  have z5 : (16 : Int32) = 5 ↔ False := ⟨fun h => absurd h (by decide), False.elim⟩
  have z6 : (16 : Int32) = 6 ↔ False := ⟨fun h => absurd h (by decide), False.elim⟩
  have z7 : (16 : Int32) = 7 ↔ False := ⟨fun h => absurd h (by decide), False.elim⟩
  have z8 : (16 : Int32) = 8 ↔ False := ⟨fun h => absurd h (by decide), False.elim⟩
  have z9 : (16 : Int32) = 9 ↔ False := ⟨fun h => absurd h (by decide), False.elim⟩
  have z10 : (16 : Int32) = 10 ↔ False := ⟨fun h => absurd h (by decide), False.elim⟩
  have z11 : (16 : Int32) = 11 ↔ False := ⟨fun h => absurd h (by decide), False.elim⟩
  have z12 : (16 : Int32) = 12 ↔ False := ⟨fun h => absurd h (by decide), False.elim⟩
  have z13 : (16 : Int32) = 13 ↔ False := ⟨fun h => absurd h (by decide), False.elim⟩
  have z14 : (16 : Int32) = 14 ↔ False := ⟨fun h => absurd h (by decide), False.elim⟩
  have z15 : (16 : Int32) = 15 ↔ False := ⟨fun h => absurd h (by decide), False.elim⟩
  simp (maxSteps := 400000) (disch := first | omega | assumption) only [e74_0, e74_1, e126_0, e126_1, t49, t135, z0, z1, z2, z3, z4, z5, z6, z7, z8, z9, z10, z11, z12, z13, z14, z15, kv, rv, tv, lnv, lv0, clv, clr_i, clr_r, clr_n, clr_l, true_and, and_true, Option.toList_some, Option.toList_none, List.cons_append, List.nil_append, bI_0, bI_1, bI_or, ↓reduceIte, or_true, true_or, eq_self, irv, i0_add, not_true_eq_false, not_false_eq_true, Bool.false_eq_true, and_false, false_and, or_false, false_or, reduceCtorEq, nev, ngv, nc_or, in64, l64v, ite_not, ite_notP, up2_upr, upr_upr, upr_at, nI_cl, nI_ir, iav, nI_1, nI_mul6, nI_6mul, nI_lt2, nI_eq2, nI_neg, nI_m1, ltv, nI_z, upd_at, upd_off, upr_off, usv, upd_upd]
  exact hK _ _ hI
theorem told_17 (d : Nat) (M : Mem) (hI : Inv M) : PairOK (d + 5) 74 126 [.ref 0, .int 17] [.ref 40, .int 17] M := by
  intro K hK
  obtain ⟨n, nc, np, B, hY, hL, ⟨px, u, -, -, -, u1, u2, -⟩, -, -, ⟨tc, -, t1, t2, -⟩, ⟨hc, -, -, -, -, -, k1, k2, -⟩, ⟨bc, -, b1, b2, -⟩, -⟩ := id hI
  obtain ⟨⟨g1, g2, g3, g4⟩, ⟨h13, h4⟩, ⟨h12, h3⟩, ⟨h14, h5⟩, ⟨h11, h2⟩, ⟨h0, -⟩, ⟨h1, ⟨R, hR, h10, hR0⟩, -⟩, hC, hD, -⟩ := hY
  obtain ⟨l1, l2, l3, ⟨l48, l49, l50⟩, -⟩ := hL
  have ec := cle_eq l3
  obtain ⟨v, hv⟩ : ∃ v, cleC (M 28) 6 = v := ⟨_, rfl⟩
  have t8 : ∀ d Q, Wp (d + 3) 8 0 [.ref 27, .null, .null, .null] [] M Q ↔ Q (some (.int v)) M := fun d Q => by rw [s8 d M Q, hv]
  have t136 : ∀ d Q, Wp (d + 1) 136 0 [.ref 40, .null, .null, .null] [] M Q ↔ Q (some (.int v)) M := fun d Q => by rw [s136 d M Q, ec, hv]
  clear ec hv
  have z0 : (17 : Int32) = 0 ↔ False := ⟨fun h => absurd h (by decide), False.elim⟩
  have z1 : (17 : Int32) = 1 ↔ False := ⟨fun h => absurd h (by decide), False.elim⟩
  have z2 : (17 : Int32) = 2 ↔ False := ⟨fun h => absurd h (by decide), False.elim⟩
  have z3 : (17 : Int32) = 3 ↔ False := ⟨fun h => absurd h (by decide), False.elim⟩
  have z4 : (17 : Int32) = 4 ↔ False := ⟨fun h => absurd h (by decide), False.elim⟩
  have z5 : (17 : Int32) = 5 ↔ False := ⟨fun h => absurd h (by decide), False.elim⟩
  have z6 : (17 : Int32) = 6 ↔ False := ⟨fun h => absurd h (by decide), False.elim⟩
  have z7 : (17 : Int32) = 7 ↔ False := ⟨fun h => absurd h (by decide), False.elim⟩
  have z8 : (17 : Int32) = 8 ↔ False := ⟨fun h => absurd h (by decide), False.elim⟩
  have z9 : (17 : Int32) = 9 ↔ False := ⟨fun h => absurd h (by decide), False.elim⟩
  have z10 : (17 : Int32) = 10 ↔ False := ⟨fun h => absurd h (by decide), False.elim⟩
  have z11 : (17 : Int32) = 11 ↔ False := ⟨fun h => absurd h (by decide), False.elim⟩
  have z12 : (17 : Int32) = 12 ↔ False := ⟨fun h => absurd h (by decide), False.elim⟩
  have z13 : (17 : Int32) = 13 ↔ False := ⟨fun h => absurd h (by decide), False.elim⟩
  have z14 : (17 : Int32) = 14 ↔ False := ⟨fun h => absurd h (by decide), False.elim⟩
  have z15 : (17 : Int32) = 15 ↔ False := ⟨fun h => absurd h (by decide), False.elim⟩
  have z16 : (17 : Int32) = 16 ↔ False := ⟨fun h => absurd h (by decide), False.elim⟩
  simp (maxSteps := 400000) (disch := first | omega | assumption) only [e74_0, e74_1, e126_0, e126_1, t8, t136, z0, z1, z2, z3, z4, z5, z6, z7, z8, z9, z10, z11, z12, z13, z14, z15, z16, kv, rv, tv, lnv, lv0, clv, clr_i, clr_r, clr_n, clr_l, true_and, and_true, Option.toList_some, Option.toList_none, List.cons_append, List.nil_append, bI_0, bI_1, bI_or, ↓reduceIte, or_true, true_or, eq_self, irv, i0_add, not_true_eq_false, not_false_eq_true, Bool.false_eq_true, and_false, false_and, or_false, false_or, reduceCtorEq, nev, ngv, nc_or, in64, l64v, ite_not, ite_notP, up2_upr, upr_upr, upr_at, nI_cl, nI_ir, iav, nI_1, nI_mul6, nI_6mul, nI_lt2, nI_eq2, nI_neg, nI_m1, ltv, nI_z, upd_at, upd_off, upr_off, usv, upd_upd]
  exact hK _ _ hI
theorem told_18 (d : Nat) (M : Mem) (hI : Inv M) : PairOK (d + 5) 74 126 [.ref 0, .int 18] [.ref 40, .int 18] M := by
  intro K hK
  obtain ⟨n, nc, np, B, hY, hL, ⟨px, u, -, -, -, u1, u2, -⟩, -, -, ⟨tc, -, t1, t2, -⟩, ⟨hc, -, -, -, -, -, k1, k2, -⟩, ⟨bc, -, b1, b2, -⟩, -⟩ := id hI
  obtain ⟨⟨g1, g2, g3, g4⟩, ⟨h13, h4⟩, ⟨h12, h3⟩, ⟨h14, h5⟩, ⟨h11, h2⟩, ⟨h0, -⟩, ⟨h1, ⟨R, hR, h10, hR0⟩, -⟩, hC, hD, -⟩ := hY
  obtain ⟨l1, l2, l3, ⟨l48, l49, l50⟩, -⟩ := hL
  have z0 : (18 : Int32) = 0 ↔ False := ⟨fun h => absurd h (by decide), False.elim⟩
  have z1 : (18 : Int32) = 1 ↔ False := ⟨fun h => absurd h (by decide), False.elim⟩
  have z2 : (18 : Int32) = 2 ↔ False := ⟨fun h => absurd h (by decide), False.elim⟩
  have z3 : (18 : Int32) = 3 ↔ False := ⟨fun h => absurd h (by decide), False.elim⟩
  have z4 : (18 : Int32) = 4 ↔ False := ⟨fun h => absurd h (by decide), False.elim⟩
  have z5 : (18 : Int32) = 5 ↔ False := ⟨fun h => absurd h (by decide), False.elim⟩
  have z6 : (18 : Int32) = 6 ↔ False := ⟨fun h => absurd h (by decide), False.elim⟩
  have z7 : (18 : Int32) = 7 ↔ False := ⟨fun h => absurd h (by decide), False.elim⟩
  have z8 : (18 : Int32) = 8 ↔ False := ⟨fun h => absurd h (by decide), False.elim⟩
  have z9 : (18 : Int32) = 9 ↔ False := ⟨fun h => absurd h (by decide), False.elim⟩
  have z10 : (18 : Int32) = 10 ↔ False := ⟨fun h => absurd h (by decide), False.elim⟩
  have z11 : (18 : Int32) = 11 ↔ False := ⟨fun h => absurd h (by decide), False.elim⟩
  have z12 : (18 : Int32) = 12 ↔ False := ⟨fun h => absurd h (by decide), False.elim⟩
  have z13 : (18 : Int32) = 13 ↔ False := ⟨fun h => absurd h (by decide), False.elim⟩
  have z14 : (18 : Int32) = 14 ↔ False := ⟨fun h => absurd h (by decide), False.elim⟩
  have z15 : (18 : Int32) = 15 ↔ False := ⟨fun h => absurd h (by decide), False.elim⟩
  have z16 : (18 : Int32) = 16 ↔ False := ⟨fun h => absurd h (by decide), False.elim⟩
  have z17 : (18 : Int32) = 17 ↔ False := ⟨fun h => absurd h (by decide), False.elim⟩
  simp (maxSteps := 400000) (disch := first | omega | assumption) only [e74_0, e74_1, e126_0, e126_1, k1, k2, z0, z1, z2, z3, z4, z5, z6, z7, z8, z9, z10, z11, z12, z13, z14, z15, z16, z17, kv, rv, tv, lnv, lv0, clv, clr_i, clr_r, clr_n, clr_l, true_and, and_true, Option.toList_some, Option.toList_none, List.cons_append, List.nil_append, bI_0, bI_1, bI_or, ↓reduceIte, or_true, true_or, eq_self, irv, i0_add, not_true_eq_false, not_false_eq_true, Bool.false_eq_true, and_false, false_and, or_false, false_or, reduceCtorEq, nev, ngv, nc_or, in64, l64v, ite_not, ite_notP, up2_upr, upr_upr, upr_at, nI_cl, nI_ir, iav, nI_1, nI_mul6, nI_6mul, nI_lt2, nI_eq2, nI_neg, nI_m1, ltv, nI_z, upd_at, upd_off, upr_off, usv, upd_upd]
  exact hK _ _ hI
theorem told_19 (d : Nat) (M : Mem) (hI : Inv M) : PairOK (d + 5) 74 126 [.ref 0, .int 19] [.ref 40, .int 19] M := by
  intro K hK
  obtain ⟨n, nc, np, B, hY, hL, ⟨px, u, -, -, -, u1, u2, -⟩, -, -, ⟨tc, -, t1, t2, -⟩, ⟨hc, -, -, -, -, -, k1, k2, -⟩, ⟨bc, -, b1, b2, -⟩, -⟩ := id hI
  obtain ⟨⟨g1, g2, g3, g4⟩, ⟨h13, h4⟩, ⟨h12, h3⟩, ⟨h14, h5⟩, ⟨h11, h2⟩, ⟨h0, -⟩, ⟨h1, ⟨R, hR, h10, hR0⟩, -⟩, hC, hD, -⟩ := hY
  obtain ⟨l1, l2, l3, ⟨l48, l49, l50⟩, -⟩ := hL
  have z0 : (19 : Int32) = 0 ↔ False := ⟨fun h => absurd h (by decide), False.elim⟩
  have z1 : (19 : Int32) = 1 ↔ False := ⟨fun h => absurd h (by decide), False.elim⟩
  have z2 : (19 : Int32) = 2 ↔ False := ⟨fun h => absurd h (by decide), False.elim⟩
  have z3 : (19 : Int32) = 3 ↔ False := ⟨fun h => absurd h (by decide), False.elim⟩
  have z4 : (19 : Int32) = 4 ↔ False := ⟨fun h => absurd h (by decide), False.elim⟩
  have z5 : (19 : Int32) = 5 ↔ False := ⟨fun h => absurd h (by decide), False.elim⟩
  have z6 : (19 : Int32) = 6 ↔ False := ⟨fun h => absurd h (by decide), False.elim⟩
  have z7 : (19 : Int32) = 7 ↔ False := ⟨fun h => absurd h (by decide), False.elim⟩
  have z8 : (19 : Int32) = 8 ↔ False := ⟨fun h => absurd h (by decide), False.elim⟩
  have z9 : (19 : Int32) = 9 ↔ False := ⟨fun h => absurd h (by decide), False.elim⟩
  have z10 : (19 : Int32) = 10 ↔ False := ⟨fun h => absurd h (by decide), False.elim⟩
  have z11 : (19 : Int32) = 11 ↔ False := ⟨fun h => absurd h (by decide), False.elim⟩
  have z12 : (19 : Int32) = 12 ↔ False := ⟨fun h => absurd h (by decide), False.elim⟩
  have z13 : (19 : Int32) = 13 ↔ False := ⟨fun h => absurd h (by decide), False.elim⟩
  have z14 : (19 : Int32) = 14 ↔ False := ⟨fun h => absurd h (by decide), False.elim⟩
  have z15 : (19 : Int32) = 15 ↔ False := ⟨fun h => absurd h (by decide), False.elim⟩
  have z16 : (19 : Int32) = 16 ↔ False := ⟨fun h => absurd h (by decide), False.elim⟩
  have z17 : (19 : Int32) = 17 ↔ False := ⟨fun h => absurd h (by decide), False.elim⟩
  have z18 : (19 : Int32) = 18 ↔ False := ⟨fun h => absurd h (by decide), False.elim⟩
  simp (maxSteps := 400000) (disch := first | omega | assumption) only [e74_0, e74_1, e126_0, e126_1, b1, b2, z0, z1, z2, z3, z4, z5, z6, z7, z8, z9, z10, z11, z12, z13, z14, z15, z16, z17, z18, kv, rv, tv, lnv, lv0, clv, clr_i, clr_r, clr_n, clr_l, true_and, and_true, Option.toList_some, Option.toList_none, List.cons_append, List.nil_append, bI_0, bI_1, bI_or, ↓reduceIte, or_true, true_or, eq_self, irv, i0_add, not_true_eq_false, not_false_eq_true, Bool.false_eq_true, and_false, false_and, or_false, false_or, reduceCtorEq, nev, ngv, nc_or, in64, l64v, ite_not, ite_notP, up2_upr, upr_upr, upr_at, nI_cl, nI_ir, iav, nI_1, nI_mul6, nI_6mul, nI_lt2, nI_eq2, nI_neg, nI_m1, ltv, nI_z, upd_at, upd_off, upr_off, usv, upd_upd]
  exact hK _ _ hI
theorem told_20 (d : Nat) (M : Mem) (hI : Inv M) : PairOK (d + 5) 74 126 [.ref 0, .int 20] [.ref 40, .int 20] M := by
  intro K hK
  obtain ⟨n, nc, np, B, hY, hL, ⟨px, u, -, -, -, u1, u2, -⟩, -, -, ⟨tc, -, t1, t2, -⟩, ⟨hc, -, -, -, -, -, k1, k2, -⟩, ⟨bc, -, b1, b2, -⟩, -⟩ := id hI
  obtain ⟨⟨g1, g2, g3, g4⟩, ⟨h13, h4⟩, ⟨h12, h3⟩, ⟨h14, h5⟩, ⟨h11, h2⟩, ⟨h0, -⟩, ⟨h1, ⟨R, hR, h10, hR0⟩, -⟩, hC, hD, -⟩ := hY
  obtain ⟨l1, l2, l3, ⟨l48, l49, l50⟩, -⟩ := hL
  have z0 : (20 : Int32) = 0 ↔ False := ⟨fun h => absurd h (by decide), False.elim⟩
  have z1 : (20 : Int32) = 1 ↔ False := ⟨fun h => absurd h (by decide), False.elim⟩
  have z2 : (20 : Int32) = 2 ↔ False := ⟨fun h => absurd h (by decide), False.elim⟩
  have z3 : (20 : Int32) = 3 ↔ False := ⟨fun h => absurd h (by decide), False.elim⟩
  have z4 : (20 : Int32) = 4 ↔ False := ⟨fun h => absurd h (by decide), False.elim⟩
  have z5 : (20 : Int32) = 5 ↔ False := ⟨fun h => absurd h (by decide), False.elim⟩
  have z6 : (20 : Int32) = 6 ↔ False := ⟨fun h => absurd h (by decide), False.elim⟩
  have z7 : (20 : Int32) = 7 ↔ False := ⟨fun h => absurd h (by decide), False.elim⟩
  have z8 : (20 : Int32) = 8 ↔ False := ⟨fun h => absurd h (by decide), False.elim⟩
  have z9 : (20 : Int32) = 9 ↔ False := ⟨fun h => absurd h (by decide), False.elim⟩
  have z10 : (20 : Int32) = 10 ↔ False := ⟨fun h => absurd h (by decide), False.elim⟩
  have z11 : (20 : Int32) = 11 ↔ False := ⟨fun h => absurd h (by decide), False.elim⟩
  have z12 : (20 : Int32) = 12 ↔ False := ⟨fun h => absurd h (by decide), False.elim⟩
  have z13 : (20 : Int32) = 13 ↔ False := ⟨fun h => absurd h (by decide), False.elim⟩
  have z14 : (20 : Int32) = 14 ↔ False := ⟨fun h => absurd h (by decide), False.elim⟩
  have z15 : (20 : Int32) = 15 ↔ False := ⟨fun h => absurd h (by decide), False.elim⟩
  have z16 : (20 : Int32) = 16 ↔ False := ⟨fun h => absurd h (by decide), False.elim⟩
  have z17 : (20 : Int32) = 17 ↔ False := ⟨fun h => absurd h (by decide), False.elim⟩
  have z18 : (20 : Int32) = 18 ↔ False := ⟨fun h => absurd h (by decide), False.elim⟩
  have z19 : (20 : Int32) = 19 ↔ False := ⟨fun h => absurd h (by decide), False.elim⟩
  simp (maxSteps := 400000) (disch := first | omega | assumption) only [e74_0, e74_1, e126_0, e126_1, u1, u2, z0, z1, z2, z3, z4, z5, z6, z7, z8, z9, z10, z11, z12, z13, z14, z15, z16, z17, z18, z19, kv, rv, tv, lnv, lv0, clv, clr_i, clr_r, clr_n, clr_l, true_and, and_true, Option.toList_some, Option.toList_none, List.cons_append, List.nil_append, bI_0, bI_1, bI_or, ↓reduceIte, or_true, true_or, eq_self, irv, i0_add, not_true_eq_false, not_false_eq_true, Bool.false_eq_true, and_false, false_and, or_false, false_or, reduceCtorEq, nev, ngv, nc_or, in64, l64v, ite_not, ite_notP, up2_upr, upr_upr, upr_at, nI_cl, nI_ir, iav, nI_1, nI_mul6, nI_6mul, nI_lt2, nI_eq2, nI_neg, nI_m1, ltv, nI_z, upd_at, upd_off, upr_off, usv, upd_upd]
  exact hK _ _ hI
theorem told_x (d : Nat) (y : Int32) (M : Mem) (hI : Inv M) (hy : ∀ j, j ≤ 20 → ¬ y = nI j) : PairOK (d + 5) 74 126 [.ref 0, .int y] [.ref 40, .int y] M := by
  intro K hK
  have n0 : ¬ y = 0 := hy 0 (by omega)
  have n1 : ¬ y = 1 := hy 1 (by omega)
  have n2 : ¬ y = 2 := hy 2 (by omega)
  have n3 : ¬ y = 3 := hy 3 (by omega)
  have n4 : ¬ y = 4 := hy 4 (by omega)
  have n5 : ¬ y = 5 := hy 5 (by omega)
  have n6 : ¬ y = 6 := hy 6 (by omega)
  have n7 : ¬ y = 7 := hy 7 (by omega)
  have n8 : ¬ y = 8 := hy 8 (by omega)
  have n9 : ¬ y = 9 := hy 9 (by omega)
  have n10 : ¬ y = 10 := hy 10 (by omega)
  have n11 : ¬ y = 11 := hy 11 (by omega)
  have n12 : ¬ y = 12 := hy 12 (by omega)
  have n13 : ¬ y = 13 := hy 13 (by omega)
  have n14 : ¬ y = 14 := hy 14 (by omega)
  have n15 : ¬ y = 15 := hy 15 (by omega)
  have n16 : ¬ y = 16 := hy 16 (by omega)
  have n17 : ¬ y = 17 := hy 17 (by omega)
  have n18 : ¬ y = 18 := hy 18 (by omega)
  have n19 : ¬ y = 19 := hy 19 (by omega)
  have n20 : ¬ y = 20 := hy 20 (by omega)
  simp (maxSteps := 400000) (disch := first | omega | assumption) only [e74_0, e74_1, e126_0, e126_1, n0, n1, n2, n3, n4, n5, n6, n7, n8, n9, n10, n11, n12, n13, n14, n15, n16, n17, n18, n19, n20, kv, rv, tv, lnv, lv0, clv, clr_i, clr_r, clr_n, clr_l, true_and, and_true, Option.toList_some, Option.toList_none, List.cons_append, List.nil_append, bI_0, bI_1, bI_or, ↓reduceIte, or_true, true_or, eq_self, irv, i0_add, not_true_eq_false, not_false_eq_true, Bool.false_eq_true, and_false, false_and, or_false, false_or, reduceCtorEq, nev, ngv, nc_or, in64, l64v, ite_not, ite_notP, up2_upr, upr_upr, upr_at, nI_cl, nI_ir, iav, nI_1, nI_mul6, nI_6mul, nI_lt2, nI_eq2, nI_neg, nI_m1, ltv, nI_z, upd_at, upd_off, upr_off, usv, upd_upd]
  exact hK _ _ hI
theorem pair_told (d : Nat) (y : Int32) (M : Mem) (hI : Inv M) : PairOK (d + 5) 74 126 [.ref 0, .int y] [.ref 40, .int y] M := by
  by_cases h : ∃ j, j ≤ 20 ∧ y = nI j
  · obtain ⟨j, hj, rfl⟩ := h
    have : j = 0 ∨ j = 1 ∨ j = 2 ∨ j = 3 ∨ j = 4 ∨ j = 5 ∨ j = 6 ∨ j = 7 ∨ j = 8 ∨ j = 9 ∨ j = 10 ∨ j = 11 ∨ j = 12 ∨ j = 13 ∨ j = 14 ∨ j = 15 ∨ j = 16 ∨ j = 17 ∨ j = 18 ∨ j = 19 ∨ j = 20 := by omega
    rcases this with rfl | rfl | rfl | rfl | rfl | rfl | rfl | rfl | rfl | rfl | rfl | rfl | rfl | rfl | rfl | rfl | rfl | rfl | rfl | rfl | rfl
    · exact told_0 d M hI
    · exact told_1 d M hI
    · exact told_2 d M hI
    · exact told_3 d M hI
    · exact told_4 d M hI
    · exact told_5 d M hI
    · exact told_6 d M hI
    · exact told_7 d M hI
    · exact told_8 d M hI
    · exact told_9 d M hI
    · exact told_10 d M hI
    · exact told_11 d M hI
    · exact told_12 d M hI
    · exact told_13 d M hI
    · exact told_14 d M hI
    · exact told_15 d M hI
    · exact told_16 d M hI
    · exact told_17 d M hI
    · exact told_18 d M hI
    · exact told_19 d M hI
    · exact told_20 d M hI
  · exact told_x d y M hI (fun j hj z => h ⟨j, hj, z⟩)
