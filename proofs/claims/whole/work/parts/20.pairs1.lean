/-! part 20: calls that ask for the yard -/
theorem pair_accepts (d : Nat) (x y : Int32) (M : Mem) (hI : Inv M) : PairOK (d + 2) 75 138 [.ref 0, .int x, .int y] [.ref 40, .int x, .int y] M := by
  intro K hK
  obtain ⟨n, nc, np, B, hY, -⟩ := id hI
  obtain ⟨⟨g1, g2, g3, g4⟩, -, ⟨h12, h3⟩, -, -, -, -, hC, -⟩ := hY
  by_cases hx : rg x 0 (nc - 1)
  · obtain ⟨k, hk, rfl⟩ := rg_k (by omega) hx
    obtain ⟨c1, c2, -⟩ := hC k hk
    by_cases hy : rg y 0 9999
    · simp (disch := first | omega | assumption) only [e75, e138, h12, h3, rg_debP, rg_cls, i32v, if_pos hx, if_pos hy, s112i, n1_toInt (show nc ≤ 6 by omega), s6 _ k nc _ M _ hk g2 h12, s139, c1, c2, hk, kv, rv, tv, lnv, lv0, clv, clr_i, clr_r, clr_n, clr_l, true_and, and_true, Option.toList_some, Option.toList_none, List.cons_append, List.nil_append, bI_0, bI_1, bI_or, ↓reduceIte, or_true, true_or, eq_self, irv, i0_add, not_true_eq_false, not_false_eq_true, Bool.false_eq_true, and_false, false_and, or_false, false_or, reduceCtorEq, nev, ngv, nc_or, in64, l64v, ite_not, ite_notP, up2_upr, upr_upr, upr_at, nI_cl, nI_ir, iav, nI_1, nI_mul6, nI_6mul, nI_lt2, nI_eq2, nI_neg, nI_m1, ltv, nI_z, upd_at, upd_off, upr_off, usv, upd_upd]
      exact hK _ _ hI
    · simp (disch := first | omega | assumption) only [e75, e138, h12, h3, rg_debP, rg_cls, i32v, if_pos hx, if_neg hy, hk, s112i, n1_toInt (show nc ≤ 6 by omega), kv, rv, tv, lnv, lv0, clv, clr_i, clr_r, clr_n, clr_l, true_and, and_true, Option.toList_some, Option.toList_none, List.cons_append, List.nil_append, bI_0, bI_1, bI_or, ↓reduceIte, or_true, true_or, eq_self, irv, i0_add, not_true_eq_false, not_false_eq_true, Bool.false_eq_true, and_false, false_and, or_false, false_or, reduceCtorEq, nev, ngv, nc_or, in64, l64v, ite_not, ite_notP, up2_upr, upr_upr, upr_at, nI_cl, nI_ir, iav, nI_1, nI_mul6, nI_6mul, nI_lt2, nI_eq2, nI_neg, nI_m1, ltv, nI_z, upd_at, upd_off, upr_off, usv, upd_upd]
      exact hK _ _ hI
  · simp (disch := first | omega | assumption) only [e75, e138, h12, h3, rg_debP, rg_cls, i32v, if_neg hx, s112i, n1_toInt (show nc ≤ 6 by omega), kv, rv, tv, lnv, lv0, clv, clr_i, clr_r, clr_n, clr_l, true_and, and_true, Option.toList_some, Option.toList_none, List.cons_append, List.nil_append, bI_0, bI_1, bI_or, ↓reduceIte, or_true, true_or, eq_self, irv, i0_add, not_true_eq_false, not_false_eq_true, Bool.false_eq_true, and_false, false_and, or_false, false_or, reduceCtorEq, nev, ngv, nc_or, in64, l64v, ite_not, ite_notP, up2_upr, upr_upr, upr_at, nI_cl, nI_ir, iav, nI_1, nI_mul6, nI_6mul, nI_lt2, nI_eq2, nI_neg, nI_m1, ltv, nI_z, upd_at, upd_off, upr_off, usv, upd_upd]
    exact hK _ _ hI
theorem s23 (d c : Nat) (x : Int32) (M : Mem) (Q : Option Value → Mem → Prop) (hc : c < 240) (h1 : M 1 1 = nI c) : Wp d 23 0 [.ref 1, .int x] [] M Q ↔ Q none (upr (upr M 1 (upd (M 1) 1 (nI (c + 1)))) 2 (upd (M 2) c x)) := by
  simp (disch := first | omega | assumption) only [e23, h1, hc, usw, kv, rv, tv, lnv, lv0, clv, clr_i, clr_r, clr_n, clr_l, true_and, and_true, Option.toList_some, Option.toList_none, List.cons_append, List.nil_append, bI_0, bI_1, bI_or, ↓reduceIte, or_true, true_or, eq_self, irv, i0_add, not_true_eq_false, not_false_eq_true, Bool.false_eq_true, and_false, false_and, or_false, false_or, reduceCtorEq, nev, ngv, nc_or, in64, l64v, ite_not, ite_notP, up2_upr, upr_upr, upr_at, nI_cl, nI_ir, iav, nI_1, nI_mul6, nI_6mul, nI_lt2, nI_eq2, nI_neg, nI_m1, ltv, nI_z, upd_at, upd_off, upr_off, usv, upd_upd]
theorem pair_feed (d : Nat) (x : Int32) (M : Mem) (hI : Inv M) : PairOK (d + 2) 71 111 [.ref 0, .int x] [.ref 40, .int x] M := by
  intro K hK
  obtain ⟨n, nc, np, B, hY, hL, hP, h0, h1, hT, hH, hB, hS, hSt⟩ := id hI
  obtain ⟨c, hc, t1, t2, t3⟩ := hT
  by_cases hx : rg x 0 255
  · by_cases hf : c < 240
    · have hne : ¬ c = 240 := by omega
      simp (disch := first | omega | assumption) only [e71, e111, t1, t2, rg_cls, i32v, if_pos hx, s112i, hf, hne, s23 _ c _ _ _ hf t1, kv, rv, tv, lnv, lv0, clv, clr_i, clr_r, clr_n, clr_l, true_and, and_true, Option.toList_some, Option.toList_none, List.cons_append, List.nil_append, bI_0, bI_1, bI_or, ↓reduceIte, or_true, true_or, eq_self, irv, i0_add, not_true_eq_false, not_false_eq_true, Bool.false_eq_true, and_false, false_and, or_false, false_or, reduceCtorEq, nev, ngv, nc_or, in64, l64v, ite_not, ite_notP, up2_upr, upr_upr, upr_at, nI_cl, nI_ir, iav, nI_1, nI_mul6, nI_6mul, nI_lt2, nI_eq2, nI_neg, nI_m1, ltv, nI_z, upd_at, upd_off, upr_off, usv, upd_upd]
      refine hK _ _ ⟨n, nc, np, B, ?_⟩
      simp (disch := first | omega | assumption) only [YR_upr, LM_upr, ST_upr, kv, rv, tv, lnv, lv0, clv, clr_i, clr_r, clr_n, clr_l, true_and, and_true, Option.toList_some, Option.toList_none, List.cons_append, List.nil_append, bI_0, bI_1, bI_or, ↓reduceIte, or_true, true_or, eq_self, irv, i0_add, not_true_eq_false, not_false_eq_true, Bool.false_eq_true, and_false, false_and, or_false, false_or, reduceCtorEq, nev, ngv, nc_or, in64, l64v, ite_not, ite_notP, up2_upr, upr_upr, upr_at, nI_cl, nI_ir, iav, nI_1, nI_mul6, nI_6mul, nI_lt2, nI_eq2, nI_neg, nI_m1, ltv, nI_z, upd_at, upd_off, upr_off, usv, upd_upd]
      refine ⟨hY, hL, hP, h0, h1, ⟨c + 1, by omega, rfl, rfl, fun i hi => ?_⟩, hH, hB, hS, hSt⟩
      by_cases h : i = c
      · subst h
        rw [upd_at, upd_at]
        exact ⟨rfl, hx⟩
      · rw [upd_off h, upd_off h]
        exact t3 i (by omega)
    · have hce : c = 240 := by omega
      simp (disch := first | omega | assumption) only [e71, e111, t1, t2, rg_cls, i32v, if_pos hx, s112i, hf, hce, kv, rv, tv, lnv, lv0, clv, clr_i, clr_r, clr_n, clr_l, true_and, and_true, Option.toList_some, Option.toList_none, List.cons_append, List.nil_append, bI_0, bI_1, bI_or, ↓reduceIte, or_true, true_or, eq_self, irv, i0_add, not_true_eq_false, not_false_eq_true, Bool.false_eq_true, and_false, false_and, or_false, false_or, reduceCtorEq, nev, ngv, nc_or, in64, l64v, ite_not, ite_notP, up2_upr, upr_upr, upr_at, nI_cl, nI_ir, iav, nI_1, nI_mul6, nI_6mul, nI_lt2, nI_eq2, nI_neg, nI_m1, ltv, nI_z, upd_at, upd_off, upr_off, usv, upd_upd]
      exact hK _ _ hI
  · simp (disch := first | omega | assumption) only [e71, e111, t1, t2, rg_cls, i32v, if_neg hx, s112i, kv, rv, tv, lnv, lv0, clv, clr_i, clr_r, clr_n, clr_l, true_and, and_true, Option.toList_some, Option.toList_none, List.cons_append, List.nil_append, bI_0, bI_1, bI_or, ↓reduceIte, or_true, true_or, eq_self, irv, i0_add, not_true_eq_false, not_false_eq_true, Bool.false_eq_true, and_false, false_and, or_false, false_or, reduceCtorEq, nev, ngv, nc_or, in64, l64v, ite_not, ite_notP, up2_upr, upr_upr, upr_at, nI_cl, nI_ir, iav, nI_1, nI_mul6, nI_6mul, nI_lt2, nI_eq2, nI_neg, nI_m1, ltv, nI_z, upd_at, upd_off, upr_off, usv, upd_upd]
    exact hK _ _ hI
theorem pair_place (d : Nat) (x y : Int32) (M : Mem) (hI : Inv M) : PairOK (d + 2) 80 145 [.ref 0, .int x, .int y] [.ref 40, .int x, .int y] M := by
  intro K hK
  obtain ⟨n, nc, np, B, hY, -⟩ := id hI
  obtain ⟨⟨g1, g2, g3, g4⟩, -, -, ⟨h14, h5⟩, -, -, -, -, -, hC⟩ := hY
  by_cases hx : rg x 0 (np - 1)
  · obtain ⟨k, hk, rfl⟩ := rg_k (by omega) hx
    obtain ⟨⟨c1, -⟩, ⟨c2, -⟩, ⟨c3, -⟩⟩ := hC k hk
    have e0 : (32 : Int32) + 6 * 0 + nI k = nI (32 + k) := nI_add 32 k
    have e1 : (32 : Int32) + 6 * 1 + nI k = nI (38 + k) := nI_add 38 k
    have e2 : (32 : Int32) + 6 * 2 + nI k = nI (44 + k) := nI_add 44 k
    have r0 : rg 0 0 2 := by decide
    have r1 : rg 1 0 2 := by decide
    have r2 : rg 2 0 2 := by decide
    by_cases y0 : y = 0
    · subst y0
      simp (disch := first | omega | assumption) only [e80, e145, h14, h5, rg_debP, if_pos hx, if_pos r0, hk, s112i, n1_toInt (show np ≤ 6 by omega), e0, c1, kv, rv, tv, lnv, lv0, clv, clr_i, clr_r, clr_n, clr_l, true_and, and_true, Option.toList_some, Option.toList_none, List.cons_append, List.nil_append, bI_0, bI_1, bI_or, ↓reduceIte, or_true, true_or, eq_self, irv, i0_add, not_true_eq_false, not_false_eq_true, Bool.false_eq_true, and_false, false_and, or_false, false_or, reduceCtorEq, nev, ngv, nc_or, in64, l64v, ite_not, ite_notP, up2_upr, upr_upr, upr_at, nI_cl, nI_ir, iav, nI_1, nI_mul6, nI_6mul, nI_lt2, nI_eq2, nI_neg, nI_m1, ltv, nI_z, upd_at, upd_off, upr_off, usv, upd_upd]
      exact hK _ _ hI
    · by_cases y1 : y = 1
      · subst y1
        simp (disch := first | omega | assumption) only [e80, e145, h14, h5, rg_debP, if_pos hx, if_pos r1, hk, s112i, n1_toInt (show np ≤ 6 by omega), e1, c2, kv, rv, tv, lnv, lv0, clv, clr_i, clr_r, clr_n, clr_l, true_and, and_true, Option.toList_some, Option.toList_none, List.cons_append, List.nil_append, bI_0, bI_1, bI_or, ↓reduceIte, or_true, true_or, eq_self, irv, i0_add, not_true_eq_false, not_false_eq_true, Bool.false_eq_true, and_false, false_and, or_false, false_or, reduceCtorEq, nev, ngv, nc_or, in64, l64v, ite_not, ite_notP, up2_upr, upr_upr, upr_at, nI_cl, nI_ir, iav, nI_1, nI_mul6, nI_6mul, nI_lt2, nI_eq2, nI_neg, nI_m1, ltv, nI_z, upd_at, upd_off, upr_off, usv, upd_upd]
        exact hK _ _ hI
      · by_cases y2 : y = 2
        · subst y2
          simp (disch := first | omega | assumption) only [e80, e145, h14, h5, rg_debP, if_pos hx, if_pos r2, hk, s112i, n1_toInt (show np ≤ 6 by omega), e2, c3, kv, rv, tv, lnv, lv0, clv, clr_i, clr_r, clr_n, clr_l, true_and, and_true, Option.toList_some, Option.toList_none, List.cons_append, List.nil_append, bI_0, bI_1, bI_or, ↓reduceIte, or_true, true_or, eq_self, irv, i0_add, not_true_eq_false, not_false_eq_true, Bool.false_eq_true, and_false, false_and, or_false, false_or, reduceCtorEq, nev, ngv, nc_or, in64, l64v, ite_not, ite_notP, up2_upr, upr_upr, upr_at, nI_cl, nI_ir, iav, nI_1, nI_mul6, nI_6mul, nI_lt2, nI_eq2, nI_neg, nI_m1, ltv, nI_z, upd_at, upd_off, upr_off, usv, upd_upd]
          exact hK _ _ hI
        · have hy : ¬ rg y 0 2 := by
            intro z
            obtain ⟨j, hj, rfl⟩ := rg_nI (n := 2) z
            have : j = 0 ∨ j = 1 ∨ j = 2 := by omega
            rcases this with rfl | rfl | rfl
            · exact y0 rfl
            · exact y1 rfl
            · exact y2 rfl
          simp (disch := first | omega | assumption) only [e80, e145, h14, h5, rg_debP, if_pos hx, if_neg hy, hk, s112i, n1_toInt (show np ≤ 6 by omega), y0, y1, y2, kv, rv, tv, lnv, lv0, clv, clr_i, clr_r, clr_n, clr_l, true_and, and_true, Option.toList_some, Option.toList_none, List.cons_append, List.nil_append, bI_0, bI_1, bI_or, ↓reduceIte, or_true, true_or, eq_self, irv, i0_add, not_true_eq_false, not_false_eq_true, Bool.false_eq_true, and_false, false_and, or_false, false_or, reduceCtorEq, nev, ngv, nc_or, in64, l64v, ite_not, ite_notP, up2_upr, upr_upr, upr_at, nI_cl, nI_ir, iav, nI_1, nI_mul6, nI_6mul, nI_lt2, nI_eq2, nI_neg, nI_m1, ltv, nI_z, upd_at, upd_off, upr_off, usv, upd_upd]
          exact hK _ _ hI
  · simp (disch := first | omega | assumption) only [e80, e145, h14, h5, rg_debP, if_neg hx, s112i, n1_toInt (show np ≤ 6 by omega), kv, rv, tv, lnv, lv0, clv, clr_i, clr_r, clr_n, clr_l, true_and, and_true, Option.toList_some, Option.toList_none, List.cons_append, List.nil_append, bI_0, bI_1, bI_or, ↓reduceIte, or_true, true_or, eq_self, irv, i0_add, not_true_eq_false, not_false_eq_true, Bool.false_eq_true, and_false, false_and, or_false, false_or, reduceCtorEq, nev, ngv, nc_or, in64, l64v, ite_not, ite_notP, up2_upr, upr_upr, upr_at, nI_cl, nI_ir, iav, nI_1, nI_mul6, nI_6mul, nI_lt2, nI_eq2, nI_neg, nI_m1, ltv, nI_z, upd_at, upd_off, upr_off, usv, upd_upd]
    exact hK _ _ hI
