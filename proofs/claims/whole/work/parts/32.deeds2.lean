/-! part 32: deeds: in, out, settle, lend, sue -/
theorem pair_goOut (d : Nat) (x : Int32) (M : Mem) (hI : Inv M) : PairOK (d + 3) 84 154 [.ref 0, .int x] [.ref 40, .int x] M := by
  intro K hK
  obtain ⟨n, nc, np, B, hY, hL, ⟨px, u, hx16, hu, p1, p2, p5, hq⟩, h0, h1, hT, hH, hB, hS, hSt⟩ := id hI
  obtain ⟨⟨g1, g2, g3, g4⟩, ⟨h13, h4⟩, -⟩ := id hY
  obtain ⟨l1, l2, -⟩ := id hL
  by_cases hx : rg x 0 (n - 1)
  · obtain ⟨k, hk, rfl⟩ := rg_k (by omega) hx
    have hk6 : k < 6 := by omega
    by_cases hb : M 25 k = 1
    · have ew : whoN (upd (M 43) k 0) 0 n = whoN (upd (M 25) k 0) 0 n := whoN_c (fun q hq => by
        by_cases e : q = k
        · rw [e, pk_us, pk_us]
        · rw [pk_un e, pk_un e]; exact l1 q (by omega))
      simp (maxSteps := 400000) (disch := first | omega | assumption | (simp (disch := omega) only [upr_off, upr_at, upd_off]; assumption)) only [e84, e154, s77 _ n _ M _ g1 h13, s141 _ n _ _ _ g1, iff_true_intro hx, l1 k hk6, hb, s29 _ px u M _ hx16 hu p1 p2, s42 _ n _ _ _ g1, s148p _ u _ _ hu, s127 _ n _ _ _ g1, ew, kv, rv, tv, lnv, lv0, clv, clr_i, clr_r, clr_n, clr_l, true_and, and_true, Option.toList_some, Option.toList_none, List.cons_append, List.nil_append, bI_0, bI_1, bI_or, ↓reduceIte, or_true, true_or, eq_self, irv, i0_add, not_true_eq_false, not_false_eq_true, Bool.false_eq_true, and_false, false_and, or_false, false_or, reduceCtorEq, nev, ngv, nc_or, in64, l64v, ite_not, ite_notP, up2_upr, upr_upr, upr_at, nI_cl, nI_ir, iav, nI_1, nI_mul6, nI_6mul, nI_lt2, nI_eq2, nI_neg, nI_m1, ltv, nI_z, upd_at, upd_off, upr_off, usv, upd_upd]
      refine hK _ _ ⟨n, nc, np, B, ?_⟩
      unfold LM
      simp (maxSteps := 400000) (disch := first | omega | assumption) only [YR_upr, ST_upr, kv, rv, tv, lnv, lv0, clv, clr_i, clr_r, clr_n, clr_l, true_and, and_true, Option.toList_some, Option.toList_none, List.cons_append, List.nil_append, bI_0, bI_1, bI_or, ↓reduceIte, or_true, true_or, eq_self, irv, i0_add, not_true_eq_false, not_false_eq_true, Bool.false_eq_true, and_false, false_and, or_false, false_or, reduceCtorEq, nev, ngv, nc_or, in64, l64v, ite_not, ite_notP, up2_upr, upr_upr, upr_at, nI_cl, nI_ir, iav, nI_1, nI_mul6, nI_6mul, nI_lt2, nI_eq2, nI_neg, nI_m1, ltv, nI_z, upd_at, upd_off, upr_off, usv, upd_upd]
      exact ⟨hY, LR_is 0 hk6 hL, PR_push hx16 hu hq hL, h0, h1, hT, hH, hB, hS, hSt⟩
    · simp (maxSteps := 400000) (disch := first | omega | assumption) only [e84, e154, s77 _ n _ M _ g1 h13, s141 _ n _ M _ g1 h4, iff_true_intro hx, l1 k hk6, iff_false_intro hb, kv, rv, tv, lnv, lv0, clv, clr_i, clr_r, clr_n, clr_l, true_and, and_true, Option.toList_some, Option.toList_none, List.cons_append, List.nil_append, bI_0, bI_1, bI_or, ↓reduceIte, or_true, true_or, eq_self, irv, i0_add, not_true_eq_false, not_false_eq_true, Bool.false_eq_true, and_false, false_and, or_false, false_or, reduceCtorEq, nev, ngv, nc_or, in64, l64v, ite_not, ite_notP, up2_upr, upr_upr, upr_at, nI_cl, nI_ir, iav, nI_1, nI_mul6, nI_6mul, nI_lt2, nI_eq2, nI_neg, nI_m1, ltv, nI_z, upd_at, upd_off, upr_off, usv, upd_upd]
      exact hK _ _ hI
  · simp (maxSteps := 400000) (disch := first | omega | assumption) only [e84, e154, s77 _ n _ M _ g1 h13, s141 _ n _ M _ g1 h4, iff_false_intro hx, bI_F, kv, rv, tv, lnv, lv0, clv, clr_i, clr_r, clr_n, clr_l, true_and, and_true, Option.toList_some, Option.toList_none, List.cons_append, List.nil_append, bI_0, bI_1, bI_or, ↓reduceIte, or_true, true_or, eq_self, irv, i0_add, not_true_eq_false, not_false_eq_true, Bool.false_eq_true, and_false, false_and, or_false, false_or, reduceCtorEq, nev, ngv, nc_or, in64, l64v, ite_not, ite_notP, up2_upr, upr_upr, upr_at, nI_cl, nI_ir, iav, nI_1, nI_mul6, nI_6mul, nI_lt2, nI_eq2, nI_neg, nI_m1, ltv, nI_z, upd_at, upd_off, upr_off, usv, upd_upd]
    exact hK _ _ hI
