/-! part 44: outing -/
theorem pair_outing (d : Nat) (x y : Int32) (M : Mem) (hI : Inv M) : PairOK (d + 11) 96 172 [.ref 0, .int x, .int y] [.ref 40, .int x, .int y] M := by
  intro K hK
  obtain ⟨n, nc, np, B, hY, hL, hP, h0, h1, hT, hH, hB, hS, hSt⟩ := id hI
  obtain ⟨⟨-, -, g3, -⟩, -, -, ⟨h14, h5⟩, -, -, -, -, -, hPl⟩ := id hY
  by_cases hx : rg x 0 99
  · by_cases hy : rg y 0 2
    · obtain ⟨t, ht, rfl⟩ := rg_nI (n := 99) hx
      have hc : ∀ p, p < np → (M 21 p = nI (M 21 p).toNatClampNeg ∧ (M 21 p).toNatClampNeg ≤ 20) ∧ (M 22 p = nI (M 22 p).toNatClampNeg ∧ (M 22 p).toNatClampNeg ≤ 20) ∧ (M 23 p = nI (M 23 p).toNatClampNeg ∧ (M 23 p).toNatClampNeg ≤ 99) := fun p hp => by
        obtain ⟨⟨-, r1⟩, ⟨-, r2⟩, ⟨-, r3⟩⟩ := hPl p hp
        obtain ⟨a, ha, e1⟩ := rg_nI (n := 20) r1
        obtain ⟨b, hb, e2⟩ := rg_nI (n := 20) r2
        obtain ⟨c, hc, e3⟩ := rg_nI (n := 99) r3
        rw [e1, e2, e3, nI_cl (by omega), nI_cl (by omega), nI_cl (by omega)]
        exact ⟨⟨rfl, ha⟩, ⟨rfl, hb⟩, ⟨rfl, hc⟩⟩
      have hC : PLC M np (fun p => (M 21 p).toNatClampNeg) (fun p => (M 22 p).toNatClampNeg) (fun p => (M 23 p).toNatClampNeg) := ⟨g3, h14, fun p hp => ⟨(hc p hp).1.1, (hc p hp).2.1.1, (hc p hp).2.2.1, (hc p hp).1.2, (hc p hp).2.1.2, (hc p hp).2.2.2⟩⟩
      have hM : PLM M np (fun p => (M 21 p).toNatClampNeg) (fun p => (M 22 p).toNatClampNeg) (fun p => (M 23 p).toNatClampNeg) := ⟨g3, h5, fun p hp => ⟨(hPl p hp).1.1.trans (hc p hp).1.1, (hPl p hp).2.1.1.trans (hc p hp).2.1.1, (hPl p hp).2.2.1.trans (hc p hp).2.2.1, (hc p hp).1.2, (hc p hp).2.1.2, (hc p hp).2.2.2⟩⟩
      generalize (fun p => (M 21 p).toNatClampNeg) = xs at hC hM
      generalize (fun p => (M 22 p).toNatClampNeg) = ys at hC hM
      generalize (fun p => (M 23 p).toNatClampNeg) = ws at hC hM
      have e68 := fun Q => s68 d np t xs ys ws M Q ht hC
      have e173 := fun N Q (hN : N 41 = M 41) => s173 (d + 7) np t xs ys ws N Q ht (by unfold PLM; rw [hN]; exact hM)
      generalize goF np t xs ys ws 7 0 none 0 0 0 (0, 0, 0) = b at e68 e173
      have h3 : y = 0 ∨ y = 1 ∨ y = 2 := by
        obtain ⟨j, hj, rfl⟩ := rg_nI (n := 2) hy
        have : j = 0 ∨ j = 1 ∨ j = 2 := by omega
        rcases this with rfl | rfl | rfl
        · exact Or.inl rfl
        · exact Or.inr (Or.inl rfl)
        · exact Or.inr (Or.inr rfl)
      have e99 : ¬ 99 < t := by omega
      have e99' : (99 : Int32) < nI t ↔ False := iff_false_intro (fun z => by have := (nI_lt2 (a := 99) (by omega) (by omega : t < 2147483648)).mp z; omega)
      have z2 : ((2 : Int32) = 0 ↔ False) ∧ ((2 : Int32) = 1 ↔ False) := ⟨iff_false_intro (by decide), iff_false_intro (by decide)⟩
      have hfin : ∀ h1' h2' h3' h4', Inv (SM (upr M 29 (rW (M 29) t b)) b h1' h2' h3' h4') := fun a1 a2 a3 a4 => by
        refine ⟨n, nc, np, B, ?_⟩
        unfold SM rB
        simp (maxSteps := 400000) (disch := first | omega | assumption) only [YR_upr, LM_upr, ST_upr, kv, rv, tv, lnv, lv0, clv, clr_i, clr_r, clr_n, clr_l, true_and, and_true, Option.toList_some, Option.toList_none, List.cons_append, List.nil_append, bI_0, bI_1, bI_or, ↓reduceIte, or_true, true_or, eq_self, irv, i0_add, not_true_eq_false, not_false_eq_true, Bool.false_eq_true, and_false, false_and, or_false, false_or, reduceCtorEq, nev, ngv, nc_or, in64, l64v, ite_not, ite_notP, up2_upr, upr_upr, upr_at, nI_cl, nI_ir, iav, nI_1, nI_mul6, nI_6mul, nI_lt2, nI_eq2, nI_neg, nI_m1, ltv, nI_z, upd_at, upd_off, upr_off, usv, upd_upd]
        exact ⟨hY, hL, hP, h0, h1, hT, hH, hB, hS, hSt⟩
      rcases h3 with rfl | rfl | rfl
      · simp (maxSteps := 400000) (disch := first | omega | assumption) only [e96, e172, s112i, rg_cls, rg_ite, i32v, iff_true_intro hx, iff_true_intro hy, bI_T, z01, e99, e99', e68, rW_s, kv, rv, tv, lnv, lv0, clv, clr_i, clr_r, clr_n, clr_l, true_and, and_true, Option.toList_some, Option.toList_none, List.cons_append, List.nil_append, bI_0, bI_1, bI_or, ↓reduceIte, or_true, true_or, eq_self, irv, i0_add, not_true_eq_false, not_false_eq_true, Bool.false_eq_true, and_false, false_and, or_false, false_or, reduceCtorEq, nev, ngv, nc_or, in64, l64v, ite_not, ite_notP, up2_upr, upr_upr, upr_at, nI_cl, nI_ir, iav, nI_1, nI_mul6, nI_6mul, nI_lt2, nI_eq2, nI_neg, nI_m1, ltv, nI_z, upd_at, upd_off, upr_off, usv, upd_upd]
        obtain ⟨a1, a2, a3, a4, hw⟩ := e173 (upr M 29 (rW (M 29) t b)) (fun r M2 => Wp (d + 10 + 1) 172 32 [.ref 40, .int (nI t), .int 0] (r.toList ++ []) M2 fun r2 M2 => K (some (.int b.1)) r2 M2) rfl
        refine hw.mpr ?_
        have hf := hfin a1 a2 a3 a4
        have e1 : SM (upr M 29 (rW (M 29) t b)) b a1 a2 a3 a4 40 26 = b.1 := rfl
        generalize SM (upr M 29 (rW (M 29) t b)) b a1 a2 a3 a4 = N at hf e1 ⊢
        simp (maxSteps := 400000) (disch := first | omega | assumption) only [e172, e1, kv, rv, tv, lnv, lv0, clv, clr_i, clr_r, clr_n, clr_l, true_and, and_true, Option.toList_some, Option.toList_none, List.cons_append, List.nil_append, bI_0, bI_1, bI_or, ↓reduceIte, or_true, true_or, eq_self, irv, i0_add, not_true_eq_false, not_false_eq_true, Bool.false_eq_true, and_false, false_and, or_false, false_or, reduceCtorEq, nev, ngv, nc_or, in64, l64v, ite_not, ite_notP, up2_upr, upr_upr, upr_at, nI_cl, nI_ir, iav, nI_1, nI_mul6, nI_6mul, nI_lt2, nI_eq2, nI_neg, nI_m1, ltv, nI_z, upd_at, upd_off, upr_off, usv, upd_upd]
        exact hK _ _ hf
      · simp (maxSteps := 400000) (disch := first | omega | assumption) only [e96, e172, s112i, rg_cls, rg_ite, i32v, iff_true_intro hx, iff_true_intro hy, bI_T, z01, e99, e99', e68, rW_s, kv, rv, tv, lnv, lv0, clv, clr_i, clr_r, clr_n, clr_l, true_and, and_true, Option.toList_some, Option.toList_none, List.cons_append, List.nil_append, bI_0, bI_1, bI_or, ↓reduceIte, or_true, true_or, eq_self, irv, i0_add, not_true_eq_false, not_false_eq_true, Bool.false_eq_true, and_false, false_and, or_false, false_or, reduceCtorEq, nev, ngv, nc_or, in64, l64v, ite_not, ite_notP, up2_upr, upr_upr, upr_at, nI_cl, nI_ir, iav, nI_1, nI_mul6, nI_6mul, nI_lt2, nI_eq2, nI_neg, nI_m1, ltv, nI_z, upd_at, upd_off, upr_off, usv, upd_upd]
        obtain ⟨a1, a2, a3, a4, hw⟩ := e173 (upr M 29 (rW (M 29) t b)) (fun r M2 => Wp (d + 10 + 1) 172 32 [.ref 40, .int (nI t), .int 1] (r.toList ++ []) M2 fun r2 M2 => K (some (.int b.2.1)) r2 M2) rfl
        refine hw.mpr ?_
        have hf := hfin a1 a2 a3 a4
        have e1 : SM (upr M 29 (rW (M 29) t b)) b a1 a2 a3 a4 40 27 = b.2.1 := rfl
        generalize SM (upr M 29 (rW (M 29) t b)) b a1 a2 a3 a4 = N at hf e1 ⊢
        simp (maxSteps := 400000) (disch := first | omega | assumption) only [e172, e1, z01, kv, rv, tv, lnv, lv0, clv, clr_i, clr_r, clr_n, clr_l, true_and, and_true, Option.toList_some, Option.toList_none, List.cons_append, List.nil_append, bI_0, bI_1, bI_or, ↓reduceIte, or_true, true_or, eq_self, irv, i0_add, not_true_eq_false, not_false_eq_true, Bool.false_eq_true, and_false, false_and, or_false, false_or, reduceCtorEq, nev, ngv, nc_or, in64, l64v, ite_not, ite_notP, up2_upr, upr_upr, upr_at, nI_cl, nI_ir, iav, nI_1, nI_mul6, nI_6mul, nI_lt2, nI_eq2, nI_neg, nI_m1, ltv, nI_z, upd_at, upd_off, upr_off, usv, upd_upd]
        exact hK _ _ hf
      · simp (maxSteps := 400000) (disch := first | omega | assumption) only [e96, e172, s112i, rg_cls, rg_ite, i32v, iff_true_intro hx, iff_true_intro hy, bI_T, z01, z2, e99, e99', e68, rW_s, kv, rv, tv, lnv, lv0, clv, clr_i, clr_r, clr_n, clr_l, true_and, and_true, Option.toList_some, Option.toList_none, List.cons_append, List.nil_append, bI_0, bI_1, bI_or, ↓reduceIte, or_true, true_or, eq_self, irv, i0_add, not_true_eq_false, not_false_eq_true, Bool.false_eq_true, and_false, false_and, or_false, false_or, reduceCtorEq, nev, ngv, nc_or, in64, l64v, ite_not, ite_notP, up2_upr, upr_upr, upr_at, nI_cl, nI_ir, iav, nI_1, nI_mul6, nI_6mul, nI_lt2, nI_eq2, nI_neg, nI_m1, ltv, nI_z, upd_at, upd_off, upr_off, usv, upd_upd]
        obtain ⟨a1, a2, a3, a4, hw⟩ := e173 (upr M 29 (rW (M 29) t b)) (fun r M2 => Wp (d + 10 + 1) 172 32 [.ref 40, .int (nI t), .int 2] (r.toList ++ []) M2 fun r2 M2 => K (some (.int b.2.2)) r2 M2) rfl
        refine hw.mpr ?_
        have hf := hfin a1 a2 a3 a4
        have e1 : SM (upr M 29 (rW (M 29) t b)) b a1 a2 a3 a4 40 28 = b.2.2 := rfl
        generalize SM (upr M 29 (rW (M 29) t b)) b a1 a2 a3 a4 = N at hf e1 ⊢
        simp (maxSteps := 400000) (disch := first | omega | assumption) only [e172, e1, z2, kv, rv, tv, lnv, lv0, clv, clr_i, clr_r, clr_n, clr_l, true_and, and_true, Option.toList_some, Option.toList_none, List.cons_append, List.nil_append, bI_0, bI_1, bI_or, ↓reduceIte, or_true, true_or, eq_self, irv, i0_add, not_true_eq_false, not_false_eq_true, Bool.false_eq_true, and_false, false_and, or_false, false_or, reduceCtorEq, nev, ngv, nc_or, in64, l64v, ite_not, ite_notP, up2_upr, upr_upr, upr_at, nI_cl, nI_ir, iav, nI_1, nI_mul6, nI_6mul, nI_lt2, nI_eq2, nI_neg, nI_m1, ltv, nI_z, upd_at, upd_off, upr_off, usv, upd_upd]
        exact hK _ _ hf
    · simp (maxSteps := 400000) (disch := first | omega | assumption) only [e96, e172, s112i, rg_cls, rg_ite, i32v, iff_true_intro hx, iff_false_intro hy, bI_T, bI_F, z01, kv, rv, tv, lnv, lv0, clv, clr_i, clr_r, clr_n, clr_l, true_and, and_true, Option.toList_some, Option.toList_none, List.cons_append, List.nil_append, bI_0, bI_1, bI_or, ↓reduceIte, or_true, true_or, eq_self, irv, i0_add, not_true_eq_false, not_false_eq_true, Bool.false_eq_true, and_false, false_and, or_false, false_or, reduceCtorEq, nev, ngv, nc_or, in64, l64v, ite_not, ite_notP, up2_upr, upr_upr, upr_at, nI_cl, nI_ir, iav, nI_1, nI_mul6, nI_6mul, nI_lt2, nI_eq2, nI_neg, nI_m1, ltv, nI_z, upd_at, upd_off, upr_off, usv, upd_upd]
      exact hK _ _ hI
  · by_cases hy : rg y 0 2
    · simp (maxSteps := 400000) (disch := first | omega | assumption) only [e96, e172, s112i, rg_cls, rg_ite, i32v, iff_false_intro hx, iff_true_intro hy, bI_T, bI_F, z01, kv, rv, tv, lnv, lv0, clv, clr_i, clr_r, clr_n, clr_l, true_and, and_true, Option.toList_some, Option.toList_none, List.cons_append, List.nil_append, bI_0, bI_1, bI_or, ↓reduceIte, or_true, true_or, eq_self, irv, i0_add, not_true_eq_false, not_false_eq_true, Bool.false_eq_true, and_false, false_and, or_false, false_or, reduceCtorEq, nev, ngv, nc_or, in64, l64v, ite_not, ite_notP, up2_upr, upr_upr, upr_at, nI_cl, nI_ir, iav, nI_1, nI_mul6, nI_6mul, nI_lt2, nI_eq2, nI_neg, nI_m1, ltv, nI_z, upd_at, upd_off, upr_off, usv, upd_upd]
      exact hK _ _ hI
    · simp (maxSteps := 400000) (disch := first | omega | assumption) only [e96, e172, s112i, rg_cls, rg_ite, i32v, iff_false_intro hx, iff_false_intro hy, bI_T, bI_F, z01, kv, rv, tv, lnv, lv0, clv, clr_i, clr_r, clr_n, clr_l, true_and, and_true, Option.toList_some, Option.toList_none, List.cons_append, List.nil_append, bI_0, bI_1, bI_or, ↓reduceIte, or_true, true_or, eq_self, irv, i0_add, not_true_eq_false, not_false_eq_true, Bool.false_eq_true, and_false, false_and, or_false, false_or, reduceCtorEq, nev, ngv, nc_or, in64, l64v, ite_not, ite_notP, up2_upr, upr_upr, upr_at, nI_cl, nI_ir, iav, nI_1, nI_mul6, nI_6mul, nI_lt2, nI_eq2, nI_neg, nI_m1, ltv, nI_z, upd_at, upd_off, upr_off, usv, upd_upd]
      exact hK _ _ hI
