/-! part 26: images, loops that ask -/
theorem k52 : (52 : Int32) * 0 = nI 0 ∧ (52 : Int32) * 1 = nI 52 ∧ nI 0 + 51 = nI 51 ∧ nI 52 + 51 = nI 103 := by decide
theorem IR_set {n i : Nat} {o r im ke l is ca ba g : Nat → Int32} {a : Nat} (ha : a < 2147483648) (hL : LR n l is ca ba g) : IR n i (upd (upd o 2 (nI a)) 1 1) (pkF l is ca ba r 0) (upd (va_cpy g im 0 (52 * i) 51) (52 * i + 51) (nI a)) (upd ke i 1) := by
  refine ⟨Or.inr rfl, ?_, fun _ => ⟨pk_LPk hL (fun j hj => ?_), ?_, a, ha, rfl⟩⟩
  · rw [pk_us]; rfl
  · rw [pk_un (by omega), pk_cpy_in (by omega) (by omega), show 0 + (52 * i + j - 52 * i) = j by omega]
  · rw [pk_us]; rfl
theorem IR_c {n i : Nat} {o r im ke im' ke' : Nat → Int32} (hk : ke' i = ke i) (hm : ∀ j, j < 52 → im' (52 * i + j) = im (52 * i + j)) (h : IR n i o r im ke) : IR n i o r im' ke' := by
  obtain ⟨h1, h2, h3⟩ := h
  refine ⟨h1, hk.trans h2, fun z => ?_⟩
  obtain ⟨h4, h5, h6⟩ := h3 z
  exact ⟨LPk_c (fun _ _ _ => rfl) (fun j hj => hm j (by omega)) h4, (hm 51 (by omega)).trans h5, h6⟩
theorem pair_keep (d : Nat) (x : Int32) (M : Mem) (hI : Inv M) : PairOK (d + 3) 108 193 [.ref 0, .int x] [.ref 40, .int x] M := by
  intro K hK
  obtain ⟨n, nc, np, B, hY, hL, hP, h0, h1, hT, hH, hB, ⟨⟨a, ha, e1, e2⟩, e3⟩, hSt⟩ := id hI
  by_cases hx : rg x 0 1
  · have h3 : x = 0 ∨ x = 1 := by
      obtain ⟨j, hj, rfl⟩ := rg_nI (n := 1) hx
      have : j = 0 ∨ j = 1 := by omega
      rcases this with rfl | rfl
      · exact Or.inl rfl
      · exact Or.inr rfl
    rcases h3 with rfl | rfl
    · have ck := fun d M Q => c_keep d 0 M Q (by omega)
      simp (maxSteps := 400000) (disch := first | omega | assumption) only [e108, e109, e193, s112i, rg_cls, rg_ite, i32v, iff_true_intro hx, bI_T, z01, s21 _ 32 _ _ _ (Or.inl rfl), s28, e1, e2, k52, ck, b64, usw, kv, rv, tv, lnv, lv0, clv, clr_i, clr_r, clr_n, clr_l, true_and, and_true, Option.toList_some, Option.toList_none, List.cons_append, List.nil_append, bI_0, bI_1, bI_or, ↓reduceIte, or_true, true_or, eq_self, irv, i0_add, not_true_eq_false, not_false_eq_true, Bool.false_eq_true, and_false, false_and, or_false, false_or, reduceCtorEq, nev, ngv, nc_or, in64, l64v, ite_not, ite_notP, up2_upr, upr_upr, upr_at, nI_cl, nI_ir, iav, nI_1, nI_mul6, nI_6mul, nI_lt2, nI_eq2, nI_neg, nI_m1, ltv, nI_z, upd_at, upd_off, upr_off, usv, upd_upd]
      refine hK _ _ ⟨n, nc, np, B, ?_⟩
      simp (maxSteps := 400000) (disch := first | omega | assumption) only [YR_upr, LM_upr, ST_upr, kv, rv, tv, lnv, lv0, clv, clr_i, clr_r, clr_n, clr_l, true_and, and_true, Option.toList_some, Option.toList_none, List.cons_append, List.nil_append, bI_0, bI_1, bI_or, ↓reduceIte, or_true, true_or, eq_self, irv, i0_add, not_true_eq_false, not_false_eq_true, Bool.false_eq_true, and_false, false_and, or_false, false_or, reduceCtorEq, nev, ngv, nc_or, in64, l64v, ite_not, ite_notP, up2_upr, upr_upr, upr_at, nI_cl, nI_ir, iav, nI_1, nI_mul6, nI_6mul, nI_lt2, nI_eq2, nI_neg, nI_m1, ltv, nI_z, upd_at, upd_off, upr_off, usv, upd_upd]
      exact ⟨hY, hL, PR_0 hP, IR_set (i := 0) ha hL, IR_c (by rfl) (fun j hj => by rw [pk_un (by omega), pk_cpy_out (by omega)]) h1, hT, hH, hB, ⟨⟨a, ha, e1, e2⟩, e3⟩, hSt⟩
    · have ck := fun d M Q => c_keep d 52 M Q (by omega)
      simp (maxSteps := 400000) (disch := first | omega | assumption) only [e108, e109, e193, s112i, rg_cls, rg_ite, i32v, iff_true_intro hx, bI_T, z01, s21 _ 34 _ _ _ (Or.inr rfl), s28, e1, e2, k52, ck, b64, usw, kv, rv, tv, lnv, lv0, clv, clr_i, clr_r, clr_n, clr_l, true_and, and_true, Option.toList_some, Option.toList_none, List.cons_append, List.nil_append, bI_0, bI_1, bI_or, ↓reduceIte, or_true, true_or, eq_self, irv, i0_add, not_true_eq_false, not_false_eq_true, Bool.false_eq_true, and_false, false_and, or_false, false_or, reduceCtorEq, nev, ngv, nc_or, in64, l64v, ite_not, ite_notP, up2_upr, upr_upr, upr_at, nI_cl, nI_ir, iav, nI_1, nI_mul6, nI_6mul, nI_lt2, nI_eq2, nI_neg, nI_m1, ltv, nI_z, upd_at, upd_off, upr_off, usv, upd_upd]
      refine hK _ _ ⟨n, nc, np, B, ?_⟩
      simp (maxSteps := 400000) (disch := first | omega | assumption) only [YR_upr, LM_upr, ST_upr, kv, rv, tv, lnv, lv0, clv, clr_i, clr_r, clr_n, clr_l, true_and, and_true, Option.toList_some, Option.toList_none, List.cons_append, List.nil_append, bI_0, bI_1, bI_or, ↓reduceIte, or_true, true_or, eq_self, irv, i0_add, not_true_eq_false, not_false_eq_true, Bool.false_eq_true, and_false, false_and, or_false, false_or, reduceCtorEq, nev, ngv, nc_or, in64, l64v, ite_not, ite_notP, up2_upr, upr_upr, upr_at, nI_cl, nI_ir, iav, nI_1, nI_mul6, nI_6mul, nI_lt2, nI_eq2, nI_neg, nI_m1, ltv, nI_z, upd_at, upd_off, upr_off, usv, upd_upd]
      exact ⟨hY, hL, PR_0 hP, IR_c (by rfl) (fun j hj => by rw [pk_un (by omega), pk_cpy_out (by omega)]) h0, IR_set (i := 1) ha hL, hT, hH, hB, ⟨⟨a, ha, e1, e2⟩, e3⟩, hSt⟩
  · simp (maxSteps := 400000) (disch := first | omega | assumption) only [e108, e193, s112i, rg_cls, rg_ite, i32v, iff_false_intro hx, bI_F, kv, rv, tv, lnv, lv0, clv, clr_i, clr_r, clr_n, clr_l, true_and, and_true, Option.toList_some, Option.toList_none, List.cons_append, List.nil_append, bI_0, bI_1, bI_or, ↓reduceIte, or_true, true_or, eq_self, irv, i0_add, not_true_eq_false, not_false_eq_true, Bool.false_eq_true, and_false, false_and, or_false, false_or, reduceCtorEq, nev, ngv, nc_or, in64, l64v, ite_not, ite_notP, up2_upr, upr_upr, upr_at, nI_cl, nI_ir, iav, nI_1, nI_mul6, nI_6mul, nI_lt2, nI_eq2, nI_neg, nI_m1, ltv, nI_z, upd_at, upd_off, upr_off, usv, upd_upd]
    exact hK _ _ hI
theorem pair_goBack (d : Nat) (x : Int32) (M : Mem) (hI : Inv M) : PairOK (d + 3) 110 194 [.ref 0, .int x, .null] [.ref 40, .int x] M := by
  intro K hK
  obtain ⟨n, nc, np, B, hY, hL, hP, h0, h1, hT, hH, hB, ⟨⟨a, ha, e1, e2⟩, e3⟩, hSt⟩ := id hI
  by_cases hx : rg x 0 1
  · have h3 : x = 0 ∨ x = 1 := by
      obtain ⟨j, hj, rfl⟩ := rg_nI (n := 1) hx
      have : j = 0 ∨ j = 1 := by omega
      rcases this with rfl | rfl
      · exact Or.inl rfl
      · exact Or.inr rfl
    rcases h3 with rfl | rfl
    · obtain ⟨i1, i2, i3⟩ := id h0
      rcases i1 with i1 | i1
      · simp (maxSteps := 400000) (disch := first | omega | assumption) only [e110, e109, e194, s112i, rg_cls, rg_ite, i32v, iff_true_intro hx, bI_T, z01, i1, i2, kv, rv, tv, lnv, lv0, clv, clr_i, clr_r, clr_n, clr_l, true_and, and_true, Option.toList_some, Option.toList_none, List.cons_append, List.nil_append, bI_0, bI_1, bI_or, ↓reduceIte, or_true, true_or, eq_self, irv, i0_add, not_true_eq_false, not_false_eq_true, Bool.false_eq_true, and_false, false_and, or_false, false_or, reduceCtorEq, nev, ngv, nc_or, in64, l64v, ite_not, ite_notP, up2_upr, upr_upr, upr_at, nI_cl, nI_ir, iav, nI_1, nI_mul6, nI_6mul, nI_lt2, nI_eq2, nI_neg, nI_m1, ltv, nI_z, upd_at, upd_off, upr_off, usv, upd_upd]
        exact hK _ _ hI
      · obtain ⟨i4, i5, b, hb, i6⟩ := i3 i1
        have i5' : M 46 51 = nI b := i5.trans i6
        have cb := fun d M Q => c_back d 0 M Q (by omega)
        simp (maxSteps := 400000) (disch := first | omega | assumption) only [e110, e109, e194, s112i, rg_cls, rg_ite, i32v, iff_true_intro hx, bI_T, z01, i1, i2, s22 _ 32 _ _ (Or.inl rfl), s28, k52, cb, b64, i6, i5', kv, rv, tv, lnv, lv0, clv, clr_i, clr_r, clr_n, clr_l, true_and, and_true, Option.toList_some, Option.toList_none, List.cons_append, List.nil_append, bI_0, bI_1, bI_or, ↓reduceIte, or_true, true_or, eq_self, irv, i0_add, not_true_eq_false, not_false_eq_true, Bool.false_eq_true, and_false, false_and, or_false, false_or, reduceCtorEq, nev, ngv, nc_or, in64, l64v, ite_not, ite_notP, up2_upr, upr_upr, upr_at, nI_cl, nI_ir, iav, nI_1, nI_mul6, nI_6mul, nI_lt2, nI_eq2, nI_neg, nI_m1, ltv, nI_z, upd_at, upd_off, upr_off, usv, upd_upd]
        refine hK _ _ ⟨n, nc, np, B, ?_⟩
        unfold LM
        simp (maxSteps := 400000) (disch := first | omega | assumption) only [YR_upr, ST_upr, kv, rv, tv, lnv, lv0, clv, clr_i, clr_r, clr_n, clr_l, true_and, and_true, Option.toList_some, Option.toList_none, List.cons_append, List.nil_append, bI_0, bI_1, bI_or, ↓reduceIte, or_true, true_or, eq_self, irv, i0_add, not_true_eq_false, not_false_eq_true, Bool.false_eq_true, and_false, false_and, or_false, false_or, reduceCtorEq, nev, ngv, nc_or, in64, l64v, ite_not, ite_notP, up2_upr, upr_upr, upr_at, nI_cl, nI_ir, iav, nI_1, nI_mul6, nI_6mul, nI_lt2, nI_eq2, nI_neg, nI_m1, ltv, nI_z, upd_at, upd_off, upr_off, usv, upd_upd]
        exact ⟨hY, LM_back (g0 := 0) (f := 0) i4, PR_0 hP, h0, h1, hT, hH, hB, ⟨⟨b, hb, rfl, rfl⟩, e3⟩, hSt⟩
    · obtain ⟨i1, i2, i3⟩ := id h1
      rcases i1 with i1 | i1
      · simp (maxSteps := 400000) (disch := first | omega | assumption) only [e110, e109, e194, s112i, rg_cls, rg_ite, i32v, iff_true_intro hx, bI_T, z01, i1, i2, kv, rv, tv, lnv, lv0, clv, clr_i, clr_r, clr_n, clr_l, true_and, and_true, Option.toList_some, Option.toList_none, List.cons_append, List.nil_append, bI_0, bI_1, bI_or, ↓reduceIte, or_true, true_or, eq_self, irv, i0_add, not_true_eq_false, not_false_eq_true, Bool.false_eq_true, and_false, false_and, or_false, false_or, reduceCtorEq, nev, ngv, nc_or, in64, l64v, ite_not, ite_notP, up2_upr, upr_upr, upr_at, nI_cl, nI_ir, iav, nI_1, nI_mul6, nI_6mul, nI_lt2, nI_eq2, nI_neg, nI_m1, ltv, nI_z, upd_at, upd_off, upr_off, usv, upd_upd]
        exact hK _ _ hI
      · obtain ⟨i4, i5, b, hb, i6⟩ := i3 i1
        have i5' : M 46 103 = nI b := i5.trans i6
        have cb := fun d M Q => c_back d 52 M Q (by omega)
        simp (maxSteps := 400000) (disch := first | omega | assumption) only [e110, e109, e194, s112i, rg_cls, rg_ite, i32v, iff_true_intro hx, bI_T, z01, i1, i2, s22 _ 34 _ _ (Or.inr rfl), s28, k52, cb, b64, i6, i5', kv, rv, tv, lnv, lv0, clv, clr_i, clr_r, clr_n, clr_l, true_and, and_true, Option.toList_some, Option.toList_none, List.cons_append, List.nil_append, bI_0, bI_1, bI_or, ↓reduceIte, or_true, true_or, eq_self, irv, i0_add, not_true_eq_false, not_false_eq_true, Bool.false_eq_true, and_false, false_and, or_false, false_or, reduceCtorEq, nev, ngv, nc_or, in64, l64v, ite_not, ite_notP, up2_upr, upr_upr, upr_at, nI_cl, nI_ir, iav, nI_1, nI_mul6, nI_6mul, nI_lt2, nI_eq2, nI_neg, nI_m1, ltv, nI_z, upd_at, upd_off, upr_off, usv, upd_upd]
        refine hK _ _ ⟨n, nc, np, B, ?_⟩
        unfold LM
        simp (maxSteps := 400000) (disch := first | omega | assumption) only [YR_upr, ST_upr, kv, rv, tv, lnv, lv0, clv, clr_i, clr_r, clr_n, clr_l, true_and, and_true, Option.toList_some, Option.toList_none, List.cons_append, List.nil_append, bI_0, bI_1, bI_or, ↓reduceIte, or_true, true_or, eq_self, irv, i0_add, not_true_eq_false, not_false_eq_true, Bool.false_eq_true, and_false, false_and, or_false, false_or, reduceCtorEq, nev, ngv, nc_or, in64, l64v, ite_not, ite_notP, up2_upr, upr_upr, upr_at, nI_cl, nI_ir, iav, nI_1, nI_mul6, nI_6mul, nI_lt2, nI_eq2, nI_neg, nI_m1, ltv, nI_z, upd_at, upd_off, upr_off, usv, upd_upd]
        exact ⟨hY, LM_back (g0 := 52) (f := 0) i4, PR_0 hP, h0, h1, hT, hH, hB, ⟨⟨b, hb, rfl, rfl⟩, e3⟩, hSt⟩
  · simp (maxSteps := 400000) (disch := first | omega | assumption) only [e110, e194, s112i, rg_cls, rg_ite, i32v, iff_false_intro hx, bI_F, kv, rv, tv, lnv, lv0, clv, clr_i, clr_r, clr_n, clr_l, true_and, and_true, Option.toList_some, Option.toList_none, List.cons_append, List.nil_append, bI_0, bI_1, bI_or, ↓reduceIte, or_true, true_or, eq_self, irv, i0_add, not_true_eq_false, not_false_eq_true, Bool.false_eq_true, and_false, false_and, or_false, false_or, reduceCtorEq, nev, ngv, nc_or, in64, l64v, ite_not, ite_notP, up2_upr, upr_upr, upr_at, nI_cl, nI_ir, iav, nI_1, nI_mul6, nI_6mul, nI_lt2, nI_eq2, nI_neg, nI_m1, ltv, nI_z, upd_at, upd_off, upr_off, usv, upd_upd]
    exact hK _ _ hI
