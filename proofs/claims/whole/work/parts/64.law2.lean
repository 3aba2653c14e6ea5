/-! part 64: the law: more calls -/
theorem law_soon (d i L : Nat) (M : Mem) (hI : Inv M) (h64 : M 64 0 = nI L) (hL : L ≤ 256) (hi : i + 4 ≤ L) : LawS d i M 584 := by
  have l0 := ln63 h64 hL
  have a1 : nI i + 1 = nI (i + 1) := nI_add i 1
  have a2 : nI i + 2 = nI (i + 2) := nI_add i 2
  have a3 : nI i + 3 = nI (i + 3) := nI_add i 3
  have a4 : nI i + 4 = nI (i + 4) := nI_add i 4
  obtain ⟨v, M1, M2, eC, eM, hI2, k1, k2⟩ := Wp_ans (d := d + 11) (pair_soon (d + 6) (M 63 (i + 1)) M hI)
  refine ⟨M2, hI2, k2, fun Q => ?_⟩
  have l1 : lnm M1 63 = L := ln63 (by rw [k1 64 (by omega)]; exact h64) hL
  have s1 := k1 63 (by omega)
  simp (maxSteps := 400000) (disch := first | omega | assumption) only [e197_5, e197_10, e197_11, r63, l0, l1, s1, a1, a2, a3, a4, eC, eM, kv, rv, tv, lnv, lv0, clv, clr_i, clr_r, clr_n, clr_l, true_and, and_true, Option.toList_some, Option.toList_none, List.cons_append, List.nil_append, bI_0, bI_1, bI_or, ↓reduceIte, or_true, true_or, eq_self, irv, i0_add, not_true_eq_false, not_false_eq_true, Bool.false_eq_true, and_false, false_and, or_false, false_or, reduceCtorEq, nev, ngv, nc_or, in64, l64v, ite_not, ite_notP, up2_upr, upr_upr, upr_at, nI_cl, nI_ir, iav, nI_1, nI_mul6, nI_6mul, nI_lt2, nI_eq2, nI_neg, nI_m1, ltv, nI_z, upd_at, upd_off, upr_off, usv, upd_upd]
theorem law_cheapest (d i L : Nat) (M : Mem) (hI : Inv M) (h64 : M 64 0 = nI L) (hL : L ≤ 256) (hi : i + 4 ≤ L) : LawS d i M 607 := by
  have l0 := ln63 h64 hL
  have a1 : nI i + 1 = nI (i + 1) := nI_add i 1
  have a2 : nI i + 2 = nI (i + 2) := nI_add i 2
  have a3 : nI i + 3 = nI (i + 3) := nI_add i 3
  have a4 : nI i + 4 = nI (i + 4) := nI_add i 4
  obtain ⟨v, M1, M2, eC, eM, hI2, k1, k2⟩ := Wp_ans (d := d + 11) (pair_cheapest (d + 6) (M 63 (i + 1)) (M 63 (i + 2)) M hI)
  refine ⟨M2, hI2, k2, fun Q => ?_⟩
  have l1 : lnm M1 63 = L := ln63 (by rw [k1 64 (by omega)]; exact h64) hL
  have s1 := k1 63 (by omega)
  simp (maxSteps := 400000) (disch := first | omega | assumption) only [e197_5, e197_6, e197_10, e197_11, r63, l0, l1, s1, a1, a2, a3, a4, eC, eM, kv, rv, tv, lnv, lv0, clv, clr_i, clr_r, clr_n, clr_l, true_and, and_true, Option.toList_some, Option.toList_none, List.cons_append, List.nil_append, bI_0, bI_1, bI_or, ↓reduceIte, or_true, true_or, eq_self, irv, i0_add, not_true_eq_false, not_false_eq_true, Bool.false_eq_true, and_false, false_and, or_false, false_or, reduceCtorEq, nev, ngv, nc_or, in64, l64v, ite_not, ite_notP, up2_upr, upr_upr, upr_at, nI_cl, nI_ir, iav, nI_1, nI_mul6, nI_6mul, nI_lt2, nI_eq2, nI_neg, nI_m1, ltv, nI_z, upd_at, upd_off, upr_off, usv, upd_upd]
theorem law_outing (d i L : Nat) (M : Mem) (hI : Inv M) (h64 : M 64 0 = nI L) (hL : L ≤ 256) (hi : i + 4 ≤ L) : LawS d i M 640 := by
  have l0 := ln63 h64 hL
  have a1 : nI i + 1 = nI (i + 1) := nI_add i 1
  have a2 : nI i + 2 = nI (i + 2) := nI_add i 2
  have a3 : nI i + 3 = nI (i + 3) := nI_add i 3
  have a4 : nI i + 4 = nI (i + 4) := nI_add i 4
  obtain ⟨v, M1, M2, eC, eM, hI2, k1, k2⟩ := Wp_ans (d := d + 11) (pair_outing d (M 63 (i + 1)) (M 63 (i + 2)) M hI)
  refine ⟨M2, hI2, k2, fun Q => ?_⟩
  have l1 : lnm M1 63 = L := ln63 (by rw [k1 64 (by omega)]; exact h64) hL
  have s1 := k1 63 (by omega)
  simp (maxSteps := 400000) (disch := first | omega | assumption) only [e197_6, e197_10, e197_11, r63, l0, l1, s1, a1, a2, a3, a4, eC, eM, kv, rv, tv, lnv, lv0, clv, clr_i, clr_r, clr_n, clr_l, true_and, and_true, Option.toList_some, Option.toList_none, List.cons_append, List.nil_append, bI_0, bI_1, bI_or, ↓reduceIte, or_true, true_or, eq_self, irv, i0_add, not_true_eq_false, not_false_eq_true, Bool.false_eq_true, and_false, false_and, or_false, false_or, reduceCtorEq, nev, ngv, nc_or, in64, l64v, ite_not, ite_notP, up2_upr, upr_upr, upr_at, nI_cl, nI_ir, iav, nI_1, nI_mul6, nI_6mul, nI_lt2, nI_eq2, nI_neg, nI_m1, ltv, nI_z, upd_at, upd_off, upr_off, usv, upd_upd]
theorem law_composition (d i L : Nat) (M : Mem) (hI : Inv M) (h64 : M 64 0 = nI L) (hL : L ≤ 256) (hi : i + 4 ≤ L) : LawS d i M 673 := by
  have l0 := ln63 h64 hL
  have a1 : nI i + 1 = nI (i + 1) := nI_add i 1
  have a2 : nI i + 2 = nI (i + 2) := nI_add i 2
  have a3 : nI i + 3 = nI (i + 3) := nI_add i 3
  have a4 : nI i + 4 = nI (i + 4) := nI_add i 4
  obtain ⟨v, M1, M2, eC, eM, hI2, k1, k2⟩ := Wp_ans (d := d + 11) (pair_composition (d + 7) (M 63 (i + 1)) (M 63 (i + 2)) M hI)
  refine ⟨M2, hI2, k2, fun Q => ?_⟩
  have l1 : lnm M1 63 = L := ln63 (by rw [k1 64 (by omega)]; exact h64) hL
  have s1 := k1 63 (by omega)
  simp (maxSteps := 400000) (disch := first | omega | assumption) only [e197_6, e197_7, e197_10, e197_11, r63, l0, l1, s1, a1, a2, a3, a4, eC, eM, kv, rv, tv, lnv, lv0, clv, clr_i, clr_r, clr_n, clr_l, true_and, and_true, Option.toList_some, Option.toList_none, List.cons_append, List.nil_append, bI_0, bI_1, bI_or, ↓reduceIte, or_true, true_or, eq_self, irv, i0_add, not_true_eq_false, not_false_eq_true, Bool.false_eq_true, and_false, false_and, or_false, false_or, reduceCtorEq, nev, ngv, nc_or, in64, l64v, ite_not, ite_notP, up2_upr, upr_upr, upr_at, nI_cl, nI_ir, iav, nI_1, nI_mul6, nI_6mul, nI_lt2, nI_eq2, nI_neg, nI_m1, ltv, nI_z, upd_at, upd_off, upr_off, usv, upd_upd]
theorem law_year (d i L : Nat) (M : Mem) (hI : Inv M) (h64 : M 64 0 = nI L) (hL : L ≤ 256) (hi : i + 4 ≤ L) : LawS d i M 706 := by
  have l0 := ln63 h64 hL
  have a1 : nI i + 1 = nI (i + 1) := nI_add i 1
  have a2 : nI i + 2 = nI (i + 2) := nI_add i 2
  have a3 : nI i + 3 = nI (i + 3) := nI_add i 3
  have a4 : nI i + 4 = nI (i + 4) := nI_add i 4
  obtain ⟨v, M1, M2, eC, eM, hI2, k1, k2⟩ := Wp_ans (d := d + 11) (pair_year (d + 8) (M 63 (i + 1)) (M 63 (i + 2)) M hI)
  refine ⟨M2, hI2, k2, fun Q => ?_⟩
  have l1 : lnm M1 63 = L := ln63 (by rw [k1 64 (by omega)]; exact h64) hL
  have s1 := k1 63 (by omega)
  simp (maxSteps := 400000) (disch := first | omega | assumption) only [e197_7, e197_10, e197_11, r63, l0, l1, s1, a1, a2, a3, a4, eC, eM, kv, rv, tv, lnv, lv0, clv, clr_i, clr_r, clr_n, clr_l, true_and, and_true, Option.toList_some, Option.toList_none, List.cons_append, List.nil_append, bI_0, bI_1, bI_or, ↓reduceIte, or_true, true_or, eq_self, irv, i0_add, not_true_eq_false, not_false_eq_true, Bool.false_eq_true, and_false, false_and, or_false, false_or, reduceCtorEq, nev, ngv, nc_or, in64, l64v, ite_not, ite_notP, up2_upr, upr_upr, upr_at, nI_cl, nI_ir, iav, nI_1, nI_mul6, nI_6mul, nI_lt2, nI_eq2, nI_neg, nI_m1, ltv, nI_z, upd_at, upd_off, upr_off, usv, upd_upd]
theorem law_chain (d i L : Nat) (M : Mem) (hI : Inv M) (h64 : M 64 0 = nI L) (hL : L ≤ 256) (hi : i + 4 ≤ L) : LawS d i M 739 := by
  have l0 := ln63 h64 hL
  have a1 : nI i + 1 = nI (i + 1) := nI_add i 1
  have a2 : nI i + 2 = nI (i + 2) := nI_add i 2
  have a3 : nI i + 3 = nI (i + 3) := nI_add i 3
  have a4 : nI i + 4 = nI (i + 4) := nI_add i 4
  obtain ⟨v, M1, M2, eC, eM, hI2, k1, k2⟩ := Wp_ans (d := d + 11) (pair_chain (d + 5) (M 63 (i + 1)) (M 63 (i + 2)) M hI)
  refine ⟨M2, hI2, k2, fun Q => ?_⟩
  have l1 : lnm M1 63 = L := ln63 (by rw [k1 64 (by omega)]; exact h64) hL
  have s1 := k1 63 (by omega)
  simp (maxSteps := 400000) (disch := first | omega | assumption) only [e197_7, e197_10, e197_11, r63, l0, l1, s1, a1, a2, a3, a4, eC, eM, kv, rv, tv, lnv, lv0, clv, clr_i, clr_r, clr_n, clr_l, true_and, and_true, Option.toList_some, Option.toList_none, List.cons_append, List.nil_append, bI_0, bI_1, bI_or, ↓reduceIte, or_true, true_or, eq_self, irv, i0_add, not_true_eq_false, not_false_eq_true, Bool.false_eq_true, and_false, false_and, or_false, false_or, reduceCtorEq, nev, ngv, nc_or, in64, l64v, ite_not, ite_notP, up2_upr, upr_upr, upr_at, nI_cl, nI_ir, iav, nI_1, nI_mul6, nI_6mul, nI_lt2, nI_eq2, nI_neg, nI_m1, ltv, nI_z, upd_at, upd_off, upr_off, usv, upd_upd]
theorem law_quiet (d i L : Nat) (M : Mem) (hI : Inv M) (h64 : M 64 0 = nI L) (hL : L ≤ 256) (hi : i + 4 ≤ L) : LawS d i M 772 := by
  have l0 := ln63 h64 hL
  have a1 : nI i + 1 = nI (i + 1) := nI_add i 1
  have a2 : nI i + 2 = nI (i + 2) := nI_add i 2
  have a3 : nI i + 3 = nI (i + 3) := nI_add i 3
  have a4 : nI i + 4 = nI (i + 4) := nI_add i 4
  obtain ⟨v, M1, M2, eC, eM, hI2, k1, k2⟩ := Wp_ans (d := d + 11) (pair_quiet (d + 10) (M 63 (i + 1)) (M 63 (i + 2)) M hI)
  refine ⟨M2, hI2, k2, fun Q => ?_⟩
  have l1 : lnm M1 63 = L := ln63 (by rw [k1 64 (by omega)]; exact h64) hL
  have s1 := k1 63 (by omega)
  simp (maxSteps := 400000) (disch := first | omega | assumption) only [e197_8, e197_10, e197_11, r63, l0, l1, s1, a1, a2, a3, a4, eC, eM, kv, rv, tv, lnv, lv0, clv, clr_i, clr_r, clr_n, clr_l, true_and, and_true, Option.toList_some, Option.toList_none, List.cons_append, List.nil_append, bI_0, bI_1, bI_or, ↓reduceIte, or_true, true_or, eq_self, irv, i0_add, not_true_eq_false, not_false_eq_true, Bool.false_eq_true, and_false, false_and, or_false, false_or, reduceCtorEq, nev, ngv, nc_or, in64, l64v, ite_not, ite_notP, up2_upr, upr_upr, upr_at, nI_cl, nI_ir, iav, nI_1, nI_mul6, nI_6mul, nI_lt2, nI_eq2, nI_neg, nI_m1, ltv, nI_z, upd_at, upd_off, upr_off, usv, upd_upd]
theorem law_hat (d i L : Nat) (M : Mem) (hI : Inv M) (h64 : M 64 0 = nI L) (hL : L ≤ 256) (hi : i + 4 ≤ L) : LawS d i M 805 := by
  have l0 := ln63 h64 hL
  have a1 : nI i + 1 = nI (i + 1) := nI_add i 1
  have a2 : nI i + 2 = nI (i + 2) := nI_add i 2
  have a3 : nI i + 3 = nI (i + 3) := nI_add i 3
  have a4 : nI i + 4 = nI (i + 4) := nI_add i 4
  by_cases hz : M 63 (i + 2) = 0
  · obtain ⟨v, M1, M2, eC, eM, hI2, k1, k2⟩ := Wp_ans (d := d + 11) (pair_hat (d + 8) (M 63 (i + 1)) 0 M hI (Or.inl rfl))
    refine ⟨M2, hI2, k2, fun Q => ?_⟩
    have l1 : lnm M1 63 = L := ln63 (by rw [k1 64 (by omega)]; exact h64) hL
    have s1 := k1 63 (by omega)
    simp (maxSteps := 400000) (disch := first | omega | assumption) only [e197_8, e197_9, e197_10, e197_11, r63, l0, l1, s1, a1, a2, a3, a4, eC, eM, hz, z01, kv, rv, tv, lnv, lv0, clv, clr_i, clr_r, clr_n, clr_l, true_and, and_true, Option.toList_some, Option.toList_none, List.cons_append, List.nil_append, bI_0, bI_1, bI_or, ↓reduceIte, or_true, true_or, eq_self, irv, i0_add, not_true_eq_false, not_false_eq_true, Bool.false_eq_true, and_false, false_and, or_false, false_or, reduceCtorEq, nev, ngv, nc_or, in64, l64v, ite_not, ite_notP, up2_upr, upr_upr, upr_at, nI_cl, nI_ir, iav, nI_1, nI_mul6, nI_6mul, nI_lt2, nI_eq2, nI_neg, nI_m1, ltv, nI_z, upd_at, upd_off, upr_off, usv, upd_upd]
  · obtain ⟨v, M1, M2, eC, eM, hI2, k1, k2⟩ := Wp_ans (d := d + 11) (pair_hat (d + 8) (M 63 (i + 1)) 1 M hI (Or.inr rfl))
    refine ⟨M2, hI2, k2, fun Q => ?_⟩
    have l1 : lnm M1 63 = L := ln63 (by rw [k1 64 (by omega)]; exact h64) hL
    have s1 := k1 63 (by omega)
    simp (maxSteps := 400000) (disch := first | omega | assumption) only [e197_8, e197_9, e197_10, e197_11, r63, l0, l1, s1, a1, a2, a3, a4, eC, eM, iff_false_intro hz, z01, kv, rv, tv, lnv, lv0, clv, clr_i, clr_r, clr_n, clr_l, true_and, and_true, Option.toList_some, Option.toList_none, List.cons_append, List.nil_append, bI_0, bI_1, bI_or, ↓reduceIte, or_true, true_or, eq_self, irv, i0_add, not_true_eq_false, not_false_eq_true, Bool.false_eq_true, and_false, false_and, or_false, false_or, reduceCtorEq, nev, ngv, nc_or, in64, l64v, ite_not, ite_notP, up2_upr, upr_upr, upr_at, nI_cl, nI_ir, iav, nI_1, nI_mul6, nI_6mul, nI_lt2, nI_eq2, nI_neg, nI_m1, ltv, nI_z, upd_at, upd_off, upr_off, usv, upd_upd]
theorem law_over (d i L : Nat) (M : Mem) (hI : Inv M) (h64 : M 64 0 = nI L) (hL : L ≤ 256) (hi : i + 4 ≤ L) : LawS d i M 854 := by
  have l0 := ln63 h64 hL
  have a1 : nI i + 1 = nI (i + 1) := nI_add i 1
  have a2 : nI i + 2 = nI (i + 2) := nI_add i 2
  have a3 : nI i + 3 = nI (i + 3) := nI_add i 3
  have a4 : nI i + 4 = nI (i + 4) := nI_add i 4
  obtain ⟨v, M1, M2, eC, eM, hI2, k1, k2⟩ := Wp_ans (d := d + 11) (pair_over (d + 8) (M 63 (i + 1)) M hI)
  refine ⟨M2, hI2, k2, fun Q => ?_⟩
  have l1 : lnm M1 63 = L := ln63 (by rw [k1 64 (by omega)]; exact h64) hL
  have s1 := k1 63 (by omega)
  simp (maxSteps := 400000) (disch := first | omega | assumption) only [e197_9, e197_10, e197_11, r63, l0, l1, s1, a1, a2, a3, a4, eC, eM, kv, rv, tv, lnv, lv0, clv, clr_i, clr_r, clr_n, clr_l, true_and, and_true, Option.toList_some, Option.toList_none, List.cons_append, List.nil_append, bI_0, bI_1, bI_or, ↓reduceIte, or_true, true_or, eq_self, irv, i0_add, not_true_eq_false, not_false_eq_true, Bool.false_eq_true, and_false, false_and, or_false, false_or, reduceCtorEq, nev, ngv, nc_or, in64, l64v, ite_not, ite_notP, up2_upr, upr_upr, upr_at, nI_cl, nI_ir, iav, nI_1, nI_mul6, nI_6mul, nI_lt2, nI_eq2, nI_neg, nI_m1, ltv, nI_z, upd_at, upd_off, upr_off, usv, upd_upd]
theorem law_look (d i L : Nat) (M : Mem) (hI : Inv M) (h64 : M 64 0 = nI L) (hL : L ≤ 256) (hi : i + 4 ≤ L) : LawS d i M 877 := by
  have l0 := ln63 h64 hL
  have a1 : nI i + 1 = nI (i + 1) := nI_add i 1
  have a2 : nI i + 2 = nI (i + 2) := nI_add i 2
  have a3 : nI i + 3 = nI (i + 3) := nI_add i 3
  have a4 : nI i + 4 = nI (i + 4) := nI_add i 4
  obtain ⟨v, M1, M2, eC, eM, hI2, k1, k2⟩ := Wp_ans (d := d + 11) (pair_look (d + 8) M hI)
  refine ⟨M2, hI2, k2, fun Q => ?_⟩
  have l1 : lnm M1 63 = L := ln63 (by rw [k1 64 (by omega)]; exact h64) hL
  have s1 := k1 63 (by omega)
  simp (maxSteps := 400000) (disch := first | omega | assumption) only [e197_9, e197_10, e197_11, r63, l0, l1, s1, a1, a2, a3, a4, eC, eM, kv, rv, tv, lnv, lv0, clv, clr_i, clr_r, clr_n, clr_l, true_and, and_true, Option.toList_some, Option.toList_none, List.cons_append, List.nil_append, bI_0, bI_1, bI_or, ↓reduceIte, or_true, true_or, eq_self, irv, i0_add, not_true_eq_false, not_false_eq_true, Bool.false_eq_true, and_false, false_and, or_false, false_or, reduceCtorEq, nev, ngv, nc_or, in64, l64v, ite_not, ite_notP, up2_upr, upr_upr, upr_at, nI_cl, nI_ir, iav, nI_1, nI_mul6, nI_6mul, nI_lt2, nI_eq2, nI_neg, nI_m1, ltv, nI_z, upd_at, upd_off, upr_off, usv, upd_upd]
theorem law_write (d i L : Nat) (M : Mem) (hI : Inv M) (h64 : M 64 0 = nI L) (hL : L ≤ 256) (hi : i + 4 ≤ L) : LawS d i M 890 := by
  have l0 := ln63 h64 hL
  have a1 : nI i + 1 = nI (i + 1) := nI_add i 1
  have a2 : nI i + 2 = nI (i + 2) := nI_add i 2
  have a3 : nI i + 3 = nI (i + 3) := nI_add i 3
  have a4 : nI i + 4 = nI (i + 4) := nI_add i 4
  obtain ⟨v, M1, M2, eC, eM, hI2, k1, k2⟩ := Wp_ans (d := d + 11) (pair_write (d + 9) (M 63 (i + 1)) (M 63 (i + 2)) M hI)
  refine ⟨M2, hI2, k2, fun Q => ?_⟩
  have l1 : lnm M1 63 = L := ln63 (by rw [k1 64 (by omega)]; exact h64) hL
  have s1 := k1 63 (by omega)
  simp (maxSteps := 400000) (disch := first | omega | assumption) only [e197_9, e197_10, e197_11, r63, l0, l1, s1, a1, a2, a3, a4, eC, eM, kv, rv, tv, lnv, lv0, clv, clr_i, clr_r, clr_n, clr_l, true_and, and_true, Option.toList_some, Option.toList_none, List.cons_append, List.nil_append, bI_0, bI_1, bI_or, ↓reduceIte, or_true, true_or, eq_self, irv, i0_add, not_true_eq_false, not_false_eq_true, Bool.false_eq_true, and_false, false_and, or_false, false_or, reduceCtorEq, nev, ngv, nc_or, in64, l64v, ite_not, ite_notP, up2_upr, upr_upr, upr_at, nI_cl, nI_ir, iav, nI_1, nI_mul6, nI_6mul, nI_lt2, nI_eq2, nI_neg, nI_m1, ltv, nI_z, upd_at, upd_off, upr_off, usv, upd_upd]
theorem law_tear (d i L : Nat) (M : Mem) (hI : Inv M) (h64 : M 64 0 = nI L) (hL : L ≤ 256) (hi : i + 4 ≤ L) : LawS d i M 923 := by
  have l0 := ln63 h64 hL
  have a1 : nI i + 1 = nI (i + 1) := nI_add i 1
  have a2 : nI i + 2 = nI (i + 2) := nI_add i 2
  have a3 : nI i + 3 = nI (i + 3) := nI_add i 3
  have a4 : nI i + 4 = nI (i + 4) := nI_add i 4
  obtain ⟨v, M1, M2, eC, eM, hI2, k1, k2⟩ := Wp_ans (d := d + 11) (pair_tear (d + 10) M hI)
  refine ⟨M2, hI2, k2, fun Q => ?_⟩
  have l1 : lnm M1 63 = L := ln63 (by rw [k1 64 (by omega)]; exact h64) hL
  have s1 := k1 63 (by omega)
  simp (maxSteps := 400000) (disch := first | omega | assumption) only [e197_9, e197_10, e197_11, r63, l0, l1, s1, a1, a2, a3, a4, eC, eM, kv, rv, tv, lnv, lv0, clv, clr_i, clr_r, clr_n, clr_l, true_and, and_true, Option.toList_some, Option.toList_none, List.cons_append, List.nil_append, bI_0, bI_1, bI_or, ↓reduceIte, or_true, true_or, eq_self, irv, i0_add, not_true_eq_false, not_false_eq_true, Bool.false_eq_true, and_false, false_and, or_false, false_or, reduceCtorEq, nev, ngv, nc_or, in64, l64v, ite_not, ite_notP, up2_upr, upr_upr, upr_at, nI_cl, nI_ir, iav, nI_1, nI_mul6, nI_6mul, nI_lt2, nI_eq2, nI_neg, nI_m1, ltv, nI_z, upd_at, upd_off, upr_off, usv, upd_upd]
theorem law_judge (d i L : Nat) (M : Mem) (hI : Inv M) (h64 : M 64 0 = nI L) (hL : L ≤ 256) (hi : i + 4 ≤ L) : LawS d i M 936 := by
  have l0 := ln63 h64 hL
  have a1 : nI i + 1 = nI (i + 1) := nI_add i 1
  have a2 : nI i + 2 = nI (i + 2) := nI_add i 2
  have a3 : nI i + 3 = nI (i + 3) := nI_add i 3
  have a4 : nI i + 4 = nI (i + 4) := nI_add i 4
  obtain ⟨v, M1, M2, eC, eM, hI2, k1, k2⟩ := Wp_ans (d := d + 11) (pair_judge (d + 10) M hI)
  refine ⟨M2, hI2, k2, fun Q => ?_⟩
  have l1 : lnm M1 63 = L := ln63 (by rw [k1 64 (by omega)]; exact h64) hL
  have s1 := k1 63 (by omega)
  simp (maxSteps := 400000) (disch := first | omega | assumption) only [e197_10, e197_11, r63, l0, l1, s1, a1, a2, a3, a4, eC, eM, kv, rv, tv, lnv, lv0, clv, clr_i, clr_r, clr_n, clr_l, true_and, and_true, Option.toList_some, Option.toList_none, List.cons_append, List.nil_append, bI_0, bI_1, bI_or, ↓reduceIte, or_true, true_or, eq_self, irv, i0_add, not_true_eq_false, not_false_eq_true, Bool.false_eq_true, and_false, false_and, or_false, false_or, reduceCtorEq, nev, ngv, nc_or, in64, l64v, ite_not, ite_notP, up2_upr, upr_upr, upr_at, nI_cl, nI_ir, iav, nI_1, nI_mul6, nI_6mul, nI_lt2, nI_eq2, nI_neg, nI_m1, ltv, nI_z, upd_at, upd_off, upr_off, usv, upd_upd]
theorem law_seed (d i L : Nat) (M : Mem) (hI : Inv M) (h64 : M 64 0 = nI L) (hL : L ≤ 256) (hi : i + 4 ≤ L) : LawS d i M 949 := by
  have l0 := ln63 h64 hL
  have a1 : nI i + 1 = nI (i + 1) := nI_add i 1
  have a2 : nI i + 2 = nI (i + 2) := nI_add i 2
  have a3 : nI i + 3 = nI (i + 3) := nI_add i 3
  have a4 : nI i + 4 = nI (i + 4) := nI_add i 4
  obtain ⟨v, M1, M2, eC, eM, hI2, k1, k2⟩ := Wp_ans (d := d + 11) (pair_seed (d + 11) (M 63 (i + 1)) M hI)
  refine ⟨M2, hI2, k2, fun Q => ?_⟩
  have l1 : lnm M1 63 = L := ln63 (by rw [k1 64 (by omega)]; exact h64) hL
  have s1 := k1 63 (by omega)
  simp (maxSteps := 400000) (disch := first | omega | assumption) only [e197_10, e197_11, r63, l0, l1, s1, a1, a2, a3, a4, eC, eM, kv, rv, tv, lnv, lv0, clv, clr_i, clr_r, clr_n, clr_l, true_and, and_true, Option.toList_some, Option.toList_none, List.cons_append, List.nil_append, bI_0, bI_1, bI_or, ↓reduceIte, or_true, true_or, eq_self, irv, i0_add, not_true_eq_false, not_false_eq_true, Bool.false_eq_true, and_false, false_and, or_false, false_or, reduceCtorEq, nev, ngv, nc_or, in64, l64v, ite_not, ite_notP, up2_upr, upr_upr, upr_at, nI_cl, nI_ir, iav, nI_1, nI_mul6, nI_6mul, nI_lt2, nI_eq2, nI_neg, nI_m1, ltv, nI_z, upd_at, upd_off, upr_off, usv, upd_upd]
theorem law_keep (d i L : Nat) (M : Mem) (hI : Inv M) (h64 : M 64 0 = nI L) (hL : L ≤ 256) (hi : i + 4 ≤ L) : LawS d i M 972 := by
  have l0 := ln63 h64 hL
  have a1 : nI i + 1 = nI (i + 1) := nI_add i 1
  have a2 : nI i + 2 = nI (i + 2) := nI_add i 2
  have a3 : nI i + 3 = nI (i + 3) := nI_add i 3
  have a4 : nI i + 4 = nI (i + 4) := nI_add i 4
  obtain ⟨v, M1, M2, eC, eM, hI2, k1, k2⟩ := Wp_ans (d := d + 11) (pair_keep (d + 8) (M 63 (i + 1)) M hI)
  refine ⟨M2, hI2, k2, fun Q => ?_⟩
  have l1 : lnm M1 63 = L := ln63 (by rw [k1 64 (by omega)]; exact h64) hL
  have s1 := k1 63 (by omega)
  simp (maxSteps := 400000) (disch := first | omega | assumption) only [e197_10, e197_11, r63, l0, l1, s1, a1, a2, a3, a4, eC, eM, kv, rv, tv, lnv, lv0, clv, clr_i, clr_r, clr_n, clr_l, true_and, and_true, Option.toList_some, Option.toList_none, List.cons_append, List.nil_append, bI_0, bI_1, bI_or, ↓reduceIte, or_true, true_or, eq_self, irv, i0_add, not_true_eq_false, not_false_eq_true, Bool.false_eq_true, and_false, false_and, or_false, false_or, reduceCtorEq, nev, ngv, nc_or, in64, l64v, ite_not, ite_notP, up2_upr, upr_upr, upr_at, nI_cl, nI_ir, iav, nI_1, nI_mul6, nI_6mul, nI_lt2, nI_eq2, nI_neg, nI_m1, ltv, nI_z, upd_at, upd_off, upr_off, usv, upd_upd]
theorem law_goBack (d i L : Nat) (M : Mem) (hI : Inv M) (h64 : M 64 0 = nI L) (hL : L ≤ 256) (hi : i + 4 ≤ L) : LawS d i M 995 := by
  have l0 := ln63 h64 hL
  have a1 : nI i + 1 = nI (i + 1) := nI_add i 1
  have a2 : nI i + 2 = nI (i + 2) := nI_add i 2
  have a3 : nI i + 3 = nI (i + 3) := nI_add i 3
  have a4 : nI i + 4 = nI (i + 4) := nI_add i 4
  obtain ⟨v, M1, M2, eC, eM, hI2, k1, k2⟩ := Wp_ans (d := d + 11) (pair_goBack (d + 8) (M 63 (i + 1)) M hI)
  refine ⟨M2, hI2, k2, fun Q => ?_⟩
  have l1 : lnm M1 63 = L := ln63 (by rw [k1 64 (by omega)]; exact h64) hL
  have s1 := k1 63 (by omega)
  simp (maxSteps := 400000) (disch := first | omega | assumption) only [e197_10, e197_11, r63, l0, l1, s1, a1, a2, a3, a4, eC, eM, kv, rv, tv, lnv, lv0, clv, clr_i, clr_r, clr_n, clr_l, true_and, and_true, Option.toList_some, Option.toList_none, List.cons_append, List.nil_append, bI_0, bI_1, bI_or, ↓reduceIte, or_true, true_or, eq_self, irv, i0_add, not_true_eq_false, not_false_eq_true, Bool.false_eq_true, and_false, false_and, or_false, false_or, reduceCtorEq, nev, ngv, nc_or, in64, l64v, ite_not, ite_notP, up2_upr, upr_upr, upr_at, nI_cl, nI_ir, iav, nI_1, nI_mul6, nI_6mul, nI_lt2, nI_eq2, nI_neg, nI_m1, ltv, nI_z, upd_at, upd_off, upr_off, usv, upd_upd]
