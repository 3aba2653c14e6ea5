/-! part 63: the law: calls -/
theorem Wp_ans {d yC yM : Nat} {LC LM : List Value} {M : Mem} (h : PairOK d yC yM LC LM M) : ∃ v M1 M2, (∀ Q, Wp d yC 0 LC [] M Q ↔ Q (some (.int v)) M1) ∧ (∀ Q, Wp d yM 0 LM [] M1 Q ↔ Q (some (.int v)) M2) ∧ Inv M2 ∧ (∀ t, 60 ≤ t → M1 t = M t) ∧ (∀ t, 60 ≤ t → M2 t = M t) := by
  obtain ⟨n1, x1, r1, n2, x2, r2, v, e1, e2, hI⟩ := h (fun a b N => ∃ v, a = some (.int v) ∧ b = some (.int v) ∧ Inv N) (fun v N hN => ⟨v, rfl, rfl, hN⟩)
  have k1 := run_rows _ _ _ _ _ _ _ _ r1
  have k2 := run_rows _ _ _ _ _ _ _ _ r2
  refine ⟨v, x1.2, x2.2, Wp_det ⟨n1, x1, r1, e1, rfl⟩, Wp_det ⟨n2, x2, r2, e2, rfl⟩, hI, k1, fun t ht => (k2 t ht).trans (k1 t ht)⟩
theorem r63 : isR 63 = true := by decide
theorem ln63 {M : Mem} {L : Nat} (h : M 64 0 = nI L) (hL : L ≤ 256) : lnm M 63 = L := by
  unfold lnm
  rw [if_pos rfl, h, nI_cl (by omega)]
/-- what a round of the law leaves -/
def LawS (d i : Nat) (M : Mem) (pc : Nat) : Prop := ∃ M2, Inv M2 ∧ (∀ t, 60 ≤ t → M2 t = M t) ∧ ∀ Q, Wp (d + 12) 197 pc [.ref 63, .ref 0, .ref 40, .int (nI i)] [] M Q ↔ Wp (d + 12) 197 18 [.ref 63, .ref 0, .ref 40, .int (nI (i + 4))] [] M2 Q
theorem law_feed (d i L : Nat) (M : Mem) (hI : Inv M) (h64 : M 64 0 = nI L) (hL : L ≤ 256) (hi : i + 4 ≤ L) : LawS d i M 176 := by
  have l0 := ln63 h64 hL
  have a1 : nI i + 1 = nI (i + 1) := nI_add i 1
  have a2 : nI i + 2 = nI (i + 2) := nI_add i 2
  have a3 : nI i + 3 = nI (i + 3) := nI_add i 3
  have a4 : nI i + 4 = nI (i + 4) := nI_add i 4
  obtain ⟨v, M1, M2, eC, eM, hI2, k1, k2⟩ := Wp_ans (d := d + 11) (pair_feed (d + 9) (M 63 (i + 1)) M hI)
  refine ⟨M2, hI2, k2, fun Q => ?_⟩
  have l1 : lnm M1 63 = L := ln63 (by rw [k1 64 (by omega)]; exact h64) hL
  have s1 := k1 63 (by omega)
  simp (maxSteps := 400000) (disch := first | omega | assumption) only [e197_0, e197_10, e197_11, r63, l0, l1, s1, a1, a2, a3, a4, eC, eM, kv, rv, tv, lnv, lv0, clv, clr_i, clr_r, clr_n, clr_l, true_and, and_true, Option.toList_some, Option.toList_none, List.cons_append, List.nil_append, bI_0, bI_1, bI_or, ↓reduceIte, or_true, true_or, eq_self, irv, i0_add, not_true_eq_false, not_false_eq_true, Bool.false_eq_true, and_false, false_and, or_false, false_or, reduceCtorEq, nev, ngv, nc_or, in64, l64v, ite_not, ite_notP, up2_upr, upr_upr, upr_at, nI_cl, nI_ir, iav, nI_1, nI_mul6, nI_6mul, nI_lt2, nI_eq2, nI_neg, nI_m1, ltv, nI_z, upd_at, upd_off, upr_off, usv, upd_upd]
theorem law_yard (d i L : Nat) (M : Mem) (hI : Inv M) (h64 : M 64 0 = nI L) (hL : L ≤ 256) (hi : i + 4 ≤ L) : LawS d i M 199 := by
  have l0 := ln63 h64 hL
  have a1 : nI i + 1 = nI (i + 1) := nI_add i 1
  have a2 : nI i + 2 = nI (i + 2) := nI_add i 2
  have a3 : nI i + 3 = nI (i + 3) := nI_add i 3
  have a4 : nI i + 4 = nI (i + 4) := nI_add i 4
  obtain ⟨v, M1, M2, eC, eM, hI2, k1, k2⟩ := Wp_ans (d := d + 11) (pair_yard (d + 4) M hI)
  refine ⟨M2, hI2, k2, fun Q => ?_⟩
  have l1 : lnm M1 63 = L := ln63 (by rw [k1 64 (by omega)]; exact h64) hL
  have s1 := k1 63 (by omega)
  simp (maxSteps := 400000) (disch := first | omega | assumption) only [e197_0, e197_10, e197_11, r63, l0, l1, s1, a1, a2, a3, a4, eC, eM, kv, rv, tv, lnv, lv0, clv, clr_i, clr_r, clr_n, clr_l, true_and, and_true, Option.toList_some, Option.toList_none, List.cons_append, List.nil_append, bI_0, bI_1, bI_or, ↓reduceIte, or_true, true_or, eq_self, irv, i0_add, not_true_eq_false, not_false_eq_true, Bool.false_eq_true, and_false, false_and, or_false, false_or, reduceCtorEq, nev, ngv, nc_or, in64, l64v, ite_not, ite_notP, up2_upr, upr_upr, upr_at, nI_cl, nI_ir, iav, nI_1, nI_mul6, nI_6mul, nI_lt2, nI_eq2, nI_neg, nI_m1, ltv, nI_z, upd_at, upd_off, upr_off, usv, upd_upd]
theorem law_fault (d i L : Nat) (M : Mem) (hI : Inv M) (h64 : M 64 0 = nI L) (hL : L ≤ 256) (hi : i + 4 ≤ L) : LawS d i M 212 := by
  have l0 := ln63 h64 hL
  have a1 : nI i + 1 = nI (i + 1) := nI_add i 1
  have a2 : nI i + 2 = nI (i + 2) := nI_add i 2
  have a3 : nI i + 3 = nI (i + 3) := nI_add i 3
  have a4 : nI i + 4 = nI (i + 4) := nI_add i 4
  obtain ⟨v, M1, M2, eC, eM, hI2, k1, k2⟩ := Wp_ans (d := d + 11) (pair_fault (d + 11) M hI)
  refine ⟨M2, hI2, k2, fun Q => ?_⟩
  have l1 : lnm M1 63 = L := ln63 (by rw [k1 64 (by omega)]; exact h64) hL
  have s1 := k1 63 (by omega)
  simp (maxSteps := 400000) (disch := first | omega | assumption) only [e197_0, e197_10, e197_11, r63, l0, l1, s1, a1, a2, a3, a4, eC, eM, kv, rv, tv, lnv, lv0, clv, clr_i, clr_r, clr_n, clr_l, true_and, and_true, Option.toList_some, Option.toList_none, List.cons_append, List.nil_append, bI_0, bI_1, bI_or, ↓reduceIte, or_true, true_or, eq_self, irv, i0_add, not_true_eq_false, not_false_eq_true, Bool.false_eq_true, and_false, false_and, or_false, false_or, reduceCtorEq, nev, ngv, nc_or, in64, l64v, ite_not, ite_notP, up2_upr, upr_upr, upr_at, nI_cl, nI_ir, iav, nI_1, nI_mul6, nI_6mul, nI_lt2, nI_eq2, nI_neg, nI_m1, ltv, nI_z, upd_at, upd_off, upr_off, usv, upd_upd]
theorem law_told (d i L : Nat) (M : Mem) (hI : Inv M) (h64 : M 64 0 = nI L) (hL : L ≤ 256) (hi : i + 4 ≤ L) : LawS d i M 225 := by
  have l0 := ln63 h64 hL
  have a1 : nI i + 1 = nI (i + 1) := nI_add i 1
  have a2 : nI i + 2 = nI (i + 2) := nI_add i 2
  have a3 : nI i + 3 = nI (i + 3) := nI_add i 3
  have a4 : nI i + 4 = nI (i + 4) := nI_add i 4
  obtain ⟨v, M1, M2, eC, eM, hI2, k1, k2⟩ := Wp_ans (d := d + 11) (pair_told (d + 6) (M 63 (i + 1)) M hI)
  refine ⟨M2, hI2, k2, fun Q => ?_⟩
  have l1 : lnm M1 63 = L := ln63 (by rw [k1 64 (by omega)]; exact h64) hL
  have s1 := k1 63 (by omega)
  simp (maxSteps := 400000) (disch := first | omega | assumption) only [e197_0, e197_1, e197_10, e197_11, r63, l0, l1, s1, a1, a2, a3, a4, eC, eM, kv, rv, tv, lnv, lv0, clv, clr_i, clr_r, clr_n, clr_l, true_and, and_true, Option.toList_some, Option.toList_none, List.cons_append, List.nil_append, bI_0, bI_1, bI_or, ↓reduceIte, or_true, true_or, eq_self, irv, i0_add, not_true_eq_false, not_false_eq_true, Bool.false_eq_true, and_false, false_and, or_false, false_or, reduceCtorEq, nev, ngv, nc_or, in64, l64v, ite_not, ite_notP, up2_upr, upr_upr, upr_at, nI_cl, nI_ir, iav, nI_1, nI_mul6, nI_6mul, nI_lt2, nI_eq2, nI_neg, nI_m1, ltv, nI_z, upd_at, upd_off, upr_off, usv, upd_upd]
theorem law_accepts (d i L : Nat) (M : Mem) (hI : Inv M) (h64 : M 64 0 = nI L) (hL : L ≤ 256) (hi : i + 4 ≤ L) : LawS d i M 248 := by
  have l0 := ln63 h64 hL
  have a1 : nI i + 1 = nI (i + 1) := nI_add i 1
  have a2 : nI i + 2 = nI (i + 2) := nI_add i 2
  have a3 : nI i + 3 = nI (i + 3) := nI_add i 3
  have a4 : nI i + 4 = nI (i + 4) := nI_add i 4
  obtain ⟨v, M1, M2, eC, eM, hI2, k1, k2⟩ := Wp_ans (d := d + 11) (pair_accepts (d + 9) (M 63 (i + 1)) (M 63 (i + 2)) M hI)
  refine ⟨M2, hI2, k2, fun Q => ?_⟩
  have l1 : lnm M1 63 = L := ln63 (by rw [k1 64 (by omega)]; exact h64) hL
  have s1 := k1 63 (by omega)
  simp (maxSteps := 400000) (disch := first | omega | assumption) only [e197_1, e197_10, e197_11, r63, l0, l1, s1, a1, a2, a3, a4, eC, eM, kv, rv, tv, lnv, lv0, clv, clr_i, clr_r, clr_n, clr_l, true_and, and_true, Option.toList_some, Option.toList_none, List.cons_append, List.nil_append, bI_0, bI_1, bI_or, ↓reduceIte, or_true, true_or, eq_self, irv, i0_add, not_true_eq_false, not_false_eq_true, Bool.false_eq_true, and_false, false_and, or_false, false_or, reduceCtorEq, nev, ngv, nc_or, in64, l64v, ite_not, ite_notP, up2_upr, upr_upr, upr_at, nI_cl, nI_ir, iav, nI_1, nI_mul6, nI_6mul, nI_lt2, nI_eq2, nI_neg, nI_m1, ltv, nI_z, upd_at, upd_off, upr_off, usv, upd_upd]
theorem law_debtor (d i L : Nat) (M : Mem) (hI : Inv M) (h64 : M 64 0 = nI L) (hL : L ≤ 256) (hi : i + 4 ≤ L) : LawS d i M 281 := by
  have l0 := ln63 h64 hL
  have a1 : nI i + 1 = nI (i + 1) := nI_add i 1
  have a2 : nI i + 2 = nI (i + 2) := nI_add i 2
  have a3 : nI i + 3 = nI (i + 3) := nI_add i 3
  have a4 : nI i + 4 = nI (i + 4) := nI_add i 4
  obtain ⟨v, M1, M2, eC, eM, hI2, k1, k2⟩ := Wp_ans (d := d + 11) (pair_debtor (d + 6) (M 63 (i + 1)) (M 63 (i + 2)) M hI)
  refine ⟨M2, hI2, k2, fun Q => ?_⟩
  have l1 : lnm M1 63 = L := ln63 (by rw [k1 64 (by omega)]; exact h64) hL
  have s1 := k1 63 (by omega)
  simp (maxSteps := 400000) (disch := first | omega | assumption) only [e197_1, e197_10, e197_11, r63, l0, l1, s1, a1, a2, a3, a4, eC, eM, kv, rv, tv, lnv, lv0, clv, clr_i, clr_r, clr_n, clr_l, true_and, and_true, Option.toList_some, Option.toList_none, List.cons_append, List.nil_append, bI_0, bI_1, bI_or, ↓reduceIte, or_true, true_or, eq_self, irv, i0_add, not_true_eq_false, not_false_eq_true, Bool.false_eq_true, and_false, false_and, or_false, false_or, reduceCtorEq, nev, ngv, nc_or, in64, l64v, ite_not, ite_notP, up2_upr, upr_upr, upr_at, nI_cl, nI_ir, iav, nI_1, nI_mul6, nI_6mul, nI_lt2, nI_eq2, nI_neg, nI_m1, ltv, nI_z, upd_at, upd_off, upr_off, usv, upd_upd]
theorem law_owes (d i L : Nat) (M : Mem) (hI : Inv M) (h64 : M 64 0 = nI L) (hL : L ≤ 256) (hi : i + 4 ≤ L) : LawS d i M 314 := by
  have l0 := ln63 h64 hL
  have a1 : nI i + 1 = nI (i + 1) := nI_add i 1
  have a2 : nI i + 2 = nI (i + 2) := nI_add i 2
  have a3 : nI i + 3 = nI (i + 3) := nI_add i 3
  have a4 : nI i + 4 = nI (i + 4) := nI_add i 4
  obtain ⟨v, M1, M2, eC, eM, hI2, k1, k2⟩ := Wp_ans (d := d + 11) (pair_owes (d + 6) (M 63 (i + 1)) (M 63 (i + 2)) M hI)
  refine ⟨M2, hI2, k2, fun Q => ?_⟩
  have l1 : lnm M1 63 = L := ln63 (by rw [k1 64 (by omega)]; exact h64) hL
  have s1 := k1 63 (by omega)
  simp (maxSteps := 400000) (disch := first | omega | assumption) only [e197_1, e197_2, e197_10, e197_11, r63, l0, l1, s1, a1, a2, a3, a4, eC, eM, kv, rv, tv, lnv, lv0, clv, clr_i, clr_r, clr_n, clr_l, true_and, and_true, Option.toList_some, Option.toList_none, List.cons_append, List.nil_append, bI_0, bI_1, bI_or, ↓reduceIte, or_true, true_or, eq_self, irv, i0_add, not_true_eq_false, not_false_eq_true, Bool.false_eq_true, and_false, false_and, or_false, false_or, reduceCtorEq, nev, ngv, nc_or, in64, l64v, ite_not, ite_notP, up2_upr, upr_upr, upr_at, nI_cl, nI_ir, iav, nI_1, nI_mul6, nI_6mul, nI_lt2, nI_eq2, nI_neg, nI_m1, ltv, nI_z, upd_at, upd_off, upr_off, usv, upd_upd]
theorem law_place (d i L : Nat) (M : Mem) (hI : Inv M) (h64 : M 64 0 = nI L) (hL : L ≤ 256) (hi : i + 4 ≤ L) : LawS d i M 347 := by
  have l0 := ln63 h64 hL
  have a1 : nI i + 1 = nI (i + 1) := nI_add i 1
  have a2 : nI i + 2 = nI (i + 2) := nI_add i 2
  have a3 : nI i + 3 = nI (i + 3) := nI_add i 3
  have a4 : nI i + 4 = nI (i + 4) := nI_add i 4
  obtain ⟨v, M1, M2, eC, eM, hI2, k1, k2⟩ := Wp_ans (d := d + 11) (pair_place (d + 9) (M 63 (i + 1)) (M 63 (i + 2)) M hI)
  refine ⟨M2, hI2, k2, fun Q => ?_⟩
  have l1 : lnm M1 63 = L := ln63 (by rw [k1 64 (by omega)]; exact h64) hL
  have s1 := k1 63 (by omega)
  simp (maxSteps := 400000) (disch := first | omega | assumption) only [e197_2, e197_10, e197_11, r63, l0, l1, s1, a1, a2, a3, a4, eC, eM, kv, rv, tv, lnv, lv0, clv, clr_i, clr_r, clr_n, clr_l, true_and, and_true, Option.toList_some, Option.toList_none, List.cons_append, List.nil_append, bI_0, bI_1, bI_or, ↓reduceIte, or_true, true_or, eq_self, irv, i0_add, not_true_eq_false, not_false_eq_true, Bool.false_eq_true, and_false, false_and, or_false, false_or, reduceCtorEq, nev, ngv, nc_or, in64, l64v, ite_not, ite_notP, up2_upr, upr_upr, upr_at, nI_cl, nI_ir, iav, nI_1, nI_mul6, nI_6mul, nI_lt2, nI_eq2, nI_neg, nI_m1, ltv, nI_z, upd_at, upd_off, upr_off, usv, upd_upd]
theorem law_week (d i L : Nat) (M : Mem) (hI : Inv M) (h64 : M 64 0 = nI L) (hL : L ≤ 256) (hi : i + 4 ≤ L) : LawS d i M 380 := by
  have l0 := ln63 h64 hL
  have a1 : nI i + 1 = nI (i + 1) := nI_add i 1
  have a2 : nI i + 2 = nI (i + 2) := nI_add i 2
  have a3 : nI i + 3 = nI (i + 3) := nI_add i 3
  have a4 : nI i + 4 = nI (i + 4) := nI_add i 4
  obtain ⟨v, M1, M2, eC, eM, hI2, k1, k2⟩ := Wp_ans (d := d + 11) (pair_week (d + 6) (M 63 (i + 1)) M hI)
  refine ⟨M2, hI2, k2, fun Q => ?_⟩
  have l1 : lnm M1 63 = L := ln63 (by rw [k1 64 (by omega)]; exact h64) hL
  have s1 := k1 63 (by omega)
  simp (maxSteps := 400000) (disch := first | omega | assumption) only [e197_2, e197_3, e197_10, e197_11, r63, l0, l1, s1, a1, a2, a3, a4, eC, eM, kv, rv, tv, lnv, lv0, clv, clr_i, clr_r, clr_n, clr_l, true_and, and_true, Option.toList_some, Option.toList_none, List.cons_append, List.nil_append, bI_0, bI_1, bI_or, ↓reduceIte, or_true, true_or, eq_self, irv, i0_add, not_true_eq_false, not_false_eq_true, Bool.false_eq_true, and_false, false_and, or_false, false_or, reduceCtorEq, nev, ngv, nc_or, in64, l64v, ite_not, ite_notP, up2_upr, upr_upr, upr_at, nI_cl, nI_ir, iav, nI_1, nI_mul6, nI_6mul, nI_lt2, nI_eq2, nI_neg, nI_m1, ltv, nI_z, upd_at, upd_off, upr_off, usv, upd_upd]
theorem law_goIn (d i L : Nat) (M : Mem) (hI : Inv M) (h64 : M 64 0 = nI L) (hL : L ≤ 256) (hi : i + 4 ≤ L) : LawS d i M 403 := by
  have l0 := ln63 h64 hL
  have a1 : nI i + 1 = nI (i + 1) := nI_add i 1
  have a2 : nI i + 2 = nI (i + 2) := nI_add i 2
  have a3 : nI i + 3 = nI (i + 3) := nI_add i 3
  have a4 : nI i + 4 = nI (i + 4) := nI_add i 4
  obtain ⟨v, M1, M2, eC, eM, hI2, k1, k2⟩ := Wp_ans (d := d + 11) (pair_goIn (d + 8) (M 63 (i + 1)) M hI)
  refine ⟨M2, hI2, k2, fun Q => ?_⟩
  have l1 : lnm M1 63 = L := ln63 (by rw [k1 64 (by omega)]; exact h64) hL
  have s1 := k1 63 (by omega)
  simp (maxSteps := 400000) (disch := first | omega | assumption) only [e197_3, e197_10, e197_11, r63, l0, l1, s1, a1, a2, a3, a4, eC, eM, kv, rv, tv, lnv, lv0, clv, clr_i, clr_r, clr_n, clr_l, true_and, and_true, Option.toList_some, Option.toList_none, List.cons_append, List.nil_append, bI_0, bI_1, bI_or, ↓reduceIte, or_true, true_or, eq_self, irv, i0_add, not_true_eq_false, not_false_eq_true, Bool.false_eq_true, and_false, false_and, or_false, false_or, reduceCtorEq, nev, ngv, nc_or, in64, l64v, ite_not, ite_notP, up2_upr, upr_upr, upr_at, nI_cl, nI_ir, iav, nI_1, nI_mul6, nI_6mul, nI_lt2, nI_eq2, nI_neg, nI_m1, ltv, nI_z, upd_at, upd_off, upr_off, usv, upd_upd]
theorem law_goOut (d i L : Nat) (M : Mem) (hI : Inv M) (h64 : M 64 0 = nI L) (hL : L ≤ 256) (hi : i + 4 ≤ L) : LawS d i M 426 := by
  have l0 := ln63 h64 hL
  have a1 : nI i + 1 = nI (i + 1) := nI_add i 1
  have a2 : nI i + 2 = nI (i + 2) := nI_add i 2
  have a3 : nI i + 3 = nI (i + 3) := nI_add i 3
  have a4 : nI i + 4 = nI (i + 4) := nI_add i 4
  obtain ⟨v, M1, M2, eC, eM, hI2, k1, k2⟩ := Wp_ans (d := d + 11) (pair_goOut (d + 8) (M 63 (i + 1)) M hI)
  refine ⟨M2, hI2, k2, fun Q => ?_⟩
  have l1 : lnm M1 63 = L := ln63 (by rw [k1 64 (by omega)]; exact h64) hL
  have s1 := k1 63 (by omega)
  simp (maxSteps := 400000) (disch := first | omega | assumption) only [e197_3, e197_10, e197_11, r63, l0, l1, s1, a1, a2, a3, a4, eC, eM, kv, rv, tv, lnv, lv0, clv, clr_i, clr_r, clr_n, clr_l, true_and, and_true, Option.toList_some, Option.toList_none, List.cons_append, List.nil_append, bI_0, bI_1, bI_or, ↓reduceIte, or_true, true_or, eq_self, irv, i0_add, not_true_eq_false, not_false_eq_true, Bool.false_eq_true, and_false, false_and, or_false, false_or, reduceCtorEq, nev, ngv, nc_or, in64, l64v, ite_not, ite_notP, up2_upr, upr_upr, upr_at, nI_cl, nI_ir, iav, nI_1, nI_mul6, nI_6mul, nI_lt2, nI_eq2, nI_neg, nI_m1, ltv, nI_z, upd_at, upd_off, upr_off, usv, upd_upd]
theorem law_settle (d i L : Nat) (M : Mem) (hI : Inv M) (h64 : M 64 0 = nI L) (hL : L ≤ 256) (hi : i + 4 ≤ L) : LawS d i M 449 := by
  have l0 := ln63 h64 hL
  have a1 : nI i + 1 = nI (i + 1) := nI_add i 1
  have a2 : nI i + 2 = nI (i + 2) := nI_add i 2
  have a3 : nI i + 3 = nI (i + 3) := nI_add i 3
  have a4 : nI i + 4 = nI (i + 4) := nI_add i 4
  obtain ⟨v, M1, M2, eC, eM, hI2, k1, k2⟩ := Wp_ans (d := d + 11) (pair_settle (d + 5) (M 63 (i + 1)) M hI)
  refine ⟨M2, hI2, k2, fun Q => ?_⟩
  have l1 : lnm M1 63 = L := ln63 (by rw [k1 64 (by omega)]; exact h64) hL
  have s1 := k1 63 (by omega)
  simp (maxSteps := 400000) (disch := first | omega | assumption) only [e197_3, e197_10, e197_11, r63, l0, l1, s1, a1, a2, a3, a4, eC, eM, kv, rv, tv, lnv, lv0, clv, clr_i, clr_r, clr_n, clr_l, true_and, and_true, Option.toList_some, Option.toList_none, List.cons_append, List.nil_append, bI_0, bI_1, bI_or, ↓reduceIte, or_true, true_or, eq_self, irv, i0_add, not_true_eq_false, not_false_eq_true, Bool.false_eq_true, and_false, false_and, or_false, false_or, reduceCtorEq, nev, ngv, nc_or, in64, l64v, ite_not, ite_notP, up2_upr, upr_upr, upr_at, nI_cl, nI_ir, iav, nI_1, nI_mul6, nI_6mul, nI_lt2, nI_eq2, nI_neg, nI_m1, ltv, nI_z, upd_at, upd_off, upr_off, usv, upd_upd]
theorem law_lend (d i L : Nat) (M : Mem) (hI : Inv M) (h64 : M 64 0 = nI L) (hL : L ≤ 256) (hi : i + 4 ≤ L) : LawS d i M 472 := by
  have l0 := ln63 h64 hL
  have a1 : nI i + 1 = nI (i + 1) := nI_add i 1
  have a2 : nI i + 2 = nI (i + 2) := nI_add i 2
  have a3 : nI i + 3 = nI (i + 3) := nI_add i 3
  have a4 : nI i + 4 = nI (i + 4) := nI_add i 4
  obtain ⟨v, M1, M2, eC, eM, hI2, k1, k2⟩ := Wp_ans (d := d + 11) (pair_lend (d + 5) (M 63 (i + 1)) (M 63 (i + 2)) (M 63 (i + 3)) M hI)
  refine ⟨M2, hI2, k2, fun Q => ?_⟩
  have l1 : lnm M1 63 = L := ln63 (by rw [k1 64 (by omega)]; exact h64) hL
  have s1 := k1 63 (by omega)
  simp (maxSteps := 400000) (disch := first | omega | assumption) only [e197_4, e197_10, e197_11, r63, l0, l1, s1, a1, a2, a3, a4, eC, eM, kv, rv, tv, lnv, lv0, clv, clr_i, clr_r, clr_n, clr_l, true_and, and_true, Option.toList_some, Option.toList_none, List.cons_append, List.nil_append, bI_0, bI_1, bI_or, ↓reduceIte, or_true, true_or, eq_self, irv, i0_add, not_true_eq_false, not_false_eq_true, Bool.false_eq_true, and_false, false_and, or_false, false_or, reduceCtorEq, nev, ngv, nc_or, in64, l64v, ite_not, ite_notP, up2_upr, upr_upr, upr_at, nI_cl, nI_ir, iav, nI_1, nI_mul6, nI_6mul, nI_lt2, nI_eq2, nI_neg, nI_m1, ltv, nI_z, upd_at, upd_off, upr_off, usv, upd_upd]
theorem law_sue (d i L : Nat) (M : Mem) (hI : Inv M) (h64 : M 64 0 = nI L) (hL : L ≤ 256) (hi : i + 4 ≤ L) : LawS d i M 515 := by
  have l0 := ln63 h64 hL
  have a1 : nI i + 1 = nI (i + 1) := nI_add i 1
  have a2 : nI i + 2 = nI (i + 2) := nI_add i 2
  have a3 : nI i + 3 = nI (i + 3) := nI_add i 3
  have a4 : nI i + 4 = nI (i + 4) := nI_add i 4
  obtain ⟨v, M1, M2, eC, eM, hI2, k1, k2⟩ := Wp_ans (d := d + 11) (pair_sue (d + 5) (M 63 (i + 1)) (M 63 (i + 2)) M hI)
  refine ⟨M2, hI2, k2, fun Q => ?_⟩
  have l1 : lnm M1 63 = L := ln63 (by rw [k1 64 (by omega)]; exact h64) hL
  have s1 := k1 63 (by omega)
  simp (maxSteps := 400000) (disch := first | omega | assumption) only [e197_4, e197_5, e197_10, e197_11, r63, l0, l1, s1, a1, a2, a3, a4, eC, eM, kv, rv, tv, lnv, lv0, clv, clr_i, clr_r, clr_n, clr_l, true_and, and_true, Option.toList_some, Option.toList_none, List.cons_append, List.nil_append, bI_0, bI_1, bI_or, ↓reduceIte, or_true, true_or, eq_self, irv, i0_add, not_true_eq_false, not_false_eq_true, Bool.false_eq_true, and_false, false_and, or_false, false_or, reduceCtorEq, nev, ngv, nc_or, in64, l64v, ite_not, ite_notP, up2_upr, upr_upr, upr_at, nI_cl, nI_ir, iav, nI_1, nI_mul6, nI_6mul, nI_lt2, nI_eq2, nI_neg, nI_m1, ltv, nI_z, upd_at, upd_off, upr_off, usv, upd_upd]
theorem law_drift (d i L : Nat) (M : Mem) (hI : Inv M) (h64 : M 64 0 = nI L) (hL : L ≤ 256) (hi : i + 4 ≤ L) : LawS d i M 548 := by
  have l0 := ln63 h64 hL
  have a1 : nI i + 1 = nI (i + 1) := nI_add i 1
  have a2 : nI i + 2 = nI (i + 2) := nI_add i 2
  have a3 : nI i + 3 = nI (i + 3) := nI_add i 3
  have a4 : nI i + 4 = nI (i + 4) := nI_add i 4
  obtain ⟨v, M1, M2, eC, eM, hI2, k1, k2⟩ := Wp_ans (d := d + 11) (pair_drift (d + 4) (M 63 (i + 1)) M hI)
  refine ⟨M2, hI2, k2, fun Q => ?_⟩
  have l1 : lnm M1 63 = L := ln63 (by rw [k1 64 (by omega)]; exact h64) hL
  have s1 := k1 63 (by omega)
  simp (maxSteps := 400000) (disch := first | omega | assumption) only [e197_5, e197_10, e197_11, r63, l0, l1, s1, a1, a2, a3, a4, eC, eM, kv, rv, tv, lnv, lv0, clv, clr_i, clr_r, clr_n, clr_l, true_and, and_true, Option.toList_some, Option.toList_none, List.cons_append, List.nil_append, bI_0, bI_1, bI_or, ↓reduceIte, or_true, true_or, eq_self, irv, i0_add, not_true_eq_false, not_false_eq_true, Bool.false_eq_true, and_false, false_and, or_false, false_or, reduceCtorEq, nev, ngv, nc_or, in64, l64v, ite_not, ite_notP, up2_upr, upr_upr, upr_at, nI_cl, nI_ir, iav, nI_1, nI_mul6, nI_6mul, nI_lt2, nI_eq2, nI_neg, nI_m1, ltv, nI_z, upd_at, upd_off, upr_off, usv, upd_upd]
theorem law_undo (d i L : Nat) (M : Mem) (hI : Inv M) (h64 : M 64 0 = nI L) (hL : L ≤ 256) (hi : i + 4 ≤ L) : LawS d i M 571 := by
  have l0 := ln63 h64 hL
  have a1 : nI i + 1 = nI (i + 1) := nI_add i 1
  have a2 : nI i + 2 = nI (i + 2) := nI_add i 2
  have a3 : nI i + 3 = nI (i + 3) := nI_add i 3
  have a4 : nI i + 4 = nI (i + 4) := nI_add i 4
  obtain ⟨v, M1, M2, eC, eM, hI2, k1, k2⟩ := Wp_ans (d := d + 11) (pair_undo (d + 8) M hI)
  refine ⟨M2, hI2, k2, fun Q => ?_⟩
  have l1 : lnm M1 63 = L := ln63 (by rw [k1 64 (by omega)]; exact h64) hL
  have s1 := k1 63 (by omega)
  simp (maxSteps := 400000) (disch := first | omega | assumption) only [e197_5, e197_10, e197_11, r63, l0, l1, s1, a1, a2, a3, a4, eC, eM, kv, rv, tv, lnv, lv0, clv, clr_i, clr_r, clr_n, clr_l, true_and, and_true, Option.toList_some, Option.toList_none, List.cons_append, List.nil_append, bI_0, bI_1, bI_or, ↓reduceIte, or_true, true_or, eq_self, irv, i0_add, not_true_eq_false, not_false_eq_true, Bool.false_eq_true, and_false, false_and, or_false, false_or, reduceCtorEq, nev, ngv, nc_or, in64, l64v, ite_not, ite_notP, up2_upr, upr_upr, upr_at, nI_cl, nI_ir, iav, nI_1, nI_mul6, nI_6mul, nI_lt2, nI_eq2, nI_neg, nI_m1, ltv, nI_z, upd_at, upd_off, upr_off, usv, upd_upd]
