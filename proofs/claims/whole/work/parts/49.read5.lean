/-! part 49: reading: the draft -/
theorem s2 (d : Nat) (M : Mem) (Q : Option Value → Mem → Prop) : Wp d 2 0 [.ref 5] [] M Q ↔ Q none (upr M 5 (upd (upd (upd (upd (upd (upd (upd (M 5) 8 0) 9 0) 10 0) 11 0) 12 0) 13 0) 14 0)) := by
  simp (maxSteps := 400000) only [e2, kv, rv, tv, lnv, lv0, clv, clr_i, clr_r, clr_n, clr_l, true_and, and_true, Option.toList_some, Option.toList_none, List.cons_append, List.nil_append, bI_0, bI_1, bI_or, ↓reduceIte, or_true, true_or, eq_self, irv, i0_add, not_true_eq_false, not_false_eq_true, Bool.false_eq_true, and_false, false_and, or_false, false_or, reduceCtorEq, nev, ngv, nc_or, in64, l64v, ite_not, ite_notP, up2_upr, upr_upr, upr_at]
/-- which clause a sign begins -/
def knF (x : Int32) : Option Nat := if x = 121 then some 0 else if x = 99 then some 1 else if x = 100 then some 2 else if x = 112 then some 3 else none
theorem s34 (d : Nat) (x : Int32) (M : Mem) (Q : Option Value → Mem → Prop) : Wp d 34 0 [.int x] [] M Q ↔ Q (some (.int (oI (knF x)))) M := by
  unfold knF
  by_cases h1 : x = 121
  · subst h1
    have z1 : ((121 : Int32) = 99 ↔ False) ∧ ((121 : Int32) = 100 ↔ False) ∧ ((121 : Int32) = 112 ↔ False) := ⟨iff_false_intro (by decide), iff_false_intro (by decide), iff_false_intro (by decide)⟩
    rw [if_pos rfl, oI_s]
    simp (maxSteps := 400000) (disch := first | omega | assumption) only [e34, z1, kv, rv, tv, lnv, lv0, clv, clr_i, clr_r, clr_n, clr_l, true_and, and_true, Option.toList_some, Option.toList_none, List.cons_append, List.nil_append, bI_0, bI_1, bI_or, ↓reduceIte, or_true, true_or, eq_self, irv, i0_add, not_true_eq_false, not_false_eq_true, Bool.false_eq_true, and_false, false_and, or_false, false_or, reduceCtorEq, nev, ngv, nc_or, in64, l64v, ite_not, ite_notP, up2_upr, upr_upr, upr_at, nI_cl, nI_ir, iav, nI_1, nI_mul6, nI_6mul, nI_lt2, nI_eq2, nI_neg, nI_m1, ltv, nI_z, upd_at, upd_off, upr_off, usv, upd_upd]
    exact Iff.rfl
  · rw [if_neg h1]
    by_cases h2 : x = 99
    · subst h2
      rw [if_pos rfl, oI_s]
      simp (maxSteps := 400000) (disch := first | omega | assumption) only [e34, kv, rv, tv, lnv, lv0, clv, clr_i, clr_r, clr_n, clr_l, true_and, and_true, Option.toList_some, Option.toList_none, List.cons_append, List.nil_append, bI_0, bI_1, bI_or, ↓reduceIte, or_true, true_or, eq_self, irv, i0_add, not_true_eq_false, not_false_eq_true, Bool.false_eq_true, and_false, false_and, or_false, false_or, reduceCtorEq, nev, ngv, nc_or, in64, l64v, ite_not, ite_notP, up2_upr, upr_upr, upr_at, nI_cl, nI_ir, iav, nI_1, nI_mul6, nI_6mul, nI_lt2, nI_eq2, nI_neg, nI_m1, ltv, nI_z, upd_at, upd_off, upr_off, usv, upd_upd]
      exact Iff.rfl
    · rw [if_neg h2]
      by_cases h3 : x = 100
      · subst h3
        have z1 : ((100 : Int32) = 99 ↔ False) := iff_false_intro (by decide)
        rw [if_pos rfl, oI_s]
        simp (maxSteps := 400000) (disch := first | omega | assumption) only [e34, z1, kv, rv, tv, lnv, lv0, clv, clr_i, clr_r, clr_n, clr_l, true_and, and_true, Option.toList_some, Option.toList_none, List.cons_append, List.nil_append, bI_0, bI_1, bI_or, ↓reduceIte, or_true, true_or, eq_self, irv, i0_add, not_true_eq_false, not_false_eq_true, Bool.false_eq_true, and_false, false_and, or_false, false_or, reduceCtorEq, nev, ngv, nc_or, in64, l64v, ite_not, ite_notP, up2_upr, upr_upr, upr_at, nI_cl, nI_ir, iav, nI_1, nI_mul6, nI_6mul, nI_lt2, nI_eq2, nI_neg, nI_m1, ltv, nI_z, upd_at, upd_off, upr_off, usv, upd_upd]
        exact Iff.rfl
      · rw [if_neg h3]
        by_cases h4 : x = 112
        · subst h4
          have z1 : ((112 : Int32) = 99 ↔ False) ∧ ((112 : Int32) = 100 ↔ False) := ⟨iff_false_intro (by decide), iff_false_intro (by decide)⟩
          rw [if_pos rfl, oI_s]
          simp (maxSteps := 400000) (disch := first | omega | assumption) only [e34, z1, kv, rv, tv, lnv, lv0, clv, clr_i, clr_r, clr_n, clr_l, true_and, and_true, Option.toList_some, Option.toList_none, List.cons_append, List.nil_append, bI_0, bI_1, bI_or, ↓reduceIte, or_true, true_or, eq_self, irv, i0_add, not_true_eq_false, not_false_eq_true, Bool.false_eq_true, and_false, false_and, or_false, false_or, reduceCtorEq, nev, ngv, nc_or, in64, l64v, ite_not, ite_notP, up2_upr, upr_upr, upr_at, nI_cl, nI_ir, iav, nI_1, nI_mul6, nI_6mul, nI_lt2, nI_eq2, nI_neg, nI_m1, ltv, nI_z, upd_at, upd_off, upr_off, usv, upd_upd]
          exact Iff.rfl
        · rw [if_neg h4, oI_n]
          simp (maxSteps := 400000) (disch := first | omega | assumption) only [e34, iff_false_intro h1, iff_false_intro h2, iff_false_intro h3, iff_false_intro h4, kv, rv, tv, lnv, lv0, clv, clr_i, clr_r, clr_n, clr_l, true_and, and_true, Option.toList_some, Option.toList_none, List.cons_append, List.nil_append, bI_0, bI_1, bI_or, ↓reduceIte, or_true, true_or, eq_self, irv, i0_add, not_true_eq_false, not_false_eq_true, Bool.false_eq_true, and_false, false_and, or_false, false_or, reduceCtorEq, nev, ngv, nc_or, in64, l64v, ite_not, ite_notP, up2_upr, upr_upr, upr_at, nI_cl, nI_ir, iav, nI_1, nI_mul6, nI_6mul, nI_lt2, nI_eq2, nI_neg, nI_m1, ltv, nI_z, upd_at, upd_off, upr_off, usv, upd_upd]
