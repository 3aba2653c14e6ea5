/-! part 45: reading: signs, blanks, figures -/
def sgF (T : Nat → Int32) (c i : Nat) : Int32 := if i < c then T i else -1
theorem s24 (d c i : Nat) (M : Mem) (Q : Option Value → Mem → Prop) (hc : c ≤ 240) (h1 : M 1 1 = nI c) (hi : i < 2147483648) : Wp d 24 0 [.ref 1, .int (nI i)] [] M Q ↔ Q (some (.int (sgF (M 2) c i))) M := by
  unfold sgF
  by_cases h : i < c
  · have h2 : i < 240 := by omega
    have e : nI i < 240 ↔ True := iff_true_intro ((nI_lt2 (by omega) (by omega : 240 < 2147483648)).mpr h2)
    rw [if_pos h]
    simp (maxSteps := 400000) (disch := first | omega | assumption) only [e24, h1, h, h2, e, kv, rv, tv, lnv, lv0, clv, clr_i, clr_r, clr_n, clr_l, true_and, and_true, Option.toList_some, Option.toList_none, List.cons_append, List.nil_append, bI_0, bI_1, bI_or, ↓reduceIte, or_true, true_or, eq_self, irv, i0_add, not_true_eq_false, not_false_eq_true, Bool.false_eq_true, and_false, false_and, or_false, false_or, reduceCtorEq, nev, ngv, nc_or, in64, l64v, ite_not, ite_notP, up2_upr, upr_upr, upr_at, nI_cl, nI_ir, iav, nI_1, nI_mul6, nI_6mul, nI_lt2, nI_eq2, nI_neg, nI_m1, ltv, nI_z, upd_at, upd_off, upr_off, usv, upd_upd]
  · rw [if_neg h]
    simp (maxSteps := 400000) (disch := first | omega | assumption) only [e24, h1, h, kv, rv, tv, lnv, lv0, clv, clr_i, clr_r, clr_n, clr_l, true_and, and_true, Option.toList_some, Option.toList_none, List.cons_append, List.nil_append, bI_0, bI_1, bI_or, ↓reduceIte, or_true, true_or, eq_self, irv, i0_add, not_true_eq_false, not_false_eq_true, Bool.false_eq_true, and_false, false_and, or_false, false_or, reduceCtorEq, nev, ngv, nc_or, in64, l64v, ite_not, ite_notP, up2_upr, upr_upr, upr_at, nI_cl, nI_ir, iav, nI_1, nI_mul6, nI_6mul, nI_lt2, nI_eq2, nI_neg, nI_m1, ltv, nI_z, upd_at, upd_off, upr_off, usv, upd_upd]
theorem s115 (d c i : Nat) (M : Mem) (Q : Option Value → Mem → Prop) (hc : c ≤ 240) (h10 : M 40 10 = nI c) (h16 : M 40 16 = nI i) (hi : i < 2147483648) : Wp d 115 0 [.ref 40] [] M Q ↔ Q (some (.int (sgF (M 48) c i))) M := by
  unfold sgF
  by_cases h : i < c
  · have h2 : i < 240 := by omega
    rw [if_pos h]
    simp (maxSteps := 400000) (disch := first | omega | assumption) only [e115, h10, h16, h, h2, kv, rv, tv, lnv, lv0, clv, clr_i, clr_r, clr_n, clr_l, true_and, and_true, Option.toList_some, Option.toList_none, List.cons_append, List.nil_append, bI_0, bI_1, bI_or, ↓reduceIte, or_true, true_or, eq_self, irv, i0_add, not_true_eq_false, not_false_eq_true, Bool.false_eq_true, and_false, false_and, or_false, false_or, reduceCtorEq, nev, ngv, nc_or, in64, l64v, ite_not, ite_notP, up2_upr, upr_upr, upr_at, nI_cl, nI_ir, iav, nI_1, nI_mul6, nI_6mul, nI_lt2, nI_eq2, nI_neg, nI_m1, ltv, nI_z, upd_at, upd_off, upr_off, usv, upd_upd]
  · rw [if_neg h]
    simp (maxSteps := 400000) (disch := first | omega | assumption) only [e115, h10, h16, h, kv, rv, tv, lnv, lv0, clv, clr_i, clr_r, clr_n, clr_l, true_and, and_true, Option.toList_some, Option.toList_none, List.cons_append, List.nil_append, bI_0, bI_1, bI_or, ↓reduceIte, or_true, true_or, eq_self, irv, i0_add, not_true_eq_false, not_false_eq_true, Bool.false_eq_true, and_false, false_and, or_false, false_or, reduceCtorEq, nev, ngv, nc_or, in64, l64v, ite_not, ite_notP, up2_upr, upr_upr, upr_at, nI_cl, nI_ir, iav, nI_1, nI_mul6, nI_6mul, nI_lt2, nI_eq2, nI_neg, nI_m1, ltv, nI_z, upd_at, upd_off, upr_off, usv, upd_upd]
def skN (T : Nat → Int32) (c : Nat) : Nat → Nat → Nat
  | 0, a => a
  | f + 1, a => if sgF T c a = 32 then skN T c f (a + 1) else a
theorem sg_end {T : Nat → Int32} {c a : Nat} (h : c ≤ a) : sgF T c a = -1 := if_neg (by omega)
theorem skN_le (T : Nat → Int32) (c : Nat) : ∀ f a, a ≤ c → skN T c f a ≤ c
  | 0, a, h => h
  | f + 1, a, h => by
    rw [skN]
    split
    · rename_i h2
      have : a < c := by
        apply Classical.byContradiction
        intro z
        rw [sg_end (by omega)] at h2
        exact absurd h2 (by decide)
      exact skN_le T c f (a + 1) (by omega)
    · exact h
theorem skN_no (T : Nat → Int32) (c : Nat) : ∀ f a, c ≤ a + f → ¬ sgF T c (skN T c f a) = 32
  | 0, a, h => by
    rw [skN, sg_end (by omega)]
    decide
  | f + 1, a, h => by
    rw [skN]
    split
    · exact skN_no T c f (a + 1) (by omega)
    · rename_i h2
      exact h2
theorem l32 (d c : Nat) (M : Mem) (Q : Option Value → Mem → Prop) (hc : c ≤ 240) (h1 : M 1 1 = nI c) : ∀ j i a, i + j = 240 → a ≤ 240 → (Wp (d + 1) 32 2 [.ref 3, .ref 1, .int (nI i)] [] (upr M 3 (upd (M 3) 1 (nI a))) Q ↔ Q none (upr M 3 (upd (M 3) 1 (nI (skN (M 2) c j a)))))
  | 0, i, a, hi, ha => by
    obtain rfl : i = 240 := hi
    have e : nI 240 < 240 ↔ False := iff_false_intro (by decide)
    rw [h32_2, skN]
    simp (maxSteps := 400000) (disch := first | omega | assumption) only [e32, e, kv, rv, tv, lnv, lv0, clv, clr_i, clr_r, clr_n, clr_l, true_and, and_true, Option.toList_some, Option.toList_none, List.cons_append, List.nil_append, bI_0, bI_1, bI_or, ↓reduceIte, or_true, true_or, eq_self, irv, i0_add, not_true_eq_false, not_false_eq_true, Bool.false_eq_true, and_false, false_and, or_false, false_or, reduceCtorEq, nev, ngv, nc_or, in64, l64v, ite_not, ite_notP, up2_upr, upr_upr, upr_at, nI_cl, nI_ir, iav, nI_1, nI_mul6, nI_6mul, nI_lt2, nI_eq2, nI_neg, nI_m1, ltv, nI_z, upd_at, upd_off, upr_off, usv, upd_upd]
  | j + 1, i, a, hi, ha => by
    have e : nI i < 240 ↔ True := iff_true_intro ((nI_lt2 (by omega) (by omega : 240 < 2147483648)).mpr (by omega))
    have es := fun d Q => s24 d c a (upr M 3 (upd (M 3) 1 (nI a))) Q hc h1 (by omega)
    have er : upr M 3 (upd (M 3) 1 (nI a)) 2 = M 2 := rfl
    rw [er] at es
    rw [h32_2, skN]
    by_cases h : sgF (M 2) c a = 32
    · have hac : a < c := by
        apply Classical.byContradiction
        intro z
        rw [sg_end (by omega)] at h
        exact absurd h (by decide)
      rw [if_pos h]
      refine Iff.trans ?_ (l32 d c M Q hc h1 j (i + 1) (a + 1) (by omega) (by omega))
      simp (maxSteps := 400000) (disch := first | omega | assumption) only [e32, e, es, h, kv, rv, tv, lnv, lv0, clv, clr_i, clr_r, clr_n, clr_l, true_and, and_true, Option.toList_some, Option.toList_none, List.cons_append, List.nil_append, bI_0, bI_1, bI_or, ↓reduceIte, or_true, true_or, eq_self, irv, i0_add, not_true_eq_false, not_false_eq_true, Bool.false_eq_true, and_false, false_and, or_false, false_or, reduceCtorEq, nev, ngv, nc_or, in64, l64v, ite_not, ite_notP, up2_upr, upr_upr, upr_at, nI_cl, nI_ir, iav, nI_1, nI_mul6, nI_6mul, nI_lt2, nI_eq2, nI_neg, nI_m1, ltv, nI_z, upd_at, upd_off, upr_off, usv, upd_upd]
    · rw [if_neg h]
      simp (maxSteps := 400000) (disch := first | omega | assumption) only [e32, e, es, h, kv, rv, tv, lnv, lv0, clv, clr_i, clr_r, clr_n, clr_l, true_and, and_true, Option.toList_some, Option.toList_none, List.cons_append, List.nil_append, bI_0, bI_1, bI_or, ↓reduceIte, or_true, true_or, eq_self, irv, i0_add, not_true_eq_false, not_false_eq_true, Bool.false_eq_true, and_false, false_and, or_false, false_or, reduceCtorEq, nev, ngv, nc_or, in64, l64v, ite_not, ite_notP, up2_upr, upr_upr, upr_at, nI_cl, nI_ir, iav, nI_1, nI_mul6, nI_6mul, nI_lt2, nI_eq2, nI_neg, nI_m1, ltv, nI_z, upd_at, upd_off, upr_off, usv, upd_upd]
theorem s32 (d c a : Nat) (N : Mem) (Q : Option Value → Mem → Prop) (hc : c ≤ 240) (h1 : N 1 1 = nI c) (ha : a ≤ 240) (h3 : N 3 1 = nI a) : Wp (d + 1) 32 0 [.ref 3, .ref 1, .null] [] N Q ↔ Q none (upr N 3 (upd (N 3) 1 (nI (skN (N 2) c 240 a)))) := by
  have e := l32 d c N Q hc h1 240 0 a (by omega) ha
  have e2 : upr N 3 (upd (N 3) 1 (nI a)) = N := by rw [← h3, upd_id, upr_id]
  rw [e2] at e
  rw [← e]
  simp (maxSteps := 400000) only [e32, kv, rv, tv, lnv, lv0, clv, clr_i, clr_r, clr_n, clr_l, true_and, and_true, Option.toList_some, Option.toList_none, List.cons_append, List.nil_append, bI_0, bI_1, bI_or, ↓reduceIte, or_true, true_or, eq_self, irv, i0_add, not_true_eq_false, not_false_eq_true, Bool.false_eq_true, and_false, false_and, or_false, false_or, reduceCtorEq, nev, ngv, nc_or, in64, l64v, ite_not, ite_notP, up2_upr, upr_upr, upr_at]
  rfl
def fgP (x : Int32) : Prop := rg x 48 57
/-- figures: how many, where they end, what they say -/
noncomputable def dgF (T : Nat → Int32) (c : Nat) : Nat → Nat → Nat → Int32 → Nat × Nat × Int32
  | 0, i, a, v => (i, a, v)
  | f + 1, i, a, v => @ite _ (fgP (sgF T c a)) (Classical.propDecidable _) (dgF T c f (i + 1) (a + 1) (if i < 3 then v * 10 + sgF T c a - 48 else v)) (i, a, v)
