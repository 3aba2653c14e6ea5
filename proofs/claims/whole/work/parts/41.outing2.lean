/-! part 41: the program's walk -/
theorem s69 (d np t : Nat) (xs ys ws : Nat → Nat) (r : Nat → Int32) (M : Mem) (ht : t ≤ 99) (hP : PLC M np xs ys ws) : ∀ f dep seen o w s g b (Q : Option Value → Mem → Prop), dep + f = 7 → seen < 64 → (∀ p, o = some p → p < np) → s ≤ 40 * dep → (Wp (d + f + 2) 69 0 [.ref 29, .ref 15, .int (nI dep), .int (nI seen), .int (oI o), .int (nI w), .int (nI s), .int (nI g), .null, .null, .null] [] (upr M 29 (rW r t b)) Q ↔ Q none (upr M 29 (rW r t (if f = 0 then b else goF np t xs ys ws f seen o w s g (mtF t b w (s + dN xs ys o none) g)))))
  | 0, dep, seen, o, w, s, g, b, Q, hd, hse, ho, hs => by
    obtain rfl : dep = 7 := by omega
    have e7 := fun d Q => s7 d np xs ys ws o none (upr M 29 (rW r t b)) Q hP ho (fun p e => by cases e)
    simp only [oI] at e7
    have l7 : (6 : Int32) < nI 7 ↔ True := iff_true_intro (by decide)
    simp (maxSteps := 400000) (disch := first | omega | assumption) only [e69_0, e69_1, e7, nI_add, l7, kv, rv, tv, lnv, lv0, clv, clr_i, clr_r, clr_n, clr_l, true_and, and_true, Option.toList_some, Option.toList_none, List.cons_append, List.nil_append, bI_0, bI_1, bI_or, ↓reduceIte, or_true, true_or, eq_self, irv, i0_add, not_true_eq_false, not_false_eq_true, Bool.false_eq_true, and_false, false_and, or_false, false_or, reduceCtorEq, nev, ngv, nc_or, in64, l64v, ite_not, ite_notP, up2_upr, upr_upr, upr_at, nI_cl, nI_ir, iav, nI_1, nI_mul6, nI_6mul, nI_lt2, nI_eq2, nI_neg, nI_m1, ltv, nI_z, upd_at, upd_off, upr_off, usv, upd_upd]
    simp only [oI]
    simp (maxSteps := 400000) (disch := first | omega | assumption) only [e69_0, e69_1, e7, nI_add, l7, kv, rv, tv, lnv, lv0, clv, clr_i, clr_r, clr_n, clr_l, true_and, and_true, Option.toList_some, Option.toList_none, List.cons_append, List.nil_append, bI_0, bI_1, bI_or, ↓reduceIte, or_true, true_or, eq_self, irv, i0_add, not_true_eq_false, not_false_eq_true, Bool.false_eq_true, and_false, false_and, or_false, false_or, reduceCtorEq, nev, ngv, nc_or, in64, l64v, ite_not, ite_notP, up2_upr, upr_upr, upr_at, nI_cl, nI_ir, iav, nI_1, nI_mul6, nI_6mul, nI_lt2, nI_eq2, nI_neg, nI_m1, ltv, nI_z, upd_at, upd_off, upr_off, usv, upd_upd]
  | f + 1, dep, seen, o, w, s, g, b, Q, hd, hse, ho, hs => by
    have e7 := fun d b Q => s7 d np xs ys ws o none (upr M 29 (rW r t b)) Q hP ho (fun p e => by cases e)
    sorry
