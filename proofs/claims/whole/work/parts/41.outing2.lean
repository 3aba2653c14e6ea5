/-! part 41: the program's walk -/
theorem oI_n : oI none = -1 := rfl
theorem oI_s (p : Nat) : oI (some p) = nI p := rfl
theorem s69 (d np t : Nat) (xs ys ws : Nat → Nat) (r : Nat → Int32) (M : Mem) (ht : t ≤ 99) (hP : PLC M np xs ys ws) : ∀ f dep seen o w s g b (Q : Option Value → Mem → Prop), dep + f = 7 → seen < 64 → pcN seen = dep → (∀ p, o = some p → p < np) → s ≤ 40 * dep → (Wp (d + f + 2) 69 0 [.ref 29, .ref 15, .int (nI dep), .int (nI seen), .int (oI o), .int (nI w), .int (nI s), .int (nI g), .null, .null, .null] [] (upr M 29 (rW r t b)) Q ↔ Q none (upr M 29 (rW r t (if f = 0 then b else goF np t xs ys ws f seen o w s g (mtF t b w (s + dN xs ys o none) g)))))
  | 0, dep, seen, o, w, s, g, b, Q, hd, hse, hpc, ho, hs => by
    obtain rfl : dep = 7 := by omega
    have e7 := fun d Q => s7 d np xs ys ws o none (upr M 29 (rW r t b)) Q hP ho (fun p e => by cases e)
    simp only [oI_n] at e7
    have l7 : (6 : Int32) < nI 7 ↔ True := iff_true_intro (by decide)
    simp (maxSteps := 400000) (disch := first | omega | assumption) only [e69_0, e69_1, e7, nI_add, l7, kv, rv, tv, lnv, lv0, clv, clr_i, clr_r, clr_n, clr_l, true_and, and_true, Option.toList_some, Option.toList_none, List.cons_append, List.nil_append, bI_0, bI_1, bI_or, ↓reduceIte, or_true, true_or, eq_self, irv, i0_add, not_true_eq_false, not_false_eq_true, Bool.false_eq_true, and_false, false_and, or_false, false_or, reduceCtorEq, nev, ngv, nc_or, in64, l64v, ite_not, ite_notP, up2_upr, upr_upr, upr_at, nI_cl, nI_ir, iav, nI_1, nI_mul6, nI_6mul, nI_lt2, nI_eq2, nI_neg, nI_m1, ltv, nI_z, upd_at, upd_off, upr_off, usv, upd_upd]
  | f + 1, dep, seen, o, w, s, g, b, Q, hd, hse, hpc, ho, hs => by
    have e7 := fun d b Q => s7 d np xs ys ws o none (upr M 29 (rW r t b)) Q hP ho (fun p e => by cases e)
    simp only [oI_n] at e7
    have hh := dN_b hP ho (b := none) (fun p e => by cases e)
    obtain ⟨h6, h14, hp⟩ := id hP
    have hdep : dep ≤ 6 := by omega
    have l6 : (6 : Int32) < nI dep ↔ False := iff_false_intro (fun z => by have := (nI_lt2 (a := 6) (by omega) (by omega : dep < 2147483648)).mp z; omega)
    have loop : ∀ j p b x, p + j = np → (Wp (d + (f + 1) + 2) 69 62 [.ref 29, .ref 15, .int (nI dep), .int (nI seen), .int (oI o), .int (nI w), .int (nI s), .int (nI g), .int (nI (s + dN xs ys o none)), .int (nI p), x] [] (upr M 29 (rW r t b)) Q ↔ Q none (upr M 29 (rW r t (kdF (fun p b => if seen.testBit p = true then b else goF np t xs ys ws f (seen ||| 2 ^ p) (some p) (w + ws p) (s + dN xs ys o (some p)) (g * 10 + p + 1) (mtF t b (w + ws p) (s + dN xs ys o (some p) + dN xs ys (some p) none) (g * 10 + p + 1))) j p b)))) := by
      intro j
      induction j with
      | zero =>
        intro p b x hpj
        obtain rfl : p = np := by omega
        rw [h69_62, kdF]
        simp (maxSteps := 400000) (disch := first | omega | assumption) only [e69_0, e69_1, h14, Nat.lt_irrefl, kv, rv, tv, lnv, lv0, clv, clr_i, clr_r, clr_n, clr_l, true_and, and_true, Option.toList_some, Option.toList_none, List.cons_append, List.nil_append, bI_0, bI_1, bI_or, ↓reduceIte, or_true, true_or, eq_self, irv, i0_add, not_true_eq_false, not_false_eq_true, Bool.false_eq_true, and_false, false_and, or_false, false_or, reduceCtorEq, nev, ngv, nc_or, in64, l64v, ite_not, ite_notP, up2_upr, upr_upr, upr_at, nI_cl, nI_ir, iav, nI_1, nI_mul6, nI_6mul, nI_lt2, nI_eq2, nI_neg, nI_m1, ltv, nI_z, upd_at, upd_off, upr_off, usv, upd_upd]
      | succ j ih =>
        intro p b x hpj
        have hlt : p < np := by omega
        have hp6 : p < 6 := by omega
        obtain ⟨-, -, e23, -⟩ := hp p hlt
        rw [h69_62, kdF]
        by_cases hb : seen.testBit p = true
        · rw [if_pos hb]
          refine Iff.trans ?_ (ih (p + 1) b x (by omega))
          simp (maxSteps := 400000) (disch := first | omega | assumption) only [e69_0, e69_1, h14, hlt, and1, bt_iff p hp6 seen hse, hb, kv, rv, tv, lnv, lv0, clv, clr_i, clr_r, clr_n, clr_l, true_and, and_true, Option.toList_some, Option.toList_none, List.cons_append, List.nil_append, bI_0, bI_1, bI_or, ↓reduceIte, or_true, true_or, eq_self, irv, i0_add, not_true_eq_false, not_false_eq_true, Bool.false_eq_true, and_false, false_and, or_false, false_or, reduceCtorEq, nev, ngv, nc_or, in64, l64v, ite_not, ite_notP, up2_upr, upr_upr, upr_at, nI_cl, nI_ir, iav, nI_1, nI_mul6, nI_6mul, nI_lt2, nI_eq2, nI_neg, nI_m1, ltv, nI_z, upd_at, upd_off, upr_off, usv, upd_upd]
        · rw [if_neg hb]
          have hbf : seen.testBit p = false := by simpa using hb
          have hpc2 := pc_or p hp6 seen hse hbf
          have hf0 : f ≠ 0 := fun z => by
            have := pc_full seen hse (by omega) p hp6
            exact hb this
          have hd2 := dN_b hP ho (b := some p) (fun q e => by cases e; exact hlt)
          have ec := fun b Q => s69 d np t xs ys ws r M ht hP f (dep + 1) (seen ||| 2 ^ p) (some p) (w + ws p) (s + dN xs ys o (some p)) (g * 10 + p + 1) b Q (by omega) (s_or hse hp6) (by omega) (fun q e => by cases e; exact hlt) (by omega)
          have hdp : d + f + 2 = d + (f + 1) + 1 := by omega
          simp only [if_neg hf0, oI_s, hdp] at ec
          have e7p := fun d b Q => s7 d np xs ys ws o (some p) (upr M 29 (rW r t b)) Q hP ho (fun q e => by cases e; exact hlt)
          simp only [oI_s] at e7p
          have g10 : nI g * 10 = nI (g * 10) := pk_mul g 10
          refine Iff.trans ?_ (ih (p + 1) _ (.int (nI (s + dN xs ys o (some p)))) (by omega))
          simp (maxSteps := 400000) (disch := first | omega | assumption) only [e69_0, e69_1, h14, hlt, and1, bt_iff p hp6 seen hse, hb, e7p, nI_add, or_bit p hp6 seen hse, e23, g10, ec, kv, rv, tv, lnv, lv0, clv, clr_i, clr_r, clr_n, clr_l, true_and, and_true, Option.toList_some, Option.toList_none, List.cons_append, List.nil_append, bI_0, bI_1, bI_or, ↓reduceIte, or_true, true_or, eq_self, irv, i0_add, not_true_eq_false, not_false_eq_true, Bool.false_eq_true, and_false, false_and, or_false, false_or, reduceCtorEq, nev, ngv, nc_or, in64, l64v, ite_not, ite_notP, up2_upr, upr_upr, upr_at, nI_cl, nI_ir, iav, nI_1, nI_mul6, nI_6mul, nI_lt2, nI_eq2, nI_neg, nI_m1, ltv, nI_z, upd_at, upd_off, upr_off, usv, upd_upd]
    rw [if_neg (by omega : ¬ f + 1 = 0)]
    have ehm : nI t < nI (s + dN xs ys o none) ↔ t < s + dN xs ys o none := nI_lt2 (by omega) (by omega)
    by_cases hl : t < s + dN xs ys o none
    · rw [goF_late (f + 1) seen o w s g _ hl]
      have hm : mtF t b w (s + dN xs ys o none) g = b := by
        unfold mtF
        rw [if_neg (fun z => by have := z.1; omega)]
      rw [hm]
      simp (maxSteps := 400000) (disch := first | omega | assumption) only [e69_0, e69_1, e7, nI_add, l6, rW_s, hl, kv, rv, tv, lnv, lv0, clv, clr_i, clr_r, clr_n, clr_l, true_and, and_true, Option.toList_some, Option.toList_none, List.cons_append, List.nil_append, bI_0, bI_1, bI_or, ↓reduceIte, or_true, true_or, eq_self, irv, i0_add, not_true_eq_false, not_false_eq_true, Bool.false_eq_true, and_false, false_and, or_false, false_or, reduceCtorEq, nev, ngv, nc_or, in64, l64v, ite_not, ite_notP, up2_upr, upr_upr, upr_at, nI_cl, nI_ir, iav, nI_1, nI_mul6, nI_6mul, nI_lt2, nI_eq2, nI_neg, nI_m1, ltv, nI_z, upd_at, upd_off, upr_off, usv, upd_upd]
    · have e70 := fun d Q => s70 d (nI w) (nI (s + dN xs ys o none)) (nI g) b (upr M 29 (rW r t b)) Q rfl rfl rfl
      have lo := fun b => loop np 0 b .null (by omega)
      rw [goF]
      by_cases hbt : btP (nI w) (nI (s + dN xs ys o none)) (nI g) b
      · have hm : mtF t b w (s + dN xs ys o none) g = (nI w, nI (s + dN xs ys o none), nI g) := by
          unfold mtF
          rw [if_pos ⟨by omega, hbt⟩]
        have hbi : @bI (btP (nI w) (nI (s + dN xs ys o none)) (nI g) b) (Classical.propDecidable _) = 1 := by unfold bI; rw [if_pos hbt]
        rw [hbi] at e70
        rw [hm, ← lo]
        simp (maxSteps := 400000) (disch := first | omega | assumption) only [e69_0, e69_1, e7, nI_add, l6, rW_s, hl, e70, z01, rW_u, kv, rv, tv, lnv, lv0, clv, clr_i, clr_r, clr_n, clr_l, true_and, and_true, Option.toList_some, Option.toList_none, List.cons_append, List.nil_append, bI_0, bI_1, bI_or, ↓reduceIte, or_true, true_or, eq_self, irv, i0_add, not_true_eq_false, not_false_eq_true, Bool.false_eq_true, and_false, false_and, or_false, false_or, reduceCtorEq, nev, ngv, nc_or, in64, l64v, ite_not, ite_notP, up2_upr, upr_upr, upr_at, nI_cl, nI_ir, iav, nI_1, nI_mul6, nI_6mul, nI_lt2, nI_eq2, nI_neg, nI_m1, ltv, nI_z, upd_at, upd_off, upr_off, usv, upd_upd]
        exact Iff.rfl
      · have hm : mtF t b w (s + dN xs ys o none) g = b := by
          unfold mtF
          rw [if_neg (fun z => hbt z.2)]
        have hbi : @bI (btP (nI w) (nI (s + dN xs ys o none)) (nI g) b) (Classical.propDecidable _) = 0 := by unfold bI; rw [if_neg hbt]
        rw [hbi] at e70
        rw [hm, ← lo]
        simp (maxSteps := 400000) (disch := first | omega | assumption) only [e69_0, e69_1, e7, nI_add, l6, rW_s, hl, e70, z01, kv, rv, tv, lnv, lv0, clv, clr_i, clr_r, clr_n, clr_l, true_and, and_true, Option.toList_some, Option.toList_none, List.cons_append, List.nil_append, bI_0, bI_1, bI_or, ↓reduceIte, or_true, true_or, eq_self, irv, i0_add, not_true_eq_false, not_false_eq_true, Bool.false_eq_true, and_false, false_and, or_false, false_or, reduceCtorEq, nev, ngv, nc_or, in64, l64v, ite_not, ite_notP, up2_upr, upr_upr, upr_at, nI_cl, nI_ir, iav, nI_1, nI_mul6, nI_6mul, nI_lt2, nI_eq2, nI_neg, nI_m1, ltv, nI_z, upd_at, upd_off, upr_off, usv, upd_upd]
        exact Iff.rfl
theorem s68 (d np t : Nat) (xs ys ws : Nat → Nat) (M : Mem) (Q : Option Value → Mem → Prop) (ht : t ≤ 99) (hP : PLC M np xs ys ws) : Wp (d + 10) 68 0 [.ref 29, .ref 15, .int (nI t)] [] M Q ↔ Q none (upr M 29 (rW (M 29) t (goF np t xs ys ws 7 0 none 0 0 0 (0, 0, 0)))) := by
  have e := fun Q => s69 d np t xs ys ws (M 29) M ht hP 7 0 0 none 0 0 0 (0, 0, 0) Q (by omega) (by omega) (by decide) (fun p e => by cases e) (by omega)
  have hm : mtF t (0, 0, 0) 0 (0 + dN xs ys none none) 0 = (0, 0, 0) := by
    unfold mtF
    split <;> rfl
  simp only [if_neg (by omega : ¬ 7 = 0), hm, oI_n, nI_0] at e
  have eu : upd (upd (upd (upd (M 29) 0 (nI t)) 1 0) 2 0) 3 0 = rW (M 29) t (0, 0, 0) := rfl
  simp (maxSteps := 400000) (disch := first | omega | assumption) only [e68, eu, e, kv, rv, tv, lnv, lv0, clv, clr_i, clr_r, clr_n, clr_l, true_and, and_true, Option.toList_some, Option.toList_none, List.cons_append, List.nil_append, bI_0, bI_1, bI_or, ↓reduceIte, or_true, true_or, eq_self, irv, i0_add, not_true_eq_false, not_false_eq_true, Bool.false_eq_true, and_false, false_and, or_false, false_or, reduceCtorEq, nev, ngv, nc_or, in64, l64v, ite_not, ite_notP, up2_upr, upr_upr, upr_at, nI_cl, nI_ir, iav, nI_1, nI_mul6, nI_6mul, nI_lt2, nI_eq2, nI_neg, nI_m1, ltv, nI_z, upd_at, upd_off, upr_off, usv, upd_upd]
