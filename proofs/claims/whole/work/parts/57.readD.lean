/-! part 57: reading: the reference: a word that cannot stand -/
theorem wd_lits : ((121 : Int32) = 99 ↔ False) ∧ ((121 : Int32) = 100 ↔ False) ∧ ((121 : Int32) = 112 ↔ False) ∧ ((99 : Int32) = 121 ↔ False) ∧ ((99 : Int32) = 100 ↔ False) ∧ ((99 : Int32) = 112 ↔ False) ∧ ((100 : Int32) = 121 ↔ False) ∧ ((100 : Int32) = 99 ↔ False) ∧ ((100 : Int32) = 112 ↔ False) ∧ ((112 : Int32) = 121 ↔ False) ∧ ((112 : Int32) = 99 ↔ False) ∧ ((112 : Int32) = 100 ↔ False) := by
  refine ⟨?_, ?_, ?_, ?_, ?_, ?_, ?_, ?_, ?_, ?_, ?_, ?_⟩ <;> exact iff_false_intro (by decide)
theorem s116_w (d ro nc n np : Nat) (x sg st : Int32) (N : Mem) (Q : Option Value → Mem → Prop) (h18 : N 40 18 = sg) (hsg : sg = x ∨ (rg x 48 57 ∧ sg = 48)) (hro : ro ≤ 6) (h1 : N 42 1 = nI ro) (hst : st = 0 ↔ ro = 0) (hnc : nc ≤ 4) (h3 : N 42 3 = nI nc) (hn : n ≤ 6) (h4 : N 42 4 = nI n) (hnp : np ≤ 6) (h5 : N 42 5 = nI np) (hw : ¬ wdF st nc n np (knF x) = 0) : Wp (d + 3) 116 0 [.ref 40] [] N Q ↔ Q (some (.int 0)) (upr N 40 (upd (N 40) 21 (wdF st nc n np (knF x)))) := by
  obtain ⟨q1, q2, q3, q4, q5, q6, q7, q8, q9, q10, q11, q12⟩ := wd_lits
  have nofig : ∀ y : Int32, y = 121 ∨ y = 99 ∨ y = 100 ∨ y = 112 → ¬ rg y 48 57 := by
    intro y hy
    rcases hy with rfl | rfl | rfl | rfl <;> decide
  have hro' : (0 < ro ↔ ¬ ro = 0) := by omega
  by_cases x1 : x = 121
  · subst x1
    obtain rfl : sg = 121 := hsg.resolve_right (fun z => nofig _ (Or.inl rfl) z.1)
    have ek : knF 121 = some 0 := rfl
    rw [ek] at hw ⊢
    by_cases r0 : ro = 0
    · exfalso
      apply hw
      have hs0 := hst.mpr r0
      unfold wdF
      simp [hs0]
    · have hs0 : ¬ st = 0 := fun z => r0 (hst.mp z)
      have ew : wdF st nc n np (some 0) = 3 := by
        unfold wdF
        simp [hs0]
      have hp : 0 < ro := by omega
      rw [ew]
      simp (maxSteps := 400000) (disch := first | omega | assumption) only [e116_0, e116_1, h18, h1, hp, s117, kv, rv, tv, lnv, lv0, clv, clr_i, clr_r, clr_n, clr_l, true_and, and_true, Option.toList_some, Option.toList_none, List.cons_append, List.nil_append, bI_0, bI_1, bI_or, ↓reduceIte, or_true, true_or, eq_self, irv, i0_add, not_true_eq_false, not_false_eq_true, Bool.false_eq_true, and_false, false_and, or_false, false_or, reduceCtorEq, nev, ngv, nc_or, in64, l64v, ite_not, ite_notP, up2_upr, upr_upr, upr_at, nI_cl, nI_ir, iav, nI_1, nI_mul6, nI_6mul, nI_lt2, nI_eq2, nI_neg, nI_m1, ltv, nI_z, upd_at, upd_off, upr_off, usv, upd_upd]
  · by_cases r0 : ro = 0
    · have hs0 := hst.mpr r0
      have ew : wdF st nc n np (knF x) = 1 := by
        unfold wdF
        have : knF x ≠ some 0 := by
          intro z
          unfold knF at z
          rw [if_neg x1] at z
          split at z
          · cases z
          · split at z
            · cases z
            · split at z <;> cases z
        cases hk : knF x with
        | none => rfl
        | some k =>
          simp only
          rw [if_pos ⟨hs0, fun z => this (by rw [hk, z])⟩]
      have hs1 : ¬ sg = 121 := by
        rcases hsg with rfl | ⟨-, rfl⟩
        · exact x1
        · decide
      rw [ew]
      subst r0
      simp (maxSteps := 400000) (disch := first | omega | assumption) only [e116_0, e116_1, h18, h1, iff_false_intro hs1, nI_0, s117, kv, rv, tv, lnv, lv0, clv, clr_i, clr_r, clr_n, clr_l, true_and, and_true, Option.toList_some, Option.toList_none, List.cons_append, List.nil_append, bI_0, bI_1, bI_or, ↓reduceIte, or_true, true_or, eq_self, irv, i0_add, not_true_eq_false, not_false_eq_true, Bool.false_eq_true, and_false, false_and, or_false, false_or, reduceCtorEq, nev, ngv, nc_or, in64, l64v, ite_not, ite_notP, up2_upr, upr_upr, upr_at, nI_cl, nI_ir, iav, nI_1, nI_mul6, nI_6mul, nI_lt2, nI_eq2, nI_neg, nI_m1, ltv, nI_z, upd_at, upd_off, upr_off, usv, upd_upd]
    · have hs0 : ¬ st = 0 := fun z => r0 (hst.mp z)
      have hs1 : ¬ sg = 121 := by
        rcases hsg with rfl | ⟨-, rfl⟩
        · exact x1
        · decide
      by_cases x2 : x = 99
      · subst x2
        obtain rfl : sg = 99 := hsg.resolve_right (fun z => nofig _ (Or.inr (Or.inl rfl)) z.1)
        have ek : knF 99 = some 1 := rfl
        rw [ek] at hw ⊢
        have h4c : nc = 4 := by
          apply Classical.byContradiction
          intro z
          apply hw
          unfold wdF
          have : nc < 4 := by omega
          simp [hs0, this]
        subst h4c
        have ew : wdF st 4 n np (some 1) = 3 := by unfold wdF; simp [hs0]
        rw [ew]
        simp (maxSteps := 400000) (disch := first | omega | assumption) only [e116_0, e116_1, e120, h18, h1, h3, q4, r0, s117, kv, rv, tv, lnv, lv0, clv, clr_i, clr_r, clr_n, clr_l, true_and, and_true, Option.toList_some, Option.toList_none, List.cons_append, List.nil_append, bI_0, bI_1, bI_or, ↓reduceIte, or_true, true_or, eq_self, irv, i0_add, not_true_eq_false, not_false_eq_true, Bool.false_eq_true, and_false, false_and, or_false, false_or, reduceCtorEq, nev, ngv, nc_or, in64, l64v, ite_not, ite_notP, up2_upr, upr_upr, upr_at, nI_cl, nI_ir, iav, nI_1, nI_mul6, nI_6mul, nI_lt2, nI_eq2, nI_neg, nI_m1, ltv, nI_z, upd_at, upd_off, upr_off, usv, upd_upd]
      · by_cases x3 : x = 100
        · subst x3
          obtain rfl : sg = 100 := hsg.resolve_right (fun z => nofig _ (Or.inr (Or.inr (Or.inl rfl))) z.1)
          have ek : knF 100 = some 2 := rfl
          rw [ek] at hw ⊢
          have h4c : n = 6 := by
            apply Classical.byContradiction
            intro z
            apply hw
            unfold wdF
            have : n < 6 := by omega
            simp [hs0, this]
          subst h4c
          have ew : wdF st nc 6 np (some 2) = 3 := by unfold wdF; simp [hs0]
          rw [ew]
          simp (maxSteps := 400000) (disch := first | omega | assumption) only [e116_0, e116_1, e121, h18, h1, h4, q7, q8, r0, s117, kv, rv, tv, lnv, lv0, clv, clr_i, clr_r, clr_n, clr_l, true_and, and_true, Option.toList_some, Option.toList_none, List.cons_append, List.nil_append, bI_0, bI_1, bI_or, ↓reduceIte, or_true, true_or, eq_self, irv, i0_add, not_true_eq_false, not_false_eq_true, Bool.false_eq_true, and_false, false_and, or_false, false_or, reduceCtorEq, nev, ngv, nc_or, in64, l64v, ite_not, ite_notP, up2_upr, upr_upr, upr_at, nI_cl, nI_ir, iav, nI_1, nI_mul6, nI_6mul, nI_lt2, nI_eq2, nI_neg, nI_m1, ltv, nI_z, upd_at, upd_off, upr_off, usv, upd_upd]
        · by_cases x4 : x = 112
          · subst x4
            obtain rfl : sg = 112 := hsg.resolve_right (fun z => nofig _ (Or.inr (Or.inr (Or.inr rfl))) z.1)
            have ek : knF 112 = some 3 := rfl
            rw [ek] at hw ⊢
            have h4c : np = 6 := by
              apply Classical.byContradiction
              intro z
              apply hw
              unfold wdF
              have : np < 6 := by omega
              simp [hs0, this]
            subst h4c
            have ew : wdF st nc n 6 (some 3) = 3 := by unfold wdF; simp [hs0]
            rw [ew]
            simp (maxSteps := 400000) (disch := first | omega | assumption) only [e116_0, e116_1, e122, h18, h1, h5, q10, q11, q12, r0, s117, kv, rv, tv, lnv, lv0, clv, clr_i, clr_r, clr_n, clr_l, true_and, and_true, Option.toList_some, Option.toList_none, List.cons_append, List.nil_append, bI_0, bI_1, bI_or, ↓reduceIte, or_true, true_or, eq_self, irv, i0_add, not_true_eq_false, not_false_eq_true, Bool.false_eq_true, and_false, false_and, or_false, false_or, reduceCtorEq, nev, ngv, nc_or, in64, l64v, ite_not, ite_notP, up2_upr, upr_upr, upr_at, nI_cl, nI_ir, iav, nI_1, nI_mul6, nI_6mul, nI_lt2, nI_eq2, nI_neg, nI_m1, ltv, nI_z, upd_at, upd_off, upr_off, usv, upd_upd]
          · have ek : knF x = none := by unfold knF; rw [if_neg x1, if_neg x2, if_neg x3, if_neg x4]
            rw [ek]
            have hs2 : ¬ sg = 99 ∧ ¬ sg = 100 ∧ ¬ sg = 112 := by
              rcases hsg with rfl | ⟨-, rfl⟩
              · exact ⟨x2, x3, x4⟩
              · decide
            have ew : wdF st nc n np none = 1 := rfl
            rw [ew]
            simp (maxSteps := 400000) (disch := first | omega | assumption) only [e116_0, e116_1, h18, h1, iff_false_intro hs1, iff_false_intro hs2.1, iff_false_intro hs2.2.1, iff_false_intro hs2.2.2, r0, s117, kv, rv, tv, lnv, lv0, clv, clr_i, clr_r, clr_n, clr_l, true_and, and_true, Option.toList_some, Option.toList_none, List.cons_append, List.nil_append, bI_0, bI_1, bI_or, ↓reduceIte, or_true, true_or, eq_self, irv, i0_add, not_true_eq_false, not_false_eq_true, Bool.false_eq_true, and_false, false_and, or_false, false_or, reduceCtorEq, nev, ngv, nc_or, in64, l64v, ite_not, ite_notP, up2_upr, upr_upr, upr_at, nI_cl, nI_ir, iav, nI_1, nI_mul6, nI_6mul, nI_lt2, nI_eq2, nI_neg, nI_m1, ltv, nI_z, upd_at, upd_off, upr_off, usv, upd_upd]
