/-! part 23: owes, seed, tear, write, judge -/
theorem bI_T [Decidable True] : bI True = 1 := by unfold bI; exact if_pos trivial
theorem bI_F [Decidable False] : bI False = 0 := by unfold bI; exact if_neg (fun h => h)
theorem b64 (x : Int32) : x.toInt64.toInt32 = x := by simp
theorem lt15 : ((15 : Int32) < 15 ↔ False) ∧ ((6 : Int32) < 6 ↔ False) := ⟨⟨fun h => absurd h (by decide), False.elim⟩, ⟨fun h => absurd h (by decide), False.elim⟩⟩
theorem s79 (d n : Nat) (x y : Int32) (M : Mem) (Q : Option Value → Mem → Prop) (hn : n ≤ 6) (h4 : M 15 13 = nI n) : Wp (d + 1) 79 0 [.ref 0, .int x, .int y] [] M Q ↔ Q (some (.int (bI (rg x 0 (n - 1) ∧ rg y 0 (n - 1) ∧ ¬ x = y)))) M := by
  by_cases hx : rg x 0 (n - 1)
  · by_cases hy : rg y 0 (n - 1)
    · by_cases hxy : x = y
      · simp (maxSteps := 400000) (disch := first | omega | assumption) only [e79, bI_T, bI_F, s77 _ n _ M _ hn h4, iff_true_intro hx, iff_true_intro hy, iff_true_intro hxy, kv, rv, tv, lnv, lv0, clv, clr_i, clr_r, clr_n, clr_l, true_and, and_true, Option.toList_some, Option.toList_none, List.cons_append, List.nil_append, bI_0, bI_1, bI_or, ↓reduceIte, or_true, true_or, eq_self, irv, i0_add, not_true_eq_false, not_false_eq_true, Bool.false_eq_true, and_false, false_and, or_false, false_or, reduceCtorEq, nev, ngv, nc_or, in64, l64v, ite_not, ite_notP, up2_upr, upr_upr, upr_at, nI_cl, nI_ir, iav, nI_1, nI_mul6, nI_6mul, nI_lt2, nI_eq2, nI_neg, nI_m1, ltv, nI_z, upd_at, upd_off, upr_off, usv, upd_upd]
      · simp (maxSteps := 400000) (disch := first | omega | assumption) only [e79, bI_T, bI_F, s77 _ n _ M _ hn h4, iff_true_intro hx, iff_true_intro hy, iff_false_intro hxy, kv, rv, tv, lnv, lv0, clv, clr_i, clr_r, clr_n, clr_l, true_and, and_true, Option.toList_some, Option.toList_none, List.cons_append, List.nil_append, bI_0, bI_1, bI_or, ↓reduceIte, or_true, true_or, eq_self, irv, i0_add, not_true_eq_false, not_false_eq_true, Bool.false_eq_true, and_false, false_and, or_false, false_or, reduceCtorEq, nev, ngv, nc_or, in64, l64v, ite_not, ite_notP, up2_upr, upr_upr, upr_at, nI_cl, nI_ir, iav, nI_1, nI_mul6, nI_6mul, nI_lt2, nI_eq2, nI_neg, nI_m1, ltv, nI_z, upd_at, upd_off, upr_off, usv, upd_upd]
    · simp (maxSteps := 400000) (disch := first | omega | assumption) only [e79, bI_T, bI_F, s77 _ n _ M _ hn h4, iff_true_intro hx, iff_false_intro hy, kv, rv, tv, lnv, lv0, clv, clr_i, clr_r, clr_n, clr_l, true_and, and_true, Option.toList_some, Option.toList_none, List.cons_append, List.nil_append, bI_0, bI_1, bI_or, ↓reduceIte, or_true, true_or, eq_self, irv, i0_add, not_true_eq_false, not_false_eq_true, Bool.false_eq_true, and_false, false_and, or_false, false_or, reduceCtorEq, nev, ngv, nc_or, in64, l64v, ite_not, ite_notP, up2_upr, upr_upr, upr_at, nI_cl, nI_ir, iav, nI_1, nI_mul6, nI_6mul, nI_lt2, nI_eq2, nI_neg, nI_m1, ltv, nI_z, upd_at, upd_off, upr_off, usv, upd_upd]
  · simp (maxSteps := 400000) (disch := first | omega | assumption) only [e79, bI_T, bI_F, s77 _ n _ M _ hn h4, iff_false_intro hx, kv, rv, tv, lnv, lv0, clv, clr_i, clr_r, clr_n, clr_l, true_and, and_true, Option.toList_some, Option.toList_none, List.cons_append, List.nil_append, bI_0, bI_1, bI_or, ↓reduceIte, or_true, true_or, eq_self, irv, i0_add, not_true_eq_false, not_false_eq_true, Bool.false_eq_true, and_false, false_and, or_false, false_or, reduceCtorEq, nev, ngv, nc_or, in64, l64v, ite_not, ite_notP, up2_upr, upr_upr, upr_at, nI_cl, nI_ir, iav, nI_1, nI_mul6, nI_6mul, nI_lt2, nI_eq2, nI_neg, nI_m1, ltv, nI_z, upd_at, upd_off, upr_off, usv, upd_upd]
theorem rg_two {x y : Int32} {n : Nat} (hn : n ≤ 6) (h : rg x 0 (n - 1) ∧ rg y 0 (n - 1) ∧ ¬ x = y) : ∃ i j, i < n ∧ j < n ∧ i ≠ j ∧ x = nI i ∧ y = nI j := by
  obtain ⟨hx, hy, hxy⟩ := h
  obtain ⟨i, hi, rfl⟩ := rg_k (by omega) hx
  obtain ⟨j, hj, rfl⟩ := rg_k (by omega) hy
  exact ⟨i, j, hi, hj, fun z => hxy (by rw [z]), rfl, rfl⟩
theorem pair_owes (d : Nat) (x y : Int32) (M : Mem) (hI : Inv M) : PairOK (d + 5) 78 144 [.ref 0, .int x, .int y] [.ref 40, .int x, .int y] M := by
  intro K hK
  obtain ⟨n, nc, np, B, hY, hL, -⟩ := id hI
  obtain ⟨⟨g1, g2, g3, g4⟩, ⟨h13, h4⟩, -⟩ := hY
  obtain ⟨l1, l2, l3, -⟩ := hL
  by_cases h : rg x 0 (n - 1) ∧ rg y 0 (n - 1) ∧ ¬ x = y
  · obtain ⟨i, j, hi, hj, hij, rfl, rfl⟩ := rg_two g1 h
    have hi6 : i < 6 := by omega
    have hj6 : j < 6 := by omega
    have e3 := l3 j hj6 i hi6
    have ei : nI (12 + 6 * j) + nI i = nI (12 + 6 * j + i) := nI_add _ _
    simp (maxSteps := 400000) (disch := first | omega | assumption) only [e78, e144, bI_T, bI_F, s79 _ n _ _ M _ g1 h13, s141 _ n _ M _ g1 h4, iff_true_intro h, iff_true_intro h.1, iff_true_intro h.2.1, iff_false_intro h.2.2, s12 _ i j M _ hi6 hj6, s134, ei, e3, kv, rv, tv, lnv, lv0, clv, clr_i, clr_r, clr_n, clr_l, true_and, and_true, Option.toList_some, Option.toList_none, List.cons_append, List.nil_append, bI_0, bI_1, bI_or, ↓reduceIte, or_true, true_or, eq_self, irv, i0_add, not_true_eq_false, not_false_eq_true, Bool.false_eq_true, and_false, false_and, or_false, false_or, reduceCtorEq, nev, ngv, nc_or, in64, l64v, ite_not, ite_notP, up2_upr, upr_upr, upr_at, nI_cl, nI_ir, iav, nI_1, nI_mul6, nI_6mul, nI_lt2, nI_eq2, nI_neg, nI_m1, ltv, nI_z, upd_at, upd_off, upr_off, usv, upd_upd]
    exact hK _ _ hI
  · by_cases hx : rg x 0 (n - 1)
    · by_cases hy : rg y 0 (n - 1)
      · by_cases hxy : x = y
        · simp (maxSteps := 400000) (disch := first | omega | assumption) only [e78, e144, bI_T, bI_F, s79 _ n _ _ M _ g1 h13, s141 _ n _ M _ g1 h4, iff_false_intro h, iff_true_intro hx, iff_true_intro hy, iff_true_intro hxy, kv, rv, tv, lnv, lv0, clv, clr_i, clr_r, clr_n, clr_l, true_and, and_true, Option.toList_some, Option.toList_none, List.cons_append, List.nil_append, bI_0, bI_1, bI_or, ↓reduceIte, or_true, true_or, eq_self, irv, i0_add, not_true_eq_false, not_false_eq_true, Bool.false_eq_true, and_false, false_and, or_false, false_or, reduceCtorEq, nev, ngv, nc_or, in64, l64v, ite_not, ite_notP, up2_upr, upr_upr, upr_at, nI_cl, nI_ir, iav, nI_1, nI_mul6, nI_6mul, nI_lt2, nI_eq2, nI_neg, nI_m1, ltv, nI_z, upd_at, upd_off, upr_off, usv, upd_upd]
          exact hK _ _ hI
        · exact absurd ⟨hx, hy, hxy⟩ h
      · simp (maxSteps := 400000) (disch := first | omega | assumption) only [e78, e144, bI_T, bI_F, s79 _ n _ _ M _ g1 h13, s141 _ n _ M _ g1 h4, iff_false_intro h, iff_true_intro hx, iff_false_intro hy, kv, rv, tv, lnv, lv0, clv, clr_i, clr_r, clr_n, clr_l, true_and, and_true, Option.toList_some, Option.toList_none, List.cons_append, List.nil_append, bI_0, bI_1, bI_or, ↓reduceIte, or_true, true_or, eq_self, irv, i0_add, not_true_eq_false, not_false_eq_true, Bool.false_eq_true, and_false, false_and, or_false, false_or, reduceCtorEq, nev, ngv, nc_or, in64, l64v, ite_not, ite_notP, up2_upr, upr_upr, upr_at, nI_cl, nI_ir, iav, nI_1, nI_mul6, nI_6mul, nI_lt2, nI_eq2, nI_neg, nI_m1, ltv, nI_z, upd_at, upd_off, upr_off, usv, upd_upd]
        exact hK _ _ hI
    · simp (maxSteps := 400000) (disch := first | omega | assumption) only [e78, e144, bI_T, bI_F, s79 _ n _ _ M _ g1 h13, s141 _ n _ M _ g1 h4, iff_false_intro h, iff_false_intro hx, kv, rv, tv, lnv, lv0, clv, clr_i, clr_r, clr_n, clr_l, true_and, and_true, Option.toList_some, Option.toList_none, List.cons_append, List.nil_append, bI_0, bI_1, bI_or, ↓reduceIte, or_true, true_or, eq_self, irv, i0_add, not_true_eq_false, not_false_eq_true, Bool.false_eq_true, and_false, false_and, or_false, false_or, reduceCtorEq, nev, ngv, nc_or, in64, l64v, ite_not, ite_notP, up2_upr, upr_upr, upr_at, nI_cl, nI_ir, iav, nI_1, nI_mul6, nI_6mul, nI_lt2, nI_eq2, nI_neg, nI_m1, ltv, nI_z, upd_at, upd_off, upr_off, usv, upd_upd]
      exact hK _ _ hI
theorem pair_seed (d : Nat) (x : Int32) (M : Mem) (hI : Inv M) : PairOK d 107 192 [.ref 0, .int x, .null] [.ref 40, .int x, .null] M := by
  intro K hK
  obtain ⟨n, nc, np, B, hY, hL, hP, h0, h1, hT, hH, hB, ⟨⟨a, ha, e1, e2⟩, e3⟩, hSt⟩ := id hI
  by_cases hx : x < 0
  · simp (maxSteps := 400000) (disch := first | omega | assumption) only [e107, e192, iff_true_intro hx, kv, rv, tv, lnv, lv0, clv, clr_i, clr_r, clr_n, clr_l, true_and, and_true, Option.toList_some, Option.toList_none, List.cons_append, List.nil_append, bI_0, bI_1, bI_or, ↓reduceIte, or_true, true_or, eq_self, irv, i0_add, not_true_eq_false, not_false_eq_true, Bool.false_eq_true, and_false, false_and, or_false, false_or, reduceCtorEq, nev, ngv, nc_or, in64, l64v, ite_not, ite_notP, up2_upr, upr_upr, upr_at, nI_cl, nI_ir, iav, nI_1, nI_mul6, nI_6mul, nI_lt2, nI_eq2, nI_neg, nI_m1, ltv, nI_z, upd_at, upd_off, upr_off, usv, upd_upd]
    exact hK _ _ hI
  · obtain ⟨b, hb, rfl⟩ := nI_of hx
    simp (maxSteps := 400000) (disch := first | omega | assumption) only [e107, e192, iff_false_intro hx, e1, e2, b64, kv, rv, tv, lnv, lv0, clv, clr_i, clr_r, clr_n, clr_l, true_and, and_true, Option.toList_some, Option.toList_none, List.cons_append, List.nil_append, bI_0, bI_1, bI_or, ↓reduceIte, or_true, true_or, eq_self, irv, i0_add, not_true_eq_false, not_false_eq_true, Bool.false_eq_true, and_false, false_and, or_false, false_or, reduceCtorEq, nev, ngv, nc_or, in64, l64v, ite_not, ite_notP, up2_upr, upr_upr, upr_at, nI_cl, nI_ir, iav, nI_1, nI_mul6, nI_6mul, nI_lt2, nI_eq2, nI_neg, nI_m1, ltv, nI_z, upd_at, upd_off, upr_off, usv, upd_upd]
    refine hK _ _ ⟨n, nc, np, B, ?_⟩
    simp (maxSteps := 400000) (disch := first | omega | assumption) only [YR_upr, LM_upr, ST_upr, kv, rv, tv, lnv, lv0, clv, clr_i, clr_r, clr_n, clr_l, true_and, and_true, Option.toList_some, Option.toList_none, List.cons_append, List.nil_append, bI_0, bI_1, bI_or, ↓reduceIte, or_true, true_or, eq_self, irv, i0_add, not_true_eq_false, not_false_eq_true, Bool.false_eq_true, and_false, false_and, or_false, false_or, reduceCtorEq, nev, ngv, nc_or, in64, l64v, ite_not, ite_notP, up2_upr, upr_upr, upr_at, nI_cl, nI_ir, iav, nI_1, nI_mul6, nI_6mul, nI_lt2, nI_eq2, nI_neg, nI_m1, ltv, nI_z, upd_at, upd_off, upr_off, usv, upd_upd]
    exact ⟨hY, hL, hP, h0, h1, hT, hH, hB, ⟨⟨b, hb, rfl, rfl⟩, e3⟩, hSt⟩
theorem pair_tear (d : Nat) (M : Mem) (hI : Inv M) : PairOK (d + 1) 105 190 [.ref 0, .null] [.ref 40, .null] M := by
  intro K hK
  obtain ⟨n, nc, np, B, hY, hL, hP, h0, h1, hT, ⟨c, lo, hi, -, -, -, k1, k2, -⟩, ⟨bc, -, b1, b2, -⟩, hS, hSt⟩ := id hI
  simp (maxSteps := 400000) (disch := first | omega | assumption) only [e105, e190, k1, k2, b1, b2, s17, kv, rv, tv, lnv, lv0, clv, clr_i, clr_r, clr_n, clr_l, true_and, and_true, Option.toList_some, Option.toList_none, List.cons_append, List.nil_append, bI_0, bI_1, bI_or, ↓reduceIte, or_true, true_or, eq_self, irv, i0_add, not_true_eq_false, not_false_eq_true, Bool.false_eq_true, and_false, false_and, or_false, false_or, reduceCtorEq, nev, ngv, nc_or, in64, l64v, ite_not, ite_notP, up2_upr, upr_upr, upr_at, nI_cl, nI_ir, iav, nI_1, nI_mul6, nI_6mul, nI_lt2, nI_eq2, nI_neg, nI_m1, ltv, nI_z, upd_at, upd_off, upr_off, usv, upd_upd]
  refine hK _ _ ⟨n, nc, np, B, ?_⟩
  simp (maxSteps := 400000) (disch := first | omega | assumption) only [YR_upr, LM_upr, ST_upr, kv, rv, tv, lnv, lv0, clv, clr_i, clr_r, clr_n, clr_l, true_and, and_true, Option.toList_some, Option.toList_none, List.cons_append, List.nil_append, bI_0, bI_1, bI_or, ↓reduceIte, or_true, true_or, eq_self, irv, i0_add, not_true_eq_false, not_false_eq_true, Bool.false_eq_true, and_false, false_and, or_false, false_or, reduceCtorEq, nev, ngv, nc_or, in64, l64v, ite_not, ite_notP, up2_upr, upr_upr, upr_at, nI_cl, nI_ir, iav, nI_1, nI_mul6, nI_6mul, nI_lt2, nI_eq2, nI_neg, nI_m1, ltv, nI_z, upd_at, upd_off, upr_off, usv, upd_upd]
  refine ⟨hY, hL, hP, h0, h1, hT, ⟨0, 0, 60, by omega, by omega, by omega, rfl, rfl, rfl, rfl, fun k hk => absurd hk (by omega), fun x hx => ⟨fun _ => ⟨by omega, hx⟩, fun _ k hk => absurd hk (by omega)⟩⟩, ⟨0, by omega, rfl, rfl, fun k hk => absurd hk (by omega)⟩, hS, hSt⟩
theorem pair_write (d : Nat) (x y : Int32) (M : Mem) (hI : Inv M) : PairOK (d + 2) 104 189 [.ref 0, .int x, .int y] [.ref 40, .int x, .int y] M := by
  intro K hK
  obtain ⟨n, nc, np, B, hY, hL, hP, h0, h1, hT, hH, ⟨c, hc, b1, b2, hb⟩, hS, hSt⟩ := id hI
  obtain ⟨⟨g1, g2, g3, g4⟩, ⟨h13, h4⟩, -⟩ := id hY
  by_cases hx : rg x 0 (n - 1)
  · by_cases hy : rg y 0 4
    · by_cases hc15 : c = 15
      · subst hc15
        simp (maxSteps := 400000) (disch := first | omega | assumption) only [e104, e189, bI_T, bI_F, s77 _ n _ M _ g1 h13, s141 _ n _ M _ g1 h4, s112i, rg_cls, rg_ite, i32v, lt15, iff_true_intro hx, iff_true_intro hy, b1, b2, kv, rv, tv, lnv, lv0, clv, clr_i, clr_r, clr_n, clr_l, true_and, and_true, Option.toList_some, Option.toList_none, List.cons_append, List.nil_append, bI_0, bI_1, bI_or, ↓reduceIte, or_true, true_or, eq_self, irv, i0_add, not_true_eq_false, not_false_eq_true, Bool.false_eq_true, and_false, false_and, or_false, false_or, reduceCtorEq, nev, ngv, nc_or, in64, l64v, ite_not, ite_notP, up2_upr, upr_upr, upr_at, nI_cl, nI_ir, iav, nI_1, nI_mul6, nI_6mul, nI_lt2, nI_eq2, nI_neg, nI_m1, ltv, nI_z, upd_at, upd_off, upr_off, usv, upd_upd]
        exact hK _ _ hI
      · have hc' : c < 15 := by omega
        have hne : ¬ nI c = 15 := fun z => hc15 ((nI_eq2 (by omega) (by omega : 15 < 2147483648)).mp z)
        have e2 : 2 * nI c = nI (2 * c) := pk_mul 2 c
        obtain ⟨k, hk, rfl⟩ := rg_k (by omega) hx
        have e141 := fun (N : Mem) (h : N 41 = M 41) d Q x => s141 d n x N Q g1 (by rw [h]; exact h4)
        simp (maxSteps := 400000) (disch := first | omega | assumption | rfl) only [e104, e189, bI_T, bI_F, s77 _ n _ M _ g1 h13, e141, s112i, rg_cls, rg_ite, i32v, lt15, iff_true_intro hx, iff_true_intro hy, b1, b2, s0 _ c _ _ M _ hc' b1, e2, iff_false_intro hne, hc', hc15, kv, rv, tv, lnv, lv0, clv, clr_i, clr_r, clr_n, clr_l, true_and, and_true, Option.toList_some, Option.toList_none, List.cons_append, List.nil_append, bI_0, bI_1, bI_or, ↓reduceIte, or_true, true_or, eq_self, irv, i0_add, not_true_eq_false, not_false_eq_true, Bool.false_eq_true, and_false, false_and, or_false, false_or, reduceCtorEq, nev, ngv, nc_or, in64, l64v, ite_not, ite_notP, up2_upr, upr_upr, upr_at, nI_cl, nI_ir, iav, nI_1, nI_mul6, nI_6mul, nI_lt2, nI_eq2, nI_neg, nI_m1, ltv, nI_z, upd_at, upd_off, upr_off, usv, upd_upd]
        refine (s141 d n (nI k) _ _ g1 (by exact h4)).mpr ?_
        simp (maxSteps := 400000) (disch := first | omega | assumption) only [e189, bI_T, bI_F, s112i, i32v, iff_true_intro hx, iff_true_intro hy, b1, b2, e2, iff_false_intro hne, hc', hc15, kv, rv, tv, lnv, lv0, clv, clr_i, clr_r, clr_n, clr_l, true_and, and_true, Option.toList_some, Option.toList_none, List.cons_append, List.nil_append, bI_0, bI_1, bI_or, ↓reduceIte, or_true, true_or, eq_self, irv, i0_add, not_true_eq_false, not_false_eq_true, Bool.false_eq_true, and_false, false_and, or_false, false_or, reduceCtorEq, nev, ngv, nc_or, in64, l64v, ite_not, ite_notP, up2_upr, upr_upr, upr_at, nI_cl, nI_ir, iav, nI_1, nI_mul6, nI_6mul, nI_lt2, nI_eq2, nI_neg, nI_m1, ltv, nI_z, upd_at, upd_off, upr_off, usv, upd_upd]
        refine hK _ _ ⟨n, nc, np, B, ?_⟩
        simp (maxSteps := 400000) (disch := first | omega | assumption) only [YR_upr, LM_upr, ST_upr, kv, rv, tv, lnv, lv0, clv, clr_i, clr_r, clr_n, clr_l, true_and, and_true, Option.toList_some, Option.toList_none, List.cons_append, List.nil_append, bI_0, bI_1, bI_or, ↓reduceIte, or_true, true_or, eq_self, irv, i0_add, not_true_eq_false, not_false_eq_true, Bool.false_eq_true, and_false, false_and, or_false, false_or, reduceCtorEq, nev, ngv, nc_or, in64, l64v, ite_not, ite_notP, up2_upr, upr_upr, upr_at, nI_cl, nI_ir, iav, nI_1, nI_mul6, nI_6mul, nI_lt2, nI_eq2, nI_neg, nI_m1, ltv, nI_z, upd_at, upd_off, upr_off, usv, upd_upd]
        refine ⟨hY, hL, hP, h0, h1, hT, hH, ⟨c + 1, by omega, rfl, rfl, fun i hi => ?_⟩, hS, hSt⟩
        by_cases hic : i = c
        · subst hic
          simp (maxSteps := 400000) (disch := first | omega | assumption) only [kv, rv, tv, lnv, lv0, clv, clr_i, clr_r, clr_n, clr_l, true_and, and_true, Option.toList_some, Option.toList_none, List.cons_append, List.nil_append, bI_0, bI_1, bI_or, ↓reduceIte, or_true, true_or, eq_self, irv, i0_add, not_true_eq_false, not_false_eq_true, Bool.false_eq_true, and_false, false_and, or_false, false_or, reduceCtorEq, nev, ngv, nc_or, in64, l64v, ite_not, ite_notP, up2_upr, upr_upr, upr_at, nI_cl, nI_ir, iav, nI_1, nI_mul6, nI_6mul, nI_lt2, nI_eq2, nI_neg, nI_m1, ltv, nI_z, upd_at, upd_off, upr_off, usv, upd_upd]
          exact ⟨k, hk, rfl⟩
        · simp (maxSteps := 400000) (disch := first | omega | assumption) only [kv, rv, tv, lnv, lv0, clv, clr_i, clr_r, clr_n, clr_l, true_and, and_true, Option.toList_some, Option.toList_none, List.cons_append, List.nil_append, bI_0, bI_1, bI_or, ↓reduceIte, or_true, true_or, eq_self, irv, i0_add, not_true_eq_false, not_false_eq_true, Bool.false_eq_true, and_false, false_and, or_false, false_or, reduceCtorEq, nev, ngv, nc_or, in64, l64v, ite_not, ite_notP, up2_upr, upr_upr, upr_at, nI_cl, nI_ir, iav, nI_1, nI_mul6, nI_6mul, nI_lt2, nI_eq2, nI_neg, nI_m1, ltv, nI_z, upd_at, upd_off, upr_off, usv, upd_upd]
          exact hb i (by omega)
    · simp (maxSteps := 400000) (disch := first | omega | assumption) only [e104, e189, bI_T, bI_F, s77 _ n _ M _ g1 h13, s141 _ n _ M _ g1 h4, s112i, rg_cls, rg_ite, i32v, lt15, iff_true_intro hx, iff_false_intro hy, kv, rv, tv, lnv, lv0, clv, clr_i, clr_r, clr_n, clr_l, true_and, and_true, Option.toList_some, Option.toList_none, List.cons_append, List.nil_append, bI_0, bI_1, bI_or, ↓reduceIte, or_true, true_or, eq_self, irv, i0_add, not_true_eq_false, not_false_eq_true, Bool.false_eq_true, and_false, false_and, or_false, false_or, reduceCtorEq, nev, ngv, nc_or, in64, l64v, ite_not, ite_notP, up2_upr, upr_upr, upr_at, nI_cl, nI_ir, iav, nI_1, nI_mul6, nI_6mul, nI_lt2, nI_eq2, nI_neg, nI_m1, ltv, nI_z, upd_at, upd_off, upr_off, usv, upd_upd]
      exact hK _ _ hI
  · simp (maxSteps := 400000) (disch := first | omega | assumption) only [e104, e189, bI_T, bI_F, s77 _ n _ M _ g1 h13, s141 _ n _ M _ g1 h4, iff_false_intro hx, kv, rv, tv, lnv, lv0, clv, clr_i, clr_r, clr_n, clr_l, true_and, and_true, Option.toList_some, Option.toList_none, List.cons_append, List.nil_append, bI_0, bI_1, bI_or, ↓reduceIte, or_true, true_or, eq_self, irv, i0_add, not_true_eq_false, not_false_eq_true, Bool.false_eq_true, and_false, false_and, or_false, false_or, reduceCtorEq, nev, ngv, nc_or, in64, l64v, ite_not, ite_notP, up2_upr, upr_upr, upr_at, nI_cl, nI_ir, iav, nI_1, nI_mul6, nI_6mul, nI_lt2, nI_eq2, nI_neg, nI_m1, ltv, nI_z, upd_at, upd_off, upr_off, usv, upd_upd]
    exact hK _ _ hI
/-- the first entry that is wrong -/
def fwN (a w s : Nat → Int32) : Nat → Nat → Option Nat
  | 0, _ => none
  | j + 1, i => if a (w i).toNatClampNeg = s i then fwN a w s j (i + 1) else some i
theorem fwN_c {a b w v s t : Nat → Int32} {c : Nat} (h : ∀ i, i < c → a (w i).toNatClampNeg = b (v i).toNatClampNeg ∧ s i = t i) : ∀ j i, i + j = c → fwN a w s j i = fwN b v t j i
  | 0, _, _ => rfl
  | j + 1, i, hi => by rw [fwN, fwN, (h i (by omega)).1, (h i (by omega)).2, fwN_c h j (i + 1) (by omega)]
theorem l1 (d c : Nat) (M : Mem) (Q : Option Value → Mem → Prop) (hc : c ≤ 15) (h2 : M 37 2 = nI c) (hb : ∀ i, i < c → ∃ k, k < 6 ∧ M 38 i = nI k) : ∀ j i x, i + j = c → (Wp d 1 2 [.ref 37, .ref 24, .int (nI i), x] [] M Q ↔ Q (some (.int (oI (fwN (M 25) (M 38) (M 39) j i)))) M)
  | 0, i, x, hi => by
    obtain rfl : i = c := hi
    rw [h1_2, fwN]
    simp (maxSteps := 400000) (disch := first | omega | assumption) only [e1, h2, Nat.lt_irrefl, oI, kv, rv, tv, lnv, lv0, clv, clr_i, clr_r, clr_n, clr_l, true_and, and_true, Option.toList_some, Option.toList_none, List.cons_append, List.nil_append, bI_0, bI_1, bI_or, ↓reduceIte, or_true, true_or, eq_self, irv, i0_add, not_true_eq_false, not_false_eq_true, Bool.false_eq_true, and_false, false_and, or_false, false_or, reduceCtorEq, nev, ngv, nc_or, in64, l64v, ite_not, ite_notP, up2_upr, upr_upr, upr_at, nI_cl, nI_ir, iav, nI_1, nI_mul6, nI_6mul, nI_lt2, nI_eq2, nI_neg, nI_m1, ltv, nI_z, upd_at, upd_off, upr_off, usv, upd_upd]
  | j + 1, i, x, hi => by
    have hlt : i < c := by omega
    have hlt2 : i < 15 := by omega
    obtain ⟨k, hk, e⟩ := hb i hlt
    have e15 : nI i < 15 ↔ True := iff_true_intro ((nI_lt2 (by omega) (by omega : 15 < 2147483648)).mpr hlt2)
    rw [h1_2, fwN, e, nI_cl (by omega)]
    by_cases hw : M 25 k = M 39 i
    · rw [if_pos hw]
      refine Iff.trans ?_ (l1 d c M Q hc h2 hb j (i + 1) (.int (nI k)) (by omega))
      simp (maxSteps := 400000) (disch := first | omega | assumption) only [e1, h2, hlt, e, e15, hw, hk, kv, rv, tv, lnv, lv0, clv, clr_i, clr_r, clr_n, clr_l, true_and, and_true, Option.toList_some, Option.toList_none, List.cons_append, List.nil_append, bI_0, bI_1, bI_or, ↓reduceIte, or_true, true_or, eq_self, irv, i0_add, not_true_eq_false, not_false_eq_true, Bool.false_eq_true, and_false, false_and, or_false, false_or, reduceCtorEq, nev, ngv, nc_or, in64, l64v, ite_not, ite_notP, up2_upr, upr_upr, upr_at, nI_cl, nI_ir, iav, nI_1, nI_mul6, nI_6mul, nI_lt2, nI_eq2, nI_neg, nI_m1, ltv, nI_z, upd_at, upd_off, upr_off, usv, upd_upd]
    · rw [if_neg hw]
      simp (maxSteps := 400000) (disch := first | omega | assumption) only [e1, h2, hlt, e, e15, hw, hk, oI, kv, rv, tv, lnv, lv0, clv, clr_i, clr_r, clr_n, clr_l, true_and, and_true, Option.toList_some, Option.toList_none, List.cons_append, List.nil_append, bI_0, bI_1, bI_or, ↓reduceIte, or_true, true_or, eq_self, irv, i0_add, not_true_eq_false, not_false_eq_true, Bool.false_eq_true, and_false, false_and, or_false, false_or, reduceCtorEq, nev, ngv, nc_or, in64, l64v, ite_not, ite_notP, up2_upr, upr_upr, upr_at, nI_cl, nI_ir, iav, nI_1, nI_mul6, nI_6mul, nI_lt2, nI_eq2, nI_neg, nI_m1, ltv, nI_z, upd_at, upd_off, upr_off, usv, upd_upd]
theorem s1 (d c : Nat) (M : Mem) (Q : Option Value → Mem → Prop) (hc : c ≤ 15) (h2 : M 37 2 = nI c) (hb : ∀ i, i < c → ∃ k, k < 6 ∧ M 38 i = nI k) : Wp d 1 0 [.ref 37, .ref 24, .null, .null] [] M Q ↔ Q (some (.int (oI (fwN (M 25) (M 38) (M 39) c 0)))) M := by
  rw [← l1 d c M Q hc h2 hb c 0 .null (by omega)]
  simp (maxSteps := 400000) only [e1, kv, rv, tv, lnv, lv0, clv, clr_i, clr_r, clr_n, clr_l, true_and, and_true, Option.toList_some, Option.toList_none, List.cons_append, List.nil_append, bI_0, bI_1, bI_or, ↓reduceIte, or_true, true_or, eq_self, irv, i0_add, not_true_eq_false, not_false_eq_true, Bool.false_eq_true, and_false, false_and, or_false, false_or, reduceCtorEq, nev, ngv, nc_or, in64, l64v, ite_not, ite_notP, up2_upr, upr_upr, upr_at]
  rfl
theorem l191 (d c : Nat) (M : Mem) (Q : Option Value → Mem → Prop) (hc : c ≤ 15) (h2 : M 40 15 = nI c) (hb : ∀ i, i < c → ∃ k, k < 6 ∧ M 50 (2 * i) = nI k) : ∀ j i, i + j = c → (Wp d 191 2 [.ref 40, .int (nI i)] [] M Q ↔ Q (some (.int (oI (fwN (M 43) (fun i => M 50 (2 * i)) (fun i => M 50 (2 * i + 1)) j i)))) M)
  | 0, i, hi => by
    obtain rfl : i = c := hi
    rw [h191_2, fwN]
    simp (maxSteps := 400000) (disch := first | omega | assumption) only [e191, h2, Nat.lt_irrefl, oI, kv, rv, tv, lnv, lv0, clv, clr_i, clr_r, clr_n, clr_l, true_and, and_true, Option.toList_some, Option.toList_none, List.cons_append, List.nil_append, bI_0, bI_1, bI_or, ↓reduceIte, or_true, true_or, eq_self, irv, i0_add, not_true_eq_false, not_false_eq_true, Bool.false_eq_true, and_false, false_and, or_false, false_or, reduceCtorEq, nev, ngv, nc_or, in64, l64v, ite_not, ite_notP, up2_upr, upr_upr, upr_at, nI_cl, nI_ir, iav, nI_1, nI_mul6, nI_6mul, nI_lt2, nI_eq2, nI_neg, nI_m1, ltv, nI_z, upd_at, upd_off, upr_off, usv, upd_upd]
  | j + 1, i, hi => by
    have hlt : i < c := by omega
    have hlt2 : i < 15 := by omega
    obtain ⟨k, hk, e⟩ := hb i hlt
    have e2 : 2 * nI i = nI (2 * i) := pk_mul 2 i
    rw [h191_2, fwN, e, nI_cl (by omega)]
    by_cases hw : M 43 k = M 50 (2 * i + 1)
    · rw [if_pos hw]
      refine Iff.trans ?_ (l191 d c M Q hc h2 hb j (i + 1) (by omega))
      simp (maxSteps := 400000) (disch := first | omega | assumption) only [e191, h2, hlt, e, e2, hw, kv, rv, tv, lnv, lv0, clv, clr_i, clr_r, clr_n, clr_l, true_and, and_true, Option.toList_some, Option.toList_none, List.cons_append, List.nil_append, bI_0, bI_1, bI_or, ↓reduceIte, or_true, true_or, eq_self, irv, i0_add, not_true_eq_false, not_false_eq_true, Bool.false_eq_true, and_false, false_and, or_false, false_or, reduceCtorEq, nev, ngv, nc_or, in64, l64v, ite_not, ite_notP, up2_upr, upr_upr, upr_at, nI_cl, nI_ir, iav, nI_1, nI_mul6, nI_6mul, nI_lt2, nI_eq2, nI_neg, nI_m1, ltv, nI_z, upd_at, upd_off, upr_off, usv, upd_upd]
    · rw [if_neg hw]
      simp (maxSteps := 400000) (disch := first | omega | assumption) only [e191, h2, hlt, e, e2, hw, oI, kv, rv, tv, lnv, lv0, clv, clr_i, clr_r, clr_n, clr_l, true_and, and_true, Option.toList_some, Option.toList_none, List.cons_append, List.nil_append, bI_0, bI_1, bI_or, ↓reduceIte, or_true, true_or, eq_self, irv, i0_add, not_true_eq_false, not_false_eq_true, Bool.false_eq_true, and_false, false_and, or_false, false_or, reduceCtorEq, nev, ngv, nc_or, in64, l64v, ite_not, ite_notP, up2_upr, upr_upr, upr_at, nI_cl, nI_ir, iav, nI_1, nI_mul6, nI_6mul, nI_lt2, nI_eq2, nI_neg, nI_m1, ltv, nI_z, upd_at, upd_off, upr_off, usv, upd_upd]
theorem s191 (d c : Nat) (M : Mem) (Q : Option Value → Mem → Prop) (hc : c ≤ 15) (h2 : M 40 15 = nI c) (hb : ∀ i, i < c → ∃ k, k < 6 ∧ M 50 (2 * i) = nI k) : Wp d 191 0 [.ref 40, .null] [] M Q ↔ Q (some (.int (oI (fwN (M 43) (fun i => M 50 (2 * i)) (fun i => M 50 (2 * i + 1)) c 0)))) M := by
  rw [← l191 d c M Q hc h2 hb c 0 (by omega)]
  simp (maxSteps := 400000) only [e191, kv, rv, tv, lnv, lv0, clv, clr_i, clr_r, clr_n, clr_l, true_and, and_true, Option.toList_some, Option.toList_none, List.cons_append, List.nil_append, bI_0, bI_1, bI_or, ↓reduceIte, or_true, true_or, eq_self, irv, i0_add, not_true_eq_false, not_false_eq_true, Bool.false_eq_true, and_false, false_and, or_false, false_or, reduceCtorEq, nev, ngv, nc_or, in64, l64v, ite_not, ite_notP, up2_upr, upr_upr, upr_at]
  rfl
theorem pair_judge (d : Nat) (M : Mem) (hI : Inv M) : PairOK (d + 1) 106 191 [.ref 0] [.ref 40, .null] M := by
  intro K hK
  obtain ⟨n, nc, np, B, ⟨⟨g1, -⟩, -⟩, ⟨l1, -⟩, -, -, -, -, -, ⟨c, hc, b1, b2, hb⟩, -⟩ := id hI
  have e := fun d Q => s191 d c M Q hc b2 (fun i hi => by obtain ⟨e1, -, k, hk, e⟩ := hb i hi; exact ⟨k, by omega, e1.trans e⟩)
  have ef : fwN (M 43) (fun i => M 50 (2 * i)) (fun i => M 50 (2 * i + 1)) c 0 = fwN (M 25) (M 38) (M 39) c 0 := by
    refine fwN_c (c := c) (fun i hi => ?_) c 0 (by omega)
    obtain ⟨e1, e2, k, hk, e⟩ := hb i hi
    refine ⟨?_, e2⟩
    show M 43 (M 50 (2 * i)).toNatClampNeg = _
    rw [e1, e, nI_cl (by omega)]
    exact l1 k (by omega)
  simp only [ef] at e
  simp (maxSteps := 400000) (disch := first | omega | assumption) only [e106, e, s1 _ c M _ hc b1 (fun i hi => by obtain ⟨-, -, k, hk, e⟩ := hb i hi; exact ⟨k, by omega, e⟩), kv, rv, tv, lnv, lv0, clv, clr_i, clr_r, clr_n, clr_l, true_and, and_true, Option.toList_some, Option.toList_none, List.cons_append, List.nil_append, bI_0, bI_1, bI_or, ↓reduceIte, or_true, true_or, eq_self, irv, i0_add, not_true_eq_false, not_false_eq_true, Bool.false_eq_true, and_false, false_and, or_false, false_or, reduceCtorEq, nev, ngv, nc_or, in64, l64v, ite_not, ite_notP, up2_upr, upr_upr, upr_at, nI_cl, nI_ir, iav, nI_1, nI_mul6, nI_6mul, nI_lt2, nI_eq2, nI_neg, nI_m1, ltv, nI_z, upd_at, upd_off, upr_off, usv, upd_upd]
  exact hK _ _ hI
