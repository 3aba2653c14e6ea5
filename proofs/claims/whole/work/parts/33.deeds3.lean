/-! part 33: sue -/
theorem pay_b {o c : Int32} (ho : 0 < o) : payF o c = payC o c ∧ 0 ≤ (payC o c).toInt ∧ (payC o c).toInt ≤ o.toInt ∧ ((payC o c).toInt ≤ c.toInt ∨ (payC o c).toInt = 0) := by
  have z0 : (0 : Int32).toInt = 0 := by decide
  unfold payF payC mx mn
  have ho' := ho
  rw [Int32.lt_iff_toInt_lt, z0] at ho'
  by_cases h1 : c < o
  · rw [if_pos h1]
    rw [Int32.lt_iff_toInt_lt] at h1
    by_cases h2 : 0 < c
    · rw [if_pos h2, if_pos (Int32.lt_iff_toInt_lt.mpr h1)]
      rw [Int32.lt_iff_toInt_lt, z0] at h2
      exact ⟨rfl, by omega, by omega, by omega⟩
    · rw [if_neg h2, if_pos ho]
      exact ⟨rfl, by omega, by omega, by omega⟩
  · rw [if_neg h1, if_pos ho]
    have h1' := h1
    rw [Int32.lt_iff_toInt_lt] at h1'
    have h2 : 0 < c := Int32.lt_iff_toInt_lt.mpr (by omega)
    rw [if_pos h2, if_neg h1]
    exact ⟨rfl, by omega, by omega, by omega⟩
theorem s62q (d i j : Nat) (o p : Int32) (N : Mem) (Q : Option Value → Mem → Prop) (hi : i < 6) (hj : j < 6) (hij : j ≠ i) (ho : mx 0 (N 28 (j * 6 + i)) = o) (hp : payC o (N 26 j) = p) : Wp (d + 3) 62 0 [.ref 14, .int (nI i), .int (nI j), .null, .null] [] N Q ↔ Q (some (.int p)) (if p < o then upr (upr (upr N 25 (upd (N 25) j 4)) 26 (upd (upd (N 26) j (bo (N 26 j + -p))) i (bo (N 26 i + p)))) 28 (upd (upd (N 28) (j * 6 + i) (N 28 (j * 6 + i) + -p)) (i * 6 + j) (N 28 (i * 6 + j) - -p)) else upr (upr N 26 (upd (upd (N 26) j (bo (N 26 j + -p))) i (bo (N 26 i + p)))) 28 (upd (upd (N 28) (j * 6 + i) (N 28 (j * 6 + i) + -p)) (i * 6 + j) (N 28 (i * 6 + j) - -p))) := by
  rw [s62 d i j N Q hi hj hij]
  simp only [ho, hp]
  by_cases h : p < o
  · rw [if_pos h, if_pos h]
    simp (maxSteps := 400000) (disch := first | omega | assumption) only [kv, rv, tv, lnv, lv0, clv, clr_i, clr_r, clr_n, clr_l, true_and, and_true, Option.toList_some, Option.toList_none, List.cons_append, List.nil_append, bI_0, bI_1, bI_or, ↓reduceIte, or_true, true_or, eq_self, irv, i0_add, not_true_eq_false, not_false_eq_true, Bool.false_eq_true, and_false, false_and, or_false, false_or, reduceCtorEq, nev, ngv, nc_or, in64, l64v, ite_not, ite_notP, up2_upr, upr_upr, upr_at, nI_cl, nI_ir, iav, nI_1, nI_mul6, nI_6mul, nI_lt2, nI_eq2, nI_neg, nI_m1, ltv, nI_z, upd_at, upd_off, upr_off, usv, upd_upd]
  · rw [if_neg h, if_neg h]
theorem s164q (d i j : Nat) (o p : Int32) (N : Mem) (Q : Option Value → Mem → Prop) (hi : i < 6) (hj : j < 6) (hij : j ≠ i) (ho : N 43 (12 + 6 * i + j) = o) (hp : payF o (N 43 (6 + j)) = p) : Wp (d + 3) 164 0 [.ref 40, .int (nI i), .int (nI j), .null, .null] [] N Q ↔ Q (some (.int p)) (upr N 43 (upd (mvF (N 43) j i p) j (if p < o then 4 else 1))) := by
  rw [s164 d i j N Q hi hj hij, ho, hp]
/-- what suing asks and does, on both sides -/
theorem sue_f {n i j : Nat} {M : Mem} (hn : n ≤ 6) (hi : i < n) (hj : j < n) (hij : i ≠ j) (hL : LM n M) : (0 < mx 0 (M 28 (j * 6 + i)) ∧ M 25 j = 1 ↔ 0 < M 43 (12 + 6 * i + j) ∧ M 43 j = 1) ∧ (0 < M 43 (12 + 6 * i + j) ∧ M 43 j = 1 → ∃ o p, mx 0 (M 28 (j * 6 + i)) = o ∧ M 43 (12 + 6 * i + j) = o ∧ payC o (M 26 j) = p ∧ payF o (M 43 (6 + j)) = p ∧ LR n (M 24) (if p < o then upd (M 25) j 4 else M 25) (upd (upd (M 26) j (bo (M 26 j + -p))) i (bo (M 26 i + p))) (upd (upd (M 28) (j * 6 + i) (M 28 (j * 6 + i) + -p)) (i * 6 + j) (M 28 (i * 6 + j) - -p)) (upd (mvF (M 43) j i p) j (if p < o then 4 else 1))) := by
  obtain ⟨l1, l2, l3, -, l5, l6, l7, -⟩ := id hL
  have hi6 : i < 6 := by omega
  have hj6 : j < 6 := by omega
  have e3 := l3 i hi6 j hj6
  have e1 := l1 j hj6
  have em : 0 < mx 0 (M 28 (j * 6 + i)) ↔ 0 < M 28 (j * 6 + i) := by
    unfold mx
    by_cases h : 0 < M 28 (j * 6 + i)
    · rw [if_pos h]
    · rw [if_neg h]
      exact ⟨fun z => absurd z (by decide), fun z => absurd z h⟩
  refine ⟨by rw [em, e3, e1], fun hs => ?_⟩
  rw [e3, e1] at hs
  have eo : mx 0 (M 28 (j * 6 + i)) = M 28 (j * 6 + i) := by unfold mx; rw [if_pos hs.1]
  obtain ⟨b1, b2, b3, b4⟩ := pay_b (o := M 28 (j * 6 + i)) (c := M 26 j) hs.1
  refine ⟨M 28 (j * 6 + i), payC (M 28 (j * 6 + i)) (M 26 j), eo, e3, rfl, by rw [l2 j hj6]; exact b1, ?_⟩
  generalize payC (M 28 (j * 6 + i)) (M 26 j) = p at b1 b2 b3 b4 ⊢
  have r1 := l5 j hj6
  have r2 := l6 i hi6 j hj6
  have hu := LR_up (x := p) hi hj hn hij b2 (by have := r1.1; omega) (by omega) hL
  by_cases hpo : p < M 28 (j * 6 + i)
  · rw [if_pos hpo, if_pos hpo]
    exact LR_is 4 hj6 hu
  · rw [if_neg hpo, if_neg hpo]
    have := LR_is 1 hj6 hu
    rw [show upd (M 25) j 1 = M 25 by rw [← hs.2]; exact upd_id _ _] at this
    exact this
theorem pair_sue (d : Nat) (x y : Int32) (M : Mem) (hI : Inv M) : PairOK (d + 6) 87 162 [.ref 0, .int x, .int y] [.ref 40, .int x, .int y] M := by
  intro K hK
  obtain ⟨n, nc, np, B, hY, hL, ⟨px, u, hx16, hu, p1, p2, p5, hq⟩, h0, h1, hT, hH, hB, hS, hSt⟩ := id hI
  obtain ⟨⟨g1, g2, g3, g4⟩, ⟨h13, h4⟩, -⟩ := id hY
  by_cases hxy : rg x 0 (n - 1) ∧ rg y 0 (n - 1) ∧ ¬ x = y
  · obtain ⟨i, j, hi, hj, hij, rfl, rfl⟩ := rg_two g1 hxy
    have hi6 : i < 6 := by omega
    have hj6 : j < 6 := by omega
    have hji : j ≠ i := fun z => hij z.symm
    obtain ⟨sf, sg⟩ := sue_f g1 hi hj hij hL
    by_cases hs : 0 < M 43 (12 + 6 * i + j) ∧ M 43 j = 1
    · obtain ⟨o, p, ho, ho2, hp, hp2, hl⟩ := sg hs
      by_cases hpo : p < o
      · simp only [if_pos hpo] at hl
        simp (maxSteps := 400000) (disch := first | omega | assumption | (simp (disch := omega) only [upr_off, upr_at, upd_off]; assumption)) only [e87, e162, s79 _ n _ _ M _ g1 h13, s141 _ n _ _ _ g1, iff_true_intro hxy, iff_true_intro hxy.1, iff_true_intro hxy.2.1, iff_false_intro hxy.2.2, bI_T, bI_F, z01, s61 _ i j M _ hi6 hj6, s163 _ i j _ _ hi6 hj6, sf, iff_true_intro hs, iff_true_intro hs.1, iff_true_intro hs.2, s29 _ px u M _ hx16 hu p1 p2, s62q _ i j o p _ _ hi6 hj6 hji, s148p _ u _ _ hu, s164q _ i j o p _ _ hi6 hj6 hji, iff_true_intro hpo, kv, rv, tv, lnv, lv0, clv, clr_i, clr_r, clr_n, clr_l, true_and, and_true, Option.toList_some, Option.toList_none, List.cons_append, List.nil_append, bI_0, bI_1, bI_or, ↓reduceIte, or_true, true_or, eq_self, irv, i0_add, not_true_eq_false, not_false_eq_true, Bool.false_eq_true, and_false, false_and, or_false, false_or, reduceCtorEq, nev, ngv, nc_or, in64, l64v, ite_not, ite_notP, up2_upr, upr_upr, upr_at, nI_cl, nI_ir, iav, nI_1, nI_mul6, nI_6mul, nI_lt2, nI_eq2, nI_neg, nI_m1, ltv, nI_z, upd_at, upd_off, upr_off, usv, upd_upd]
        refine hK _ _ ⟨n, nc, np, B, ?_⟩
        unfold LM
        simp (maxSteps := 400000) (disch := first | omega | assumption) only [YR_upr, ST_upr, kv, rv, tv, lnv, lv0, clv, clr_i, clr_r, clr_n, clr_l, true_and, and_true, Option.toList_some, Option.toList_none, List.cons_append, List.nil_append, bI_0, bI_1, bI_or, ↓reduceIte, or_true, true_or, eq_self, irv, i0_add, not_true_eq_false, not_false_eq_true, Bool.false_eq_true, and_false, false_and, or_false, false_or, reduceCtorEq, nev, ngv, nc_or, in64, l64v, ite_not, ite_notP, up2_upr, upr_upr, upr_at, nI_cl, nI_ir, iav, nI_1, nI_mul6, nI_6mul, nI_lt2, nI_eq2, nI_neg, nI_m1, ltv, nI_z, upd_at, upd_off, upr_off, usv, upd_upd]
        exact ⟨hY, hl, PR_push hx16 hu hq hL, h0, h1, hT, hH, hB, hS, hSt⟩
      · simp only [if_neg hpo] at hl
        simp (maxSteps := 400000) (disch := first | omega | assumption | (simp (disch := omega) only [upr_off, upr_at, upd_off]; assumption)) only [e87, e162, s79 _ n _ _ M _ g1 h13, s141 _ n _ _ _ g1, iff_true_intro hxy, iff_true_intro hxy.1, iff_true_intro hxy.2.1, iff_false_intro hxy.2.2, bI_T, bI_F, z01, s61 _ i j M _ hi6 hj6, s163 _ i j _ _ hi6 hj6, sf, iff_true_intro hs, iff_true_intro hs.1, iff_true_intro hs.2, s29 _ px u M _ hx16 hu p1 p2, s62q _ i j o p _ _ hi6 hj6 hji, s148p _ u _ _ hu, s164q _ i j o p _ _ hi6 hj6 hji, iff_false_intro hpo, kv, rv, tv, lnv, lv0, clv, clr_i, clr_r, clr_n, clr_l, true_and, and_true, Option.toList_some, Option.toList_none, List.cons_append, List.nil_append, bI_0, bI_1, bI_or, ↓reduceIte, or_true, true_or, eq_self, irv, i0_add, not_true_eq_false, not_false_eq_true, Bool.false_eq_true, and_false, false_and, or_false, false_or, reduceCtorEq, nev, ngv, nc_or, in64, l64v, ite_not, ite_notP, up2_upr, upr_upr, upr_at, nI_cl, nI_ir, iav, nI_1, nI_mul6, nI_6mul, nI_lt2, nI_eq2, nI_neg, nI_m1, ltv, nI_z, upd_at, upd_off, upr_off, usv, upd_upd]
        refine hK _ _ ⟨n, nc, np, B, ?_⟩
        unfold LM
        simp (maxSteps := 400000) (disch := first | omega | assumption) only [YR_upr, ST_upr, kv, rv, tv, lnv, lv0, clv, clr_i, clr_r, clr_n, clr_l, true_and, and_true, Option.toList_some, Option.toList_none, List.cons_append, List.nil_append, bI_0, bI_1, bI_or, ↓reduceIte, or_true, true_or, eq_self, irv, i0_add, not_true_eq_false, not_false_eq_true, Bool.false_eq_true, and_false, false_and, or_false, false_or, reduceCtorEq, nev, ngv, nc_or, in64, l64v, ite_not, ite_notP, up2_upr, upr_upr, upr_at, nI_cl, nI_ir, iav, nI_1, nI_mul6, nI_6mul, nI_lt2, nI_eq2, nI_neg, nI_m1, ltv, nI_z, upd_at, upd_off, upr_off, usv, upd_upd]
        exact ⟨hY, hl, PR_push hx16 hu hq hL, h0, h1, hT, hH, hB, hS, hSt⟩
    · simp (maxSteps := 400000) (disch := first | omega | assumption) only [e87, e162, s79 _ n _ _ M _ g1 h13, s141 _ n _ M _ g1 h4, iff_true_intro hxy, iff_true_intro hxy.1, iff_true_intro hxy.2.1, iff_false_intro hxy.2.2, bI_T, bI_F, z01, s61 _ i j M _ hi6 hj6, s163 _ i j M _ hi6 hj6, sf, iff_false_intro hs, kv, rv, tv, lnv, lv0, clv, clr_i, clr_r, clr_n, clr_l, true_and, and_true, Option.toList_some, Option.toList_none, List.cons_append, List.nil_append, bI_0, bI_1, bI_or, ↓reduceIte, or_true, true_or, eq_self, irv, i0_add, not_true_eq_false, not_false_eq_true, Bool.false_eq_true, and_false, false_and, or_false, false_or, reduceCtorEq, nev, ngv, nc_or, in64, l64v, ite_not, ite_notP, up2_upr, upr_upr, upr_at, nI_cl, nI_ir, iav, nI_1, nI_mul6, nI_6mul, nI_lt2, nI_eq2, nI_neg, nI_m1, ltv, nI_z, upd_at, upd_off, upr_off, usv, upd_upd]
      exact hK _ _ hI
  · rcases no_two hxy with e | ⟨e1, e2⟩ | ⟨e1, e2, e3⟩
    · simp (maxSteps := 400000) (disch := first | omega | assumption) only [e87, e162, s79 _ n _ _ M _ g1 h13, s141 _ n _ M _ g1 h4, iff_false_intro hxy, iff_false_intro e, bI_F, kv, rv, tv, lnv, lv0, clv, clr_i, clr_r, clr_n, clr_l, true_and, and_true, Option.toList_some, Option.toList_none, List.cons_append, List.nil_append, bI_0, bI_1, bI_or, ↓reduceIte, or_true, true_or, eq_self, irv, i0_add, not_true_eq_false, not_false_eq_true, Bool.false_eq_true, and_false, false_and, or_false, false_or, reduceCtorEq, nev, ngv, nc_or, in64, l64v, ite_not, ite_notP, up2_upr, upr_upr, upr_at, nI_cl, nI_ir, iav, nI_1, nI_mul6, nI_6mul, nI_lt2, nI_eq2, nI_neg, nI_m1, ltv, nI_z, upd_at, upd_off, upr_off, usv, upd_upd]
      exact hK _ _ hI
    · simp (maxSteps := 400000) (disch := first | omega | assumption) only [e87, e162, s79 _ n _ _ M _ g1 h13, s141 _ n _ M _ g1 h4, iff_false_intro hxy, iff_true_intro e1, iff_false_intro e2, bI_F, bI_T, z01, kv, rv, tv, lnv, lv0, clv, clr_i, clr_r, clr_n, clr_l, true_and, and_true, Option.toList_some, Option.toList_none, List.cons_append, List.nil_append, bI_0, bI_1, bI_or, ↓reduceIte, or_true, true_or, eq_self, irv, i0_add, not_true_eq_false, not_false_eq_true, Bool.false_eq_true, and_false, false_and, or_false, false_or, reduceCtorEq, nev, ngv, nc_or, in64, l64v, ite_not, ite_notP, up2_upr, upr_upr, upr_at, nI_cl, nI_ir, iav, nI_1, nI_mul6, nI_6mul, nI_lt2, nI_eq2, nI_neg, nI_m1, ltv, nI_z, upd_at, upd_off, upr_off, usv, upd_upd]
      exact hK _ _ hI
    · simp (maxSteps := 400000) (disch := first | omega | assumption) only [e87, e162, s79 _ n _ _ M _ g1 h13, s141 _ n _ M _ g1 h4, iff_false_intro hxy, iff_true_intro e1, iff_true_intro e2, iff_true_intro e3, bI_F, bI_T, z01, kv, rv, tv, lnv, lv0, clv, clr_i, clr_r, clr_n, clr_l, true_and, and_true, Option.toList_some, Option.toList_none, List.cons_append, List.nil_append, bI_0, bI_1, bI_or, ↓reduceIte, or_true, true_or, eq_self, irv, i0_add, not_true_eq_false, not_false_eq_true, Bool.false_eq_true, and_false, false_and, or_false, false_or, reduceCtorEq, nev, ngv, nc_or, in64, l64v, ite_not, ite_notP, up2_upr, upr_upr, upr_at, nI_cl, nI_ir, iav, nI_1, nI_mul6, nI_6mul, nI_lt2, nI_eq2, nI_neg, nI_m1, ltv, nI_z, upd_at, upd_off, upr_off, usv, upd_upd]
      exact hK _ _ hI
