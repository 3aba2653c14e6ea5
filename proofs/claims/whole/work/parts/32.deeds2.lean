/-! part 32: deeds: in, out, settle, lend, sue -/
theorem pair_goOut (d : Nat) (x : Int32) (M : Mem) (hI : Inv M) : PairOK (d + 3) 84 154 [.ref 0, .int x] [.ref 40, .int x] M := by
  intro K hK
  obtain ⟨n, nc, np, B, hY, hL, ⟨px, u, hx16, hu, p1, p2, p5, hq⟩, h0, h1, hT, hH, hB, hS, hSt⟩ := id hI
  obtain ⟨⟨g1, g2, g3, g4⟩, ⟨h13, h4⟩, -⟩ := id hY
  obtain ⟨l1, l2, -⟩ := id hL
  by_cases hx : rg x 0 (n - 1)
  · obtain ⟨k, hk, rfl⟩ := rg_k (by omega) hx
    have hk6 : k < 6 := by omega
    by_cases hb : M 25 k = 1
    · have ew : whoN (upd (M 43) k 0) 0 n = whoN (upd (M 25) k 0) 0 n := whoN_c (fun q hq => by
        by_cases e : q = k
        · rw [e, pk_us, pk_us]
        · rw [pk_un e, pk_un e]; exact l1 q (by omega))
      simp (maxSteps := 400000) (disch := first | omega | assumption | (simp (disch := omega) only [upr_off, upr_at, upd_off]; assumption)) only [e84, e154, s77 _ n _ M _ g1 h13, s141 _ n _ _ _ g1, iff_true_intro hx, l1 k hk6, hb, s29 _ px u M _ hx16 hu p1 p2, s42 _ n _ _ _ g1, s148p _ u _ _ hu, s127 _ n _ _ _ g1, ew, kv, rv, tv, lnv, lv0, clv, clr_i, clr_r, clr_n, clr_l, true_and, and_true, Option.toList_some, Option.toList_none, List.cons_append, List.nil_append, bI_0, bI_1, bI_or, ↓reduceIte, or_true, true_or, eq_self, irv, i0_add, not_true_eq_false, not_false_eq_true, Bool.false_eq_true, and_false, false_and, or_false, false_or, reduceCtorEq, nev, ngv, nc_or, in64, l64v, ite_not, ite_notP, up2_upr, upr_upr, upr_at, nI_cl, nI_ir, iav, nI_1, nI_mul6, nI_6mul, nI_lt2, nI_eq2, nI_neg, nI_m1, ltv, nI_z, upd_at, upd_off, upr_off, usv, upd_upd]
      refine hK _ _ ⟨n, nc, np, B, ?_⟩
      unfold LM
      simp (maxSteps := 400000) (disch := first | omega | assumption) only [YR_upr, ST_upr, kv, rv, tv, lnv, lv0, clv, clr_i, clr_r, clr_n, clr_l, true_and, and_true, Option.toList_some, Option.toList_none, List.cons_append, List.nil_append, bI_0, bI_1, bI_or, ↓reduceIte, or_true, true_or, eq_self, irv, i0_add, not_true_eq_false, not_false_eq_true, Bool.false_eq_true, and_false, false_and, or_false, false_or, reduceCtorEq, nev, ngv, nc_or, in64, l64v, ite_not, ite_notP, up2_upr, upr_upr, upr_at, nI_cl, nI_ir, iav, nI_1, nI_mul6, nI_6mul, nI_lt2, nI_eq2, nI_neg, nI_m1, ltv, nI_z, upd_at, upd_off, upr_off, usv, upd_upd]
      exact ⟨hY, LR_is 0 hk6 hL, PR_push hx16 hu hq hL, h0, h1, hT, hH, hB, hS, hSt⟩
    · simp (maxSteps := 400000) (disch := first | omega | assumption) only [e84, e154, s77 _ n _ M _ g1 h13, s141 _ n _ M _ g1 h4, iff_true_intro hx, l1 k hk6, iff_false_intro hb, kv, rv, tv, lnv, lv0, clv, clr_i, clr_r, clr_n, clr_l, true_and, and_true, Option.toList_some, Option.toList_none, List.cons_append, List.nil_append, bI_0, bI_1, bI_or, ↓reduceIte, or_true, true_or, eq_self, irv, i0_add, not_true_eq_false, not_false_eq_true, Bool.false_eq_true, and_false, false_and, or_false, false_or, reduceCtorEq, nev, ngv, nc_or, in64, l64v, ite_not, ite_notP, up2_upr, upr_upr, upr_at, nI_cl, nI_ir, iav, nI_1, nI_mul6, nI_6mul, nI_lt2, nI_eq2, nI_neg, nI_m1, ltv, nI_z, upd_at, upd_off, upr_off, usv, upd_upd]
      exact hK _ _ hI
  · simp (maxSteps := 400000) (disch := first | omega | assumption) only [e84, e154, s77 _ n _ M _ g1 h13, s141 _ n _ M _ g1 h4, iff_false_intro hx, bI_F, kv, rv, tv, lnv, lv0, clv, clr_i, clr_r, clr_n, clr_l, true_and, and_true, Option.toList_some, Option.toList_none, List.cons_append, List.nil_append, bI_0, bI_1, bI_or, ↓reduceIte, or_true, true_or, eq_self, irv, i0_add, not_true_eq_false, not_false_eq_true, Bool.false_eq_true, and_false, false_and, or_false, false_or, reduceCtorEq, nev, ngv, nc_or, in64, l64v, ite_not, ite_notP, up2_upr, upr_upr, upr_at, nI_cl, nI_ir, iav, nI_1, nI_mul6, nI_6mul, nI_lt2, nI_eq2, nI_neg, nI_m1, ltv, nI_z, upd_at, upd_off, upr_off, usv, upd_upd]
    exact hK _ _ hI
theorem pair_goIn (d : Nat) (x : Int32) (M : Mem) (hI : Inv M) : PairOK (d + 3) 83 152 [.ref 0, .int x] [.ref 40, .int x] M := by
  intro K hK
  obtain ⟨n, nc, np, B, hY, hL, ⟨px, u, hx16, hu, p1, p2, p5, hq⟩, h0, h1, hT, hH, hB, hS, hSt⟩ := id hI
  obtain ⟨⟨g1, g2, g3, g4⟩, ⟨h13, h4⟩, -, -, -, -, ⟨h41, -⟩, -⟩ := id hY
  obtain ⟨l1, l2, -⟩ := id hL
  by_cases hx : rg x 0 (n - 1)
  · obtain ⟨k, hk, rfl⟩ := rg_k (by omega) hx
    have hk6 : k < 6 := by omega
    have ew0 : whoN (M 43) 1 n = whoN (M 25) 1 n := whoN_c (fun q hq => l1 q (by omega))
    by_cases hb : M 25 k = 0 ∧ nI (pcN (whoN (M 25) 1 n)) < M 15 10
    · have ew : whoN (upd (M 43) k 1) 1 n = whoN (upd (M 25) k 1) 1 n := whoN_c (fun q hq => by
        by_cases e : q = k
        · rw [e, pk_us, pk_us]
        · rw [pk_un e, pk_un e]; exact l1 q (by omega))
      simp (maxSteps := 400000) (disch := first | omega | assumption | (simp (disch := omega) only [upr_off, upr_at, upd_off]; assumption)) only [e83, e152, s77 _ n _ M _ g1 h13, s141 _ n _ _ _ g1, iff_true_intro hx, s55 _ n k M _ g1 h13 hk6, s153 _ n k _ _ g1, l1 k hk6, ew0, h41, iff_true_intro hb, iff_true_intro hb.1, iff_true_intro hb.2, bI_T, z01, s29 _ px u M _ hx16 hu p1 p2, s42 _ n _ _ _ g1, s148p _ u _ _ hu, s127 _ n _ _ _ g1, ew, kv, rv, tv, lnv, lv0, clv, clr_i, clr_r, clr_n, clr_l, true_and, and_true, Option.toList_some, Option.toList_none, List.cons_append, List.nil_append, bI_0, bI_1, bI_or, ↓reduceIte, or_true, true_or, eq_self, irv, i0_add, not_true_eq_false, not_false_eq_true, Bool.false_eq_true, and_false, false_and, or_false, false_or, reduceCtorEq, nev, ngv, nc_or, in64, l64v, ite_not, ite_notP, up2_upr, upr_upr, upr_at, nI_cl, nI_ir, iav, nI_1, nI_mul6, nI_6mul, nI_lt2, nI_eq2, nI_neg, nI_m1, ltv, nI_z, upd_at, upd_off, upr_off, usv, upd_upd]
      refine hK _ _ ⟨n, nc, np, B, ?_⟩
      unfold LM
      simp (maxSteps := 400000) (disch := first | omega | assumption) only [YR_upr, ST_upr, kv, rv, tv, lnv, lv0, clv, clr_i, clr_r, clr_n, clr_l, true_and, and_true, Option.toList_some, Option.toList_none, List.cons_append, List.nil_append, bI_0, bI_1, bI_or, ↓reduceIte, or_true, true_or, eq_self, irv, i0_add, not_true_eq_false, not_false_eq_true, Bool.false_eq_true, and_false, false_and, or_false, false_or, reduceCtorEq, nev, ngv, nc_or, in64, l64v, ite_not, ite_notP, up2_upr, upr_upr, upr_at, nI_cl, nI_ir, iav, nI_1, nI_mul6, nI_6mul, nI_lt2, nI_eq2, nI_neg, nI_m1, ltv, nI_z, upd_at, upd_off, upr_off, usv, upd_upd]
      exact ⟨hY, LR_is 1 hk6 hL, PR_push hx16 hu hq hL, h0, h1, hT, hH, hB, hS, hSt⟩
    · simp (maxSteps := 400000) (disch := first | omega | assumption) only [e83, e152, s77 _ n _ M _ g1 h13, s141 _ n _ M _ g1 h4, iff_true_intro hx, s55 _ n k M _ g1 h13 hk6, s153 _ n k M _ g1 h4 hk6, l1 k hk6, ew0, h41, iff_false_intro hb, bI_F, bI_T, z01, kv, rv, tv, lnv, lv0, clv, clr_i, clr_r, clr_n, clr_l, true_and, and_true, Option.toList_some, Option.toList_none, List.cons_append, List.nil_append, bI_0, bI_1, bI_or, ↓reduceIte, or_true, true_or, eq_self, irv, i0_add, not_true_eq_false, not_false_eq_true, Bool.false_eq_true, and_false, false_and, or_false, false_or, reduceCtorEq, nev, ngv, nc_or, in64, l64v, ite_not, ite_notP, up2_upr, upr_upr, upr_at, nI_cl, nI_ir, iav, nI_1, nI_mul6, nI_6mul, nI_lt2, nI_eq2, nI_neg, nI_m1, ltv, nI_z, upd_at, upd_off, upr_off, usv, upd_upd]
      exact hK _ _ hI
  · simp (maxSteps := 400000) (disch := first | omega | assumption) only [e83, e152, s77 _ n _ M _ g1 h13, s141 _ n _ M _ g1 h4, iff_false_intro hx, bI_F, kv, rv, tv, lnv, lv0, clv, clr_i, clr_r, clr_n, clr_l, true_and, and_true, Option.toList_some, Option.toList_none, List.cons_append, List.nil_append, bI_0, bI_1, bI_or, ↓reduceIte, or_true, true_or, eq_self, irv, i0_add, not_true_eq_false, not_false_eq_true, Bool.false_eq_true, and_false, false_and, or_false, false_or, reduceCtorEq, nev, ngv, nc_or, in64, l64v, ite_not, ite_notP, up2_upr, upr_upr, upr_at, nI_cl, nI_ir, iav, nI_1, nI_mul6, nI_6mul, nI_lt2, nI_eq2, nI_neg, nI_m1, ltv, nI_z, upd_at, upd_off, upr_off, usv, upd_upd]
    exact hK _ _ hI
theorem pair_settle (d : Nat) (x : Int32) (M : Mem) (hI : Inv M) : PairOK (d + 6) 85 155 [.ref 0, .int x] [.ref 40, .int x] M := by
  intro K hK
  obtain ⟨n, nc, np, B, hY, hL, ⟨px, u, hx16, hu, p1, p2, p5, hq⟩, h0, h1, hT, hH, hB, hS, hSt⟩ := id hI
  obtain ⟨⟨g1, g2, g3, g4⟩, ⟨h13, h4⟩, ⟨h12, -⟩, -, -, -, -, hC, hD, -⟩ := id hY
  obtain ⟨l1, l2, l3, ⟨l48, -⟩, -, -, -, -, ⟨w, a, hw, -, lw, -⟩, -⟩ := id hL
  by_cases hx : rg x 0 (n - 1)
  · obtain ⟨k, hk, rfl⟩ := rg_k (by omega) hx
    have hk6 : k < 6 := by omega
    obtain ⟨d1, ⟨c, hc, d2⟩, d3, d4, d5, d6⟩ := hD k hk
    obtain ⟨c1, c2, c3, c4⟩ := hC c hc
    have hc4 : c < 4 := by omega
    have d2m : M 41 (14 + k) = nI c := d1.trans d2
    obtain ⟨ec, v, hv, ev⟩ := cst_eq (w := w) d4 c3 c4 (by omega)
    rw [← lw] at ec ev
    have ecm : cstF (M 41 (20 + k)) (accF (M 41 (6 + c)) (M 41 (10 + c)) (M 43 48)) = nI v := by rw [d3, c1, c2, l48, ec, ev]
    by_cases hb : (M 25 k = 1 ∨ M 25 k = 0) ∧ ¬ M 26 k < nI v
    · have hs := LR_set (x := nI v) hk6 (by rw [nI_toInt (by omega)]; omega) (by have := hb.2; rw [Int32.lt_iff_toInt_lt] at this; omega) hL
      rw [l2 k hk6] at hs
      simp (maxSteps := 400000) (disch := first | omega | assumption | (simp (disch := omega) only [upr_off, upr_at, upd_off]; assumption)) only [e85, e155, s77 _ n _ M _ g1 h13, s141 _ n _ _ _ g1, iff_true_intro hx, s56 _ k c nc M _ hk6 d2 hc g2 h12, s156 _ k c _ _ hk6, ev, ecm, l1 k hk6, l2 k hk6, iff_true_intro hb, iff_true_intro hb.1, iff_false_intro hb.2, bI_T, z01, s29 _ px u M _ hx16 hu p1 p2, s57 _ k c nc _ _ hk6, s148p _ u _ _ hu, s157 _ k c _ _ hk6, kv, rv, tv, lnv, lv0, clv, clr_i, clr_r, clr_n, clr_l, true_and, and_true, Option.toList_some, Option.toList_none, List.cons_append, List.nil_append, bI_0, bI_1, bI_or, ↓reduceIte, or_true, true_or, eq_self, irv, i0_add, not_true_eq_false, not_false_eq_true, Bool.false_eq_true, and_false, false_and, or_false, false_or, reduceCtorEq, nev, ngv, nc_or, in64, l64v, ite_not, ite_notP, up2_upr, upr_upr, upr_at, nI_cl, nI_ir, iav, nI_1, nI_mul6, nI_6mul, nI_lt2, nI_eq2, nI_neg, nI_m1, ltv, nI_z, upd_at, upd_off, upr_off, usv, upd_upd]
      refine hK _ _ ⟨n, nc, np, B, ?_⟩
      unfold LM
      simp (maxSteps := 400000) (disch := first | omega | assumption) only [YR_upr, ST_upr, kv, rv, tv, lnv, lv0, clv, clr_i, clr_r, clr_n, clr_l, true_and, and_true, Option.toList_some, Option.toList_none, List.cons_append, List.nil_append, bI_0, bI_1, bI_or, ↓reduceIte, or_true, true_or, eq_self, irv, i0_add, not_true_eq_false, not_false_eq_true, Bool.false_eq_true, and_false, false_and, or_false, false_or, reduceCtorEq, nev, ngv, nc_or, in64, l64v, ite_not, ite_notP, up2_upr, upr_upr, upr_at, nI_cl, nI_ir, iav, nI_1, nI_mul6, nI_6mul, nI_lt2, nI_eq2, nI_neg, nI_m1, ltv, nI_z, upd_at, upd_off, upr_off, usv, upd_upd]
      exact ⟨hY, hs, PR_push hx16 hu hq hL, h0, h1, hT, hH, hB, hS, hSt⟩
    · simp (maxSteps := 400000) (disch := first | omega | assumption) only [e85, e155, s77 _ n _ M _ g1 h13, s141 _ n _ M _ g1 h4, iff_true_intro hx, s56 _ k c nc M _ hk6 d2 hc g2 h12, s156 _ k c M _ hk6 d2m hc4, ev, ecm, l1 k hk6, l2 k hk6, iff_false_intro hb, bI_F, bI_T, z01, kv, rv, tv, lnv, lv0, clv, clr_i, clr_r, clr_n, clr_l, true_and, and_true, Option.toList_some, Option.toList_none, List.cons_append, List.nil_append, bI_0, bI_1, bI_or, ↓reduceIte, or_true, true_or, eq_self, irv, i0_add, not_true_eq_false, not_false_eq_true, Bool.false_eq_true, and_false, false_and, or_false, false_or, reduceCtorEq, nev, ngv, nc_or, in64, l64v, ite_not, ite_notP, up2_upr, upr_upr, upr_at, nI_cl, nI_ir, iav, nI_1, nI_mul6, nI_6mul, nI_lt2, nI_eq2, nI_neg, nI_m1, ltv, nI_z, upd_at, upd_off, upr_off, usv, upd_upd]
      exact hK _ _ hI
  · simp (maxSteps := 400000) (disch := first | omega | assumption) only [e85, e155, s77 _ n _ M _ g1 h13, s141 _ n _ M _ g1 h4, iff_false_intro hx, bI_F, kv, rv, tv, lnv, lv0, clv, clr_i, clr_r, clr_n, clr_l, true_and, and_true, Option.toList_some, Option.toList_none, List.cons_append, List.nil_append, bI_0, bI_1, bI_or, ↓reduceIte, or_true, true_or, eq_self, irv, i0_add, not_true_eq_false, not_false_eq_true, Bool.false_eq_true, and_false, false_and, or_false, false_or, reduceCtorEq, nev, ngv, nc_or, in64, l64v, ite_not, ite_notP, up2_upr, upr_upr, upr_at, nI_cl, nI_ir, iav, nI_1, nI_mul6, nI_6mul, nI_lt2, nI_eq2, nI_neg, nI_m1, ltv, nI_z, upd_at, upd_off, upr_off, usv, upd_upd]
    exact hK _ _ hI
theorem mv_at {g : Nat → Int32} {i j : Nat} {x : Int32} (hij : i ≠ j) (hi : i < 6) (hj : j < 6) : mvF g i j x (12 + 6 * i + j) = g (12 + 6 * i + j) + x := by
  unfold mvF
  rw [pk_un (by omega), pk_us]
theorem no_two {x y : Int32} {n : Nat} (h : ¬ (rg x 0 (n - 1) ∧ rg y 0 (n - 1) ∧ ¬ x = y)) : ¬ rg x 0 (n - 1) ∨ (rg x 0 (n - 1) ∧ ¬ rg y 0 (n - 1)) ∨ (rg x 0 (n - 1) ∧ rg y 0 (n - 1) ∧ x = y) := by
  by_cases h1 : rg x 0 (n - 1)
  · by_cases h2 : rg y 0 (n - 1)
    · by_cases h3 : x = y
      · exact Or.inr (Or.inr ⟨h1, h2, h3⟩)
      · exact absurd ⟨h1, h2, h3⟩ h
    · exact Or.inr (Or.inl ⟨h1, h2⟩)
  · exact Or.inl h1
theorem pair_lend (d : Nat) (x y z : Int32) (M : Mem) (hI : Inv M) : PairOK (d + 6) 86 158 [.ref 0, .int x, .int y, .int z, .null] [.ref 40, .int x, .int y, .int z] M := by
  intro K hK
  obtain ⟨n, nc, np, B, hY, hL, ⟨px, u, hx16, hu, p1, p2, p5, hq⟩, h0, h1, hT, hH, hB, hS, hSt⟩ := id hI
  obtain ⟨⟨g1, g2, g3, g4⟩, ⟨h13, h4⟩, -⟩ := id hY
  obtain ⟨l1, l2, l3, -, l5, -, l7, -⟩ := id hL
  by_cases hxy : rg x 0 (n - 1) ∧ rg y 0 (n - 1) ∧ ¬ x = y
  · obtain ⟨i, j, hi, hj, hij, rfl, rfl⟩ := rg_two g1 hxy
    have hi6 : i < 6 := by omega
    have hj6 : j < 6 := by omega
    have ei : nI (12 + 6 * i) + nI j = nI (12 + 6 * i + j) := nI_add _ _
    have e3 := l3 i hi6 j hj6
    have z4 : ((-1000000003 : Int32) = 0 ↔ False) ∧ ((-1000000004 : Int32) = 0 ↔ False) := ⟨iff_false_intro (by decide), iff_false_intro (by decide)⟩
    by_cases hz : rg z 1 999
    · by_cases hm : M 25 i = 1 ∧ M 25 j = 1 ∧ ¬ M 26 i < z
      · have hm' : ¬ i = j ∧ M 25 i = 1 ∧ M 25 j = 1 ∧ ¬ M 26 i < z := ⟨hij, hm⟩
        by_cases hf : 9999 < M 28 (j * 6 + i) + z
        · simp (maxSteps := 400000) (disch := first | omega | assumption) only [e86, e158, s79 _ n _ _ M _ g1 h13, s141 _ n _ M _ g1 h4, s112i, rg_cls, rg_ite, i32v, iff_true_intro hxy, iff_true_intro hxy.1, iff_true_intro hxy.2.1, iff_false_intro hxy.2.2, iff_true_intro hz, bI_T, bI_F, z01, s59 _ i j z M _ hi6 hj6, s159, s160, l1 i hi6, l1 j hj6, l2 i hi6, e3, iff_true_intro hm, iff_true_intro hm', iff_false_intro hij, iff_true_intro hf, z4, kv, rv, tv, lnv, lv0, clv, clr_i, clr_r, clr_n, clr_l, true_and, and_true, Option.toList_some, Option.toList_none, List.cons_append, List.nil_append, bI_0, bI_1, bI_or, ↓reduceIte, or_true, true_or, eq_self, irv, i0_add, not_true_eq_false, not_false_eq_true, Bool.false_eq_true, and_false, false_and, or_false, false_or, reduceCtorEq, nev, ngv, nc_or, in64, l64v, ite_not, ite_notP, up2_upr, upr_upr, upr_at, nI_cl, nI_ir, iav, nI_1, nI_mul6, nI_6mul, nI_lt2, nI_eq2, nI_neg, nI_m1, ltv, nI_z, upd_at, upd_off, upr_off, usv, upd_upd]
          exact hK _ _ hI
        · have hzb : 1 ≤ z.toInt ∧ z.toInt ≤ 999 := hz
          have r1 := l7 j hj6 i hi6
          have es : (M 28 (j * 6 + i) + z).toInt = (M 28 (j * 6 + i)).toInt + z.toInt := addI (by have := r1.1; omega) (by have := r1.2; omega)
          have hs := LR_mv (x := z) hi hj g1 hij (by omega) (by have := hm.2.2; rw [Int32.lt_iff_toInt_lt] at this; omega) (by have := hf; rw [Int32.lt_iff_toInt_lt, es, t9.2.1] at this; omega) hL
          simp (maxSteps := 400000) (disch := first | omega | assumption | (simp (disch := omega) only [upr_off, upr_at, upd_off]; assumption)) only [e86, e158, s79 _ n _ _ M _ g1 h13, s141 _ n _ _ _ g1, s112i, rg_cls, rg_ite, i32v, iff_true_intro hxy, iff_true_intro hxy.1, iff_true_intro hxy.2.1, iff_false_intro hxy.2.2, iff_true_intro hz, bI_T, bI_F, z01, s59 _ i j z M _ hi6 hj6, s159, s160, l1 i hi6, l1 j hj6, l2 i hi6, e3, iff_true_intro hm, iff_true_intro hm', iff_false_intro hij, iff_false_intro hf, z4, s29 _ px u M _ hx16 hu p1 p2, s60 _ i j z _ _ hi6 hj6 hij, s12 _ j i _ _ hj6 hi6, s148p _ u _ _ hu, s161 _ i j z _ _ hi6 hj6 hij, ei, mv_at hij hi6 hj6, s134, kv, rv, tv, lnv, lv0, clv, clr_i, clr_r, clr_n, clr_l, true_and, and_true, Option.toList_some, Option.toList_none, List.cons_append, List.nil_append, bI_0, bI_1, bI_or, ↓reduceIte, or_true, true_or, eq_self, irv, i0_add, not_true_eq_false, not_false_eq_true, Bool.false_eq_true, and_false, false_and, or_false, false_or, reduceCtorEq, nev, ngv, nc_or, in64, l64v, ite_not, ite_notP, up2_upr, upr_upr, upr_at, nI_cl, nI_ir, iav, nI_1, nI_mul6, nI_6mul, nI_lt2, nI_eq2, nI_neg, nI_m1, ltv, nI_z, upd_at, upd_off, upr_off, usv, upd_upd]
          refine hK _ _ ⟨n, nc, np, B, ?_⟩
          unfold LM
          simp (maxSteps := 400000) (disch := first | omega | assumption) only [YR_upr, ST_upr, kv, rv, tv, lnv, lv0, clv, clr_i, clr_r, clr_n, clr_l, true_and, and_true, Option.toList_some, Option.toList_none, List.cons_append, List.nil_append, bI_0, bI_1, bI_or, ↓reduceIte, or_true, true_or, eq_self, irv, i0_add, not_true_eq_false, not_false_eq_true, Bool.false_eq_true, and_false, false_and, or_false, false_or, reduceCtorEq, nev, ngv, nc_or, in64, l64v, ite_not, ite_notP, up2_upr, upr_upr, upr_at, nI_cl, nI_ir, iav, nI_1, nI_mul6, nI_6mul, nI_lt2, nI_eq2, nI_neg, nI_m1, ltv, nI_z, upd_at, upd_off, upr_off, usv, upd_upd]
          exact ⟨hY, hs, PR_push hx16 hu hq hL, h0, h1, hT, hH, hB, hS, hSt⟩
      · have hm' : ¬ (¬ i = j ∧ M 25 i = 1 ∧ M 25 j = 1 ∧ ¬ M 26 i < z) := fun w => hm w.2
        simp (maxSteps := 400000) (disch := first | omega | assumption) only [e86, e158, s79 _ n _ _ M _ g1 h13, s141 _ n _ M _ g1 h4, s112i, rg_cls, rg_ite, i32v, iff_true_intro hxy, iff_true_intro hxy.1, iff_true_intro hxy.2.1, iff_false_intro hxy.2.2, iff_true_intro hz, bI_T, bI_F, z01, s59 _ i j z M _ hi6 hj6, s159, l1 i hi6, l1 j hj6, l2 i hi6, e3, iff_false_intro hm, iff_false_intro hm', z4, kv, rv, tv, lnv, lv0, clv, clr_i, clr_r, clr_n, clr_l, true_and, and_true, Option.toList_some, Option.toList_none, List.cons_append, List.nil_append, bI_0, bI_1, bI_or, ↓reduceIte, or_true, true_or, eq_self, irv, i0_add, not_true_eq_false, not_false_eq_true, Bool.false_eq_true, and_false, false_and, or_false, false_or, reduceCtorEq, nev, ngv, nc_or, in64, l64v, ite_not, ite_notP, up2_upr, upr_upr, upr_at, nI_cl, nI_ir, iav, nI_1, nI_mul6, nI_6mul, nI_lt2, nI_eq2, nI_neg, nI_m1, ltv, nI_z, upd_at, upd_off, upr_off, usv, upd_upd]
        exact hK _ _ hI
    · simp (maxSteps := 400000) (disch := first | omega | assumption) only [e86, e158, s79 _ n _ _ M _ g1 h13, s141 _ n _ M _ g1 h4, s112i, rg_cls, rg_ite, i32v, iff_true_intro hxy, iff_true_intro hxy.1, iff_true_intro hxy.2.1, iff_false_intro hxy.2.2, iff_false_intro hz, bI_T, bI_F, z01, kv, rv, tv, lnv, lv0, clv, clr_i, clr_r, clr_n, clr_l, true_and, and_true, Option.toList_some, Option.toList_none, List.cons_append, List.nil_append, bI_0, bI_1, bI_or, ↓reduceIte, or_true, true_or, eq_self, irv, i0_add, not_true_eq_false, not_false_eq_true, Bool.false_eq_true, and_false, false_and, or_false, false_or, reduceCtorEq, nev, ngv, nc_or, in64, l64v, ite_not, ite_notP, up2_upr, upr_upr, upr_at, nI_cl, nI_ir, iav, nI_1, nI_mul6, nI_6mul, nI_lt2, nI_eq2, nI_neg, nI_m1, ltv, nI_z, upd_at, upd_off, upr_off, usv, upd_upd]
      exact hK _ _ hI
  · rcases no_two hxy with e | ⟨e1, e2⟩ | ⟨e1, e2, e3⟩
    · simp (maxSteps := 400000) (disch := first | omega | assumption) only [e86, e158, s79 _ n _ _ M _ g1 h13, s141 _ n _ M _ g1 h4, iff_false_intro hxy, iff_false_intro e, bI_F, kv, rv, tv, lnv, lv0, clv, clr_i, clr_r, clr_n, clr_l, true_and, and_true, Option.toList_some, Option.toList_none, List.cons_append, List.nil_append, bI_0, bI_1, bI_or, ↓reduceIte, or_true, true_or, eq_self, irv, i0_add, not_true_eq_false, not_false_eq_true, Bool.false_eq_true, and_false, false_and, or_false, false_or, reduceCtorEq, nev, ngv, nc_or, in64, l64v, ite_not, ite_notP, up2_upr, upr_upr, upr_at, nI_cl, nI_ir, iav, nI_1, nI_mul6, nI_6mul, nI_lt2, nI_eq2, nI_neg, nI_m1, ltv, nI_z, upd_at, upd_off, upr_off, usv, upd_upd]
      exact hK _ _ hI
    · simp (maxSteps := 400000) (disch := first | omega | assumption) only [e86, e158, s79 _ n _ _ M _ g1 h13, s141 _ n _ M _ g1 h4, iff_false_intro hxy, iff_true_intro e1, iff_false_intro e2, bI_F, bI_T, z01, kv, rv, tv, lnv, lv0, clv, clr_i, clr_r, clr_n, clr_l, true_and, and_true, Option.toList_some, Option.toList_none, List.cons_append, List.nil_append, bI_0, bI_1, bI_or, ↓reduceIte, or_true, true_or, eq_self, irv, i0_add, not_true_eq_false, not_false_eq_true, Bool.false_eq_true, and_false, false_and, or_false, false_or, reduceCtorEq, nev, ngv, nc_or, in64, l64v, ite_not, ite_notP, up2_upr, upr_upr, upr_at, nI_cl, nI_ir, iav, nI_1, nI_mul6, nI_6mul, nI_lt2, nI_eq2, nI_neg, nI_m1, ltv, nI_z, upd_at, upd_off, upr_off, usv, upd_upd]
      exact hK _ _ hI
    · simp (maxSteps := 400000) (disch := first | omega | assumption) only [e86, e158, s79 _ n _ _ M _ g1 h13, s141 _ n _ M _ g1 h4, iff_false_intro hxy, iff_true_intro e1, iff_true_intro e2, iff_true_intro e3, bI_F, bI_T, z01, kv, rv, tv, lnv, lv0, clv, clr_i, clr_r, clr_n, clr_l, true_and, and_true, Option.toList_some, Option.toList_none, List.cons_append, List.nil_append, bI_0, bI_1, bI_or, ↓reduceIte, or_true, true_or, eq_self, irv, i0_add, not_true_eq_false, not_false_eq_true, Bool.false_eq_true, and_false, false_and, or_false, false_or, reduceCtorEq, nev, ngv, nc_or, in64, l64v, ite_not, ite_notP, up2_upr, upr_upr, upr_at, nI_cl, nI_ir, iav, nI_1, nI_mul6, nI_6mul, nI_lt2, nI_eq2, nI_neg, nI_m1, ltv, nI_z, upd_at, upd_off, upr_off, usv, upd_upd]
      exact hK _ _ hI
