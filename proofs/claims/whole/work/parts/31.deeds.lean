/-! part 31: deeds -/
theorem l179b (d n m : Nat) (q y : Int32) (M : Mem) (Q : Option Value → Mem → Prop) (hn : n ≤ 6) (h4 : M 41 4 = nI n) (hm : m < 64) (hc : ∀ k, k < n → ∃ c, c < 6 ∧ M 41 (14 + k) = nI c) : ∀ j k x, k + j = n → (Wp (d + 2) 179 84 [.ref 40, .int q, .int y, .int (nI m), .int (smF (alF (M 43) (fun k => M 41 (20 + k))) k), .int (smF (thF m (M 43) (fun k => M 41 (20 + k)) (fun k => M 41 (14 + k))) k), .int (nI k), x] [] M Q ↔ Q (some (.int (if y = 0 then nI m else bI (smF (alF (M 43) (fun k => M 41 (20 + k))) n < 2 * smF (thF m (M 43) (fun k => M 41 (20 + k)) (fun k => M 41 (14 + k))) n)))) M)
  | 0, k, x, hk => by
    obtain rfl : k = n := hk
    rw [h179_84]
    generalize smF (thF m (M 43) (fun k => M 41 (20 + k)) (fun k => M 41 (14 + k))) k = t
    generalize smF (alF (M 43) (fun k => M 41 (20 + k))) k = a
    by_cases hy : y = 0
    · simp (maxSteps := 400000) (disch := first | omega | assumption) only [e179_0, e179_1, h4, Nat.lt_irrefl, iff_true_intro hy, kv, rv, tv, lnv, lv0, clv, clr_i, clr_r, clr_n, clr_l, true_and, and_true, Option.toList_some, Option.toList_none, List.cons_append, List.nil_append, bI_0, bI_1, bI_or, ↓reduceIte, or_true, true_or, eq_self, irv, i0_add, not_true_eq_false, not_false_eq_true, Bool.false_eq_true, and_false, false_and, or_false, false_or, reduceCtorEq, nev, ngv, nc_or, in64, l64v, ite_not, ite_notP, up2_upr, upr_upr, upr_at, nI_cl, nI_ir, iav, nI_1, nI_mul6, nI_6mul, nI_lt2, nI_eq2, nI_neg, nI_m1, ltv, nI_z, upd_at, upd_off, upr_off, usv, upd_upd]
    · by_cases h : a < 2 * t
      · simp (maxSteps := 400000) (disch := first | omega | assumption) only [e179_0, e179_1, h4, Nat.lt_irrefl, iff_false_intro hy, h, bI_T, kv, rv, tv, lnv, lv0, clv, clr_i, clr_r, clr_n, clr_l, true_and, and_true, Option.toList_some, Option.toList_none, List.cons_append, List.nil_append, bI_0, bI_1, bI_or, ↓reduceIte, or_true, true_or, eq_self, irv, i0_add, not_true_eq_false, not_false_eq_true, Bool.false_eq_true, and_false, false_and, or_false, false_or, reduceCtorEq, nev, ngv, nc_or, in64, l64v, ite_not, ite_notP, up2_upr, upr_upr, upr_at, nI_cl, nI_ir, iav, nI_1, nI_mul6, nI_6mul, nI_lt2, nI_eq2, nI_neg, nI_m1, ltv, nI_z, upd_at, upd_off, upr_off, usv, upd_upd]
      · simp (maxSteps := 400000) (disch := first | omega | assumption) only [e179_0, e179_1, h4, Nat.lt_irrefl, iff_false_intro hy, h, bI_F, kv, rv, tv, lnv, lv0, clv, clr_i, clr_r, clr_n, clr_l, true_and, and_true, Option.toList_some, Option.toList_none, List.cons_append, List.nil_append, bI_0, bI_1, bI_or, ↓reduceIte, or_true, true_or, eq_self, irv, i0_add, not_true_eq_false, not_false_eq_true, Bool.false_eq_true, and_false, false_and, or_false, false_or, reduceCtorEq, nev, ngv, nc_or, in64, l64v, ite_not, ite_notP, up2_upr, upr_upr, upr_at, nI_cl, nI_ir, iav, nI_1, nI_mul6, nI_6mul, nI_lt2, nI_eq2, nI_neg, nI_m1, ltv, nI_z, upd_at, upd_off, upr_off, usv, upd_upd]
  | j + 1, k, x, hk => by
    have hlt : k < n := by omega
    obtain ⟨c, hc6, ec⟩ := hc k hlt
    have ih := fun x => l179b d n m q y M Q hn h4 hm hc j (k + 1) x (by omega)
    simp only [smF_S] at ih
    have e1 : thF m (M 43) (fun k => M 41 (20 + k)) (fun k => M 41 (14 + k)) k = if m.testBit c = true then alF (M 43) (fun k => M 41 (20 + k)) k else 0 := by
      unfold thF
      show (if m.testBit (M 41 (14 + k)).toNatClampNeg = true then _ else _) = _
      rw [ec, nI_cl (by omega)]
    simp only [e1] at ih
    have e2 : alF (M 43) (fun k => M 41 (20 + k)) k = if M 43 k = 3 then 0 else M 41 (20 + k) := rfl
    generalize ha : alF (M 43) (fun k => M 41 (20 + k)) k = ak at ih e2
    rw [h179_84]
    generalize smF (thF m (M 43) (fun k => M 41 (20 + k)) (fun k => M 41 (14 + k))) k = t at ih ⊢
    generalize smF (alF (M 43) (fun k => M 41 (20 + k))) k = a at ih ⊢
    by_cases h3 : M 43 k = 3
    · rw [if_pos h3] at e2
      subst e2
      simp only [ite_self] at ih
      rw [← ih (.int 0)]
      by_cases hb : m.testBit c = true
      · simp (maxSteps := 400000) (disch := first | omega | assumption) only [e179_0, e179_1, h4, hlt, h3, ec, s129, bt_iff c hc6 m hm, hb, bI_T, z01, kv, rv, tv, lnv, lv0, clv, clr_i, clr_r, clr_n, clr_l, true_and, and_true, Option.toList_some, Option.toList_none, List.cons_append, List.nil_append, bI_0, bI_1, bI_or, ↓reduceIte, or_true, true_or, eq_self, irv, i0_add, not_true_eq_false, not_false_eq_true, Bool.false_eq_true, and_false, false_and, or_false, false_or, reduceCtorEq, nev, ngv, nc_or, in64, l64v, ite_not, ite_notP, up2_upr, upr_upr, upr_at, nI_cl, nI_ir, iav, nI_1, nI_mul6, nI_6mul, nI_lt2, nI_eq2, nI_neg, nI_m1, ltv, nI_z, upd_at, upd_off, upr_off, usv, upd_upd]
      · simp (maxSteps := 400000) (disch := first | omega | assumption) only [e179_0, e179_1, h4, hlt, h3, ec, s129, bt_iff c hc6 m hm, hb, bI_F, z01, kv, rv, tv, lnv, lv0, clv, clr_i, clr_r, clr_n, clr_l, true_and, and_true, Option.toList_some, Option.toList_none, List.cons_append, List.nil_append, bI_0, bI_1, bI_or, ↓reduceIte, or_true, true_or, eq_self, irv, i0_add, not_true_eq_false, not_false_eq_true, Bool.false_eq_true, and_false, false_and, or_false, false_or, reduceCtorEq, nev, ngv, nc_or, in64, l64v, ite_not, ite_notP, up2_upr, upr_upr, upr_at, nI_cl, nI_ir, iav, nI_1, nI_mul6, nI_6mul, nI_lt2, nI_eq2, nI_neg, nI_m1, ltv, nI_z, upd_at, upd_off, upr_off, usv, upd_upd]
    · rw [if_neg h3] at e2
      subst e2
      by_cases hb : m.testBit c = true
      · simp only [if_pos hb] at ih
        rw [← ih (.int (M 41 (20 + k)))]
        simp (maxSteps := 400000) (disch := first | omega | assumption) only [e179_0, e179_1, h4, hlt, h3, ec, s129, bt_iff c hc6 m hm, hb, bI_T, z01, kv, rv, tv, lnv, lv0, clv, clr_i, clr_r, clr_n, clr_l, true_and, and_true, Option.toList_some, Option.toList_none, List.cons_append, List.nil_append, bI_0, bI_1, bI_or, ↓reduceIte, or_true, true_or, eq_self, irv, i0_add, not_true_eq_false, not_false_eq_true, Bool.false_eq_true, and_false, false_and, or_false, false_or, reduceCtorEq, nev, ngv, nc_or, in64, l64v, ite_not, ite_notP, up2_upr, upr_upr, upr_at, nI_cl, nI_ir, iav, nI_1, nI_mul6, nI_6mul, nI_lt2, nI_eq2, nI_neg, nI_m1, ltv, nI_z, upd_at, upd_off, upr_off, usv, upd_upd]
      · simp only [if_neg hb] at ih
        rw [← ih (.int (M 41 (20 + k)))]
        simp (maxSteps := 400000) (disch := first | omega | assumption) only [e179_0, e179_1, h4, hlt, h3, ec, s129, bt_iff c hc6 m hm, hb, bI_F, z01, kv, rv, tv, lnv, lv0, clv, clr_i, clr_r, clr_n, clr_l, true_and, and_true, Option.toList_some, Option.toList_none, List.cons_append, List.nil_append, bI_0, bI_1, bI_or, ↓reduceIte, or_true, true_or, eq_self, irv, i0_add, not_true_eq_false, not_false_eq_true, Bool.false_eq_true, and_false, false_and, or_false, false_or, reduceCtorEq, nev, ngv, nc_or, in64, l64v, ite_not, ite_notP, up2_upr, upr_upr, upr_at, nI_cl, nI_ir, iav, nI_1, nI_mul6, nI_6mul, nI_lt2, nI_eq2, nI_neg, nI_m1, ltv, nI_z, upd_at, upd_off, upr_off, usv, upd_upd]
theorem pair_composition (d : Nat) (x y : Int32) (M : Mem) (hI : Inv M) : PairOK (d + 4) 97 179 [.ref 0, .int x, .int y, .null] [.ref 40, .int x, .int y, .null, .null, .null, .null, .null] M := by
  intro K hK
  obtain ⟨n, nc, np, B, hY, hL, -⟩ := id hI
  obtain ⟨⟨g1, g2, g3, g4⟩, ⟨h13, h4⟩, ⟨h12, h3⟩, -, -, -, -, hC, hD, -⟩ := id hY
  obtain ⟨l1, l2, l3, ⟨l48, -⟩, -⟩ := hL
  by_cases hx : rg x 0 100
  · by_cases hy : rg y 0 1
    · have e1 := fun d Q => l66 d nc x M Q g2 h12 nc 0 (by omega)
      have e2 := fun d a b c Q => l179 d nc x y a b c M Q g2 h3 nc 0 (by omega)
      have em : mskN (fun k => wlB x (accF (M 41 (6 + k)) (M 41 (10 + k)) (M 43 48))) nc = mskN (fun k => wlB x (accF (M 16 k) (M 17 k) (M 24 3))) nc := mskN_c (fun k hk => by
        obtain ⟨c1, c2, -⟩ := hC k hk
        show wlB x (accF (M 41 (6 + k)) (M 41 (10 + k)) (M 43 48)) = wlB x (accF (M 16 k) (M 17 k) (M 24 3))
        rw [c1, c2, l48])
      have h64 := mskN_64 (fun k => wlB x (accF (M 16 k) (M 17 k) (M 24 3))) (show nc ≤ 6 by omega)
      simp only [em] at e2
      simp only [mskN, nI_0] at e1 e2
      generalize mskN (fun k => wlB x (accF (M 16 k) (M 17 k) (M 24 3))) nc = m at e1 e2 h64
      have e3 := fun d Q => l67 d n m M Q g1 h13 h64 (fun k hk => by obtain ⟨-, ⟨c, hc, e⟩, -⟩ := hD k hk; exact ⟨c, by omega, e⟩) n 0 (by omega)
      have e4 := fun d c Q => l179b d n m x y M Q g1 h4 h64 (fun k hk => by obtain ⟨e0, ⟨c, hc, e⟩, -⟩ := hD k hk; exact ⟨c, by omega, e0.trans e⟩) n 0 c (by omega)
      have ea : ∀ k, k < n → alF (M 43) (fun k => M 41 (20 + k)) k = alF (M 25) (M 19) k := fun k hk => by
        unfold alF
        show (if M 43 k = 3 then 0 else M 41 (20 + k)) = _
        rw [l1 k (by omega), (hD k hk).2.2.1]
      have et : ∀ k, k < n → thF m (M 43) (fun k => M 41 (20 + k)) (fun k => M 41 (14 + k)) k = thF m (M 25) (M 19) (M 18) k := fun k hk => by
        unfold thF
        rw [ea k hk]
        show (if m.testBit (M 41 (14 + k)).toNatClampNeg = true then _ else _) = _
        rw [(hD k hk).1]
      simp only [smF_c ea, smF_c et] at e4
      generalize smF (alF (M 25) (M 19)) n = sa at e3 e4
      generalize smF (thF m (M 25) (M 19) (M 18)) n = st at e3 e4
      simp only [smF, nI_0] at e3 e4
      have h2 : y = 0 ∨ y = 1 := by
        obtain ⟨j, hj, rfl⟩ := rg_nI (n := 1) hy
        have : j = 0 ∨ j = 1 := by omega
        rcases this with rfl | rfl
        · exact Or.inl rfl
        · exact Or.inr rfl
      rcases h2 with rfl | rfl
      · simp (maxSteps := 400000) (disch := first | omega | assumption) only [e97, e66, e67, e179_0, e179_1, s112i, rg_cls, rg_ite, i32v, iff_true_intro hx, iff_true_intro hy, bI_T, z01, e1, e2, e3, e4, kv, rv, tv, lnv, lv0, clv, clr_i, clr_r, clr_n, clr_l, true_and, and_true, Option.toList_some, Option.toList_none, List.cons_append, List.nil_append, bI_0, bI_1, bI_or, ↓reduceIte, or_true, true_or, eq_self, irv, i0_add, not_true_eq_false, not_false_eq_true, Bool.false_eq_true, and_false, false_and, or_false, false_or, reduceCtorEq, nev, ngv, nc_or, in64, l64v, ite_not, ite_notP, up2_upr, upr_upr, upr_at, nI_cl, nI_ir, iav, nI_1, nI_mul6, nI_6mul, nI_lt2, nI_eq2, nI_neg, nI_m1, ltv, nI_z, upd_at, upd_off, upr_off, usv, upd_upd]
        exact hK _ _ hI
      · by_cases hs : sa < 2 * st
        · simp (maxSteps := 400000) (disch := first | omega | assumption) only [e97, e66, e67, e179_0, e179_1, s112i, rg_cls, rg_ite, i32v, iff_true_intro hx, iff_true_intro hy, bI_T, z01, e1, e2, e3, e4, iff_true_intro hs, kv, rv, tv, lnv, lv0, clv, clr_i, clr_r, clr_n, clr_l, true_and, and_true, Option.toList_some, Option.toList_none, List.cons_append, List.nil_append, bI_0, bI_1, bI_or, ↓reduceIte, or_true, true_or, eq_self, irv, i0_add, not_true_eq_false, not_false_eq_true, Bool.false_eq_true, and_false, false_and, or_false, false_or, reduceCtorEq, nev, ngv, nc_or, in64, l64v, ite_not, ite_notP, up2_upr, upr_upr, upr_at, nI_cl, nI_ir, iav, nI_1, nI_mul6, nI_6mul, nI_lt2, nI_eq2, nI_neg, nI_m1, ltv, nI_z, upd_at, upd_off, upr_off, usv, upd_upd]
          exact hK _ _ hI
        · simp (maxSteps := 400000) (disch := first | omega | assumption) only [e97, e66, e67, e179_0, e179_1, s112i, rg_cls, rg_ite, i32v, iff_true_intro hx, iff_true_intro hy, bI_T, bI_F, z01, e1, e2, e3, e4, iff_false_intro hs, kv, rv, tv, lnv, lv0, clv, clr_i, clr_r, clr_n, clr_l, true_and, and_true, Option.toList_some, Option.toList_none, List.cons_append, List.nil_append, bI_0, bI_1, bI_or, ↓reduceIte, or_true, true_or, eq_self, irv, i0_add, not_true_eq_false, not_false_eq_true, Bool.false_eq_true, and_false, false_and, or_false, false_or, reduceCtorEq, nev, ngv, nc_or, in64, l64v, ite_not, ite_notP, up2_upr, upr_upr, upr_at, nI_cl, nI_ir, iav, nI_1, nI_mul6, nI_6mul, nI_lt2, nI_eq2, nI_neg, nI_m1, ltv, nI_z, upd_at, upd_off, upr_off, usv, upd_upd]
          exact hK _ _ hI
    · simp (maxSteps := 400000) (disch := first | omega | assumption) only [e97, e179_0, e179_1, s112i, rg_cls, rg_ite, i32v, iff_true_intro hx, iff_false_intro hy, bI_T, bI_F, z01, kv, rv, tv, lnv, lv0, clv, clr_i, clr_r, clr_n, clr_l, true_and, and_true, Option.toList_some, Option.toList_none, List.cons_append, List.nil_append, bI_0, bI_1, bI_or, ↓reduceIte, or_true, true_or, eq_self, irv, i0_add, not_true_eq_false, not_false_eq_true, Bool.false_eq_true, and_false, false_and, or_false, false_or, reduceCtorEq, nev, ngv, nc_or, in64, l64v, ite_not, ite_notP, up2_upr, upr_upr, upr_at, nI_cl, nI_ir, iav, nI_1, nI_mul6, nI_6mul, nI_lt2, nI_eq2, nI_neg, nI_m1, ltv, nI_z, upd_at, upd_off, upr_off, usv, upd_upd]
      exact hK _ _ hI
  · by_cases hy : rg y 0 1
    · simp (maxSteps := 400000) (disch := first | omega | assumption) only [e97, e179_0, e179_1, s112i, rg_cls, rg_ite, i32v, iff_false_intro hx, iff_true_intro hy, bI_T, bI_F, z01, kv, rv, tv, lnv, lv0, clv, clr_i, clr_r, clr_n, clr_l, true_and, and_true, Option.toList_some, Option.toList_none, List.cons_append, List.nil_append, bI_0, bI_1, bI_or, ↓reduceIte, or_true, true_or, eq_self, irv, i0_add, not_true_eq_false, not_false_eq_true, Bool.false_eq_true, and_false, false_and, or_false, false_or, reduceCtorEq, nev, ngv, nc_or, in64, l64v, ite_not, ite_notP, up2_upr, upr_upr, upr_at, nI_cl, nI_ir, iav, nI_1, nI_mul6, nI_6mul, nI_lt2, nI_eq2, nI_neg, nI_m1, ltv, nI_z, upd_at, upd_off, upr_off, usv, upd_upd]
      exact hK _ _ hI
    · simp (maxSteps := 400000) (disch := first | omega | assumption) only [e97, e179_0, e179_1, s112i, rg_cls, rg_ite, i32v, iff_false_intro hx, iff_false_intro hy, bI_T, bI_F, z01, kv, rv, tv, lnv, lv0, clv, clr_i, clr_r, clr_n, clr_l, true_and, and_true, Option.toList_some, Option.toList_none, List.cons_append, List.nil_append, bI_0, bI_1, bI_or, ↓reduceIte, or_true, true_or, eq_self, irv, i0_add, not_true_eq_false, not_false_eq_true, Bool.false_eq_true, and_false, false_and, or_false, false_or, reduceCtorEq, nev, ngv, nc_or, in64, l64v, ite_not, ite_notP, up2_upr, upr_upr, upr_at, nI_cl, nI_ir, iav, nI_1, nI_mul6, nI_6mul, nI_lt2, nI_eq2, nI_neg, nI_m1, ltv, nI_z, upd_at, upd_off, upr_off, usv, upd_upd]
      exact hK _ _ hI
