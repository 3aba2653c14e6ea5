/-! part 39: drift, the call -/
theorem drl_all (d n nc np B m : Nat) (hm : m ≤ 60) : ∀ j i w M, i + j = m → w + j ≤ 9060 → Gd n nc np B w M → ∃ a b c e f x g, Stw n (w + j) M a b c e f x g ∧ (∀ N, agC N M → ∀ Q, Wp (d + 7) 88 28 [.ref 0, .int (nI m), .int 0, .int (nI i)] [] N Q ↔ Q (some (.int (b 4))) (uC N a b c e f)) ∧ (∀ N, agM N M → ∀ Q, Wp (d + 7) 165 18 [.ref 40, .int (nI m), .int 0, .int (nI i)] [] N Q ↔ Q (some (.int (b 4))) (uM N x g))
  | 0, i, w, M, hi, hw, hG => by
    obtain rfl : i = m := hi
    obtain ⟨hY, hL, h3, hs⟩ := id hG
    refine ⟨M 0, M 24, M 25, M 26, M 28, M 40, M 43, ⟨hL, h3, hs, fun _ _ => rfl, fun _ _ => rfl⟩, fun N hN Q => ?_, fun N hN Q => ?_⟩
    · rw [uC_id hN, h88_28]
      have e : N 24 4 = M 24 4 := by rw [hN 24 (by omega)]
      simp (maxSteps := 400000) (disch := first | omega | assumption) only [e88, Nat.lt_irrefl, e, kv, rv, tv, lnv, lv0, clv, clr_i, clr_r, clr_n, clr_l, true_and, and_true, Option.toList_some, Option.toList_none, List.cons_append, List.nil_append, bI_0, bI_1, bI_or, ↓reduceIte, or_true, true_or, eq_self, irv, i0_add, not_true_eq_false, not_false_eq_true, Bool.false_eq_true, and_false, false_and, or_false, false_or, reduceCtorEq, nev, ngv, nc_or, in64, l64v, ite_not, ite_notP, up2_upr, upr_upr, upr_at, nI_cl, nI_ir, iav, nI_1, nI_mul6, nI_6mul, nI_lt2, nI_eq2, nI_neg, nI_m1, ltv, nI_z, upd_at, upd_off, upr_off, usv, upd_upd]
    · rw [uM_id hN, h165_18]
      have e : N 43 49 = M 24 4 := by rw [hN 43 (by omega), hL.2.2.2.1.2.1]
      simp (maxSteps := 400000) (disch := first | omega | assumption) only [e165, Nat.lt_irrefl, e, kv, rv, tv, lnv, lv0, clv, clr_i, clr_r, clr_n, clr_l, true_and, and_true, Option.toList_some, Option.toList_none, List.cons_append, List.nil_append, bI_0, bI_1, bI_or, ↓reduceIte, or_true, true_or, eq_self, irv, i0_add, not_true_eq_false, not_false_eq_true, Bool.false_eq_true, and_false, false_and, or_false, false_or, reduceCtorEq, nev, ngv, nc_or, in64, l64v, ite_not, ite_notP, up2_upr, upr_upr, upr_at, nI_cl, nI_ir, iav, nI_1, nI_mul6, nI_6mul, nI_lt2, nI_eq2, nI_neg, nI_m1, ltv, nI_z, upd_at, upd_off, upr_off, usv, upd_upd]
  | j + 1, i, w, M, hi, hw, hG => by
    obtain ⟨hY, hL, h3, hs⟩ := id hG
    obtain ⟨⟨g1, g2, g3, g4⟩, ⟨h13, h4⟩, -, -, ⟨h11, h2⟩, -⟩ := id hY
    have hlt : i < m := by omega
    by_cases hn0 : 0 < n
    · obtain ⟨a1, c1, e1, f1, x1, y1, hA, hcA, hmA⟩ := act_S d n nc np B w M hn0 hG
      have hG1 := Gd_u hG hA
      have hS := wk_S (show w < 9060 by omega) hG1
      have hcW := fun N hN Q => wk_C (d + 2) n B N (uM (uC M a1 (M 24) c1 e1 f1) x1 y1) Q hN g1 h13 g4 h11
      have hmW := fun N hN Q => wk_M (d + 3) n B N (uM (uC M a1 (M 24) c1 e1 f1) x1 y1) Q hN g1 h4 g4 h2
      have hG2 := Gd_u hG1 hS
      obtain ⟨a, b, c, e, f, x, g, hs2, hc, hm2⟩ := drl_all d n nc np B m hm j (i + 1) (w + 1) _ (by omega) (by omega) hG2
      refine ⟨a, b, c, e, f, x, g, by rw [show w + (j + 1) = w + 1 + j by omega]; exact Stp_t hA (Stp_t hS hs2), fun N hN Q => ?_, fun N hN Q => ?_⟩
      · have := hc _ (agC_u (agC_u hN)) Q
        have t2 := hcW _ (agC_u hN)
        simp only [uC_uC] at this t2
        have e13 : N 15 13 = nI n := by rw [hN 15 (by omega)]; exact h13
        rw [← this, h88_28]
        simp (maxSteps := 400000) (disch := first | omega | assumption) only [e88, hlt, e13, hn0, hcA N hN, t2, kv, rv, tv, lnv, lv0, clv, clr_i, clr_r, clr_n, clr_l, true_and, and_true, Option.toList_some, Option.toList_none, List.cons_append, List.nil_append, bI_0, bI_1, bI_or, ↓reduceIte, or_true, true_or, eq_self, irv, i0_add, not_true_eq_false, not_false_eq_true, Bool.false_eq_true, and_false, false_and, or_false, false_or, reduceCtorEq, nev, ngv, nc_or, in64, l64v, ite_not, ite_notP, up2_upr, upr_upr, upr_at, nI_cl, nI_ir, iav, nI_1, nI_mul6, nI_6mul, nI_lt2, nI_eq2, nI_neg, nI_m1, ltv, nI_z, upd_at, upd_off, upr_off, usv, upd_upd]
      · have := hm2 _ (agM_u (agM_u hN)) Q
        have t2 := hmW _ (agM_u hN)
        simp only [uM_uM] at this t2
        have e4 : N 41 4 = nI n := by rw [hN 41 (by omega)]; exact h4
        rw [← this, h165_18]
        simp (maxSteps := 400000) (disch := first | omega | assumption) only [e165, hlt, e4, hn0, hmA N hN, t2, kv, rv, tv, lnv, lv0, clv, clr_i, clr_r, clr_n, clr_l, true_and, and_true, Option.toList_some, Option.toList_none, List.cons_append, List.nil_append, bI_0, bI_1, bI_or, ↓reduceIte, or_true, true_or, eq_self, irv, i0_add, not_true_eq_false, not_false_eq_true, Bool.false_eq_true, and_false, false_and, or_false, false_or, reduceCtorEq, nev, ngv, nc_or, in64, l64v, ite_not, ite_notP, up2_upr, upr_upr, upr_at, nI_cl, nI_ir, iav, nI_1, nI_mul6, nI_6mul, nI_lt2, nI_eq2, nI_neg, nI_m1, ltv, nI_z, upd_at, upd_off, upr_off, usv, upd_upd]
    · have hS := wk_S (show w < 9060 by omega) hG
      obtain ⟨a, b, c, e, f, x, g, hs2, hc, hm2⟩ := drl_all d n nc np B m hm j (i + 1) (w + 1) _ (by omega) (by omega) (Gd_u hG hS)
      refine ⟨a, b, c, e, f, x, g, by rw [show w + (j + 1) = w + 1 + j by omega]; exact Stp_t hS hs2, fun N hN Q => ?_, fun N hN Q => ?_⟩
      · have := hc _ (agC_u hN) Q
        rw [uC_uC] at this
        have e13 : N 15 13 = nI n := by rw [hN 15 (by omega)]; exact h13
        rw [← this, h88_28]
        simp (maxSteps := 400000) (disch := first | omega | assumption) only [e88, hlt, e13, hn0, wk_C _ n B N M _ hN g1 h13 g4 h11, kv, rv, tv, lnv, lv0, clv, clr_i, clr_r, clr_n, clr_l, true_and, and_true, Option.toList_some, Option.toList_none, List.cons_append, List.nil_append, bI_0, bI_1, bI_or, ↓reduceIte, or_true, true_or, eq_self, irv, i0_add, not_true_eq_false, not_false_eq_true, Bool.false_eq_true, and_false, false_and, or_false, false_or, reduceCtorEq, nev, ngv, nc_or, in64, l64v, ite_not, ite_notP, up2_upr, upr_upr, upr_at, nI_cl, nI_ir, iav, nI_1, nI_mul6, nI_6mul, nI_lt2, nI_eq2, nI_neg, nI_m1, ltv, nI_z, upd_at, upd_off, upr_off, usv, upd_upd]
      · have := hm2 _ (agM_u hN) Q
        rw [uM_uM] at this
        have e4 : N 41 4 = nI n := by rw [hN 41 (by omega)]; exact h4
        rw [← this, h165_18]
        simp (maxSteps := 400000) (disch := first | omega | assumption) only [e165, hlt, e4, hn0, wk_M _ n B N M _ hN g1 h4 g4 h2, kv, rv, tv, lnv, lv0, clv, clr_i, clr_r, clr_n, clr_l, true_and, and_true, Option.toList_some, Option.toList_none, List.cons_append, List.nil_append, bI_0, bI_1, bI_or, ↓reduceIte, or_true, true_or, eq_self, irv, i0_add, not_true_eq_false, not_false_eq_true, Bool.false_eq_true, and_false, false_and, or_false, false_or, reduceCtorEq, nev, ngv, nc_or, in64, l64v, ite_not, ite_notP, up2_upr, upr_upr, upr_at, nI_cl, nI_ir, iav, nI_1, nI_mul6, nI_6mul, nI_lt2, nI_eq2, nI_neg, nI_m1, ltv, nI_z, upd_at, upd_off, upr_off, usv, upd_upd]
theorem pair_drift (d : Nat) (x : Int32) (M : Mem) (hI : Inv M) : PairOK (d + 7) 88 165 [.ref 0, .int x, .null, .null] [.ref 40, .int x, .null, .null] M := by
  intro K hK
  obtain ⟨n, nc, np, B, hY, hL, ⟨px, u, hx16, hu, p1, p2, p5, hq⟩, h0, h1, hT, hH, hB, hS, hSt⟩ := id hI
  have l48 := hL.2.2.2.1.1
  have er := refuse_eq (x := x) hY l48
  by_cases hr : (if rg x 1 60 then (if M 15 8 = 0 then (-1000000003 : Int32) else if 9000 < M 24 3 then -1000000004 else 0) else -1000000002) = 0
  · have hx : rg x 1 60 := by
      apply Classical.byContradiction
      intro z
      rw [if_neg z] at hr
      exact absurd hr (by decide)
    rw [if_pos hx] at hr
    have h8 : ¬ M 15 8 = 0 := by
      intro z
      rw [if_pos z] at hr
      exact absurd hr (by decide)
    rw [if_neg h8] at hr
    have h9 : ¬ 9000 < M 24 3 := by
      intro z
      rw [if_pos z] at hr
      exact absurd hr (by decide)
    obtain ⟨w, aa, hw, -, lw, -⟩ := hL.2.2.2.2.2.2.2.2.1
    have hw9 : w ≤ 9000 := by
      rw [lw, show (9000 : Int32) = nI 9000 from rfl, nI_lt2 (by omega) (by omega)] at h9
      omega
    obtain ⟨m, hm, rfl⟩ := rg_nI (n := 60) (x := x) ⟨by have := hx.1; omega, hx.2⟩
    have hG : Gd n nc np B w (upr (upr (upr (upr M 30 (upd (upd (M 30) 1 (nI ((px + 1) % 16))) 2 (nI (up1 u)))) 31 (pkF (M 24) (M 25) (M 26) (M 28) (M 31) (px * 51))) 40 (upd (M 40) 5 (nI (up1 u)))) 45 (psQ (M 43) (M 45) u)) := by
      refine ⟨?_, ?_, lw, hS.1⟩
      · rw [YR_upr (by omega), YR_upr (by omega), YR_upr (by omega), YR_upr (by omega)]; exact hY
      · rw [LM_upr (by omega), LM_upr (by omega), LM_upr (by omega), LM_upr (by omega)]; exact hL
    obtain ⟨a, b, c, e, f, xx, g, hs, hc, hmo⟩ := drl_all d n nc np B m hm m 0 w _ (by omega) (by omega) hG
    have hfin := Inv_w ⟨hY, h0, h1, hT, hH, hB, hS, hSt⟩ hL hx16 hu hq hs
    have m1 : M 41 1 = 0 ↔ False := by
      obtain ⟨-, -, -, -, -, -, ⟨q1, -, q8, -⟩, -⟩ := hY
      rw [q1, ← q8]
      exact iff_false_intro h8
    have m9 : 9000 < M 43 48 ↔ False := by rw [l48]; exact iff_false_intro h9
    simp (maxSteps := 400000) (disch := first | omega | assumption) only [e88, s82, iff_true_intro hx, iff_false_intro h8, iff_false_intro h9, s29p _ px u M _ hx16 hu p1 p2, kv, rv, tv, lnv, lv0, clv, clr_i, clr_r, clr_n, clr_l, true_and, and_true, Option.toList_some, Option.toList_none, List.cons_append, List.nil_append, bI_0, bI_1, bI_or, ↓reduceIte, or_true, true_or, eq_self, irv, i0_add, not_true_eq_false, not_false_eq_true, Bool.false_eq_true, and_false, false_and, or_false, false_or, reduceCtorEq, nev, ngv, nc_or, in64, l64v, ite_not, ite_notP, up2_upr, upr_upr, upr_at, nI_cl, nI_ir, iav, nI_1, nI_mul6, nI_6mul, nI_lt2, nI_eq2, nI_neg, nI_m1, ltv, nI_z, upd_at, upd_off, upr_off, usv, upd_upd]
    refine (hc _ (fun r hr => by simp only [upr_r]; rw [if_neg (show ¬ r = 45 by omega), if_neg (show ¬ r = 40 by omega)]) _).mpr ?_
    simp (maxSteps := 400000) (disch := first | omega | assumption) only [e165, s147, uC_off, iff_true_intro hx, m1, m9, kv, rv, tv, lnv, lv0, clv, clr_i, clr_r, clr_n, clr_l, true_and, and_true, Option.toList_some, Option.toList_none, List.cons_append, List.nil_append, bI_0, bI_1, bI_or, ↓reduceIte, or_true, true_or, eq_self, irv, i0_add, not_true_eq_false, not_false_eq_true, Bool.false_eq_true, and_false, false_and, or_false, false_or, reduceCtorEq, nev, ngv, nc_or, in64, l64v, ite_not, ite_notP, up2_upr, upr_upr, upr_at, nI_cl, nI_ir, iav, nI_1, nI_mul6, nI_6mul, nI_lt2, nI_eq2, nI_neg, nI_m1, ltv, nI_z, upd_at, upd_off, upr_off, usv, upd_upd]
    refine (s148p (d + 5) u _ _ hu (by rw [uC_off (by omega)]; exact p5)).mpr ?_
    simp (maxSteps := 400000) (disch := first | omega | assumption) only [e165, uC_off, kv, rv, tv, lnv, lv0, clv, clr_i, clr_r, clr_n, clr_l, true_and, and_true, Option.toList_some, Option.toList_none, List.cons_append, List.nil_append, bI_0, bI_1, bI_or, ↓reduceIte, or_true, true_or, eq_self, irv, i0_add, not_true_eq_false, not_false_eq_true, Bool.false_eq_true, and_false, false_and, or_false, false_or, reduceCtorEq, nev, ngv, nc_or, in64, l64v, ite_not, ite_notP, up2_upr, upr_upr, upr_at, nI_cl, nI_ir, iav, nI_1, nI_mul6, nI_6mul, nI_lt2, nI_eq2, nI_neg, nI_m1, ltv, nI_z, upd_at, upd_off, upr_off, usv, upd_upd]
    refine (hmo _ (fun r hr => ?_) _).mpr ?_
    · simp only [upr_r]
      by_cases h45 : r = 45
      · simp only [if_pos h45]
      · by_cases h40 : r = 40
        · simp only [if_neg h45, if_pos h40]
        · simp only [if_neg h45, if_neg h40]
          rw [uC_off (by omega)]
          rfl
    · exact hK _ _ hfin
  · have e82 := fun d Q => s82 d x M Q
    generalize (if rg x 1 60 then (if M 15 8 = 0 then (-1000000003 : Int32) else if 9000 < M 24 3 then -1000000004 else 0) else -1000000002) = v at hr er e82
    have e147 : ∀ d Q, Wp (d + 1) 147 0 [.ref 40, .int x] [] M Q ↔ Q (some (.int v)) M := fun d Q => by rw [s147, er]
    simp (maxSteps := 400000) (disch := first | omega | assumption) only [e88, e165, e82, e147, iff_false_intro hr, kv, rv, tv, lnv, lv0, clv, clr_i, clr_r, clr_n, clr_l, true_and, and_true, Option.toList_some, Option.toList_none, List.cons_append, List.nil_append, bI_0, bI_1, bI_or, ↓reduceIte, or_true, true_or, eq_self, irv, i0_add, not_true_eq_false, not_false_eq_true, Bool.false_eq_true, and_false, false_and, or_false, false_or, reduceCtorEq, nev, ngv, nc_or, in64, l64v, ite_not, ite_notP, up2_upr, upr_upr, upr_at, nI_cl, nI_ir, iav, nI_1, nI_mul6, nI_6mul, nI_lt2, nI_eq2, nI_neg, nI_m1, ltv, nI_z, upd_at, upd_off, upr_off, usv, upd_upd]
    exact hK _ _ hI
