/-! part 65: the law: its loop -/
theorem law_head (d i L : Nat) (M : Mem) (Q : Option Value → Mem → Prop) (h64 : M 64 0 = nI L) (hL : L ≤ 256) (hi : i + 4 ≤ L) : Wp (d + 12) 197 18 [.ref 63, .ref 0, .ref 40, .int (nI i)] [] M Q ↔ Wp (d + 12) 197 32 [.ref 63, .ref 0, .ref 40, .int (nI i)] [.int (M 63 i &&& 31)] M Q := by
  have l0 := ln63 h64 hL
  have e4 : nI L - 4 = nI (L - 4) := pk_sub (a := L) (b := 4) (by omega)
  have h : ¬ L - 4 < i := by omega
  rw [h197_18]
  simp (maxSteps := 400000) (disch := first | omega | assumption) only [e197_0.2.2.2.2.2.2.1, e197_0.2.2.2.2.2.2.2.1, e197_0.2.2.2.2.2.2.2.2.1, e197_0.2.2.2.2.2.2.2.2.2.1, e197_0.2.2.2.2.2.2.2.2.2.2.1, e197_0.2.2.2.2.2.2.2.2.2.2.2.1, e197_0.2.2.2.2.2.2.2.2.2.2.2.2.1, e197_0.2.2.2.2.2.2.2.2.2.2.2.2.2.1, e197_0.2.2.2.2.2.2.2.2.2.2.2.2.2.2.1, e197_0.2.2.2.2.2.2.2.2.2.2.2.2.2.2.2.1, r63, l0, e4, h, kv, rv, tv, lnv, lv0, clv, clr_i, clr_r, clr_n, clr_l, true_and, and_true, Option.toList_some, Option.toList_none, List.cons_append, List.nil_append, bI_0, bI_1, bI_or, ↓reduceIte, or_true, true_or, eq_self, irv, i0_add, not_true_eq_false, not_false_eq_true, Bool.false_eq_true, and_false, false_and, or_false, false_or, reduceCtorEq, nev, ngv, nc_or, in64, l64v, ite_not, ite_notP, up2_upr, upr_upr, upr_at, nI_cl, nI_ir, iav, nI_1, nI_mul6, nI_6mul, nI_lt2, nI_eq2, nI_neg, nI_m1, ltv, nI_z, upd_at, upd_off, upr_off, usv, upd_upd]
theorem law_out (d i L : Nat) (M : Mem) (Q : Option Value → Mem → Prop) (h64 : M 64 0 = nI L) (hL : L ≤ 256) (hi : L < i + 4) (hi2 : i ≤ 1000) : Wp (d + 12) 197 18 [.ref 63, .ref 0, .ref 40, .int (nI i)] [] M Q ↔ Q (some (.int 1)) M := by
  have l0 := ln63 h64 hL
  have h : nI L - 4 < nI i ↔ True := by
    refine iff_true_intro ?_
    by_cases h4 : 4 ≤ L
    · rw [show nI L - 4 = nI (L - 4) from pk_sub (a := L) (b := 4) h4, nI_lt2 (by omega) (by omega)]
      omega
    · have : L = 0 ∨ L = 1 ∨ L = 2 ∨ L = 3 := by omega
      have hn : nI L - 4 < 0 := by
        rcases this with rfl | rfl | rfl | rfl <;> decide
      rw [Int32.lt_iff_toInt_lt] at hn ⊢
      have := (rg_of (k := i) (lo := 0) (hi := 1000) (by omega)).mpr ⟨by omega, by omega⟩
      have e : (0 : Int32).toInt = 0 := by decide
      rw [e] at hn
      omega
  rw [h197_18]
  simp (maxSteps := 400000) (disch := first | omega | assumption) only [e197_0, e197_11, r63, l0, h, kv, rv, tv, lnv, lv0, clv, clr_i, clr_r, clr_n, clr_l, true_and, and_true, Option.toList_some, Option.toList_none, List.cons_append, List.nil_append, bI_0, bI_1, bI_or, ↓reduceIte, or_true, true_or, eq_self, irv, i0_add, not_true_eq_false, not_false_eq_true, Bool.false_eq_true, and_false, false_and, or_false, false_or, reduceCtorEq, nev, ngv, nc_or, in64, l64v, ite_not, ite_notP, up2_upr, upr_upr, upr_at, nI_cl, nI_ir, iav, nI_1, nI_mul6, nI_6mul, nI_lt2, nI_eq2, nI_neg, nI_m1, ltv, nI_z, upd_at, upd_off, upr_off, usv, upd_upd]
theorem law_step (d i L : Nat) (M : Mem) (hI : Inv M) (h64 : M 64 0 = nI L) (hL : L ≤ 256) (hi : i + 4 ≤ L) : LawS d i M 18 := by
  suffices h : ∃ M2, Inv M2 ∧ (∀ t, 60 ≤ t → M2 t = M t) ∧ ∀ Q, Wp (d + 12) 197 32 [.ref 63, .ref 0, .ref 40, .int (nI i)] [.int (M 63 i &&& 31)] M Q ↔ Wp (d + 12) 197 18 [.ref 63, .ref 0, .ref 40, .int (nI (i + 4))] [] M2 Q by
    obtain ⟨M2, x1, x2, x3⟩ := h
    exact ⟨M2, x1, x2, fun Q => (law_head d i L M Q h64 hL hi).trans (x3 Q)⟩
  have row := fun Q => e197_0.2.2.2.2.2.2.2.2.2.2.2.2.2.2.2.2.1 (d + 12) (M 63 i &&& 31) [.ref 63, .ref 0, .ref 40, .int (nI i)] M Q
  generalize M 63 i &&& 31 = a at row ⊢
  by_cases h0 : a = 0
  · obtain ⟨M2, x1, x2, x3⟩ := law_feed d i L M hI h64 hL hi
    refine ⟨M2, x1, x2, fun Q => (row Q).trans (Iff.trans ?_ (x3 Q))⟩
    rw [if_pos h0]
  by_cases h1 : a = 1
  · obtain ⟨M2, x1, x2, x3⟩ := law_yard d i L M hI h64 hL hi
    refine ⟨M2, x1, x2, fun Q => (row Q).trans (Iff.trans ?_ (x3 Q))⟩
    rw [if_neg h0, if_pos h1]
  by_cases h2 : a = 2
  · obtain ⟨M2, x1, x2, x3⟩ := law_fault d i L M hI h64 hL hi
    refine ⟨M2, x1, x2, fun Q => (row Q).trans (Iff.trans ?_ (x3 Q))⟩
    rw [if_neg h0, if_neg h1, if_pos h2]
  by_cases h3 : a = 3
  · obtain ⟨M2, x1, x2, x3⟩ := law_told d i L M hI h64 hL hi
    refine ⟨M2, x1, x2, fun Q => (row Q).trans (Iff.trans ?_ (x3 Q))⟩
    rw [if_neg h0, if_neg h1, if_neg h2, if_pos h3]
  by_cases h4 : a = 4
  · obtain ⟨M2, x1, x2, x3⟩ := law_accepts d i L M hI h64 hL hi
    refine ⟨M2, x1, x2, fun Q => (row Q).trans (Iff.trans ?_ (x3 Q))⟩
    rw [if_neg h0, if_neg h1, if_neg h2, if_neg h3, if_pos h4]
  by_cases h5 : a = 5
  · obtain ⟨M2, x1, x2, x3⟩ := law_debtor d i L M hI h64 hL hi
    refine ⟨M2, x1, x2, fun Q => (row Q).trans (Iff.trans ?_ (x3 Q))⟩
    rw [if_neg h0, if_neg h1, if_neg h2, if_neg h3, if_neg h4, if_pos h5]
  by_cases h6 : a = 6
  · obtain ⟨M2, x1, x2, x3⟩ := law_owes d i L M hI h64 hL hi
    refine ⟨M2, x1, x2, fun Q => (row Q).trans (Iff.trans ?_ (x3 Q))⟩
    rw [if_neg h0, if_neg h1, if_neg h2, if_neg h3, if_neg h4, if_neg h5, if_pos h6]
  by_cases h7 : a = 7
  · obtain ⟨M2, x1, x2, x3⟩ := law_place d i L M hI h64 hL hi
    refine ⟨M2, x1, x2, fun Q => (row Q).trans (Iff.trans ?_ (x3 Q))⟩
    rw [if_neg h0, if_neg h1, if_neg h2, if_neg h3, if_neg h4, if_neg h5, if_neg h6, if_pos h7]
  by_cases h8 : a = 8
  · obtain ⟨M2, x1, x2, x3⟩ := law_week d i L M hI h64 hL hi
    refine ⟨M2, x1, x2, fun Q => (row Q).trans (Iff.trans ?_ (x3 Q))⟩
    rw [if_neg h0, if_neg h1, if_neg h2, if_neg h3, if_neg h4, if_neg h5, if_neg h6, if_neg h7, if_pos h8]
  by_cases h9 : a = 9
  · obtain ⟨M2, x1, x2, x3⟩ := law_goIn d i L M hI h64 hL hi
    refine ⟨M2, x1, x2, fun Q => (row Q).trans (Iff.trans ?_ (x3 Q))⟩
    rw [if_neg h0, if_neg h1, if_neg h2, if_neg h3, if_neg h4, if_neg h5, if_neg h6, if_neg h7, if_neg h8, if_pos h9]
  by_cases h10 : a = 10
  · obtain ⟨M2, x1, x2, x3⟩ := law_goOut d i L M hI h64 hL hi
    refine ⟨M2, x1, x2, fun Q => (row Q).trans (Iff.trans ?_ (x3 Q))⟩
    rw [if_neg h0, if_neg h1, if_neg h2, if_neg h3, if_neg h4, if_neg h5, if_neg h6, if_neg h7, if_neg h8, if_neg h9, if_pos h10]
  by_cases h11 : a = 11
  · obtain ⟨M2, x1, x2, x3⟩ := law_settle d i L M hI h64 hL hi
    refine ⟨M2, x1, x2, fun Q => (row Q).trans (Iff.trans ?_ (x3 Q))⟩
    rw [if_neg h0, if_neg h1, if_neg h2, if_neg h3, if_neg h4, if_neg h5, if_neg h6, if_neg h7, if_neg h8, if_neg h9, if_neg h10, if_pos h11]
  by_cases h12 : a = 12
  · obtain ⟨M2, x1, x2, x3⟩ := law_lend d i L M hI h64 hL hi
    refine ⟨M2, x1, x2, fun Q => (row Q).trans (Iff.trans ?_ (x3 Q))⟩
    rw [if_neg h0, if_neg h1, if_neg h2, if_neg h3, if_neg h4, if_neg h5, if_neg h6, if_neg h7, if_neg h8, if_neg h9, if_neg h10, if_neg h11, if_pos h12]
  by_cases h13 : a = 13
  · obtain ⟨M2, x1, x2, x3⟩ := law_sue d i L M hI h64 hL hi
    refine ⟨M2, x1, x2, fun Q => (row Q).trans (Iff.trans ?_ (x3 Q))⟩
    rw [if_neg h0, if_neg h1, if_neg h2, if_neg h3, if_neg h4, if_neg h5, if_neg h6, if_neg h7, if_neg h8, if_neg h9, if_neg h10, if_neg h11, if_neg h12, if_pos h13]
  by_cases h14 : a = 14
  · obtain ⟨M2, x1, x2, x3⟩ := law_drift d i L M hI h64 hL hi
    refine ⟨M2, x1, x2, fun Q => (row Q).trans (Iff.trans ?_ (x3 Q))⟩
    rw [if_neg h0, if_neg h1, if_neg h2, if_neg h3, if_neg h4, if_neg h5, if_neg h6, if_neg h7, if_neg h8, if_neg h9, if_neg h10, if_neg h11, if_neg h12, if_neg h13, if_pos h14]
  by_cases h15 : a = 15
  · obtain ⟨M2, x1, x2, x3⟩ := law_undo d i L M hI h64 hL hi
    refine ⟨M2, x1, x2, fun Q => (row Q).trans (Iff.trans ?_ (x3 Q))⟩
    rw [if_neg h0, if_neg h1, if_neg h2, if_neg h3, if_neg h4, if_neg h5, if_neg h6, if_neg h7, if_neg h8, if_neg h9, if_neg h10, if_neg h11, if_neg h12, if_neg h13, if_neg h14, if_pos h15]
  by_cases h16 : a = 16
  · obtain ⟨M2, x1, x2, x3⟩ := law_soon d i L M hI h64 hL hi
    refine ⟨M2, x1, x2, fun Q => (row Q).trans (Iff.trans ?_ (x3 Q))⟩
    rw [if_neg h0, if_neg h1, if_neg h2, if_neg h3, if_neg h4, if_neg h5, if_neg h6, if_neg h7, if_neg h8, if_neg h9, if_neg h10, if_neg h11, if_neg h12, if_neg h13, if_neg h14, if_neg h15, if_pos h16]
  by_cases h17 : a = 17
  · obtain ⟨M2, x1, x2, x3⟩ := law_cheapest d i L M hI h64 hL hi
    refine ⟨M2, x1, x2, fun Q => (row Q).trans (Iff.trans ?_ (x3 Q))⟩
    rw [if_neg h0, if_neg h1, if_neg h2, if_neg h3, if_neg h4, if_neg h5, if_neg h6, if_neg h7, if_neg h8, if_neg h9, if_neg h10, if_neg h11, if_neg h12, if_neg h13, if_neg h14, if_neg h15, if_neg h16, if_pos h17]
  by_cases h18 : a = 18
  · obtain ⟨M2, x1, x2, x3⟩ := law_outing d i L M hI h64 hL hi
    refine ⟨M2, x1, x2, fun Q => (row Q).trans (Iff.trans ?_ (x3 Q))⟩
    rw [if_neg h0, if_neg h1, if_neg h2, if_neg h3, if_neg h4, if_neg h5, if_neg h6, if_neg h7, if_neg h8, if_neg h9, if_neg h10, if_neg h11, if_neg h12, if_neg h13, if_neg h14, if_neg h15, if_neg h16, if_neg h17, if_pos h18]
  by_cases h19 : a = 19
  · obtain ⟨M2, x1, x2, x3⟩ := law_composition d i L M hI h64 hL hi
    refine ⟨M2, x1, x2, fun Q => (row Q).trans (Iff.trans ?_ (x3 Q))⟩
    rw [if_neg h0, if_neg h1, if_neg h2, if_neg h3, if_neg h4, if_neg h5, if_neg h6, if_neg h7, if_neg h8, if_neg h9, if_neg h10, if_neg h11, if_neg h12, if_neg h13, if_neg h14, if_neg h15, if_neg h16, if_neg h17, if_neg h18, if_pos h19]
  by_cases h20 : a = 20
  · obtain ⟨M2, x1, x2, x3⟩ := law_year d i L M hI h64 hL hi
    refine ⟨M2, x1, x2, fun Q => (row Q).trans (Iff.trans ?_ (x3 Q))⟩
    rw [if_neg h0, if_neg h1, if_neg h2, if_neg h3, if_neg h4, if_neg h5, if_neg h6, if_neg h7, if_neg h8, if_neg h9, if_neg h10, if_neg h11, if_neg h12, if_neg h13, if_neg h14, if_neg h15, if_neg h16, if_neg h17, if_neg h18, if_neg h19, if_pos h20]
  by_cases h21 : a = 21
  · obtain ⟨M2, x1, x2, x3⟩ := law_chain d i L M hI h64 hL hi
    refine ⟨M2, x1, x2, fun Q => (row Q).trans (Iff.trans ?_ (x3 Q))⟩
    rw [if_neg h0, if_neg h1, if_neg h2, if_neg h3, if_neg h4, if_neg h5, if_neg h6, if_neg h7, if_neg h8, if_neg h9, if_neg h10, if_neg h11, if_neg h12, if_neg h13, if_neg h14, if_neg h15, if_neg h16, if_neg h17, if_neg h18, if_neg h19, if_neg h20, if_pos h21]
  by_cases h22 : a = 22
  · obtain ⟨M2, x1, x2, x3⟩ := law_quiet d i L M hI h64 hL hi
    refine ⟨M2, x1, x2, fun Q => (row Q).trans (Iff.trans ?_ (x3 Q))⟩
    rw [if_neg h0, if_neg h1, if_neg h2, if_neg h3, if_neg h4, if_neg h5, if_neg h6, if_neg h7, if_neg h8, if_neg h9, if_neg h10, if_neg h11, if_neg h12, if_neg h13, if_neg h14, if_neg h15, if_neg h16, if_neg h17, if_neg h18, if_neg h19, if_neg h20, if_neg h21, if_pos h22]
  by_cases h23 : a = 23
  · obtain ⟨M2, x1, x2, x3⟩ := law_hat d i L M hI h64 hL hi
    refine ⟨M2, x1, x2, fun Q => (row Q).trans (Iff.trans ?_ (x3 Q))⟩
    rw [if_neg h0, if_neg h1, if_neg h2, if_neg h3, if_neg h4, if_neg h5, if_neg h6, if_neg h7, if_neg h8, if_neg h9, if_neg h10, if_neg h11, if_neg h12, if_neg h13, if_neg h14, if_neg h15, if_neg h16, if_neg h17, if_neg h18, if_neg h19, if_neg h20, if_neg h21, if_neg h22, if_pos h23]
  by_cases h24 : a = 24
  · obtain ⟨M2, x1, x2, x3⟩ := law_over d i L M hI h64 hL hi
    refine ⟨M2, x1, x2, fun Q => (row Q).trans (Iff.trans ?_ (x3 Q))⟩
    rw [if_neg h0, if_neg h1, if_neg h2, if_neg h3, if_neg h4, if_neg h5, if_neg h6, if_neg h7, if_neg h8, if_neg h9, if_neg h10, if_neg h11, if_neg h12, if_neg h13, if_neg h14, if_neg h15, if_neg h16, if_neg h17, if_neg h18, if_neg h19, if_neg h20, if_neg h21, if_neg h22, if_neg h23, if_pos h24]
  by_cases h25 : a = 25
  · obtain ⟨M2, x1, x2, x3⟩ := law_look d i L M hI h64 hL hi
    refine ⟨M2, x1, x2, fun Q => (row Q).trans (Iff.trans ?_ (x3 Q))⟩
    rw [if_neg h0, if_neg h1, if_neg h2, if_neg h3, if_neg h4, if_neg h5, if_neg h6, if_neg h7, if_neg h8, if_neg h9, if_neg h10, if_neg h11, if_neg h12, if_neg h13, if_neg h14, if_neg h15, if_neg h16, if_neg h17, if_neg h18, if_neg h19, if_neg h20, if_neg h21, if_neg h22, if_neg h23, if_neg h24, if_pos h25]
  by_cases h26 : a = 26
  · obtain ⟨M2, x1, x2, x3⟩ := law_write d i L M hI h64 hL hi
    refine ⟨M2, x1, x2, fun Q => (row Q).trans (Iff.trans ?_ (x3 Q))⟩
    rw [if_neg h0, if_neg h1, if_neg h2, if_neg h3, if_neg h4, if_neg h5, if_neg h6, if_neg h7, if_neg h8, if_neg h9, if_neg h10, if_neg h11, if_neg h12, if_neg h13, if_neg h14, if_neg h15, if_neg h16, if_neg h17, if_neg h18, if_neg h19, if_neg h20, if_neg h21, if_neg h22, if_neg h23, if_neg h24, if_neg h25, if_pos h26]
  by_cases h27 : a = 27
  · obtain ⟨M2, x1, x2, x3⟩ := law_tear d i L M hI h64 hL hi
    refine ⟨M2, x1, x2, fun Q => (row Q).trans (Iff.trans ?_ (x3 Q))⟩
    rw [if_neg h0, if_neg h1, if_neg h2, if_neg h3, if_neg h4, if_neg h5, if_neg h6, if_neg h7, if_neg h8, if_neg h9, if_neg h10, if_neg h11, if_neg h12, if_neg h13, if_neg h14, if_neg h15, if_neg h16, if_neg h17, if_neg h18, if_neg h19, if_neg h20, if_neg h21, if_neg h22, if_neg h23, if_neg h24, if_neg h25, if_neg h26, if_pos h27]
  by_cases h28 : a = 28
  · obtain ⟨M2, x1, x2, x3⟩ := law_judge d i L M hI h64 hL hi
    refine ⟨M2, x1, x2, fun Q => (row Q).trans (Iff.trans ?_ (x3 Q))⟩
    rw [if_neg h0, if_neg h1, if_neg h2, if_neg h3, if_neg h4, if_neg h5, if_neg h6, if_neg h7, if_neg h8, if_neg h9, if_neg h10, if_neg h11, if_neg h12, if_neg h13, if_neg h14, if_neg h15, if_neg h16, if_neg h17, if_neg h18, if_neg h19, if_neg h20, if_neg h21, if_neg h22, if_neg h23, if_neg h24, if_neg h25, if_neg h26, if_neg h27, if_pos h28]
  by_cases h29 : a = 29
  · obtain ⟨M2, x1, x2, x3⟩ := law_seed d i L M hI h64 hL hi
    refine ⟨M2, x1, x2, fun Q => (row Q).trans (Iff.trans ?_ (x3 Q))⟩
    rw [if_neg h0, if_neg h1, if_neg h2, if_neg h3, if_neg h4, if_neg h5, if_neg h6, if_neg h7, if_neg h8, if_neg h9, if_neg h10, if_neg h11, if_neg h12, if_neg h13, if_neg h14, if_neg h15, if_neg h16, if_neg h17, if_neg h18, if_neg h19, if_neg h20, if_neg h21, if_neg h22, if_neg h23, if_neg h24, if_neg h25, if_neg h26, if_neg h27, if_neg h28, if_pos h29]
  by_cases h30 : a = 30
  · obtain ⟨M2, x1, x2, x3⟩ := law_keep d i L M hI h64 hL hi
    refine ⟨M2, x1, x2, fun Q => (row Q).trans (Iff.trans ?_ (x3 Q))⟩
    rw [if_neg h0, if_neg h1, if_neg h2, if_neg h3, if_neg h4, if_neg h5, if_neg h6, if_neg h7, if_neg h8, if_neg h9, if_neg h10, if_neg h11, if_neg h12, if_neg h13, if_neg h14, if_neg h15, if_neg h16, if_neg h17, if_neg h18, if_neg h19, if_neg h20, if_neg h21, if_neg h22, if_neg h23, if_neg h24, if_neg h25, if_neg h26, if_neg h27, if_neg h28, if_neg h29, if_pos h30]
  by_cases h31 : a = 31
  · obtain ⟨M2, x1, x2, x3⟩ := law_goBack d i L M hI h64 hL hi
    refine ⟨M2, x1, x2, fun Q => (row Q).trans (Iff.trans ?_ (x3 Q))⟩
    rw [if_neg h0, if_neg h1, if_neg h2, if_neg h3, if_neg h4, if_neg h5, if_neg h6, if_neg h7, if_neg h8, if_neg h9, if_neg h10, if_neg h11, if_neg h12, if_neg h13, if_neg h14, if_neg h15, if_neg h16, if_neg h17, if_neg h18, if_neg h19, if_neg h20, if_neg h21, if_neg h22, if_neg h23, if_neg h24, if_neg h25, if_neg h26, if_neg h27, if_neg h28, if_neg h29, if_neg h30, if_pos h31]
  refine ⟨M, hI, fun _ _ => rfl, fun Q => (row Q).trans ?_⟩
  rw [if_neg h0, if_neg h1, if_neg h2, if_neg h3, if_neg h4, if_neg h5, if_neg h6, if_neg h7, if_neg h8, if_neg h9, if_neg h10, if_neg h11, if_neg h12, if_neg h13, if_neg h14, if_neg h15, if_neg h16, if_neg h17, if_neg h18, if_neg h19, if_neg h20, if_neg h21, if_neg h22, if_neg h23, if_neg h24, if_neg h25, if_neg h26, if_neg h27, if_neg h28, if_neg h29, if_neg h30, if_neg h31]
  have a4 : nI i + 4 = nI (i + 4) := nI_add i 4
  simp (maxSteps := 400000) (disch := first | omega | assumption) only [e197_10, e197_11, a4, kv, rv, tv, lnv, lv0, clv, clr_i, clr_r, clr_n, clr_l, true_and, and_true, Option.toList_some, Option.toList_none, List.cons_append, List.nil_append, bI_0, bI_1, bI_or, ↓reduceIte, or_true, true_or, eq_self, irv, i0_add, not_true_eq_false, not_false_eq_true, Bool.false_eq_true, and_false, false_and, or_false, false_or, reduceCtorEq, nev, ngv, nc_or, in64, l64v, ite_not, ite_notP, up2_upr, upr_upr, upr_at, nI_cl, nI_ir, iav, nI_1, nI_mul6, nI_6mul, nI_lt2, nI_eq2, nI_neg, nI_m1, ltv, nI_z, upd_at, upd_off, upr_off, usv, upd_upd]
theorem law_all (d L : Nat) (hL : L ≤ 256) : ∀ f i M, L ≤ i + f → i ≤ 600 → Inv M → M 64 0 = nI L → ∃ M2, (∀ t, 60 ≤ t → M2 t = M t) ∧ ∀ Q, Wp (d + 12) 197 18 [.ref 63, .ref 0, .ref 40, .int (nI i)] [] M Q ↔ Q (some (.int 1)) M2 := by
  intro f
  induction f with
  | zero =>
    intro i M hf hi hI h64
    exact ⟨M, fun _ _ => rfl, fun Q => law_out d i L M Q h64 hL (by omega) (by omega)⟩
  | succ f ih =>
    intro i M hf hi hI h64
    by_cases h : i + 4 ≤ L
    · obtain ⟨M2, x1, x2, x3⟩ := law_step d i L M hI h64 hL h
      obtain ⟨M3, y1, y2⟩ := ih (i + 4) M2 (by omega) (by omega) x1 (by rw [x2 64 (by omega)]; exact h64)
      exact ⟨M3, fun t ht => (y1 t ht).trans (x2 t ht), fun Q => (x3 Q).trans (y2 Q)⟩
    · exact ⟨M, fun _ _ => rfl, fun Q => law_out d i L M Q h64 hL (by omega) (by omega)⟩
