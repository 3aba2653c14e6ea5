/-! part 48: reading: the reference's numbers -/
theorem dg_fig {T : Nat → Int32} {c q : Nat} : (rg (sgF T c q) 48 57 → 0 < (dgF T c 240 0 q 0).1) ∧ (¬ rg (sgF T c q) 48 57 → dgF T c 240 0 q 0 = (0, q, 0)) := by
  constructor
  · intro h
    rw [dgF_S.1 h]
    have := (dgF_at (T := T) (c := c) 239 (0 + 1) (q + 1) (if 0 < 3 then 0 * 10 + sgF T c q - 48 else 0)).2.1
    omega
  · intro h
    exact dgF_n h 240 0 0
theorem rg_v {v lo hi : Int32} : rg v lo.toInt hi.toInt ↔ ¬ v < lo ∧ ¬ hi < v := by
  rw [Int32.lt_iff_toInt_lt, Int32.lt_iff_toInt_lt]
  constructor
  · intro h
    exact ⟨by have := h.1; omega, by have := h.2; omega⟩
  · intro h
    exact ⟨by have := h.1; omega, by have := h.2; omega⟩
theorem s118 (d c a pl : Nat) (lo hi : Int32) (N : Mem) (hc : c ≤ 240) (h10 : N 40 10 = nI c) (ha : a ≤ c) (h16 : N 40 16 = nI a) (hpl : pl < 50) (q n e : Nat) (v : Int32) (hq : skN (N 48) c 240 a = q) (hd : dgF (N 48) c 240 0 q 0 = (n, e, v)) : (cdF lo hi n v = 0 → ∀ Q, Wp (d + 2) 118 0 [.ref 40, .int (nI pl), .int lo, .int hi] [] N Q ↔ Q (some (.int 1)) (upr (upr N 40 (rS (N 40) (nI e) (nI q) 48 (nI n) v)) 42 (upd (N 42) pl v))) ∧ (¬ cdF lo hi n v = 0 → ∃ R, R 17 = nI q ∧ R 21 = cdF lo hi n v ∧ (∀ k, k < 16 → R k = N 40 k) ∧ ∀ Q, Wp (d + 2) 118 0 [.ref 40, .int (nI pl), .int lo, .int hi] [] N Q ↔ Q (some (.int 0)) (upr N 40 R)) := by
  have e1 := fun d Q => s114 d c a N Q hc h10 ha h16
  unfold stS at e1
  simp only [hq, hd] at e1
  have hqc := skN_le (N 48) c 240 a ha
  rw [hq] at hqc
  obtain ⟨fa, fb⟩ := dg_fig (T := N 48) (c := c) (q := q)
  have dat := dgF_at (T := N 48) (c := c) 240 0 q 0
  rw [hd] at fa fb dat
  have hk : ∀ (A B S C V X : Int32) k, k < 16 → upd (rS (N 40) A B S C V) 21 X k = N 40 k := fun A B S C V X k hk => by
    rw [pk_un (by omega)]
    unfold rS
    rw [if_neg (by omega), if_neg (by omega), if_neg (by omega), if_neg (by omega), if_neg (by omega)]
  have en : e ≤ 240 := by
    have := dat.2.2 hqc
    simp only at this
    omega
  have hn240 : n ≤ 240 := by
    have := dat.1
    simp only at this
    omega
  by_cases hs : rg (sgF (N 48) c q) 48 57
  · have hn0 : 0 < n := fa hs
    simp only [if_pos hs] at e1
    by_cases h3 : 3 < n
    · have hcd : cdF lo hi n v = 2 := by unfold cdF; rw [if_neg (by omega), if_pos (Or.inl h3)]
      refine ⟨fun z => absurd (hcd.symm.trans z) (by decide), fun _ => ⟨_, ?_, ?_, hk (nI e) (nI q) 48 (nI n) v 2, fun Q => ?_⟩⟩
      · rfl
      · rw [hcd]; rfl
      · simp (maxSteps := 400000) (disch := first | omega | assumption) only [e118, e1, rS_r, h3, s117, kv, rv, tv, lnv, lv0, clv, clr_i, clr_r, clr_n, clr_l, true_and, and_true, Option.toList_some, Option.toList_none, List.cons_append, List.nil_append, bI_0, bI_1, bI_or, ↓reduceIte, or_true, true_or, eq_self, irv, i0_add, not_true_eq_false, not_false_eq_true, Bool.false_eq_true, and_false, false_and, or_false, false_or, reduceCtorEq, nev, ngv, nc_or, in64, l64v, ite_not, ite_notP, up2_upr, upr_upr, upr_at, nI_cl, nI_ir, iav, nI_1, nI_mul6, nI_6mul, nI_lt2, nI_eq2, nI_neg, nI_m1, ltv, nI_z, upd_at, upd_off, upr_off, usv, upd_upd]
    · by_cases hr : rg v lo.toInt hi.toInt
      · have hcd : cdF lo hi n v = 0 := by
          unfold cdF
          rw [if_neg (by omega), if_neg]
          intro z
          obtain ⟨r1, r2⟩ := rg_v.mp hr
          rcases z with z | z | z
          · exact h3 z
          · exact r1 z
          · exact r2 z
        refine ⟨fun _ Q => ?_, fun z => absurd hcd z⟩
        simp (maxSteps := 400000) (disch := first | omega | assumption) only [e118, e1, rS_r, h3, s112, Int32.toInt_toInt64, iff_true_intro hr, bI_T, z01, kv, rv, tv, lnv, lv0, clv, clr_i, clr_r, clr_n, clr_l, true_and, and_true, Option.toList_some, Option.toList_none, List.cons_append, List.nil_append, bI_0, bI_1, bI_or, ↓reduceIte, or_true, true_or, eq_self, irv, i0_add, not_true_eq_false, not_false_eq_true, Bool.false_eq_true, and_false, false_and, or_false, false_or, reduceCtorEq, nev, ngv, nc_or, in64, l64v, ite_not, ite_notP, up2_upr, upr_upr, upr_at, nI_cl, nI_ir, iav, nI_1, nI_mul6, nI_6mul, nI_lt2, nI_eq2, nI_neg, nI_m1, ltv, nI_z, upd_at, upd_off, upr_off, usv, upd_upd]
      · have hcd : cdF lo hi n v = 2 := by
          unfold cdF
          rw [if_neg (by omega), if_pos]
          apply Classical.byContradiction
          intro z
          exact hr (rg_v.mpr ⟨fun w => z (Or.inr (Or.inl w)), fun w => z (Or.inr (Or.inr w))⟩)
        refine ⟨fun z => absurd (hcd.symm.trans z) (by decide), fun _ => ⟨_, ?_, ?_, hk (nI e) (nI q) 48 (nI n) v 2, fun Q => ?_⟩⟩
        · rfl
        · rw [hcd]; rfl
        · simp (maxSteps := 400000) (disch := first | omega | assumption) only [e118, e1, rS_r, h3, s112, Int32.toInt_toInt64, iff_false_intro hr, bI_F, z01, s117, kv, rv, tv, lnv, lv0, clv, clr_i, clr_r, clr_n, clr_l, true_and, and_true, Option.toList_some, Option.toList_none, List.cons_append, List.nil_append, bI_0, bI_1, bI_or, ↓reduceIte, or_true, true_or, eq_self, irv, i0_add, not_true_eq_false, not_false_eq_true, Bool.false_eq_true, and_false, false_and, or_false, false_or, reduceCtorEq, nev, ngv, nc_or, in64, l64v, ite_not, ite_notP, up2_upr, upr_upr, upr_at, nI_cl, nI_ir, iav, nI_1, nI_mul6, nI_6mul, nI_lt2, nI_eq2, nI_neg, nI_m1, ltv, nI_z, upd_at, upd_off, upr_off, usv, upd_upd]
  · have hn0 := fb hs
    have hn : n = 0 := congrArg (fun t => t.1) hn0
    simp only [if_neg hs] at e1
    have hcd : cdF lo hi n v = 1 := by unfold cdF; rw [if_pos hn]
    have h48 : ¬ sgF (N 48) c q = 48 := fun z => hs (by rw [z]; decide)
    refine ⟨fun z => absurd (hcd.symm.trans z) (by decide), fun _ => ⟨_, ?_, ?_, hk (nI (if sgF (N 48) c q < 0 then q else q + 1)) (nI q) (sgF (N 48) c q) 0 0 1, fun Q => ?_⟩⟩
    · rfl
    · rw [hcd]; rfl
    · simp (maxSteps := 400000) (disch := first | omega | assumption) only [e118, e1, rS_r, iff_false_intro h48, s117, kv, rv, tv, lnv, lv0, clv, clr_i, clr_r, clr_n, clr_l, true_and, and_true, Option.toList_some, Option.toList_none, List.cons_append, List.nil_append, bI_0, bI_1, bI_or, ↓reduceIte, or_true, true_or, eq_self, irv, i0_add, not_true_eq_false, not_false_eq_true, Bool.false_eq_true, and_false, false_and, or_false, false_or, reduceCtorEq, nev, ngv, nc_or, in64, l64v, ite_not, ite_notP, up2_upr, upr_upr, upr_at, nI_cl, nI_ir, iav, nI_1, nI_mul6, nI_6mul, nI_lt2, nI_eq2, nI_neg, nI_m1, ltv, nI_z, upd_at, upd_off, upr_off, usv, upd_upd]
theorem s119 (d c a : Nat) (N : Mem) (hc : c ≤ 240) (h10 : N 40 10 = nI c) (ha : a ≤ c) (h16 : N 40 16 = nI a) (q : Nat) (hq : skN (N 48) c 240 a = q) : (sgF (N 48) c q = 59 → ∀ Q, Wp (d + 2) 119 0 [.ref 40] [] N Q ↔ Q (some (.int 1)) (upr N 40 (rS (N 40) (nI (q + 1)) (nI q) 59 0 0))) ∧ (¬ sgF (N 48) c q = 59 → ∃ R, R 17 = nI q ∧ R 21 = 1 ∧ (∀ k, k < 16 → R k = N 40 k) ∧ ∀ Q, Wp (d + 2) 119 0 [.ref 40] [] N Q ↔ Q (some (.int 0)) (upr N 40 R)) := by
  have e1 := fun d Q => s114 d c a N Q hc h10 ha h16
  unfold stS at e1
  simp only [hq] at e1
  have hk : ∀ (A B S C V X : Int32) k, k < 16 → upd (rS (N 40) A B S C V) 21 X k = N 40 k := fun A B S C V X k hk => by
    rw [pk_un (by omega)]
    unfold rS
    rw [if_neg (by omega), if_neg (by omega), if_neg (by omega), if_neg (by omega), if_neg (by omega)]
  have z59 : ((48 : Int32) = 59 ↔ False) := iff_false_intro (by decide)
  by_cases hs : rg (sgF (N 48) c q) 48 57
  · simp only [if_pos hs] at e1
    have hne : ¬ sgF (N 48) c q = 59 := fun z => by rw [z] at hs; exact absurd hs (by decide)
    generalize dgF (N 48) c 240 0 q 0 = t at e1
    refine ⟨fun z => absurd z hne, fun _ => ⟨_, ?_, ?_, hk (nI t.2.1) (nI q) 48 (nI t.1) t.2.2 1, fun Q => ?_⟩⟩
    · rfl
    · rfl
    · simp (maxSteps := 400000) (disch := first | omega | assumption) only [e119, e1, rS_r, z59, s117, kv, rv, tv, lnv, lv0, clv, clr_i, clr_r, clr_n, clr_l, true_and, and_true, Option.toList_some, Option.toList_none, List.cons_append, List.nil_append, bI_0, bI_1, bI_or, ↓reduceIte, or_true, true_or, eq_self, irv, i0_add, not_true_eq_false, not_false_eq_true, Bool.false_eq_true, and_false, false_and, or_false, false_or, reduceCtorEq, nev, ngv, nc_or, in64, l64v, ite_not, ite_notP, up2_upr, upr_upr, upr_at, nI_cl, nI_ir, iav, nI_1, nI_mul6, nI_6mul, nI_lt2, nI_eq2, nI_neg, nI_m1, ltv, nI_z, upd_at, upd_off, upr_off, usv, upd_upd]
  · simp only [if_neg hs] at e1
    by_cases h59 : sgF (N 48) c q = 59
    · have hlt : ¬ sgF (N 48) c q < 0 := by rw [h59]; decide
      simp only [if_neg hlt] at e1
      simp only [h59] at e1
      refine ⟨fun _ Q => ?_, fun z => absurd h59 z⟩
      simp (maxSteps := 400000) (disch := first | omega | assumption) only [e119, e1, rS_r, kv, rv, tv, lnv, lv0, clv, clr_i, clr_r, clr_n, clr_l, true_and, and_true, Option.toList_some, Option.toList_none, List.cons_append, List.nil_append, bI_0, bI_1, bI_or, ↓reduceIte, or_true, true_or, eq_self, irv, i0_add, not_true_eq_false, not_false_eq_true, Bool.false_eq_true, and_false, false_and, or_false, false_or, reduceCtorEq, nev, ngv, nc_or, in64, l64v, ite_not, ite_notP, up2_upr, upr_upr, upr_at, nI_cl, nI_ir, iav, nI_1, nI_mul6, nI_6mul, nI_lt2, nI_eq2, nI_neg, nI_m1, ltv, nI_z, upd_at, upd_off, upr_off, usv, upd_upd]
    · refine ⟨fun z => absurd z h59, fun _ => ⟨_, ?_, ?_, hk (nI (if sgF (N 48) c q < 0 then q else q + 1)) (nI q) (sgF (N 48) c q) 0 0 1, fun Q => ?_⟩⟩
      · rfl
      · rfl
      · simp (maxSteps := 400000) (disch := first | omega | assumption) only [e119, e1, rS_r, iff_false_intro h59, s117, kv, rv, tv, lnv, lv0, clv, clr_i, clr_r, clr_n, clr_l, true_and, and_true, Option.toList_some, Option.toList_none, List.cons_append, List.nil_append, bI_0, bI_1, bI_or, ↓reduceIte, or_true, true_or, eq_self, irv, i0_add, not_true_eq_false, not_false_eq_true, Bool.false_eq_true, and_false, false_and, or_false, false_or, reduceCtorEq, nev, ngv, nc_or, in64, l64v, ite_not, ite_notP, up2_upr, upr_upr, upr_at, nI_cl, nI_ir, iav, nI_1, nI_mul6, nI_6mul, nI_lt2, nI_eq2, nI_neg, nI_m1, ltv, nI_z, upd_at, upd_off, upr_off, usv, upd_upd]
