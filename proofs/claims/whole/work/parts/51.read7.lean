/-! part 51: reading: the program's numbers of a clause -/
noncomputable def nmF (T : Nat → Int32) (c : Nat) (lo hi : Nat → Int32) : Nat → Nat → Nat → (Nat → Int32) → Int32 × Nat × Nat × (Nat → Int32)
  | 0, _, a, r => (0, 0, a, r)
  | j + 1, i, a, r => if cdF (lo i) (hi i) (dgF T c 240 0 (skN T c 240 a) 0).1 (dgF T c 240 0 (skN T c 240 a) 0).2.2 = 0 then nmF T c lo hi j (i + 1) (dgF T c 240 0 (skN T c 240 a) 0).2.1 (upd r i (dgF T c 240 0 (skN T c 240 a) 0).2.2) else (cdF (lo i) (hi i) (dgF T c 240 0 (skN T c 240 a) 0).1 (dgF T c 240 0 (skN T c 240 a) 0).2.2, skN T c 240 a, (dgF T c 240 0 (skN T c 240 a) 0).2.1, upd r i (dgF T c 240 0 (skN T c 240 a) 0).2.2)
theorem dg_e {T : Nat → Int32} {c a : Nat} (ha : a ≤ c) : (dgF T c 240 0 (skN T c 240 a) 0).2.1 ≤ c := (dgF_at (T := T) (c := c) 240 0 (skN T c 240 a) 0).2.2 (skN_le T c 240 a ha)
theorem l37 (d c kd K : Nat) (lo hi : Nat → Int32) (M : Mem) (Q : Option Value → Mem → Prop) (hc : c ≤ 240) (h1 : M 1 1 = nI c) (hkd : kd < 4) (hK : K ≤ 3) (h60 : M 60 kd = nI K) (hlo : ∀ i, i < K → M 61 (kd * 3 + i) = lo i) (hhi : ∀ i, i < K → (if kd = 2 ∧ i = 0 then M 5 12 - 1 else M 62 (kd * 3 + i)) = hi i) (hf : M 3 2 = 0) : ∀ j i a r x y, i + j = K → a ≤ c → (Wp (d + 3) 37 16 [.ref 3, .ref 1, .int (nI kd), .ref 5, .int (nI i), x, y] [] (upr (upr M 3 (upd (M 3) 1 (nI a))) 4 r) Q ↔ Q none (upr (upr M 3 (r3F (M 3) (nmF (M 2) c lo hi j i a r).2.2.1 (nmF (M 2) c lo hi j i a r).1 (nmF (M 2) c lo hi j i a r).2.1)) 4 (nmF (M 2) c lo hi j i a r).2.2.2))
  | 0, i, a, r, x, y, hi2, ha => by
    obtain rfl : i = K := hi2
    rw [h37_16, nmF]
    unfold r3F
    simp (maxSteps := 400000) (disch := first | omega | assumption) only [e37_0, e37_1, usy, h60, Nat.lt_irrefl, kv, rv, tv, lnv, lv0, clv, clr_i, clr_r, clr_n, clr_l, true_and, and_true, Option.toList_some, Option.toList_none, List.cons_append, List.nil_append, bI_0, bI_1, bI_or, ↓reduceIte, or_true, true_or, eq_self, irv, i0_add, not_true_eq_false, not_false_eq_true, Bool.false_eq_true, and_false, false_and, or_false, false_or, reduceCtorEq, nev, ngv, nc_or, in64, l64v, ite_not, ite_notP, up2_upr, upr_upr, upr_at, nI_cl, nI_ir, iav, nI_1, nI_mul6, nI_6mul, nI_lt2, nI_eq2, nI_neg, nI_m1, ltv, nI_z, upd_at, upd_off, upr_off, usv, upd_upd]
  | j + 1, i, a, r, x, y, hi2, ha => by
    have hlt : i < K := by omega
    have hi3 : i < 3 := by omega
    have h12 : kd * 3 + i < 12 := by omega
    have e1 : nI (kd * 3) + nI i = nI (kd * 3 + i) := nI_add _ _
    have e3 : nI kd * 3 = nI (kd * 3) := pk_mul kd 3
    have el := hlo i hlt
    have eh := hhi i hlt
    have e38 := fun d lo hi Q => s38 d c a lo hi (upr (upr M 3 (upd (M 3) 1 (nI a))) 4 r) Q hc h1 ha rfl
    have ex := dg_e (T := M 2) ha
    rw [show (upr (upr M 3 (upd (M 3) 1 (nI a))) 4 r) 2 = M 2 from rfl] at e38
    rw [nmF]
    generalize hq : skN (M 2) c 240 a = q at e38 ex ⊢
    generalize ht : dgF (M 2) c 240 0 q 0 = t at e38 ex ⊢
    obtain ⟨n, e, v⟩ := t
    simp only at e38 ex ⊢
    have e12 : nI (kd * 3 + i) < 12 ↔ True := iff_true_intro ((nI_lt2 (by omega) (by omega : 12 < 2147483648)).mpr h12)
    have e38' := fun d Q => e38 d (lo i) (hi i) Q
    by_cases hcd : cdF (lo i) (hi i) n v = 0
    · rw [if_pos hcd]
      simp only [hcd] at e38'
      have e5 : ∀ f : Nat → Int32, r3F f e 0 q = upd f 1 (nI e) := fun f => if_pos rfl
      simp only [e5] at e38'
      clear e38
      by_cases hsp : kd = 2 ∧ i = 0
      · rw [if_pos hsp] at eh
        obtain ⟨rfl, rfl⟩ := hsp
        refine Iff.trans ?_ (l37 d c 2 K lo hi M Q hc h1 hkd hK h60 hlo hhi hf j (0 + 1) e (upd r 0 v) (.int (nI (2 * 3 + 0))) (.int 1) (by omega) ex)
        rw [h37_16]
        simp (maxSteps := 400000) (disch := first | omega | assumption) only [e37_0, e37_1, usy, h60, hlt, hi3, h12, hf, e3, e1, e12, el, eh, e38', hcd, z01, kv, rv, tv, lnv, lv0, clv, clr_i, clr_r, clr_n, clr_l, true_and, and_true, Option.toList_some, Option.toList_none, List.cons_append, List.nil_append, bI_0, bI_1, bI_or, ↓reduceIte, or_true, true_or, eq_self, irv, i0_add, not_true_eq_false, not_false_eq_true, Bool.false_eq_true, and_false, false_and, or_false, false_or, reduceCtorEq, nev, ngv, nc_or, in64, l64v, ite_not, ite_notP, up2_upr, upr_upr, upr_at, nI_cl, nI_ir, iav, nI_1, nI_mul6, nI_6mul, nI_lt2, nI_eq2, nI_neg, nI_m1, ltv, nI_z, upd_at, upd_off, upr_off, usv, upd_upd]
      · rw [if_neg hsp] at eh
        refine Iff.trans ?_ (l37 d c kd K lo hi M Q hc h1 hkd hK h60 hlo hhi hf j (i + 1) e (upd r i v) (.int (nI (kd * 3 + i))) (.int 0) (by omega) ex)
        rw [h37_16]
        by_cases h2 : kd = 2
        · have h0 : ¬ i = 0 := fun z => hsp ⟨h2, z⟩
          simp (maxSteps := 400000) (disch := first | omega | assumption) only [e37_0, e37_1, usy, h60, hlt, hi3, h12, hf, e3, e1, e12, el, eh, e38', hcd, z01, iff_true_intro h2, h0, kv, rv, tv, lnv, lv0, clv, clr_i, clr_r, clr_n, clr_l, true_and, and_true, Option.toList_some, Option.toList_none, List.cons_append, List.nil_append, bI_0, bI_1, bI_or, ↓reduceIte, or_true, true_or, eq_self, irv, i0_add, not_true_eq_false, not_false_eq_true, Bool.false_eq_true, and_false, false_and, or_false, false_or, reduceCtorEq, nev, ngv, nc_or, in64, l64v, ite_not, ite_notP, up2_upr, upr_upr, upr_at, nI_cl, nI_ir, iav, nI_1, nI_mul6, nI_6mul, nI_lt2, nI_eq2, nI_neg, nI_m1, ltv, nI_z, upd_at, upd_off, upr_off, usv, upd_upd]
        · simp (maxSteps := 400000) (disch := first | omega | assumption) only [e37_0, e37_1, usy, h60, hlt, hi3, h12, hf, e3, e1, e12, el, eh, e38', hcd, z01, iff_false_intro h2, kv, rv, tv, lnv, lv0, clv, clr_i, clr_r, clr_n, clr_l, true_and, and_true, Option.toList_some, Option.toList_none, List.cons_append, List.nil_append, bI_0, bI_1, bI_or, ↓reduceIte, or_true, true_or, eq_self, irv, i0_add, not_true_eq_false, not_false_eq_true, Bool.false_eq_true, and_false, false_and, or_false, false_or, reduceCtorEq, nev, ngv, nc_or, in64, l64v, ite_not, ite_notP, up2_upr, upr_upr, upr_at, nI_cl, nI_ir, iav, nI_1, nI_mul6, nI_6mul, nI_lt2, nI_eq2, nI_neg, nI_m1, ltv, nI_z, upd_at, upd_off, upr_off, usv, upd_upd]
    · rw [if_neg hcd]
      have e5 : ∀ f : Nat → Int32, r3F f e (cdF (lo i) (hi i) n v) q = upd (upd (upd f 1 (nI e)) 2 (cdF (lo i) (hi i) n v)) 3 (nI q) := fun f => if_neg hcd
      simp only [e5] at e38' ⊢
      generalize cdF (lo i) (hi i) n v = cd at hcd e38' ⊢
      clear e38 e5
      have fin : ∀ x y, Wp (d + 3) 37 16 [.ref 3, .ref 1, .int (nI kd), .ref 5, .int (nI (i + 1)), x, y] [] (upr (upr M 3 (upd (upd (upd (M 3) 1 (nI e)) 2 cd) 3 (nI q))) 4 (upd r i v)) Q ↔ Q none (upr (upr M 3 (upd (upd (upd (M 3) 1 (nI e)) 2 cd) 3 (nI q))) 4 (upd r i v)) := fun x y => by
        rw [h37_16]
        by_cases hl2 : i + 1 < K
        · have hl3 : i + 1 < 3 := by omega
          simp (maxSteps := 400000) (disch := first | omega | assumption) only [e37_0, e37_1, usy, h60, hl2, hl3, iff_false_intro hcd, kv, rv, tv, lnv, lv0, clv, clr_i, clr_r, clr_n, clr_l, true_and, and_true, Option.toList_some, Option.toList_none, List.cons_append, List.nil_append, bI_0, bI_1, bI_or, ↓reduceIte, or_true, true_or, eq_self, irv, i0_add, not_true_eq_false, not_false_eq_true, Bool.false_eq_true, and_false, false_and, or_false, false_or, reduceCtorEq, nev, ngv, nc_or, in64, l64v, ite_not, ite_notP, up2_upr, upr_upr, upr_at, nI_cl, nI_ir, iav, nI_1, nI_mul6, nI_6mul, nI_lt2, nI_eq2, nI_neg, nI_m1, ltv, nI_z, upd_at, upd_off, upr_off, usv, upd_upd]
        · simp (maxSteps := 400000) (disch := first | omega | assumption) only [e37_0, e37_1, usy, h60, hl2, kv, rv, tv, lnv, lv0, clv, clr_i, clr_r, clr_n, clr_l, true_and, and_true, Option.toList_some, Option.toList_none, List.cons_append, List.nil_append, bI_0, bI_1, bI_or, ↓reduceIte, or_true, true_or, eq_self, irv, i0_add, not_true_eq_false, not_false_eq_true, Bool.false_eq_true, and_false, false_and, or_false, false_or, reduceCtorEq, nev, ngv, nc_or, in64, l64v, ite_not, ite_notP, up2_upr, upr_upr, upr_at, nI_cl, nI_ir, iav, nI_1, nI_mul6, nI_6mul, nI_lt2, nI_eq2, nI_neg, nI_m1, ltv, nI_z, upd_at, upd_off, upr_off, usv, upd_upd]
      by_cases hsp : kd = 2 ∧ i = 0
      · rw [if_pos hsp] at eh
        obtain ⟨rfl, rfl⟩ := hsp
        rw [← fin (.int (nI (2 * 3 + 0))) (.int 1), h37_16]
        simp (maxSteps := 400000) (disch := first | omega | assumption) only [e37_0, e37_1, usy, h60, hlt, hi3, h12, hf, e3, e1, e12, el, eh, e38', z01, kv, rv, tv, lnv, lv0, clv, clr_i, clr_r, clr_n, clr_l, true_and, and_true, Option.toList_some, Option.toList_none, List.cons_append, List.nil_append, bI_0, bI_1, bI_or, ↓reduceIte, or_true, true_or, eq_self, irv, i0_add, not_true_eq_false, not_false_eq_true, Bool.false_eq_true, and_false, false_and, or_false, false_or, reduceCtorEq, nev, ngv, nc_or, in64, l64v, ite_not, ite_notP, up2_upr, upr_upr, upr_at, nI_cl, nI_ir, iav, nI_1, nI_mul6, nI_6mul, nI_lt2, nI_eq2, nI_neg, nI_m1, ltv, nI_z, upd_at, upd_off, upr_off, usv, upd_upd]
      · rw [if_neg hsp] at eh
        rw [← fin (.int (nI (kd * 3 + i))) (.int 0), h37_16]
        by_cases h2 : kd = 2
        · have h0 : ¬ i = 0 := fun z => hsp ⟨h2, z⟩
          simp (maxSteps := 400000) (disch := first | omega | assumption) only [e37_0, e37_1, usy, h60, hlt, hi3, h12, hf, e3, e1, e12, el, eh, e38', z01, iff_true_intro h2, h0, kv, rv, tv, lnv, lv0, clv, clr_i, clr_r, clr_n, clr_l, true_and, and_true, Option.toList_some, Option.toList_none, List.cons_append, List.nil_append, bI_0, bI_1, bI_or, ↓reduceIte, or_true, true_or, eq_self, irv, i0_add, not_true_eq_false, not_false_eq_true, Bool.false_eq_true, and_false, false_and, or_false, false_or, reduceCtorEq, nev, ngv, nc_or, in64, l64v, ite_not, ite_notP, up2_upr, upr_upr, upr_at, nI_cl, nI_ir, iav, nI_1, nI_mul6, nI_6mul, nI_lt2, nI_eq2, nI_neg, nI_m1, ltv, nI_z, upd_at, upd_off, upr_off, usv, upd_upd]
        · simp (maxSteps := 400000) (disch := first | omega | assumption) only [e37_0, e37_1, usy, h60, hlt, hi3, h12, hf, e3, e1, e12, el, eh, e38', z01, iff_false_intro h2, kv, rv, tv, lnv, lv0, clv, clr_i, clr_r, clr_n, clr_l, true_and, and_true, Option.toList_some, Option.toList_none, List.cons_append, List.nil_append, bI_0, bI_1, bI_or, ↓reduceIte, or_true, true_or, eq_self, irv, i0_add, not_true_eq_false, not_false_eq_true, Bool.false_eq_true, and_false, false_and, or_false, false_or, reduceCtorEq, nev, ngv, nc_or, in64, l64v, ite_not, ite_notP, up2_upr, upr_upr, upr_at, nI_cl, nI_ir, iav, nI_1, nI_mul6, nI_6mul, nI_lt2, nI_eq2, nI_neg, nI_m1, ltv, nI_z, upd_at, upd_off, upr_off, usv, upd_upd]
