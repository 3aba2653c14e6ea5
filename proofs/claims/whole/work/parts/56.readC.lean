/-! part 56: reading: the reference: the yard itself -/

theorem s116y (d c a nc : Nat) (T : Nat → Int32) (N : Mem) (r4 : Nat → Int32) (h : RM N T c a) (hsg : N 40 18 = 121) (hro : N 42 1 = 0) : (∀ cd p e r, nmF T c (loK 0) (hiK nc 0) (KK 0) 0 a r4 = (cd, p, e, r) → ¬ cd = 0 → ∃ R r42, R 17 = nI p ∧ R 21 = cd ∧ (∀ k, k < 16 → R k = N 40 k) ∧ ∀ Q, Wp (d + 3) 116 0 [.ref 40] [] N Q ↔ Q (some (.int 0)) (upr (upr N 40 R) 42 r42)) ∧ (∀ p e r, nmF T c (loK 0) (hiK nc 0) (KK 0) 0 a r4 = (0, p, e, r) → ¬ sgF T c (skN T c 240 e) = 59 → ∃ R r42, R 17 = nI (skN T c 240 e) ∧ R 21 = 1 ∧ (∀ k, k < 16 → R k = N 40 k) ∧ ∀ Q, Wp (d + 3) 116 0 [.ref 40] [] N Q ↔ Q (some (.int 0)) (upr (upr N 40 R) 42 r42)) ∧ (∀ p e r, nmF T c (loK 0) (hiK nc 0) (KK 0) 0 a r4 = (0, p, e, r) → sgF T c (skN T c 240 e) = 59 → ∃ R, RM (upr (upr N 40 R) 42 (upd (upd (upd (N 42) 0 (r 0)) 1 (r 1)) 2 (r 2))) T c (skN T c 240 e + 1) ∧ (∀ k, k < 16 → R k = N 40 k) ∧ ∀ Q, Wp (d + 3) 116 0 [.ref 40] [] N Q ↔ Q (some (.int 1)) (upr (upr N 40 R) 42 (upd (upd (upd (N 42) 0 (r 0)) 1 (r 1)) 2 (r 2)))) := by
  have hK : KK 0 = 3 := rfl
  rw [hK]
  have h0 : RM N T c a := h
  obtain ⟨k0, f0⟩ := n118 d c a 0 (loK 0 0) (hiK nc 0 0) T N h0 (by omega)
  generalize hq0 : skN T c 240 a = q0 at k0 f0
  generalize hd0 : dgF T c 240 0 q0 0 = t0 at k0 f0
  obtain ⟨n0, e0, v0⟩ := t0
  simp only at k0 f0
  by_cases c0 : cdF (loK 0 0) (hiK nc 0 0) n0 v0 = 0
  rotate_left
  · obtain ⟨R, r1, r2, r3, rw⟩ := f0 c0
    have en : nmF T c (loK 0) (hiK nc 0) 3 0 a r4 = (cdF (loK 0 0) (hiK nc 0 0) n0 v0, q0, e0, (upd r4 0 v0)) := by
      rw [nmF, hq0, hd0, if_neg c0]
    rw [en]
    refine ⟨fun cd p e r hR hcd => ?_, fun p e r hR => absurd (congrArg (fun z => z.1) hR) c0, fun p e r hR => absurd (congrArg (fun z => z.1) hR) c0⟩
    cases hR
    refine ⟨R, N 42, r1, r2, r3, fun Q => ?_⟩
    have eR : ∀ Q, Wp (d + 2) 118 0 [.ref 40, .int 0, .int 0, .int 99] [] N Q ↔ Q (some (.int 0)) (upr (upr N 40 R) 42 (N 42)) := fun Q => by
      refine (rw Q).trans ?_
      rw [upr_e (k := 42) (M := upr N 40 R) (f := N 42) rfl]
    simp (maxSteps := 400000) (disch := first | omega | assumption) only [e116_0, e116_1, hsg, hro, usz, ilt, eR, z01, kv, rv, tv, lnv, lv0, clv, clr_i, clr_r, clr_n, clr_l, true_and, and_true, Option.toList_some, Option.toList_none, List.cons_append, List.nil_append, bI_0, bI_1, bI_or, ↓reduceIte, or_true, true_or, eq_self, irv, i0_add, not_true_eq_false, not_false_eq_true, Bool.false_eq_true, and_false, false_and, or_false, false_or, reduceCtorEq, nev, ngv, nc_or, in64, l64v, ite_not, ite_notP, up2_upr, upr_upr, upr_at, nI_cl, nI_ir, iav, nI_1, nI_mul6, nI_6mul, nI_lt2, nI_eq2, nI_neg, nI_m1, ltv, nI_z, upd_at, upd_off, upr_off, usv, upd_upd]
  obtain ⟨R0, h10, m00, w0⟩ := k0 c0
  have m0 : ∀ k, k < 16 → R0 k = N 40 k := fun k hk => m00 k hk
  have g0 : ∀ Q, Wp (d + 2) 118 0 [.ref 40, .int 0, .int 0, .int 99] [] N Q ↔ Q (some (.int 1)) (upr (upr N 40 R0) 42 (upd (N 42) 0 v0)) := fun Q => by
    refine (w0 Q).trans ?_
    (simp only [usz, upr_upr]) <;> exact Iff.rfl
  have h1 : RM (upr (upr N 40 R0) 42 (upd (N 42) 0 v0)) T c e0 := by
    obtain ⟨x1, x2, x3, x4, x5⟩ := h10
    exact ⟨x1, x2, x3, x4, x5⟩
  obtain ⟨k1, f1⟩ := n118 d c e0 1 (loK 0 1) (hiK nc 0 1) T (upr (upr N 40 R0) 42 (upd (N 42) 0 v0)) h1 (by omega)
  generalize hq1 : skN T c 240 e0 = q1 at k1 f1
  generalize hd1 : dgF T c 240 0 q1 0 = t1 at k1 f1
  obtain ⟨n1, e1, v1⟩ := t1
  simp only at k1 f1
  by_cases c1 : cdF (loK 0 1) (hiK nc 0 1) n1 v1 = 0
  rotate_left
  · obtain ⟨R, r1, r2, r3, rw⟩ := f1 c1
    have en : nmF T c (loK 0) (hiK nc 0) 3 0 a r4 = (cdF (loK 0 1) (hiK nc 0 1) n1 v1, q1, e1, (upd (upd r4 0 v0) 1 v1)) := by
      rw [nmF, hq0, hd0, if_pos c0, nmF, hq1, hd1, if_neg c1]
    rw [en]
    refine ⟨fun cd p e r hR hcd => ?_, fun p e r hR => absurd (congrArg (fun z => z.1) hR) c1, fun p e r hR => absurd (congrArg (fun z => z.1) hR) c1⟩
    cases hR
    refine ⟨R, upd (N 42) 0 v0, r1, r2, fun k hk => (r3 k hk).trans (m0 k hk), fun Q => ?_⟩
    have eR : ∀ Q, Wp (d + 2) 118 0 [.ref 40, .int 1, .int 1, .int 6] [] (upr (upr N 40 R0) 42 (upd (N 42) 0 v0)) Q ↔ Q (some (.int 0)) (upr (upr N 40 R) 42 (upd (N 42) 0 v0)) := fun Q => by
      refine (rw Q).trans ?_
      simp only [usz, upr_upr]
    simp (maxSteps := 400000) (disch := first | omega | assumption) only [e116_0, e116_1, hsg, hro, usz, ilt, g0, eR, z01, kv, rv, tv, lnv, lv0, clv, clr_i, clr_r, clr_n, clr_l, true_and, and_true, Option.toList_some, Option.toList_none, List.cons_append, List.nil_append, bI_0, bI_1, bI_or, ↓reduceIte, or_true, true_or, eq_self, irv, i0_add, not_true_eq_false, not_false_eq_true, Bool.false_eq_true, and_false, false_and, or_false, false_or, reduceCtorEq, nev, ngv, nc_or, in64, l64v, ite_not, ite_notP, up2_upr, upr_upr, upr_at, nI_cl, nI_ir, iav, nI_1, nI_mul6, nI_6mul, nI_lt2, nI_eq2, nI_neg, nI_m1, ltv, nI_z, upd_at, upd_off, upr_off, usv, upd_upd]
  obtain ⟨R1, h20, m10, w1⟩ := k1 c1
  have m1 : ∀ k, k < 16 → R1 k = N 40 k := fun k hk => (m10 k hk).trans (m0 k hk)
  have g1 : ∀ Q, Wp (d + 2) 118 0 [.ref 40, .int 1, .int 1, .int 6] [] (upr (upr N 40 R0) 42 (upd (N 42) 0 v0)) Q ↔ Q (some (.int 1)) (upr (upr N 40 R1) 42 (upd (upd (N 42) 0 v0) 1 v1)) := fun Q => by
    refine (w1 Q).trans ?_
    (simp only [usz, upr_upr]) <;> exact Iff.rfl
  have h2 : RM (upr (upr N 40 R1) 42 (upd (upd (N 42) 0 v0) 1 v1)) T c e1 := by
    obtain ⟨x1, x2, x3, x4, x5⟩ := h20
    exact ⟨x1, x2, x3, x4, x5⟩
  obtain ⟨k2, f2⟩ := n118 d c e1 2 (loK 0 2) (hiK nc 0 2) T (upr (upr N 40 R1) 42 (upd (upd (N 42) 0 v0) 1 v1)) h2 (by omega)
  generalize hq2 : skN T c 240 e1 = q2 at k2 f2
  generalize hd2 : dgF T c 240 0 q2 0 = t2 at k2 f2
  obtain ⟨n2, e2, v2⟩ := t2
  simp only at k2 f2
  by_cases c2 : cdF (loK 0 2) (hiK nc 0 2) n2 v2 = 0
  rotate_left
  · obtain ⟨R, r1, r2, r3, rw⟩ := f2 c2
    have en : nmF T c (loK 0) (hiK nc 0) 3 0 a r4 = (cdF (loK 0 2) (hiK nc 0 2) n2 v2, q2, e2, (upd (upd (upd r4 0 v0) 1 v1) 2 v2)) := by
      rw [nmF, hq0, hd0, if_pos c0, nmF, hq1, hd1, if_pos c1, nmF, hq2, hd2, if_neg c2]
    rw [en]
    refine ⟨fun cd p e r hR hcd => ?_, fun p e r hR => absurd (congrArg (fun z => z.1) hR) c2, fun p e r hR => absurd (congrArg (fun z => z.1) hR) c2⟩
    cases hR
    refine ⟨R, upd (upd (N 42) 0 v0) 1 v1, r1, r2, fun k hk => (r3 k hk).trans (m1 k hk), fun Q => ?_⟩
    have eR : ∀ Q, Wp (d + 2) 118 0 [.ref 40, .int 2, .int 0, .int 6] [] (upr (upr N 40 R1) 42 (upd (upd (N 42) 0 v0) 1 v1)) Q ↔ Q (some (.int 0)) (upr (upr N 40 R) 42 (upd (upd (N 42) 0 v0) 1 v1)) := fun Q => by
      refine (rw Q).trans ?_
      simp only [usz, upr_upr]
    simp (maxSteps := 400000) (disch := first | omega | assumption) only [e116_0, e116_1, hsg, hro, usz, ilt, g0, g1, eR, z01, kv, rv, tv, lnv, lv0, clv, clr_i, clr_r, clr_n, clr_l, true_and, and_true, Option.toList_some, Option.toList_none, List.cons_append, List.nil_append, bI_0, bI_1, bI_or, ↓reduceIte, or_true, true_or, eq_self, irv, i0_add, not_true_eq_false, not_false_eq_true, Bool.false_eq_true, and_false, false_and, or_false, false_or, reduceCtorEq, nev, ngv, nc_or, in64, l64v, ite_not, ite_notP, up2_upr, upr_upr, upr_at, nI_cl, nI_ir, iav, nI_1, nI_mul6, nI_6mul, nI_lt2, nI_eq2, nI_neg, nI_m1, ltv, nI_z, upd_at, upd_off, upr_off, usv, upd_upd]
  obtain ⟨R2, h30, m20, w2⟩ := k2 c2
  have m2 : ∀ k, k < 16 → R2 k = N 40 k := fun k hk => (m20 k hk).trans (m1 k hk)
  have g2 : ∀ Q, Wp (d + 2) 118 0 [.ref 40, .int 2, .int 0, .int 6] [] (upr (upr N 40 R1) 42 (upd (upd (N 42) 0 v0) 1 v1)) Q ↔ Q (some (.int 1)) (upr (upr N 40 R2) 42 (upd (upd (upd (N 42) 0 v0) 1 v1) 2 v2)) := fun Q => by
    refine (w2 Q).trans ?_
    (simp only [usz, upr_upr]) <;> exact Iff.rfl
  have h3 : RM (upr (upr N 40 R2) 42 (upd (upd (upd (N 42) 0 v0) 1 v1) 2 v2)) T c e2 := by
    obtain ⟨x1, x2, x3, x4, x5⟩ := h30
    exact ⟨x1, x2, x3, x4, x5⟩
  have en : nmF T c (loK 0) (hiK nc 0) 3 0 a r4 = (0, 0, e2, (upd (upd (upd r4 0 v0) 1 v1) 2 v2)) := by
    rw [nmF, hq0, hd0, if_pos c0, nmF, hq1, hd1, if_pos c1, nmF, hq2, hd2, if_pos c2, nmF]
  rw [en]
  obtain ⟨k, f⟩ := n119 d c e2 T (upr (upr N 40 R2) 42 (upd (upd (upd (N 42) 0 v0) 1 v1) 2 v2)) h3
  refine ⟨fun cd p e r hR hcd => absurd (congrArg (fun z => z.1) hR).symm hcd, fun p e r hR hne => ?_, fun p e r hR heq => ?_⟩
  · cases hR
    obtain ⟨R, r1, r2, r3, rw⟩ := f hne
    refine ⟨R, upd (upd (upd (N 42) 0 v0) 1 v1) 2 v2, r1, r2, fun k hk => (r3 k hk).trans (m2 k hk), fun Q => ?_⟩
    have eR : ∀ Q, Wp (d + 2) 119 0 [.ref 40] [] (upr (upr N 40 R2) 42 (upd (upd (upd (N 42) 0 v0) 1 v1) 2 v2)) Q ↔ Q (some (.int 0)) (upr (upr N 40 R) 42 (upd (upd (upd (N 42) 0 v0) 1 v1) 2 v2)) := fun Q => by
      refine (rw Q).trans ?_
      simp only [usz, upr_upr]
    simp (maxSteps := 400000) (disch := first | omega | assumption) only [e116_0, e116_1, hsg, hro, usz, ilt, g0, g1, g2, eR, z01, kv, rv, tv, lnv, lv0, clv, clr_i, clr_r, clr_n, clr_l, true_and, and_true, Option.toList_some, Option.toList_none, List.cons_append, List.nil_append, bI_0, bI_1, bI_or, ↓reduceIte, or_true, true_or, eq_self, irv, i0_add, not_true_eq_false, not_false_eq_true, Bool.false_eq_true, and_false, false_and, or_false, false_or, reduceCtorEq, nev, ngv, nc_or, in64, l64v, ite_not, ite_notP, up2_upr, upr_upr, upr_at, nI_cl, nI_ir, iav, nI_1, nI_mul6, nI_6mul, nI_lt2, nI_eq2, nI_neg, nI_m1, ltv, nI_z, upd_at, upd_off, upr_off, usv, upd_upd]
  · cases hR
    obtain ⟨R, x, r3, rw⟩ := k heq
    refine ⟨R, x, fun k hk => (r3 k hk).trans (m2 k hk), fun Q => ?_⟩
    have eR : ∀ Q, Wp (d + 2) 119 0 [.ref 40] [] (upr (upr N 40 R2) 42 (upd (upd (upd (N 42) 0 v0) 1 v1) 2 v2)) Q ↔ Q (some (.int 1)) (upr (upr N 40 R) 42 (upd (upd (upd (N 42) 0 v0) 1 v1) 2 v2)) := fun Q => by
      refine (rw Q).trans ?_
      simp only [usz, upr_upr]
    simp (maxSteps := 400000) (disch := first | omega | assumption) only [e116_0, e116_1, hsg, hro, usz, ilt, g0, g1, g2, eR, z01, kv, rv, tv, lnv, lv0, clv, clr_i, clr_r, clr_n, clr_l, true_and, and_true, Option.toList_some, Option.toList_none, List.cons_append, List.nil_append, bI_0, bI_1, bI_or, ↓reduceIte, or_true, true_or, eq_self, irv, i0_add, not_true_eq_false, not_false_eq_true, Bool.false_eq_true, and_false, false_and, or_false, false_or, reduceCtorEq, nev, ngv, nc_or, in64, l64v, ite_not, ite_notP, up2_upr, upr_upr, upr_at, nI_cl, nI_ir, iav, nI_1, nI_mul6, nI_6mul, nI_lt2, nI_eq2, nI_neg, nI_m1, ltv, nI_z, upd_at, upd_off, upr_off, usv, upd_upd]
