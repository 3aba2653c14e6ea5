/-! part 53: reading: the program's clause, whole -/
/-- the rows that reading a clause begins with -/
def RC (N : Mem) (c a nc n np : Nat) : Prop := c ≤ 240 ∧ N 1 1 = nI c ∧ a < c ∧ N 3 1 = nI a ∧ N 3 2 = 0 ∧ (N 5 8 = 0 ∨ N 5 8 = 1) ∧ nc ≤ 4 ∧ N 5 12 = nI nc ∧ n ≤ 6 ∧ N 5 13 = nI n ∧ np ≤ 6 ∧ N 5 14 = nI np ∧ ST N
theorem knF_lt (x : Int32) : ∀ k, knF x = some k → k < 4 := by
  intro k h
  unfold knF at h
  split at h
  · cases h; omega
  · split at h
    · cases h; omega
    · split at h
      · cases h; omega
      · split at h
        · cases h; omega
        · cases h
theorem s33_w (d c a nc n np : Nat) (N : Mem) (Q : Option Value → Mem → Prop) (h : RC N c a nc n np) (hw : ¬ wdF (N 5 8) nc n np (knF (sgF (N 2) c a)) = 0) : Wp (d + 5) 33 0 [.ref 3, .ref 1, .ref 5, .null, .null] [] N Q ↔ Q none (upr N 3 (upd (upd (N 3) 2 (wdF (N 5 8) nc n np (knF (sgF (N 2) c a)))) 3 (nI a))) := by
  obtain ⟨hc, h1, hac, h3, hf, h8, hnc, h12, hn, h13, hnp, h14, hSt⟩ := h
  have e24 := fun d Q => s24 d c a N Q hc h1 (by omega)
  have e35 := fun d Q => s35 d nc n np (knF (sgF (N 2) c a)) N Q (knF_lt _) h8 hnc h12 hn h13 hnp h14
  generalize wdF (N 5 8) nc n np (knF (sgF (N 2) c a)) = w at hw e35 ⊢
  simp (maxSteps := 400000) (disch := first | omega | assumption) only [e33, h3, e24, s34, e35, iff_false_intro hw, s36, kv, rv, tv, lnv, lv0, clv, clr_i, clr_r, clr_n, clr_l, true_and, and_true, Option.toList_some, Option.toList_none, List.cons_append, List.nil_append, bI_0, bI_1, bI_or, ↓reduceIte, or_true, true_or, eq_self, irv, i0_add, not_true_eq_false, not_false_eq_true, Bool.false_eq_true, and_false, false_and, or_false, false_or, reduceCtorEq, nev, ngv, nc_or, in64, l64v, ite_not, ite_notP, up2_upr, upr_upr, upr_at, nI_cl, nI_ir, iav, nI_1, nI_mul6, nI_6mul, nI_lt2, nI_eq2, nI_neg, nI_m1, ltv, nI_z, upd_at, upd_off, upr_off, usv, upd_upd]
theorem s33_n (d c a nc n np kd : Nat) (N : Mem) (Q : Option Value → Mem → Prop) (h : RC N c a nc n np) (hw : wdF (N 5 8) nc n np (knF (sgF (N 2) c a)) = 0) (hk : knF (sgF (N 2) c a) = some kd) (cd : Int32) (p e : Nat) (r : Nat → Int32) (hm : nmF (N 2) c (loK kd) (hiK nc kd) (KK kd) 0 (a + 1) (N 4) = (cd, p, e, r)) (hcd : ¬ cd = 0) : Wp (d + 5) 33 0 [.ref 3, .ref 1, .ref 5, .null, .null] [] N Q ↔ Q none (upr (upr N 3 (upd (upd (upd (N 3) 1 (nI e)) 2 cd) 3 (nI p))) 4 r) := by
  obtain ⟨hc, h1, hac, h3, hf, h8, hnc, h12, hn, h13, hnp, h14, hSt⟩ := h
  have e24 := fun d Q => s24 d c a N Q hc h1 (by omega)
  have e35 := fun d Q => s35 d nc n np (knF (sgF (N 2) c a)) N Q (knF_lt _) h8 hnc h12 hn h13 hnp h14
  have e34 := fun d Q => s34 d (sgF (N 2) c a) N Q
  have hk4 := knF_lt _ kd hk
  rw [hw, hk, oI_s] at e35
  rw [hk, oI_s] at e34
  have e37 := fun d Q => s37 d c kd nc (a + 1) (upr N 3 (upd (N 3) 1 (nI (a + 1)))) Q hc h1 hk4 ((ST_upr (by omega)).mpr hSt) h12 hf (by omega) rfl
  rw [show (upr N 3 (upd (N 3) 1 (nI (a + 1)))) 2 = N 2 from rfl, show (upr N 3 (upd (N 3) 1 (nI (a + 1)))) 4 = N 4 from rfl, hm] at e37
  have e5 : ∀ f : Nat → Int32, r3F f e cd p = upd (upd (upd f 1 (nI e)) 2 cd) 3 (nI p) := fun f => if_neg hcd
  simp only [e5] at e37
  simp (maxSteps := 400000) (disch := first | omega | assumption) only [e33, h3, e24, e34, e35, e37, usy, iff_false_intro hcd, kv, rv, tv, lnv, lv0, clv, clr_i, clr_r, clr_n, clr_l, true_and, and_true, Option.toList_some, Option.toList_none, List.cons_append, List.nil_append, bI_0, bI_1, bI_or, ↓reduceIte, or_true, true_or, eq_self, irv, i0_add, not_true_eq_false, not_false_eq_true, Bool.false_eq_true, and_false, false_and, or_false, false_or, reduceCtorEq, nev, ngv, nc_or, in64, l64v, ite_not, ite_notP, up2_upr, upr_upr, upr_at, nI_cl, nI_ir, iav, nI_1, nI_mul6, nI_6mul, nI_lt2, nI_eq2, nI_neg, nI_m1, ltv, nI_z, upd_at, upd_off, upr_off, usv, upd_upd]
theorem s33_e (d c a nc n np kd : Nat) (N : Mem) (Q : Option Value → Mem → Prop) (h : RC N c a nc n np) (hw : wdF (N 5 8) nc n np (knF (sgF (N 2) c a)) = 0) (hk : knF (sgF (N 2) c a) = some kd) (p e q : Nat) (r : Nat → Int32) (hm : nmF (N 2) c (loK kd) (hiK nc kd) (KK kd) 0 (a + 1) (N 4) = (0, p, e, r)) (hq : skN (N 2) c 240 e = q) : (¬ sgF (N 2) c q = 59 → (Wp (d + 5) 33 0 [.ref 3, .ref 1, .ref 5, .null, .null] [] N Q ↔ Q none (upr (upr N 3 (upd (upd (upd (N 3) 1 (nI q)) 2 1) 3 (nI q))) 4 r))) ∧ (sgF (N 2) c q = 59 → ∀ R, (∀ Q, Wp (d + 4) 4 0 [.ref 5, .int (nI kd), .int (r 0), .int (r 1), .int (r 2)] [] (upr (upr N 3 (upd (N 3) 1 (nI (q + 1)))) 4 r) Q ↔ Q none R) → (Wp (d + 5) 33 0 [.ref 3, .ref 1, .ref 5, .null, .null] [] N Q ↔ Q none R)) := by
  obtain ⟨hc, h1, hac, h3, hf, h8, hnc, h12, hn, h13, hnp, h14, hSt⟩ := h
  have e24 := fun d Q => s24 d c a N Q hc h1 (by omega)
  have e35 := fun d Q => s35 d nc n np (knF (sgF (N 2) c a)) N Q (knF_lt _) h8 hnc h12 hn h13 hnp h14
  have e34 := fun d Q => s34 d (sgF (N 2) c a) N Q
  have hk4 := knF_lt _ kd hk
  rw [hw, hk, oI_s] at e35
  rw [hk, oI_s] at e34
  have e37 := fun d Q => s37 d c kd nc (a + 1) (upr N 3 (upd (N 3) 1 (nI (a + 1)))) Q hc h1 hk4 ((ST_upr (by omega)).mpr hSt) h12 hf (by omega) rfl
  have hle := nm_le (N 2) c (loK kd) (hiK nc kd) (KK kd) 0 (a + 1) (N 4) (by omega)
  rw [hm] at hle
  rw [show (upr N 3 (upd (N 3) 1 (nI (a + 1)))) 2 = N 2 from rfl, show (upr N 3 (upd (N 3) 1 (nI (a + 1)))) 4 = N 4 from rfl, hm] at e37
  have e5 : ∀ f : Nat → Int32, r3F f e 0 p = upd f 1 (nI e) := fun f => if_pos rfl
  simp only [e5] at e37 hle
  have e40 := fun d Q => s40 d c e (upr (upr N 3 (upd (N 3) 1 (nI e))) 4 r) Q hc h1 hle rfl
  rw [show (upr (upr N 3 (upd (N 3) 1 (nI e))) 4 r) 2 = N 2 from rfl, hq] at e40
  constructor
  · intro hs
    simp only [if_neg hs] at e40
    simp (maxSteps := 400000) (disch := first | omega | assumption) only [e33, h3, e24, e34, e35, e37, usy, hf, e40, z01, kv, rv, tv, lnv, lv0, clv, clr_i, clr_r, clr_n, clr_l, true_and, and_true, Option.toList_some, Option.toList_none, List.cons_append, List.nil_append, bI_0, bI_1, bI_or, ↓reduceIte, or_true, true_or, eq_self, irv, i0_add, not_true_eq_false, not_false_eq_true, Bool.false_eq_true, and_false, false_and, or_false, false_or, reduceCtorEq, nev, ngv, nc_or, in64, l64v, ite_not, ite_notP, up2_upr, upr_upr, upr_at, nI_cl, nI_ir, iav, nI_1, nI_mul6, nI_6mul, nI_lt2, nI_eq2, nI_neg, nI_m1, ltv, nI_z, upd_at, upd_off, upr_off, usv, upd_upd]
  · intro hs R hR
    simp only [if_pos hs] at e40
    simp (maxSteps := 400000) (disch := first | omega | assumption) only [e33, h3, e24, e34, e35, e37, usy, hf, e40, z01, hR, kv, rv, tv, lnv, lv0, clv, clr_i, clr_r, clr_n, clr_l, true_and, and_true, Option.toList_some, Option.toList_none, List.cons_append, List.nil_append, bI_0, bI_1, bI_or, ↓reduceIte, or_true, true_or, eq_self, irv, i0_add, not_true_eq_false, not_false_eq_true, Bool.false_eq_true, and_false, false_and, or_false, false_or, reduceCtorEq, nev, ngv, nc_or, in64, l64v, ite_not, ite_notP, up2_upr, upr_upr, upr_at, nI_cl, nI_ir, iav, nI_1, nI_mul6, nI_6mul, nI_lt2, nI_eq2, nI_neg, nI_m1, ltv, nI_z, upd_at, upd_off, upr_off, usv, upd_upd]
