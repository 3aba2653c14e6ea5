/-! part 37: acts by draws: both sides -/
theorem fi_eq {ba g : Nat → Int32} {k n b : Nat} (h : ∀ e, e < n → g (12 + 6 * k + e) = ba (e * 6 + k)) (hz : ∀ e, n ≤ e → e < n + b → ba (e * 6 + k) = 0) : ∀ a i, i + a = n → fiF (fun e => mx 0 (ba (e * 6 + k))) (a + b) i = firF g k a i
  | 0, i, hi => by
    obtain rfl : i = n := hi
    have : ∀ j e, i ≤ e → e + j ≤ i + b → fiF (fun e => mx 0 (ba (e * 6 + k))) j e = none := by
      intro j
      induction j with
      | zero => intro e _ _; rfl
      | succ j ih =>
        intro e h1 h2
        rw [fiF]
        show (if 0 < mx 0 (ba (e * 6 + k)) then some e else _) = none
        rw [hz e h1 (by omega), if_neg (by decide)]
        exact ih (e + 1) (by omega) (by omega)
    rw [Nat.zero_add, this b i (by omega) (by omega), firF]
  | a + 1, i, hi => by
    rw [show a + 1 + b = (a + b) + 1 by omega, fiF, firF, fi_eq h hz a (i + 1) (by omega), h i (by omega)]
    show (if 0 < mx 0 (ba (i * 6 + k)) then _ else _) = _
    unfold mx
    by_cases hp : 0 < ba (i * 6 + k)
    · rw [if_pos hp, if_pos hp]
    · rw [if_neg hp, if_neg hp, if_neg (by decide)]
theorem firF_ok {g : Nat → Int32} {k : Nat} : ∀ a i e, firF g k a i = some e → e < i + a ∧ 0 < g (12 + 6 * k + e)
  | 0, i, e, h => by cases h
  | a + 1, i, e, h => by
    rw [firF] at h
    split at h
    · cases h
      rename_i hp
      exact ⟨by omega, hp⟩
    · have := firF_ok a (i + 1) e h
      exact ⟨by omega, this.2⟩
theorem s92_n (d n k : Nat) (N : Mem) (Q : Option Value → Mem → Prop) (hn : n ≤ 6) (hk : k < n) (h13 : N 15 13 = nI n) (ho : fiF (fun e => mx 0 (N 28 (e * 6 + k))) 6 0 = none) : Wp (d + 5) 92 0 [.ref 0, .int (nI k), .null] [] N Q ↔ Q none N := by
  have e14 := fun d Q => s14 d k N Q (by omega)
  rw [ho] at e14
  have hx : ¬ (rg (nI k) 0 (n - 1) ∧ rg (-1) 0 (n - 1) ∧ ¬ nI k = -1) := fun z => absurd z.2.1.1 (by decide)
  have e79 := fun d Q => s79 d n (nI k) (-1) N Q hn h13
  have hb : bI (rg (nI k) 0 (n - 1) ∧ rg (-1) 0 (n - 1) ∧ ¬ nI k = -1) = 0 := by unfold bI; rw [if_neg hx]
  rw [hb] at e79
  simp only [oI] at e14
  simp (maxSteps := 400000) (disch := first | omega | assumption) only [e92, e14, e79, kv, rv, tv, lnv, lv0, clv, clr_i, clr_r, clr_n, clr_l, true_and, and_true, Option.toList_some, Option.toList_none, List.cons_append, List.nil_append, bI_0, bI_1, bI_or, ↓reduceIte, or_true, true_or, eq_self, irv, i0_add, not_true_eq_false, not_false_eq_true, Bool.false_eq_true, and_false, false_and, or_false, false_or, reduceCtorEq, nev, ngv, nc_or, in64, l64v, ite_not, ite_notP, up2_upr, upr_upr, upr_at, nI_cl, nI_ir, iav, nI_1, nI_mul6, nI_6mul, nI_lt2, nI_eq2, nI_neg, nI_m1, ltv, nI_z, upd_at, upd_off, upr_off, usv, upd_upd]
theorem s92_s (d n k e : Nat) (o p : Int32) (N : Mem) (Q : Option Value → Mem → Prop) (hn : n ≤ 6) (hk : k < n) (he : e < n) (hke : k ≠ e) (h13 : N 15 13 = nI n) (hf : fiF (fun e => mx 0 (N 28 (e * 6 + k))) 6 0 = some e) (hs : 0 < mx 0 (N 28 (e * 6 + k)) ∧ N 25 e = 1) (ho : mx 0 (N 28 (e * 6 + k)) = o) (hp : payC o (N 26 e) = p) : Wp (d + 5) 92 0 [.ref 0, .int (nI k), .null] [] N Q ↔ Q none (if p < o then upr (upr (upr N 25 (upd (N 25) e 4)) 26 (upd (upd (N 26) e (bo (N 26 e + -p))) k (bo (N 26 k + p)))) 28 (upd (upd (N 28) (e * 6 + k) (N 28 (e * 6 + k) + -p)) (k * 6 + e) (N 28 (k * 6 + e) - -p)) else upr (upr N 26 (upd (upd (N 26) e (bo (N 26 e + -p))) k (bo (N 26 k + p)))) 28 (upd (upd (N 28) (e * 6 + k) (N 28 (e * 6 + k) + -p)) (k * 6 + e) (N 28 (k * 6 + e) - -p))) := by
  have e14 := fun d Q => s14 d k N Q (by omega)
  rw [hf] at e14
  have hx : (rg (nI k) 0 (n - 1) ∧ rg (nI e) 0 (n - 1) ∧ ¬ nI k = nI e) := ⟨rg_lt hk hn, rg_lt he hn, fun z => hke ((nI_eq2 (by omega) (by omega)).mp z)⟩
  have e79 := fun d Q => s79 d n (nI k) (nI e) N Q hn h13
  have hb : bI (rg (nI k) 0 (n - 1) ∧ rg (nI e) 0 (n - 1) ∧ ¬ nI k = nI e) = 1 := by unfold bI; rw [if_pos hx]
  rw [hb] at e79
  simp only [oI] at e14
  have e61 := fun d Q => s61 d k e N Q (show k < 6 by omega) (show e < 6 by omega)
  have hb2 : bI (0 < mx 0 (N 28 (e * 6 + k)) ∧ N 25 e = 1) = 1 := by unfold bI; rw [if_pos hs]
  rw [hb2] at e61
  have e62 := fun d Q => s62q d k e o p N Q (show k < 6 by omega) (show e < 6 by omega) (fun z => hke z.symm) ho hp
  by_cases h : p < o
  · simp only [if_pos h] at e62 ⊢
    simp (maxSteps := 400000) (disch := first | omega | assumption) only [e92, e14, e79, e61, e62, z01, kv, rv, tv, lnv, lv0, clv, clr_i, clr_r, clr_n, clr_l, true_and, and_true, Option.toList_some, Option.toList_none, List.cons_append, List.nil_append, bI_0, bI_1, bI_or, ↓reduceIte, or_true, true_or, eq_self, irv, i0_add, not_true_eq_false, not_false_eq_true, Bool.false_eq_true, and_false, false_and, or_false, false_or, reduceCtorEq, nev, ngv, nc_or, in64, l64v, ite_not, ite_notP, up2_upr, upr_upr, upr_at, nI_cl, nI_ir, iav, nI_1, nI_mul6, nI_6mul, nI_lt2, nI_eq2, nI_neg, nI_m1, ltv, nI_z, upd_at, upd_off, upr_off, usv, upd_upd]
  · simp only [if_neg h] at e62 ⊢
    simp (maxSteps := 400000) (disch := first | omega | assumption) only [e92, e14, e79, e61, e62, z01, kv, rv, tv, lnv, lv0, clv, clr_i, clr_r, clr_n, clr_l, true_and, and_true, Option.toList_some, Option.toList_none, List.cons_append, List.nil_append, bI_0, bI_1, bI_or, ↓reduceIte, or_true, true_or, eq_self, irv, i0_add, not_true_eq_false, not_false_eq_true, Bool.false_eq_true, and_false, false_and, or_false, false_or, reduceCtorEq, nev, ngv, nc_or, in64, l64v, ite_not, ite_notP, up2_upr, upr_upr, upr_at, nI_cl, nI_ir, iav, nI_1, nI_mul6, nI_6mul, nI_lt2, nI_eq2, nI_neg, nI_m1, ltv, nI_z, upd_at, upd_off, upr_off, usv, upd_upd]
theorem s92_x (d n k e : Nat) (N : Mem) (Q : Option Value → Mem → Prop) (hn : n ≤ 6) (hk : k < n) (he : e < n) (hke : k ≠ e) (h13 : N 15 13 = nI n) (hf : fiF (fun e => mx 0 (N 28 (e * 6 + k))) 6 0 = some e) (hs : ¬ (0 < mx 0 (N 28 (e * 6 + k)) ∧ N 25 e = 1)) : Wp (d + 5) 92 0 [.ref 0, .int (nI k), .null] [] N Q ↔ Q none N := by
  have e14 := fun d Q => s14 d k N Q (by omega)
  rw [hf] at e14
  have hx : (rg (nI k) 0 (n - 1) ∧ rg (nI e) 0 (n - 1) ∧ ¬ nI k = nI e) := ⟨rg_lt hk hn, rg_lt he hn, fun z => hke ((nI_eq2 (by omega) (by omega)).mp z)⟩
  have e79 := fun d Q => s79 d n (nI k) (nI e) N Q hn h13
  have hb : bI (rg (nI k) 0 (n - 1) ∧ rg (nI e) 0 (n - 1) ∧ ¬ nI k = nI e) = 1 := by unfold bI; rw [if_pos hx]
  rw [hb] at e79
  simp only [oI] at e14
  have e61 := fun d Q => s61 d k e N Q (show k < 6 by omega) (show e < 6 by omega)
  have hb2 : bI (0 < mx 0 (N 28 (e * 6 + k)) ∧ N 25 e = 1) = 0 := by unfold bI; rw [if_neg hs]
  rw [hb2] at e61
  simp (maxSteps := 400000) (disch := first | omega | assumption) only [e92, e14, e79, e61, z01, kv, rv, tv, lnv, lv0, clv, clr_i, clr_r, clr_n, clr_l, true_and, and_true, Option.toList_some, Option.toList_none, List.cons_append, List.nil_append, bI_0, bI_1, bI_or, ↓reduceIte, or_true, true_or, eq_self, irv, i0_add, not_true_eq_false, not_false_eq_true, Bool.false_eq_true, and_false, false_and, or_false, false_or, reduceCtorEq, nev, ngv, nc_or, in64, l64v, ite_not, ite_notP, up2_upr, upr_upr, upr_at, nI_cl, nI_ir, iav, nI_1, nI_mul6, nI_6mul, nI_lt2, nI_eq2, nI_neg, nI_m1, ltv, nI_z, upd_at, upd_off, upr_off, usv, upd_upd]
theorem m166_4n (d n k : Nat) (N : Mem) (Q : Option Value → Mem → Prop) (hn : n ≤ 6) (hk : k < n) (h4 : N 41 4 = nI n) (hf : firF (N 43) k n 0 = none) : Wp (d + 6) 166 17 [.ref 40, .int (nI k), .int 4, .null, .null] [] N Q ↔ Q none N := by
  have e := fun d Q => s168 d k n N Q (by omega) hn h4
  rw [hf] at e
  simp only [oI] at e
  simp (maxSteps := 400000) (disch := first | omega | assumption) only [e166_0, e166_1, e, kv, rv, tv, lnv, lv0, clv, clr_i, clr_r, clr_n, clr_l, true_and, and_true, Option.toList_some, Option.toList_none, List.cons_append, List.nil_append, bI_0, bI_1, bI_or, ↓reduceIte, or_true, true_or, eq_self, irv, i0_add, not_true_eq_false, not_false_eq_true, Bool.false_eq_true, and_false, false_and, or_false, false_or, reduceCtorEq, nev, ngv, nc_or, in64, l64v, ite_not, ite_notP, up2_upr, upr_upr, upr_at, nI_cl, nI_ir, iav, nI_1, nI_mul6, nI_6mul, nI_lt2, nI_eq2, nI_neg, nI_m1, ltv, nI_z, upd_at, upd_off, upr_off, usv, upd_upd]
theorem m166_4x (d n k e : Nat) (N : Mem) (Q : Option Value → Mem → Prop) (hn : n ≤ 6) (hk : k < n) (he : e < n) (h4 : N 41 4 = nI n) (hf : firF (N 43) k n 0 = some e) (hs : ¬ (0 < N 43 (12 + 6 * k + e) ∧ N 43 e = 1)) : Wp (d + 6) 166 17 [.ref 40, .int (nI k), .int 4, .null, .null] [] N Q ↔ Q none N := by
  have e1 := fun d Q => s168 d k n N Q (by omega) hn h4
  rw [hf] at e1
  simp only [oI] at e1
  have e2 := fun d Q => s163 d k e N Q (show k < 6 by omega) (show e < 6 by omega)
  have hb : bI (0 < N 43 (12 + 6 * k + e) ∧ N 43 e = 1) = 0 := by unfold bI; rw [if_neg hs]
  rw [hb] at e2
  simp (maxSteps := 400000) (disch := first | omega | assumption) only [e166_0, e166_1, e1, e2, z01, kv, rv, tv, lnv, lv0, clv, clr_i, clr_r, clr_n, clr_l, true_and, and_true, Option.toList_some, Option.toList_none, List.cons_append, List.nil_append, bI_0, bI_1, bI_or, ↓reduceIte, or_true, true_or, eq_self, irv, i0_add, not_true_eq_false, not_false_eq_true, Bool.false_eq_true, and_false, false_and, or_false, false_or, reduceCtorEq, nev, ngv, nc_or, in64, l64v, ite_not, ite_notP, up2_upr, upr_upr, upr_at, nI_cl, nI_ir, iav, nI_1, nI_mul6, nI_6mul, nI_lt2, nI_eq2, nI_neg, nI_m1, ltv, nI_z, upd_at, upd_off, upr_off, usv, upd_upd]
theorem m166_4s (d n k e : Nat) (o p : Int32) (N : Mem) (Q : Option Value → Mem → Prop) (hn : n ≤ 6) (hk : k < n) (he : e < n) (hke : k ≠ e) (h4 : N 41 4 = nI n) (hf : firF (N 43) k n 0 = some e) (hs : 0 < N 43 (12 + 6 * k + e) ∧ N 43 e = 1) (ho : N 43 (12 + 6 * k + e) = o) (hp : payF o (N 43 (6 + e)) = p) : Wp (d + 6) 166 17 [.ref 40, .int (nI k), .int 4, .null, .null] [] N Q ↔ Q none (upr N 43 (upd (mvF (N 43) e k p) e (if p < o then 4 else 1))) := by
  have e1 := fun d Q => s168 d k n N Q (by omega) hn h4
  rw [hf] at e1
  simp only [oI] at e1
  have e2 := fun d Q => s163 d k e N Q (show k < 6 by omega) (show e < 6 by omega)
  have hb : bI (0 < N 43 (12 + 6 * k + e) ∧ N 43 e = 1) = 1 := by unfold bI; rw [if_pos hs]
  rw [hb] at e2
  have e3 := fun d Q => s164q d k e o p N Q (show k < 6 by omega) (show e < 6 by omega) (fun z => hke z.symm) ho hp
  simp (maxSteps := 400000) (disch := first | omega | assumption) only [e166_0, e166_1, e1, e2, e3, z01, kv, rv, tv, lnv, lv0, clv, clr_i, clr_r, clr_n, clr_l, true_and, and_true, Option.toList_some, Option.toList_none, List.cons_append, List.nil_append, bI_0, bI_1, bI_or, ↓reduceIte, or_true, true_or, eq_self, irv, i0_add, not_true_eq_false, not_false_eq_true, Bool.false_eq_true, and_false, false_and, or_false, false_or, reduceCtorEq, nev, ngv, nc_or, in64, l64v, ite_not, ite_notP, up2_upr, upr_upr, upr_at, nI_cl, nI_ir, iav, nI_1, nI_mul6, nI_6mul, nI_lt2, nI_eq2, nI_neg, nI_m1, ltv, nI_z, upd_at, upd_off, upr_off, usv, upd_upd]
theorem uC_5 {N M : Mem} {a c e f : Nat → Int32} (h : agC N M) : uC N a (M 24) c e f = upr (upr (upr (upr N 0 a) 25 c) 26 e) 28 f := by
  unfold uC
  rw [upr_e (k := 24) (M := upr N 0 a) (by rw [← h 24 (by omega)]; rfl)]
theorem uC_4 {N M : Mem} {a e f : Nat → Int32} (h : agC N M) : uC N a (M 24) (M 25) e f = upr (upr (upr N 0 a) 26 e) 28 f := by
  rw [uC_5 h, upr_e (k := 25) (M := upr N 0 a) (by rw [← h 25 (by omega)]; rfl)]
theorem uC_3 {N M : Mem} {a c e : Nat → Int32} (h : agC N M) : uC N a (M 24) c e (M 28) = upr (upr (upr N 0 a) 25 c) 26 e := by
  rw [uC_5 h, upr_e (k := 28) (by rw [← h 28 (by omega)]; rfl)]
theorem uC_2 {N M : Mem} {a c : Nat → Int32} (h : agC N M) : uC N a (M 24) c (M 26) (M 28) = upr (upr N 0 a) 25 c := by
  rw [uC_3 h, upr_e (k := 26) (by rw [← h 26 (by omega)]; rfl)]
theorem uC_1 {N M : Mem} {a : Nat → Int32} (h : agC N M) : uC N a (M 24) (M 25) (M 26) (M 28) = upr N 0 a := by
  rw [uC_2 h, upr_e (k := 25) (by rw [← h 25 (by omega)]; rfl)]
theorem uM_1 {N M : Mem} {x : Nat → Int32} (h : agM N M) : uM N x (M 43) = upr N 40 x := by
  unfold uM
  rw [upr_e (k := 43) (by rw [← h 43 (by omega)]; rfl)]
