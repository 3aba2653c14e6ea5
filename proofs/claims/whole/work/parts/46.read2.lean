/-! part 46: reading: numbers -/
theorem t48 : Int32.toInt 48 = 48 ∧ Int32.toInt 57 = 57 := by decide
theorem s39 (d : Nat) (x : Int32) (M : Mem) (Q : Option Value → Mem → Prop) : Wp d 39 0 [.int x] [] M Q ↔ Q (some (.int (bI (rg x 48 57)))) M := by
  have e := rg_ite (a := (0 : Int32)) (b := 1) x 48 57
  rw [t48.1, t48.2] at e
  unfold bI
  by_cases h1 : x < 48
  · have h : ¬ rg x 48 57 := fun z => by have := z.1; rw [Int32.lt_iff_toInt_lt, t48.1] at h1; omega
    rw [if_neg h]
    simp (maxSteps := 400000) (disch := first | omega | assumption) only [e39, iff_true_intro h1, kv, rv, tv, lnv, lv0, clv, clr_i, clr_r, clr_n, clr_l, true_and, and_true, Option.toList_some, Option.toList_none, List.cons_append, List.nil_append, bI_0, bI_1, bI_or, ↓reduceIte, or_true, true_or, eq_self, irv, i0_add, not_true_eq_false, not_false_eq_true, Bool.false_eq_true, and_false, false_and, or_false, false_or, reduceCtorEq, nev, ngv, nc_or, in64, l64v, ite_not, ite_notP, up2_upr, upr_upr, upr_at, nI_cl, nI_ir, iav, nI_1, nI_mul6, nI_6mul, nI_lt2, nI_eq2, nI_neg, nI_m1, ltv, nI_z, upd_at, upd_off, upr_off, usv, upd_upd]
  · by_cases h2 : 57 < x
    · have h : ¬ rg x 48 57 := fun z => by have := z.2; rw [Int32.lt_iff_toInt_lt, t48.2] at h2; omega
      rw [if_neg h]
      simp (maxSteps := 400000) (disch := first | omega | assumption) only [e39, iff_false_intro h1, iff_true_intro h2, kv, rv, tv, lnv, lv0, clv, clr_i, clr_r, clr_n, clr_l, true_and, and_true, Option.toList_some, Option.toList_none, List.cons_append, List.nil_append, bI_0, bI_1, bI_or, ↓reduceIte, or_true, true_or, eq_self, irv, i0_add, not_true_eq_false, not_false_eq_true, Bool.false_eq_true, and_false, false_and, or_false, false_or, reduceCtorEq, nev, ngv, nc_or, in64, l64v, ite_not, ite_notP, up2_upr, upr_upr, upr_at, nI_cl, nI_ir, iav, nI_1, nI_mul6, nI_6mul, nI_lt2, nI_eq2, nI_neg, nI_m1, ltv, nI_z, upd_at, upd_off, upr_off, usv, upd_upd]
    · have h : rg x 48 57 := by rw [Int32.lt_iff_toInt_lt, t48.1] at h1; rw [Int32.lt_iff_toInt_lt, t48.2] at h2; exact ⟨by omega, by omega⟩
      rw [if_pos h]
      simp (maxSteps := 400000) (disch := first | omega | assumption) only [e39, iff_false_intro h1, iff_false_intro h2, kv, rv, tv, lnv, lv0, clv, clr_i, clr_r, clr_n, clr_l, true_and, and_true, Option.toList_some, Option.toList_none, List.cons_append, List.nil_append, bI_0, bI_1, bI_or, ↓reduceIte, or_true, true_or, eq_self, irv, i0_add, not_true_eq_false, not_false_eq_true, Bool.false_eq_true, and_false, false_and, or_false, false_or, reduceCtorEq, nev, ngv, nc_or, in64, l64v, ite_not, ite_notP, up2_upr, upr_upr, upr_at, nI_cl, nI_ir, iav, nI_1, nI_mul6, nI_6mul, nI_lt2, nI_eq2, nI_neg, nI_m1, ltv, nI_z, upd_at, upd_off, upr_off, usv, upd_upd]
theorem fg_end : ¬ rg (-1) 48 57 := by decide
theorem fg_c {T : Nat → Int32} {c a : Nat} (h : rg (sgF T c a) 48 57) : a < c := by
  apply Classical.byContradiction
  intro z
  rw [sg_end (by omega)] at h
  exact fg_end h
theorem dgF_S {T : Nat → Int32} {c f i a : Nat} {v : Int32} : (rg (sgF T c a) 48 57 → dgF T c (f + 1) i a v = dgF T c f (i + 1) (a + 1) (if i < 3 then v * 10 + sgF T c a - 48 else v)) ∧ (¬ rg (sgF T c a) 48 57 → dgF T c (f + 1) i a v = (i, a, v)) := by
  constructor
  · intro h
    rw [dgF]
    exact if_pos h
  · intro h
    rw [dgF]
    exact if_neg h
theorem dgF_n {T : Nat → Int32} {c a : Nat} (h : ¬ rg (sgF T c a) 48 57) : ∀ f i v, dgF T c f i a v = (i, a, v)
  | 0, i, v => by rw [dgF]
  | f + 1, i, v => dgF_S.2 h
theorem dgF_at {T : Nat → Int32} {c : Nat} : ∀ f i a v, (dgF T c f i a v).2.1 + i = a + (dgF T c f i a v).1 ∧ i ≤ (dgF T c f i a v).1 ∧ (a ≤ c → (dgF T c f i a v).2.1 ≤ c)
  | 0, i, a, v => by rw [dgF]; exact ⟨rfl, Nat.le_refl _, fun h => h⟩
  | f + 1, i, a, v => by
    by_cases h : rg (sgF T c a) 48 57
    · rw [dgF_S.1 h]
      have hac := fg_c h
      have := dgF_at f (i + 1) (a + 1) (if i < 3 then v * 10 + sgF T c a - 48 else v) (T := T) (c := c)
      exact ⟨by omega, by omega, fun _ => this.2.2 (by omega)⟩
    · rw [dgF_S.2 h]
      exact ⟨Nat.add_comm _ _ ▸ rfl, Nat.le_refl _, fun h => h⟩
theorem l38 (d c q : Nat) (lo hi : Int32) (M : Mem) (Q : Option Value → Mem → Prop) (hc : c ≤ 240) (h1 : M 1 1 = nI c) : ∀ j i a v, i + j = 240 → a ≤ c → (Wp (d + 1) 38 17 [.ref 3, .ref 1, .int lo, .int hi, .int (nI q), .int v, .int (nI i)] [] (upr M 3 (upd (M 3) 1 (nI a))) Q ↔ Wp (d + 1) 38 80 [.ref 3, .ref 1, .int lo, .int hi, .int (nI q), .int (dgF (M 2) c j i a v).2.2, .int (nI (dgF (M 2) c j i a v).1)] [] (upr M 3 (upd (M 3) 1 (nI (dgF (M 2) c j i a v).2.1))) Q)
  | 0, i, a, v, hij, ha => by
    obtain rfl : i = 240 := hij
    have e : nI 240 < 240 ↔ False := iff_false_intro (by decide)
    rw [h38_17, dgF]
    simp (maxSteps := 400000) (disch := first | omega | assumption) only [e38_0, e38_1, e, kv, rv, tv, lnv, lv0, clv, clr_i, clr_r, clr_n, clr_l, true_and, and_true, Option.toList_some, Option.toList_none, List.cons_append, List.nil_append, bI_0, bI_1, bI_or, ↓reduceIte, or_true, true_or, eq_self, irv, i0_add, not_true_eq_false, not_false_eq_true, Bool.false_eq_true, and_false, false_and, or_false, false_or, reduceCtorEq, nev, ngv, nc_or, in64, l64v, ite_not, ite_notP, up2_upr, upr_upr, upr_at, nI_cl, nI_ir, iav, nI_1, nI_mul6, nI_6mul, nI_lt2, nI_eq2, nI_neg, nI_m1, ltv, nI_z, upd_at, upd_off, upr_off, usv, upd_upd]
  | j + 1, i, a, v, hij, ha => by
    have e : nI i < 240 ↔ True := iff_true_intro ((nI_lt2 (by omega) (by omega : 240 < 2147483648)).mpr (by omega))
    have es := fun d Q => s24 d c a (upr M 3 (upd (M 3) 1 (nI a))) Q hc h1 (by omega)
    have er : upr M 3 (upd (M 3) 1 (nI a)) 2 = M 2 := rfl
    rw [er] at es
    by_cases h : rg (sgF (M 2) c a) 48 57
    · have hac := fg_c h
      rw [dgF_S.1 h, ← l38 d c q lo hi M Q hc h1 j (i + 1) (a + 1) _ (by omega) (by omega), h38_17]
      by_cases h3 : i < 3
      · rw [if_pos h3]
        simp (maxSteps := 400000) (disch := first | omega | assumption) only [e38_0, e38_1, e, es, s39, iff_true_intro h, bI_T, z01, h3, kv, rv, tv, lnv, lv0, clv, clr_i, clr_r, clr_n, clr_l, true_and, and_true, Option.toList_some, Option.toList_none, List.cons_append, List.nil_append, bI_0, bI_1, bI_or, ↓reduceIte, or_true, true_or, eq_self, irv, i0_add, not_true_eq_false, not_false_eq_true, Bool.false_eq_true, and_false, false_and, or_false, false_or, reduceCtorEq, nev, ngv, nc_or, in64, l64v, ite_not, ite_notP, up2_upr, upr_upr, upr_at, nI_cl, nI_ir, iav, nI_1, nI_mul6, nI_6mul, nI_lt2, nI_eq2, nI_neg, nI_m1, ltv, nI_z, upd_at, upd_off, upr_off, usv, upd_upd]
      · rw [if_neg h3]
        simp (maxSteps := 400000) (disch := first | omega | assumption) only [e38_0, e38_1, e, es, s39, iff_true_intro h, bI_T, z01, h3, kv, rv, tv, lnv, lv0, clv, clr_i, clr_r, clr_n, clr_l, true_and, and_true, Option.toList_some, Option.toList_none, List.cons_append, List.nil_append, bI_0, bI_1, bI_or, ↓reduceIte, or_true, true_or, eq_self, irv, i0_add, not_true_eq_false, not_false_eq_true, Bool.false_eq_true, and_false, false_and, or_false, false_or, reduceCtorEq, nev, ngv, nc_or, in64, l64v, ite_not, ite_notP, up2_upr, upr_upr, upr_at, nI_cl, nI_ir, iav, nI_1, nI_mul6, nI_6mul, nI_lt2, nI_eq2, nI_neg, nI_m1, ltv, nI_z, upd_at, upd_off, upr_off, usv, upd_upd]
    · rw [dgF_S.2 h, h38_17]
      simp (maxSteps := 400000) (disch := first | omega | assumption) only [e38_0, e38_1, e, es, s39, iff_false_intro h, bI_F, kv, rv, tv, lnv, lv0, clv, clr_i, clr_r, clr_n, clr_l, true_and, and_true, Option.toList_some, Option.toList_none, List.cons_append, List.nil_append, bI_0, bI_1, bI_or, ↓reduceIte, or_true, true_or, eq_self, irv, i0_add, not_true_eq_false, not_false_eq_true, Bool.false_eq_true, and_false, false_and, or_false, false_or, reduceCtorEq, nev, ngv, nc_or, in64, l64v, ite_not, ite_notP, up2_upr, upr_upr, upr_at, nI_cl, nI_ir, iav, nI_1, nI_mul6, nI_6mul, nI_lt2, nI_eq2, nI_neg, nI_m1, ltv, nI_z, upd_at, upd_off, upr_off, usv, upd_upd]
def cdF (lo hi : Int32) (n : Nat) (v : Int32) : Int32 := if n = 0 then 1 else if 3 < n ∨ v < lo ∨ hi < v then 2 else 0
def r3F (r : Nat → Int32) (e : Nat) (cd : Int32) (q : Nat) : Nat → Int32 := if cd = 0 then upd r 1 (nI e) else upd (upd (upd r 1 (nI e)) 2 cd) 3 (nI q)
theorem s36 (d : Nat) (x y : Int32) (M : Mem) (Q : Option Value → Mem → Prop) : Wp d 36 0 [.ref 3, .int x, .int y] [] M Q ↔ Q none (upr M 3 (upd (upd (M 3) 2 y) 3 x)) := by
  simp (maxSteps := 400000) only [e36, kv, rv, tv, lnv, lv0, clv, clr_i, clr_r, clr_n, clr_l, true_and, and_true, Option.toList_some, Option.toList_none, List.cons_append, List.nil_append, bI_0, bI_1, bI_or, ↓reduceIte, or_true, true_or, eq_self, irv, i0_add, not_true_eq_false, not_false_eq_true, Bool.false_eq_true, and_false, false_and, or_false, false_or, reduceCtorEq, nev, ngv, nc_or, in64, l64v, ite_not, ite_notP, up2_upr, upr_upr, upr_at]
theorem s38 (d c a : Nat) (lo hi : Int32) (N : Mem) (Q : Option Value → Mem → Prop) (hc : c ≤ 240) (h1 : N 1 1 = nI c) (ha : a ≤ c) (h3 : N 3 1 = nI a) : Wp (d + 2) 38 0 [.ref 3, .ref 1, .int lo, .int hi, .null, .null, .null] [] N Q ↔ Q (some (.int (dgF (N 2) c 240 0 (skN (N 2) c 240 a) 0).2.2)) (upr N 3 (r3F (N 3) (dgF (N 2) c 240 0 (skN (N 2) c 240 a) 0).2.1 (cdF lo hi (dgF (N 2) c 240 0 (skN (N 2) c 240 a) 0).1 (dgF (N 2) c 240 0 (skN (N 2) c 240 a) 0).2.2) (skN (N 2) c 240 a))) := by
  have hq := skN_le (N 2) c 240 a ha
  have e32 := fun d Q => s32 d c a N Q hc h1 (by omega) h3
  generalize skN (N 2) c 240 a = q at hq e32 ⊢
  have el := fun Q => l38 (d + 1) c q lo hi N Q hc h1 240 0 q 0 (by omega) hq
  obtain ⟨f1, -, f3⟩ := dgF_at (T := N 2) (c := c) 240 0 q 0
  have f3' := f3 hq
  generalize dgF (N 2) c 240 0 q 0 = r at el f1 f3' ⊢
  obtain ⟨n, e, v⟩ := r
  simp only at el f1 f3' ⊢
  simp only [nI_0] at el
  have en : nI e - nI q = nI n := by
    rw [pk_sub (show q ≤ e by omega), show e - q = n by omega]
  have z2 : ((2 : Int32) = 0 ↔ False) := iff_false_intro (by decide)
  unfold cdF r3F
  by_cases n0 : n = 0
  · rw [if_pos n0, if_neg (by decide)]
    simp (maxSteps := 400000) (disch := first | omega | assumption) only [e38_0, e38_1, e32, el, en, iff_true_intro n0, s36, kv, rv, tv, lnv, lv0, clv, clr_i, clr_r, clr_n, clr_l, true_and, and_true, Option.toList_some, Option.toList_none, List.cons_append, List.nil_append, bI_0, bI_1, bI_or, ↓reduceIte, or_true, true_or, eq_self, irv, i0_add, not_true_eq_false, not_false_eq_true, Bool.false_eq_true, and_false, false_and, or_false, false_or, reduceCtorEq, nev, ngv, nc_or, in64, l64v, ite_not, ite_notP, up2_upr, upr_upr, upr_at, nI_cl, nI_ir, iav, nI_1, nI_mul6, nI_6mul, nI_lt2, nI_eq2, nI_neg, nI_m1, ltv, nI_z, upd_at, upd_off, upr_off, usv, upd_upd]
  · rw [if_neg n0]
    by_cases hb : 3 < n ∨ v < lo ∨ hi < v
    · rw [if_pos hb, if_neg (by decide)]
      by_cases b1 : 3 < n
      · simp (maxSteps := 400000) (disch := first | omega | assumption) only [e38_0, e38_1, e32, el, en, iff_false_intro n0, b1, s36, kv, rv, tv, lnv, lv0, clv, clr_i, clr_r, clr_n, clr_l, true_and, and_true, Option.toList_some, Option.toList_none, List.cons_append, List.nil_append, bI_0, bI_1, bI_or, ↓reduceIte, or_true, true_or, eq_self, irv, i0_add, not_true_eq_false, not_false_eq_true, Bool.false_eq_true, and_false, false_and, or_false, false_or, reduceCtorEq, nev, ngv, nc_or, in64, l64v, ite_not, ite_notP, up2_upr, upr_upr, upr_at, nI_cl, nI_ir, iav, nI_1, nI_mul6, nI_6mul, nI_lt2, nI_eq2, nI_neg, nI_m1, ltv, nI_z, upd_at, upd_off, upr_off, usv, upd_upd]
      · by_cases b2 : v < lo
        · simp (maxSteps := 400000) (disch := first | omega | assumption) only [e38_0, e38_1, e32, el, en, iff_false_intro n0, b1, iff_true_intro b2, s36, kv, rv, tv, lnv, lv0, clv, clr_i, clr_r, clr_n, clr_l, true_and, and_true, Option.toList_some, Option.toList_none, List.cons_append, List.nil_append, bI_0, bI_1, bI_or, ↓reduceIte, or_true, true_or, eq_self, irv, i0_add, not_true_eq_false, not_false_eq_true, Bool.false_eq_true, and_false, false_and, or_false, false_or, reduceCtorEq, nev, ngv, nc_or, in64, l64v, ite_not, ite_notP, up2_upr, upr_upr, upr_at, nI_cl, nI_ir, iav, nI_1, nI_mul6, nI_6mul, nI_lt2, nI_eq2, nI_neg, nI_m1, ltv, nI_z, upd_at, upd_off, upr_off, usv, upd_upd]
        · have b3 : hi < v := (hb.resolve_left b1).resolve_left b2
          simp (maxSteps := 400000) (disch := first | omega | assumption) only [e38_0, e38_1, e32, el, en, iff_false_intro n0, b1, iff_false_intro b2, iff_true_intro b3, s36, kv, rv, tv, lnv, lv0, clv, clr_i, clr_r, clr_n, clr_l, true_and, and_true, Option.toList_some, Option.toList_none, List.cons_append, List.nil_append, bI_0, bI_1, bI_or, ↓reduceIte, or_true, true_or, eq_self, irv, i0_add, not_true_eq_false, not_false_eq_true, Bool.false_eq_true, and_false, false_and, or_false, false_or, reduceCtorEq, nev, ngv, nc_or, in64, l64v, ite_not, ite_notP, up2_upr, upr_upr, upr_at, nI_cl, nI_ir, iav, nI_1, nI_mul6, nI_6mul, nI_lt2, nI_eq2, nI_neg, nI_m1, ltv, nI_z, upd_at, upd_off, upr_off, usv, upd_upd]
    · rw [if_neg hb, if_pos rfl]
      have b1 : ¬ 3 < n := fun z => hb (Or.inl z)
      have b2 : ¬ v < lo := fun z => hb (Or.inr (Or.inl z))
      have b3 : ¬ hi < v := fun z => hb (Or.inr (Or.inr z))
      simp (maxSteps := 400000) (disch := first | omega | assumption) only [e38_0, e38_1, e32, el, en, iff_false_intro n0, b1, iff_false_intro b2, iff_false_intro b3, kv, rv, tv, lnv, lv0, clv, clr_i, clr_r, clr_n, clr_l, true_and, and_true, Option.toList_some, Option.toList_none, List.cons_append, List.nil_append, bI_0, bI_1, bI_or, ↓reduceIte, or_true, true_or, eq_self, irv, i0_add, not_true_eq_false, not_false_eq_true, Bool.false_eq_true, and_false, false_and, or_false, false_or, reduceCtorEq, nev, ngv, nc_or, in64, l64v, ite_not, ite_notP, up2_upr, upr_upr, upr_at, nI_cl, nI_ir, iav, nI_1, nI_mul6, nI_6mul, nI_lt2, nI_eq2, nI_neg, nI_m1, ltv, nI_z, upd_at, upd_off, upr_off, usv, upd_upd]
theorem s40 (d c a : Nat) (N : Mem) (Q : Option Value → Mem → Prop) (hc : c ≤ 240) (h1 : N 1 1 = nI c) (ha : a ≤ c) (h3 : N 3 1 = nI a) : Wp (d + 2) 40 0 [.ref 3, .ref 1] [] N Q ↔ Q none (upr N 3 (if sgF (N 2) c (skN (N 2) c 240 a) = 59 then upd (N 3) 1 (nI (skN (N 2) c 240 a + 1)) else upd (upd (upd (N 3) 1 (nI (skN (N 2) c 240 a))) 2 1) 3 (nI (skN (N 2) c 240 a)))) := by
  have hq := skN_le (N 2) c 240 a ha
  have e32 := fun d Q => s32 d c a N Q hc h1 (by omega) h3
  generalize skN (N 2) c 240 a = q at hq e32 ⊢
  have es := fun d Q => s24 d c q (upr N 3 (upd (N 3) 1 (nI q))) Q hc h1 (by omega)
  have er : upr N 3 (upd (N 3) 1 (nI q)) 2 = N 2 := rfl
  rw [er] at es
  by_cases h : sgF (N 2) c q = 59
  · rw [if_pos h]
    simp (maxSteps := 400000) (disch := first | omega | assumption) only [e40, e32, es, h, kv, rv, tv, lnv, lv0, clv, clr_i, clr_r, clr_n, clr_l, true_and, and_true, Option.toList_some, Option.toList_none, List.cons_append, List.nil_append, bI_0, bI_1, bI_or, ↓reduceIte, or_true, true_or, eq_self, irv, i0_add, not_true_eq_false, not_false_eq_true, Bool.false_eq_true, and_false, false_and, or_false, false_or, reduceCtorEq, nev, ngv, nc_or, in64, l64v, ite_not, ite_notP, up2_upr, upr_upr, upr_at, nI_cl, nI_ir, iav, nI_1, nI_mul6, nI_6mul, nI_lt2, nI_eq2, nI_neg, nI_m1, ltv, nI_z, upd_at, upd_off, upr_off, usv, upd_upd]
  · rw [if_neg h]
    simp (maxSteps := 400000) (disch := first | omega | assumption) only [e40, e32, es, h, s36, kv, rv, tv, lnv, lv0, clv, clr_i, clr_r, clr_n, clr_l, true_and, and_true, Option.toList_some, Option.toList_none, List.cons_append, List.nil_append, bI_0, bI_1, bI_or, ↓reduceIte, or_true, true_or, eq_self, irv, i0_add, not_true_eq_false, not_false_eq_true, Bool.false_eq_true, and_false, false_and, or_false, false_or, reduceCtorEq, nev, ngv, nc_or, in64, l64v, ite_not, ite_notP, up2_upr, upr_upr, upr_at, nI_cl, nI_ir, iav, nI_1, nI_mul6, nI_6mul, nI_lt2, nI_eq2, nI_neg, nI_m1, ltv, nI_z, upd_at, upd_off, upr_off, usv, upd_upd]
