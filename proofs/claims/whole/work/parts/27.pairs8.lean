/-! part 27: year, quiet, soon -/
def yrF (c h l : Int32) : Nat → Int32
  | 0 => c
  | k + 1 => wkl (yrF c h l k) h l True
theorem l98 (d k n : Nat) (M : Mem) (Q : Option Value → Mem → Prop) (hk : k < 6) (hn : n ≤ 60) : ∀ j i, i + j = n → (Wp (d + 3) 98 40 [.ref 0, .int (nI k), .int (nI n), .int (yrF (M 26 k) (M 20 k) (M 15 9) i), .int (nI i)] [] M Q ↔ Q (some (.int (yrF (M 26 k) (M 20 k) (M 15 9) n + 10000))) M)
  | 0, i, hi => by
    obtain rfl : i = n := hi
    rw [h98_40]
    simp (maxSteps := 400000) (disch := first | omega | assumption) only [e98, Nat.lt_irrefl, kv, rv, tv, lnv, lv0, clv, clr_i, clr_r, clr_n, clr_l, true_and, and_true, Option.toList_some, Option.toList_none, List.cons_append, List.nil_append, bI_0, bI_1, bI_or, ↓reduceIte, or_true, true_or, eq_self, irv, i0_add, not_true_eq_false, not_false_eq_true, Bool.false_eq_true, and_false, false_and, or_false, false_or, reduceCtorEq, nev, ngv, nc_or, in64, l64v, ite_not, ite_notP, up2_upr, upr_upr, upr_at, nI_cl, nI_ir, iav, nI_1, nI_mul6, nI_6mul, nI_lt2, nI_eq2, nI_neg, nI_m1, ltv, nI_z, upd_at, upd_off, upr_off, usv, upd_upd]
  | j + 1, i, hi => by
    have hlt : i < n := by omega
    refine Iff.trans ?_ (l98 d k n M Q hk hn j (i + 1) (by omega))
    rw [h98_40, yrF]
    simp (maxSteps := 400000) (disch := first | omega | assumption) only [e98, hlt, s47, z01, kv, rv, tv, lnv, lv0, clv, clr_i, clr_r, clr_n, clr_l, true_and, and_true, Option.toList_some, Option.toList_none, List.cons_append, List.nil_append, bI_0, bI_1, bI_or, ↓reduceIte, or_true, true_or, eq_self, irv, i0_add, not_true_eq_false, not_false_eq_true, Bool.false_eq_true, and_false, false_and, or_false, false_or, reduceCtorEq, nev, ngv, nc_or, in64, l64v, ite_not, ite_notP, up2_upr, upr_upr, upr_at, nI_cl, nI_ir, iav, nI_1, nI_mul6, nI_6mul, nI_lt2, nI_eq2, nI_neg, nI_m1, ltv, nI_z, upd_at, upd_off, upr_off, usv, upd_upd]
theorem l180 (d k n : Nat) (M : Mem) (Q : Option Value → Mem → Prop) (hk : k < 6) (hn : n ≤ 60) : ∀ j i, i + j = n → (Wp (d + 3) 180 39 [.ref 40, .int (nI k), .int (nI n), .int (yrF (M 43 (6 + k)) (M 41 (26 + k)) (M 41 0) i), .int (nI i)] [] M Q ↔ Q (some (.int (yrF (M 43 (6 + k)) (M 41 (26 + k)) (M 41 0) n + 10000))) M)
  | 0, i, hi => by
    obtain rfl : i = n := hi
    rw [h180_39]
    simp (maxSteps := 400000) (disch := first | omega | assumption) only [e180, Nat.lt_irrefl, kv, rv, tv, lnv, lv0, clv, clr_i, clr_r, clr_n, clr_l, true_and, and_true, Option.toList_some, Option.toList_none, List.cons_append, List.nil_append, bI_0, bI_1, bI_or, ↓reduceIte, or_true, true_or, eq_self, irv, i0_add, not_true_eq_false, not_false_eq_true, Bool.false_eq_true, and_false, false_and, or_false, false_or, reduceCtorEq, nev, ngv, nc_or, in64, l64v, ite_not, ite_notP, up2_upr, upr_upr, upr_at, nI_cl, nI_ir, iav, nI_1, nI_mul6, nI_6mul, nI_lt2, nI_eq2, nI_neg, nI_m1, ltv, nI_z, upd_at, upd_off, upr_off, usv, upd_upd]
  | j + 1, i, hi => by
    have hlt : i < n := by omega
    refine Iff.trans ?_ (l180 d k n M Q hk hn j (i + 1) (by omega))
    rw [h180_39, yrF]
    simp (maxSteps := 400000) (disch := first | omega | assumption) only [e180, hlt, s131, z01, kv, rv, tv, lnv, lv0, clv, clr_i, clr_r, clr_n, clr_l, true_and, and_true, Option.toList_some, Option.toList_none, List.cons_append, List.nil_append, bI_0, bI_1, bI_or, ↓reduceIte, or_true, true_or, eq_self, irv, i0_add, not_true_eq_false, not_false_eq_true, Bool.false_eq_true, and_false, false_and, or_false, false_or, reduceCtorEq, nev, ngv, nc_or, in64, l64v, ite_not, ite_notP, up2_upr, upr_upr, upr_at, nI_cl, nI_ir, iav, nI_1, nI_mul6, nI_6mul, nI_lt2, nI_eq2, nI_neg, nI_m1, ltv, nI_z, upd_at, upd_off, upr_off, usv, upd_upd]
theorem pair_year (d : Nat) (x y : Int32) (M : Mem) (hI : Inv M) : PairOK (d + 3) 98 180 [.ref 0, .int x, .int y, .null, .null] [.ref 40, .int x, .int y, .null, .null] M := by
  intro K hK
  obtain ⟨n, nc, np, B, hY, hL, -⟩ := id hI
  obtain ⟨⟨g1, g2, g3, g4⟩, ⟨h13, h4⟩, -, -, -, ⟨h0, -⟩, -, -, hD, -⟩ := hY
  obtain ⟨l1, l2, -⟩ := hL
  by_cases hx : rg x 0 (n - 1)
  · by_cases hy : rg y 0 60
    · obtain ⟨k, hk, rfl⟩ := rg_k (by omega) hx
      obtain ⟨m, hm, rfl⟩ := rg_nI (n := 60) hy
      have hk6 : k < 6 := by omega
      have e1 := fun Q => l98 d k m M Q hk6 hm m 0 (by omega)
      have e2 := fun Q => l180 d k m M Q hk6 hm m 0 (by omega)
      simp only [l2 k hk6, h0, (hD k hk).2.2.2.2.1] at e2
      simp only [yrF, nI_0] at e1 e2
      have e60 : ¬ 60 < m := by omega
      simp (maxSteps := 400000) (disch := first | omega | assumption) only [e98, e180, s77 _ n _ M _ g1 h13, s141 _ n _ M _ g1 h4, s112i, rg_cls, rg_ite, i32v, iff_true_intro hx, iff_true_intro hy, bI_T, z01, e60, e1, e2, l2 k hk6, kv, rv, tv, lnv, lv0, clv, clr_i, clr_r, clr_n, clr_l, true_and, and_true, Option.toList_some, Option.toList_none, List.cons_append, List.nil_append, bI_0, bI_1, bI_or, ↓reduceIte, or_true, true_or, eq_self, irv, i0_add, not_true_eq_false, not_false_eq_true, Bool.false_eq_true, and_false, false_and, or_false, false_or, reduceCtorEq, nev, ngv, nc_or, in64, l64v, ite_not, ite_notP, up2_upr, upr_upr, upr_at, nI_cl, nI_ir, iav, nI_1, nI_mul6, nI_6mul, nI_lt2, nI_eq2, nI_neg, nI_m1, ltv, nI_z, upd_at, upd_off, upr_off, usv, upd_upd]
      exact hK _ _ hI
    · simp (maxSteps := 400000) (disch := first | omega | assumption) only [e98, e180, s77 _ n _ M _ g1 h13, s141 _ n _ M _ g1 h4, s112i, rg_cls, rg_ite, i32v, iff_true_intro hx, iff_false_intro hy, bI_T, bI_F, z01, kv, rv, tv, lnv, lv0, clv, clr_i, clr_r, clr_n, clr_l, true_and, and_true, Option.toList_some, Option.toList_none, List.cons_append, List.nil_append, bI_0, bI_1, bI_or, ↓reduceIte, or_true, true_or, eq_self, irv, i0_add, not_true_eq_false, not_false_eq_true, Bool.false_eq_true, and_false, false_and, or_false, false_or, reduceCtorEq, nev, ngv, nc_or, in64, l64v, ite_not, ite_notP, up2_upr, upr_upr, upr_at, nI_cl, nI_ir, iav, nI_1, nI_mul6, nI_6mul, nI_lt2, nI_eq2, nI_neg, nI_m1, ltv, nI_z, upd_at, upd_off, upr_off, usv, upd_upd]
      exact hK _ _ hI
  · simp (maxSteps := 400000) (disch := first | omega | assumption) only [e98, e180, s77 _ n _ M _ g1 h13, s141 _ n _ M _ g1 h4, iff_false_intro hx, bI_F, kv, rv, tv, lnv, lv0, clv, clr_i, clr_r, clr_n, clr_l, true_and, and_true, Option.toList_some, Option.toList_none, List.cons_append, List.nil_append, bI_0, bI_1, bI_or, ↓reduceIte, or_true, true_or, eq_self, irv, i0_add, not_true_eq_false, not_false_eq_true, Bool.false_eq_true, and_false, false_and, or_false, false_or, reduceCtorEq, nev, ngv, nc_or, in64, l64v, ite_not, ite_notP, up2_upr, upr_upr, upr_at, nI_cl, nI_ir, iav, nI_1, nI_mul6, nI_6mul, nI_lt2, nI_eq2, nI_neg, nI_m1, ltv, nI_z, upd_at, upd_off, upr_off, usv, upd_upd]
    exact hK _ _ hI
def quF (q : Int32) : Nat → Int64
  | 0 => 1000000000
  | k + 1 => quF q k * (100 - q).toInt64 / 100
theorem lc100 : ((100 : Int64) = 0) ↔ False := ⟨fun h => absurd h (by decide), False.elim⟩
theorem l100 (d n : Nat) (q : Int32) (M : Mem) (Q : Option Value → Mem → Prop) (hn : n ≤ 60) : ∀ j i, i + j = n → (Wp d 100 30 [.ref 0, .int (nI n), .int q, .long (quF q i), .null, .int (nI i)] [] M Q ↔ Wp d 100 54 [.ref 0, .int (nI n), .int q, .long (quF q n), .null, .int (nI n)] [] M Q)
  | 0, i, hi => by
    obtain rfl : i = n := hi
    rw [h100_30]
    simp (maxSteps := 400000) (disch := first | omega | assumption) only [e100, Nat.lt_irrefl, kv, rv, tv, lnv, lv0, clv, clr_i, clr_r, clr_n, clr_l, true_and, and_true, Option.toList_some, Option.toList_none, List.cons_append, List.nil_append, bI_0, bI_1, bI_or, ↓reduceIte, or_true, true_or, eq_self, irv, i0_add, not_true_eq_false, not_false_eq_true, Bool.false_eq_true, and_false, false_and, or_false, false_or, reduceCtorEq, nev, ngv, nc_or, in64, l64v, ite_not, ite_notP, up2_upr, upr_upr, upr_at, nI_cl, nI_ir, iav, nI_1, nI_mul6, nI_6mul, nI_lt2, nI_eq2, nI_neg, nI_m1, ltv, nI_z, upd_at, upd_off, upr_off, usv, upd_upd]
  | j + 1, i, hi => by
    have hlt : i < n := by omega
    refine Iff.trans ?_ (l100 d n q M Q hn j (i + 1) (by omega))
    rw [h100_30, quF]
    simp (maxSteps := 400000) (disch := first | omega | assumption) only [e100, hlt, lc100, kv, rv, tv, lnv, lv0, clv, clr_i, clr_r, clr_n, clr_l, true_and, and_true, Option.toList_some, Option.toList_none, List.cons_append, List.nil_append, bI_0, bI_1, bI_or, ↓reduceIte, or_true, true_or, eq_self, irv, i0_add, not_true_eq_false, not_false_eq_true, Bool.false_eq_true, and_false, false_and, or_false, false_or, reduceCtorEq, nev, ngv, nc_or, in64, l64v, ite_not, ite_notP, up2_upr, upr_upr, upr_at, nI_cl, nI_ir, iav, nI_1, nI_mul6, nI_6mul, nI_lt2, nI_eq2, nI_neg, nI_m1, ltv, nI_z, upd_at, upd_off, upr_off, usv, upd_upd]
theorem l183 (d n : Nat) (q : Int32) (M : Mem) (Q : Option Value → Mem → Prop) (hn : n ≤ 60) : ∀ j i, i + j = n → (Wp d 183 34 [.ref 40, .int (nI n), .int q, .long (quF q i), .null, .int (nI i)] [] M Q ↔ Wp d 183 58 [.ref 40, .int (nI n), .int q, .long (quF q n), .null, .int (nI n)] [] M Q)
  | 0, i, hi => by
    obtain rfl : i = n := hi
    rw [h183_34]
    simp (maxSteps := 400000) (disch := first | omega | assumption) only [e183, Nat.lt_irrefl, kv, rv, tv, lnv, lv0, clv, clr_i, clr_r, clr_n, clr_l, true_and, and_true, Option.toList_some, Option.toList_none, List.cons_append, List.nil_append, bI_0, bI_1, bI_or, ↓reduceIte, or_true, true_or, eq_self, irv, i0_add, not_true_eq_false, not_false_eq_true, Bool.false_eq_true, and_false, false_and, or_false, false_or, reduceCtorEq, nev, ngv, nc_or, in64, l64v, ite_not, ite_notP, up2_upr, upr_upr, upr_at, nI_cl, nI_ir, iav, nI_1, nI_mul6, nI_6mul, nI_lt2, nI_eq2, nI_neg, nI_m1, ltv, nI_z, upd_at, upd_off, upr_off, usv, upd_upd]
  | j + 1, i, hi => by
    have hlt : i < n := by omega
    refine Iff.trans ?_ (l183 d n q M Q hn j (i + 1) (by omega))
    rw [h183_34, quF]
    simp (maxSteps := 400000) (disch := first | omega | assumption) only [e183, hlt, lc100, kv, rv, tv, lnv, lv0, clv, clr_i, clr_r, clr_n, clr_l, true_and, and_true, Option.toList_some, Option.toList_none, List.cons_append, List.nil_append, bI_0, bI_1, bI_or, ↓reduceIte, or_true, true_or, eq_self, irv, i0_add, not_true_eq_false, not_false_eq_true, Bool.false_eq_true, and_false, false_and, or_false, false_or, reduceCtorEq, nev, ngv, nc_or, in64, l64v, ite_not, ite_notP, up2_upr, upr_upr, upr_at, nI_cl, nI_ir, iav, nI_1, nI_mul6, nI_6mul, nI_lt2, nI_eq2, nI_neg, nI_m1, ltv, nI_z, upd_at, upd_off, upr_off, usv, upd_upd]
theorem pair_quiet (d : Nat) (x y : Int32) (M : Mem) (hI : Inv M) : PairOK (d + 1) 100 183 [.ref 0, .int x, .int y, .null, .null, .null] [.ref 40, .int x, .int y, .null, .null, .null] M := by
  intro K hK
  by_cases hx : rg x 0 60
  · by_cases hy : rg y 0 100
    · obtain ⟨m, hm, rfl⟩ := rg_nI (n := 60) hx
      have e1 := fun d Q => l100 d m y M Q hm m 0 (by omega)
      have e2 := fun d Q => l183 d m y M Q hm m 0 (by omega)
      simp only [quF, nI_0] at e1 e2
      have e60 : ¬ 60 < m := by omega
      simp (maxSteps := 400000) (disch := first | omega | assumption) only [e100, e183, s112i, rg_cls, rg_ite, i32v, iff_true_intro hx, iff_true_intro hy, bI_T, z01, e60, e1, e2, kv, rv, tv, lnv, lv0, clv, clr_i, clr_r, clr_n, clr_l, true_and, and_true, Option.toList_some, Option.toList_none, List.cons_append, List.nil_append, bI_0, bI_1, bI_or, ↓reduceIte, or_true, true_or, eq_self, irv, i0_add, not_true_eq_false, not_false_eq_true, Bool.false_eq_true, and_false, false_and, or_false, false_or, reduceCtorEq, nev, ngv, nc_or, in64, l64v, ite_not, ite_notP, up2_upr, upr_upr, upr_at, nI_cl, nI_ir, iav, nI_1, nI_mul6, nI_6mul, nI_lt2, nI_eq2, nI_neg, nI_m1, ltv, nI_z, upd_at, upd_off, upr_off, usv, upd_upd]
      exact hK _ _ hI
    · obtain ⟨m, hm, rfl⟩ := rg_nI (n := 60) hx
      have e60 : ¬ 60 < m := by omega
      simp (maxSteps := 400000) (disch := first | omega | assumption) only [e100, e183, s112i, rg_cls, rg_ite, i32v, iff_true_intro hx, iff_false_intro hy, bI_T, bI_F, z01, e60, kv, rv, tv, lnv, lv0, clv, clr_i, clr_r, clr_n, clr_l, true_and, and_true, Option.toList_some, Option.toList_none, List.cons_append, List.nil_append, bI_0, bI_1, bI_or, ↓reduceIte, or_true, true_or, eq_self, irv, i0_add, not_true_eq_false, not_false_eq_true, Bool.false_eq_true, and_false, false_and, or_false, false_or, reduceCtorEq, nev, ngv, nc_or, in64, l64v, ite_not, ite_notP, up2_upr, upr_upr, upr_at, nI_cl, nI_ir, iav, nI_1, nI_mul6, nI_6mul, nI_lt2, nI_eq2, nI_neg, nI_m1, ltv, nI_z, upd_at, upd_off, upr_off, usv, upd_upd]
      exact hK _ _ hI
  · by_cases hy : rg y 0 100
    · simp (maxSteps := 400000) (disch := first | omega | assumption) only [e100, e183, s112i, rg_cls, rg_ite, i32v, iff_false_intro hx, iff_true_intro hy, bI_T, bI_F, z01, kv, rv, tv, lnv, lv0, clv, clr_i, clr_r, clr_n, clr_l, true_and, and_true, Option.toList_some, Option.toList_none, List.cons_append, List.nil_append, bI_0, bI_1, bI_or, ↓reduceIte, or_true, true_or, eq_self, irv, i0_add, not_true_eq_false, not_false_eq_true, Bool.false_eq_true, and_false, false_and, or_false, false_or, reduceCtorEq, nev, ngv, nc_or, in64, l64v, ite_not, ite_notP, up2_upr, upr_upr, upr_at, nI_cl, nI_ir, iav, nI_1, nI_mul6, nI_6mul, nI_lt2, nI_eq2, nI_neg, nI_m1, ltv, nI_z, upd_at, upd_off, upr_off, usv, upd_upd]
      exact hK _ _ hI
    · simp (maxSteps := 400000) (disch := first | omega | assumption) only [e100, e183, s112i, rg_cls, rg_ite, i32v, iff_false_intro hx, iff_false_intro hy, bI_T, bI_F, z01, kv, rv, tv, lnv, lv0, clv, clr_i, clr_r, clr_n, clr_l, true_and, and_true, Option.toList_some, Option.toList_none, List.cons_append, List.nil_append, bI_0, bI_1, bI_or, ↓reduceIte, or_true, true_or, eq_self, irv, i0_add, not_true_eq_false, not_false_eq_true, Bool.false_eq_true, and_false, false_and, or_false, false_or, reduceCtorEq, nev, ngv, nc_or, in64, l64v, ite_not, ite_notP, up2_upr, upr_upr, upr_at, nI_cl, nI_ir, iav, nI_1, nI_mul6, nI_6mul, nI_lt2, nI_eq2, nI_neg, nI_m1, ltv, nI_z, upd_at, upd_off, upr_off, usv, upd_upd]
      exact hK _ _ hI
def sooF (cost : Nat → Int32) (nx : Int32 → Int32) : Nat → Nat → Int32 → Int32
  | 0, _, _ => -1
  | j + 1, i, c => if c < cost i then sooF cost nx j (i + 1) (nx c) else nI i
theorem sooF_c {f g : Nat → Int32} {nx : Int32 → Int32} {m : Nat} (h : ∀ i, i < m → f i = g i) : ∀ j i c, i + j = m → sooF f nx j i c = sooF g nx j i c
  | 0, _, _, _ => rfl
  | j + 1, i, c, hi => by rw [sooF, sooF, h i (by omega), sooF_c h j (i + 1) (nx c) (by omega)]
theorem l63 (d k c nc : Nat) (M : Mem) (Q : Option Value → Mem → Prop) (hk : k < 6) (hc : M 18 k = nI c) (hcn : c < nc) (hn : nc ≤ 4) (h12 : M 15 12 = nI nc) : ∀ j i x, i + j = 201 → (Wp (d + 3) 63 12 [.ref 14, .int (nI k), .int x, .int (nI i)] [] M Q ↔ Q (some (.int (sooF (fun i => cstC (M 19 k) (accF (M 16 c) (M 17 c) (M 24 3 + nI i))) (fun x => wkl x (M 20 k) (M 15 9) (M 25 k = 1)) j i x))) M)
  | 0, i, x, hi => by
    obtain rfl : i = 201 := hi
    have e : (200 : Int32) < nI 201 ↔ True := iff_true_intro (by decide)
    rw [h63_12, sooF]
    simp (maxSteps := 400000) (disch := first | omega | assumption) only [e63, e, kv, rv, tv, lnv, lv0, clv, clr_i, clr_r, clr_n, clr_l, true_and, and_true, Option.toList_some, Option.toList_none, List.cons_append, List.nil_append, bI_0, bI_1, bI_or, ↓reduceIte, or_true, true_or, eq_self, irv, i0_add, not_true_eq_false, not_false_eq_true, Bool.false_eq_true, and_false, false_and, or_false, false_or, reduceCtorEq, nev, ngv, nc_or, in64, l64v, ite_not, ite_notP, up2_upr, upr_upr, upr_at, nI_cl, nI_ir, iav, nI_1, nI_mul6, nI_6mul, nI_lt2, nI_eq2, nI_neg, nI_m1, ltv, nI_z, upd_at, upd_off, upr_off, usv, upd_upd]
  | j + 1, i, x, hi => by
    have e : (200 : Int32) < nI i ↔ False := iff_false_intro (fun z => by have := (nI_lt2 (a := 200) (by omega) (by omega : i < 2147483648)).mp z; omega)
    rw [h63_12, sooF]
    have e50 := fun d w Q => s50 d k c nc w M Q hk hc hcn hn h12
    by_cases h : x < cstC (M 19 k) (accF (M 16 c) (M 17 c) (M 24 3 + nI i))
    · rw [if_pos h]
      refine Iff.trans ?_ (l63 d k c nc M Q hk hc hcn hn h12 j (i + 1) _ (by omega))
      by_cases h1 : M 25 k = 1
      · simp (maxSteps := 400000) (disch := first | omega | assumption) only [e63, e, e50, h, h1, s47, z01, kv, rv, tv, lnv, lv0, clv, clr_i, clr_r, clr_n, clr_l, true_and, and_true, Option.toList_some, Option.toList_none, List.cons_append, List.nil_append, bI_0, bI_1, bI_or, ↓reduceIte, or_true, true_or, eq_self, irv, i0_add, not_true_eq_false, not_false_eq_true, Bool.false_eq_true, and_false, false_and, or_false, false_or, reduceCtorEq, nev, ngv, nc_or, in64, l64v, ite_not, ite_notP, up2_upr, upr_upr, upr_at, nI_cl, nI_ir, iav, nI_1, nI_mul6, nI_6mul, nI_lt2, nI_eq2, nI_neg, nI_m1, ltv, nI_z, upd_at, upd_off, upr_off, usv, upd_upd]
      · simp (maxSteps := 400000) (disch := first | omega | assumption) only [e63, e, e50, h, h1, s47, z01, kv, rv, tv, lnv, lv0, clv, clr_i, clr_r, clr_n, clr_l, true_and, and_true, Option.toList_some, Option.toList_none, List.cons_append, List.nil_append, bI_0, bI_1, bI_or, ↓reduceIte, or_true, true_or, eq_self, irv, i0_add, not_true_eq_false, not_false_eq_true, Bool.false_eq_true, and_false, false_and, or_false, false_or, reduceCtorEq, nev, ngv, nc_or, in64, l64v, ite_not, ite_notP, up2_upr, upr_upr, upr_at, nI_cl, nI_ir, iav, nI_1, nI_mul6, nI_6mul, nI_lt2, nI_eq2, nI_neg, nI_m1, ltv, nI_z, upd_at, upd_off, upr_off, usv, upd_upd]
    · rw [if_neg h]
      simp (maxSteps := 400000) (disch := first | omega | assumption) only [e63, e, e50, h, kv, rv, tv, lnv, lv0, clv, clr_i, clr_r, clr_n, clr_l, true_and, and_true, Option.toList_some, Option.toList_none, List.cons_append, List.nil_append, bI_0, bI_1, bI_or, ↓reduceIte, or_true, true_or, eq_self, irv, i0_add, not_true_eq_false, not_false_eq_true, Bool.false_eq_true, and_false, false_and, or_false, false_or, reduceCtorEq, nev, ngv, nc_or, in64, l64v, ite_not, ite_notP, up2_upr, upr_upr, upr_at, nI_cl, nI_ir, iav, nI_1, nI_mul6, nI_6mul, nI_lt2, nI_eq2, nI_neg, nI_m1, ltv, nI_z, upd_at, upd_off, upr_off, usv, upd_upd]
theorem l170 (d k c : Nat) (M : Mem) (Q : Option Value → Mem → Prop) (hk : k < 6) (hc : M 41 (14 + k) = nI c) (hc4 : c < 4) : ∀ j i x, i + j = 201 → (Wp (d + 3) 170 34 [.ref 40, .int (nI k), .int x, .int (nI i)] [] M Q ↔ Q (some (.int (sooF (fun i => cstF (M 41 (20 + k)) (accF (M 41 (6 + c)) (M 41 (10 + c)) (M 43 48 + nI i))) (fun x => wkl x (M 41 (26 + k)) (M 41 0) (M 43 k = 1)) j i x))) M)
  | 0, i, x, hi => by
    obtain rfl : i = 201 := hi
    have e : nI 201 < 201 ↔ False := iff_false_intro (by decide)
    rw [h170_34, sooF]
    simp (maxSteps := 400000) (disch := first | omega | assumption) only [e170, e, kv, rv, tv, lnv, lv0, clv, clr_i, clr_r, clr_n, clr_l, true_and, and_true, Option.toList_some, Option.toList_none, List.cons_append, List.nil_append, bI_0, bI_1, bI_or, ↓reduceIte, or_true, true_or, eq_self, irv, i0_add, not_true_eq_false, not_false_eq_true, Bool.false_eq_true, and_false, false_and, or_false, false_or, reduceCtorEq, nev, ngv, nc_or, in64, l64v, ite_not, ite_notP, up2_upr, upr_upr, upr_at, nI_cl, nI_ir, iav, nI_1, nI_mul6, nI_6mul, nI_lt2, nI_eq2, nI_neg, nI_m1, ltv, nI_z, upd_at, upd_off, upr_off, usv, upd_upd]
  | j + 1, i, x, hi => by
    have e : nI i < 201 ↔ True := iff_true_intro ((nI_lt2 (by omega) (by omega : 201 < 2147483648)).mpr (by omega))
    rw [h170_34, sooF]
    have e143 := fun d w Q => s143 d k c w M Q hk hc hc4
    by_cases h : x < cstF (M 41 (20 + k)) (accF (M 41 (6 + c)) (M 41 (10 + c)) (M 43 48 + nI i))
    · rw [if_pos h]
      refine Iff.trans ?_ (l170 d k c M Q hk hc hc4 j (i + 1) _ (by omega))
      by_cases h1 : M 43 k = 1
      · simp (maxSteps := 400000) (disch := first | omega | assumption) only [e170, e, e143, h, h1, s131, z01, kv, rv, tv, lnv, lv0, clv, clr_i, clr_r, clr_n, clr_l, true_and, and_true, Option.toList_some, Option.toList_none, List.cons_append, List.nil_append, bI_0, bI_1, bI_or, ↓reduceIte, or_true, true_or, eq_self, irv, i0_add, not_true_eq_false, not_false_eq_true, Bool.false_eq_true, and_false, false_and, or_false, false_or, reduceCtorEq, nev, ngv, nc_or, in64, l64v, ite_not, ite_notP, up2_upr, upr_upr, upr_at, nI_cl, nI_ir, iav, nI_1, nI_mul6, nI_6mul, nI_lt2, nI_eq2, nI_neg, nI_m1, ltv, nI_z, upd_at, upd_off, upr_off, usv, upd_upd]
      · simp (maxSteps := 400000) (disch := first | omega | assumption) only [e170, e, e143, h, h1, s131, z01, kv, rv, tv, lnv, lv0, clv, clr_i, clr_r, clr_n, clr_l, true_and, and_true, Option.toList_some, Option.toList_none, List.cons_append, List.nil_append, bI_0, bI_1, bI_or, ↓reduceIte, or_true, true_or, eq_self, irv, i0_add, not_true_eq_false, not_false_eq_true, Bool.false_eq_true, and_false, false_and, or_false, false_or, reduceCtorEq, nev, ngv, nc_or, in64, l64v, ite_not, ite_notP, up2_upr, upr_upr, upr_at, nI_cl, nI_ir, iav, nI_1, nI_mul6, nI_6mul, nI_lt2, nI_eq2, nI_neg, nI_m1, ltv, nI_z, upd_at, upd_off, upr_off, usv, upd_upd]
    · rw [if_neg h]
      simp (maxSteps := 400000) (disch := first | omega | assumption) only [e170, e, e143, h, kv, rv, tv, lnv, lv0, clv, clr_i, clr_r, clr_n, clr_l, true_and, and_true, Option.toList_some, Option.toList_none, List.cons_append, List.nil_append, bI_0, bI_1, bI_or, ↓reduceIte, or_true, true_or, eq_self, irv, i0_add, not_true_eq_false, not_false_eq_true, Bool.false_eq_true, and_false, false_and, or_false, false_or, reduceCtorEq, nev, ngv, nc_or, in64, l64v, ite_not, ite_notP, up2_upr, upr_upr, upr_at, nI_cl, nI_ir, iav, nI_1, nI_mul6, nI_6mul, nI_lt2, nI_eq2, nI_neg, nI_m1, ltv, nI_z, upd_at, upd_off, upr_off, usv, upd_upd]
