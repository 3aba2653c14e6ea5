/-! part 28: soon, cheapest, chain -/
theorem cst_w {M : Mem} {n nc np B k c w i : Nat} (hY : YR n nc np B M) (hk : k < n) (hc : c < nc) (hw : w + i ≤ 10000) (h3 : M 24 3 = nI w) (h48 : M 43 48 = M 24 3) : cstF (M 41 (20 + k)) (accF (M 41 (6 + c)) (M 41 (10 + c)) (M 43 48 + nI i)) = cstC (M 19 k) (accF (M 16 c) (M 17 c) (M 24 3 + nI i)) ∧ ∃ a, a ≤ 999 ∧ cstC (M 19 k) (accF (M 16 c) (M 17 c) (M 24 3 + nI i)) = nI a := by
  obtain ⟨-, -, -, -, -, -, -, hC, hD, -⟩ := hY
  obtain ⟨d1, -, d3, d4, -⟩ := hD k hk
  obtain ⟨c1, c2, c3, c4⟩ := hC c hc
  rw [h48, h3, nI_add, d3, c1, c2]
  exact cst_eq (w := w + i) d4 c3 c4 hw
theorem pair_soon (d : Nat) (x : Int32) (M : Mem) (hI : Inv M) : PairOK (d + 5) 94 170 [.ref 0, .int x] [.ref 40, .int x, .null, .null] M := by
  intro K hK
  obtain ⟨n, nc, np, B, hY, hL, -⟩ := id hI
  obtain ⟨⟨g1, g2, g3, g4⟩, ⟨h13, h4⟩, ⟨h12, -⟩, -, -, ⟨h0, -⟩, -, hC, hD, -⟩ := id hY
  obtain ⟨l1, l2, -, ⟨l48, -⟩, -, -, -, -, ⟨w, a, hw, -, lw, -⟩, -⟩ := hL
  by_cases hx : rg x 0 (n - 1)
  · obtain ⟨k, hk, rfl⟩ := rg_k (by omega) hx
    have hk6 : k < 6 := by omega
    obtain ⟨d1, ⟨c, hc, d2⟩, d3, d4, d5, d6⟩ := hD k hk
    have d2m : M 41 (14 + k) = nI c := d1.trans d2
    have e1 := fun d x Q => l63 d k c nc M Q hk6 d2 hc g2 h12 201 0 x (by omega)
    have e2 := fun d x Q => l170 d k c M Q hk6 d2m (by omega) 201 0 x (by omega)
    have ec : ∀ x, sooF (fun i => cstF (M 41 (20 + k)) (accF (M 41 (6 + c)) (M 41 (10 + c)) (M 43 48 + nI i))) (fun x => wkl x (M 41 (26 + k)) (M 41 0) (M 43 k = 1)) 201 0 x = sooF (fun i => cstC (M 19 k) (accF (M 16 c) (M 17 c) (M 24 3 + nI i))) (fun x => wkl x (M 20 k) (M 15 9) (M 25 k = 1)) 201 0 x := fun x => by
      rw [d5, h0]
      simp only [l1 k hk6]
      exact sooF_c (m := 201) (fun i hi => (cst_w hY hk hc (by omega) lw l48).1) 201 0 x (by omega)
    simp only [ec] at e2
    generalize sooF (fun i => cstC (M 19 k) (accF (M 16 c) (M 17 c) (M 24 3 + nI i))) (fun x => wkl x (M 20 k) (M 15 9) (M 25 k = 1)) 201 0 = F at e1 e2
    clear ec
    simp only [nI_0] at e1 e2
    by_cases hb : M 25 k = 1 ∨ M 25 k = 0
    · simp (maxSteps := 400000) (disch := first | omega | assumption) only [e94, e63, e170, s77 _ n _ M _ g1 h13, s141 _ n _ M _ g1 h4, iff_true_intro hx, s52, s150, l1 k hk6, iff_true_intro hb, bI_T, z01, e1, e2, l2 k hk6, kv, rv, tv, lnv, lv0, clv, clr_i, clr_r, clr_n, clr_l, true_and, and_true, Option.toList_some, Option.toList_none, List.cons_append, List.nil_append, bI_0, bI_1, bI_or, ↓reduceIte, or_true, true_or, eq_self, irv, i0_add, not_true_eq_false, not_false_eq_true, Bool.false_eq_true, and_false, false_and, or_false, false_or, reduceCtorEq, nev, ngv, nc_or, in64, l64v, ite_not, ite_notP, up2_upr, upr_upr, upr_at, nI_cl, nI_ir, iav, nI_1, nI_mul6, nI_6mul, nI_lt2, nI_eq2, nI_neg, nI_m1, ltv, nI_z, upd_at, upd_off, upr_off, usv, upd_upd]
      exact hK _ _ hI
    · simp (maxSteps := 400000) (disch := first | omega | assumption) only [e94, e170, s77 _ n _ M _ g1 h13, s141 _ n _ M _ g1 h4, iff_true_intro hx, s52, s150, l1 k hk6, iff_false_intro hb, bI_T, bI_F, z01, kv, rv, tv, lnv, lv0, clv, clr_i, clr_r, clr_n, clr_l, true_and, and_true, Option.toList_some, Option.toList_none, List.cons_append, List.nil_append, bI_0, bI_1, bI_or, ↓reduceIte, or_true, true_or, eq_self, irv, i0_add, not_true_eq_false, not_false_eq_true, Bool.false_eq_true, and_false, false_and, or_false, false_or, reduceCtorEq, nev, ngv, nc_or, in64, l64v, ite_not, ite_notP, up2_upr, upr_upr, upr_at, nI_cl, nI_ir, iav, nI_1, nI_mul6, nI_6mul, nI_lt2, nI_eq2, nI_neg, nI_m1, ltv, nI_z, upd_at, upd_off, upr_off, usv, upd_upd]
      exact hK _ _ hI
  · simp (maxSteps := 400000) (disch := first | omega | assumption) only [e94, e170, s77 _ n _ M _ g1 h13, s141 _ n _ M _ g1 h4, iff_false_intro hx, bI_F, kv, rv, tv, lnv, lv0, clv, clr_i, clr_r, clr_n, clr_l, true_and, and_true, Option.toList_some, Option.toList_none, List.cons_append, List.nil_append, bI_0, bI_1, bI_or, ↓reduceIte, or_true, true_or, eq_self, irv, i0_add, not_true_eq_false, not_false_eq_true, Bool.false_eq_true, and_false, false_and, or_false, false_or, reduceCtorEq, nev, ngv, nc_or, in64, l64v, ite_not, ite_notP, up2_upr, upr_upr, upr_at, nI_cl, nI_ir, iav, nI_1, nI_mul6, nI_6mul, nI_lt2, nI_eq2, nI_neg, nI_m1, ltv, nI_z, upd_at, upd_off, upr_off, usv, upd_upd]
    exact hK _ _ hI
def lsB (o : Option (Nat × Int32)) (b : Int32) : Prop := match o with
  | none => True
  | some p => b < p.2
def mF (o : Option (Nat × Int32)) : Int32 := match o with
  | none => -1
  | some p => nI p.1
def mLs (o : Option (Nat × Int32)) (z : Int32) : Int32 := match o with
  | none => z
  | some p => p.2
/-- the cheapest one: what was found, step by step -/
noncomputable def chF (cost by_ : Nat → Int32) (nx : Int32 → Int32) : Nat → Nat → Int32 → Option (Nat × Int32) → Option (Nat × Int32)
  | 0, _, _, o => o
  | j + 1, i, c, o => chF cost by_ nx j (i + 1) (nx c) (@ite _ (¬ c < cost i ∧ lsB o (by_ i)) (Classical.propDecidable _) (some (i, by_ i)) o)
theorem chF_c {f f' g g' : Nat → Int32} {nx : Int32 → Int32} {m : Nat} (h : ∀ i, i < m → f i = g i ∧ f' i = g' i) : ∀ j i c o, i + j = m → chF f f' nx j i c o = chF g g' nx j i c o
  | 0, _, _, _, _ => rfl
  | j + 1, i, c, o, hi => by rw [chF, chF, (h i (by omega)).1, (h i (by omega)).2, chF_c h j (i + 1) _ _ (by omega)]
theorem chF_ok {cost by_ : Nat → Int32} {nx : Int32 → Int32} : ∀ j i c o, (∀ p, o = some p → p.1 < i ∧ p.2 = by_ p.1) → ∀ p, chF cost by_ nx j i c o = some p → p.1 < i + j ∧ p.2 = by_ p.1
  | 0, i, c, o, h, p, e => h p e
  | j + 1, i, c, o, h, p, e => by
    rw [chF] at e
    have := chF_ok j (i + 1) _ _ (fun p' e' => ?_) p e
    · exact ⟨by omega, this.2⟩
    · split at e'
      · cases e'
        exact ⟨by simp, rfl⟩
      · have := h p' e'
        exact ⟨by omega, this.2⟩
def byC (M : Mem) (k c i : Nat) : Int32 := (if M 25 k = 1 then M 15 9 * nI i else 0) + cstC (M 19 k) (accF (M 16 c) (M 17 c) (M 24 3 + nI i))
theorem s65 (d k c nc i : Nat) (M : Mem) (Q : Option Value → Mem → Prop) (hk : k < 6) (hc : M 18 k = nI c) (hcn : c < nc) (hn : nc ≤ 4) (h12 : M 15 12 = nI nc) : Wp (d + 3) 65 0 [.ref 14, .int (nI k), .int (nI i), .null] [] M Q ↔ Q (some (.int (byC M k c i))) M := by
  have e50 := fun d w Q => s50 d k c nc w M Q hk hc hcn hn h12
  unfold byC
  by_cases h : M 25 k = 1
  · simp (maxSteps := 400000) (disch := first | omega | assumption) only [e65, h, e50, kv, rv, tv, lnv, lv0, clv, clr_i, clr_r, clr_n, clr_l, true_and, and_true, Option.toList_some, Option.toList_none, List.cons_append, List.nil_append, bI_0, bI_1, bI_or, ↓reduceIte, or_true, true_or, eq_self, irv, i0_add, not_true_eq_false, not_false_eq_true, Bool.false_eq_true, and_false, false_and, or_false, false_or, reduceCtorEq, nev, ngv, nc_or, in64, l64v, ite_not, ite_notP, up2_upr, upr_upr, upr_at, nI_cl, nI_ir, iav, nI_1, nI_mul6, nI_6mul, nI_lt2, nI_eq2, nI_neg, nI_m1, ltv, nI_z, upd_at, upd_off, upr_off, usv, upd_upd]
  · simp (maxSteps := 400000) (disch := first | omega | assumption) only [e65, h, e50, kv, rv, tv, lnv, lv0, clv, clr_i, clr_r, clr_n, clr_l, true_and, and_true, Option.toList_some, Option.toList_none, List.cons_append, List.nil_append, bI_0, bI_1, bI_or, ↓reduceIte, or_true, true_or, eq_self, irv, i0_add, not_true_eq_false, not_false_eq_true, Bool.false_eq_true, and_false, false_and, or_false, false_or, reduceCtorEq, nev, ngv, nc_or, in64, l64v, ite_not, ite_notP, up2_upr, upr_upr, upr_at, nI_cl, nI_ir, iav, nI_1, nI_mul6, nI_6mul, nI_lt2, nI_eq2, nI_neg, nI_m1, ltv, nI_z, upd_at, upd_off, upr_off, usv, upd_upd]
theorem m60 {i : Nat} : i ≤ 60 → ((60 : Int32) < nI i ↔ False) := fun h => iff_false_intro (fun z => by have := (nI_lt2 (a := 60) (by omega) (by omega : i < 2147483648)).mp z; omega)
theorem l64 (d k c nc : Nat) (M : Mem) (Q : Option Value → Mem → Prop) (hk : k < 6) (hc : M 18 k = nI c) (hcn : c < nc) (hn : nc ≤ 4) (h12 : M 15 12 = nI nc) : ∀ j i x o y z, i + j = 61 → (∀ p, o = some p → p.1 < 61) → (Wp (d + 4) 64 18 [.ref 14, .int (nI k), .int x, .int (mF o), .int (mLs o 0), .int (nI i), y, z] [] M Q ↔ Q (some (.int (mF (chF (fun i => cstC (M 19 k) (accF (M 16 c) (M 17 c) (M 24 3 + nI i))) (byC M k c) (fun x => wkl x (M 20 k) (M 15 9) (M 25 k = 1)) j i x o)))) M)
  | 0, i, x, o, y, z, hi, ho => by
    obtain rfl : i = 61 := hi
    have e : (60 : Int32) < nI 61 ↔ True := iff_true_intro (by decide)
    rw [h64_18, chF]
    simp (maxSteps := 400000) (disch := first | omega | assumption) only [e64_0, e64_1, e, kv, rv, tv, lnv, lv0, clv, clr_i, clr_r, clr_n, clr_l, true_and, and_true, Option.toList_some, Option.toList_none, List.cons_append, List.nil_append, bI_0, bI_1, bI_or, ↓reduceIte, or_true, true_or, eq_self, irv, i0_add, not_true_eq_false, not_false_eq_true, Bool.false_eq_true, and_false, false_and, or_false, false_or, reduceCtorEq, nev, ngv, nc_or, in64, l64v, ite_not, ite_notP, up2_upr, upr_upr, upr_at, nI_cl, nI_ir, iav, nI_1, nI_mul6, nI_6mul, nI_lt2, nI_eq2, nI_neg, nI_m1, ltv, nI_z, upd_at, upd_off, upr_off, usv, upd_upd]
  | j + 1, i, x, o, y, z, hi, ho => by
    have e := m60 (i := i) (by omega)
    rw [h64_18, chF]
    have e50 := fun d w Q => s50 d k c nc w M Q hk hc hcn hn h12
    have e65 := fun d Q => s65 d k c nc i M Q hk hc hcn hn h12
    have ih := fun x o y z ho => l64 d k c nc M Q hk hc hcn hn h12 j (i + 1) x o y z (by omega) ho
    generalize hb : byC M k c i = b at e65 ⊢
    by_cases h : x < cstC (M 19 k) (accF (M 16 c) (M 17 c) (M 24 3 + nI i))
    · rw [if_neg (fun w => w.1 h)]
      refine Iff.trans ?_ (ih _ o (.int b) (.int 0) ho)
      by_cases h1 : M 25 k = 1
      · simp (maxSteps := 400000) (disch := first | omega | assumption) only [e64_0, e64_1, e, e50, e65, h, h1, s47, z01, kv, rv, tv, lnv, lv0, clv, clr_i, clr_r, clr_n, clr_l, true_and, and_true, Option.toList_some, Option.toList_none, List.cons_append, List.nil_append, bI_0, bI_1, bI_or, ↓reduceIte, or_true, true_or, eq_self, irv, i0_add, not_true_eq_false, not_false_eq_true, Bool.false_eq_true, and_false, false_and, or_false, false_or, reduceCtorEq, nev, ngv, nc_or, in64, l64v, ite_not, ite_notP, up2_upr, upr_upr, upr_at, nI_cl, nI_ir, iav, nI_1, nI_mul6, nI_6mul, nI_lt2, nI_eq2, nI_neg, nI_m1, ltv, nI_z, upd_at, upd_off, upr_off, usv, upd_upd]
      · simp (maxSteps := 400000) (disch := first | omega | assumption) only [e64_0, e64_1, e, e50, e65, h, h1, s47, z01, kv, rv, tv, lnv, lv0, clv, clr_i, clr_r, clr_n, clr_l, true_and, and_true, Option.toList_some, Option.toList_none, List.cons_append, List.nil_append, bI_0, bI_1, bI_or, ↓reduceIte, or_true, true_or, eq_self, irv, i0_add, not_true_eq_false, not_false_eq_true, Bool.false_eq_true, and_false, false_and, or_false, false_or, reduceCtorEq, nev, ngv, nc_or, in64, l64v, ite_not, ite_notP, up2_upr, upr_upr, upr_at, nI_cl, nI_ir, iav, nI_1, nI_mul6, nI_6mul, nI_lt2, nI_eq2, nI_neg, nI_m1, ltv, nI_z, upd_at, upd_off, upr_off, usv, upd_upd]
    · cases o with
      | none =>
        rw [if_pos ⟨h, trivial⟩]
        refine Iff.trans ?_ (ih _ (some (i, b)) (.int b) (.int 1) (fun p e => by cases e; show i < 61; omega))
        by_cases h1 : M 25 k = 1
        · simp (maxSteps := 400000) (disch := first | omega | assumption) only [e64_0, e64_1, e, e50, e65, h, h1, s47, z01, mF, mLs, kv, rv, tv, lnv, lv0, clv, clr_i, clr_r, clr_n, clr_l, true_and, and_true, Option.toList_some, Option.toList_none, List.cons_append, List.nil_append, bI_0, bI_1, bI_or, ↓reduceIte, or_true, true_or, eq_self, irv, i0_add, not_true_eq_false, not_false_eq_true, Bool.false_eq_true, and_false, false_and, or_false, false_or, reduceCtorEq, nev, ngv, nc_or, in64, l64v, ite_not, ite_notP, up2_upr, upr_upr, upr_at, nI_cl, nI_ir, iav, nI_1, nI_mul6, nI_6mul, nI_lt2, nI_eq2, nI_neg, nI_m1, ltv, nI_z, upd_at, upd_off, upr_off, usv, upd_upd]
        · simp (maxSteps := 400000) (disch := first | omega | assumption) only [e64_0, e64_1, e, e50, e65, h, h1, s47, z01, mF, mLs, kv, rv, tv, lnv, lv0, clv, clr_i, clr_r, clr_n, clr_l, true_and, and_true, Option.toList_some, Option.toList_none, List.cons_append, List.nil_append, bI_0, bI_1, bI_or, ↓reduceIte, or_true, true_or, eq_self, irv, i0_add, not_true_eq_false, not_false_eq_true, Bool.false_eq_true, and_false, false_and, or_false, false_or, reduceCtorEq, nev, ngv, nc_or, in64, l64v, ite_not, ite_notP, up2_upr, upr_upr, upr_at, nI_cl, nI_ir, iav, nI_1, nI_mul6, nI_6mul, nI_lt2, nI_eq2, nI_neg, nI_m1, ltv, nI_z, upd_at, upd_off, upr_off, usv, upd_upd]
      | some p =>
        have hm : nI p.1 = -1 ↔ False := nI_m1 (by have := ho p rfl; omega)
        by_cases h2 : b < p.2
        · rw [if_pos ⟨h, h2⟩]
          refine Iff.trans ?_ (ih _ (some (i, b)) (.int b) (.int 1) (fun p e => by cases e; show i < 61; omega))
          by_cases h1 : M 25 k = 1
          · simp (maxSteps := 400000) (disch := first | omega | assumption) only [e64_0, e64_1, e, e50, e65, h, h1, s47, z01, mF, mLs, h2, hm, kv, rv, tv, lnv, lv0, clv, clr_i, clr_r, clr_n, clr_l, true_and, and_true, Option.toList_some, Option.toList_none, List.cons_append, List.nil_append, bI_0, bI_1, bI_or, ↓reduceIte, or_true, true_or, eq_self, irv, i0_add, not_true_eq_false, not_false_eq_true, Bool.false_eq_true, and_false, false_and, or_false, false_or, reduceCtorEq, nev, ngv, nc_or, in64, l64v, ite_not, ite_notP, up2_upr, upr_upr, upr_at, nI_cl, nI_ir, iav, nI_1, nI_mul6, nI_6mul, nI_lt2, nI_eq2, nI_neg, nI_m1, ltv, nI_z, upd_at, upd_off, upr_off, usv, upd_upd]
          · simp (maxSteps := 400000) (disch := first | omega | assumption) only [e64_0, e64_1, e, e50, e65, h, h1, s47, z01, mF, mLs, h2, hm, kv, rv, tv, lnv, lv0, clv, clr_i, clr_r, clr_n, clr_l, true_and, and_true, Option.toList_some, Option.toList_none, List.cons_append, List.nil_append, bI_0, bI_1, bI_or, ↓reduceIte, or_true, true_or, eq_self, irv, i0_add, not_true_eq_false, not_false_eq_true, Bool.false_eq_true, and_false, false_and, or_false, false_or, reduceCtorEq, nev, ngv, nc_or, in64, l64v, ite_not, ite_notP, up2_upr, upr_upr, upr_at, nI_cl, nI_ir, iav, nI_1, nI_mul6, nI_6mul, nI_lt2, nI_eq2, nI_neg, nI_m1, ltv, nI_z, upd_at, upd_off, upr_off, usv, upd_upd]
        · rw [if_neg (fun w => h2 w.2)]
          refine Iff.trans ?_ (ih _ (some p) (.int b) (.int 1) ho)
          by_cases h1 : M 25 k = 1
          · simp (maxSteps := 400000) (disch := first | omega | assumption) only [e64_0, e64_1, e, e50, e65, h, h1, s47, z01, mF, mLs, h2, hm, kv, rv, tv, lnv, lv0, clv, clr_i, clr_r, clr_n, clr_l, true_and, and_true, Option.toList_some, Option.toList_none, List.cons_append, List.nil_append, bI_0, bI_1, bI_or, ↓reduceIte, or_true, true_or, eq_self, irv, i0_add, not_true_eq_false, not_false_eq_true, Bool.false_eq_true, and_false, false_and, or_false, false_or, reduceCtorEq, nev, ngv, nc_or, in64, l64v, ite_not, ite_notP, up2_upr, upr_upr, upr_at, nI_cl, nI_ir, iav, nI_1, nI_mul6, nI_6mul, nI_lt2, nI_eq2, nI_neg, nI_m1, ltv, nI_z, upd_at, upd_off, upr_off, usv, upd_upd]
          · simp (maxSteps := 400000) (disch := first | omega | assumption) only [e64_0, e64_1, e, e50, e65, h, h1, s47, z01, mF, mLs, h2, hm, kv, rv, tv, lnv, lv0, clv, clr_i, clr_r, clr_n, clr_l, true_and, and_true, Option.toList_some, Option.toList_none, List.cons_append, List.nil_append, bI_0, bI_1, bI_or, ↓reduceIte, or_true, true_or, eq_self, irv, i0_add, not_true_eq_false, not_false_eq_true, Bool.false_eq_true, and_false, false_and, or_false, false_or, reduceCtorEq, nev, ngv, nc_or, in64, l64v, ite_not, ite_notP, up2_upr, upr_upr, upr_at, nI_cl, nI_ir, iav, nI_1, nI_mul6, nI_6mul, nI_lt2, nI_eq2, nI_neg, nI_m1, ltv, nI_z, upd_at, upd_off, upr_off, usv, upd_upd]
def byM (M : Mem) (k c i : Nat) : Int32 := cstF (M 41 (20 + k)) (accF (M 41 (6 + c)) (M 41 (10 + c)) (M 43 48 + nI i)) + (if M 43 k = 1 then nI i * M 41 0 else 0)
def ansM (o : Option (Nat × Int32)) (w : Int32) : Int32 := if mF o = -1 ∨ w = 0 then mF o else mLs o 100000000
theorem l171 (d k c : Nat) (w : Int32) (M : Mem) (Q : Option Value → Mem → Prop) (hk : k < 6) (hc : M 41 (14 + k) = nI c) (hc4 : c < 4) (hf : ∀ i, i ≤ 60 → byM M k c i < 100000000) : ∀ j i x o y z, i + j = 61 → (Wp (d + 3) 171 75 [.ref 40, .int (nI k), .int w, .int (bI (M 43 k = 1)), .int x, .int (mF o), .int (mLs o 100000000), .int (nI i), y, z] [] M Q ↔ Q (some (.int (ansM (chF (fun i => cstF (M 41 (20 + k)) (accF (M 41 (6 + c)) (M 41 (10 + c)) (M 43 48 + nI i))) (byM M k c) (fun x => wkl x (M 41 (26 + k)) (M 41 0) (M 43 k = 1)) j i x o) w))) M)
  | 0, i, x, o, y, z, hi => by
    obtain rfl : i = 61 := hi
    have e : nI 61 < 61 ↔ False := iff_false_intro (by decide)
    rw [h171_75, chF]
    by_cases h1 : mF o = -1
    · simp (maxSteps := 400000) (disch := first | omega | assumption) only [e171_0, e171_1, e, iff_true_intro h1, ansM, kv, rv, tv, lnv, lv0, clv, clr_i, clr_r, clr_n, clr_l, true_and, and_true, Option.toList_some, Option.toList_none, List.cons_append, List.nil_append, bI_0, bI_1, bI_or, ↓reduceIte, or_true, true_or, eq_self, irv, i0_add, not_true_eq_false, not_false_eq_true, Bool.false_eq_true, and_false, false_and, or_false, false_or, reduceCtorEq, nev, ngv, nc_or, in64, l64v, ite_not, ite_notP, up2_upr, upr_upr, upr_at, nI_cl, nI_ir, iav, nI_1, nI_mul6, nI_6mul, nI_lt2, nI_eq2, nI_neg, nI_m1, ltv, nI_z, upd_at, upd_off, upr_off, usv, upd_upd]
    · by_cases h2 : w = 0
      · simp (maxSteps := 400000) (disch := first | omega | assumption) only [e171_0, e171_1, e, iff_false_intro h1, iff_true_intro h2, ansM, kv, rv, tv, lnv, lv0, clv, clr_i, clr_r, clr_n, clr_l, true_and, and_true, Option.toList_some, Option.toList_none, List.cons_append, List.nil_append, bI_0, bI_1, bI_or, ↓reduceIte, or_true, true_or, eq_self, irv, i0_add, not_true_eq_false, not_false_eq_true, Bool.false_eq_true, and_false, false_and, or_false, false_or, reduceCtorEq, nev, ngv, nc_or, in64, l64v, ite_not, ite_notP, up2_upr, upr_upr, upr_at, nI_cl, nI_ir, iav, nI_1, nI_mul6, nI_6mul, nI_lt2, nI_eq2, nI_neg, nI_m1, ltv, nI_z, upd_at, upd_off, upr_off, usv, upd_upd]
      · simp (maxSteps := 400000) (disch := first | omega | assumption) only [e171_0, e171_1, e, iff_false_intro h1, iff_false_intro h2, ansM, kv, rv, tv, lnv, lv0, clv, clr_i, clr_r, clr_n, clr_l, true_and, and_true, Option.toList_some, Option.toList_none, List.cons_append, List.nil_append, bI_0, bI_1, bI_or, ↓reduceIte, or_true, true_or, eq_self, irv, i0_add, not_true_eq_false, not_false_eq_true, Bool.false_eq_true, and_false, false_and, or_false, false_or, reduceCtorEq, nev, ngv, nc_or, in64, l64v, ite_not, ite_notP, up2_upr, upr_upr, upr_at, nI_cl, nI_ir, iav, nI_1, nI_mul6, nI_6mul, nI_lt2, nI_eq2, nI_neg, nI_m1, ltv, nI_z, upd_at, upd_off, upr_off, usv, upd_upd]
  | j + 1, i, x, o, y, z, hi => by
    have e : nI i < 61 ↔ True := iff_true_intro ((nI_lt2 (by omega) (by omega : 61 < 2147483648)).mpr (by omega))
    rw [h171_75, chF]
    have e143 := fun d w Q => s143 d k c w M Q hk hc hc4
    have ih := fun x o y z => l171 d k c w M Q hk hc hc4 hf j (i + 1) x o y z (by omega)
    obtain ⟨b, hb⟩ : ∃ b, byM M k c i = b := ⟨_, rfl⟩
    have hbf : b < 100000000 := by rw [← hb]; exact hf i (by omega)
    rw [hb]
    unfold byM at hb
    generalize hcs : cstF (M 41 (20 + k)) (accF (M 41 (6 + c)) (M 41 (10 + c)) (M 43 48 + nI i)) = cs at hb e143 ⊢
    by_cases h1 : M 43 k = 1
    · rw [if_pos h1] at hb
      by_cases h : x < cs
      · rw [if_neg (fun w => w.1 h)]
        refine Iff.trans ?_ (ih _ o (.int cs) (.int b))
        simp (maxSteps := 400000) (disch := first | omega | assumption) only [e171_0, e171_1, e, e143, hcs, h, h1, bI_T, hb, s131, z01, kv, rv, tv, lnv, lv0, clv, clr_i, clr_r, clr_n, clr_l, true_and, and_true, Option.toList_some, Option.toList_none, List.cons_append, List.nil_append, bI_0, bI_1, bI_or, ↓reduceIte, or_true, true_or, eq_self, irv, i0_add, not_true_eq_false, not_false_eq_true, Bool.false_eq_true, and_false, false_and, or_false, false_or, reduceCtorEq, nev, ngv, nc_or, in64, l64v, ite_not, ite_notP, up2_upr, upr_upr, upr_at, nI_cl, nI_ir, iav, nI_1, nI_mul6, nI_6mul, nI_lt2, nI_eq2, nI_neg, nI_m1, ltv, nI_z, upd_at, upd_off, upr_off, usv, upd_upd]
      · cases o with
        | none =>
          rw [if_pos ⟨h, trivial⟩]
          refine Iff.trans ?_ (ih _ (some (i, b)) (.int cs) (.int b))
          simp (maxSteps := 400000) (disch := first | omega | assumption) only [e171_0, e171_1, e, e143, hcs, h, h1, bI_T, hb, s131, z01, mF, mLs, hbf, kv, rv, tv, lnv, lv0, clv, clr_i, clr_r, clr_n, clr_l, true_and, and_true, Option.toList_some, Option.toList_none, List.cons_append, List.nil_append, bI_0, bI_1, bI_or, ↓reduceIte, or_true, true_or, eq_self, irv, i0_add, not_true_eq_false, not_false_eq_true, Bool.false_eq_true, and_false, false_and, or_false, false_or, reduceCtorEq, nev, ngv, nc_or, in64, l64v, ite_not, ite_notP, up2_upr, upr_upr, upr_at, nI_cl, nI_ir, iav, nI_1, nI_mul6, nI_6mul, nI_lt2, nI_eq2, nI_neg, nI_m1, ltv, nI_z, upd_at, upd_off, upr_off, usv, upd_upd]
        | some p =>
          by_cases h2 : b < p.2
          · rw [if_pos ⟨h, h2⟩]
            refine Iff.trans ?_ (ih _ (some (i, b)) (.int cs) (.int b))
            simp (maxSteps := 400000) (disch := first | omega | assumption) only [e171_0, e171_1, e, e143, hcs, h, h1, bI_T, hb, s131, z01, mF, mLs, h2, kv, rv, tv, lnv, lv0, clv, clr_i, clr_r, clr_n, clr_l, true_and, and_true, Option.toList_some, Option.toList_none, List.cons_append, List.nil_append, bI_0, bI_1, bI_or, ↓reduceIte, or_true, true_or, eq_self, irv, i0_add, not_true_eq_false, not_false_eq_true, Bool.false_eq_true, and_false, false_and, or_false, false_or, reduceCtorEq, nev, ngv, nc_or, in64, l64v, ite_not, ite_notP, up2_upr, upr_upr, upr_at, nI_cl, nI_ir, iav, nI_1, nI_mul6, nI_6mul, nI_lt2, nI_eq2, nI_neg, nI_m1, ltv, nI_z, upd_at, upd_off, upr_off, usv, upd_upd]
          · rw [if_neg (fun w => h2 w.2)]
            refine Iff.trans ?_ (ih _ (some p) (.int cs) (.int b))
            simp (maxSteps := 400000) (disch := first | omega | assumption) only [e171_0, e171_1, e, e143, hcs, h, h1, bI_T, hb, s131, z01, mF, mLs, h2, kv, rv, tv, lnv, lv0, clv, clr_i, clr_r, clr_n, clr_l, true_and, and_true, Option.toList_some, Option.toList_none, List.cons_append, List.nil_append, bI_0, bI_1, bI_or, ↓reduceIte, or_true, true_or, eq_self, irv, i0_add, not_true_eq_false, not_false_eq_true, Bool.false_eq_true, and_false, false_and, or_false, false_or, reduceCtorEq, nev, ngv, nc_or, in64, l64v, ite_not, ite_notP, up2_upr, upr_upr, upr_at, nI_cl, nI_ir, iav, nI_1, nI_mul6, nI_6mul, nI_lt2, nI_eq2, nI_neg, nI_m1, ltv, nI_z, upd_at, upd_off, upr_off, usv, upd_upd]
    · rw [if_neg h1] at hb
      by_cases h : x < cs
      · rw [if_neg (fun w => w.1 h)]
        refine Iff.trans ?_ (ih _ o (.int cs) (.int b))
        simp (maxSteps := 400000) (disch := first | omega | assumption) only [e171_0, e171_1, e, e143, hcs, h, h1, bI_F, hb, s131, z01, kv, rv, tv, lnv, lv0, clv, clr_i, clr_r, clr_n, clr_l, true_and, and_true, Option.toList_some, Option.toList_none, List.cons_append, List.nil_append, bI_0, bI_1, bI_or, ↓reduceIte, or_true, true_or, eq_self, irv, i0_add, not_true_eq_false, not_false_eq_true, Bool.false_eq_true, and_false, false_and, or_false, false_or, reduceCtorEq, nev, ngv, nc_or, in64, l64v, ite_not, ite_notP, up2_upr, upr_upr, upr_at, nI_cl, nI_ir, iav, nI_1, nI_mul6, nI_6mul, nI_lt2, nI_eq2, nI_neg, nI_m1, ltv, nI_z, upd_at, upd_off, upr_off, usv, upd_upd]
      · cases o with
        | none =>
          rw [if_pos ⟨h, trivial⟩]
          refine Iff.trans ?_ (ih _ (some (i, b)) (.int cs) (.int b))
          simp (maxSteps := 400000) (disch := first | omega | assumption) only [e171_0, e171_1, e, e143, hcs, h, h1, bI_F, hb, s131, z01, mF, mLs, hbf, kv, rv, tv, lnv, lv0, clv, clr_i, clr_r, clr_n, clr_l, true_and, and_true, Option.toList_some, Option.toList_none, List.cons_append, List.nil_append, bI_0, bI_1, bI_or, ↓reduceIte, or_true, true_or, eq_self, irv, i0_add, not_true_eq_false, not_false_eq_true, Bool.false_eq_true, and_false, false_and, or_false, false_or, reduceCtorEq, nev, ngv, nc_or, in64, l64v, ite_not, ite_notP, up2_upr, upr_upr, upr_at, nI_cl, nI_ir, iav, nI_1, nI_mul6, nI_6mul, nI_lt2, nI_eq2, nI_neg, nI_m1, ltv, nI_z, upd_at, upd_off, upr_off, usv, upd_upd]
        | some p =>
          by_cases h2 : b < p.2
          · rw [if_pos ⟨h, h2⟩]
            refine Iff.trans ?_ (ih _ (some (i, b)) (.int cs) (.int b))
            simp (maxSteps := 400000) (disch := first | omega | assumption) only [e171_0, e171_1, e, e143, hcs, h, h1, bI_F, hb, s131, z01, mF, mLs, h2, kv, rv, tv, lnv, lv0, clv, clr_i, clr_r, clr_n, clr_l, true_and, and_true, Option.toList_some, Option.toList_none, List.cons_append, List.nil_append, bI_0, bI_1, bI_or, ↓reduceIte, or_true, true_or, eq_self, irv, i0_add, not_true_eq_false, not_false_eq_true, Bool.false_eq_true, and_false, false_and, or_false, false_or, reduceCtorEq, nev, ngv, nc_or, in64, l64v, ite_not, ite_notP, up2_upr, upr_upr, upr_at, nI_cl, nI_ir, iav, nI_1, nI_mul6, nI_6mul, nI_lt2, nI_eq2, nI_neg, nI_m1, ltv, nI_z, upd_at, upd_off, upr_off, usv, upd_upd]
          · rw [if_neg (fun w => h2 w.2)]
            refine Iff.trans ?_ (ih _ (some p) (.int cs) (.int b))
            simp (maxSteps := 400000) (disch := first | omega | assumption) only [e171_0, e171_1, e, e143, hcs, h, h1, bI_F, hb, s131, z01, mF, mLs, h2, kv, rv, tv, lnv, lv0, clv, clr_i, clr_r, clr_n, clr_l, true_and, and_true, Option.toList_some, Option.toList_none, List.cons_append, List.nil_append, bI_0, bI_1, bI_or, ↓reduceIte, or_true, true_or, eq_self, irv, i0_add, not_true_eq_false, not_false_eq_true, Bool.false_eq_true, and_false, false_and, or_false, false_or, reduceCtorEq, nev, ngv, nc_or, in64, l64v, ite_not, ite_notP, up2_upr, upr_upr, upr_at, nI_cl, nI_ir, iav, nI_1, nI_mul6, nI_6mul, nI_lt2, nI_eq2, nI_neg, nI_m1, ltv, nI_z, upd_at, upd_off, upr_off, usv, upd_upd]
theorem pair_cheapest (d : Nat) (x y : Int32) (M : Mem) (hI : Inv M) : PairOK (d + 5) 95 171 [.ref 0, .int x, .int y, .null] [.ref 40, .int x, .int y, .null, .null, .null, .null, .null, .null, .null] M := by
  intro K hK
  obtain ⟨n, nc, np, B, hY, hL, -⟩ := id hI
  obtain ⟨⟨g1, g2, g3, g4⟩, ⟨h13, h4⟩, ⟨h12, -⟩, -, -, ⟨h0, h0r⟩, -, hC, hD, -⟩ := id hY
  obtain ⟨l1, l2, -, ⟨l48, -⟩, -, -, -, -, ⟨w, a, hw, -, lw, -⟩, -⟩ := hL
  by_cases hx : rg x 0 (n - 1)
  · by_cases hy : rg y 0 1
    · obtain ⟨k, hk, rfl⟩ := rg_k (by omega) hx
      have hk6 : k < 6 := by omega
      obtain ⟨d1, ⟨c, hc, d2⟩, d3, d4, d5, d6⟩ := hD k hk
      have d2m : M 41 (14 + k) = nI c := d1.trans d2
      have eb : ∀ i, i ≤ 60 → byM M k c i = byC M k c i ∧ byC M k c i < 100000000 := fun i hi => by
        obtain ⟨e1, a, ha, e2⟩ := cst_w hY hk hc (show w + i ≤ 10000 by omega) lw l48
        unfold byM byC
        rw [e1, l1 k hk6, h0, e2]
        obtain ⟨L, hL, eL⟩ := rg_nI (n := 99) h0r
        rw [eL, pk_mul, pk_mul]
        have hm : L * i ≤ 99 * 60 := Nat.mul_le_mul hL hi
        by_cases h1 : M 25 k = 1
        · rw [if_pos h1, if_pos h1, nI_add, nI_add, Nat.mul_comm i L, Nat.add_comm a]
          refine ⟨rfl, (nI_lt2 (b := 100000000) (by omega) (by omega)).mpr (by omega)⟩
        · rw [if_neg h1, if_neg h1, Int32.add_zero, Int32.zero_add]
          exact ⟨rfl, (nI_lt2 (b := 100000000) (by omega) (by omega)).mpr (by omega)⟩
      have e1 := fun d x y z Q => l64 d k c nc M Q hk6 d2 hc g2 h12 61 0 x none y z (by omega) (fun p e => by cases e)
      have e2 := fun d y x z1 z2 Q => l171 d k c y M Q hk6 d2m (by omega) (fun i hi => by rw [(eb i hi).1]; exact (eb i hi).2) 61 0 x none z1 z2 (by omega)
      have ec : ∀ x, chF (fun i => cstF (M 41 (20 + k)) (accF (M 41 (6 + c)) (M 41 (10 + c)) (M 43 48 + nI i))) (byM M k c) (fun x => wkl x (M 41 (26 + k)) (M 41 0) (M 43 k = 1)) 61 0 x none = chF (fun i => cstC (M 19 k) (accF (M 16 c) (M 17 c) (M 24 3 + nI i))) (byC M k c) (fun x => wkl x (M 20 k) (M 15 9) (M 25 k = 1)) 61 0 x none := fun x => by
        rw [d5, h0]
        simp only [l1 k hk6]
        exact chF_c (m := 61) (fun i hi => ⟨(cst_w hY hk hc (by omega) lw l48).1, (eb i (by omega)).1⟩) 61 0 x none (by omega)
      have ok := fun x => chF_ok (cost := fun i => cstC (M 19 k) (accF (M 16 c) (M 17 c) (M 24 3 + nI i))) (by_ := byC M k c) (nx := fun x => wkl x (M 20 k) (M 15 9) (M 25 k = 1)) 61 0 x none (fun p e => by cases e)
      simp only [ec] at e2
      generalize hF : (fun x => chF (fun i => cstC (M 19 k) (accF (M 16 c) (M 17 c) (M 24 3 + nI i))) (byC M k c) (fun x => wkl x (M 20 k) (M 15 9) (M 25 k = 1)) 61 0 x none) = F at ok
      have hF2 : ∀ x, chF (fun i => cstC (M 19 k) (accF (M 16 c) (M 17 c) (M 24 3 + nI i))) (byC M k c) (fun x => wkl x (M 20 k) (M 15 9) (M 25 k = 1)) 61 0 x none = F x := fun x => by rw [← hF]
      simp only [hF2] at e1 e2 ok
      clear ec hF2 hF
      simp only [mF, mLs, nI_0] at e1 e2
      have h2 : y = 0 ∨ y = 1 := by
        obtain ⟨j, hj, rfl⟩ := rg_nI (n := 1) hy
        have : j = 0 ∨ j = 1 := by omega
        rcases this with rfl | rfl
        · exact Or.inl rfl
        · exact Or.inr rfl
      by_cases hb : M 25 k = 1 ∨ M 25 k = 0
      · have e65 := fun d i Q => s65 d k c nc i M Q hk6 d2 hc g2 h12
        have e1k := fun d y z Q => e1 d (M 26 k) y z Q
        have e2k := fun d y z1 z2 Q => e2 d y (M 26 k) z1 z2 Q
        have okk := ok (M 26 k)
        generalize F (M 26 k) = f at e1k e2k okk
        clear e1 e2 ok
        have e2k' : ∀ d y z1 z2 Q, Wp (d + 3) 171 75 [.ref 40, .int (nI k), .int y, .int (bI (M 25 k = 1)), .int (M 26 k), .int (-1), .int 100000000, .int 0, z1, z2] [] M Q ↔ Q (some (.int (ansM f y))) M := fun d y z1 z2 Q => by rw [← l1 k hk6]; exact e2k d y z1 z2 Q
        clear e2k
        cases f with
        | none =>
          simp only [ansM, mF] at e1k e2k'
          by_cases h1 : M 25 k = 1
          · simp only [h1, bI_T] at e2k'
            rcases h2 with rfl | rfl
            · simp (maxSteps := 400000) (disch := first | omega | assumption) only [e95, e64_0, e64_1, e171_0, e171_1, s77 _ n _ M _ g1 h13, s141 _ n _ M _ g1 h4, s112i, rg_cls, rg_ite, i32v, iff_true_intro hx, iff_true_intro hy, s52, s150, l1 k hk6, l2 k hk6, h1, bI_T, z01, e1k, e2k', kv, rv, tv, lnv, lv0, clv, clr_i, clr_r, clr_n, clr_l, true_and, and_true, Option.toList_some, Option.toList_none, List.cons_append, List.nil_append, bI_0, bI_1, bI_or, ↓reduceIte, or_true, true_or, eq_self, irv, i0_add, not_true_eq_false, not_false_eq_true, Bool.false_eq_true, and_false, false_and, or_false, false_or, reduceCtorEq, nev, ngv, nc_or, in64, l64v, ite_not, ite_notP, up2_upr, upr_upr, upr_at, nI_cl, nI_ir, iav, nI_1, nI_mul6, nI_6mul, nI_lt2, nI_eq2, nI_neg, nI_m1, ltv, nI_z, upd_at, upd_off, upr_off, usv, upd_upd]
              exact hK _ _ hI
            · simp (maxSteps := 400000) (disch := first | omega | assumption) only [e95, e64_0, e64_1, e171_0, e171_1, s77 _ n _ M _ g1 h13, s141 _ n _ M _ g1 h4, s112i, rg_cls, rg_ite, i32v, iff_true_intro hx, iff_true_intro hy, s52, s150, l1 k hk6, l2 k hk6, h1, bI_T, z01, e1k, e2k', kv, rv, tv, lnv, lv0, clv, clr_i, clr_r, clr_n, clr_l, true_and, and_true, Option.toList_some, Option.toList_none, List.cons_append, List.nil_append, bI_0, bI_1, bI_or, ↓reduceIte, or_true, true_or, eq_self, irv, i0_add, not_true_eq_false, not_false_eq_true, Bool.false_eq_true, and_false, false_and, or_false, false_or, reduceCtorEq, nev, ngv, nc_or, in64, l64v, ite_not, ite_notP, up2_upr, upr_upr, upr_at, nI_cl, nI_ir, iav, nI_1, nI_mul6, nI_6mul, nI_lt2, nI_eq2, nI_neg, nI_m1, ltv, nI_z, upd_at, upd_off, upr_off, usv, upd_upd]
              exact hK _ _ hI
          · have h0k : M 25 k = 0 := hb.resolve_left h1
            simp only [h0k, z01, bI_F] at e2k'
            rcases h2 with rfl | rfl
            · simp (maxSteps := 400000) (disch := first | omega | assumption) only [e95, e64_0, e64_1, e171_0, e171_1, s77 _ n _ M _ g1 h13, s141 _ n _ M _ g1 h4, s112i, rg_cls, rg_ite, i32v, iff_true_intro hx, iff_true_intro hy, s52, s150, l1 k hk6, l2 k hk6, h0k, bI_T, z01, e1k, e2k', kv, rv, tv, lnv, lv0, clv, clr_i, clr_r, clr_n, clr_l, true_and, and_true, Option.toList_some, Option.toList_none, List.cons_append, List.nil_append, bI_0, bI_1, bI_or, ↓reduceIte, or_true, true_or, eq_self, irv, i0_add, not_true_eq_false, not_false_eq_true, Bool.false_eq_true, and_false, false_and, or_false, false_or, reduceCtorEq, nev, ngv, nc_or, in64, l64v, ite_not, ite_notP, up2_upr, upr_upr, upr_at, nI_cl, nI_ir, iav, nI_1, nI_mul6, nI_6mul, nI_lt2, nI_eq2, nI_neg, nI_m1, ltv, nI_z, upd_at, upd_off, upr_off, usv, upd_upd]
              exact hK _ _ hI
            · simp (maxSteps := 400000) (disch := first | omega | assumption) only [e95, e64_0, e64_1, e171_0, e171_1, s77 _ n _ M _ g1 h13, s141 _ n _ M _ g1 h4, s112i, rg_cls, rg_ite, i32v, iff_true_intro hx, iff_true_intro hy, s52, s150, l1 k hk6, l2 k hk6, h0k, bI_T, z01, e1k, e2k', kv, rv, tv, lnv, lv0, clv, clr_i, clr_r, clr_n, clr_l, true_and, and_true, Option.toList_some, Option.toList_none, List.cons_append, List.nil_append, bI_0, bI_1, bI_or, ↓reduceIte, or_true, true_or, eq_self, irv, i0_add, not_true_eq_false, not_false_eq_true, Bool.false_eq_true, and_false, false_and, or_false, false_or, reduceCtorEq, nev, ngv, nc_or, in64, l64v, ite_not, ite_notP, up2_upr, upr_upr, upr_at, nI_cl, nI_ir, iav, nI_1, nI_mul6, nI_6mul, nI_lt2, nI_eq2, nI_neg, nI_m1, ltv, nI_z, upd_at, upd_off, upr_off, usv, upd_upd]
              exact hK _ _ hI
        | some p =>
          obtain ⟨q1, q2⟩ := okk p rfl
          have hm : nI p.1 = -1 ↔ False := nI_m1 (by omega)
          simp only [ansM, mF, mLs, hm, q2] at e1k e2k'
          by_cases h1 : M 25 k = 1
          · simp only [h1, bI_T] at e2k'
            rcases h2 with rfl | rfl
            · simp (maxSteps := 400000) (disch := first | omega | assumption) only [e95, e64_0, e64_1, e171_0, e171_1, s77 _ n _ M _ g1 h13, s141 _ n _ M _ g1 h4, s112i, rg_cls, rg_ite, i32v, iff_true_intro hx, iff_true_intro hy, s52, s150, l1 k hk6, l2 k hk6, h1, bI_T, z01, e1k, e2k', hm, kv, rv, tv, lnv, lv0, clv, clr_i, clr_r, clr_n, clr_l, true_and, and_true, Option.toList_some, Option.toList_none, List.cons_append, List.nil_append, bI_0, bI_1, bI_or, ↓reduceIte, or_true, true_or, eq_self, irv, i0_add, not_true_eq_false, not_false_eq_true, Bool.false_eq_true, and_false, false_and, or_false, false_or, reduceCtorEq, nev, ngv, nc_or, in64, l64v, ite_not, ite_notP, up2_upr, upr_upr, upr_at, nI_cl, nI_ir, iav, nI_1, nI_mul6, nI_6mul, nI_lt2, nI_eq2, nI_neg, nI_m1, ltv, nI_z, upd_at, upd_off, upr_off, usv, upd_upd]
              exact hK _ _ hI
            · simp (maxSteps := 400000) (disch := first | omega | assumption) only [e95, e64_0, e64_1, e171_0, e171_1, s77 _ n _ M _ g1 h13, s141 _ n _ M _ g1 h4, s112i, rg_cls, rg_ite, i32v, iff_true_intro hx, iff_true_intro hy, s52, s150, l1 k hk6, l2 k hk6, h1, bI_T, z01, e1k, e2k', hm, e65, kv, rv, tv, lnv, lv0, clv, clr_i, clr_r, clr_n, clr_l, true_and, and_true, Option.toList_some, Option.toList_none, List.cons_append, List.nil_append, bI_0, bI_1, bI_or, ↓reduceIte, or_true, true_or, eq_self, irv, i0_add, not_true_eq_false, not_false_eq_true, Bool.false_eq_true, and_false, false_and, or_false, false_or, reduceCtorEq, nev, ngv, nc_or, in64, l64v, ite_not, ite_notP, up2_upr, upr_upr, upr_at, nI_cl, nI_ir, iav, nI_1, nI_mul6, nI_6mul, nI_lt2, nI_eq2, nI_neg, nI_m1, ltv, nI_z, upd_at, upd_off, upr_off, usv, upd_upd]
              exact hK _ _ hI
          · have h0k : M 25 k = 0 := hb.resolve_left h1
            simp only [h0k, z01, bI_F] at e2k'
            rcases h2 with rfl | rfl
            · simp (maxSteps := 400000) (disch := first | omega | assumption) only [e95, e64_0, e64_1, e171_0, e171_1, s77 _ n _ M _ g1 h13, s141 _ n _ M _ g1 h4, s112i, rg_cls, rg_ite, i32v, iff_true_intro hx, iff_true_intro hy, s52, s150, l1 k hk6, l2 k hk6, h0k, bI_T, z01, e1k, e2k', hm, kv, rv, tv, lnv, lv0, clv, clr_i, clr_r, clr_n, clr_l, true_and, and_true, Option.toList_some, Option.toList_none, List.cons_append, List.nil_append, bI_0, bI_1, bI_or, ↓reduceIte, or_true, true_or, eq_self, irv, i0_add, not_true_eq_false, not_false_eq_true, Bool.false_eq_true, and_false, false_and, or_false, false_or, reduceCtorEq, nev, ngv, nc_or, in64, l64v, ite_not, ite_notP, up2_upr, upr_upr, upr_at, nI_cl, nI_ir, iav, nI_1, nI_mul6, nI_6mul, nI_lt2, nI_eq2, nI_neg, nI_m1, ltv, nI_z, upd_at, upd_off, upr_off, usv, upd_upd]
              exact hK _ _ hI
            · simp (maxSteps := 400000) (disch := first | omega | assumption) only [e95, e64_0, e64_1, e171_0, e171_1, s77 _ n _ M _ g1 h13, s141 _ n _ M _ g1 h4, s112i, rg_cls, rg_ite, i32v, iff_true_intro hx, iff_true_intro hy, s52, s150, l1 k hk6, l2 k hk6, h0k, bI_T, z01, e1k, e2k', hm, e65, kv, rv, tv, lnv, lv0, clv, clr_i, clr_r, clr_n, clr_l, true_and, and_true, Option.toList_some, Option.toList_none, List.cons_append, List.nil_append, bI_0, bI_1, bI_or, ↓reduceIte, or_true, true_or, eq_self, irv, i0_add, not_true_eq_false, not_false_eq_true, Bool.false_eq_true, and_false, false_and, or_false, false_or, reduceCtorEq, nev, ngv, nc_or, in64, l64v, ite_not, ite_notP, up2_upr, upr_upr, upr_at, nI_cl, nI_ir, iav, nI_1, nI_mul6, nI_6mul, nI_lt2, nI_eq2, nI_neg, nI_m1, ltv, nI_z, upd_at, upd_off, upr_off, usv, upd_upd]
              exact hK _ _ hI
      · simp (maxSteps := 400000) (disch := first | omega | assumption) only [e95, e171_0, e171_1, s77 _ n _ M _ g1 h13, s141 _ n _ M _ g1 h4, s112i, rg_cls, rg_ite, i32v, iff_true_intro hx, iff_true_intro hy, s52, s150, l1 k hk6, iff_false_intro hb, bI_T, bI_F, z01, kv, rv, tv, lnv, lv0, clv, clr_i, clr_r, clr_n, clr_l, true_and, and_true, Option.toList_some, Option.toList_none, List.cons_append, List.nil_append, bI_0, bI_1, bI_or, ↓reduceIte, or_true, true_or, eq_self, irv, i0_add, not_true_eq_false, not_false_eq_true, Bool.false_eq_true, and_false, false_and, or_false, false_or, reduceCtorEq, nev, ngv, nc_or, in64, l64v, ite_not, ite_notP, up2_upr, upr_upr, upr_at, nI_cl, nI_ir, iav, nI_1, nI_mul6, nI_6mul, nI_lt2, nI_eq2, nI_neg, nI_m1, ltv, nI_z, upd_at, upd_off, upr_off, usv, upd_upd]
        exact hK _ _ hI
    · simp (maxSteps := 400000) (disch := first | omega | assumption) only [e95, e171_0, e171_1, s77 _ n _ M _ g1 h13, s141 _ n _ M _ g1 h4, s112i, rg_cls, rg_ite, i32v, iff_true_intro hx, iff_false_intro hy, bI_T, bI_F, z01, kv, rv, tv, lnv, lv0, clv, clr_i, clr_r, clr_n, clr_l, true_and, and_true, Option.toList_some, Option.toList_none, List.cons_append, List.nil_append, bI_0, bI_1, bI_or, ↓reduceIte, or_true, true_or, eq_self, irv, i0_add, not_true_eq_false, not_false_eq_true, Bool.false_eq_true, and_false, false_and, or_false, false_or, reduceCtorEq, nev, ngv, nc_or, in64, l64v, ite_not, ite_notP, up2_upr, upr_upr, upr_at, nI_cl, nI_ir, iav, nI_1, nI_mul6, nI_6mul, nI_lt2, nI_eq2, nI_neg, nI_m1, ltv, nI_z, upd_at, upd_off, upr_off, usv, upd_upd]
      exact hK _ _ hI
  · simp (maxSteps := 400000) (disch := first | omega | assumption) only [e95, e171_0, e171_1, s77 _ n _ M _ g1 h13, s141 _ n _ M _ g1 h4, iff_false_intro hx, bI_F, kv, rv, tv, lnv, lv0, clv, clr_i, clr_r, clr_n, clr_l, true_and, and_true, Option.toList_some, Option.toList_none, List.cons_append, List.nil_append, bI_0, bI_1, bI_or, ↓reduceIte, or_true, true_or, eq_self, irv, i0_add, not_true_eq_false, not_false_eq_true, Bool.false_eq_true, and_false, false_and, or_false, false_or, reduceCtorEq, nev, ngv, nc_or, in64, l64v, ite_not, ite_notP, up2_upr, upr_upr, upr_at, nI_cl, nI_ir, iav, nI_1, nI_mul6, nI_6mul, nI_lt2, nI_eq2, nI_neg, nI_m1, ltv, nI_z, upd_at, upd_off, upr_off, usv, upd_upd]
    exact hK _ _ hI
