/-! part 29: chain, composition -/
theorem mosF_S (f : Nat → Int32) (n : Nat) : mosF f (n + 1) = if (mosF f n).2 < f n then (some n, f n) else mosF f n := rfl
theorem mosF_0 (f : Nat → Int32) : ∀ n, ¬ (mosF f n).2 < 0
  | 0 => fun z => absurd (show (0 : Int32) < 0 from z) (by decide)
  | n + 1 => by
    rw [mosF_S]
    by_cases h : (mosF f n).2 < f n
    · rw [if_pos h]
      intro z
      exact mosF_0 f n (Int32.lt_trans h z)
    · rw [if_neg h]
      exact mosF_0 f n
theorem mosF_mx (f : Nat → Int32) : ∀ n, mosF (fun e => mx 0 (f e)) n = mosF f n
  | 0 => rfl
  | n + 1 => by
    rw [mosF_S, mosF_S, mosF_mx f n]
    have h0 := mosF_0 f n
    generalize mosF f n = p at h0 ⊢
    show (if p.2 < mx 0 (f n) then (some n, mx 0 (f n)) else p) = _
    unfold mx
    by_cases h : 0 < f n
    · rw [if_pos h]
    · rw [if_neg h, if_neg h0, if_neg]
      intro z
      rw [Int32.lt_iff_toInt_lt] at *
      have : (0 : Int32).toInt = 0 := by decide
      omega
theorem mosF_z (f : Nat → Int32) (n : Nat) : ∀ k, (∀ e, n ≤ e → e < n + k → f e = 0) → mosF f (n + k) = mosF f n
  | 0, _ => rfl
  | k + 1, h => by
    rw [← Nat.add_assoc, mosF_S, h (n + k) (by omega) (by omega), if_neg (mosF_0 f _), mosF_z f n k (fun e h1 h2 => h e h1 (by omega))]
theorem mosF_c {f g : Nat → Int32} : ∀ {n : Nat}, (∀ k, k < n → f k = g k) → mosF f n = mosF g n
  | 0, _ => rfl
  | n + 1, h => by rw [mosF_S, mosF_S, mosF_c (fun k hk => h k (by omega)), h n (by omega)]
theorem mx_sw (a b : Int32) : mx a b = if b < a then a else b := by
  rw [← mx_g]
theorem l182 (d k n : Nat) (M : Mem) (Q : Option Value → Mem → Prop) (hk : k < 6) (hn : n ≤ 6) (h4 : M 41 4 = nI n) : ∀ j i x, i + j = n → (Wp (d + 1) 182 7 [.ref 40, .int (nI k), .int (oI (mosF (fun e => M 43 (12 + 6 * e + k)) i).1), .int (mosF (fun e => M 43 (12 + 6 * e + k)) i).2, .int (nI i), x] [] M Q ↔ Q (some (.int (oI (mosF (fun e => M 43 (12 + 6 * e + k)) n).1))) M)
  | 0, i, x, hi => by
    obtain rfl : i = n := hi
    rw [h182_7]
    simp (maxSteps := 400000) (disch := first | omega | assumption) only [e182, h4, Nat.lt_irrefl, kv, rv, tv, lnv, lv0, clv, clr_i, clr_r, clr_n, clr_l, true_and, and_true, Option.toList_some, Option.toList_none, List.cons_append, List.nil_append, bI_0, bI_1, bI_or, ↓reduceIte, or_true, true_or, eq_self, irv, i0_add, not_true_eq_false, not_false_eq_true, Bool.false_eq_true, and_false, false_and, or_false, false_or, reduceCtorEq, nev, ngv, nc_or, in64, l64v, ite_not, ite_notP, up2_upr, upr_upr, upr_at, nI_cl, nI_ir, iav, nI_1, nI_mul6, nI_6mul, nI_lt2, nI_eq2, nI_neg, nI_m1, ltv, nI_z, upd_at, upd_off, upr_off, usv, upd_upd]
  | j + 1, i, x, hi => by
    have hlt : i < n := by omega
    have ei : nI (12 + 6 * i) + nI k = nI (12 + 6 * i + k) := nI_add _ _
    refine Iff.trans ?_ (l182 d k n M Q hk hn h4 j (i + 1) (.int (M 43 (12 + 6 * i + k))) (by omega))
    rw [h182_7, mosF_S]
    generalize mosF (fun e => M 43 (12 + 6 * e + k)) i = p
    by_cases h : p.2 < M 43 (12 + 6 * i + k)
    · simp (maxSteps := 400000) (disch := first | omega | assumption) only [e182, h4, hlt, ei, h, s134, mx_sw, oI, kv, rv, tv, lnv, lv0, clv, clr_i, clr_r, clr_n, clr_l, true_and, and_true, Option.toList_some, Option.toList_none, List.cons_append, List.nil_append, bI_0, bI_1, bI_or, ↓reduceIte, or_true, true_or, eq_self, irv, i0_add, not_true_eq_false, not_false_eq_true, Bool.false_eq_true, and_false, false_and, or_false, false_or, reduceCtorEq, nev, ngv, nc_or, in64, l64v, ite_not, ite_notP, up2_upr, upr_upr, upr_at, nI_cl, nI_ir, iav, nI_1, nI_mul6, nI_6mul, nI_lt2, nI_eq2, nI_neg, nI_m1, ltv, nI_z, upd_at, upd_off, upr_off, usv, upd_upd]
    · simp (maxSteps := 400000) (disch := first | omega | assumption) only [e182, h4, hlt, ei, h, s134, mx_sw, kv, rv, tv, lnv, lv0, clv, clr_i, clr_r, clr_n, clr_l, true_and, and_true, Option.toList_some, Option.toList_none, List.cons_append, List.nil_append, bI_0, bI_1, bI_or, ↓reduceIte, or_true, true_or, eq_self, irv, i0_add, not_true_eq_false, not_false_eq_true, Bool.false_eq_true, and_false, false_and, or_false, false_or, reduceCtorEq, nev, ngv, nc_or, in64, l64v, ite_not, ite_notP, up2_upr, upr_upr, upr_at, nI_cl, nI_ir, iav, nI_1, nI_mul6, nI_6mul, nI_lt2, nI_eq2, nI_neg, nI_m1, ltv, nI_z, upd_at, upd_off, upr_off, usv, upd_upd]
theorem s182 (d k n : Nat) (M : Mem) (Q : Option Value → Mem → Prop) (hk : k < 6) (hn : n ≤ 6) (h4 : M 41 4 = nI n) : Wp (d + 1) 182 0 [.ref 40, .int (nI k), .null, .null, .null, .null] [] M Q ↔ Q (some (.int (oI (mosF (fun e => M 43 (12 + 6 * e + k)) n).1))) M := by
  rw [← l182 d k n M Q hk hn h4 n 0 .null (by omega)]
  simp (maxSteps := 400000) only [e182, kv, rv, tv, lnv, lv0, clv, clr_i, clr_r, clr_n, clr_l, true_and, and_true, Option.toList_some, Option.toList_none, List.cons_append, List.nil_append, bI_0, bI_1, bI_or, ↓reduceIte, or_true, true_or, eq_self, irv, i0_add, not_true_eq_false, not_false_eq_true, Bool.false_eq_true, and_false, false_and, or_false, false_or, reduceCtorEq, nev, ngv, nc_or, in64, l64v, ite_not, ite_notP, up2_upr, upr_upr, upr_at]
  rfl
theorem pc_or : ∀ k, k < 6 → ∀ m, m < 64 → m.testBit k = false → pcN (m ||| 2 ^ k) = pcN m + 1 := by decide +kernel
theorem pc_full : ∀ m, m < 64 → 6 ≤ pcN m → ∀ k, k < 6 → m.testBit k = true := by decide +kernel
theorem l181 (d n : Nat) (k y : Int32) (M : Mem) (Q : Option Value → Mem → Prop) (hn : n ≤ 6) (h4 : M 41 4 = nI n) : ∀ f m l o, m < 64 → l < 6 → (∀ b, o = some b → b < 6) → 6 ≤ pcN m + f → (Wp (d + 2) 181 38 [.ref 40, .int k, .int y, .int (nI m), .int (nI l), .int (oI o)] [] M Q ↔ Q (some (.int (if y = 0 then nI (pcN (chN (fun e => (mosF (fun q => M 43 (12 + 6 * q + e)) n).1) f m l o).1) else nI (chN (fun e => (mosF (fun q => M 43 (12 + 6 * q + e)) n).1) f m l o).2))) M)
  | f, m, l, none, hm, hl, ho, hf => by
    have e : chN (fun e => (mosF (fun q => M 43 (12 + 6 * q + e)) n).1) f m l none = (m, l) := by cases f <;> rfl
    rw [h181_38, e]
    by_cases hy : y = 0
    · simp (maxSteps := 400000) (disch := first | omega | assumption) only [e181, oI, s151 _ m _ _ hm, iff_true_intro hy, kv, rv, tv, lnv, lv0, clv, clr_i, clr_r, clr_n, clr_l, true_and, and_true, Option.toList_some, Option.toList_none, List.cons_append, List.nil_append, bI_0, bI_1, bI_or, ↓reduceIte, or_true, true_or, eq_self, irv, i0_add, not_true_eq_false, not_false_eq_true, Bool.false_eq_true, and_false, false_and, or_false, false_or, reduceCtorEq, nev, ngv, nc_or, in64, l64v, ite_not, ite_notP, up2_upr, upr_upr, upr_at, nI_cl, nI_ir, iav, nI_1, nI_mul6, nI_6mul, nI_lt2, nI_eq2, nI_neg, nI_m1, ltv, nI_z, upd_at, upd_off, upr_off, usv, upd_upd]
    · simp (maxSteps := 400000) (disch := first | omega | assumption) only [e181, oI, iff_false_intro hy, kv, rv, tv, lnv, lv0, clv, clr_i, clr_r, clr_n, clr_l, true_and, and_true, Option.toList_some, Option.toList_none, List.cons_append, List.nil_append, bI_0, bI_1, bI_or, ↓reduceIte, or_true, true_or, eq_self, irv, i0_add, not_true_eq_false, not_false_eq_true, Bool.false_eq_true, and_false, false_and, or_false, false_or, reduceCtorEq, nev, ngv, nc_or, in64, l64v, ite_not, ite_notP, up2_upr, upr_upr, upr_at, nI_cl, nI_ir, iav, nI_1, nI_mul6, nI_6mul, nI_lt2, nI_eq2, nI_neg, nI_m1, ltv, nI_z, upd_at, upd_off, upr_off, usv, upd_upd]
  | 0, m, l, some b, hm, hl, ho, hf => by
    have hb := ho b rfl
    have e : chN (fun e => (mosF (fun q => M 43 (12 + 6 * q + e)) n).1) 0 m l (some b) = (m, l) := rfl
    have ht := pc_full m hm (by omega) b hb
    have hbt := (bt_iff b hb m hm).trans (iff_true_intro ht)
    rw [h181_38, e]
    by_cases hy : y = 0
    · simp (maxSteps := 400000) (disch := first | omega | assumption) only [e181, oI, s151 _ m _ _ hm, iff_true_intro hy, s129, hbt, bI_T, z01, kv, rv, tv, lnv, lv0, clv, clr_i, clr_r, clr_n, clr_l, true_and, and_true, Option.toList_some, Option.toList_none, List.cons_append, List.nil_append, bI_0, bI_1, bI_or, ↓reduceIte, or_true, true_or, eq_self, irv, i0_add, not_true_eq_false, not_false_eq_true, Bool.false_eq_true, and_false, false_and, or_false, false_or, reduceCtorEq, nev, ngv, nc_or, in64, l64v, ite_not, ite_notP, up2_upr, upr_upr, upr_at, nI_cl, nI_ir, iav, nI_1, nI_mul6, nI_6mul, nI_lt2, nI_eq2, nI_neg, nI_m1, ltv, nI_z, upd_at, upd_off, upr_off, usv, upd_upd]
    · simp (maxSteps := 400000) (disch := first | omega | assumption) only [e181, oI, iff_false_intro hy, s129, hbt, bI_T, z01, kv, rv, tv, lnv, lv0, clv, clr_i, clr_r, clr_n, clr_l, true_and, and_true, Option.toList_some, Option.toList_none, List.cons_append, List.nil_append, bI_0, bI_1, bI_or, ↓reduceIte, or_true, true_or, eq_self, irv, i0_add, not_true_eq_false, not_false_eq_true, Bool.false_eq_true, and_false, false_and, or_false, false_or, reduceCtorEq, nev, ngv, nc_or, in64, l64v, ite_not, ite_notP, up2_upr, upr_upr, upr_at, nI_cl, nI_ir, iav, nI_1, nI_mul6, nI_6mul, nI_lt2, nI_eq2, nI_neg, nI_m1, ltv, nI_z, upd_at, upd_off, upr_off, usv, upd_upd]
  | f + 1, m, l, some b, hm, hl, ho, hf => by
    have hb := ho b rfl
    rw [h181_38, chN]
    by_cases ht : m.testBit b = true
    · have hbt := (bt_iff b hb m hm).trans (iff_true_intro ht)
      rw [if_pos ht]
      by_cases hy : y = 0
      · simp (maxSteps := 400000) (disch := first | omega | assumption) only [e181, oI, s151 _ m _ _ hm, iff_true_intro hy, s129, hbt, bI_T, z01, kv, rv, tv, lnv, lv0, clv, clr_i, clr_r, clr_n, clr_l, true_and, and_true, Option.toList_some, Option.toList_none, List.cons_append, List.nil_append, bI_0, bI_1, bI_or, ↓reduceIte, or_true, true_or, eq_self, irv, i0_add, not_true_eq_false, not_false_eq_true, Bool.false_eq_true, and_false, false_and, or_false, false_or, reduceCtorEq, nev, ngv, nc_or, in64, l64v, ite_not, ite_notP, up2_upr, upr_upr, upr_at, nI_cl, nI_ir, iav, nI_1, nI_mul6, nI_6mul, nI_lt2, nI_eq2, nI_neg, nI_m1, ltv, nI_z, upd_at, upd_off, upr_off, usv, upd_upd]
      · simp (maxSteps := 400000) (disch := first | omega | assumption) only [e181, oI, iff_false_intro hy, s129, hbt, bI_T, z01, kv, rv, tv, lnv, lv0, clv, clr_i, clr_r, clr_n, clr_l, true_and, and_true, Option.toList_some, Option.toList_none, List.cons_append, List.nil_append, bI_0, bI_1, bI_or, ↓reduceIte, or_true, true_or, eq_self, irv, i0_add, not_true_eq_false, not_false_eq_true, Bool.false_eq_true, and_false, false_and, or_false, false_or, reduceCtorEq, nev, ngv, nc_or, in64, l64v, ite_not, ite_notP, up2_upr, upr_upr, upr_at, nI_cl, nI_ir, iav, nI_1, nI_mul6, nI_6mul, nI_lt2, nI_eq2, nI_neg, nI_m1, ltv, nI_z, upd_at, upd_off, upr_off, usv, upd_upd]
    · have hbt := (bt_iff b hb m hm).trans (iff_false_intro ht)
      rw [if_neg ht]
      have ht' : m.testBit b = false := by simpa using ht
      have hp := pc_or b hb m hm ht'
      refine Iff.trans ?_ (l181 d n k y M Q hn h4 f (m ||| 2 ^ b) b _ (s_or hm hb) hb (fun c hc => Nat.lt_of_lt_of_le (mosF_lt hc) hn) (by omega))
      simp (maxSteps := 400000) (disch := first | omega | assumption) only [e181, oI, s129, hbt, bI_F, z01, or_bit b hb m hm, s182 _ b n M _ hb hn h4, kv, rv, tv, lnv, lv0, clv, clr_i, clr_r, clr_n, clr_l, true_and, and_true, Option.toList_some, Option.toList_none, List.cons_append, List.nil_append, bI_0, bI_1, bI_or, ↓reduceIte, or_true, true_or, eq_self, irv, i0_add, not_true_eq_false, not_false_eq_true, Bool.false_eq_true, and_false, false_and, or_false, false_or, reduceCtorEq, nev, ngv, nc_or, in64, l64v, ite_not, ite_notP, up2_upr, upr_upr, upr_at, nI_cl, nI_ir, iav, nI_1, nI_mul6, nI_6mul, nI_lt2, nI_eq2, nI_neg, nI_m1, ltv, nI_z, upd_at, upd_off, upr_off, usv, upd_upd]
theorem chN_c {nx ny : Nat → Option Nat} (h : ∀ e, e < 6 → nx e = ny e) (hx : ∀ e b, e < 6 → nx e = some b → b < 6) : ∀ f m l o, (∀ b, o = some b → b < 6) → chN nx f m l o = chN ny f m l o
  | 0, m, l, o, _ => by rw [chN, chN]
  | f + 1, m, l, none, _ => by rw [chN, chN]
  | f + 1, m, l, some e, ho => by
    have he := ho e rfl
    rw [chN, chN, h e he, chN_c h hx f _ _ _ (fun b hb => hx e b he (by rw [h e he]; exact hb))]
theorem one_bit {k : Nat} (hk : k < 6) : (1 : Int32) <<< (nI k &&& 31) = nI (2 ^ k) := by
  have := or_bit k hk 0 (by decide)
  rw [Nat.zero_or] at this
  rw [← this]
  simp [nI]
theorem pc_1 : ∀ k, k < 6 → pcN (2 ^ k) = 1 := by decide +kernel
theorem pair_chain (d : Nat) (x y : Int32) (M : Mem) (hI : Inv M) : PairOK (d + 6) 99 181 [.ref 0, .int x, .int y] [.ref 40, .int x, .int y, .null, .null, .null] M := by
  intro K hK
  obtain ⟨n, nc, np, B, hY, hL, -⟩ := id hI
  obtain ⟨⟨g1, g2, g3, g4⟩, ⟨h13, h4⟩, -⟩ := id hY
  obtain ⟨l1, l2, l3, -, -, -, -, l8, -⟩ := hL
  by_cases hx : rg x 0 (n - 1)
  · by_cases hy : rg y 0 1
    · obtain ⟨k, hk, rfl⟩ := rg_k (by omega) hx
      have hk6 : k < 6 := by omega
      have ne : ∀ e, e < 6 → nxC (M 28) e = (mosF (fun q => M 43 (12 + 6 * q + e)) n).1 := fun e he => by
        show (mosF (fun q => mx 0 (M 28 (e * 6 + q))) 6).1 = _
        rw [mosF_mx (fun q => M 28 (e * 6 + q)) 6]
        have := mosF_z (fun q => M 28 (e * 6 + q)) n (6 - n) (fun q h1 h2 => l8 e he q (by omega) (Or.inr h1))
        rw [show n + (6 - n) = 6 by omega] at this
        rw [this, mosF_c (fun q hq => l3 q (by omega) e he)]
      have ec : chN (fun e => (mosF (fun q => M 43 (12 + 6 * q + e)) n).1) 6 (2 ^ k) k (mosF (fun q => M 43 (12 + 6 * q + k)) n).1 = chN (nxC (M 28)) 6 (2 ^ k) k (nxC (M 28) k) := by
        rw [← ne k hk6]
        refine (chN_c (fun e he => ne e he) (fun e b he hb => mosF_lt hb) 6 _ _ _ (fun b hb => mosF_lt hb)).symm
      have e1 := fun d z Q => s15 d k z M Q hk6
      have e2 := fun d y Q => l181 d n (nI k) y M Q g1 h4 6 (2 ^ k) k (mosF (fun q => M 43 (12 + 6 * q + k)) n).1 (p2_lt k hk6) hk6 (fun b hb => Nat.lt_of_lt_of_le (mosF_lt hb) g1) (by rw [pc_1 k hk6]; omega)
      rw [ec] at e2
      have e3 := fun d Q => s182 d k n M Q hk6 g1 h4
      generalize (mosF (fun q => M 43 (12 + 6 * q + k)) n).1 = o at e2 e3
      generalize chN (nxC (M 28)) 6 (2 ^ k) k (nxC (M 28) k) = r at e1 e2
      clear ec ne
      have h2 : y = 0 ∨ y = 1 := by
        obtain ⟨j, hj, rfl⟩ := rg_nI (n := 1) hy
        have : j = 0 ∨ j = 1 := by omega
        rcases this with rfl | rfl
        · exact Or.inl rfl
        · exact Or.inr rfl
      rcases h2 with rfl | rfl
      · simp (maxSteps := 400000) (disch := first | omega | assumption) only [e99, e181, s77 _ n _ M _ g1 h13, s141 _ n _ M _ g1 h4, s112i, rg_cls, rg_ite, i32v, iff_true_intro hx, iff_true_intro hy, bI_T, z01, e1, e2, e3, one_bit hk6, kv, rv, tv, lnv, lv0, clv, clr_i, clr_r, clr_n, clr_l, true_and, and_true, Option.toList_some, Option.toList_none, List.cons_append, List.nil_append, bI_0, bI_1, bI_or, ↓reduceIte, or_true, true_or, eq_self, irv, i0_add, not_true_eq_false, not_false_eq_true, Bool.false_eq_true, and_false, false_and, or_false, false_or, reduceCtorEq, nev, ngv, nc_or, in64, l64v, ite_not, ite_notP, up2_upr, upr_upr, upr_at, nI_cl, nI_ir, iav, nI_1, nI_mul6, nI_6mul, nI_lt2, nI_eq2, nI_neg, nI_m1, ltv, nI_z, upd_at, upd_off, upr_off, usv, upd_upd]
        exact hK _ _ hI
      · simp (maxSteps := 400000) (disch := first | omega | assumption) only [e99, e181, s77 _ n _ M _ g1 h13, s141 _ n _ M _ g1 h4, s112i, rg_cls, rg_ite, i32v, iff_true_intro hx, iff_true_intro hy, bI_T, z01, e1, e2, e3, one_bit hk6, kv, rv, tv, lnv, lv0, clv, clr_i, clr_r, clr_n, clr_l, true_and, and_true, Option.toList_some, Option.toList_none, List.cons_append, List.nil_append, bI_0, bI_1, bI_or, ↓reduceIte, or_true, true_or, eq_self, irv, i0_add, not_true_eq_false, not_false_eq_true, Bool.false_eq_true, and_false, false_and, or_false, false_or, reduceCtorEq, nev, ngv, nc_or, in64, l64v, ite_not, ite_notP, up2_upr, upr_upr, upr_at, nI_cl, nI_ir, iav, nI_1, nI_mul6, nI_6mul, nI_lt2, nI_eq2, nI_neg, nI_m1, ltv, nI_z, upd_at, upd_off, upr_off, usv, upd_upd]
        exact hK _ _ hI
    · simp (maxSteps := 400000) (disch := first | omega | assumption) only [e99, e181, s77 _ n _ M _ g1 h13, s141 _ n _ M _ g1 h4, s112i, rg_cls, rg_ite, i32v, iff_true_intro hx, iff_false_intro hy, bI_T, bI_F, z01, kv, rv, tv, lnv, lv0, clv, clr_i, clr_r, clr_n, clr_l, true_and, and_true, Option.toList_some, Option.toList_none, List.cons_append, List.nil_append, bI_0, bI_1, bI_or, ↓reduceIte, or_true, true_or, eq_self, irv, i0_add, not_true_eq_false, not_false_eq_true, Bool.false_eq_true, and_false, false_and, or_false, false_or, reduceCtorEq, nev, ngv, nc_or, in64, l64v, ite_not, ite_notP, up2_upr, upr_upr, upr_at, nI_cl, nI_ir, iav, nI_1, nI_mul6, nI_6mul, nI_lt2, nI_eq2, nI_neg, nI_m1, ltv, nI_z, upd_at, upd_off, upr_off, usv, upd_upd]
      exact hK _ _ hI
  · simp (maxSteps := 400000) (disch := first | omega | assumption) only [e99, e181, s77 _ n _ M _ g1 h13, s141 _ n _ M _ g1 h4, iff_false_intro hx, bI_F, kv, rv, tv, lnv, lv0, clv, clr_i, clr_r, clr_n, clr_l, true_and, and_true, Option.toList_some, Option.toList_none, List.cons_append, List.nil_append, bI_0, bI_1, bI_or, ↓reduceIte, or_true, true_or, eq_self, irv, i0_add, not_true_eq_false, not_false_eq_true, Bool.false_eq_true, and_false, false_and, or_false, false_or, reduceCtorEq, nev, ngv, nc_or, in64, l64v, ite_not, ite_notP, up2_upr, upr_upr, upr_at, nI_cl, nI_ir, iav, nI_1, nI_mul6, nI_6mul, nI_lt2, nI_eq2, nI_neg, nI_m1, ltv, nI_z, upd_at, upd_off, upr_off, usv, upd_upd]
    exact hK _ _ hI
def wlB (q a : Int32) : Bool := decide (¬ q < a)
theorem l66 (d n : Nat) (q : Int32) (M : Mem) (Q : Option Value → Mem → Prop) (hn : n ≤ 4) (h4 : M 15 12 = nI n) : ∀ j k, k + j = n → (Wp (d + 2) 66 4 [.ref 14, .int q, .int (nI (mskN (fun k => wlB q (accF (M 16 k) (M 17 k) (M 24 3))) k)), .int (nI k)] [] M Q ↔ Q (some (.int (nI (mskN (fun k => wlB q (accF (M 16 k) (M 17 k) (M 24 3))) n)))) M)
  | 0, k, hk => by
    obtain rfl : k = n := hk
    rw [h66_4]
    simp (maxSteps := 400000) (disch := first | omega | assumption) only [e66, h4, Nat.lt_irrefl, kv, rv, tv, lnv, lv0, clv, clr_i, clr_r, clr_n, clr_l, true_and, and_true, Option.toList_some, Option.toList_none, List.cons_append, List.nil_append, bI_0, bI_1, bI_or, ↓reduceIte, or_true, true_or, eq_self, irv, i0_add, not_true_eq_false, not_false_eq_true, Bool.false_eq_true, and_false, false_and, or_false, false_or, reduceCtorEq, nev, ngv, nc_or, in64, l64v, ite_not, ite_notP, up2_upr, upr_upr, upr_at, nI_cl, nI_ir, iav, nI_1, nI_mul6, nI_6mul, nI_lt2, nI_eq2, nI_neg, nI_m1, ltv, nI_z, upd_at, upd_off, upr_off, usv, upd_upd]
  | j + 1, k, hk => by
    have hlt : k < n := by omega
    have h64 := mskN_64 (fun k => wlB q (accF (M 16 k) (M 17 k) (M 24 3))) (show k ≤ 6 by omega)
    have ih := l66 d n q M Q hn h4 j (k + 1) (by omega)
    rw [mskN] at ih
    rw [h66_4]
    by_cases e : q < accF (M 16 k) (M 17 k) (M 24 3)
    · have e' : wlB q (accF (M 16 k) (M 17 k) (M 24 3)) = false := decide_eq_false (fun z => z e)
      simp only [e', Bool.false_eq_true, if_false, Nat.or_zero] at ih
      simp (maxSteps := 400000) (disch := first | omega | assumption) only [e66, h4, hlt, s6 _ k n _ M _ hlt hn h4, e, kv, rv, tv, lnv, lv0, clv, clr_i, clr_r, clr_n, clr_l, true_and, and_true, Option.toList_some, Option.toList_none, List.cons_append, List.nil_append, bI_0, bI_1, bI_or, ↓reduceIte, or_true, true_or, eq_self, irv, i0_add, not_true_eq_false, not_false_eq_true, Bool.false_eq_true, and_false, false_and, or_false, false_or, reduceCtorEq, nev, ngv, nc_or, in64, l64v, ite_not, ite_notP, up2_upr, upr_upr, upr_at, nI_cl, nI_ir, iav, nI_1, nI_mul6, nI_6mul, nI_lt2, nI_eq2, nI_neg, nI_m1, ltv, nI_z, upd_at, upd_off, upr_off, usv, upd_upd]
      exact ih
    · have e' : wlB q (accF (M 16 k) (M 17 k) (M 24 3)) = true := decide_eq_true e
      simp only [e', if_true] at ih
      simp (maxSteps := 400000) (disch := first | omega | assumption) only [e66, h4, hlt, s6 _ k n _ M _ hlt hn h4, e, kv, rv, tv, lnv, lv0, clv, clr_i, clr_r, clr_n, clr_l, true_and, and_true, Option.toList_some, Option.toList_none, List.cons_append, List.nil_append, bI_0, bI_1, bI_or, ↓reduceIte, or_true, true_or, eq_self, irv, i0_add, not_true_eq_false, not_false_eq_true, Bool.false_eq_true, and_false, false_and, or_false, false_or, reduceCtorEq, nev, ngv, nc_or, in64, l64v, ite_not, ite_notP, up2_upr, upr_upr, upr_at, nI_cl, nI_ir, iav, nI_1, nI_mul6, nI_6mul, nI_lt2, nI_eq2, nI_neg, nI_m1, ltv, nI_z, upd_at, upd_off, upr_off, usv, upd_upd]
      rw [or_bit k (by omega) _ h64]
      exact ih
theorem l179 (d n : Nat) (q y : Int32) (a b c : Value) (M : Mem) (Q : Option Value → Mem → Prop) (hn : n ≤ 4) (h4 : M 41 3 = nI n) : ∀ j k, k + j = n → (Wp (d + 2) 179 30 [.ref 40, .int q, .int y, .int (nI (mskN (fun k => wlB q (accF (M 41 (6 + k)) (M 41 (10 + k)) (M 43 48))) k)), .int (nI k), a, b, c] [] M Q ↔ Wp (d + 2) 179 84 [.ref 40, .int q, .int y, .int (nI (mskN (fun k => wlB q (accF (M 41 (6 + k)) (M 41 (10 + k)) (M 43 48))) n)), .int 0, .int 0, .int 0, c] [] M Q)
  | 0, k, hk => by
    obtain rfl : k = n := hk
    rw [h179_30]
    simp (maxSteps := 400000) (disch := first | omega | assumption) only [e179_0, e179_1, h4, Nat.lt_irrefl, kv, rv, tv, lnv, lv0, clv, clr_i, clr_r, clr_n, clr_l, true_and, and_true, Option.toList_some, Option.toList_none, List.cons_append, List.nil_append, bI_0, bI_1, bI_or, ↓reduceIte, or_true, true_or, eq_self, irv, i0_add, not_true_eq_false, not_false_eq_true, Bool.false_eq_true, and_false, false_and, or_false, false_or, reduceCtorEq, nev, ngv, nc_or, in64, l64v, ite_not, ite_notP, up2_upr, upr_upr, upr_at, nI_cl, nI_ir, iav, nI_1, nI_mul6, nI_6mul, nI_lt2, nI_eq2, nI_neg, nI_m1, ltv, nI_z, upd_at, upd_off, upr_off, usv, upd_upd]
  | j + 1, k, hk => by
    have hlt : k < n := by omega
    have h64 := mskN_64 (fun k => wlB q (accF (M 41 (6 + k)) (M 41 (10 + k)) (M 43 48))) (show k ≤ 6 by omega)
    have ih := l179 d n q y a b c M Q hn h4 j (k + 1) (by omega)
    rw [mskN] at ih
    rw [h179_30]
    by_cases e : q < accF (M 41 (6 + k)) (M 41 (10 + k)) (M 43 48)
    · have e' : wlB q (accF (M 41 (6 + k)) (M 41 (10 + k)) (M 43 48)) = false := decide_eq_false (fun z => z e)
      simp only [e', Bool.false_eq_true, if_false, Nat.or_zero] at ih
      rw [← ih]
      simp (maxSteps := 400000) (disch := first | omega | assumption) only [e179_0, e179_1, h4, hlt, s139, e, or_z _ h64, kv, rv, tv, lnv, lv0, clv, clr_i, clr_r, clr_n, clr_l, true_and, and_true, Option.toList_some, Option.toList_none, List.cons_append, List.nil_append, bI_0, bI_1, bI_or, ↓reduceIte, or_true, true_or, eq_self, irv, i0_add, not_true_eq_false, not_false_eq_true, Bool.false_eq_true, and_false, false_and, or_false, false_or, reduceCtorEq, nev, ngv, nc_or, in64, l64v, ite_not, ite_notP, up2_upr, upr_upr, upr_at, nI_cl, nI_ir, iav, nI_1, nI_mul6, nI_6mul, nI_lt2, nI_eq2, nI_neg, nI_m1, ltv, nI_z, upd_at, upd_off, upr_off, usv, upd_upd]
    · have e' : wlB q (accF (M 41 (6 + k)) (M 41 (10 + k)) (M 43 48)) = true := decide_eq_true e
      simp only [e', if_true] at ih
      rw [← ih]
      simp (maxSteps := 400000) (disch := first | omega | assumption) only [e179_0, e179_1, h4, hlt, s139, e, or_bit k (by omega) _ h64, kv, rv, tv, lnv, lv0, clv, clr_i, clr_r, clr_n, clr_l, true_and, and_true, Option.toList_some, Option.toList_none, List.cons_append, List.nil_append, bI_0, bI_1, bI_or, ↓reduceIte, or_true, true_or, eq_self, irv, i0_add, not_true_eq_false, not_false_eq_true, Bool.false_eq_true, and_false, false_and, or_false, false_or, reduceCtorEq, nev, ngv, nc_or, in64, l64v, ite_not, ite_notP, up2_upr, upr_upr, upr_at, nI_cl, nI_ir, iav, nI_1, nI_mul6, nI_6mul, nI_lt2, nI_eq2, nI_neg, nI_m1, ltv, nI_z, upd_at, upd_off, upr_off, usv, upd_upd]
def alF (is s : Nat → Int32) (k : Nat) : Int32 := if is k = 3 then 0 else s k
def thF (m : Nat) (is s : Nat → Int32) (cr : Nat → Int32) (k : Nat) : Int32 := if m.testBit (cr k).toNatClampNeg = true then alF is s k else 0
theorem l67 (d n m : Nat) (M : Mem) (Q : Option Value → Mem → Prop) (hn : n ≤ 6) (h4 : M 15 13 = nI n) (hm : m < 64) (hc : ∀ k, k < n → ∃ c, c < 6 ∧ M 18 k = nI c) : ∀ j k, k + j = n → (Wp d 67 7 [.ref 14, .int (nI m), .int (smF (alF (M 25) (M 19)) k), .int (smF (thF m (M 25) (M 19) (M 18)) k), .int (nI k)] [] M Q ↔ Q (some (.int (bI (smF (alF (M 25) (M 19)) n < 2 * smF (thF m (M 25) (M 19) (M 18)) n)))) M)
  | 0, k, hk => by
    obtain rfl : k = n := hk
    rw [h67_7]
    by_cases h : smF (alF (M 25) (M 19)) k < 2 * smF (thF m (M 25) (M 19) (M 18)) k
    · simp (maxSteps := 400000) (disch := first | omega | assumption) only [e67, h4, Nat.lt_irrefl, h, bI_T, kv, rv, tv, lnv, lv0, clv, clr_i, clr_r, clr_n, clr_l, true_and, and_true, Option.toList_some, Option.toList_none, List.cons_append, List.nil_append, bI_0, bI_1, bI_or, ↓reduceIte, or_true, true_or, eq_self, irv, i0_add, not_true_eq_false, not_false_eq_true, Bool.false_eq_true, and_false, false_and, or_false, false_or, reduceCtorEq, nev, ngv, nc_or, in64, l64v, ite_not, ite_notP, up2_upr, upr_upr, upr_at, nI_cl, nI_ir, iav, nI_1, nI_mul6, nI_6mul, nI_lt2, nI_eq2, nI_neg, nI_m1, ltv, nI_z, upd_at, upd_off, upr_off, usv, upd_upd]
    · simp (maxSteps := 400000) (disch := first | omega | assumption) only [e67, h4, Nat.lt_irrefl, h, bI_F, kv, rv, tv, lnv, lv0, clv, clr_i, clr_r, clr_n, clr_l, true_and, and_true, Option.toList_some, Option.toList_none, List.cons_append, List.nil_append, bI_0, bI_1, bI_or, ↓reduceIte, or_true, true_or, eq_self, irv, i0_add, not_true_eq_false, not_false_eq_true, Bool.false_eq_true, and_false, false_and, or_false, false_or, reduceCtorEq, nev, ngv, nc_or, in64, l64v, ite_not, ite_notP, up2_upr, upr_upr, upr_at, nI_cl, nI_ir, iav, nI_1, nI_mul6, nI_6mul, nI_lt2, nI_eq2, nI_neg, nI_m1, ltv, nI_z, upd_at, upd_off, upr_off, usv, upd_upd]
  | j + 1, k, hk => by
    have hlt : k < n := by omega
    obtain ⟨c, hc6, ec⟩ := hc k hlt
    have ih := l67 d n m M Q hn h4 hm hc j (k + 1) (by omega)
    rw [smF_S, smF_S] at ih
    have e1 : thF m (M 25) (M 19) (M 18) k = if m.testBit c = true then alF (M 25) (M 19) k else 0 := by unfold thF; rw [ec, nI_cl (by omega)]
    rw [e1] at ih
    unfold alF at ih
    rw [h67_7]
    generalize smF (thF m (M 25) (M 19) (M 18)) k = t at ih ⊢
    rw [show (fun k => if M 25 k = 3 then 0 else M 19 k) = alF (M 25) (M 19) from rfl] at ih
    generalize smF (alF (M 25) (M 19)) k = a at ih ⊢
    by_cases h3 : M 25 k = 3
    · simp only [if_pos h3, Int32.add_zero, ite_self] at ih
      rw [← ih]
      simp (maxSteps := 400000) (disch := first | omega | assumption) only [e67, h4, hlt, h3, kv, rv, tv, lnv, lv0, clv, clr_i, clr_r, clr_n, clr_l, true_and, and_true, Option.toList_some, Option.toList_none, List.cons_append, List.nil_append, bI_0, bI_1, bI_or, ↓reduceIte, or_true, true_or, eq_self, irv, i0_add, not_true_eq_false, not_false_eq_true, Bool.false_eq_true, and_false, false_and, or_false, false_or, reduceCtorEq, nev, ngv, nc_or, in64, l64v, ite_not, ite_notP, up2_upr, upr_upr, upr_at, nI_cl, nI_ir, iav, nI_1, nI_mul6, nI_6mul, nI_lt2, nI_eq2, nI_neg, nI_m1, ltv, nI_z, upd_at, upd_off, upr_off, usv, upd_upd]
    · simp only [if_neg h3] at ih
      by_cases hb : m.testBit c = true
      · simp only [if_pos hb] at ih
        rw [← ih]
        simp (maxSteps := 400000) (disch := first | omega | assumption) only [e67, h4, hlt, h3, ec, and1, bt_iff c hc6 m hm, hb, kv, rv, tv, lnv, lv0, clv, clr_i, clr_r, clr_n, clr_l, true_and, and_true, Option.toList_some, Option.toList_none, List.cons_append, List.nil_append, bI_0, bI_1, bI_or, ↓reduceIte, or_true, true_or, eq_self, irv, i0_add, not_true_eq_false, not_false_eq_true, Bool.false_eq_true, and_false, false_and, or_false, false_or, reduceCtorEq, nev, ngv, nc_or, in64, l64v, ite_not, ite_notP, up2_upr, upr_upr, upr_at, nI_cl, nI_ir, iav, nI_1, nI_mul6, nI_6mul, nI_lt2, nI_eq2, nI_neg, nI_m1, ltv, nI_z, upd_at, upd_off, upr_off, usv, upd_upd]
      · simp only [if_neg hb, Int32.add_zero] at ih
        rw [← ih]
        simp (maxSteps := 400000) (disch := first | omega | assumption) only [e67, h4, hlt, h3, ec, and1, bt_iff c hc6 m hm, hb, kv, rv, tv, lnv, lv0, clv, clr_i, clr_r, clr_n, clr_l, true_and, and_true, Option.toList_some, Option.toList_none, List.cons_append, List.nil_append, bI_0, bI_1, bI_or, ↓reduceIte, or_true, true_or, eq_self, irv, i0_add, not_true_eq_false, not_false_eq_true, Bool.false_eq_true, and_false, false_and, or_false, false_or, reduceCtorEq, nev, ngv, nc_or, in64, l64v, ite_not, ite_notP, up2_upr, upr_upr, upr_at, nI_cl, nI_ir, iav, nI_1, nI_mul6, nI_6mul, nI_lt2, nI_eq2, nI_neg, nI_m1, ltv, nI_z, upd_at, upd_off, upr_off, usv, upd_upd]
