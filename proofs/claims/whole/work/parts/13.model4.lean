/-! part 13: the reference's WEEK, DRAWS -/
def caF (y g : Nat → Int32) (d : Nat) : Int32 := if g d = 1 ∨ g d = 0 then wkl (g (6 + d)) (y (26 + d)) (y 0) (g d = 1) else g (6 + d)
def lodF (y g : Nat → Int32) : Nat → Int32
  | 0 => g 50
  | i + 1 => mn 999999 (lodF y g i + (if g i = 1 then y 0 else 0))
def w1F (y g : Nat → Int32) (i : Nat) : Nat → Int32 := fun q => if 6 ≤ q ∧ q < 6 + i then caF y g (q - 6) else if q = 50 then lodF y g i else g q
theorem w1_lo {y g : Nat → Int32} {i q : Nat} (h : q < 6) : w1F y g i q = g q := by
  unfold w1F
  rw [if_neg (by omega), if_neg (by omega)]
theorem w1_ca {y g : Nat → Int32} {i d : Nat} (hd : i ≤ d) (h : d < 6) : w1F y g i (6 + d) = g (6 + d) := by
  unfold w1F
  rw [if_neg (by omega), if_neg (by omega)]
theorem w1_50 {y g : Nat → Int32} {i : Nat} (hi : i ≤ 6) : w1F y g i 50 = lodF y g i := by
  unfold w1F
  rw [if_neg (by omega), if_pos rfl]
theorem w1_s {y g : Nat → Int32} {i : Nat} (hi : i < 6) : upd (upd (w1F y g i) (6 + i) (caF y g i)) 50 (lodF y g (i + 1)) = w1F y g (i + 1) := by
  funext q
  unfold upd w1F
  by_cases h1 : q = 50
  · subst h1
    rw [if_pos rfl, if_neg (by omega), if_pos rfl]
  · rw [if_neg h1]
    by_cases h2 : q = 6 + i
    · subst h2
      rw [if_pos rfl, if_pos (by omega)]
      congr 1
      omega
    · rw [if_neg h2]
      by_cases h3 : 6 ≤ q ∧ q < 6 + i
      · simp only [if_pos h3, if_pos (show 6 ≤ q ∧ q < 6 + (i + 1) by omega)]
      · simp only [if_neg h3, if_neg (show ¬ (6 ≤ q ∧ q < 6 + (i + 1)) by omega), if_neg h1]
theorem w1_0 {y g : Nat → Int32} : w1F y g 0 = g := by
  funext q
  unfold w1F
  rw [if_neg (by omega)]
  split
  next h => rw [h]; rfl
  next => rfl
def stF (t : Nat) (g : Nat → Int32) (d : Nat) : Int32 := if t.testBit d = true then 2 else if g d = 1 ∧ g (6 + d) < 0 then 0 else g d
def w2F (t : Nat) (g : Nat → Int32) (i : Nat) : Nat → Int32 := fun q => if q < i then stF t g q else g q
theorem w2_hi {t : Nat} {g : Nat → Int32} {i q : Nat} (h : i ≤ q) : w2F t g i q = g q := by
  unfold w2F
  rw [if_neg (by omega)]
theorem w2_s {t : Nat} {g : Nat → Int32} (i : Nat) : upd (w2F t g i) i (stF t g i) = w2F t g (i + 1) := fill_s (stF t g) g i
theorem w2_0 {t : Nat} {g : Nat → Int32} : w2F t g 0 = g := fill_0 (stF t g) g
theorem l149b (d n t : Nat) (M : Mem) (Q : Option Value → Mem → Prop) (hn : n ≤ 6) (h4 : M 41 4 = nI n) (ht : t < 64) : ∀ j i z, i + j = n → (Wp (d + 1) 149 145 [.ref 40, .int (nI t), .int (nI i), z] [] (upr M 43 (w2F t (M 43) i)) Q ↔ Q none (upr M 43 (upd (w2F t (M 43) n) 48 (M 43 48 + 1))))
  | 0, i, z, hi => by
    obtain rfl : i = n := hi
    have e1 : w2F t (M 43) i 48 = M 43 48 := w2_hi (by omega)
    rw [h149_145]
    simp (disch := first | omega | assumption) only [e149_0, e149_1, e149_2, h4, Nat.lt_irrefl, e1, kv, rv, tv, lnv, lv0, clv, clr_i, clr_r, clr_n, clr_l, true_and, and_true, Option.toList_some, Option.toList_none, List.cons_append, List.nil_append, bI_0, bI_1, bI_or, ↓reduceIte, or_true, true_or, eq_self, irv, i0_add, not_true_eq_false, not_false_eq_true, Bool.false_eq_true, and_false, false_and, or_false, false_or, reduceCtorEq, nev, ngv, nc_or, in64, l64v, ite_not, ite_notP, up2_upr, upr_upr, upr_at, nI_cl, nI_ir, iav, nI_1, nI_mul6, nI_6mul, nI_lt2, nI_eq2, nI_neg, nI_m1, ltv, nI_z, upd_at, upd_off, upr_off, usv, upd_upd]
  | j + 1, i, z, hi => by
    have hlt : i < n := by omega
    have e1 : w2F t (M 43) i i = M 43 i := w2_hi (Nat.le_refl _)
    have e2 : w2F t (M 43) i (6 + i) = M 43 (6 + i) := w2_hi (by omega)
    have e3 := w2_s (t := t) (g := M 43) i
    have ih := fun z => l149b d n t M Q hn h4 ht j (i + 1) z (by omega)
    rw [← e3] at ih
    unfold stF at ih
    rw [h149_145]
    by_cases g1 : M 43 i = 1 <;> by_cases g2 : M 43 (6 + i) < 0 <;> by_cases g3 : t.testBit i = true <;> simp (disch := first | omega | assumption) only [g1, g2, g3, kv, rv, tv, lnv, lv0, clv, clr_i, clr_r, clr_n, clr_l, true_and, and_true, Option.toList_some, Option.toList_none, List.cons_append, List.nil_append, bI_0, bI_1, bI_or, ↓reduceIte, or_true, true_or, eq_self, irv, i0_add, not_true_eq_false, not_false_eq_true, Bool.false_eq_true, and_false, false_and, or_false, false_or, reduceCtorEq, nev, ngv, nc_or, in64, l64v, ite_not, ite_notP, up2_upr, upr_upr, upr_at, nI_cl, nI_ir, iav, nI_1, nI_mul6, nI_6mul, nI_lt2, nI_eq2, nI_neg, nI_m1, ltv, nI_z, upd_at, upd_off, upr_off, usv, upd_upd] at ih <;> simp (disch := first | omega | assumption) only [e149_0, e149_1, e149_2, h4, hlt, e1, e2, g1, g2, g3, s129, bt_iff, ih, kv, rv, tv, lnv, lv0, clv, clr_i, clr_r, clr_n, clr_l, true_and, and_true, Option.toList_some, Option.toList_none, List.cons_append, List.nil_append, bI_0, bI_1, bI_or, ↓reduceIte, or_true, true_or, eq_self, irv, i0_add, not_true_eq_false, not_false_eq_true, Bool.false_eq_true, and_false, false_and, or_false, false_or, reduceCtorEq, nev, ngv, nc_or, in64, l64v, ite_not, ite_notP, up2_upr, upr_upr, upr_at, nI_cl, nI_ir, iav, nI_1, nI_mul6, nI_6mul, nI_lt2, nI_eq2, nI_neg, nI_m1, ltv, nI_z, upd_at, upd_off, upr_off, usv, upd_upd]
def wkF (y g : Nat → Int32) (n B : Nat) : Nat → Int32 :=
  upd (w2F (takN (fun q => y (20 + q)) n B (whoN g 0 n) 0) (upd (w1F y g n) 49 (mn 999999 (g 49 + nI (pcN (takN (fun q => y (20 + q)) n B (whoN g 0 n) 0))))) n) 48 (g 48 + 1)
theorem whoN_c {f g : Nat → Int32} {what : Int32} : ∀ {n : Nat}, (∀ k, k < n → f k = g k) → whoN f what n = whoN g what n
  | 0, _ => rfl
  | n + 1, h => by rw [whoN, whoN, whoN_c (fun k hk => h k (by omega)), h n (by omega)]
theorem takN_64 (f : Nat → Int32) {n : Nat} (hn : n ≤ 6) : ∀ b m s, m < 2 ^ n → s < 64 → takN f n b m s < 64
  | 0, m, s, hm, hs => hs
  | b + 1, m, s, hm, hs => by
    rw [takN]
    split
    · exact hs
    · split
      · exact hs
      next k hk => exact takN_64 f hn b _ _ (Nat.lt_of_le_of_lt Nat.and_le_left hm) (s_or hs (Nat.lt_of_lt_of_le (bstN_lt hk) hn))
theorem s149b (d n B : Nat) (M : Mem) (g : Nat → Int32) (Q : Option Value → Mem → Prop) (hn : n ≤ 6) (h4 : M 41 4 = nI n) (hB : B ≤ 6) (h2 : M 41 2 = nI B) (x z : Value) : Wp (d + 3) 149 114 [.ref 40, .int (nI n), x, z] [] (upr M 43 (w1F (M 41) g n)) Q ↔ Q none (upr M 43 (wkF (M 41) g n B)) := by
  have hw : whoN (w1F (M 41) g n) 0 n = whoN g 0 n := whoN_c (fun k hk => w1_lo (by omega))
  have e49 : w1F (M 41) g n 49 = g 49 := by unfold w1F; rw [if_neg (by omega), if_neg (by omega)]
  have e48 : w1F (M 41) g n 48 = g 48 := by unfold w1F; rw [if_neg (by omega), if_neg (by omega)]
  have ht := takN_64 (fun q => M 41 (20 + q)) hn B (whoN g 0 n) 0 (whoN_lt _ _ n hn) (by decide)
  have e := l149b (d + 2) n (takN (fun q => M 41 (20 + q)) n B (whoN g 0 n) 0) (upr M 43 (upd (w1F (M 41) g n) 49 (mn 999999 (g 49 + nI (pcN (takN (fun q => M 41 (20 + q)) n B (whoN g 0 n) 0)))))) Q hn (by rw [upr_off (by decide)]; exact h4) ht n 0 z (by omega)
  rw [w2_0, upr_id] at e
  have e128 := fun Q => s128 (d + 1) n B (upr M 43 (w1F (M 41) g n)) Q hn (by rw [upr_off (by decide)]; exact h4) hB (by rw [upr_off (by decide)]; exact h2)
  simp (disch := first | omega | assumption) only [hw, kv, rv, tv, lnv, lv0, clv, clr_i, clr_r, clr_n, clr_l, true_and, and_true, Option.toList_some, Option.toList_none, List.cons_append, List.nil_append, bI_0, bI_1, bI_or, ↓reduceIte, or_true, true_or, eq_self, irv, i0_add, not_true_eq_false, not_false_eq_true, Bool.false_eq_true, and_false, false_and, or_false, false_or, reduceCtorEq, nev, ngv, nc_or, in64, l64v, ite_not, ite_notP, up2_upr, upr_upr, upr_at, nI_cl, nI_ir, iav, nI_1, nI_mul6, nI_6mul, nI_lt2, nI_eq2, nI_neg, nI_m1, ltv, nI_z, upd_at, upd_off, upr_off, usv, upd_upd] at e128
  simp (disch := first | omega | assumption) only [e48, kv, rv, tv, lnv, lv0, clv, clr_i, clr_r, clr_n, clr_l, true_and, and_true, Option.toList_some, Option.toList_none, List.cons_append, List.nil_append, bI_0, bI_1, bI_or, ↓reduceIte, or_true, true_or, eq_self, irv, i0_add, not_true_eq_false, not_false_eq_true, Bool.false_eq_true, and_false, false_and, or_false, false_or, reduceCtorEq, nev, ngv, nc_or, in64, l64v, ite_not, ite_notP, up2_upr, upr_upr, upr_at, nI_cl, nI_ir, iav, nI_1, nI_mul6, nI_6mul, nI_lt2, nI_eq2, nI_neg, nI_m1, ltv, nI_z, upd_at, upd_off, upr_off, usv, upd_upd] at e
  simp (disch := first | omega | assumption) only [e149_0, e149_1, e149_2, e128, s151, e49, s133, kv, rv, tv, lnv, lv0, clv, clr_i, clr_r, clr_n, clr_l, true_and, and_true, Option.toList_some, Option.toList_none, List.cons_append, List.nil_append, bI_0, bI_1, bI_or, ↓reduceIte, or_true, true_or, eq_self, irv, i0_add, not_true_eq_false, not_false_eq_true, Bool.false_eq_true, and_false, false_and, or_false, false_or, reduceCtorEq, nev, ngv, nc_or, in64, l64v, ite_not, ite_notP, up2_upr, upr_upr, upr_at, nI_cl, nI_ir, iav, nI_1, nI_mul6, nI_6mul, nI_lt2, nI_eq2, nI_neg, nI_m1, ltv, nI_z, upd_at, upd_off, upr_off, usv, upd_upd]
  exact e
theorem l149 (d n B : Nat) (M : Mem) (Q : Option Value → Mem → Prop) (hn : n ≤ 6) (h4 : M 41 4 = nI n) (hB : B ≤ 6) (h2 : M 41 2 = nI B) (z : Value) : ∀ j i x, i + j = n → (Wp (d + 3) 149 2 [.ref 40, .int (nI i), x, z] [] (upr M 43 (w1F (M 41) (M 43) i)) Q ↔ Q none (upr M 43 (wkF (M 41) (M 43) n B)))
  | 0, i, x, hi => by
    obtain rfl : i = n := hi
    rw [← s149b d i B M (M 43) Q hn h4 hB h2 x z, h149_2]
    simp (disch := first | omega | assumption) only [e149_0, e149_1, e149_2, h4, Nat.lt_irrefl, kv, rv, tv, lnv, lv0, clv, clr_i, clr_r, clr_n, clr_l, true_and, and_true, Option.toList_some, Option.toList_none, List.cons_append, List.nil_append, bI_0, bI_1, bI_or, ↓reduceIte, or_true, true_or, eq_self, irv, i0_add, not_true_eq_false, not_false_eq_true, Bool.false_eq_true, and_false, false_and, or_false, false_or, reduceCtorEq, nev, ngv, nc_or, in64, l64v, ite_not, ite_notP, up2_upr, upr_upr, upr_at, nI_cl, nI_ir, iav, nI_1, nI_mul6, nI_6mul, nI_lt2, nI_eq2, nI_neg, nI_m1, ltv, nI_z, upd_at, upd_off, upr_off, usv, upd_upd]
  | j + 1, i, x, hi => by
    have hlt : i < n := by omega
    have h6 : i < 6 := by omega
    rw [h149_2]
    have e1 : w1F (M 41) (M 43) i i = M 43 i := w1_lo h6
    have e2 : w1F (M 41) (M 43) i (6 + i) = M 43 (6 + i) := w1_ca (Nat.le_refl _) h6
    have e3 : w1F (M 41) (M 43) i 50 = lodF (M 41) (M 43) i := w1_50 (by omega)
    have ih := fun x => l149 d n B M Q hn h4 hB h2 z j (i + 1) x (by omega)
    rw [← w1_s h6] at ih
    unfold caF lodF at ih
    by_cases g1 : M 43 i = 1
    · simp (disch := first | omega | assumption) only [g1, kv, rv, tv, lnv, lv0, clv, clr_i, clr_r, clr_n, clr_l, true_and, and_true, Option.toList_some, Option.toList_none, List.cons_append, List.nil_append, bI_0, bI_1, bI_or, ↓reduceIte, or_true, true_or, eq_self, irv, i0_add, not_true_eq_false, not_false_eq_true, Bool.false_eq_true, and_false, false_and, or_false, false_or, reduceCtorEq, nev, ngv, nc_or, in64, l64v, ite_not, ite_notP, up2_upr, upr_upr, upr_at, nI_cl, nI_ir, iav, nI_1, nI_mul6, nI_6mul, nI_lt2, nI_eq2, nI_neg, nI_m1, ltv, nI_z, upd_at, upd_off, upr_off, usv, upd_upd] at ih
      simp (disch := first | omega | assumption) only [e149_0, e149_1, e149_2, h4, hlt, e1, e2, e3, g1, s150, s131, s133, kv, rv, tv, lnv, lv0, clv, clr_i, clr_r, clr_n, clr_l, true_and, and_true, Option.toList_some, Option.toList_none, List.cons_append, List.nil_append, bI_0, bI_1, bI_or, ↓reduceIte, or_true, true_or, eq_self, irv, i0_add, not_true_eq_false, not_false_eq_true, Bool.false_eq_true, and_false, false_and, or_false, false_or, reduceCtorEq, nev, ngv, nc_or, in64, l64v, ite_not, ite_notP, up2_upr, upr_upr, upr_at, nI_cl, nI_ir, iav, nI_1, nI_mul6, nI_6mul, nI_lt2, nI_eq2, nI_neg, nI_m1, ltv, nI_z, upd_at, upd_off, upr_off, usv, upd_upd]
      exact ih _
    · by_cases g0 : M 43 i = 0
      · simp (disch := first | omega | assumption) only [g1, g0, kv, rv, tv, lnv, lv0, clv, clr_i, clr_r, clr_n, clr_l, true_and, and_true, Option.toList_some, Option.toList_none, List.cons_append, List.nil_append, bI_0, bI_1, bI_or, ↓reduceIte, or_true, true_or, eq_self, irv, i0_add, not_true_eq_false, not_false_eq_true, Bool.false_eq_true, and_false, false_and, or_false, false_or, reduceCtorEq, nev, ngv, nc_or, in64, l64v, ite_not, ite_notP, up2_upr, upr_upr, upr_at, nI_cl, nI_ir, iav, nI_1, nI_mul6, nI_6mul, nI_lt2, nI_eq2, nI_neg, nI_m1, ltv, nI_z, upd_at, upd_off, upr_off, usv, upd_upd] at ih
        simp (disch := first | omega | assumption) only [e149_0, e149_1, e149_2, h4, hlt, e1, e2, e3, g1, g0, s150, s131, s133, kv, rv, tv, lnv, lv0, clv, clr_i, clr_r, clr_n, clr_l, true_and, and_true, Option.toList_some, Option.toList_none, List.cons_append, List.nil_append, bI_0, bI_1, bI_or, ↓reduceIte, or_true, true_or, eq_self, irv, i0_add, not_true_eq_false, not_false_eq_true, Bool.false_eq_true, and_false, false_and, or_false, false_or, reduceCtorEq, nev, ngv, nc_or, in64, l64v, ite_not, ite_notP, up2_upr, upr_upr, upr_at, nI_cl, nI_ir, iav, nI_1, nI_mul6, nI_6mul, nI_lt2, nI_eq2, nI_neg, nI_m1, ltv, nI_z, upd_at, upd_off, upr_off, usv, upd_upd]
        exact ih _
      · simp (disch := first | omega | assumption) only [g1, g0, kv, rv, tv, lnv, lv0, clv, clr_i, clr_r, clr_n, clr_l, true_and, and_true, Option.toList_some, Option.toList_none, List.cons_append, List.nil_append, bI_0, bI_1, bI_or, ↓reduceIte, or_true, true_or, eq_self, irv, i0_add, not_true_eq_false, not_false_eq_true, Bool.false_eq_true, and_false, false_and, or_false, false_or, reduceCtorEq, nev, ngv, nc_or, in64, l64v, ite_not, ite_notP, up2_upr, upr_upr, upr_at, nI_cl, nI_ir, iav, nI_1, nI_mul6, nI_6mul, nI_lt2, nI_eq2, nI_neg, nI_m1, ltv, nI_z, upd_at, upd_off, upr_off, usv, upd_upd] at ih
        simp (disch := first | omega | assumption) only [e149_0, e149_1, e149_2, h4, hlt, e1, e2, e3, g1, g0, s150, s131, s133, kv, rv, tv, lnv, lv0, clv, clr_i, clr_r, clr_n, clr_l, true_and, and_true, Option.toList_some, Option.toList_none, List.cons_append, List.nil_append, bI_0, bI_1, bI_or, ↓reduceIte, or_true, true_or, eq_self, irv, i0_add, not_true_eq_false, not_false_eq_true, Bool.false_eq_true, and_false, false_and, or_false, false_or, reduceCtorEq, nev, ngv, nc_or, in64, l64v, ite_not, ite_notP, up2_upr, upr_upr, upr_at, nI_cl, nI_ir, iav, nI_1, nI_mul6, nI_6mul, nI_lt2, nI_eq2, nI_neg, nI_m1, ltv, nI_z, upd_at, upd_off, upr_off, usv, upd_upd]
        exact ih _
theorem s149 (d n B : Nat) (M : Mem) (Q : Option Value → Mem → Prop) (hn : n ≤ 6) (h4 : M 41 4 = nI n) (hB : B ≤ 6) (h2 : M 41 2 = nI B) : Wp (d + 3) 149 0 [.ref 40, .null, .null, .null] [] M Q ↔ Q none (upr M 43 (wkF (M 41) (M 43) n B)) := by
  have e := l149 d n B M Q hn h4 hB h2 .null n 0 .null (by omega)
  rw [w1_0, upr_id] at e
  rw [← e]
  simp only [e149_0, e149_1, e149_2, kv, rv, tv, lnv, lv0, clv, clr_i, clr_r, clr_n, clr_l, true_and, and_true, Option.toList_some, Option.toList_none, List.cons_append, List.nil_append, bI_0, bI_1, bI_or, ↓reduceIte, or_true, true_or, eq_self, irv, i0_add, not_true_eq_false, not_false_eq_true, Bool.false_eq_true, and_false, false_and, or_false, false_or, reduceCtorEq, nev, ngv, nc_or, in64, l64v, ite_not, ite_notP, up2_upr, upr_upr, upr_at]
  rfl
