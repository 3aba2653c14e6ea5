/-! part 15: the program's WEEK -/
def caG (is ca h : Nat → Int32) (l : Int32) (d : Nat) : Int32 := if is d = 1 ∨ is d = 0 then wkl (ca d) (h d) l (is d = 1) else ca d
def ca1 (is ca h : Nat → Int32) (l : Int32) (i : Nat) : Nat → Int32 := fun q => if q < i then caG is ca h l q else ca q
def lod1 (is : Nat → Int32) (l x : Int32) : Nat → Int32
  | 0 => x
  | i + 1 => if is i = 1 then mn 999999 (lod1 is l x i + l) else lod1 is l x i
theorem ca1_s {is ca h : Nat → Int32} {l : Int32} (i : Nat) : upd (ca1 is ca h l i) i (caG is ca h l i) = ca1 is ca h l (i + 1) := fill_s (caG is ca h l) ca i
theorem ca1_0 {is ca h : Nat → Int32} {l : Int32} : ca1 is ca h l 0 = ca := fill_0 (caG is ca h l) ca
theorem ca1_hi {is ca h : Nat → Int32} {l : Int32} {i q : Nat} (hq : i ≤ q) : ca1 is ca h l i q = ca q := by
  unfold ca1
  rw [if_neg (by omega)]
theorem s53 (d k : Nat) (M : Mem) (Q : Option Value → Mem → Prop) (hk : k < 6) : Wp (d + 3) 53 0 [.ref 14, .int (nI k), .null] [] M Q ↔ Q none (if M 25 k = 1 then upr (upr M 26 (upd (M 26) k (wkl (M 26 k) (M 20 k) (M 15 9) True))) 24 (upd (M 24) 5 (mn 999999 (M 24 5 + M 15 9))) else upr M 26 (upd (M 26) k (wkl (M 26 k) (M 20 k) (M 15 9) False))) := by
  by_cases h : M 25 k = 1 <;> simp (disch := first | omega | assumption) only [e53, s47, h, kv, rv, tv, lnv, lv0, clv, clr_i, clr_r, clr_n, clr_l, true_and, and_true, Option.toList_some, Option.toList_none, List.cons_append, List.nil_append, bI_0, bI_1, bI_or, ↓reduceIte, or_true, true_or, eq_self, irv, i0_add, not_true_eq_false, not_false_eq_true, Bool.false_eq_true, and_false, false_and, or_false, false_or, reduceCtorEq, nev, ngv, nc_or, in64, l64v, ite_not, ite_notP, up2_upr, upr_upr, upr_at, nI_cl, nI_ir, iav, nI_1, nI_mul6, nI_6mul, nI_lt2, nI_eq2, nI_neg, nI_m1, ltv, nI_z, upd_at, upd_off, upr_off, usv, upd_upd]
theorem arr_up (M : Mem) (a b c : Nat → Int32) (h : a = M 26) : upr (upr M 26 a) 24 b = upr M 24 b := by rw [h, upr_id]
def arr1 (t : Nat) (x : Int32) : Nat → Int32
  | 0 => x
  | i + 1 => if t.testBit i = true then arr1 t x i + 1 else arr1 t x i
def is1 (t : Nat) (is : Nat → Int32) (i : Nat) : Nat → Int32 := fun q => if q < i then (if t.testBit q = true then 2 else is q) else is q
theorem is1_s {t : Nat} {is : Nat → Int32} (i : Nat) : upd (is1 t is i) i (if t.testBit i = true then 2 else is i) = is1 t is (i + 1) := fill_s (fun q => if t.testBit q = true then 2 else is q) is i
theorem is1_0 {t : Nat} {is : Nat → Int32} : is1 t is 0 = is := fill_0 (fun q => if t.testBit q = true then 2 else is q) is
theorem is1_hi {t : Nat} {is : Nat → Int32} {i q : Nat} (hq : i ≤ q) : is1 t is i q = is q := by
  unfold is1
  rw [if_neg (by omega)]
theorem upd_id (f : Nat → Int32) (k : Nat) : upd f k (f k) = f := by
  funext q
  unfold upd
  split
  next h => rw [h]
  next => rfl
theorem l54 (d n t : Nat) (M : Mem) (Q : Option Value → Mem → Prop) (hn : n ≤ 6) (h4 : M 15 13 = nI n) (ht : t < 64) : ∀ j i, i + j = n → (Wp d 54 2 [.ref 14, .int (nI t), .int (nI i)] [] (upr (upr M 25 (is1 t (M 25) i)) 24 (upd (M 24) 4 (arr1 t (M 24 4) i))) Q ↔ Q none (upr (upr M 25 (is1 t (M 25) n)) 24 (upd (M 24) 4 (arr1 t (M 24 4) n))))
  | 0, i, hi => by
    obtain rfl : i = n := hi
    rw [h54_2]
    simp (disch := first | omega | assumption) only [e54, h4, Nat.lt_irrefl, kv, rv, tv, lnv, lv0, clv, clr_i, clr_r, clr_n, clr_l, true_and, and_true, Option.toList_some, Option.toList_none, List.cons_append, List.nil_append, bI_0, bI_1, bI_or, ↓reduceIte, or_true, true_or, eq_self, irv, i0_add, not_true_eq_false, not_false_eq_true, Bool.false_eq_true, and_false, false_and, or_false, false_or, reduceCtorEq, nev, ngv, nc_or, in64, l64v, ite_not, ite_notP, up2_upr, upr_upr, upr_at, nI_cl, nI_ir, iav, nI_1, nI_mul6, nI_6mul, nI_lt2, nI_eq2, nI_neg, nI_m1, ltv, nI_z, upd_at, upd_off, upr_off, usv, upd_upd]
  | j + 1, i, hi => by
    have hlt : i < n := by omega
    have ih := l54 d n t M Q hn h4 ht j (i + 1) (by omega)
    rw [← is1_s, arr1] at ih
    rw [← ih, h54_2]
    have e1 : is1 t (M 25) i i = M 25 i := is1_hi (Nat.le_refl _)
    by_cases h : t.testBit i = true
    · rw [if_pos h, if_pos h]
      simp (disch := first | omega | assumption) only [e54, h4, hlt, and1, bt_iff, h, kv, rv, tv, lnv, lv0, clv, clr_i, clr_r, clr_n, clr_l, true_and, and_true, Option.toList_some, Option.toList_none, List.cons_append, List.nil_append, bI_0, bI_1, bI_or, ↓reduceIte, or_true, true_or, eq_self, irv, i0_add, not_true_eq_false, not_false_eq_true, Bool.false_eq_true, and_false, false_and, or_false, false_or, reduceCtorEq, nev, ngv, nc_or, in64, l64v, ite_not, ite_notP, up2_upr, upr_upr, upr_at, nI_cl, nI_ir, iav, nI_1, nI_mul6, nI_6mul, nI_lt2, nI_eq2, nI_neg, nI_m1, ltv, nI_z, upd_at, upd_off, upr_off, usv, upd_upd]
    · rw [if_neg h, if_neg h, ← e1, upd_id]
      simp (disch := first | omega | assumption) only [e54, h4, hlt, and1, bt_iff, h, kv, rv, tv, lnv, lv0, clv, clr_i, clr_r, clr_n, clr_l, true_and, and_true, Option.toList_some, Option.toList_none, List.cons_append, List.nil_append, bI_0, bI_1, bI_or, ↓reduceIte, or_true, true_or, eq_self, irv, i0_add, not_true_eq_false, not_false_eq_true, Bool.false_eq_true, and_false, false_and, or_false, false_or, reduceCtorEq, nev, ngv, nc_or, in64, l64v, ite_not, ite_notP, up2_upr, upr_upr, upr_at, nI_cl, nI_ir, iav, nI_1, nI_mul6, nI_6mul, nI_lt2, nI_eq2, nI_neg, nI_m1, ltv, nI_z, upd_at, upd_off, upr_off, usv, upd_upd]
theorem s54 (d n t : Nat) (M : Mem) (Q : Option Value → Mem → Prop) (hn : n ≤ 6) (h4 : M 15 13 = nI n) (ht : t < 64) : Wp d 54 0 [.ref 14, .int (nI t), .null] [] M Q ↔ Q none (upr (upr M 25 (is1 t (M 25) n)) 24 (upd (M 24) 4 (arr1 t (M 24 4) n))) := by
  have e := l54 d n t M Q hn h4 ht n 0 (by omega)
  rw [is1_0, upr_id, arr1, upd_id, upr_id] at e
  rw [← e]
  simp only [e54, kv, rv, tv, lnv, lv0, clv, clr_i, clr_r, clr_n, clr_l, true_and, and_true, Option.toList_some, Option.toList_none, List.cons_append, List.nil_append, bI_0, bI_1, bI_or, ↓reduceIte, or_true, true_or, eq_self, irv, i0_add, not_true_eq_false, not_false_eq_true, Bool.false_eq_true, and_false, false_and, or_false, false_or, reduceCtorEq, nev, ngv, nc_or, in64, l64v, ite_not, ite_notP, up2_upr, upr_upr, upr_at]
  rfl
def is2 (is ca : Nat → Int32) (i : Nat) : Nat → Int32 := fun q => if q < i then (if is q = 1 ∧ ca q < 0 then 0 else is q) else is q
theorem is2_s {is ca : Nat → Int32} (i : Nat) : upd (is2 is ca i) i (if is i = 1 ∧ ca i < 0 then 0 else is i) = is2 is ca (i + 1) := fill_s (fun q => if is q = 1 ∧ ca q < 0 then 0 else is q) is i
theorem is2_0 {is ca : Nat → Int32} : is2 is ca 0 = is := fill_0 (fun q => if is q = 1 ∧ ca q < 0 then 0 else is q) is
theorem is2_hi {is ca : Nat → Int32} {i q : Nat} (hq : i ≤ q) : is2 is ca i q = is q := by
  unfold is2
  rw [if_neg (by omega)]
theorem l51b (d n : Nat) (M : Mem) (Q : Option Value → Mem → Prop) (hn : n ≤ 6) (h4 : M 15 13 = nI n) : ∀ j i, i + j = n → (Wp d 51 42 [.ref 14, .int (nI i)] [] (upr M 25 (is2 (M 25) (M 26) i)) Q ↔ Q none (upr (upr M 25 (is2 (M 25) (M 26) n)) 24 (upd (M 24) 3 (M 24 3 + 1))))
  | 0, i, hi => by
    obtain rfl : i = n := hi
    rw [h51_42]
    simp (disch := first | omega | assumption) only [e51, h4, Nat.lt_irrefl, kv, rv, tv, lnv, lv0, clv, clr_i, clr_r, clr_n, clr_l, true_and, and_true, Option.toList_some, Option.toList_none, List.cons_append, List.nil_append, bI_0, bI_1, bI_or, ↓reduceIte, or_true, true_or, eq_self, irv, i0_add, not_true_eq_false, not_false_eq_true, Bool.false_eq_true, and_false, false_and, or_false, false_or, reduceCtorEq, nev, ngv, nc_or, in64, l64v, ite_not, ite_notP, up2_upr, upr_upr, upr_at, nI_cl, nI_ir, iav, nI_1, nI_mul6, nI_6mul, nI_lt2, nI_eq2, nI_neg, nI_m1, ltv, nI_z, upd_at, upd_off, upr_off, usv, upd_upd]
  | j + 1, i, hi => by
    have hlt : i < n := by omega
    have ih := l51b d n M Q hn h4 j (i + 1) (by omega)
    rw [← is2_s] at ih
    have e1 : is2 (M 25) (M 26) i i = M 25 i := is2_hi (Nat.le_refl _)
    rw [← ih, h51_42]
    by_cases g1 : M 25 i = 1 <;> by_cases g2 : M 26 i < 0
    · simp (disch := first | omega | assumption) only [e51, h4, hlt, e1, g1, g2, kv, rv, tv, lnv, lv0, clv, clr_i, clr_r, clr_n, clr_l, true_and, and_true, Option.toList_some, Option.toList_none, List.cons_append, List.nil_append, bI_0, bI_1, bI_or, ↓reduceIte, or_true, true_or, eq_self, irv, i0_add, not_true_eq_false, not_false_eq_true, Bool.false_eq_true, and_false, false_and, or_false, false_or, reduceCtorEq, nev, ngv, nc_or, in64, l64v, ite_not, ite_notP, up2_upr, upr_upr, upr_at, nI_cl, nI_ir, iav, nI_1, nI_mul6, nI_6mul, nI_lt2, nI_eq2, nI_neg, nI_m1, ltv, nI_z, upd_at, upd_off, upr_off, usv, upd_upd]
    · rw [if_neg (fun z => g2 z.2)]
      rw [show upd (is2 (M 25) (M 26) i) i (M 25 i) = is2 (M 25) (M 26) i by rw [← e1, upd_id]]
      simp (disch := first | omega | assumption) only [e51, h4, hlt, e1, g1, g2, kv, rv, tv, lnv, lv0, clv, clr_i, clr_r, clr_n, clr_l, true_and, and_true, Option.toList_some, Option.toList_none, List.cons_append, List.nil_append, bI_0, bI_1, bI_or, ↓reduceIte, or_true, true_or, eq_self, irv, i0_add, not_true_eq_false, not_false_eq_true, Bool.false_eq_true, and_false, false_and, or_false, false_or, reduceCtorEq, nev, ngv, nc_or, in64, l64v, ite_not, ite_notP, up2_upr, upr_upr, upr_at, nI_cl, nI_ir, iav, nI_1, nI_mul6, nI_6mul, nI_lt2, nI_eq2, nI_neg, nI_m1, ltv, nI_z, upd_at, upd_off, upr_off, usv, upd_upd]
    · rw [if_neg (fun z => g1 z.1)]
      rw [show upd (is2 (M 25) (M 26) i) i (M 25 i) = is2 (M 25) (M 26) i by rw [← e1, upd_id]]
      simp (disch := first | omega | assumption) only [e51, h4, hlt, e1, g1, g2, kv, rv, tv, lnv, lv0, clv, clr_i, clr_r, clr_n, clr_l, true_and, and_true, Option.toList_some, Option.toList_none, List.cons_append, List.nil_append, bI_0, bI_1, bI_or, ↓reduceIte, or_true, true_or, eq_self, irv, i0_add, not_true_eq_false, not_false_eq_true, Bool.false_eq_true, and_false, false_and, or_false, false_or, reduceCtorEq, nev, ngv, nc_or, in64, l64v, ite_not, ite_notP, up2_upr, upr_upr, upr_at, nI_cl, nI_ir, iav, nI_1, nI_mul6, nI_6mul, nI_lt2, nI_eq2, nI_neg, nI_m1, ltv, nI_z, upd_at, upd_off, upr_off, usv, upd_upd]
    · rw [if_neg (fun z => g1 z.1)]
      rw [show upd (is2 (M 25) (M 26) i) i (M 25 i) = is2 (M 25) (M 26) i by rw [← e1, upd_id]]
      simp (disch := first | omega | assumption) only [e51, h4, hlt, e1, g1, g2, kv, rv, tv, lnv, lv0, clv, clr_i, clr_r, clr_n, clr_l, true_and, and_true, Option.toList_some, Option.toList_none, List.cons_append, List.nil_append, bI_0, bI_1, bI_or, ↓reduceIte, or_true, true_or, eq_self, irv, i0_add, not_true_eq_false, not_false_eq_true, Bool.false_eq_true, and_false, false_and, or_false, false_or, reduceCtorEq, nev, ngv, nc_or, in64, l64v, ite_not, ite_notP, up2_upr, upr_upr, upr_at, nI_cl, nI_ir, iav, nI_1, nI_mul6, nI_6mul, nI_lt2, nI_eq2, nI_neg, nI_m1, ltv, nI_z, upd_at, upd_off, upr_off, usv, upd_upd]
/-- the rows of a life behind a WEEK: what they are, CASH, the counts -/
def wkI (is ca h s : Nat → Int32) (l : Int32) (n B : Nat) : Nat → Int32 := is2 (is1 (takN s n B (whoN is 0 n) 0) is n) (ca1 is ca h l n) n
def wkL (l24 is s : Nat → Int32) (l : Int32) (n B : Nat) : Nat → Int32 := upd (upd (upd l24 5 (lod1 is l (l24 5) n)) 4 (arr1 (takN s n B (whoN is 0 n) 0) (l24 4) n)) 3 (l24 3 + 1)
theorem s51b (d n B : Nat) (M : Mem) (Q : Option Value → Mem → Prop) (hn : n ≤ 6) (h4 : M 15 13 = nI n) (hB : B ≤ 6) (h2 : M 15 11 = nI B) : Wp (d + 4) 51 32 [.ref 14, .int (nI n)] [] M Q ↔ Q none (upr (upr M 24 (upd (upd (M 24) 4 (arr1 (takN (M 19) n B (whoN (M 25) 0 n) 0) (M 24 4) n)) 3 (M 24 3 + 1))) 25 (is2 (is1 (takN (M 19) n B (whoN (M 25) 0 n) 0) (M 25) n) (M 26) n)) := by
  have ht := takN_64 (M 19) hn B (whoN (M 25) 0 n) 0 (whoN_lt _ _ n hn) (by decide)
  have e43 := fun Q => s43 (d + 2) n B M Q hn h4 hB h2
  have e54 := fun Q => s54 (d + 3) n (takN (M 19) n B (whoN (M 25) 0 n) 0) M Q hn h4 ht
  have e := l51b (d + 4) n (upr (upr M 25 (is1 (takN (M 19) n B (whoN (M 25) 0 n) 0) (M 25) n)) 24 (upd (M 24) 4 (arr1 (takN (M 19) n B (whoN (M 25) 0 n) 0) (M 24 4) n))) Q hn (by rw [upr_off (by decide), upr_off (by decide)]; exact h4) n 0 (by omega)
  rw [is2_0, upr_id] at e
  simp (disch := first | omega | assumption) only [kv, rv, tv, lnv, lv0, clv, clr_i, clr_r, clr_n, clr_l, true_and, and_true, Option.toList_some, Option.toList_none, List.cons_append, List.nil_append, bI_0, bI_1, bI_or, ↓reduceIte, or_true, true_or, eq_self, irv, i0_add, not_true_eq_false, not_false_eq_true, Bool.false_eq_true, and_false, false_and, or_false, false_or, reduceCtorEq, nev, ngv, nc_or, in64, l64v, ite_not, ite_notP, up2_upr, upr_upr, upr_at, nI_cl, nI_ir, iav, nI_1, nI_mul6, nI_6mul, nI_lt2, nI_eq2, nI_neg, nI_m1, ltv, nI_z, upd_at, upd_off, upr_off, usv, upd_upd] at e
  simp (disch := first | omega | assumption) only [e51, e43, e54, kv, rv, tv, lnv, lv0, clv, clr_i, clr_r, clr_n, clr_l, true_and, and_true, Option.toList_some, Option.toList_none, List.cons_append, List.nil_append, bI_0, bI_1, bI_or, ↓reduceIte, or_true, true_or, eq_self, irv, i0_add, not_true_eq_false, not_false_eq_true, Bool.false_eq_true, and_false, false_and, or_false, false_or, reduceCtorEq, nev, ngv, nc_or, in64, l64v, ite_not, ite_notP, up2_upr, upr_upr, upr_at, nI_cl, nI_ir, iav, nI_1, nI_mul6, nI_6mul, nI_lt2, nI_eq2, nI_neg, nI_m1, ltv, nI_z, upd_at, upd_off, upr_off, usv, upd_upd]
  exact e
theorem l51 (d n B : Nat) (M : Mem) (Q : Option Value → Mem → Prop) (hn : n ≤ 6) (h4 : M 15 13 = nI n) (hB : B ≤ 6) (h2 : M 15 11 = nI B) : ∀ j i, i + j = n → (Wp (d + 4) 51 2 [.ref 14, .int (nI i)] [] (upr (upr M 24 (upd (M 24) 5 (lod1 (M 25) (M 15 9) (M 24 5) i))) 26 (ca1 (M 25) (M 26) (M 20) (M 15 9) i)) Q ↔ Q none (upr (upr (upr M 24 (wkL (M 24) (M 25) (M 19) (M 15 9) n B)) 25 (wkI (M 25) (M 26) (M 20) (M 19) (M 15 9) n B)) 26 (ca1 (M 25) (M 26) (M 20) (M 15 9) n)))
  | 0, i, hi => by
    obtain rfl : i = n := hi
    have e := s51b d i B (upr (upr M 24 (upd (M 24) 5 (lod1 (M 25) (M 15 9) (M 24 5) i))) 26 (ca1 (M 25) (M 26) (M 20) (M 15 9) i)) Q hn (by rw [upr_off (by decide), upr_off (by decide)]; exact h4) hB (by rw [upr_off (by decide), upr_off (by decide)]; exact h2)
    rw [h51_2]
    unfold wkL wkI
    simp (disch := first | omega | assumption) only [e51, h4, Nat.lt_irrefl, kv, rv, tv, lnv, lv0, clv, clr_i, clr_r, clr_n, clr_l, true_and, and_true, Option.toList_some, Option.toList_none, List.cons_append, List.nil_append, bI_0, bI_1, bI_or, ↓reduceIte, or_true, true_or, eq_self, irv, i0_add, not_true_eq_false, not_false_eq_true, Bool.false_eq_true, and_false, false_and, or_false, false_or, reduceCtorEq, nev, ngv, nc_or, in64, l64v, ite_not, ite_notP, up2_upr, upr_upr, upr_at, nI_cl, nI_ir, iav, nI_1, nI_mul6, nI_6mul, nI_lt2, nI_eq2, nI_neg, nI_m1, ltv, nI_z, upd_at, upd_off, upr_off, usv, upd_upd] at e
    simp (disch := first | omega | assumption) only [e51, h4, Nat.lt_irrefl, kv, rv, tv, lnv, lv0, clv, clr_i, clr_r, clr_n, clr_l, true_and, and_true, Option.toList_some, Option.toList_none, List.cons_append, List.nil_append, bI_0, bI_1, bI_or, ↓reduceIte, or_true, true_or, eq_self, irv, i0_add, not_true_eq_false, not_false_eq_true, Bool.false_eq_true, and_false, false_and, or_false, false_or, reduceCtorEq, nev, ngv, nc_or, in64, l64v, ite_not, ite_notP, up2_upr, upr_upr, upr_at, nI_cl, nI_ir, iav, nI_1, nI_mul6, nI_6mul, nI_lt2, nI_eq2, nI_neg, nI_m1, ltv, nI_z, upd_at, upd_off, upr_off, usv, upd_upd]
    exact e
  | j + 1, i, hi => by
    have hlt : i < n := by omega
    have ih := l51 d n B M Q hn h4 hB h2 j (i + 1) (by omega)
    have e1 : ca1 (M 25) (M 26) (M 20) (M 15 9) i i = M 26 i := ca1_hi (Nat.le_refl _)
    rw [← ih, ← ca1_s, lod1, h51_2]
    unfold caG
    by_cases g1 : M 25 i = 1
    · simp (disch := first | omega | assumption) only [e51, h4, hlt, e1, g1, s52, s53, kv, rv, tv, lnv, lv0, clv, clr_i, clr_r, clr_n, clr_l, true_and, and_true, Option.toList_some, Option.toList_none, List.cons_append, List.nil_append, bI_0, bI_1, bI_or, ↓reduceIte, or_true, true_or, eq_self, irv, i0_add, not_true_eq_false, not_false_eq_true, Bool.false_eq_true, and_false, false_and, or_false, false_or, reduceCtorEq, nev, ngv, nc_or, in64, l64v, ite_not, ite_notP, up2_upr, upr_upr, upr_at, nI_cl, nI_ir, iav, nI_1, nI_mul6, nI_6mul, nI_lt2, nI_eq2, nI_neg, nI_m1, ltv, nI_z, upd_at, upd_off, upr_off, usv, upd_upd]
    · by_cases g0 : M 25 i = 0
      · simp (disch := first | omega | assumption) only [e51, h4, hlt, e1, g1, g0, s52, s53, kv, rv, tv, lnv, lv0, clv, clr_i, clr_r, clr_n, clr_l, true_and, and_true, Option.toList_some, Option.toList_none, List.cons_append, List.nil_append, bI_0, bI_1, bI_or, ↓reduceIte, or_true, true_or, eq_self, irv, i0_add, not_true_eq_false, not_false_eq_true, Bool.false_eq_true, and_false, false_and, or_false, false_or, reduceCtorEq, nev, ngv, nc_or, in64, l64v, ite_not, ite_notP, up2_upr, upr_upr, upr_at, nI_cl, nI_ir, iav, nI_1, nI_mul6, nI_6mul, nI_lt2, nI_eq2, nI_neg, nI_m1, ltv, nI_z, upd_at, upd_off, upr_off, usv, upd_upd]
      · rw [if_neg g1, if_neg (fun z : M 25 i = 1 ∨ M 25 i = 0 => z.elim g1 g0), ← e1, upd_id]
        simp (disch := first | omega | assumption) only [e51, h4, hlt, g1, g0, s52, s53, kv, rv, tv, lnv, lv0, clv, clr_i, clr_r, clr_n, clr_l, true_and, and_true, Option.toList_some, Option.toList_none, List.cons_append, List.nil_append, bI_0, bI_1, bI_or, ↓reduceIte, or_true, true_or, eq_self, irv, i0_add, not_true_eq_false, not_false_eq_true, Bool.false_eq_true, and_false, false_and, or_false, false_or, reduceCtorEq, nev, ngv, nc_or, in64, l64v, ite_not, ite_notP, up2_upr, upr_upr, upr_at, nI_cl, nI_ir, iav, nI_1, nI_mul6, nI_6mul, nI_lt2, nI_eq2, nI_neg, nI_m1, ltv, nI_z, upd_at, upd_off, upr_off, usv, upd_upd]
theorem s51 (d n B : Nat) (M : Mem) (Q : Option Value → Mem → Prop) (hn : n ≤ 6) (h4 : M 15 13 = nI n) (hB : B ≤ 6) (h2 : M 15 11 = nI B) : Wp (d + 4) 51 0 [.ref 14, .null] [] M Q ↔ Q none (upr (upr (upr M 24 (wkL (M 24) (M 25) (M 19) (M 15 9) n B)) 25 (wkI (M 25) (M 26) (M 20) (M 19) (M 15 9) n B)) 26 (ca1 (M 25) (M 26) (M 20) (M 15 9) n)) := by
  have e := l51 d n B M Q hn h4 hB h2 n 0 (by omega)
  rw [ca1_0, lod1, upd_id, upr_id, upr_id] at e
  rw [← e]
  simp only [e51, kv, rv, tv, lnv, lv0, clv, clr_i, clr_r, clr_n, clr_l, true_and, and_true, Option.toList_some, Option.toList_none, List.cons_append, List.nil_append, bI_0, bI_1, bI_or, ↓reduceIte, or_true, true_or, eq_self, irv, i0_add, not_true_eq_false, not_false_eq_true, Bool.false_eq_true, and_false, false_and, or_false, false_or, reduceCtorEq, nev, ngv, nc_or, in64, l64v, ite_not, ite_notP, up2_upr, upr_upr, upr_at]
  rfl
