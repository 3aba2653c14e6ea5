/-! part 16: the program's debts inside -/
theorem l9 (d k : Nat) (M : Mem) (Q : Option Value → Mem → Prop) (hk : k < 6) : ∀ j i, i + j = 6 → (Wp (d + 2) 9 4 [.ref 27, .int (nI k), .int (smF (fun e => M 28 (e * 6 + k)) i), .int (nI i)] [] M Q ↔ Q (some (.int (smF (fun e => M 28 (e * 6 + k)) 6))) M)
  | 0, i, hi => by
    obtain rfl : i = 6 := hi
    rw [h9_4]
    simp (disch := first | omega | assumption) only [e9, Nat.lt_irrefl, kv, rv, tv, lnv, lv0, clv, clr_i, clr_r, clr_n, clr_l, true_and, and_true, Option.toList_some, Option.toList_none, List.cons_append, List.nil_append, bI_0, bI_1, bI_or, ↓reduceIte, or_true, true_or, eq_self, irv, i0_add, not_true_eq_false, not_false_eq_true, Bool.false_eq_true, and_false, false_and, or_false, false_or, reduceCtorEq, nev, ngv, nc_or, in64, l64v, ite_not, ite_notP, up2_upr, upr_upr, upr_at, nI_cl, nI_ir, iav, nI_1, nI_mul6, nI_6mul, nI_lt2, nI_eq2, nI_neg, nI_m1, ltv, nI_z, upd_at, upd_off, upr_off, usv, upd_upd]
  | j + 1, i, hi => by
    have hlt : i < 6 := by omega
    refine Iff.trans ?_ (l9 d k M Q hk j (i + 1) (by omega))
    rw [h9_4, smF]
    simp (disch := first | omega | assumption) only [e9, hlt, s10, kv, rv, tv, lnv, lv0, clv, clr_i, clr_r, clr_n, clr_l, true_and, and_true, Option.toList_some, Option.toList_none, List.cons_append, List.nil_append, bI_0, bI_1, bI_or, ↓reduceIte, or_true, true_or, eq_self, irv, i0_add, not_true_eq_false, not_false_eq_true, Bool.false_eq_true, and_false, false_and, or_false, false_or, reduceCtorEq, nev, ngv, nc_or, in64, l64v, ite_not, ite_notP, up2_upr, upr_upr, upr_at, nI_cl, nI_ir, iav, nI_1, nI_mul6, nI_6mul, nI_lt2, nI_eq2, nI_neg, nI_m1, ltv, nI_z, upd_at, upd_off, upr_off, usv, upd_upd]
theorem s9 (d k : Nat) (M : Mem) (Q : Option Value → Mem → Prop) (hk : k < 6) : Wp (d + 2) 9 0 [.ref 27, .int (nI k), .null, .null] [] M Q ↔ Q (some (.int (smF (fun e => M 28 (e * 6 + k)) 6))) M := by
  rw [← l9 d k M Q hk 6 0 (by omega)]
  simp only [e9, kv, rv, tv, lnv, lv0, clv, clr_i, clr_r, clr_n, clr_l, true_and, and_true, Option.toList_some, Option.toList_none, List.cons_append, List.nil_append, bI_0, bI_1, bI_or, ↓reduceIte, or_true, true_or, eq_self, irv, i0_add, not_true_eq_false, not_false_eq_true, Bool.false_eq_true, and_false, false_and, or_false, false_or, reduceCtorEq, nev, ngv, nc_or, in64, l64v, ite_not, ite_notP, up2_upr, upr_upr, upr_at]
  rfl
theorem l8b (d k : Nat) (a : Int32) (M : Mem) (Q : Option Value → Mem → Prop) (hk : k < 6) : ∀ j i, i + j = 6 → (Wp (d + 3) 8 24 [.ref 27, .int (a + smF (fun e => mx 0 (M 28 (k * 6 + e))) i), .int (nI k), .int (nI i)] [] M Q ↔ Wp (d + 3) 8 4 [.ref 27, .int (a + smF (fun e => mx 0 (M 28 (k * 6 + e))) 6), .int (nI (k + 1)), .int (nI 6)] [] M Q)
  | 0, i, hi => by
    obtain rfl : i = 6 := hi
    rw [h8_24]
    simp (disch := first | omega | assumption) only [e8, Nat.lt_irrefl, kv, rv, tv, lnv, lv0, clv, clr_i, clr_r, clr_n, clr_l, true_and, and_true, Option.toList_some, Option.toList_none, List.cons_append, List.nil_append, bI_0, bI_1, bI_or, ↓reduceIte, or_true, true_or, eq_self, irv, i0_add, not_true_eq_false, not_false_eq_true, Bool.false_eq_true, and_false, false_and, or_false, false_or, reduceCtorEq, nev, ngv, nc_or, in64, l64v, ite_not, ite_notP, up2_upr, upr_upr, upr_at, nI_cl, nI_ir, iav, nI_1, nI_mul6, nI_6mul, nI_lt2, nI_eq2, nI_neg, nI_m1, ltv, nI_z, upd_at, upd_off, upr_off, usv, upd_upd]
  | j + 1, i, hi => by
    have hlt : i < 6 := by omega
    refine Iff.trans ?_ (l8b d k a M Q hk j (i + 1) (by omega))
    rw [h8_24, smF]
    simp (disch := first | omega | assumption) only [e8, hlt, s12, Int32.add_assoc, kv, rv, tv, lnv, lv0, clv, clr_i, clr_r, clr_n, clr_l, true_and, and_true, Option.toList_some, Option.toList_none, List.cons_append, List.nil_append, bI_0, bI_1, bI_or, ↓reduceIte, or_true, true_or, eq_self, irv, i0_add, not_true_eq_false, not_false_eq_true, Bool.false_eq_true, and_false, false_and, or_false, false_or, reduceCtorEq, nev, ngv, nc_or, in64, l64v, ite_not, ite_notP, up2_upr, upr_upr, upr_at, nI_cl, nI_ir, iav, nI_1, nI_mul6, nI_6mul, nI_lt2, nI_eq2, nI_neg, nI_m1, ltv, nI_z, upd_at, upd_off, upr_off, usv, upd_upd]
def cleC (b : Nat → Int32) : Nat → Int32
  | 0 => 0
  | k + 1 => cleC b k - mx 0 (smF (fun e => b (e * 6 + k)) 6) + smF (fun e => mx 0 (b (k * 6 + e))) 6
theorem l8 (d : Nat) (M : Mem) (Q : Option Value → Mem → Prop) : ∀ j k x, k + j = 6 → (Wp (d + 3) 8 4 [.ref 27, .int (cleC (M 28) k), .int (nI k), x] [] M Q ↔ Q (some (.int (cleC (M 28) 6))) M)
  | 0, i, x, hi => by
    obtain rfl : i = 6 := hi
    rw [h8_4]
    simp (disch := first | omega | assumption) only [e8, Nat.lt_irrefl, kv, rv, tv, lnv, lv0, clv, clr_i, clr_r, clr_n, clr_l, true_and, and_true, Option.toList_some, Option.toList_none, List.cons_append, List.nil_append, bI_0, bI_1, bI_or, ↓reduceIte, or_true, true_or, eq_self, irv, i0_add, not_true_eq_false, not_false_eq_true, Bool.false_eq_true, and_false, false_and, or_false, false_or, reduceCtorEq, nev, ngv, nc_or, in64, l64v, ite_not, ite_notP, up2_upr, upr_upr, upr_at, nI_cl, nI_ir, iav, nI_1, nI_mul6, nI_6mul, nI_lt2, nI_eq2, nI_neg, nI_m1, ltv, nI_z, upd_at, upd_off, upr_off, usv, upd_upd]
  | j + 1, k, x, hi => by
    have hlt : k < 6 := by omega
    refine Iff.trans ?_ (l8 d M Q j (k + 1) (.int (nI 6)) (by omega))
    have e := l8b d k (cleC (M 28) k - mx 0 (smF (fun e => M 28 (e * 6 + k)) 6)) M Q hlt 6 0 (by omega)
    rw [cleC]
    refine Iff.trans ?_ e
    rw [h8_4, smF, Int32.add_zero]
    simp (disch := first | omega | assumption) only [e8, hlt, s9, kv, rv, tv, lnv, lv0, clv, clr_i, clr_r, clr_n, clr_l, true_and, and_true, Option.toList_some, Option.toList_none, List.cons_append, List.nil_append, bI_0, bI_1, bI_or, ↓reduceIte, or_true, true_or, eq_self, irv, i0_add, not_true_eq_false, not_false_eq_true, Bool.false_eq_true, and_false, false_and, or_false, false_or, reduceCtorEq, nev, ngv, nc_or, in64, l64v, ite_not, ite_notP, up2_upr, upr_upr, upr_at, nI_cl, nI_ir, iav, nI_1, nI_mul6, nI_6mul, nI_lt2, nI_eq2, nI_neg, nI_m1, ltv, nI_z, upd_at, upd_off, upr_off, usv, upd_upd]
    rfl
theorem s8 (d : Nat) (M : Mem) (Q : Option Value → Mem → Prop) : Wp (d + 3) 8 0 [.ref 27, .null, .null, .null] [] M Q ↔ Q (some (.int (cleC (M 28) 6))) M := by
  rw [← l8 d M Q 6 0 .null (by omega)]
  simp only [e8, kv, rv, tv, lnv, lv0, clv, clr_i, clr_r, clr_n, clr_l, true_and, and_true, Option.toList_some, Option.toList_none, List.cons_append, List.nil_append, bI_0, bI_1, bI_or, ↓reduceIte, or_true, true_or, eq_self, irv, i0_add, not_true_eq_false, not_false_eq_true, Bool.false_eq_true, and_false, false_and, or_false, false_or, reduceCtorEq, nev, ngv, nc_or, in64, l64v, ite_not, ite_notP, up2_upr, upr_upr, upr_at]
  rfl
def fiF (f : Nat → Int32) : Nat → Nat → Option Nat
  | 0, _ => none
  | n + 1, e => if 0 < f e then some e else fiF f n (e + 1)
theorem l14 (d k : Nat) (M : Mem) (Q : Option Value → Mem → Prop) (hk : k < 6) : ∀ j e, e + j = 6 → (Wp (d + 3) 14 2 [.ref 27, .int (nI k), .int (nI e)] [] M Q ↔ Q (some (.int (oI (fiF (fun e => mx 0 (M 28 (e * 6 + k))) j e)))) M)
  | 0, e, he => by
    obtain rfl : e = 6 := he
    rw [h14_2]
    simp (disch := first | omega | assumption) only [e14, Nat.lt_irrefl, fiF, oI, kv, rv, tv, lnv, lv0, clv, clr_i, clr_r, clr_n, clr_l, true_and, and_true, Option.toList_some, Option.toList_none, List.cons_append, List.nil_append, bI_0, bI_1, bI_or, ↓reduceIte, or_true, true_or, eq_self, irv, i0_add, not_true_eq_false, not_false_eq_true, Bool.false_eq_true, and_false, false_and, or_false, false_or, reduceCtorEq, nev, ngv, nc_or, in64, l64v, ite_not, ite_notP, up2_upr, upr_upr, upr_at, nI_cl, nI_ir, iav, nI_1, nI_mul6, nI_6mul, nI_lt2, nI_eq2, nI_neg, nI_m1, ltv, nI_z, upd_at, upd_off, upr_off, usv, upd_upd]
  | j + 1, e, he => by
    have hlt : e < 6 := by omega
    have ih := l14 d k M Q hk j (e + 1) (by omega)
    rw [h14_2, fiF]
    simp (disch := first | omega | assumption) only [e14, hlt, s12, ih, kv, rv, tv, lnv, lv0, clv, clr_i, clr_r, clr_n, clr_l, true_and, and_true, Option.toList_some, Option.toList_none, List.cons_append, List.nil_append, bI_0, bI_1, bI_or, ↓reduceIte, or_true, true_or, eq_self, irv, i0_add, not_true_eq_false, not_false_eq_true, Bool.false_eq_true, and_false, false_and, or_false, false_or, reduceCtorEq, nev, ngv, nc_or, in64, l64v, ite_not, ite_notP, up2_upr, upr_upr, upr_at, nI_cl, nI_ir, iav, nI_1, nI_mul6, nI_6mul, nI_lt2, nI_eq2, nI_neg, nI_m1, ltv, nI_z, upd_at, upd_off, upr_off, usv, upd_upd]
    split <;> rfl
theorem s14 (d k : Nat) (M : Mem) (Q : Option Value → Mem → Prop) (hk : k < 6) : Wp (d + 3) 14 0 [.ref 27, .int (nI k), .null] [] M Q ↔ Q (some (.int (oI (fiF (fun e => mx 0 (M 28 (e * 6 + k))) 6 0)))) M := by
  rw [← l14 d k M Q hk 6 0 (by omega)]
  simp only [e14, kv, rv, tv, lnv, lv0, clv, clr_i, clr_r, clr_n, clr_l, true_and, and_true, Option.toList_some, Option.toList_none, List.cons_append, List.nil_append, bI_0, bI_1, bI_or, ↓reduceIte, or_true, true_or, eq_self, irv, i0_add, not_true_eq_false, not_false_eq_true, Bool.false_eq_true, and_false, false_and, or_false, false_or, reduceCtorEq, nev, ngv, nc_or, in64, l64v, ite_not, ite_notP, up2_upr, upr_upr, upr_at]
  rfl
/-- whom one owes most, and how much -/
def mosF (f : Nat → Int32) : Nat → Option Nat × Int32
  | 0 => (none, 0)
  | n + 1 => if (mosF f n).2 < f n then (some n, f n) else mosF f n
theorem l16 (d k : Nat) (M : Mem) (Q : Option Value → Mem → Prop) (hk : k < 6) : ∀ j i, i + j = 6 → (Wp (d + 3) 16 7 [.ref 27, .int (nI k), .int (oI (mosF (fun e => mx 0 (M 28 (k * 6 + e))) i).1), .int (mosF (fun e => mx 0 (M 28 (k * 6 + e))) i).2, .int (nI i)] [] M Q ↔ Q (some (.int (oI (mosF (fun e => mx 0 (M 28 (k * 6 + e))) 6).1))) M)
  | 0, i, hi => by
    obtain rfl : i = 6 := hi
    rw [h16_7]
    simp (disch := first | omega | assumption) only [e16, Nat.lt_irrefl, kv, rv, tv, lnv, lv0, clv, clr_i, clr_r, clr_n, clr_l, true_and, and_true, Option.toList_some, Option.toList_none, List.cons_append, List.nil_append, bI_0, bI_1, bI_or, ↓reduceIte, or_true, true_or, eq_self, irv, i0_add, not_true_eq_false, not_false_eq_true, Bool.false_eq_true, and_false, false_and, or_false, false_or, reduceCtorEq, nev, ngv, nc_or, in64, l64v, ite_not, ite_notP, up2_upr, upr_upr, upr_at, nI_cl, nI_ir, iav, nI_1, nI_mul6, nI_6mul, nI_lt2, nI_eq2, nI_neg, nI_m1, ltv, nI_z, upd_at, upd_off, upr_off, usv, upd_upd]
  | j + 1, i, hi => by
    have hlt : i < 6 := by omega
    have ih := l16 d k M Q hk j (i + 1) (by omega)
    rw [mosF] at ih
    rw [h16_7]
    by_cases h : (mosF (fun e => mx 0 (M 28 (k * 6 + e))) i).2 < mx 0 (M 28 (k * 6 + i))
    · rw [if_pos h] at ih
      rw [← ih]
      simp (disch := first | omega | assumption) only [e16, hlt, s12, h, oI, kv, rv, tv, lnv, lv0, clv, clr_i, clr_r, clr_n, clr_l, true_and, and_true, Option.toList_some, Option.toList_none, List.cons_append, List.nil_append, bI_0, bI_1, bI_or, ↓reduceIte, or_true, true_or, eq_self, irv, i0_add, not_true_eq_false, not_false_eq_true, Bool.false_eq_true, and_false, false_and, or_false, false_or, reduceCtorEq, nev, ngv, nc_or, in64, l64v, ite_not, ite_notP, up2_upr, upr_upr, upr_at, nI_cl, nI_ir, iav, nI_1, nI_mul6, nI_6mul, nI_lt2, nI_eq2, nI_neg, nI_m1, ltv, nI_z, upd_at, upd_off, upr_off, usv, upd_upd]
    · rw [if_neg h] at ih
      rw [← ih]
      simp (disch := first | omega | assumption) only [e16, hlt, s12, h, kv, rv, tv, lnv, lv0, clv, clr_i, clr_r, clr_n, clr_l, true_and, and_true, Option.toList_some, Option.toList_none, List.cons_append, List.nil_append, bI_0, bI_1, bI_or, ↓reduceIte, or_true, true_or, eq_self, irv, i0_add, not_true_eq_false, not_false_eq_true, Bool.false_eq_true, and_false, false_and, or_false, false_or, reduceCtorEq, nev, ngv, nc_or, in64, l64v, ite_not, ite_notP, up2_upr, upr_upr, upr_at, nI_cl, nI_ir, iav, nI_1, nI_mul6, nI_6mul, nI_lt2, nI_eq2, nI_neg, nI_m1, ltv, nI_z, upd_at, upd_off, upr_off, usv, upd_upd]
theorem s16 (d k : Nat) (M : Mem) (Q : Option Value → Mem → Prop) (hk : k < 6) : Wp (d + 3) 16 0 [.ref 27, .int (nI k), .null, .null, .null] [] M Q ↔ Q (some (.int (oI (mosF (fun e => mx 0 (M 28 (k * 6 + e))) 6).1))) M := by
  rw [← l16 d k M Q hk 6 0 (by omega)]
  simp only [e16, kv, rv, tv, lnv, lv0, clv, clr_i, clr_r, clr_n, clr_l, true_and, and_true, Option.toList_some, Option.toList_none, List.cons_append, List.nil_append, bI_0, bI_1, bI_or, ↓reduceIte, or_true, true_or, eq_self, irv, i0_add, not_true_eq_false, not_false_eq_true, Bool.false_eq_true, and_false, false_and, or_false, false_or, reduceCtorEq, nev, ngv, nc_or, in64, l64v, ite_not, ite_notP, up2_upr, upr_upr, upr_at]
  rfl
theorem mosF_lt {f : Nat → Int32} : ∀ {n b : Nat}, (mosF f n).1 = some b → b < n
  | 0, b, h => by cases h
  | n + 1, b, h => by
    rw [mosF] at h
    split at h
    · cases h; omega
    · have := mosF_lt h; omega
def chN (nx : Nat → Option Nat) : Nat → Nat → Nat → Option Nat → Nat × Nat
  | 0, m, l, _ => (m, l)
  | _ + 1, m, l, none => (m, l)
  | f + 1, m, l, some e => if m.testBit e = true then (m, l) else chN nx f (m ||| 2 ^ e) e (nx e)
theorem chN_64 {nx : Nat → Option Nat} (hx : ∀ e b, nx e = some b → b < 6) : ∀ f m l o, m < 64 → (∀ b, o = some b → b < 6) → (chN nx f m l o).1 < 64
  | 0, m, l, o, hm, _ => hm
  | f + 1, m, l, none, hm, _ => hm
  | f + 1, m, l, some e, hm, ho => by
    rw [chN]
    split
    · exact hm
    · exact chN_64 hx f _ _ _ (s_or hm (ho e rfl)) (fun b hb => hx e b hb)
abbrev nxC (b : Nat → Int32) (k : Nat) : Option Nat := (mosF (fun e => mx 0 (b (k * 6 + e))) 6).1
theorem l15 (d k : Nat) (z : Int32) (M : Mem) (Q : Option Value → Mem → Prop) : ∀ j i m l o, i + j = 6 → m < 64 → l < 6 → (∀ b, o = some b → b < 6) → (Wp (d + 4) 15 17 [.ref 27, .int (nI k), .int z, .int (nI m), .int (nI l), .int (oI o), .int (nI i)] [] M Q ↔ Q (some (.int (if z = 0 then nI (pcN (chN (nxC (M 28)) j m l o).1) else nI (chN (nxC (M 28)) j m l o).2))) M)
  | 0, i, m, l, o, hi, hm, hl, ho => by
    obtain rfl : i = 6 := hi
    rw [h15_17, chN]
    by_cases hz : z = 0 <;> simp (disch := first | omega | assumption) only [e15, Nat.lt_irrefl, hz, s195, kv, rv, tv, lnv, lv0, clv, clr_i, clr_r, clr_n, clr_l, true_and, and_true, Option.toList_some, Option.toList_none, List.cons_append, List.nil_append, bI_0, bI_1, bI_or, ↓reduceIte, or_true, true_or, eq_self, irv, i0_add, not_true_eq_false, not_false_eq_true, Bool.false_eq_true, and_false, false_and, or_false, false_or, reduceCtorEq, nev, ngv, nc_or, in64, l64v, ite_not, ite_notP, up2_upr, upr_upr, upr_at, nI_cl, nI_ir, iav, nI_1, nI_mul6, nI_6mul, nI_lt2, nI_eq2, nI_neg, nI_m1, ltv, nI_z, upd_at, upd_off, upr_off, usv, upd_upd]
  | j + 1, i, m, l, none, hi, hm, hl, ho => by
    have hlt : i < 6 := by omega
    rw [h15_17, chN]
    by_cases hz : z = 0 <;> simp (disch := first | omega | assumption) only [e15, hlt, hz, s195, oI, kv, rv, tv, lnv, lv0, clv, clr_i, clr_r, clr_n, clr_l, true_and, and_true, Option.toList_some, Option.toList_none, List.cons_append, List.nil_append, bI_0, bI_1, bI_or, ↓reduceIte, or_true, true_or, eq_self, irv, i0_add, not_true_eq_false, not_false_eq_true, Bool.false_eq_true, and_false, false_and, or_false, false_or, reduceCtorEq, nev, ngv, nc_or, in64, l64v, ite_not, ite_notP, up2_upr, upr_upr, upr_at, nI_cl, nI_ir, iav, nI_1, nI_mul6, nI_6mul, nI_lt2, nI_eq2, nI_neg, nI_m1, ltv, nI_z, upd_at, upd_off, upr_off, usv, upd_upd]
  | j + 1, i, m, l, some e, hi, hm, hl, ho => by
    have hlt : i < 6 := by omega
    have he := ho e rfl
    rw [h15_17, chN]
    by_cases hb : m.testBit e = true
    · by_cases hz : z = 0 <;> simp (disch := first | omega | assumption) only [e15, hlt, hz, s195, oI, and1, bt_iff, hb, kv, rv, tv, lnv, lv0, clv, clr_i, clr_r, clr_n, clr_l, true_and, and_true, Option.toList_some, Option.toList_none, List.cons_append, List.nil_append, bI_0, bI_1, bI_or, ↓reduceIte, or_true, true_or, eq_self, irv, i0_add, not_true_eq_false, not_false_eq_true, Bool.false_eq_true, and_false, false_and, or_false, false_or, reduceCtorEq, nev, ngv, nc_or, in64, l64v, ite_not, ite_notP, up2_upr, upr_upr, upr_at, nI_cl, nI_ir, iav, nI_1, nI_mul6, nI_6mul, nI_lt2, nI_eq2, nI_neg, nI_m1, ltv, nI_z, upd_at, upd_off, upr_off, usv, upd_upd]
    · rw [if_neg hb]
      have ih := l15 d k z M Q j (i + 1) (m ||| 2 ^ e) e (nxC (M 28) e) (by omega) (s_or hm he) he (fun b hb => mosF_lt hb)
      rw [← ih]
      simp (disch := first | omega | assumption) only [e15, hlt, oI, and1, bt_iff, hb, or_bit, s16, kv, rv, tv, lnv, lv0, clv, clr_i, clr_r, clr_n, clr_l, true_and, and_true, Option.toList_some, Option.toList_none, List.cons_append, List.nil_append, bI_0, bI_1, bI_or, ↓reduceIte, or_true, true_or, eq_self, irv, i0_add, not_true_eq_false, not_false_eq_true, Bool.false_eq_true, and_false, false_and, or_false, false_or, reduceCtorEq, nev, ngv, nc_or, in64, l64v, ite_not, ite_notP, up2_upr, upr_upr, upr_at, nI_cl, nI_ir, iav, nI_1, nI_mul6, nI_6mul, nI_lt2, nI_eq2, nI_neg, nI_m1, ltv, nI_z, upd_at, upd_off, upr_off, usv, upd_upd]
theorem s15 (d k : Nat) (z : Int32) (M : Mem) (Q : Option Value → Mem → Prop) (hk : k < 6) : Wp (d + 4) 15 0 [.ref 27, .int (nI k), .int z, .null, .null, .null, .null] [] M Q ↔ Q (some (.int (if z = 0 then nI (pcN (chN (nxC (M 28)) 6 (2 ^ k) k (nxC (M 28) k)).1) else nI (chN (nxC (M 28)) 6 (2 ^ k) k (nxC (M 28) k)).2))) M := by
  have hp : (1 : Int32) <<< (nI k &&& 31) = nI (2 ^ k) := by
    have := or_bit k hk 0 (by decide)
    rw [Nat.zero_or] at this
    rw [← this]
    simp [nI]
  rw [← l15 d k z M Q 6 0 (2 ^ k) k (nxC (M 28) k) (by omega) (p2_lt k hk) hk (fun b hb => mosF_lt hb)]
  simp (disch := first | omega | assumption) only [e15, hp, s16, kv, rv, tv, lnv, lv0, clv, clr_i, clr_r, clr_n, clr_l, true_and, and_true, Option.toList_some, Option.toList_none, List.cons_append, List.nil_append, bI_0, bI_1, bI_or, ↓reduceIte, or_true, true_or, eq_self, irv, i0_add, not_true_eq_false, not_false_eq_true, Bool.false_eq_true, and_false, false_and, or_false, false_or, reduceCtorEq, nev, ngv, nc_or, in64, l64v, ite_not, ite_notP, up2_upr, upr_upr, upr_at, nI_cl, nI_ir, iav, nI_1, nI_mul6, nI_6mul, nI_lt2, nI_eq2, nI_neg, nI_m1, ltv, nI_z, upd_at, upd_off, upr_off, usv, upd_upd]
  rfl
theorem l196 (d k n : Nat) (v : Int32) (M : Mem) (Q : Option Value → Mem → Prop) (hk : isK k 13 = true) (hl : ∀ M, lnm M k = n) (hn : n < 5000) : ∀ j i, i + j = n → (Wp d 196 5 [.ref k, .int v, .int (nI i), .int (nI n)] [] (upr M k (fun q => if q < i then v else M k q)) Q ↔ Q none (upr M k (fun q => if q < n then v else M k q)))
  | 0, i, hi => by
    obtain rfl : i = n := hi
    rw [h196_5]
    simp (disch := first | omega | assumption) only [e196, Nat.lt_irrefl, kv, rv, tv, lnv, lv0, clv, clr_i, clr_r, clr_n, clr_l, true_and, and_true, Option.toList_some, Option.toList_none, List.cons_append, List.nil_append, bI_0, bI_1, bI_or, ↓reduceIte, or_true, true_or, eq_self, irv, i0_add, not_true_eq_false, not_false_eq_true, Bool.false_eq_true, and_false, false_and, or_false, false_or, reduceCtorEq, nev, ngv, nc_or, in64, l64v, ite_not, ite_notP, up2_upr, upr_upr, upr_at, nI_cl, nI_ir, iav, nI_1, nI_mul6, nI_6mul, nI_lt2, nI_eq2, nI_neg, nI_m1, ltv, nI_z, upd_at, upd_off, upr_off, usv, upd_upd]
  | j + 1, i, hi => by
    have hlt : i < n := by omega
    have e := fill_s (fun _ => v) (M k) i
    refine Iff.trans ?_ (l196 d k n v M Q hk hl hn j (i + 1) (by omega))
    rw [h196_5]
    simp (disch := first | omega | assumption) only [e196, hlt, hk, hl, e, kv, rv, tv, lnv, lv0, clv, clr_i, clr_r, clr_n, clr_l, true_and, and_true, Option.toList_some, Option.toList_none, List.cons_append, List.nil_append, bI_0, bI_1, bI_or, ↓reduceIte, or_true, true_or, eq_self, irv, i0_add, not_true_eq_false, not_false_eq_true, Bool.false_eq_true, and_false, false_and, or_false, false_or, reduceCtorEq, nev, ngv, nc_or, in64, l64v, ite_not, ite_notP, up2_upr, upr_upr, upr_at, nI_cl, nI_ir, iav, nI_1, nI_mul6, nI_6mul, nI_lt2, nI_eq2, nI_neg, nI_m1, ltv, nI_z, upd_at, upd_off, upr_off, usv, upd_upd]
theorem s196 (d k n : Nat) (v : Int32) (M : Mem) (Q : Option Value → Mem → Prop) (hk : isK k 13 = true) (hr : isR k = true) (hl : ∀ M, lnm M k = n) (hn : n < 5000) : Wp d 196 0 [.ref k, .int v, .null, .null] [] M Q ↔ Q none (upr M k (fun q => if q < n then v else M k q)) := by
  have e := l196 d k n v M Q hk hl hn n 0 (by omega)
  rw [fill_0 (fun _ => v) (M k), upr_id] at e
  rw [← e]
  simp only [e196, hr, hl, kv, rv, tv, lnv, lv0, clv, clr_i, clr_r, clr_n, clr_l, true_and, and_true, Option.toList_some, Option.toList_none, List.cons_append, List.nil_append, bI_0, bI_1, bI_or, ↓reduceIte, or_true, true_or, eq_self, irv, i0_add, not_true_eq_false, not_false_eq_true, Bool.false_eq_true, and_false, false_and, or_false, false_or, reduceCtorEq, nev, ngv, nc_or, in64, l64v, ite_not, ite_notP, up2_upr, upr_upr, upr_at]
  rfl
