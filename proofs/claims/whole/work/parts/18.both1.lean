/-! part 18: who is safe, the price of rooms -/
def mskN (p : Nat → Bool) : Nat → Nat
  | 0 => 0
  | n + 1 => mskN p n ||| (if p n = true then 2 ^ n else 0)
theorem mskN_lt (p : Nat → Bool) : ∀ n, n ≤ 6 → mskN p n < 2 ^ n
  | 0, _ => Nat.zero_lt_one
  | n + 1, h => by
    have ih := mskN_lt p n (by omega)
    rw [mskN]
    have h2 : 2 ^ (n + 1) = 2 * 2 ^ n := by rw [Nat.pow_succ]; omega
    have h3 : 0 < 2 ^ n := Nat.two_pow_pos n
    refine Nat.or_lt_two_pow (by omega) ?_
    split <;> omega
theorem mskN_64 (p : Nat → Bool) {n : Nat} (h : n ≤ 6) : mskN p n < 64 := Nat.lt_of_lt_of_le (mskN_lt p n h) (p2_64 n h)
theorem mskN_c {p q : Nat → Bool} : ∀ {n : Nat}, (∀ k, k < n → p k = q k) → mskN p n = mskN q n
  | 0, _ => rfl
  | n + 1, h => by rw [mskN, mskN, mskN_c (fun k hk => h k (by omega)), h n (by omega)]
def sfB (i c h l : Int32) : Bool := decide (¬ i = 0 ∧ ¬ (i = 1 ∧ wkl c h l True < 0))
theorem l130 (d n : Nat) (M : Mem) (Q : Option Value → Mem → Prop) (hn : n ≤ 6) (h4 : M 41 4 = nI n) : ∀ j k x, k + j = n → (Wp (d + 3) 130 4 [.ref 40, .int (nI (mskN (fun k => sfB (M 43 k) (M 43 (6 + k)) (M 41 (26 + k)) (M 41 0)) k)), .int (nI k), x] [] M Q ↔ Q (some (.int (nI (mskN (fun k => sfB (M 43 k) (M 43 (6 + k)) (M 41 (26 + k)) (M 41 0)) n)))) M)
  | 0, k, x, hk => by
    obtain rfl : k = n := hk
    rw [h130_4]
    simp (disch := first | omega | assumption) only [e130, h4, Nat.lt_irrefl, kv, rv, tv, lnv, lv0, clv, clr_i, clr_r, clr_n, clr_l, true_and, and_true, Option.toList_some, Option.toList_none, List.cons_append, List.nil_append, bI_0, bI_1, bI_or, ↓reduceIte, or_true, true_or, eq_self, irv, i0_add, not_true_eq_false, not_false_eq_true, Bool.false_eq_true, and_false, false_and, or_false, false_or, reduceCtorEq, nev, ngv, nc_or, in64, l64v, ite_not, ite_notP, up2_upr, upr_upr, upr_at, nI_cl, nI_ir, iav, nI_1, nI_mul6, nI_6mul, nI_lt2, nI_eq2, nI_neg, nI_m1, ltv, nI_z, upd_at, upd_off, upr_off, usv, upd_upd]
  | j + 1, k, x, hk => by
    have hlt : k < n := by omega
    have h64 := mskN_64 (fun k => sfB (M 43 k) (M 43 (6 + k)) (M 41 (26 + k)) (M 41 0)) (show k ≤ 6 by omega)
    have ih := fun x => l130 d n M Q hn h4 j (k + 1) x (by omega)
    rw [mskN] at ih
    rw [h130_4]
    by_cases g1 : M 43 k = 1
    · by_cases g2 : wkl (M 43 (6 + k)) (M 41 (26 + k)) (M 41 0) True < 0
      · have e : sfB (M 43 k) (M 43 (6 + k)) (M 41 (26 + k)) (M 41 0) = false := by simp [sfB, g1, g2]
        simp (disch := first | omega | assumption) only [e130, h4, hlt, g1, g2, s131, kv, rv, tv, lnv, lv0, clv, clr_i, clr_r, clr_n, clr_l, true_and, and_true, Option.toList_some, Option.toList_none, List.cons_append, List.nil_append, bI_0, bI_1, bI_or, ↓reduceIte, or_true, true_or, eq_self, irv, i0_add, not_true_eq_false, not_false_eq_true, Bool.false_eq_true, and_false, false_and, or_false, false_or, reduceCtorEq, nev, ngv, nc_or, in64, l64v, ite_not, ite_notP, up2_upr, upr_upr, upr_at, nI_cl, nI_ir, iav, nI_1, nI_mul6, nI_6mul, nI_lt2, nI_eq2, nI_neg, nI_m1, ltv, nI_z, upd_at, upd_off, upr_off, usv, upd_upd]
        simp only [e, Bool.false_eq_true, if_false, Nat.or_zero] at ih
        rw [or_z _ h64]
        exact ih _
      · have e : sfB (M 43 k) (M 43 (6 + k)) (M 41 (26 + k)) (M 41 0) = true := by simp [sfB, g1, g2]
        simp (disch := first | omega | assumption) only [e130, h4, hlt, g1, g2, s131, kv, rv, tv, lnv, lv0, clv, clr_i, clr_r, clr_n, clr_l, true_and, and_true, Option.toList_some, Option.toList_none, List.cons_append, List.nil_append, bI_0, bI_1, bI_or, ↓reduceIte, or_true, true_or, eq_self, irv, i0_add, not_true_eq_false, not_false_eq_true, Bool.false_eq_true, and_false, false_and, or_false, false_or, reduceCtorEq, nev, ngv, nc_or, in64, l64v, ite_not, ite_notP, up2_upr, upr_upr, upr_at, nI_cl, nI_ir, iav, nI_1, nI_mul6, nI_6mul, nI_lt2, nI_eq2, nI_neg, nI_m1, ltv, nI_z, upd_at, upd_off, upr_off, usv, upd_upd]
        simp only [e, if_true] at ih
        rw [or_bit k (by omega) _ h64]
        exact ih _
    · by_cases g0 : M 43 k = 0
      · have e : sfB (M 43 k) (M 43 (6 + k)) (M 41 (26 + k)) (M 41 0) = false := by simp [sfB, g0]
        simp (disch := first | omega | assumption) only [e130, h4, hlt, g1, g0, s131, kv, rv, tv, lnv, lv0, clv, clr_i, clr_r, clr_n, clr_l, true_and, and_true, Option.toList_some, Option.toList_none, List.cons_append, List.nil_append, bI_0, bI_1, bI_or, ↓reduceIte, or_true, true_or, eq_self, irv, i0_add, not_true_eq_false, not_false_eq_true, Bool.false_eq_true, and_false, false_and, or_false, false_or, reduceCtorEq, nev, ngv, nc_or, in64, l64v, ite_not, ite_notP, up2_upr, upr_upr, upr_at, nI_cl, nI_ir, iav, nI_1, nI_mul6, nI_6mul, nI_lt2, nI_eq2, nI_neg, nI_m1, ltv, nI_z, upd_at, upd_off, upr_off, usv, upd_upd]
        simp only [e, Bool.false_eq_true, if_false, Nat.or_zero] at ih
        rw [or_z _ h64]
        exact ih _
      · have e : sfB (M 43 k) (M 43 (6 + k)) (M 41 (26 + k)) (M 41 0) = true := by simp [sfB, g1, g0]
        simp (disch := first | omega | assumption) only [e130, h4, hlt, g1, g0, s131, kv, rv, tv, lnv, lv0, clv, clr_i, clr_r, clr_n, clr_l, true_and, and_true, Option.toList_some, Option.toList_none, List.cons_append, List.nil_append, bI_0, bI_1, bI_or, ↓reduceIte, or_true, true_or, eq_self, irv, i0_add, not_true_eq_false, not_false_eq_true, Bool.false_eq_true, and_false, false_and, or_false, false_or, reduceCtorEq, nev, ngv, nc_or, in64, l64v, ite_not, ite_notP, up2_upr, upr_upr, upr_at, nI_cl, nI_ir, iav, nI_1, nI_mul6, nI_6mul, nI_lt2, nI_eq2, nI_neg, nI_m1, ltv, nI_z, upd_at, upd_off, upr_off, usv, upd_upd]
        simp only [e, if_true] at ih
        rw [or_bit k (by omega) _ h64]
        exact ih _
theorem s130 (d n : Nat) (M : Mem) (Q : Option Value → Mem → Prop) (hn : n ≤ 6) (h4 : M 41 4 = nI n) : Wp (d + 3) 130 0 [.ref 40, .null, .null, .null] [] M Q ↔ Q (some (.int (nI (mskN (fun k => sfB (M 43 k) (M 43 (6 + k)) (M 41 (26 + k)) (M 41 0)) n)))) M := by
  rw [← l130 d n M Q hn h4 n 0 .null (by omega)]
  simp only [e130, kv, rv, tv, lnv, lv0, clv, clr_i, clr_r, clr_n, clr_l, true_and, and_true, Option.toList_some, Option.toList_none, List.cons_append, List.nil_append, bI_0, bI_1, bI_or, ↓reduceIte, or_true, true_or, eq_self, irv, i0_add, not_true_eq_false, not_false_eq_true, Bool.false_eq_true, and_false, false_and, or_false, false_or, reduceCtorEq, nev, ngv, nc_or, in64, l64v, ite_not, ite_notP, up2_upr, upr_upr, upr_at]
  rfl
theorem s46 (d k : Nat) (M : Mem) (Q : Option Value → Mem → Prop) (hk : k < 6) : Wp (d + 3) 46 0 [.ref 14, .int (nI k)] [] M Q ↔ Q (some (.int (bI (sfB (M 25 k) (M 26 k) (M 20 k) (M 15 9) = true)))) M := by
  by_cases g1 : M 25 k = 1
  · by_cases g2 : wkl (M 26 k) (M 20 k) (M 15 9) True < 0
    · have e : sfB (M 25 k) (M 26 k) (M 20 k) (M 15 9) = false := by simp [sfB, g1, g2]
      rw [e]
      simp (disch := first | omega | assumption) only [e46, g1, g2, s47, kv, rv, tv, lnv, lv0, clv, clr_i, clr_r, clr_n, clr_l, true_and, and_true, Option.toList_some, Option.toList_none, List.cons_append, List.nil_append, bI_0, bI_1, bI_or, ↓reduceIte, or_true, true_or, eq_self, irv, i0_add, not_true_eq_false, not_false_eq_true, Bool.false_eq_true, and_false, false_and, or_false, false_or, reduceCtorEq, nev, ngv, nc_or, in64, l64v, ite_not, ite_notP, up2_upr, upr_upr, upr_at, nI_cl, nI_ir, iav, nI_1, nI_mul6, nI_6mul, nI_lt2, nI_eq2, nI_neg, nI_m1, ltv, nI_z, upd_at, upd_off, upr_off, usv, upd_upd]
      rfl
    · have e : sfB (M 25 k) (M 26 k) (M 20 k) (M 15 9) = true := by simp [sfB, g1, g2]
      rw [e]
      simp (disch := first | omega | assumption) only [e46, g1, g2, s47, kv, rv, tv, lnv, lv0, clv, clr_i, clr_r, clr_n, clr_l, true_and, and_true, Option.toList_some, Option.toList_none, List.cons_append, List.nil_append, bI_0, bI_1, bI_or, ↓reduceIte, or_true, true_or, eq_self, irv, i0_add, not_true_eq_false, not_false_eq_true, Bool.false_eq_true, and_false, false_and, or_false, false_or, reduceCtorEq, nev, ngv, nc_or, in64, l64v, ite_not, ite_notP, up2_upr, upr_upr, upr_at, nI_cl, nI_ir, iav, nI_1, nI_mul6, nI_6mul, nI_lt2, nI_eq2, nI_neg, nI_m1, ltv, nI_z, upd_at, upd_off, upr_off, usv, upd_upd]
      rfl
  · by_cases g0 : M 25 k = 0
    · have e : sfB (M 25 k) (M 26 k) (M 20 k) (M 15 9) = false := by simp [sfB, g0]
      rw [e]
      simp (disch := first | omega | assumption) only [e46, g1, g0, s47, kv, rv, tv, lnv, lv0, clv, clr_i, clr_r, clr_n, clr_l, true_and, and_true, Option.toList_some, Option.toList_none, List.cons_append, List.nil_append, bI_0, bI_1, bI_or, ↓reduceIte, or_true, true_or, eq_self, irv, i0_add, not_true_eq_false, not_false_eq_true, Bool.false_eq_true, and_false, false_and, or_false, false_or, reduceCtorEq, nev, ngv, nc_or, in64, l64v, ite_not, ite_notP, up2_upr, upr_upr, upr_at, nI_cl, nI_ir, iav, nI_1, nI_mul6, nI_6mul, nI_lt2, nI_eq2, nI_neg, nI_m1, ltv, nI_z, upd_at, upd_off, upr_off, usv, upd_upd]
      rfl
    · have e : sfB (M 25 k) (M 26 k) (M 20 k) (M 15 9) = true := by simp [sfB, g1, g0]
      rw [e]
      simp (disch := first | omega | assumption) only [e46, g1, g0, s47, kv, rv, tv, lnv, lv0, clv, clr_i, clr_r, clr_n, clr_l, true_and, and_true, Option.toList_some, Option.toList_none, List.cons_append, List.nil_append, bI_0, bI_1, bI_or, ↓reduceIte, or_true, true_or, eq_self, irv, i0_add, not_true_eq_false, not_false_eq_true, Bool.false_eq_true, and_false, false_and, or_false, false_or, reduceCtorEq, nev, ngv, nc_or, in64, l64v, ite_not, ite_notP, up2_upr, upr_upr, upr_at, nI_cl, nI_ir, iav, nI_1, nI_mul6, nI_6mul, nI_lt2, nI_eq2, nI_neg, nI_m1, ltv, nI_z, upd_at, upd_off, upr_off, usv, upd_upd]
      rfl
theorem l45 (d n : Nat) (M : Mem) (Q : Option Value → Mem → Prop) (hn : n ≤ 6) (h4 : M 15 13 = nI n) : ∀ j k, k + j = n → (Wp (d + 4) 45 4 [.ref 14, .int (nI (mskN (fun k => sfB (M 25 k) (M 26 k) (M 20 k) (M 15 9)) k)), .int (nI k)] [] M Q ↔ Q (some (.int (nI (mskN (fun k => sfB (M 25 k) (M 26 k) (M 20 k) (M 15 9)) n)))) M)
  | 0, k, hk => by
    obtain rfl : k = n := hk
    rw [h45_4]
    simp (disch := first | omega | assumption) only [e45, h4, Nat.lt_irrefl, kv, rv, tv, lnv, lv0, clv, clr_i, clr_r, clr_n, clr_l, true_and, and_true, Option.toList_some, Option.toList_none, List.cons_append, List.nil_append, bI_0, bI_1, bI_or, ↓reduceIte, or_true, true_or, eq_self, irv, i0_add, not_true_eq_false, not_false_eq_true, Bool.false_eq_true, and_false, false_and, or_false, false_or, reduceCtorEq, nev, ngv, nc_or, in64, l64v, ite_not, ite_notP, up2_upr, upr_upr, upr_at, nI_cl, nI_ir, iav, nI_1, nI_mul6, nI_6mul, nI_lt2, nI_eq2, nI_neg, nI_m1, ltv, nI_z, upd_at, upd_off, upr_off, usv, upd_upd]
  | j + 1, k, hk => by
    have hlt : k < n := by omega
    have h64 := mskN_64 (fun k => sfB (M 25 k) (M 26 k) (M 20 k) (M 15 9)) (show k ≤ 6 by omega)
    have ih := l45 d n M Q hn h4 j (k + 1) (by omega)
    rw [mskN] at ih
    rw [h45_4]
    cases e : sfB (M 25 k) (M 26 k) (M 20 k) (M 15 9) with
    | false =>
      simp only [e, Bool.false_eq_true, if_false, Nat.or_zero] at ih
      simp (disch := first | omega | assumption) only [e45, h4, hlt, s46, e, kv, rv, tv, lnv, lv0, clv, clr_i, clr_r, clr_n, clr_l, true_and, and_true, Option.toList_some, Option.toList_none, List.cons_append, List.nil_append, bI_0, bI_1, bI_or, ↓reduceIte, or_true, true_or, eq_self, irv, i0_add, not_true_eq_false, not_false_eq_true, Bool.false_eq_true, and_false, false_and, or_false, false_or, reduceCtorEq, nev, ngv, nc_or, in64, l64v, ite_not, ite_notP, up2_upr, upr_upr, upr_at, nI_cl, nI_ir, iav, nI_1, nI_mul6, nI_6mul, nI_lt2, nI_eq2, nI_neg, nI_m1, ltv, nI_z, upd_at, upd_off, upr_off, usv, upd_upd]
      exact ih
    | true =>
      simp only [e, if_true] at ih
      simp (disch := first | omega | assumption) only [e45, h4, hlt, s46, e, kv, rv, tv, lnv, lv0, clv, clr_i, clr_r, clr_n, clr_l, true_and, and_true, Option.toList_some, Option.toList_none, List.cons_append, List.nil_append, bI_0, bI_1, bI_or, ↓reduceIte, or_true, true_or, eq_self, irv, i0_add, not_true_eq_false, not_false_eq_true, Bool.false_eq_true, and_false, false_and, or_false, false_or, reduceCtorEq, nev, ngv, nc_or, in64, l64v, ite_not, ite_notP, up2_upr, upr_upr, upr_at, nI_cl, nI_ir, iav, nI_1, nI_mul6, nI_6mul, nI_lt2, nI_eq2, nI_neg, nI_m1, ltv, nI_z, upd_at, upd_off, upr_off, usv, upd_upd]
      rw [or_bit k (by omega) _ h64]
      exact ih
theorem s45 (d n : Nat) (M : Mem) (Q : Option Value → Mem → Prop) (hn : n ≤ 6) (h4 : M 15 13 = nI n) : Wp (d + 4) 45 0 [.ref 14, .null, .null] [] M Q ↔ Q (some (.int (nI (mskN (fun k => sfB (M 25 k) (M 26 k) (M 20 k) (M 15 9)) n)))) M := by
  rw [← l45 d n M Q hn h4 n 0 (by omega)]
  simp only [e45, kv, rv, tv, lnv, lv0, clv, clr_i, clr_r, clr_n, clr_l, true_and, and_true, Option.toList_some, Option.toList_none, List.cons_append, List.nil_append, bI_0, bI_1, bI_or, ↓reduceIte, or_true, true_or, eq_self, irv, i0_add, not_true_eq_false, not_false_eq_true, Bool.false_eq_true, and_false, false_and, or_false, false_or, reduceCtorEq, nev, ngv, nc_or, in64, l64v, ite_not, ite_notP, up2_upr, upr_upr, upr_at]
  rfl
/-! the price -/
def cutB (f : Nat → Int32) (n m : Nat) : Nat := match bstN f m n with
  | none => m
  | some k => m &&& (63 ^^^ 2 ^ k)
def remN (f : Nat → Int32) (n : Nat) : Nat → Nat → Nat
  | 0, m => m
  | r + 1, m => cutB f n (remN f n r m)
theorem cutB_le (f : Nat → Int32) (n m : Nat) : cutB f n m ≤ m := by
  unfold cutB
  split
  · exact Nat.le_refl _
  · exact Nat.and_le_left
theorem remN_le (f : Nat → Int32) (n : Nat) : ∀ r m, remN f n r m ≤ m
  | 0, m => Nat.le_refl _
  | r + 1, m => Nat.le_trans (cutB_le f n _) (remN_le f n r m)
theorem bstN_0 (f : Nat → Int32) : ∀ n, bstN f 0 n = none
  | 0 => rfl
  | n + 1 => by rw [bstN, bstN_0 f n]; simp
theorem cutB_0 (f : Nat → Int32) (n : Nat) : cutB f n 0 = 0 := by
  unfold cutB
  rw [bstN_0]
theorem remN_add (f : Nat → Int32) (n r : Nat) : ∀ q m, remN f n (r + q) m = remN f n q (remN f n r m)
  | 0, m => rfl
  | q + 1, m => by rw [← Nat.add_assoc, remN, remN, remN_add f n r q m]
theorem remN_0 (f : Nat → Int32) (n : Nat) : ∀ r, remN f n r 0 = 0
  | 0 => rfl
  | r + 1 => by rw [remN, remN_0 f n r, cutB_0]
def priF (f : Nat → Int32) (n m : Nat) : Int32 := match bstN f m n with
  | none => 0
  | some b => f b
theorem s49b (d n : Nat) (m : Nat) (x y : Value) (M : Mem) (Q : Option Value → Mem → Prop) (hn : n ≤ 6) (h4 : M 15 13 = nI n) (hm : m < 64) : Wp (d + 1) 49 64 [.ref 14, .int (nI m), x, y] [] M Q ↔ Q (some (.int (priF (M 20) n m))) M := by
  have e44 := fun Q => s44 d n m 20 M Q hn h4 hm (by simp only [rv]) (by simp only [lnv])
  unfold priF
  cases hb : bstN (M 20) m n with
  | none =>
    rw [hb] at e44
    simp (disch := first | omega | assumption) only [e49, e44, oI, kv, rv, tv, lnv, lv0, clv, clr_i, clr_r, clr_n, clr_l, true_and, and_true, Option.toList_some, Option.toList_none, List.cons_append, List.nil_append, bI_0, bI_1, bI_or, ↓reduceIte, or_true, true_or, eq_self, irv, i0_add, not_true_eq_false, not_false_eq_true, Bool.false_eq_true, and_false, false_and, or_false, false_or, reduceCtorEq, nev, ngv, nc_or, in64, l64v, ite_not, ite_notP, up2_upr, upr_upr, upr_at, nI_cl, nI_ir, iav, nI_1, nI_mul6, nI_6mul, nI_lt2, nI_eq2, nI_neg, nI_m1, ltv, nI_z, upd_at, upd_off, upr_off, usv, upd_upd]
  | some b =>
    have := bstN_lt hb
    rw [hb] at e44
    simp (disch := first | omega | assumption) only [e49, e44, oI, kv, rv, tv, lnv, lv0, clv, clr_i, clr_r, clr_n, clr_l, true_and, and_true, Option.toList_some, Option.toList_none, List.cons_append, List.nil_append, bI_0, bI_1, bI_or, ↓reduceIte, or_true, true_or, eq_self, irv, i0_add, not_true_eq_false, not_false_eq_true, Bool.false_eq_true, and_false, false_and, or_false, false_or, reduceCtorEq, nev, ngv, nc_or, in64, l64v, ite_not, ite_notP, up2_upr, upr_upr, upr_at, nI_cl, nI_ir, iav, nI_1, nI_mul6, nI_6mul, nI_lt2, nI_eq2, nI_neg, nI_m1, ltv, nI_z, upd_at, upd_off, upr_off, usv, upd_upd]
theorem l49 (d n R : Nat) (M : Mem) (Q : Option Value → Mem → Prop) (hn : n ≤ 6) (h4 : M 15 13 = nI n) (hR : R ≤ 6) (h10 : M 15 10 = nI R) : ∀ j i m x, i + j = R → m < 2 ^ n → (Wp (d + 1) 49 14 [.ref 14, .int (nI m), .int (nI i), x] [] M Q ↔ Q (some (.int (priF (M 20) n (remN (M 20) n j m)))) M)
  | 0, i, m, x, hi, hm => by
    have hm6 : m < 64 := Nat.lt_of_lt_of_le hm (p2_64 n hn)
    obtain rfl : i = R := hi
    rw [remN, ← s49b d n m (.int (nI i)) x M Q hn h4 hm6, h49_14]
    simp (disch := first | omega | assumption) only [e49, h10, Nat.lt_irrefl, kv, rv, tv, lnv, lv0, clv, clr_i, clr_r, clr_n, clr_l, true_and, and_true, Option.toList_some, Option.toList_none, List.cons_append, List.nil_append, bI_0, bI_1, bI_or, ↓reduceIte, or_true, true_or, eq_self, irv, i0_add, not_true_eq_false, not_false_eq_true, Bool.false_eq_true, and_false, false_and, or_false, false_or, reduceCtorEq, nev, ngv, nc_or, in64, l64v, ite_not, ite_notP, up2_upr, upr_upr, upr_at, nI_cl, nI_ir, iav, nI_1, nI_mul6, nI_6mul, nI_lt2, nI_eq2, nI_neg, nI_m1, ltv, nI_z, upd_at, upd_off, upr_off, usv, upd_upd]
  | j + 1, i, m, x, hi, hm => by
    have hlt : i < R := by omega
    have hm6 : m < 64 := Nat.lt_of_lt_of_le hm (p2_64 n hn)
    by_cases h0 : m = 0
    · subst h0
      rw [remN_0, ← s49b d n 0 (.int (nI i)) x M Q hn h4 (by decide), h49_14]
      simp (disch := first | omega | assumption) only [e49, h10, hlt, kv, rv, tv, lnv, lv0, clv, clr_i, clr_r, clr_n, clr_l, true_and, and_true, Option.toList_some, Option.toList_none, List.cons_append, List.nil_append, bI_0, bI_1, bI_or, ↓reduceIte, or_true, true_or, eq_self, irv, i0_add, not_true_eq_false, not_false_eq_true, Bool.false_eq_true, and_false, false_and, or_false, false_or, reduceCtorEq, nev, ngv, nc_or, in64, l64v, ite_not, ite_notP, up2_upr, upr_upr, upr_at, nI_cl, nI_ir, iav, nI_1, nI_mul6, nI_6mul, nI_lt2, nI_eq2, nI_neg, nI_m1, ltv, nI_z, upd_at, upd_off, upr_off, usv, upd_upd]
    · obtain ⟨b, hb, hbn⟩ := bstN_some (f := M 20) hn hm h0
      have e44 := fun Q => s44 d n m 20 M Q hn h4 hm6 (by simp only [rv]) (by simp only [lnv])
      rw [hb] at e44
      have ih := l49 d n R M Q hn h4 hR h10 j (i + 1) (m &&& (63 ^^^ 2 ^ b)) (.int (nI b)) (by omega) (Nat.lt_of_le_of_lt Nat.and_le_left hm)
      have e : remN (M 20) n (j + 1) m = remN (M 20) n j (m &&& (63 ^^^ 2 ^ b)) := by
        rw [Nat.add_comm, remN_add, remN, remN]
        unfold cutB
        rw [hb]
      rw [e, ← ih, h49_14]
      simp (disch := first | omega | assumption) only [e49, h10, hlt, h0, e44, oI, cut_bit, kv, rv, tv, lnv, lv0, clv, clr_i, clr_r, clr_n, clr_l, true_and, and_true, Option.toList_some, Option.toList_none, List.cons_append, List.nil_append, bI_0, bI_1, bI_or, ↓reduceIte, or_true, true_or, eq_self, irv, i0_add, not_true_eq_false, not_false_eq_true, Bool.false_eq_true, and_false, false_and, or_false, false_or, reduceCtorEq, nev, ngv, nc_or, in64, l64v, ite_not, ite_notP, up2_upr, upr_upr, upr_at, nI_cl, nI_ir, iav, nI_1, nI_mul6, nI_6mul, nI_lt2, nI_eq2, nI_neg, nI_m1, ltv, nI_z, upd_at, upd_off, upr_off, usv, upd_upd]
theorem s49 (d n R : Nat) (M : Mem) (Q : Option Value → Mem → Prop) (hn : n ≤ 6) (h4 : M 15 13 = nI n) (hR : R ≤ 6) (h10 : M 15 10 = nI R) : Wp (d + 1) 49 0 [.ref 14, .null, .null, .null] [] M Q ↔ Q (some (.int (priF (M 20) n (remN (M 20) n R (whoN (M 25) 1 n ||| whoN (M 25) 0 n))))) M := by
  have h1 := whoN_64 (M 25) 1 hn
  have h0 := whoN_64 (M 25) 0 hn
  rw [← l49 d n R M Q hn h4 hR h10 R 0 (whoN (M 25) 1 n ||| whoN (M 25) 0 n) .null (by omega) (Nat.or_lt_two_pow (whoN_lt _ _ n hn) (whoN_lt _ _ n hn))]
  simp (disch := first | omega | assumption) only [e49, s42 d n _ M _ hn h4, or_nI, kv, rv, tv, lnv, lv0, clv, clr_i, clr_r, clr_n, clr_l, true_and, and_true, Option.toList_some, Option.toList_none, List.cons_append, List.nil_append, bI_0, bI_1, bI_or, ↓reduceIte, or_true, true_or, eq_self, irv, i0_add, not_true_eq_false, not_false_eq_true, Bool.false_eq_true, and_false, false_and, or_false, false_or, reduceCtorEq, nev, ngv, nc_or, in64, l64v, ite_not, ite_notP, up2_upr, upr_upr, upr_at, nI_cl, nI_ir, iav, nI_1, nI_mul6, nI_6mul, nI_lt2, nI_eq2, nI_neg, nI_m1, ltv, nI_z, upd_at, upd_off, upr_off, usv, upd_upd]
  rfl
theorem l135b (d n m : Nat) (se kx : Int32) (M : Mem) (Q : Option Value → Mem → Prop) (hn : n ≤ 6) (h4 : M 41 4 = nI n) (hm : m < 64) : ∀ j i, i + j = n → (Wp (d + 1) 135 32 [.ref 40, .int (nI m), .int se, .int kx, .int (oI (bstN (fun q => M 41 (26 + q)) m i)), .int (nI i)] [] M Q ↔ Wp (d + 1) 135 96 [.ref 40, .int (nI m), .int se, .int kx, .int (oI (bstN (fun q => M 41 (26 + q)) m n)), .int (nI n)] [] M Q)
  | 0, i, hi => by
    obtain rfl : i = n := hi
    rw [h135_32]
    simp (disch := first | omega | assumption) only [e135_0, e135_1, h4, Nat.lt_irrefl, kv, rv, tv, lnv, lv0, clv, clr_i, clr_r, clr_n, clr_l, true_and, and_true, Option.toList_some, Option.toList_none, List.cons_append, List.nil_append, bI_0, bI_1, bI_or, ↓reduceIte, or_true, true_or, eq_self, irv, i0_add, not_true_eq_false, not_false_eq_true, Bool.false_eq_true, and_false, false_and, or_false, false_or, reduceCtorEq, nev, ngv, nc_or, in64, l64v, ite_not, ite_notP, up2_upr, upr_upr, upr_at, nI_cl, nI_ir, iav, nI_1, nI_mul6, nI_6mul, nI_lt2, nI_eq2, nI_neg, nI_m1, ltv, nI_z, upd_at, upd_off, upr_off, usv, upd_upd]
  | j + 1, i, hi => by
    have hlt : i < n := by omega
    refine Iff.trans ?_ (l135b d n m se kx M Q hn h4 hm j (i + 1) (by omega))
    rw [h135_32, bstN]
    cases hb : bstN (fun q => M 41 (26 + q)) m i with
    | none => by_cases ht : m.testBit i = true <;> simp (disch := first | omega | assumption) only [e135_0, e135_1, h4, hlt, s129, bt_iff, oI, ht, kv, rv, tv, lnv, lv0, clv, clr_i, clr_r, clr_n, clr_l, true_and, and_true, Option.toList_some, Option.toList_none, List.cons_append, List.nil_append, bI_0, bI_1, bI_or, ↓reduceIte, or_true, true_or, eq_self, irv, i0_add, not_true_eq_false, not_false_eq_true, Bool.false_eq_true, and_false, false_and, or_false, false_or, reduceCtorEq, nev, ngv, nc_or, in64, l64v, ite_not, ite_notP, up2_upr, upr_upr, upr_at, nI_cl, nI_ir, iav, nI_1, nI_mul6, nI_6mul, nI_lt2, nI_eq2, nI_neg, nI_m1, ltv, nI_z, upd_at, upd_off, upr_off, usv, upd_upd]
    | some b =>
      have hb2 := bstN_lt hb
      by_cases ht : m.testBit i = true <;> by_cases hc : M 41 (26 + b) < M 41 (26 + i) <;> simp (disch := first | omega | assumption) only [e135_0, e135_1, h4, hlt, s129, bt_iff, oI, ht, hc, kv, rv, tv, lnv, lv0, clv, clr_i, clr_r, clr_n, clr_l, true_and, and_true, Option.toList_some, Option.toList_none, List.cons_append, List.nil_append, bI_0, bI_1, bI_or, ↓reduceIte, or_true, true_or, eq_self, irv, i0_add, not_true_eq_false, not_false_eq_true, Bool.false_eq_true, and_false, false_and, or_false, false_or, reduceCtorEq, nev, ngv, nc_or, in64, l64v, ite_not, ite_notP, up2_upr, upr_upr, upr_at, nI_cl, nI_ir, iav, nI_1, nI_mul6, nI_6mul, nI_lt2, nI_eq2, nI_neg, nI_m1, ltv, nI_z, upd_at, upd_off, upr_off, usv, upd_upd]
theorem and_z : ∀ m, m < 64 → nI m &&& 0 = nI 0 := by decide +kernel
theorem l135 (d n R m : Nat) (M : Mem) (Q : Option Value → Mem → Prop) (hn : n ≤ 6) (h4 : M 41 4 = nI n) (hR : R ≤ 6) (h1 : M 41 1 = nI R) (hm : m < 2 ^ n) : ∀ j i p x y, i + j = R + 1 → (i = 0 ∨ p = priF (fun q => M 41 (26 + q)) n (remN (fun q => M 41 (26 + q)) n (i - 1) m)) → (Wp (d + 1) 135 16 [.ref 40, .int (nI (remN (fun q => M 41 (26 + q)) n i m)), .int p, .int (nI i), x, y] [] M Q ↔ Q (some (.int (if R = 0 then 0 else priF (fun q => M 41 (26 + q)) n (remN (fun q => M 41 (26 + q)) n R m)))) M)
  | 0, i, p, x, y, hi, hp => by
    obtain rfl : i = R + 1 := hi
    have hp2 := hp.resolve_left (by omega)
    rw [Nat.add_sub_cancel] at hp2
    have hl : R < R + 1 := by omega
    rw [h135_16]
    by_cases h0 : R = 0 <;> simp (disch := first | omega | assumption) only [e135_0, e135_1, h1, hl, h0, hp2, Nat.zero_add, Nat.zero_lt_one, kv, rv, tv, lnv, lv0, clv, clr_i, clr_r, clr_n, clr_l, true_and, and_true, Option.toList_some, Option.toList_none, List.cons_append, List.nil_append, bI_0, bI_1, bI_or, ↓reduceIte, or_true, true_or, eq_self, irv, i0_add, not_true_eq_false, not_false_eq_true, Bool.false_eq_true, and_false, false_and, or_false, false_or, reduceCtorEq, nev, ngv, nc_or, in64, l64v, ite_not, ite_notP, up2_upr, upr_upr, upr_at, nI_cl, nI_ir, iav, nI_1, nI_mul6, nI_6mul, nI_lt2, nI_eq2, nI_neg, nI_m1, ltv, nI_z, upd_at, upd_off, upr_off, usv, upd_upd]
  | j + 1, i, p, x, y, hi, hp => by
    have hlt : ¬ R < i := by omega
    have hm2 : remN (fun q => M 41 (26 + q)) n i m < 2 ^ n := Nat.lt_of_le_of_lt (remN_le _ _ _ _) hm
    have hm6 : remN (fun q => M 41 (26 + q)) n i m < 64 := Nat.lt_of_lt_of_le hm2 (p2_64 n hn)
    have e := l135b d n (remN (fun q => M 41 (26 + q)) n i m) p (nI i) M Q hn h4 hm6 n 0 (by omega)
    have ih := fun p hp y => l135 d n R m M Q hn h4 hR h1 hm j (i + 1) p y (.int (nI n)) (by omega) hp
    rw [remN] at ih
    simp only [Nat.add_sub_cancel] at ih
    unfold priF cutB at ih
    rw [h135_16]
    simp (disch := first | omega | assumption) only [e135_0, e135_1, h1, hlt, kv, rv, tv, lnv, lv0, clv, clr_i, clr_r, clr_n, clr_l, true_and, and_true, Option.toList_some, Option.toList_none, List.cons_append, List.nil_append, bI_0, bI_1, bI_or, ↓reduceIte, or_true, true_or, eq_self, irv, i0_add, not_true_eq_false, not_false_eq_true, Bool.false_eq_true, and_false, false_and, or_false, false_or, reduceCtorEq, nev, ngv, nc_or, in64, l64v, ite_not, ite_notP, up2_upr, upr_upr, upr_at, nI_cl, nI_ir, iav, nI_1, nI_mul6, nI_6mul, nI_lt2, nI_eq2, nI_neg, nI_m1, ltv, nI_z, upd_at, upd_off, upr_off, usv, upd_upd]
    cases hb : bstN (fun q => M 41 (26 + q)) (remN (fun q => M 41 (26 + q)) n i m) n with
    | none =>
      rw [hb] at ih e
      have hz : remN (fun q => M 41 (26 + q)) n i m = 0 := no_bits n hn _ hm2 (bstN_no hb)
      have ih := ih 0 (Or.inr rfl) (.int (oI none))
      rw [hz] at ih e
      simp (disch := first | omega | assumption) only [e135_0, e135_1, bstN, oI, kv, rv, tv, lnv, lv0, clv, clr_i, clr_r, clr_n, clr_l, true_and, and_true, Option.toList_some, Option.toList_none, List.cons_append, List.nil_append, bI_0, bI_1, bI_or, ↓reduceIte, or_true, true_or, eq_self, irv, i0_add, not_true_eq_false, not_false_eq_true, Bool.false_eq_true, and_false, false_and, or_false, false_or, reduceCtorEq, nev, ngv, nc_or, in64, l64v, ite_not, ite_notP, up2_upr, upr_upr, upr_at, nI_cl, nI_ir, iav, nI_1, nI_mul6, nI_6mul, nI_lt2, nI_eq2, nI_neg, nI_m1, ltv, nI_z, upd_at, upd_off, upr_off, usv, upd_upd] at e
      simp (disch := first | omega | assumption) only [oI, kv, rv, tv, lnv, lv0, clv, clr_i, clr_r, clr_n, clr_l, true_and, and_true, Option.toList_some, Option.toList_none, List.cons_append, List.nil_append, bI_0, bI_1, bI_or, ↓reduceIte, or_true, true_or, eq_self, irv, i0_add, not_true_eq_false, not_false_eq_true, Bool.false_eq_true, and_false, false_and, or_false, false_or, reduceCtorEq, nev, ngv, nc_or, in64, l64v, ite_not, ite_notP, up2_upr, upr_upr, upr_at, nI_cl, nI_ir, iav, nI_1, nI_mul6, nI_6mul, nI_lt2, nI_eq2, nI_neg, nI_m1, ltv, nI_z, upd_at, upd_off, upr_off, usv, upd_upd] at ih
      rw [hz]
      refine Iff.trans e ?_
      rw [and_z 0 (by decide)]
      exact ih
    | some b =>
      have hbn := bstN_lt hb
      rw [hb] at ih e
      have ih := ih (M 41 (26 + b)) (Or.inr rfl) (.int (oI (some b)))
      simp (disch := first | omega | assumption) only [e135_0, e135_1, bstN, oI, cut_bit, kv, rv, tv, lnv, lv0, clv, clr_i, clr_r, clr_n, clr_l, true_and, and_true, Option.toList_some, Option.toList_none, List.cons_append, List.nil_append, bI_0, bI_1, bI_or, ↓reduceIte, or_true, true_or, eq_self, irv, i0_add, not_true_eq_false, not_false_eq_true, Bool.false_eq_true, and_false, false_and, or_false, false_or, reduceCtorEq, nev, ngv, nc_or, in64, l64v, ite_not, ite_notP, up2_upr, upr_upr, upr_at, nI_cl, nI_ir, iav, nI_1, nI_mul6, nI_6mul, nI_lt2, nI_eq2, nI_neg, nI_m1, ltv, nI_z, upd_at, upd_off, upr_off, usv, upd_upd] at e
      simp (disch := first | omega | assumption) only [oI, kv, rv, tv, lnv, lv0, clv, clr_i, clr_r, clr_n, clr_l, true_and, and_true, Option.toList_some, Option.toList_none, List.cons_append, List.nil_append, bI_0, bI_1, bI_or, ↓reduceIte, or_true, true_or, eq_self, irv, i0_add, not_true_eq_false, not_false_eq_true, Bool.false_eq_true, and_false, false_and, or_false, false_or, reduceCtorEq, nev, ngv, nc_or, in64, l64v, ite_not, ite_notP, up2_upr, upr_upr, upr_at, nI_cl, nI_ir, iav, nI_1, nI_mul6, nI_6mul, nI_lt2, nI_eq2, nI_neg, nI_m1, ltv, nI_z, upd_at, upd_off, upr_off, usv, upd_upd] at ih
      exact Iff.trans e ih
theorem s135 (d n R : Nat) (M : Mem) (Q : Option Value → Mem → Prop) (hn : n ≤ 6) (h4 : M 41 4 = nI n) (hR : R ≤ 6) (h1 : M 41 1 = nI R) : Wp (d + 1) 135 0 [.ref 40, .null, .null, .null, .null, .null] [] M Q ↔ Q (some (.int (if R = 0 then 0 else priF (fun q => M 41 (26 + q)) n (remN (fun q => M 41 (26 + q)) n R (whoN (M 43) 1 n ||| whoN (M 43) 0 n))))) M := by
  have g1 := whoN_64 (M 43) 1 hn
  have g0 := whoN_64 (M 43) 0 hn
  have e := l135 d n R (whoN (M 43) 1 n ||| whoN (M 43) 0 n) M Q hn h4 hR h1 (Nat.or_lt_two_pow (whoN_lt _ _ n hn) (whoN_lt _ _ n hn)) (R + 1) 0 0 .null .null (by omega) (Or.inl rfl)
  rw [remN] at e
  rw [← e]
  simp (disch := first | omega | assumption) only [e135_0, e135_1, s127 d n _ M _ hn h4, or_nI, kv, rv, tv, lnv, lv0, clv, clr_i, clr_r, clr_n, clr_l, true_and, and_true, Option.toList_some, Option.toList_none, List.cons_append, List.nil_append, bI_0, bI_1, bI_or, ↓reduceIte, or_true, true_or, eq_self, irv, i0_add, not_true_eq_false, not_false_eq_true, Bool.false_eq_true, and_false, false_and, or_false, false_or, reduceCtorEq, nev, ngv, nc_or, in64, l64v, ite_not, ite_notP, up2_upr, upr_upr, upr_at, nI_cl, nI_ir, iav, nI_1, nI_mul6, nI_6mul, nI_lt2, nI_eq2, nI_neg, nI_m1, ltv, nI_z, upd_at, upd_off, upr_off, usv, upd_upd]
  rfl
