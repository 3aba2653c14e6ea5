/-! part 10: the reference's small methods -/
theorem lgc_lt (x y : Int64) : lg_cmp x y < 0 ↔ x < y := by
  unfold lg_cmp
  by_cases h1 : x > y
  · rw [if_pos h1]
    refine ⟨fun z => absurd z (by decide), fun z => absurd z ?_⟩
    exact Int64.not_lt.mpr (Int64.le_of_lt h1)
  · rw [if_neg h1]
    by_cases h2 : x = y
    · rw [if_pos h2, h2]
      exact ⟨fun z => absurd z (by decide), fun z => absurd z (Int64.lt_irrefl)⟩
    · rw [if_neg h2]
      refine ⟨fun _ => ?_, fun _ => by decide⟩
      have h3 := Int64.not_lt.mp h1
      exact Int64.lt_of_le_of_ne h3 h2
theorem lgc_gt (x y : Int64) : 0 < lg_cmp x y ↔ y < x := by
  unfold lg_cmp
  by_cases h1 : x > y
  · rw [if_pos h1]
    exact ⟨fun _ => h1, fun _ => by decide⟩
  · rw [if_neg h1]
    refine ⟨fun z => absurd z ?_, fun z => absurd z h1⟩
    by_cases h2 : x = y
    · rw [if_pos h2]; decide
    · rw [if_neg h2]; decide
theorem s112 (d : Nat) (v lo hi : Int64) (M : Mem) (Q : Option Value → Mem → Prop) : Wp d 112 0 [.long v, .null, .long lo, .null, .long hi, .null] [] M Q ↔ Q (some (.int (bI (lo ≤ v ∧ v ≤ hi)))) M := by
  simp only [e112, lgc_lt, lgc_gt, iteQ, kv, rv, tv, lnv, lv0, clv, clr_i, clr_r, clr_n, clr_l, true_and, and_true, Option.toList_some, Option.toList_none, List.cons_append, List.nil_append, bI_0, bI_1, bI_or, ↓reduceIte, or_true, true_or, eq_self, irv, i0_add, not_true_eq_false, not_false_eq_true, Bool.false_eq_true, and_false, false_and, or_false, false_or, reduceCtorEq, nev, ngv, nc_or, in64, l64v, ite_not, ite_notP, up2_upr, upr_upr, upr_at]
  have : (if v < lo then (0 : Int32) else if hi < v then 0 else 1) = bI (lo ≤ v ∧ v ≤ hi) := by
    unfold bI
    by_cases h1 : v < lo
    · rw [if_pos h1, if_neg (fun z => Int64.not_lt.mpr z.1 h1)]
    · rw [if_neg h1]
      by_cases h2 : hi < v
      · rw [if_pos h2, if_neg (fun z => Int64.not_lt.mpr z.2 h2)]
      · rw [if_neg h2, if_pos ⟨Int64.not_lt.mp h1, Int64.not_lt.mp h2⟩]
  rw [this]
theorem s129 (d : Nat) (s i : Int32) (M : Mem) (Q : Option Value → Mem → Prop) : Wp d 129 0 [.int s, .int i] [] M Q ↔ Q (some (.int (bI ((s >>> (i &&& 31)) &&& 1 = 1)))) M := by
  simp only [e129, iteQ, bI, kv, rv, tv, lnv, lv0, clv, clr_i, clr_r, clr_n, clr_l, true_and, and_true, Option.toList_some, Option.toList_none, List.cons_append, List.nil_append, bI_0, bI_1, bI_or, ↓reduceIte, or_true, true_or, eq_self, irv, i0_add, not_true_eq_false, not_false_eq_true, Bool.false_eq_true, and_false, false_and, or_false, false_or, reduceCtorEq, nev, ngv, nc_or, in64, l64v, ite_not, ite_notP, up2_upr, upr_upr, upr_at]
theorem s133 (d : Nat) (a b : Int32) (M : Mem) (Q : Option Value → Mem → Prop) : Wp d 133 0 [.int a, .int b] [] M Q ↔ Q (some (.int (mn a b))) M := by
  simp only [e133, iteQ, mn_l, kv, rv, tv, lnv, lv0, clv, clr_i, clr_r, clr_n, clr_l, true_and, and_true, Option.toList_some, Option.toList_none, List.cons_append, List.nil_append, bI_0, bI_1, bI_or, ↓reduceIte, or_true, true_or, eq_self, irv, i0_add, not_true_eq_false, not_false_eq_true, Bool.false_eq_true, and_false, false_and, or_false, false_or, reduceCtorEq, nev, ngv, nc_or, in64, l64v, ite_not, ite_notP, up2_upr, upr_upr, upr_at]
theorem s134 (d : Nat) (a b : Int32) (M : Mem) (Q : Option Value → Mem → Prop) : Wp d 134 0 [.int a, .int b] [] M Q ↔ Q (some (.int (mx a b))) M := by
  simp only [e134, iteQ, mx_g, kv, rv, tv, lnv, lv0, clv, clr_i, clr_r, clr_n, clr_l, true_and, and_true, Option.toList_some, Option.toList_none, List.cons_append, List.nil_append, bI_0, bI_1, bI_or, ↓reduceIte, or_true, true_or, eq_self, irv, i0_add, not_true_eq_false, not_false_eq_true, Bool.false_eq_true, and_false, false_and, or_false, false_or, reduceCtorEq, nev, ngv, nc_or, in64, l64v, ite_not, ite_notP, up2_upr, upr_upr, upr_at]
/-- CASH as it is bounded -/
def bo (x : Int32) : Int32 := mx (-9999) (mn 9999 x)
theorem s132 (d : Nat) (a : Int32) (M : Mem) (Q : Option Value → Mem → Prop) : Wp (d + 1) 132 0 [.int a] [] M Q ↔ Q (some (.int (bo a))) M := by
  simp only [e132, s133, s134, bo, kv, rv, tv, lnv, lv0, clv, clr_i, clr_r, clr_n, clr_l, true_and, and_true, Option.toList_some, Option.toList_none, List.cons_append, List.nil_append, bI_0, bI_1, bI_or, ↓reduceIte, or_true, true_or, eq_self, irv, i0_add, not_true_eq_false, not_false_eq_true, Bool.false_eq_true, and_false, false_and, or_false, false_or, reduceCtorEq, nev, ngv, nc_or, in64, l64v, ite_not, ite_notP, up2_upr, upr_upr, upr_at]
theorem s117 (d : Nat) (w : Int32) (M : Mem) (Q : Option Value → Mem → Prop) : Wp d 117 0 [.ref 40, .int w] [] M Q ↔ Q (some (.int 0)) (upr M 40 (upd (M 40) 21 w)) := by
  simp only [e117, kv, rv, tv, lnv, lv0, clv, clr_i, clr_r, clr_n, clr_l, true_and, and_true, Option.toList_some, Option.toList_none, List.cons_append, List.nil_append, bI_0, bI_1, bI_or, ↓reduceIte, or_true, true_or, eq_self, irv, i0_add, not_true_eq_false, not_false_eq_true, Bool.false_eq_true, and_false, false_and, or_false, false_or, reduceCtorEq, nev, ngv, nc_or, in64, l64v, ite_not, ite_notP, up2_upr, upr_upr, upr_at]
theorem s150 (d k : Nat) (M : Mem) (Q : Option Value → Mem → Prop) (hk : k < 6) : Wp d 150 0 [.ref 40, .int (nI k)] [] M Q ↔ Q (some (.int (bI (M 43 k = 1 ∨ M 43 k = 0)))) M := by
  simp (disch := first | omega | assumption) only [e150, iteQ, bI_or2, kv, rv, tv, lnv, lv0, clv, clr_i, clr_r, clr_n, clr_l, true_and, and_true, Option.toList_some, Option.toList_none, List.cons_append, List.nil_append, bI_0, bI_1, bI_or, ↓reduceIte, or_true, true_or, eq_self, irv, i0_add, not_true_eq_false, not_false_eq_true, Bool.false_eq_true, and_false, false_and, or_false, false_or, reduceCtorEq, nev, ngv, nc_or, in64, l64v, ite_not, ite_notP, up2_upr, upr_upr, upr_at, nI_cl, nI_ir, iav, nI_1, nI_mul6, nI_6mul, nI_lt2, nI_eq2, nI_neg, nI_m1, ltv, nI_z, upd_at, upd_off, upr_off, usv, upd_upd]
/-! sets of debtors, as small numbers -/
def whoN (f : Nat → Int32) (what : Int32) : Nat → Nat
  | 0 => 0
  | n + 1 => whoN f what n ||| (if f n = what then 2 ^ n else 0)
theorem bt_iff : ∀ k, k < 6 → ∀ m, m < 64 → ((nI m >>> (nI k &&& 31)) &&& 1 = 1 ↔ m.testBit k = true) := by decide +kernel
theorem or_bit : ∀ k, k < 6 → ∀ m, m < 64 → nI m ||| (1 <<< (nI k &&& 31)) = nI (m ||| 2 ^ k) := by decide +kernel
theorem cut_bit : ∀ k, k < 6 → ∀ m, m < 64 → nI m &&& ((1 <<< (nI k &&& 31)) ^^^ (-1)) = nI (m &&& (63 ^^^ 2 ^ k)) := by decide +kernel
theorem or_nI : ∀ m, m < 64 → ∀ l, l < 64 → nI m ||| nI l = nI (m ||| l) := by decide +kernel
theorem or_z : ∀ m, m < 64 → nI m ||| 0 = nI m := by decide +kernel
theorem or_lt : ∀ n, n ≤ 6 → ∀ m, m < 2 ^ n → ∀ l, l < 2 ^ n → m ||| l < 2 ^ n := by
  intro n _ m hm l hl
  exact Nat.or_lt_two_pow hm hl
theorem p2_64 : ∀ n, n ≤ 6 → 2 ^ n ≤ 64 := by decide +kernel
theorem whoN_lt (f : Nat → Int32) (what : Int32) : ∀ n, n ≤ 6 → whoN f what n < 2 ^ n
  | 0, _ => Nat.zero_lt_one
  | n + 1, h => by
    have ih := whoN_lt f what n (by omega)
    rw [whoN]
    have h2 : 2 ^ (n + 1) = 2 * 2 ^ n := by rw [Nat.pow_succ]; omega
    have h3 : 0 < 2 ^ n := Nat.two_pow_pos n
    refine Nat.or_lt_two_pow (by omega) ?_
    split <;> omega
theorem whoN_64 (f : Nat → Int32) (what : Int32) {n : Nat} (h : n ≤ 6) : whoN f what n < 64 := Nat.lt_of_lt_of_le (whoN_lt f what n h) (p2_64 n h)
theorem l127 (d n : Nat) (what : Int32) (M : Mem) (Q : Option Value → Mem → Prop) (hn : n ≤ 6) (h4 : M 41 4 = nI n) : ∀ j k, k + j = n → (Wp d 127 4 [.ref 40, .int what, .int (nI (whoN (M 43) what k)), .int (nI k)] [] M Q ↔ Q (some (.int (nI (whoN (M 43) what n)))) M)
  | 0, k, hk => by
    obtain rfl : k = n := hk
    rw [h127_4]
    simp (disch := first | omega | assumption) only [e127, h4, Nat.lt_irrefl, kv, rv, tv, lnv, lv0, clv, clr_i, clr_r, clr_n, clr_l, true_and, and_true, Option.toList_some, Option.toList_none, List.cons_append, List.nil_append, bI_0, bI_1, bI_or, ↓reduceIte, or_true, true_or, eq_self, irv, i0_add, not_true_eq_false, not_false_eq_true, Bool.false_eq_true, and_false, false_and, or_false, false_or, reduceCtorEq, nev, ngv, nc_or, in64, l64v, ite_not, ite_notP, up2_upr, upr_upr, upr_at, nI_cl, nI_ir, iav, nI_1, nI_mul6, nI_6mul, nI_lt2, nI_eq2, nI_neg, nI_m1, ltv, nI_z, upd_at, upd_off, upr_off, usv, upd_upd]
  | j + 1, k, hk => by
    rw [h127_4]
    have hlt : k < n := by omega
    have h64 := whoN_64 (M 43) what (show k ≤ 6 by omega)
    simp (disch := first | omega | assumption) only [e127, h4, hlt, kv, rv, tv, lnv, lv0, clv, clr_i, clr_r, clr_n, clr_l, true_and, and_true, Option.toList_some, Option.toList_none, List.cons_append, List.nil_append, bI_0, bI_1, bI_or, ↓reduceIte, or_true, true_or, eq_self, irv, i0_add, not_true_eq_false, not_false_eq_true, Bool.false_eq_true, and_false, false_and, or_false, false_or, reduceCtorEq, nev, ngv, nc_or, in64, l64v, ite_not, ite_notP, up2_upr, upr_upr, upr_at, nI_cl, nI_ir, iav, nI_1, nI_mul6, nI_6mul, nI_lt2, nI_eq2, nI_neg, nI_m1, ltv, nI_z, upd_at, upd_off, upr_off, usv, upd_upd]
    have ih := l127 d n what M Q hn h4 j (k + 1) (by omega)
    rw [whoN] at ih
    split
    next h => rw [if_pos h] at ih; rw [or_bit k (by omega) _ h64]; exact ih
    next h => rw [if_neg h, Nat.or_zero] at ih; rw [or_z _ h64]; exact ih
theorem s127 (d n : Nat) (what : Int32) (M : Mem) (Q : Option Value → Mem → Prop) (hn : n ≤ 6) (h4 : M 41 4 = nI n) : Wp d 127 0 [.ref 40, .int what, .null, .null] [] M Q ↔ Q (some (.int (nI (whoN (M 43) what n)))) M := by
  rw [← l127 d n what M Q hn h4 n 0 (by omega)]
  simp only [e127, kv, rv, tv, lnv, lv0, clv, clr_i, clr_r, clr_n, clr_l, true_and, and_true, Option.toList_some, Option.toList_none, List.cons_append, List.nil_append, bI_0, bI_1, bI_or, ↓reduceIte, or_true, true_or, eq_self, irv, i0_add, not_true_eq_false, not_false_eq_true, Bool.false_eq_true, and_false, false_and, or_false, false_or, reduceCtorEq, nev, ngv, nc_or, in64, l64v, ite_not, ite_notP, up2_upr, upr_upr, upr_at]
  rfl
/-- who has most, of a set; of like ones the least -/
def bstN (f : Nat → Int32) (m : Nat) : Nat → Option Nat
  | 0 => none
  | n + 1 => match bstN f m n with
    | none => if m.testBit n = true then some n else none
    | some b => if m.testBit n = true ∧ f b < f n then some n else some b
def oI (o : Option Nat) : Int32 := match o with
  | none => -1
  | some b => nI b
theorem bstN_lt {f : Nat → Int32} {m : Nat} : ∀ {n b : Nat}, bstN f m n = some b → b < n
  | 0, b, h => by cases h
  | n + 1, b, h => by
    rw [bstN] at h
    cases hb : bstN f m n with
    | none =>
      rw [hb] at h
      simp only at h
      split at h
      · cases h; omega
      · cases h
    | some c =>
      have := bstN_lt hb
      rw [hb] at h
      simp only at h
      split at h <;> (cases h; omega)
theorem bstN_bit {f : Nat → Int32} {m : Nat} : ∀ {n b : Nat}, bstN f m n = some b → m.testBit b = true
  | 0, b, h => by cases h
  | n + 1, b, h => by
    rw [bstN] at h
    cases hb : bstN f m n with
    | none =>
      rw [hb] at h
      simp only at h
      split at h
      next q => cases h; exact q
      · cases h
    | some c =>
      have := bstN_bit hb
      rw [hb] at h
      simp only at h
      split at h
      next q => cases h; exact q.1
      · cases h; exact this
theorem bstN_no {f : Nat → Int32} {m : Nat} : ∀ {n : Nat}, bstN f m n = none → ∀ k, k < n → m.testBit k = false
  | 0, h, k, hk => by omega
  | n + 1, h, k, hk => by
    rw [bstN] at h
    cases hb : bstN f m n with
    | none =>
      rw [hb] at h
      simp only at h
      split at h
      · cases h
      next q =>
        rcases Nat.lt_or_ge k n with z | z
        · exact bstN_no hb k z
        · obtain rfl : k = n := by omega
          simpa using q
    | some c =>
      rw [hb] at h
      simp only at h
      split at h <;> cases h
theorem no_bits : ∀ n, n ≤ 6 → ∀ m, m < 2 ^ n → (∀ k, k < n → m.testBit k = false) → m = 0 := by
  intro n _ m hm h
  apply Nat.eq_of_testBit_eq
  intro i
  rw [Nat.zero_testBit]
  rcases Nat.lt_or_ge i n with z | z
  · exact h i z
  · exact Nat.testBit_lt_two_pow (Nat.lt_of_lt_of_le hm (Nat.pow_le_pow_right (by omega) z))
theorem bstN_some {f : Nat → Int32} {m n : Nat} (hn : n ≤ 6) (hm : m < 2 ^ n) (h0 : m ≠ 0) : ∃ b, bstN f m n = some b ∧ b < n := by
  cases h : bstN f m n with
  | none => exact absurd (no_bits n hn m hm (bstN_no h)) h0
  | some b => exact ⟨b, rfl, bstN_lt h⟩
