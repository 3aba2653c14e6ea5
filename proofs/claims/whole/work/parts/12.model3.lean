/-! part 12: the reference's deeds -/
def pcN (m : Nat) : Nat := (List.range 6).countP (fun k => m.testBit k)
theorem kern : ∀ m, m < 64 → m ≠ 0 → nI m &&& (nI m - 1) = nI (m &&& (m - 1)) ∧ (m &&& (m - 1)) < m ∧ pcN m = pcN (m &&& (m - 1)) + 1 := by decide +kernel
theorem l151 (d : Nat) (s : Int32) (M : Mem) (Q : Option Value → Mem → Prop) : ∀ n m c, m ≤ n → m < 64 → (Wp d 151 4 [.int s, .int (nI c), .int (nI m)] [] M Q ↔ Q (some (.int (nI (c + pcN m)))) M)
  | 0, m, c, hm, h64 => by
    obtain rfl : m = 0 := by omega
    rw [h151_4]
    simp (disch := first | omega | assumption) only [e151, kv, rv, tv, lnv, lv0, clv, clr_i, clr_r, clr_n, clr_l, true_and, and_true, Option.toList_some, Option.toList_none, List.cons_append, List.nil_append, bI_0, bI_1, bI_or, ↓reduceIte, or_true, true_or, eq_self, irv, i0_add, not_true_eq_false, not_false_eq_true, Bool.false_eq_true, and_false, false_and, or_false, false_or, reduceCtorEq, nev, ngv, nc_or, in64, l64v, ite_not, ite_notP, up2_upr, upr_upr, upr_at, nI_cl, nI_ir, iav, nI_1, nI_mul6, nI_6mul, nI_lt2, nI_eq2, nI_neg, nI_m1, ltv, nI_z, upd_at, upd_off, upr_off, usv, upd_upd]
    rfl
  | n + 1, m, c, hm, h64 => by
    by_cases h0 : m = 0
    · subst h0
      rw [h151_4]
      simp (disch := first | omega | assumption) only [e151, kv, rv, tv, lnv, lv0, clv, clr_i, clr_r, clr_n, clr_l, true_and, and_true, Option.toList_some, Option.toList_none, List.cons_append, List.nil_append, bI_0, bI_1, bI_or, ↓reduceIte, or_true, true_or, eq_self, irv, i0_add, not_true_eq_false, not_false_eq_true, Bool.false_eq_true, and_false, false_and, or_false, false_or, reduceCtorEq, nev, ngv, nc_or, in64, l64v, ite_not, ite_notP, up2_upr, upr_upr, upr_at, nI_cl, nI_ir, iav, nI_1, nI_mul6, nI_6mul, nI_lt2, nI_eq2, nI_neg, nI_m1, ltv, nI_z, upd_at, upd_off, upr_off, usv, upd_upd]
      rfl
    · obtain ⟨k1, k2, k3⟩ := kern m h64 h0
      have ih := l151 d s M Q n (m &&& (m - 1)) (c + 1) (by omega) (by omega)
      rw [show c + pcN m = c + 1 + pcN (m &&& (m - 1)) by omega, ← ih, h151_4]
      simp (disch := first | omega | assumption) only [e151, h0, k1, kv, rv, tv, lnv, lv0, clv, clr_i, clr_r, clr_n, clr_l, true_and, and_true, Option.toList_some, Option.toList_none, List.cons_append, List.nil_append, bI_0, bI_1, bI_or, ↓reduceIte, or_true, true_or, eq_self, irv, i0_add, not_true_eq_false, not_false_eq_true, Bool.false_eq_true, and_false, false_and, or_false, false_or, reduceCtorEq, nev, ngv, nc_or, in64, l64v, ite_not, ite_notP, up2_upr, upr_upr, upr_at, nI_cl, nI_ir, iav, nI_1, nI_mul6, nI_6mul, nI_lt2, nI_eq2, nI_neg, nI_m1, ltv, nI_z, upd_at, upd_off, upr_off, usv, upd_upd]
theorem s151 (d m : Nat) (M : Mem) (Q : Option Value → Mem → Prop) (h : m < 64) : Wp d 151 0 [.int (nI m), .null, .null] [] M Q ↔ Q (some (.int (nI (pcN m)))) M := by
  have := l151 d (nI m) M Q m m 0 (by omega) h
  rw [Nat.zero_add] at this
  rw [← this]
  simp only [e151, kv, rv, tv, lnv, lv0, clv, clr_i, clr_r, clr_n, clr_l, true_and, and_true, Option.toList_some, Option.toList_none, List.cons_append, List.nil_append, bI_0, bI_1, bI_or, ↓reduceIte, or_true, true_or, eq_self, irv, i0_add, not_true_eq_false, not_false_eq_true, Bool.false_eq_true, and_false, false_and, or_false, false_or, reduceCtorEq, nev, ngv, nc_or, in64, l64v, ite_not, ite_notP, up2_upr, upr_upr, upr_at]
  rfl
theorem pcN_6 : ∀ m, m < 64 → pcN m ≤ 6 := by decide +kernel
theorem s153 (d n k : Nat) (M : Mem) (Q : Option Value → Mem → Prop) (hn : n ≤ 6) (h4 : M 41 4 = nI n) (hk : k < 6) : Wp (d + 1) 153 0 [.ref 40, .int (nI k)] [] M Q ↔ Q (some (.int (bI (M 43 k = 0 ∧ nI (pcN (whoN (M 43) 1 n)) < M 41 1)))) M := by
  have h64 := whoN_64 (M 43) 1 hn
  simp (disch := first | omega | assumption) only [e153, s127 d n _ M _ hn h4, s151, iteQ, bI_and2, kv, rv, tv, lnv, lv0, clv, clr_i, clr_r, clr_n, clr_l, true_and, and_true, Option.toList_some, Option.toList_none, List.cons_append, List.nil_append, bI_0, bI_1, bI_or, ↓reduceIte, or_true, true_or, eq_self, irv, i0_add, not_true_eq_false, not_false_eq_true, Bool.false_eq_true, and_false, false_and, or_false, false_or, reduceCtorEq, nev, ngv, nc_or, in64, l64v, ite_not, ite_notP, up2_upr, upr_upr, upr_at, nI_cl, nI_ir, iav, nI_1, nI_mul6, nI_6mul, nI_lt2, nI_eq2, nI_neg, nI_m1, ltv, nI_z, upd_at, upd_off, upr_off, usv, upd_upd]
theorem s156 (d k c : Nat) (M : Mem) (Q : Option Value → Mem → Prop) (hk : k < 6) (hc : M 41 (14 + k) = nI c) (hc4 : c < 4) : Wp (d + 4) 156 0 [.ref 40, .int (nI k)] [] M Q ↔ Q (some (.int (bI ((M 43 k = 1 ∨ M 43 k = 0) ∧ ¬ M 43 (6 + k) < cstF (M 41 (20 + k)) (accF (M 41 (6 + c)) (M 41 (10 + c)) (M 43 48)))))) M := by
  simp (disch := first | omega | assumption) only [e156, s150, s142 d k c M _ hk hc hc4, iteQ, kv, rv, tv, lnv, lv0, clv, clr_i, clr_r, clr_n, clr_l, true_and, and_true, Option.toList_some, Option.toList_none, List.cons_append, List.nil_append, bI_0, bI_1, bI_or, ↓reduceIte, or_true, true_or, eq_self, irv, i0_add, not_true_eq_false, not_false_eq_true, Bool.false_eq_true, and_false, false_and, or_false, false_or, reduceCtorEq, nev, ngv, nc_or, in64, l64v, ite_not, ite_notP, up2_upr, upr_upr, upr_at, nI_cl, nI_ir, iav, nI_1, nI_mul6, nI_6mul, nI_lt2, nI_eq2, nI_neg, nI_m1, ltv, nI_z, upd_at, upd_off, upr_off, usv, upd_upd]
  refine iff_of_eq (congrArg (fun z => Q (some (Value.int z)) M) ?_)
  unfold bI
  (repeat' split) <;> simp_all
theorem s157 (d k c : Nat) (M : Mem) (Q : Option Value → Mem → Prop) (hk : k < 6) (hc : M 41 (14 + k) = nI c) (hc4 : c < 4) : Wp (d + 4) 157 0 [.ref 40, .int (nI k), .null] [] M Q ↔ Q (some (.int (cstF (M 41 (20 + k)) (accF (M 41 (6 + c)) (M 41 (10 + c)) (M 43 48))))) (upr M 43 (upd (upd (M 43) (6 + k) (M 43 (6 + k) - cstF (M 41 (20 + k)) (accF (M 41 (6 + c)) (M 41 (10 + c)) (M 43 48)))) k 3)) := by
  simp (disch := first | omega | assumption) only [e157, s142 d k c M _ hk hc hc4, kv, rv, tv, lnv, lv0, clv, clr_i, clr_r, clr_n, clr_l, true_and, and_true, Option.toList_some, Option.toList_none, List.cons_append, List.nil_append, bI_0, bI_1, bI_or, ↓reduceIte, or_true, true_or, eq_self, irv, i0_add, not_true_eq_false, not_false_eq_true, Bool.false_eq_true, and_false, false_and, or_false, false_or, reduceCtorEq, nev, ngv, nc_or, in64, l64v, ite_not, ite_notP, up2_upr, upr_upr, upr_at, nI_cl, nI_ir, iav, nI_1, nI_mul6, nI_6mul, nI_lt2, nI_eq2, nI_neg, nI_m1, ltv, nI_z, upd_at, upd_off, upr_off, usv, upd_upd]
theorem s159 (d i j : Nat) (x : Int32) (M : Mem) (Q : Option Value → Mem → Prop) (hi : i < 6) (hj : j < 6) : Wp d 159 0 [.ref 40, .int (nI i), .int (nI j), .int x] [] M Q ↔ Q (some (.int (bI (¬ i = j ∧ M 43 i = 1 ∧ M 43 j = 1 ∧ ¬ M 43 (6 + i) < x)))) M := by
  simp (disch := first | omega | assumption) only [e159, iteQ, kv, rv, tv, lnv, lv0, clv, clr_i, clr_r, clr_n, clr_l, true_and, and_true, Option.toList_some, Option.toList_none, List.cons_append, List.nil_append, bI_0, bI_1, bI_or, ↓reduceIte, or_true, true_or, eq_self, irv, i0_add, not_true_eq_false, not_false_eq_true, Bool.false_eq_true, and_false, false_and, or_false, false_or, reduceCtorEq, nev, ngv, nc_or, in64, l64v, ite_not, ite_notP, up2_upr, upr_upr, upr_at, nI_cl, nI_ir, iav, nI_1, nI_mul6, nI_6mul, nI_lt2, nI_eq2, nI_neg, nI_m1, ltv, nI_z, upd_at, upd_off, upr_off, usv, upd_upd]
  refine iff_of_eq (congrArg (fun z => Q (some (Value.int z)) M) ?_)
  unfold bI
  (repeat' split) <;> simp_all
theorem s160 (d i j : Nat) (x : Int32) (M : Mem) (Q : Option Value → Mem → Prop) (hi : i < 6) (hj : j < 6) : Wp d 160 0 [.ref 40, .int (nI i), .int (nI j), .int x] [] M Q ↔ Q (some (.int (bI (9999 < M 43 (12 + 6 * i + j) + x)))) M := by
  simp (disch := first | omega | assumption) only [e160, nI_add, iteQ, bI_if, kv, rv, tv, lnv, lv0, clv, clr_i, clr_r, clr_n, clr_l, true_and, and_true, Option.toList_some, Option.toList_none, List.cons_append, List.nil_append, bI_0, bI_1, bI_or, ↓reduceIte, or_true, true_or, eq_self, irv, i0_add, not_true_eq_false, not_false_eq_true, Bool.false_eq_true, and_false, false_and, or_false, false_or, reduceCtorEq, nev, ngv, nc_or, in64, l64v, ite_not, ite_notP, up2_upr, upr_upr, upr_at, nI_cl, nI_ir, iav, nI_1, nI_mul6, nI_6mul, nI_lt2, nI_eq2, nI_neg, nI_m1, ltv, nI_z, upd_at, upd_off, upr_off, usv, upd_upd]
def mvF (g : Nat → Int32) (i j : Nat) (x : Int32) : Nat → Int32 := upd (upd (upd (upd g (6 + i) (g (6 + i) - x)) (6 + j) (bo (g (6 + j) + x))) (12 + 6 * i + j) (g (12 + 6 * i + j) + x)) (12 + 6 * j + i) (g (12 + 6 * j + i) - x)
theorem s161 (d i j : Nat) (x : Int32) (M : Mem) (Q : Option Value → Mem → Prop) (hi : i < 6) (hj : j < 6) (hij : i ≠ j) : Wp (d + 2) 161 0 [.ref 40, .int (nI i), .int (nI j), .int x] [] M Q ↔ Q none (upr M 43 (mvF (M 43) i j x)) := by
  simp (disch := first | omega | assumption) only [e161, nI_add, s132, mvF, kv, rv, tv, lnv, lv0, clv, clr_i, clr_r, clr_n, clr_l, true_and, and_true, Option.toList_some, Option.toList_none, List.cons_append, List.nil_append, bI_0, bI_1, bI_or, ↓reduceIte, or_true, true_or, eq_self, irv, i0_add, not_true_eq_false, not_false_eq_true, Bool.false_eq_true, and_false, false_and, or_false, false_or, reduceCtorEq, nev, ngv, nc_or, in64, l64v, ite_not, ite_notP, up2_upr, upr_upr, upr_at, nI_cl, nI_ir, iav, nI_1, nI_mul6, nI_6mul, nI_lt2, nI_eq2, nI_neg, nI_m1, ltv, nI_z, upd_at, upd_off, upr_off, usv, upd_upd]
theorem s163 (d i j : Nat) (M : Mem) (Q : Option Value → Mem → Prop) (hi : i < 6) (hj : j < 6) : Wp d 163 0 [.ref 40, .int (nI i), .int (nI j)] [] M Q ↔ Q (some (.int (bI (0 < M 43 (12 + 6 * i + j) ∧ M 43 j = 1)))) M := by
  simp (disch := first | omega | assumption) only [e163, nI_add, iteQ, bI_and2, kv, rv, tv, lnv, lv0, clv, clr_i, clr_r, clr_n, clr_l, true_and, and_true, Option.toList_some, Option.toList_none, List.cons_append, List.nil_append, bI_0, bI_1, bI_or, ↓reduceIte, or_true, true_or, eq_self, irv, i0_add, not_true_eq_false, not_false_eq_true, Bool.false_eq_true, and_false, false_and, or_false, false_or, reduceCtorEq, nev, ngv, nc_or, in64, l64v, ite_not, ite_notP, up2_upr, upr_upr, upr_at, nI_cl, nI_ir, iav, nI_1, nI_mul6, nI_6mul, nI_lt2, nI_eq2, nI_neg, nI_m1, ltv, nI_z, upd_at, upd_off, upr_off, usv, upd_upd]
def payF (o c : Int32) : Int32 := mn o (mx 0 c)
theorem pay_r (o c : Int32) : mn o (mx 0 c) = payF o c := rfl
theorem s164 (d i j : Nat) (M : Mem) (Q : Option Value → Mem → Prop) (hi : i < 6) (hj : j < 6) (hij : j ≠ i) : Wp (d + 3) 164 0 [.ref 40, .int (nI i), .int (nI j), .null, .null] [] M Q ↔ Q (some (.int (payF (M 43 (12 + 6 * i + j)) (M 43 (6 + j))))) (upr M 43 (upd (mvF (M 43) j i (payF (M 43 (12 + 6 * i + j)) (M 43 (6 + j)))) j (if payF (M 43 (12 + 6 * i + j)) (M 43 (6 + j)) < M 43 (12 + 6 * i + j) then 4 else 1))) := by
  simp (disch := first | omega | assumption) only [e164, nI_add, s133, s134, s161, pay_r, kv, rv, tv, lnv, lv0, clv, clr_i, clr_r, clr_n, clr_l, true_and, and_true, Option.toList_some, Option.toList_none, List.cons_append, List.nil_append, bI_0, bI_1, bI_or, ↓reduceIte, or_true, true_or, eq_self, irv, i0_add, not_true_eq_false, not_false_eq_true, Bool.false_eq_true, and_false, false_and, or_false, false_or, reduceCtorEq, nev, ngv, nc_or, in64, l64v, ite_not, ite_notP, up2_upr, upr_upr, upr_at, nI_cl, nI_ir, iav, nI_1, nI_mul6, nI_6mul, nI_lt2, nI_eq2, nI_neg, nI_m1, ltv, nI_z, upd_at, upd_off, upr_off, usv, upd_upd]
  split <;> rfl
def firF (g : Nat → Int32) (i : Nat) : Nat → Nat → Option Nat
  | 0, _ => none
  | n + 1, e => if 0 < g (12 + 6 * i + e) then some e else firF g i n (e + 1)
theorem l168 (d i n : Nat) (M : Mem) (Q : Option Value → Mem → Prop) (hi : i < 6) (hn : n ≤ 6) (h4 : M 41 4 = nI n) : ∀ j e, e + j = n → (Wp d 168 2 [.ref 40, .int (nI i), .int (nI e)] [] M Q ↔ Q (some (.int (oI (firF (M 43) i j e)))) M)
  | 0, e, he => by
    obtain rfl : e = n := he
    rw [h168_2]
    simp (disch := first | omega | assumption) only [e168, h4, Nat.lt_irrefl, firF, oI, kv, rv, tv, lnv, lv0, clv, clr_i, clr_r, clr_n, clr_l, true_and, and_true, Option.toList_some, Option.toList_none, List.cons_append, List.nil_append, bI_0, bI_1, bI_or, ↓reduceIte, or_true, true_or, eq_self, irv, i0_add, not_true_eq_false, not_false_eq_true, Bool.false_eq_true, and_false, false_and, or_false, false_or, reduceCtorEq, nev, ngv, nc_or, in64, l64v, ite_not, ite_notP, up2_upr, upr_upr, upr_at, nI_cl, nI_ir, iav, nI_1, nI_mul6, nI_6mul, nI_lt2, nI_eq2, nI_neg, nI_m1, ltv, nI_z, upd_at, upd_off, upr_off, usv, upd_upd]
  | j + 1, e, he => by
    have hlt : e < n := by omega
    have ih := l168 d i n M Q hi hn h4 j (e + 1) (by omega)
    rw [h168_2, firF]
    simp (disch := first | omega | assumption) only [e168, h4, hlt, nI_add, ih, kv, rv, tv, lnv, lv0, clv, clr_i, clr_r, clr_n, clr_l, true_and, and_true, Option.toList_some, Option.toList_none, List.cons_append, List.nil_append, bI_0, bI_1, bI_or, ↓reduceIte, or_true, true_or, eq_self, irv, i0_add, not_true_eq_false, not_false_eq_true, Bool.false_eq_true, and_false, false_and, or_false, false_or, reduceCtorEq, nev, ngv, nc_or, in64, l64v, ite_not, ite_notP, up2_upr, upr_upr, upr_at, nI_cl, nI_ir, iav, nI_1, nI_mul6, nI_6mul, nI_lt2, nI_eq2, nI_neg, nI_m1, ltv, nI_z, upd_at, upd_off, upr_off, usv, upd_upd]
    split <;> rfl
theorem s168 (d i n : Nat) (M : Mem) (Q : Option Value → Mem → Prop) (hi : i < 6) (hn : n ≤ 6) (h4 : M 41 4 = nI n) : Wp d 168 0 [.ref 40, .int (nI i), .null] [] M Q ↔ Q (some (.int (oI (firF (M 43) i n 0)))) M := by
  rw [← l168 d i n M Q hi hn h4 n 0 (by omega)]
  simp only [e168, kv, rv, tv, lnv, lv0, clv, clr_i, clr_r, clr_n, clr_l, true_and, and_true, Option.toList_some, Option.toList_none, List.cons_append, List.nil_append, bI_0, bI_1, bI_or, ↓reduceIte, or_true, true_or, eq_self, irv, i0_add, not_true_eq_false, not_false_eq_true, Bool.false_eq_true, and_false, false_and, or_false, false_or, reduceCtorEq, nev, ngv, nc_or, in64, l64v, ite_not, ite_notP, up2_upr, upr_upr, upr_at]
  rfl
/-- THE SEED behind a DRAW -/
def nxt (a : Nat) : Nat := (a * 1103515245 + 12345) % 2147483648
theorem nxt_lt (a : Nat) : nxt a < 2147483648 := Nat.mod_lt _ (by decide)
theorem nxt_l {a : Nat} (ha : a < 2147483648) : (nI a).toInt64 * 1103515245 + 12345 - ((nI a).toInt64 * 1103515245 + 12345) / 2147483648 * 2147483648 = lN (nxt a) := by
  rw [nI_l ha]
  show lN a * lN 1103515245 + lN 12345 - (lN a * lN 1103515245 + lN 12345) / lN 2147483648 * lN 2147483648 = _
  rw [lN_mul, lN_add, pk_lRem (by omega) (by decide) (by decide)]
  rfl
theorem drw_l {b n : Nat} (hb : b < 2147483648) (hn : 0 < n) (hn2 : n < 2147483648) : (lN b / 65536 - lN b / 65536 / lN n * lN n).toInt32 = nI (b / 65536 % n) := by
  show (lN b / lN 65536 - lN b / lN 65536 / lN n * lN n).toInt32 = _
  rw [pk_lDiv (by omega) (by decide) (by decide), pk_lRem (by omega) hn (by omega), lN_i]
theorem l_ne0 {n : Nat} (hn : 0 < n) (hn2 : n < 2147483648) : (lN n = 0) ↔ False := by
  refine ⟨fun h => ?_, False.elim⟩
  have := (pk_lEQ (a := n) (b := 0) (by omega) (by decide)).mp h
  omega
theorem lc_1 : ((2147483648 : Int64) = 0 ↔ False) ∧ ((65536 : Int64) = 0 ↔ False) := ⟨⟨fun h => absurd h (by decide), False.elim⟩, ⟨fun h => absurd h (by decide), False.elim⟩⟩
theorem s167 (d a n : Nat) (M : Mem) (Q : Option Value → Mem → Prop) (ha : a < 2147483648) (h8 : M 40 8 = nI a) (hn : 0 < n) (hn2 : n < 2147483648) : Wp d 167 0 [.ref 40, .int (nI n)] [] M Q ↔ Q (some (.int (nI (nxt a / 65536 % n)))) (upr M 40 (upd (M 40) 8 (nI (nxt a)))) := by
  have hb := nxt_lt a
  simp (disch := first | omega | assumption) only [e167, h8, nxt_l ha, lN_i, nI_l hb, nI_l hn2, drw_l hb hn hn2, l_ne0 hn hn2, lc_1, kv, rv, tv, lnv, lv0, clv, clr_i, clr_r, clr_n, clr_l, true_and, and_true, Option.toList_some, Option.toList_none, List.cons_append, List.nil_append, bI_0, bI_1, bI_or, ↓reduceIte, or_true, true_or, eq_self, irv, i0_add, not_true_eq_false, not_false_eq_true, Bool.false_eq_true, and_false, false_and, or_false, false_or, reduceCtorEq, nev, ngv, nc_or, in64, l64v, ite_not, ite_notP, up2_upr, upr_upr, upr_at, nI_cl, nI_ir, iav, nI_1, nI_mul6, nI_6mul, nI_lt2, nI_eq2, nI_neg, nI_m1, ltv, nI_z, upd_at, upd_off, upr_off, usv, upd_upd]
/-- a new yard begins -/
theorem l124 (d : Nat) (M : Mem) (Q : Option Value → Mem → Prop) : ∀ j i, i + j = 51 → (Wp d 124 2 [.ref 40, .int (nI i)] [] (upr M 43 (fun q => if q < i then 0 else M 43 q)) Q ↔ Wp d 124 21 [.ref 40, .int (nI 51)] [] (upr M 43 (fun q => if q < 51 then 0 else M 43 q)) Q)
  | 0, i, hi => by
    obtain rfl : i = 51 := hi
    rw [h124_2]
    simp (disch := first | omega | assumption) only [e124, Nat.lt_irrefl, kv, rv, tv, lnv, lv0, clv, clr_i, clr_r, clr_n, clr_l, true_and, and_true, Option.toList_some, Option.toList_none, List.cons_append, List.nil_append, bI_0, bI_1, bI_or, ↓reduceIte, or_true, true_or, eq_self, irv, i0_add, not_true_eq_false, not_false_eq_true, Bool.false_eq_true, and_false, false_and, or_false, false_or, reduceCtorEq, nev, ngv, nc_or, in64, l64v, ite_not, ite_notP, up2_upr, upr_upr, upr_at, nI_cl, nI_ir, iav, nI_1, nI_mul6, nI_6mul, nI_lt2, nI_eq2, nI_neg, nI_m1, ltv, nI_z, upd_at, upd_off, upr_off, usv, upd_upd]
  | j + 1, i, hi => by
    have hlt : i < 51 := by omega
    refine Iff.trans ?_ (l124 d M Q j (i + 1) (by omega))
    rw [h124_2]
    have e : upd (fun q => if q < i then (0 : Int32) else M 43 q) i 0 = fun q => if q < i + 1 then 0 else M 43 q := fill_s (fun _ => 0) (M 43) i
    simp (disch := first | omega | assumption) only [e124, hlt, e, kv, rv, tv, lnv, lv0, clv, clr_i, clr_r, clr_n, clr_l, true_and, and_true, Option.toList_some, Option.toList_none, List.cons_append, List.nil_append, bI_0, bI_1, bI_or, ↓reduceIte, or_true, true_or, eq_self, irv, i0_add, not_true_eq_false, not_false_eq_true, Bool.false_eq_true, and_false, false_and, or_false, false_or, reduceCtorEq, nev, ngv, nc_or, in64, l64v, ite_not, ite_notP, up2_upr, upr_upr, upr_at, nI_cl, nI_ir, iav, nI_1, nI_mul6, nI_6mul, nI_lt2, nI_eq2, nI_neg, nI_m1, ltv, nI_z, upd_at, upd_off, upr_off, usv, upd_upd]
theorem s124 (d : Nat) (M : Mem) (Q : Option Value → Mem → Prop) : Wp d 124 0 [.ref 40, .null] [] M Q ↔ Q none (upr (upr (upr M 40 (upd (upd (upd (M 40) 5 0) 13 0) 15 0)) 43 (fun q => if q < 51 then 0 else M 43 q)) 47 (upd (upd (M 47) 0 0) 1 0)) := by
  have e := l124 d M Q 51 0 (by omega)
  have e0 : upr M 43 (fun q => if q < 0 then (0 : Int32) else M 43 q) = M := by
    have : (fun q => if q < 0 then (0 : Int32) else M 43 q) = M 43 := by
      funext q
      rw [if_neg (by omega)]
    rw [this, upr_id]
  rw [e0] at e
  simp (disch := first | omega | assumption) only [e124, kv, rv, tv, lnv, lv0, clv, clr_i, clr_r, clr_n, clr_l, true_and, and_true, Option.toList_some, Option.toList_none, List.cons_append, List.nil_append, bI_0, bI_1, bI_or, ↓reduceIte, or_true, true_or, eq_self, irv, i0_add, not_true_eq_false, not_false_eq_true, Bool.false_eq_true, and_false, false_and, or_false, false_or, reduceCtorEq, nev, ngv, nc_or, in64, l64v, ite_not, ite_notP, up2_upr, upr_upr, upr_at, nI_cl, nI_ir, iav, nI_1, nI_mul6, nI_6mul, nI_lt2, nI_eq2, nI_neg, nI_m1, ltv, nI_z, upd_at, upd_off, upr_off, usv, upd_upd] at e
  rw [← e]
  simp (disch := first | omega | assumption) only [e124, kv, rv, tv, lnv, lv0, clv, clr_i, clr_r, clr_n, clr_l, true_and, and_true, Option.toList_some, Option.toList_none, List.cons_append, List.nil_append, bI_0, bI_1, bI_or, ↓reduceIte, or_true, true_or, eq_self, irv, i0_add, not_true_eq_false, not_false_eq_true, Bool.false_eq_true, and_false, false_and, or_false, false_or, reduceCtorEq, nev, ngv, nc_or, in64, l64v, ite_not, ite_notP, up2_upr, upr_upr, upr_at, nI_cl, nI_ir, iav, nI_1, nI_mul6, nI_6mul, nI_lt2, nI_eq2, nI_neg, nI_m1, ltv, nI_z, upd_at, upd_off, upr_off, usv, upd_upd]
  rfl
/-! what was, kept -/
def shF (p : Nat → Int32) : Nat → Int32 := fun q => if q < 765 then p (q + 51) else p q
theorem l148 (d : Nat) (M : Mem) (Q : Option Value → Mem → Prop) : ∀ j i, i + j = 765 → (Wp (d + 1) 148 11 [.ref 40, .int (nI i)] [] (upr M 45 (fun q => if q < i then M 45 (q + 51) else M 45 q)) Q ↔ Wp (d + 1) 148 39 [.ref 40, .int (nI 765)] [] (upr M 45 (shF (M 45))) Q)
  | 0, i, hi => by
    obtain rfl : i = 765 := hi
    rw [h148_11]
    have e : (fun q => if q < 765 then M 45 (q + 51) else M 45 q) = shF (M 45) := rfl
    rw [e]
    simp (disch := first | omega | assumption) only [e148, Nat.lt_irrefl, kv, rv, tv, lnv, lv0, clv, clr_i, clr_r, clr_n, clr_l, true_and, and_true, Option.toList_some, Option.toList_none, List.cons_append, List.nil_append, bI_0, bI_1, bI_or, ↓reduceIte, or_true, true_or, eq_self, irv, i0_add, not_true_eq_false, not_false_eq_true, Bool.false_eq_true, and_false, false_and, or_false, false_or, reduceCtorEq, nev, ngv, nc_or, in64, l64v, ite_not, ite_notP, up2_upr, upr_upr, upr_at, nI_cl, nI_ir, iav, nI_1, nI_mul6, nI_6mul, nI_lt2, nI_eq2, nI_neg, nI_m1, ltv, nI_z, upd_at, upd_off, upr_off, usv, upd_upd]
  | j + 1, i, hi => by
    have hlt : i < 765 := by omega
    refine Iff.trans ?_ (l148 d M Q j (i + 1) (by omega))
    rw [h148_11]
    have e : upd (fun q => if q < i then M 45 (q + 51) else M 45 q) i (M 45 (i + 51)) = fun q => if q < i + 1 then M 45 (q + 51) else M 45 q := fill_s (fun q => M 45 (q + 51)) (M 45) i
    have e2 : nI i + 51 = nI (i + 51) := nI_add i 51
    have e3 : ¬ i + 51 < i := by omega
    simp (disch := first | omega | assumption) only [e148, hlt, e2, e3, e, kv, rv, tv, lnv, lv0, clv, clr_i, clr_r, clr_n, clr_l, true_and, and_true, Option.toList_some, Option.toList_none, List.cons_append, List.nil_append, bI_0, bI_1, bI_or, ↓reduceIte, or_true, true_or, eq_self, irv, i0_add, not_true_eq_false, not_false_eq_true, Bool.false_eq_true, and_false, false_and, or_false, false_or, reduceCtorEq, nev, ngv, nc_or, in64, l64v, ite_not, ite_notP, up2_upr, upr_upr, upr_at, nI_cl, nI_ir, iav, nI_1, nI_mul6, nI_6mul, nI_lt2, nI_eq2, nI_neg, nI_m1, ltv, nI_z, upd_at, upd_off, upr_off, usv, upd_upd]
theorem c_past (d : Nat) (j : Nat) (M : Mem) (Q : Option Value → Mem → Prop) (hj : j ≤ 765) : Wp d 123 0 [.ref 43, .int 0, .ref 45, .int (nI j), .int 51, .null] [] M Q ↔ Q none (upr M 45 (va_cpy (M 43) (M 45) 0 j 51)) := s123 d 43 45 0 j 51 M Q (by simp only [rv]) (by simp only [kv]) (by decide) (by simp only [lnv]; omega) (by simp only [lv0]; omega) ⟨by simp only [lnv]; omega, by simp only [lv0]; omega⟩ (fun _ => rfl) (by decide)
theorem c_undo (d : Nat) (j : Nat) (M : Mem) (Q : Option Value → Mem → Prop) (hj : j ≤ 765) : Wp d 123 0 [.ref 45, .int (nI j), .ref 43, .int 0, .int 51, .null] [] M Q ↔ Q none (upr M 43 (va_cpy (M 45) (M 43) j 0 51)) := s123 d 45 43 j 0 51 M Q (by simp only [rv]) (by simp only [kv]) (by decide) (by simp only [lnv]; omega) (by simp only [lv0]; omega) ⟨by simp only [lnv]; omega, by simp only [lv0]; omega⟩ (fun _ => rfl) (by decide)
theorem c_keep (d : Nat) (j : Nat) (M : Mem) (Q : Option Value → Mem → Prop) (hj : j ≤ 53) : Wp d 123 0 [.ref 43, .int 0, .ref 46, .int (nI j), .int 51, .null] [] M Q ↔ Q none (upr M 46 (va_cpy (M 43) (M 46) 0 j 51)) := s123 d 43 46 0 j 51 M Q (by simp only [rv]) (by simp only [kv]) (by decide) (by simp only [lnv]; omega) (by simp only [lv0]; omega) ⟨by simp only [lnv]; omega, by simp only [lv0]; omega⟩ (fun _ => rfl) (by decide)
theorem c_back (d : Nat) (j : Nat) (M : Mem) (Q : Option Value → Mem → Prop) (hj : j ≤ 53) : Wp d 123 0 [.ref 46, .int (nI j), .ref 43, .int 0, .int 51, .null] [] M Q ↔ Q none (upr M 43 (va_cpy (M 46) (M 43) j 0 51)) := s123 d 46 43 j 0 51 M Q (by simp only [rv]) (by simp only [kv]) (by decide) (by simp only [lnv]; omega) (by simp only [lv0]; omega) ⟨by simp only [lnv]; omega, by simp only [lv0]; omega⟩ (fun _ => rfl) (by decide)
theorem c_yard (d : Nat) (M : Mem) (Q : Option Value → Mem → Prop)  : Wp d 123 0 [.ref 42, .int 0, .ref 41, .int 0, .int 50, .null] [] M Q ↔ Q none (upr M 41 (va_cpy (M 42) (M 41) 0 0 50)) := s123 d 42 41 0 0 50 M Q (by simp only [rv]) (by simp only [kv]) (by decide) (by simp only [lnv]; omega) (by simp only [lv0]; omega) ⟨by simp only [lnv]; omega, by simp only [lv0]; omega⟩ (fun _ => rfl) (by decide)
theorem s148 (d u : Nat) (M : Mem) (Q : Option Value → Mem → Prop) (hu : u ≤ 16) (h5 : M 40 5 = nI u) : Wp (d + 1) 148 0 [.ref 40, .null] [] M Q ↔ Q none (if u = 16 then upr (upr M 40 (upd (M 40) 5 (nI 16))) 45 (va_cpy (M 43) (shF (M 45)) 0 765 51) else upr (upr M 40 (upd (M 40) 5 (nI (u + 1)))) 45 (va_cpy (M 43) (M 45) 0 (51 * u) 51)) := by
  have h51 : ∀ k, (51 : Int32) * nI k = nI (51 * k) := fun k => pk_mul 51 k
  by_cases h16 : u = 16
  · subst h16
    have e := l148 d M Q 765 0 (by omega)
    rw [fill_0 (fun q => M 45 (q + 51)) (M 45), upr_id] at e
    have h15 : nI 16 - 1 = nI 15 := by decide
    simp (disch := first | omega | assumption) only [e148, h5, h51, h15, c_past, upd_upd, kv, rv, tv, lnv, lv0, clv, clr_i, clr_r, clr_n, clr_l, true_and, and_true, Option.toList_some, Option.toList_none, List.cons_append, List.nil_append, bI_0, bI_1, bI_or, ↓reduceIte, or_true, true_or, eq_self, irv, i0_add, not_true_eq_false, not_false_eq_true, Bool.false_eq_true, and_false, false_and, or_false, false_or, reduceCtorEq, nev, ngv, nc_or, in64, l64v, ite_not, ite_notP, up2_upr, upr_upr, upr_at, nI_cl, nI_ir, iav, nI_1, nI_mul6, nI_6mul, nI_lt2, nI_eq2, nI_neg, nI_m1, ltv, nI_z, upd_at, upd_off, upr_off, usv, upd_upd] at e
    rw [if_pos rfl]
    simp (disch := first | omega | assumption) only [e148, h5, kv, rv, tv, lnv, lv0, clv, clr_i, clr_r, clr_n, clr_l, true_and, and_true, Option.toList_some, Option.toList_none, List.cons_append, List.nil_append, bI_0, bI_1, bI_or, ↓reduceIte, or_true, true_or, eq_self, irv, i0_add, not_true_eq_false, not_false_eq_true, Bool.false_eq_true, and_false, false_and, or_false, false_or, reduceCtorEq, nev, ngv, nc_or, in64, l64v, ite_not, ite_notP, up2_upr, upr_upr, upr_at, nI_cl, nI_ir, iav, nI_1, nI_mul6, nI_6mul, nI_lt2, nI_eq2, nI_neg, nI_m1, ltv, nI_z, upd_at, upd_off, upr_off, usv, upd_upd]
    exact e
  · simp (disch := first | omega | assumption) only [e148, h5, h51, h16, c_past, kv, rv, tv, lnv, lv0, clv, clr_i, clr_r, clr_n, clr_l, true_and, and_true, Option.toList_some, Option.toList_none, List.cons_append, List.nil_append, bI_0, bI_1, bI_or, ↓reduceIte, or_true, true_or, eq_self, irv, i0_add, not_true_eq_false, not_false_eq_true, Bool.false_eq_true, and_false, false_and, or_false, false_or, reduceCtorEq, nev, ngv, nc_or, in64, l64v, ite_not, ite_notP, up2_upr, upr_upr, upr_at, nI_cl, nI_ir, iav, nI_1, nI_mul6, nI_6mul, nI_lt2, nI_eq2, nI_neg, nI_m1, ltv, nI_z, upd_at, upd_off, upr_off, usv, upd_upd]
