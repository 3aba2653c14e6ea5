/-! part 11: the reference: who is taken, prices, costs, nets -/
theorem l128b (d n m : Nat) (se kx : Int32) (M : Mem) (Q : Option Value → Mem → Prop) (hn : n ≤ 6) (h4 : M 41 4 = nI n) (hm : m < 64) : ∀ j i, i + j = n → (Wp (d + 1) 128 30 [.ref 40, .int (nI m), .int se, .int kx, .int (oI (bstN (fun q => M 41 (20 + q)) m i)), .int (nI i)] [] M Q ↔ Wp (d + 1) 128 94 [.ref 40, .int (nI m), .int se, .int kx, .int (oI (bstN (fun q => M 41 (20 + q)) m n)), .int (nI n)] [] M Q)
  | 0, i, hi => by
    obtain rfl : i = n := hi
    rw [h128_30]
    simp (disch := first | omega | assumption) only [e128_0, e128_1, h4, Nat.lt_irrefl, kv, rv, tv, lnv, lv0, clv, clr_i, clr_r, clr_n, clr_l, true_and, and_true, Option.toList_some, Option.toList_none, List.cons_append, List.nil_append, bI_0, bI_1, bI_or, ↓reduceIte, or_true, true_or, eq_self, irv, i0_add, not_true_eq_false, not_false_eq_true, Bool.false_eq_true, and_false, false_and, or_false, false_or, reduceCtorEq, nev, ngv, nc_or, in64, l64v, ite_not, ite_notP, up2_upr, upr_upr, upr_at, nI_cl, nI_ir, iav, nI_1, nI_mul6, nI_6mul, nI_lt2, nI_eq2, nI_neg, nI_m1, ltv, nI_z, upd_at, upd_off, upr_off, usv, upd_upd]
  | j + 1, i, hi => by
    have hlt : i < n := by omega
    refine Iff.trans ?_ (l128b d n m se kx M Q hn h4 hm j (i + 1) (by omega))
    rw [h128_30, bstN]
    cases hb : bstN (fun q => M 41 (20 + q)) m i with
    | none => by_cases ht : m.testBit i = true <;> simp (disch := first | omega | assumption) only [e128_0, e128_1, h4, hlt, s129, bt_iff, oI, ht, kv, rv, tv, lnv, lv0, clv, clr_i, clr_r, clr_n, clr_l, true_and, and_true, Option.toList_some, Option.toList_none, List.cons_append, List.nil_append, bI_0, bI_1, bI_or, ↓reduceIte, or_true, true_or, eq_self, irv, i0_add, not_true_eq_false, not_false_eq_true, Bool.false_eq_true, and_false, false_and, or_false, false_or, reduceCtorEq, nev, ngv, nc_or, in64, l64v, ite_not, ite_notP, up2_upr, upr_upr, upr_at, nI_cl, nI_ir, iav, nI_1, nI_mul6, nI_6mul, nI_lt2, nI_eq2, nI_neg, nI_m1, ltv, nI_z, upd_at, upd_off, upr_off, usv, upd_upd]
    | some b =>
      have hb2 := bstN_lt hb
      by_cases ht : m.testBit i = true <;> by_cases hc : M 41 (20 + b) < M 41 (20 + i) <;> simp (disch := first | omega | assumption) only [e128_0, e128_1, h4, hlt, s129, bt_iff, oI, ht, hc, and_false, false_and, kv, rv, tv, lnv, lv0, clv, clr_i, clr_r, clr_n, clr_l, true_and, and_true, Option.toList_some, Option.toList_none, List.cons_append, List.nil_append, bI_0, bI_1, bI_or, ↓reduceIte, or_true, true_or, eq_self, irv, i0_add, not_true_eq_false, not_false_eq_true, Bool.false_eq_true, and_false, false_and, or_false, false_or, reduceCtorEq, nev, ngv, nc_or, in64, l64v, ite_not, ite_notP, up2_upr, upr_upr, upr_at, nI_cl, nI_ir, iav, nI_1, nI_mul6, nI_6mul, nI_lt2, nI_eq2, nI_neg, nI_m1, ltv, nI_z, upd_at, upd_off, upr_off, usv, upd_upd]
/-- the most of a set, b times -/
def takN (f : Nat → Int32) (n : Nat) : Nat → Nat → Nat → Nat
  | 0, _, s => s
  | b + 1, m, s => if m = 0 then s else match bstN f m n with
    | none => s
    | some k => takN f n b (m &&& (63 ^^^ 2 ^ k)) (s ||| 2 ^ k)
theorem p2_lt : ∀ k, k < 6 → 2 ^ k < 64 := by decide +kernel
theorem s_or {s k : Nat} (hs : s < 64) (hk : k < 6) : s ||| 2 ^ k < 64 := Nat.or_lt_two_pow (n := 6) hs (p2_lt k hk)
theorem l128 (d n B : Nat) (M : Mem) (Q : Option Value → Mem → Prop) (hn : n ≤ 6) (h4 : M 41 4 = nI n) (hB : B ≤ 6) (h2 : M 41 2 = nI B) : ∀ j i m s x y, i + j = B → m < 2 ^ n → s < 64 → (Wp (d + 1) 128 10 [.ref 40, .int (nI m), .int (nI s), .int (nI i), x, y] [] M Q ↔ Q (some (.int (nI (takN (fun q => M 41 (20 + q)) n j m s)))) M)
  | 0, i, m, s, x, y, hi, hm, hs => by
    obtain rfl : i = B := hi
    rw [h128_10]
    simp (disch := first | omega | assumption) only [e128_0, e128_1, h2, Nat.lt_irrefl, takN, kv, rv, tv, lnv, lv0, clv, clr_i, clr_r, clr_n, clr_l, true_and, and_true, Option.toList_some, Option.toList_none, List.cons_append, List.nil_append, bI_0, bI_1, bI_or, ↓reduceIte, or_true, true_or, eq_self, irv, i0_add, not_true_eq_false, not_false_eq_true, Bool.false_eq_true, and_false, false_and, or_false, false_or, reduceCtorEq, nev, ngv, nc_or, in64, l64v, ite_not, ite_notP, up2_upr, upr_upr, upr_at, nI_cl, nI_ir, iav, nI_1, nI_mul6, nI_6mul, nI_lt2, nI_eq2, nI_neg, nI_m1, ltv, nI_z, upd_at, upd_off, upr_off, usv, upd_upd]
  | j + 1, i, m, s, x, y, hi, hm, hs => by
    have hlt : i < B := by omega
    have hm6 : m < 64 := Nat.lt_of_lt_of_le hm (p2_64 n hn)
    rw [h128_10, takN]
    by_cases h0 : m = 0
    · simp (disch := first | omega | assumption) only [e128_0, e128_1, h2, hlt, h0, kv, rv, tv, lnv, lv0, clv, clr_i, clr_r, clr_n, clr_l, true_and, and_true, Option.toList_some, Option.toList_none, List.cons_append, List.nil_append, bI_0, bI_1, bI_or, ↓reduceIte, or_true, true_or, eq_self, irv, i0_add, not_true_eq_false, not_false_eq_true, Bool.false_eq_true, and_false, false_and, or_false, false_or, reduceCtorEq, nev, ngv, nc_or, in64, l64v, ite_not, ite_notP, up2_upr, upr_upr, upr_at, nI_cl, nI_ir, iav, nI_1, nI_mul6, nI_6mul, nI_lt2, nI_eq2, nI_neg, nI_m1, ltv, nI_z, upd_at, upd_off, upr_off, usv, upd_upd]
    · obtain ⟨b, hb, hbn⟩ := bstN_some (f := fun q => M 41 (20 + q)) hn hm h0
      have e := l128b d n m (nI s) (nI i) M Q hn h4 hm6 n 0 (by omega)
      have ih := l128 d n B M Q hn h4 hB h2 j (i + 1) (m &&& (63 ^^^ 2 ^ b)) (s ||| 2 ^ b) (.int (nI b)) (.int (nI n)) (by omega) (Nat.lt_of_le_of_lt Nat.and_le_left hm) (s_or hs (by omega))
      rw [hb] at e ⊢
      rw [if_neg h0]
      simp only
      refine Iff.trans ?_ ih
      simp (disch := first | omega | assumption) only [e128_0, e128_1, h2, hlt, h0, oI, bstN, or_bit, cut_bit, kv, rv, tv, lnv, lv0, clv, clr_i, clr_r, clr_n, clr_l, true_and, and_true, Option.toList_some, Option.toList_none, List.cons_append, List.nil_append, bI_0, bI_1, bI_or, ↓reduceIte, or_true, true_or, eq_self, irv, i0_add, not_true_eq_false, not_false_eq_true, Bool.false_eq_true, and_false, false_and, or_false, false_or, reduceCtorEq, nev, ngv, nc_or, in64, l64v, ite_not, ite_notP, up2_upr, upr_upr, upr_at, nI_cl, nI_ir, iav, nI_1, nI_mul6, nI_6mul, nI_lt2, nI_eq2, nI_neg, nI_m1, ltv, nI_z, upd_at, upd_off, upr_off, usv, upd_upd] at e
      simp (disch := first | omega | assumption) only [e128_0, e128_1, h2, hlt, h0, kv, rv, tv, lnv, lv0, clv, clr_i, clr_r, clr_n, clr_l, true_and, and_true, Option.toList_some, Option.toList_none, List.cons_append, List.nil_append, bI_0, bI_1, bI_or, ↓reduceIte, or_true, true_or, eq_self, irv, i0_add, not_true_eq_false, not_false_eq_true, Bool.false_eq_true, and_false, false_and, or_false, false_or, reduceCtorEq, nev, ngv, nc_or, in64, l64v, ite_not, ite_notP, up2_upr, upr_upr, upr_at, nI_cl, nI_ir, iav, nI_1, nI_mul6, nI_6mul, nI_lt2, nI_eq2, nI_neg, nI_m1, ltv, nI_z, upd_at, upd_off, upr_off, usv, upd_upd]
      exact e
theorem s128 (d n B : Nat) (M : Mem) (Q : Option Value → Mem → Prop) (hn : n ≤ 6) (h4 : M 41 4 = nI n) (hB : B ≤ 6) (h2 : M 41 2 = nI B) : Wp (d + 1) 128 0 [.ref 40, .null, .null, .null, .null, .null] [] M Q ↔ Q (some (.int (nI (takN (fun q => M 41 (20 + q)) n B (whoN (M 43) 0 n) 0)))) M := by
  rw [← l128 d n B M Q hn h4 hB h2 B 0 (whoN (M 43) 0 n) 0 .null .null (by omega) (whoN_lt _ _ n hn) (by decide)]
  simp only [e128_0, e128_1, s127 d n _ M _ hn h4, kv, rv, tv, lnv, lv0, clv, clr_i, clr_r, clr_n, clr_l, true_and, and_true, Option.toList_some, Option.toList_none, List.cons_append, List.nil_append, bI_0, bI_1, bI_or, ↓reduceIte, or_true, true_or, eq_self, irv, i0_add, not_true_eq_false, not_false_eq_true, Bool.false_eq_true, and_false, false_and, or_false, false_or, reduceCtorEq, nev, ngv, nc_or, in64, l64v, ite_not, ite_notP, up2_upr, upr_upr, upr_at]
  rfl
def accF (p k w : Int32) : Int32 := mx (p - k * w) (mn p 5)
theorem s139 (d k : Nat) (w : Int32) (M : Mem) (Q : Option Value → Mem → Prop) (hk : k < 4) : Wp (d + 1) 139 0 [.ref 40, .int (nI k), .int w] [] M Q ↔ Q (some (.int (accF (M 41 (6 + k)) (M 41 (10 + k)) w))) M := by
  simp (disch := first | omega | assumption) only [e139, s133, s134, accF, kv, rv, tv, lnv, lv0, clv, clr_i, clr_r, clr_n, clr_l, true_and, and_true, Option.toList_some, Option.toList_none, List.cons_append, List.nil_append, bI_0, bI_1, bI_or, ↓reduceIte, or_true, true_or, eq_self, irv, i0_add, not_true_eq_false, not_false_eq_true, Bool.false_eq_true, and_false, false_and, or_false, false_or, reduceCtorEq, nev, ngv, nc_or, in64, l64v, ite_not, ite_notP, up2_upr, upr_upr, upr_at, nI_cl, nI_ir, iav, nI_1, nI_mul6, nI_6mul, nI_lt2, nI_eq2, nI_neg, nI_m1, ltv, nI_z, upd_at, upd_off, upr_off, usv, upd_upd]
theorem n100 : ((100 : Int32) = 0) ↔ False := ⟨fun h => absurd h (by decide), False.elim⟩
def cstF (s a : Int32) : Int32 := s * a / 100 + (if s * a - s * a / 100 * 100 = 0 then 0 else 1)
theorem s143 (d k c : Nat) (w : Int32) (M : Mem) (Q : Option Value → Mem → Prop) (hk : k < 6) (hc : M 41 (14 + k) = nI c) (hc4 : c < 4) : Wp (d + 2) 143 0 [.ref 40, .int (nI k), .int w, .null] [] M Q ↔ Q (some (.int (cstF (M 41 (20 + k)) (accF (M 41 (6 + c)) (M 41 (10 + c)) w)))) M := by
  simp (disch := first | omega | assumption) only [e143, hc, s139, cstF, n100, kv, rv, tv, lnv, lv0, clv, clr_i, clr_r, clr_n, clr_l, true_and, and_true, Option.toList_some, Option.toList_none, List.cons_append, List.nil_append, bI_0, bI_1, bI_or, ↓reduceIte, or_true, true_or, eq_self, irv, i0_add, not_true_eq_false, not_false_eq_true, Bool.false_eq_true, and_false, false_and, or_false, false_or, reduceCtorEq, nev, ngv, nc_or, in64, l64v, ite_not, ite_notP, up2_upr, upr_upr, upr_at, nI_cl, nI_ir, iav, nI_1, nI_mul6, nI_6mul, nI_lt2, nI_eq2, nI_neg, nI_m1, ltv, nI_z, upd_at, upd_off, upr_off, usv, upd_upd]
  split <;> rfl
def wkl (c h l : Int32) (pays : Prop) [Decidable pays] : Int32 := bo (bo (c + h) - (if pays then l else 0))
theorem s131 (d k : Nat) (c z : Int32) (M : Mem) (Q : Option Value → Mem → Prop) (hk : k < 6) : Wp (d + 2) 131 0 [.ref 40, .int (nI k), .int c, .int z] [] M Q ↔ Q (some (.int (wkl c (M 41 (26 + k)) (M 41 0) (¬ z = 0)))) M := by
  by_cases h : z = 0 <;> simp (disch := first | omega | assumption) only [e131, s132, wkl, h, kv, rv, tv, lnv, lv0, clv, clr_i, clr_r, clr_n, clr_l, true_and, and_true, Option.toList_some, Option.toList_none, List.cons_append, List.nil_append, bI_0, bI_1, bI_or, ↓reduceIte, or_true, true_or, eq_self, irv, i0_add, not_true_eq_false, not_false_eq_true, Bool.false_eq_true, and_false, false_and, or_false, false_or, reduceCtorEq, nev, ngv, nc_or, in64, l64v, ite_not, ite_notP, up2_upr, upr_upr, upr_at, nI_cl, nI_ir, iav, nI_1, nI_mul6, nI_6mul, nI_lt2, nI_eq2, nI_neg, nI_m1, ltv, nI_z, upd_at, upd_off, upr_off, usv, upd_upd]
theorem s142 (d k c : Nat) (M : Mem) (Q : Option Value → Mem → Prop) (hk : k < 6) (hc : M 41 (14 + k) = nI c) (hc4 : c < 4) : Wp (d + 3) 142 0 [.ref 40, .int (nI k)] [] M Q ↔ Q (some (.int (cstF (M 41 (20 + k)) (accF (M 41 (6 + c)) (M 41 (10 + c)) (M 43 48))))) M := by
  simp (disch := first | omega | assumption) only [e142, s143 _ k c _ M _ hk hc hc4, kv, rv, tv, lnv, lv0, clv, clr_i, clr_r, clr_n, clr_l, true_and, and_true, Option.toList_some, Option.toList_none, List.cons_append, List.nil_append, bI_0, bI_1, bI_or, ↓reduceIte, or_true, true_or, eq_self, irv, i0_add, not_true_eq_false, not_false_eq_true, Bool.false_eq_true, and_false, false_and, or_false, false_or, reduceCtorEq, nev, ngv, nc_or, in64, l64v, ite_not, ite_notP, up2_upr, upr_upr, upr_at, nI_cl, nI_ir, iav, nI_1, nI_mul6, nI_6mul, nI_lt2, nI_eq2, nI_neg, nI_m1, ltv, nI_z, upd_at, upd_off, upr_off, usv, upd_upd]
/-! nets -/
def smF (f : Nat → Int32) : Nat → Int32
  | 0 => 0
  | n + 1 => smF f n + f n
theorem l137 (d k : Nat) (M : Mem) (Q : Option Value → Mem → Prop) (hk : k < 6) : ∀ j i, i + j = 6 → (Wp d 137 4 [.ref 40, .int (nI k), .int (smF (fun e => M 43 (12 + 6 * k + e)) i), .int (nI i)] [] M Q ↔ Q (some (.int (smF (fun e => M 43 (12 + 6 * k + e)) 6))) M)
  | 0, i, hi => by
    obtain rfl : i = 6 := hi
    rw [h137_4]
    simp (disch := first | omega | assumption) only [e137, Nat.lt_irrefl, kv, rv, tv, lnv, lv0, clv, clr_i, clr_r, clr_n, clr_l, true_and, and_true, Option.toList_some, Option.toList_none, List.cons_append, List.nil_append, bI_0, bI_1, bI_or, ↓reduceIte, or_true, true_or, eq_self, irv, i0_add, not_true_eq_false, not_false_eq_true, Bool.false_eq_true, and_false, false_and, or_false, false_or, reduceCtorEq, nev, ngv, nc_or, in64, l64v, ite_not, ite_notP, up2_upr, upr_upr, upr_at, nI_cl, nI_ir, iav, nI_1, nI_mul6, nI_6mul, nI_lt2, nI_eq2, nI_neg, nI_m1, ltv, nI_z, upd_at, upd_off, upr_off, usv, upd_upd]
  | j + 1, i, hi => by
    have hlt : i < 6 := by omega
    refine Iff.trans ?_ (l137 d k M Q hk j (i + 1) (by omega))
    rw [h137_4, smF]
    simp (disch := first | omega | assumption) only [e137, hlt, nI_add, kv, rv, tv, lnv, lv0, clv, clr_i, clr_r, clr_n, clr_l, true_and, and_true, Option.toList_some, Option.toList_none, List.cons_append, List.nil_append, bI_0, bI_1, bI_or, ↓reduceIte, or_true, true_or, eq_self, irv, i0_add, not_true_eq_false, not_false_eq_true, Bool.false_eq_true, and_false, false_and, or_false, false_or, reduceCtorEq, nev, ngv, nc_or, in64, l64v, ite_not, ite_notP, up2_upr, upr_upr, upr_at, nI_cl, nI_ir, iav, nI_1, nI_mul6, nI_6mul, nI_lt2, nI_eq2, nI_neg, nI_m1, ltv, nI_z, upd_at, upd_off, upr_off, usv, upd_upd]
theorem s137 (d k : Nat) (M : Mem) (Q : Option Value → Mem → Prop) (hk : k < 6) : Wp d 137 0 [.ref 40, .int (nI k), .null, .null] [] M Q ↔ Q (some (.int (smF (fun e => M 43 (12 + 6 * k + e)) 6))) M := by
  rw [← l137 d k M Q hk 6 0 (by omega)]
  simp only [e137, kv, rv, tv, lnv, lv0, clv, clr_i, clr_r, clr_n, clr_l, true_and, and_true, Option.toList_some, Option.toList_none, List.cons_append, List.nil_append, bI_0, bI_1, bI_or, ↓reduceIte, or_true, true_or, eq_self, irv, i0_add, not_true_eq_false, not_false_eq_true, Bool.false_eq_true, and_false, false_and, or_false, false_or, reduceCtorEq, nev, ngv, nc_or, in64, l64v, ite_not, ite_notP, up2_upr, upr_upr, upr_at]
  rfl
/-- all that is owed, one row after another, less the nets above 0 -/
def clF (f g : Nat → Int32) (i : Nat) : Int32 := smF f i + smF g i
theorem l136b (d k : Nat) (a : Int32) (M : Mem) (Q : Option Value → Mem → Prop) (hk : k < 6) : ∀ j i, i + j = 6 → (Wp (d + 1) 136 12 [.ref 40, .int (a + smF (fun e => mx 0 (M 43 (12 + 6 * k + e))) i), .int (nI k), .int (nI i)] [] M Q ↔ Wp (d + 1) 136 45 [.ref 40, .int (a + smF (fun e => mx 0 (M 43 (12 + 6 * k + e))) 6), .int (nI k), .int (nI 6)] [] M Q)
  | 0, i, hi => by
    obtain rfl : i = 6 := hi
    rw [h136_12]
    simp (disch := first | omega | assumption) only [e136, Nat.lt_irrefl, kv, rv, tv, lnv, lv0, clv, clr_i, clr_r, clr_n, clr_l, true_and, and_true, Option.toList_some, Option.toList_none, List.cons_append, List.nil_append, bI_0, bI_1, bI_or, ↓reduceIte, or_true, true_or, eq_self, irv, i0_add, not_true_eq_false, not_false_eq_true, Bool.false_eq_true, and_false, false_and, or_false, false_or, reduceCtorEq, nev, ngv, nc_or, in64, l64v, ite_not, ite_notP, up2_upr, upr_upr, upr_at, nI_cl, nI_ir, iav, nI_1, nI_mul6, nI_6mul, nI_lt2, nI_eq2, nI_neg, nI_m1, ltv, nI_z, upd_at, upd_off, upr_off, usv, upd_upd]
  | j + 1, i, hi => by
    have hlt : i < 6 := by omega
    refine Iff.trans ?_ (l136b d k a M Q hk j (i + 1) (by omega))
    rw [h136_12, smF]
    simp (disch := first | omega | assumption) only [e136, hlt, nI_add, s134, Int32.add_assoc, kv, rv, tv, lnv, lv0, clv, clr_i, clr_r, clr_n, clr_l, true_and, and_true, Option.toList_some, Option.toList_none, List.cons_append, List.nil_append, bI_0, bI_1, bI_or, ↓reduceIte, or_true, true_or, eq_self, irv, i0_add, not_true_eq_false, not_false_eq_true, Bool.false_eq_true, and_false, false_and, or_false, false_or, reduceCtorEq, nev, ngv, nc_or, in64, l64v, ite_not, ite_notP, up2_upr, upr_upr, upr_at, nI_cl, nI_ir, iav, nI_1, nI_mul6, nI_6mul, nI_lt2, nI_eq2, nI_neg, nI_m1, ltv, nI_z, upd_at, upd_off, upr_off, usv, upd_upd]
def cleF (g : Nat → Int32) : Nat → Int32
  | 0 => 0
  | k + 1 => cleF g k + smF (fun e => mx 0 (g (12 + 6 * k + e))) 6 - mx 0 (smF (fun e => g (12 + 6 * k + e)) 6)
theorem l136 (d : Nat) (M : Mem) (Q : Option Value → Mem → Prop) : ∀ j k x, k + j = 6 → (Wp (d + 1) 136 4 [.ref 40, .int (cleF (M 43) k), .int (nI k), x] [] M Q ↔ Q (some (.int (cleF (M 43) 6))) M)
  | 0, i, x, hi => by
    obtain rfl : i = 6 := hi
    rw [h136_4]
    simp (disch := first | omega | assumption) only [e136, Nat.lt_irrefl, kv, rv, tv, lnv, lv0, clv, clr_i, clr_r, clr_n, clr_l, true_and, and_true, Option.toList_some, Option.toList_none, List.cons_append, List.nil_append, bI_0, bI_1, bI_or, ↓reduceIte, or_true, true_or, eq_self, irv, i0_add, not_true_eq_false, not_false_eq_true, Bool.false_eq_true, and_false, false_and, or_false, false_or, reduceCtorEq, nev, ngv, nc_or, in64, l64v, ite_not, ite_notP, up2_upr, upr_upr, upr_at, nI_cl, nI_ir, iav, nI_1, nI_mul6, nI_6mul, nI_lt2, nI_eq2, nI_neg, nI_m1, ltv, nI_z, upd_at, upd_off, upr_off, usv, upd_upd]
  | j + 1, k, x, hi => by
    have hlt : k < 6 := by omega
    refine Iff.trans ?_ (l136 d M Q j (k + 1) (.int (nI 6)) (by omega))
    have e := l136b d k (cleF (M 43) k) M Q hlt 6 0 (by omega)
    rw [h136_4, cleF]
    simp (disch := first | omega | assumption) only [e136, hlt, s137, s134, kv, rv, tv, lnv, lv0, clv, clr_i, clr_r, clr_n, clr_l, true_and, and_true, Option.toList_some, Option.toList_none, List.cons_append, List.nil_append, bI_0, bI_1, bI_or, ↓reduceIte, or_true, true_or, eq_self, irv, i0_add, not_true_eq_false, not_false_eq_true, Bool.false_eq_true, and_false, false_and, or_false, false_or, reduceCtorEq, nev, ngv, nc_or, in64, l64v, ite_not, ite_notP, up2_upr, upr_upr, upr_at, nI_cl, nI_ir, iav, nI_1, nI_mul6, nI_6mul, nI_lt2, nI_eq2, nI_neg, nI_m1, ltv, nI_z, upd_at, upd_off, upr_off, usv, upd_upd] at e
    simp (disch := first | omega | assumption) only [e136, hlt, kv, rv, tv, lnv, lv0, clv, clr_i, clr_r, clr_n, clr_l, true_and, and_true, Option.toList_some, Option.toList_none, List.cons_append, List.nil_append, bI_0, bI_1, bI_or, ↓reduceIte, or_true, true_or, eq_self, irv, i0_add, not_true_eq_false, not_false_eq_true, Bool.false_eq_true, and_false, false_and, or_false, false_or, reduceCtorEq, nev, ngv, nc_or, in64, l64v, ite_not, ite_notP, up2_upr, upr_upr, upr_at, nI_cl, nI_ir, iav, nI_1, nI_mul6, nI_6mul, nI_lt2, nI_eq2, nI_neg, nI_m1, ltv, nI_z, upd_at, upd_off, upr_off, usv, upd_upd]
    rw [← e]
    show _ ↔ Wp _ _ _ [_, .int (cleF (M 43) k + 0), _, _] _ _ _
    rw [Int32.add_zero]
    rfl
theorem s136 (d : Nat) (M : Mem) (Q : Option Value → Mem → Prop) : Wp (d + 1) 136 0 [.ref 40, .null, .null, .null] [] M Q ↔ Q (some (.int (cleF (M 43) 6))) M := by
  rw [← l136 d M Q 6 0 .null (by omega)]
  simp only [e136, kv, rv, tv, lnv, lv0, clv, clr_i, clr_r, clr_n, clr_l, true_and, and_true, Option.toList_some, Option.toList_none, List.cons_append, List.nil_append, bI_0, bI_1, bI_or, ↓reduceIte, or_true, true_or, eq_self, irv, i0_add, not_true_eq_false, not_false_eq_true, Bool.false_eq_true, and_false, false_and, or_false, false_or, reduceCtorEq, nev, ngv, nc_or, in64, l64v, ite_not, ite_notP, up2_upr, upr_upr, upr_at]
  rfl
theorem s112i (d : Nat) (x : Int32) (lo hi : Int64) (M : Mem) (Q : Option Value → Mem → Prop) : Wp d 112 0 [.long x.toInt64, .null, .long lo, .null, .long hi, .null] [] M Q ↔ Q (some (.int (bI (rg x lo.toInt hi.toInt)))) M := by
  rw [s112]
  simp only [kv, rv, tv, lnv, lv0, clv, clr_i, clr_r, clr_n, clr_l, true_and, and_true, Option.toList_some, Option.toList_none, List.cons_append, List.nil_append, bI_0, bI_1, bI_or, ↓reduceIte, or_true, true_or, eq_self, irv, i0_add, not_true_eq_false, not_false_eq_true, Bool.false_eq_true, and_false, false_and, or_false, false_or, reduceCtorEq, nev, ngv, nc_or, in64, l64v, ite_not, ite_notP, up2_upr, upr_upr, upr_at]
theorem n1_toInt {n : Nat} (h : n ≤ 6) : ((nI n - 1).toInt64).toInt = (n : Int) - 1 := by
  rw [Int32.toInt_toInt64]
  exact pk_sub_toInt (a := n) (b := 1) (by omega) (by decide)
theorem s141 (d n : Nat) (x : Int32) (M : Mem) (Q : Option Value → Mem → Prop) (hn : n ≤ 6) (h4 : M 41 4 = nI n) : Wp (d + 1) 141 0 [.ref 40, .int x] [] M Q ↔ Q (some (.int (bI (rg x 0 (n - 1))))) M := by
  simp only [e141, s112i, h4, n1_toInt hn, kv, rv, tv, lnv, lv0, clv, clr_i, clr_r, clr_n, clr_l, true_and, and_true, Option.toList_some, Option.toList_none, List.cons_append, List.nil_append, bI_0, bI_1, bI_or, ↓reduceIte, or_true, true_or, eq_self, irv, i0_add, not_true_eq_false, not_false_eq_true, Bool.false_eq_true, and_false, false_and, or_false, false_or, reduceCtorEq, nev, ngv, nc_or, in64, l64v, ite_not, ite_notP, up2_upr, upr_upr, upr_at]
theorem s147 (d : Nat) (x : Int32) (M : Mem) (Q : Option Value → Mem → Prop) : Wp (d + 1) 147 0 [.ref 40, .int x] [] M Q ↔ Q (some (.int (if rg x 1 60 then (if M 41 1 = 0 then -1000000003 else if 9000 < M 43 48 then -1000000004 else 0) else -1000000002))) M := by
  simp only [e147, s112i, iteQ, kv, rv, tv, lnv, lv0, clv, clr_i, clr_r, clr_n, clr_l, true_and, and_true, Option.toList_some, Option.toList_none, List.cons_append, List.nil_append, bI_0, bI_1, bI_or, ↓reduceIte, or_true, true_or, eq_self, irv, i0_add, not_true_eq_false, not_false_eq_true, Bool.false_eq_true, and_false, false_and, or_false, false_or, reduceCtorEq, nev, ngv, nc_or, in64, l64v, ite_not, ite_notP, up2_upr, upr_upr, upr_at]
/-- rows copied -/
theorem l123 (d ks kt i j n : Nat) (M0 : Mem) (Q : Option Value → Mem → Prop) (hs : isR ks = true) (ht : isK kt 13 = true) (hne : ks ≠ kt) (hi : i + n ≤ lnm M0 ks) (hj : j + n ≤ ln0 kt) (hsm : lnm M0 ks < 5000 ∧ ln0 kt < 5000) (hl : ∀ f, lnm (upr M0 kt f) ks = lnm M0 ks) (ht3 : kt ≠ 63) : ∀ b a, a + b = n → (Wp d 123 3 [.ref ks, .int (nI i), .ref kt, .int (nI j), .int (nI n), .int (nI a)] [] (upr M0 kt (va_cpy (M0 ks) (M0 kt) i j a)) Q ↔ Q none (upr M0 kt (va_cpy (M0 ks) (M0 kt) i j n)))
  | 0, a, ha => by
    obtain rfl : a = n := ha
    rw [h123_3]
    simp (disch := first | omega | assumption) only [e123, Nat.lt_irrefl, kv, rv, tv, lnv, lv0, clv, clr_i, clr_r, clr_n, clr_l, true_and, and_true, Option.toList_some, Option.toList_none, List.cons_append, List.nil_append, bI_0, bI_1, bI_or, ↓reduceIte, or_true, true_or, eq_self, irv, i0_add, not_true_eq_false, not_false_eq_true, Bool.false_eq_true, and_false, false_and, or_false, false_or, reduceCtorEq, nev, ngv, nc_or, in64, l64v, ite_not, ite_notP, up2_upr, upr_upr, upr_at, nI_cl, nI_ir, iav, nI_1, nI_mul6, nI_6mul, nI_lt2, nI_eq2, nI_neg, nI_m1, ltv, nI_z, upd_at, upd_off, upr_off, usv, upd_upd]
  | b + 1, a, ha => by
    have hlt : a < n := by omega
    refine Iff.trans ?_ (l123 d ks kt i j n M0 Q hs ht hne hi hj hsm hl ht3 b (a + 1) (by omega))
    have e1 : ∀ f, lnm (upr M0 kt f) kt = ln0 kt := fun f => by unfold lnm; rw [if_neg ht3]
    have e2 : ∀ f, upr M0 kt f ks = M0 ks := fun f => upr_ne hne
    have e3 : upd (va_cpy (M0 ks) (M0 kt) i j a) (j + a) (M0 ks (i + a)) = va_cpy (M0 ks) (M0 kt) i j (a + 1) := by
      funext q
      unfold upd va_cpy
      by_cases h1 : q = j + a
      · subst h1
        rw [if_pos rfl, if_pos (by omega)]
        congr 1
        omega
      · rw [if_neg h1]
        by_cases h2 : j ≤ q ∧ q < j + a
        · rw [if_pos h2, if_pos (by omega)]
        · rw [if_neg h2, if_neg (by omega)]
    rw [h123_3]
    simp (disch := first | omega | assumption) only [e123, hlt, nI_add, hs, ht, e1, e2, hl, e3, kv, rv, tv, lnv, lv0, clv, clr_i, clr_r, clr_n, clr_l, true_and, and_true, Option.toList_some, Option.toList_none, List.cons_append, List.nil_append, bI_0, bI_1, bI_or, ↓reduceIte, or_true, true_or, eq_self, irv, i0_add, not_true_eq_false, not_false_eq_true, Bool.false_eq_true, and_false, false_and, or_false, false_or, reduceCtorEq, nev, ngv, nc_or, in64, l64v, ite_not, ite_notP, up2_upr, upr_upr, upr_at, nI_cl, nI_ir, iav, nI_1, nI_mul6, nI_6mul, nI_lt2, nI_eq2, nI_neg, nI_m1, ltv, nI_z, upd_at, upd_off, upr_off, usv, upd_upd]
theorem cpy0 {f g : Nat → Int32} {i j : Nat} : va_cpy f g i j 0 = g := by
  funext q
  unfold va_cpy
  rw [if_neg (by omega)]
theorem s123 (d ks kt i j n : Nat) (M : Mem) (Q : Option Value → Mem → Prop) (hs : isR ks = true) (ht : isK kt 13 = true) (hne : ks ≠ kt) (hi : i + n ≤ lnm M ks) (hj : j + n ≤ ln0 kt) (hsm : lnm M ks < 5000 ∧ ln0 kt < 5000) (hl : ∀ f, lnm (upr M kt f) ks = lnm M ks) (ht3 : kt ≠ 63) : Wp d 123 0 [.ref ks, .int (nI i), .ref kt, .int (nI j), .int (nI n), .null] [] M Q ↔ Q none (upr M kt (va_cpy (M ks) (M kt) i j n)) := by
  rw [← l123 d ks kt i j n M Q hs ht hne hi hj hsm hl ht3 n 0 (by omega), cpy0, upr_id]
  simp only [e123, kv, rv, tv, lnv, lv0, clv, clr_i, clr_r, clr_n, clr_l, true_and, and_true, Option.toList_some, Option.toList_none, List.cons_append, List.nil_append, bI_0, bI_1, bI_or, ↓reduceIte, or_true, true_or, eq_self, irv, i0_add, not_true_eq_false, not_false_eq_true, Bool.false_eq_true, and_false, false_and, or_false, false_or, reduceCtorEq, nev, ngv, nc_or, in64, l64v, ite_not, ite_notP, up2_upr, upr_upr, upr_at]
  rfl
