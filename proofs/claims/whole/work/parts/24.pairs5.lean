/-! part 24: hats -/
theorem mxN {a b : Nat} (ha : a < 2147483648) (hb : b < 2147483648) : mx (nI a) (nI b) = nI (max a b) := by
  unfold mx
  by_cases h : a < b
  · rw [if_pos ((nI_lt2 ha hb).mpr h), Nat.max_eq_right (by omega)]
  · rw [if_neg (fun z => h ((nI_lt2 ha hb).mp z)), Nat.max_eq_left (by omega)]
theorem mnN {a b : Nat} (ha : a < 2147483648) (hb : b < 2147483648) : mn (nI a) (nI b) = nI (min a b) := by
  unfold mn
  by_cases h : b < a
  · rw [if_pos ((nI_lt2 hb ha).mpr h), Nat.min_eq_right (by omega)]
  · rw [if_neg (fun z => h ((nI_lt2 hb ha).mp z)), Nat.min_eq_left (by omega)]
def soB (a : Nat → Int32) (x : Int32) : Nat → Bool
  | 0 => true
  | k + 1 => soB a x k && decide (a (2 * k) < x ↔ a (2 * k + 1) = 1)
theorem soB_iff (a : Nat → Int32) (x : Int32) : ∀ c, soB a x c = true ↔ ∀ k, k < c → (a (2 * k) < x ↔ a (2 * k + 1) = 1)
  | 0 => ⟨fun _ k hk => absurd hk (by omega), fun _ => rfl⟩
  | c + 1 => by
    rw [soB, Bool.and_eq_true, soB_iff a x c, decide_eq_true_iff]
    constructor
    · intro h k hk
      by_cases e : k = c
      · rw [e]; exact h.2
      · exact h.1 k (by omega)
    · intro h
      exact ⟨fun k hk => h k (by omega), h c (by omega)⟩
theorem z01 : ((0 : Int32) = 1 ↔ False) ∧ ((1 : Int32) = 0 ↔ False) := ⟨⟨fun h => absurd h (by decide), False.elim⟩, ⟨fun h => absurd h (by decide), False.elim⟩⟩
theorem l186 (d c : Nat) (x : Int32) (M : Mem) (Q : Option Value → Mem → Prop) (hc : c ≤ 6) (h2 : M 40 13 = nI c) : ∀ j i, i + j = c → (Wp d 186 4 [.ref 40, .int x, .int (bI (soB (M 49) x i = true)), .int (nI i)] [] M Q ↔ Q (some (.int (bI (soB (M 49) x c = true)))) M)
  | 0, i, hi => by
    obtain rfl : i = c := hi
    rw [h186_4]
    simp (maxSteps := 400000) (disch := first | omega | assumption) only [e186, h2, Nat.lt_irrefl, kv, rv, tv, lnv, lv0, clv, clr_i, clr_r, clr_n, clr_l, true_and, and_true, Option.toList_some, Option.toList_none, List.cons_append, List.nil_append, bI_0, bI_1, bI_or, ↓reduceIte, or_true, true_or, eq_self, irv, i0_add, not_true_eq_false, not_false_eq_true, Bool.false_eq_true, and_false, false_and, or_false, false_or, reduceCtorEq, nev, ngv, nc_or, in64, l64v, ite_not, ite_notP, up2_upr, upr_upr, upr_at, nI_cl, nI_ir, iav, nI_1, nI_mul6, nI_6mul, nI_lt2, nI_eq2, nI_neg, nI_m1, ltv, nI_z, upd_at, upd_off, upr_off, usv, upd_upd]
  | j + 1, i, hi => by
    have hlt : i < c := by omega
    have e2 : 2 * nI i = nI (2 * i) := pk_mul 2 i
    refine Iff.trans ?_ (l186 d c x M Q hc h2 j (i + 1) (by omega))
    rw [h186_4, soB]
    by_cases h1 : soB (M 49) x i = true
    · by_cases h3 : M 49 (2 * i) < x
      · by_cases h4 : M 49 (2 * i + 1) = 1
        · have hd : (M 49 (2 * i) < x ↔ M 49 (2 * i + 1) = 1) := ⟨fun _ => h4, fun _ => h3⟩
          rw [decide_eq_true hd]
          simp (maxSteps := 400000) (disch := first | omega | assumption) only [e186, h2, hlt, e2, h1, h3, h4, bI_T, bI_F, z01, Bool.and_true, Bool.and_false, kv, rv, tv, lnv, lv0, clv, clr_i, clr_r, clr_n, clr_l, true_and, and_true, Option.toList_some, Option.toList_none, List.cons_append, List.nil_append, bI_0, bI_1, bI_or, ↓reduceIte, or_true, true_or, eq_self, irv, i0_add, not_true_eq_false, not_false_eq_true, Bool.false_eq_true, and_false, false_and, or_false, false_or, reduceCtorEq, nev, ngv, nc_or, in64, l64v, ite_not, ite_notP, up2_upr, upr_upr, upr_at, nI_cl, nI_ir, iav, nI_1, nI_mul6, nI_6mul, nI_lt2, nI_eq2, nI_neg, nI_m1, ltv, nI_z, upd_at, upd_off, upr_off, usv, upd_upd]
        · have hd : ¬ (M 49 (2 * i) < x ↔ M 49 (2 * i + 1) = 1) := fun z => h4 (z.mp h3)
          rw [decide_eq_false hd]
          simp (maxSteps := 400000) (disch := first | omega | assumption) only [e186, h2, hlt, e2, h1, h3, iff_false_intro h4, bI_T, bI_F, z01, Bool.and_true, Bool.and_false, kv, rv, tv, lnv, lv0, clv, clr_i, clr_r, clr_n, clr_l, true_and, and_true, Option.toList_some, Option.toList_none, List.cons_append, List.nil_append, bI_0, bI_1, bI_or, ↓reduceIte, or_true, true_or, eq_self, irv, i0_add, not_true_eq_false, not_false_eq_true, Bool.false_eq_true, and_false, false_and, or_false, false_or, reduceCtorEq, nev, ngv, nc_or, in64, l64v, ite_not, ite_notP, up2_upr, upr_upr, upr_at, nI_cl, nI_ir, iav, nI_1, nI_mul6, nI_6mul, nI_lt2, nI_eq2, nI_neg, nI_m1, ltv, nI_z, upd_at, upd_off, upr_off, usv, upd_upd]
      · by_cases h4 : M 49 (2 * i + 1) = 1
        · have hd : ¬ (M 49 (2 * i) < x ↔ M 49 (2 * i + 1) = 1) := fun z => h3 (z.mpr h4)
          rw [decide_eq_false hd]
          simp (maxSteps := 400000) (disch := first | omega | assumption) only [e186, h2, hlt, e2, h1, iff_false_intro h3, h4, bI_T, bI_F, z01, Bool.and_true, Bool.and_false, kv, rv, tv, lnv, lv0, clv, clr_i, clr_r, clr_n, clr_l, true_and, and_true, Option.toList_some, Option.toList_none, List.cons_append, List.nil_append, bI_0, bI_1, bI_or, ↓reduceIte, or_true, true_or, eq_self, irv, i0_add, not_true_eq_false, not_false_eq_true, Bool.false_eq_true, and_false, false_and, or_false, false_or, reduceCtorEq, nev, ngv, nc_or, in64, l64v, ite_not, ite_notP, up2_upr, upr_upr, upr_at, nI_cl, nI_ir, iav, nI_1, nI_mul6, nI_6mul, nI_lt2, nI_eq2, nI_neg, nI_m1, ltv, nI_z, upd_at, upd_off, upr_off, usv, upd_upd]
        · have hd : (M 49 (2 * i) < x ↔ M 49 (2 * i + 1) = 1) := ⟨fun z => absurd z h3, fun z => absurd z h4⟩
          rw [decide_eq_true hd]
          simp (maxSteps := 400000) (disch := first | omega | assumption) only [e186, h2, hlt, e2, h1, iff_false_intro h3, iff_false_intro h4, bI_T, bI_F, z01, Bool.and_true, Bool.and_false, kv, rv, tv, lnv, lv0, clv, clr_i, clr_r, clr_n, clr_l, true_and, and_true, Option.toList_some, Option.toList_none, List.cons_append, List.nil_append, bI_0, bI_1, bI_or, ↓reduceIte, or_true, true_or, eq_self, irv, i0_add, not_true_eq_false, not_false_eq_true, Bool.false_eq_true, and_false, false_and, or_false, false_or, reduceCtorEq, nev, ngv, nc_or, in64, l64v, ite_not, ite_notP, up2_upr, upr_upr, upr_at, nI_cl, nI_ir, iav, nI_1, nI_mul6, nI_6mul, nI_lt2, nI_eq2, nI_neg, nI_m1, ltv, nI_z, upd_at, upd_off, upr_off, usv, upd_upd]
    · have h1' : soB (M 49) x i = false := by simpa using h1
      simp (maxSteps := 400000) (disch := first | omega | assumption) only [e186, h2, hlt, e2, h1', bI_T, bI_F, z01, Bool.false_and, kv, rv, tv, lnv, lv0, clv, clr_i, clr_r, clr_n, clr_l, true_and, and_true, Option.toList_some, Option.toList_none, List.cons_append, List.nil_append, bI_0, bI_1, bI_or, ↓reduceIte, or_true, true_or, eq_self, irv, i0_add, not_true_eq_false, not_false_eq_true, Bool.false_eq_true, and_false, false_and, or_false, false_or, reduceCtorEq, nev, ngv, nc_or, in64, l64v, ite_not, ite_notP, up2_upr, upr_upr, upr_at, nI_cl, nI_ir, iav, nI_1, nI_mul6, nI_6mul, nI_lt2, nI_eq2, nI_neg, nI_m1, ltv, nI_z, upd_at, upd_off, upr_off, usv, upd_upd]
/-- what the rows of hats say -/
def HT (M : Mem) (c lo hi : Nat) : Prop := c ≤ 6 ∧ lo ≤ 61 ∧ hi ≤ 60 ∧ M 40 13 = nI c ∧ ∀ x, x ≤ 60 → (soB (M 49) (nI x) c = true ↔ lo ≤ x ∧ x ≤ hi)
theorem s186 (d c lo hi x : Nat) (M : Mem) (Q : Option Value → Mem → Prop) (hH : HT M c lo hi) (hx : x ≤ 60) : Wp d 186 0 [.ref 40, .int (nI x), .null, .null] [] M Q ↔ Q (some (.int (bI (lo ≤ x ∧ x ≤ hi)))) M := by
  obtain ⟨hc, -, -, h2, hs⟩ := hH
  have e : bI (soB (M 49) (nI x) c = true) = bI (lo ≤ x ∧ x ≤ hi) := by
    unfold bI
    by_cases h : lo ≤ x ∧ x ≤ hi
    · rw [if_pos h, if_pos ((hs x hx).mpr h)]
    · rw [if_neg h, if_neg (fun z => h ((hs x hx).mp z))]
  rw [← e, ← l186 d c (nI x) M Q hc h2 c 0 (by omega)]
  simp (maxSteps := 400000) only [e186, kv, rv, tv, lnv, lv0, clv, clr_i, clr_r, clr_n, clr_l, true_and, and_true, Option.toList_some, Option.toList_none, List.cons_append, List.nil_append, bI_0, bI_1, bI_or, ↓reduceIte, or_true, true_or, eq_self, irv, i0_add, not_true_eq_false, not_false_eq_true, Bool.false_eq_true, and_false, false_and, or_false, false_or, reduceCtorEq, nev, ngv, nc_or, in64, l64v, ite_not, ite_notP, up2_upr, upr_upr, upr_at]
  rfl
def cntN (lo hi : Nat) : Nat → Nat → Nat
  | 0, _ => 0
  | j + 1, i => (if lo ≤ i ∧ i ≤ hi then 1 else 0) + cntN lo hi j (i + 1)
theorem cntN_eq (lo hi : Nat) : ∀ j i, cntN lo hi j i = min (hi + 1) (i + j) - max lo i
  | 0, i => by rw [cntN]; omega
  | j + 1, i => by
    rw [cntN, cntN_eq lo hi j (i + 1)]
    split <;> omega
theorem l187 (d c lo hi : Nat) (l : Int32) (M : Mem) (Q : Option Value → Mem → Prop) (hH : HT M c lo hi) : ∀ j i v, i + j = 61 → v ≤ i → (Wp (d + 1) 187 6 [.ref 40, .int l, .int (nI v), .int (nI i)] [] M Q ↔ Q (some (.int (nI (v + cntN lo hi j i)))) M)
  | 0, i, v, hij, hv => by
    obtain rfl : i = 61 := hij
    rw [h187_6, cntN]
    have e : nI 61 < 61 ↔ False := ⟨fun h => absurd h (by decide), False.elim⟩
    simp (maxSteps := 400000) (disch := first | omega | assumption) only [e187, e, Nat.add_zero, kv, rv, tv, lnv, lv0, clv, clr_i, clr_r, clr_n, clr_l, true_and, and_true, Option.toList_some, Option.toList_none, List.cons_append, List.nil_append, bI_0, bI_1, bI_or, ↓reduceIte, or_true, true_or, eq_self, irv, i0_add, not_true_eq_false, not_false_eq_true, Bool.false_eq_true, and_false, false_and, or_false, false_or, reduceCtorEq, nev, ngv, nc_or, in64, l64v, ite_not, ite_notP, up2_upr, upr_upr, upr_at, nI_cl, nI_ir, iav, nI_1, nI_mul6, nI_6mul, nI_lt2, nI_eq2, nI_neg, nI_m1, ltv, nI_z, upd_at, upd_off, upr_off, usv, upd_upd]
  | j + 1, i, v, hij, hv => by
    have e : nI i < 61 ↔ True := iff_true_intro ((nI_lt2 (by omega) (by omega : 61 < 2147483648)).mpr (by omega))
    rw [h187_6, cntN, ← Nat.add_assoc]
    by_cases h : lo ≤ i ∧ i ≤ hi
    · rw [if_pos h]
      refine Iff.trans ?_ (l187 d c lo hi l M Q hH j (i + 1) (v + 1) (by omega) (by omega))
      simp (maxSteps := 400000) (disch := first | omega | assumption) only [e187, e, s186 _ c lo _ i M _ hH (by omega), h, bI_T, z01, kv, rv, tv, lnv, lv0, clv, clr_i, clr_r, clr_n, clr_l, true_and, and_true, Option.toList_some, Option.toList_none, List.cons_append, List.nil_append, bI_0, bI_1, bI_or, ↓reduceIte, or_true, true_or, eq_self, irv, i0_add, not_true_eq_false, not_false_eq_true, Bool.false_eq_true, and_false, false_and, or_false, false_or, reduceCtorEq, nev, ngv, nc_or, in64, l64v, ite_not, ite_notP, up2_upr, upr_upr, upr_at, nI_cl, nI_ir, iav, nI_1, nI_mul6, nI_6mul, nI_lt2, nI_eq2, nI_neg, nI_m1, ltv, nI_z, upd_at, upd_off, upr_off, usv, upd_upd]
    · rw [if_neg h]
      refine Iff.trans ?_ (l187 d c lo hi l M Q hH j (i + 1) (v + 0) (by omega) (by omega))
      simp (maxSteps := 400000) (disch := first | omega | assumption) only [e187, e, s186 _ c lo _ i M _ hH (by omega), iff_false_intro h, bI_F, z01, Nat.add_zero, Int32.add_zero, kv, rv, tv, lnv, lv0, clv, clr_i, clr_r, clr_n, clr_l, true_and, and_true, Option.toList_some, Option.toList_none, List.cons_append, List.nil_append, bI_0, bI_1, bI_or, ↓reduceIte, or_true, true_or, eq_self, irv, i0_add, not_true_eq_false, not_false_eq_true, Bool.false_eq_true, and_false, false_and, or_false, false_or, reduceCtorEq, nev, ngv, nc_or, in64, l64v, ite_not, ite_notP, up2_upr, upr_upr, upr_at, nI_cl, nI_ir, iav, nI_1, nI_mul6, nI_6mul, nI_lt2, nI_eq2, nI_neg, nI_m1, ltv, nI_z, upd_at, upd_off, upr_off, usv, upd_upd]
theorem s187 (d c lo hi s : Nat) (l : Int32) (M : Mem) (Q : Option Value → Mem → Prop) (hH : HT M c lo hi) (hs : s ≤ 61) (hl : l + 1 = nI s) : Wp (d + 1) 187 0 [.ref 40, .int l, .null, .null] [] M Q ↔ Q (some (.int (nI (hi + 1 - max lo s)))) M := by
  have e : hi + 1 - max lo s = 0 + cntN lo hi (61 - s) s := by
    rw [cntN_eq]
    have := hH.2.2.1
    omega
  rw [e, ← l187 d c lo hi l M Q hH (61 - s) s 0 (by omega) (by omega)]
  simp (maxSteps := 400000) only [e187, hl, kv, rv, tv, lnv, lv0, clv, clr_i, clr_r, clr_n, clr_l, true_and, and_true, Option.toList_some, Option.toList_none, List.cons_append, List.nil_append, bI_0, bI_1, bI_or, ↓reduceIte, or_true, true_or, eq_self, irv, i0_add, not_true_eq_false, not_false_eq_true, Bool.false_eq_true, and_false, false_and, or_false, false_or, reduceCtorEq, nev, ngv, nc_or, in64, l64v, ite_not, ite_notP, up2_upr, upr_upr, upr_at]
  rfl
def lsI (lo hi i : Nat) : Int32 := if lo < i ∧ lo ≤ hi then nI lo else -1
def grI (lo hi i : Nat) : Int32 := if lo < i ∧ lo ≤ hi then nI (min hi (i - 1)) else -1
theorem l185 (d c lo hi : Nat) (x : Int32) (M : Mem) (Q : Option Value → Mem → Prop) (hH : HT M c lo hi) : ∀ j i, i + j = 61 → (Wp (d + 1) 185 22 [.ref 40, .int x, .int (lsI lo hi i), .int (grI lo hi i), .int (nI i)] [] M Q ↔ Wp (d + 1) 185 72 [.ref 40, .int x, .int (lsI lo hi 61), .int (grI lo hi 61), .int (nI 61)] [] M Q)
  | 0, i, hij => by
    obtain rfl : i = 61 := hij
    rw [h185_22]
    have e : nI 61 < 61 ↔ False := ⟨fun h => absurd h (by decide), False.elim⟩
    simp (maxSteps := 400000) (disch := first | omega | assumption) only [e185, e, kv, rv, tv, lnv, lv0, clv, clr_i, clr_r, clr_n, clr_l, true_and, and_true, Option.toList_some, Option.toList_none, List.cons_append, List.nil_append, bI_0, bI_1, bI_or, ↓reduceIte, or_true, true_or, eq_self, irv, i0_add, not_true_eq_false, not_false_eq_true, Bool.false_eq_true, and_false, false_and, or_false, false_or, reduceCtorEq, nev, ngv, nc_or, in64, l64v, ite_not, ite_notP, up2_upr, upr_upr, upr_at, nI_cl, nI_ir, iav, nI_1, nI_mul6, nI_6mul, nI_lt2, nI_eq2, nI_neg, nI_m1, ltv, nI_z, upd_at, upd_off, upr_off, usv, upd_upd]
  | j + 1, i, hij => by
    have hlo := hH.2.1
    have hhi := hH.2.2.1
    have e : nI i < 61 ↔ True := iff_true_intro ((nI_lt2 (by omega) (by omega : 61 < 2147483648)).mpr (by omega))
    refine Iff.trans ?_ (l185 d c lo hi x M Q hH j (i + 1) (by omega))
    rw [h185_22]
    have es := fun d Q => s186 d c lo hi i M Q hH (by omega)
    unfold lsI grI
    by_cases h : lo ≤ i ∧ i ≤ hi
    · by_cases h2 : lo < i
      · rw [if_pos (show lo < i ∧ lo ≤ hi by omega), if_pos (show lo < i ∧ lo ≤ hi by omega), if_pos (show lo < i + 1 ∧ lo ≤ hi by omega), if_pos (show lo < i + 1 ∧ lo ≤ hi by omega), show min hi (i + 1 - 1) = i by omega]
        simp (maxSteps := 400000) (disch := first | omega | assumption) only [e185, e, es, h, bI_T, z01, kv, rv, tv, lnv, lv0, clv, clr_i, clr_r, clr_n, clr_l, true_and, and_true, Option.toList_some, Option.toList_none, List.cons_append, List.nil_append, bI_0, bI_1, bI_or, ↓reduceIte, or_true, true_or, eq_self, irv, i0_add, not_true_eq_false, not_false_eq_true, Bool.false_eq_true, and_false, false_and, or_false, false_or, reduceCtorEq, nev, ngv, nc_or, in64, l64v, ite_not, ite_notP, up2_upr, upr_upr, upr_at, nI_cl, nI_ir, iav, nI_1, nI_mul6, nI_6mul, nI_lt2, nI_eq2, nI_neg, nI_m1, ltv, nI_z, upd_at, upd_off, upr_off, usv, upd_upd]
      · rw [if_neg (show ¬ (lo < i ∧ lo ≤ hi) by omega), if_neg (show ¬ (lo < i ∧ lo ≤ hi) by omega), if_pos (show lo < i + 1 ∧ lo ≤ hi by omega), if_pos (show lo < i + 1 ∧ lo ≤ hi by omega), show min hi (i + 1 - 1) = i by omega, show lo = i by omega]
        simp (maxSteps := 400000) (disch := first | omega | assumption) only [e185, e, es, h, bI_T, z01, kv, rv, tv, lnv, lv0, clv, clr_i, clr_r, clr_n, clr_l, true_and, and_true, Option.toList_some, Option.toList_none, List.cons_append, List.nil_append, bI_0, bI_1, bI_or, ↓reduceIte, or_true, true_or, eq_self, irv, i0_add, not_true_eq_false, not_false_eq_true, Bool.false_eq_true, and_false, false_and, or_false, false_or, reduceCtorEq, nev, ngv, nc_or, in64, l64v, ite_not, ite_notP, up2_upr, upr_upr, upr_at, nI_cl, nI_ir, iav, nI_1, nI_mul6, nI_6mul, nI_lt2, nI_eq2, nI_neg, nI_m1, ltv, nI_z, upd_at, upd_off, upr_off, usv, upd_upd]
    · by_cases h2 : lo < i ∧ lo ≤ hi
      · rw [if_pos h2, if_pos h2, if_pos (show lo < i + 1 ∧ lo ≤ hi by omega), if_pos (show lo < i + 1 ∧ lo ≤ hi by omega), show min hi (i + 1 - 1) = min hi (i - 1) by omega]
        simp (maxSteps := 400000) (disch := first | omega | assumption) only [e185, e, es, iff_false_intro h, bI_F, z01, kv, rv, tv, lnv, lv0, clv, clr_i, clr_r, clr_n, clr_l, true_and, and_true, Option.toList_some, Option.toList_none, List.cons_append, List.nil_append, bI_0, bI_1, bI_or, ↓reduceIte, or_true, true_or, eq_self, irv, i0_add, not_true_eq_false, not_false_eq_true, Bool.false_eq_true, and_false, false_and, or_false, false_or, reduceCtorEq, nev, ngv, nc_or, in64, l64v, ite_not, ite_notP, up2_upr, upr_upr, upr_at, nI_cl, nI_ir, iav, nI_1, nI_mul6, nI_6mul, nI_lt2, nI_eq2, nI_neg, nI_m1, ltv, nI_z, upd_at, upd_off, upr_off, usv, upd_upd]
      · rw [if_neg h2, if_neg h2, if_neg (show ¬ (lo < i + 1 ∧ lo ≤ hi) by omega), if_neg (show ¬ (lo < i + 1 ∧ lo ≤ hi) by omega)]
        simp (maxSteps := 400000) (disch := first | omega | assumption) only [e185, e, es, iff_false_intro h, bI_F, z01, kv, rv, tv, lnv, lv0, clv, clr_i, clr_r, clr_n, clr_l, true_and, and_true, Option.toList_some, Option.toList_none, List.cons_append, List.nil_append, bI_0, bI_1, bI_or, ↓reduceIte, or_true, true_or, eq_self, irv, i0_add, not_true_eq_false, not_false_eq_true, Bool.false_eq_true, and_false, false_and, or_false, false_or, reduceCtorEq, nev, ngv, nc_or, in64, l64v, ite_not, ite_notP, up2_upr, upr_upr, upr_at, nI_cl, nI_ir, iav, nI_1, nI_mul6, nI_6mul, nI_lt2, nI_eq2, nI_neg, nI_m1, ltv, nI_z, upd_at, upd_off, upr_off, usv, upd_upd]
theorem ht_of {M : Mem} {c lo hi : Nat} (hc : c ≤ 6) (hlo : lo ≤ 61) (hhi : hi ≤ 60) (h2 : M 40 13 = nI c) (h : ∀ x, x ≤ 60 → ((∀ k, k < c → (M 49 (2 * k) < nI x ↔ M 49 (2 * k + 1) = 1)) ↔ lo ≤ x ∧ x ≤ hi)) : HT M c lo hi := ⟨hc, hlo, hhi, h2, fun x hx => (soB_iff _ _ _).trans (h x hx)⟩
theorem fit_eq : ∀ lo, lo ≤ 61 → ∀ hi, hi ≤ 60 → mx 0 (nI hi - nI lo + 1) = nI (hi + 1 - lo) := by decide +kernel
theorem pair_over (d : Nat) (x : Int32) (M : Mem) (hI : Inv M) : PairOK (d + 3) 102 185 [.ref 0, .int x] [.ref 40, .int x, .null, .null, .null] M := by
  intro K hK
  obtain ⟨n, nc, np, B, -, -, -, -, -, -, ⟨c, lo, hi, hc, hlo, hhi, k0, k13, k1, k2, -, hh⟩, -⟩ := id hI
  have hH := ht_of hc hlo hhi k13 hh
  have e19 : ∀ d Q, Wp (d + 1) 19 0 [.ref 36] [] M Q ↔ Q (some (.int (nI (hi + 1 - lo)))) M := fun d Q => by rw [s19, k1, k2, fit_eq lo hlo hi hhi]
  have el : ∀ d x Q, Wp (d + 1) 185 22 [.ref 40, .int x, .int (-1), .int (-1), .int 0] [] M Q ↔ Wp (d + 1) 185 72 [.ref 40, .int x, .int (lsI lo hi 61), .int (grI lo hi 61), .int (nI 61)] [] M Q := fun d x Q => l185 d c lo hi x M Q hH 61 0 (by omega)
  have e187 := fun d Q => s187 d c lo hi 0 (-1) M Q hH (by omega) (by decide)
  by_cases hx : rg x 0 2
  · have h3 : x = 0 ∨ x = 1 ∨ x = 2 := by
      obtain ⟨j, hj, rfl⟩ := rg_nI (n := 2) hx
      have : j = 0 ∨ j = 1 ∨ j = 2 := by omega
      rcases this with rfl | rfl | rfl
      · exact Or.inl rfl
      · exact Or.inr (Or.inl rfl)
      · exact Or.inr (Or.inr rfl)
    have z2 : ((2 : Int32) = 0 ↔ False) ∧ ((2 : Int32) = 1 ↔ False) := ⟨⟨fun h => absurd h (by decide), False.elim⟩, ⟨fun h => absurd h (by decide), False.elim⟩⟩
    rcases h3 with rfl | rfl | rfl
    · simp (maxSteps := 400000) (disch := first | omega | assumption) only [e102, e185, s112i, rg_cls, rg_ite, i32v, iff_true_intro hx, e19, el, e187, Nat.max_zero, kv, rv, tv, lnv, lv0, clv, clr_i, clr_r, clr_n, clr_l, true_and, and_true, Option.toList_some, Option.toList_none, List.cons_append, List.nil_append, bI_0, bI_1, bI_or, ↓reduceIte, or_true, true_or, eq_self, irv, i0_add, not_true_eq_false, not_false_eq_true, Bool.false_eq_true, and_false, false_and, or_false, false_or, reduceCtorEq, nev, ngv, nc_or, in64, l64v, ite_not, ite_notP, up2_upr, upr_upr, upr_at, nI_cl, nI_ir, iav, nI_1, nI_mul6, nI_6mul, nI_lt2, nI_eq2, nI_neg, nI_m1, ltv, nI_z, upd_at, upd_off, upr_off, usv, upd_upd]
      exact hK _ _ hI
    · by_cases hz : hi + 1 - lo = 0
      · have e1 : lsI lo hi 61 = -1 := if_neg (by omega)
        simp (maxSteps := 400000) (disch := first | omega | assumption) only [e102, e185, s112i, rg_cls, rg_ite, i32v, iff_true_intro hx, e19, el, e187, z01, hz, e1, kv, rv, tv, lnv, lv0, clv, clr_i, clr_r, clr_n, clr_l, true_and, and_true, Option.toList_some, Option.toList_none, List.cons_append, List.nil_append, bI_0, bI_1, bI_or, ↓reduceIte, or_true, true_or, eq_self, irv, i0_add, not_true_eq_false, not_false_eq_true, Bool.false_eq_true, and_false, false_and, or_false, false_or, reduceCtorEq, nev, ngv, nc_or, in64, l64v, ite_not, ite_notP, up2_upr, upr_upr, upr_at, nI_cl, nI_ir, iav, nI_1, nI_mul6, nI_6mul, nI_lt2, nI_eq2, nI_neg, nI_m1, ltv, nI_z, upd_at, upd_off, upr_off, usv, upd_upd]
        exact hK _ _ hI
      · have e1 : lsI lo hi 61 = nI lo := if_pos (by omega)
        simp (maxSteps := 400000) (disch := first | omega | assumption) only [e102, e185, s112i, rg_cls, rg_ite, i32v, iff_true_intro hx, e19, el, e187, z01, hz, e1, k1, kv, rv, tv, lnv, lv0, clv, clr_i, clr_r, clr_n, clr_l, true_and, and_true, Option.toList_some, Option.toList_none, List.cons_append, List.nil_append, bI_0, bI_1, bI_or, ↓reduceIte, or_true, true_or, eq_self, irv, i0_add, not_true_eq_false, not_false_eq_true, Bool.false_eq_true, and_false, false_and, or_false, false_or, reduceCtorEq, nev, ngv, nc_or, in64, l64v, ite_not, ite_notP, up2_upr, upr_upr, upr_at, nI_cl, nI_ir, iav, nI_1, nI_mul6, nI_6mul, nI_lt2, nI_eq2, nI_neg, nI_m1, ltv, nI_z, upd_at, upd_off, upr_off, usv, upd_upd]
        exact hK _ _ hI
    · by_cases hz : hi + 1 - lo = 0
      · have e1 : grI lo hi 61 = -1 := if_neg (by omega)
        simp (maxSteps := 400000) (disch := first | omega | assumption) only [e102, e185, s112i, rg_cls, rg_ite, i32v, iff_true_intro hx, e19, el, e187, z2, hz, e1, kv, rv, tv, lnv, lv0, clv, clr_i, clr_r, clr_n, clr_l, true_and, and_true, Option.toList_some, Option.toList_none, List.cons_append, List.nil_append, bI_0, bI_1, bI_or, ↓reduceIte, or_true, true_or, eq_self, irv, i0_add, not_true_eq_false, not_false_eq_true, Bool.false_eq_true, and_false, false_and, or_false, false_or, reduceCtorEq, nev, ngv, nc_or, in64, l64v, ite_not, ite_notP, up2_upr, upr_upr, upr_at, nI_cl, nI_ir, iav, nI_1, nI_mul6, nI_6mul, nI_lt2, nI_eq2, nI_neg, nI_m1, ltv, nI_z, upd_at, upd_off, upr_off, usv, upd_upd]
        exact hK _ _ hI
      · have e1 : grI lo hi 61 = nI hi := by
          unfold grI
          rw [if_pos (by omega), show min hi (61 - 1) = hi by omega]
        simp (maxSteps := 400000) (disch := first | omega | assumption) only [e102, e185, s112i, rg_cls, rg_ite, i32v, iff_true_intro hx, e19, el, e187, z2, hz, e1, k2, kv, rv, tv, lnv, lv0, clv, clr_i, clr_r, clr_n, clr_l, true_and, and_true, Option.toList_some, Option.toList_none, List.cons_append, List.nil_append, bI_0, bI_1, bI_or, ↓reduceIte, or_true, true_or, eq_self, irv, i0_add, not_true_eq_false, not_false_eq_true, Bool.false_eq_true, and_false, false_and, or_false, false_or, reduceCtorEq, nev, ngv, nc_or, in64, l64v, ite_not, ite_notP, up2_upr, upr_upr, upr_at, nI_cl, nI_ir, iav, nI_1, nI_mul6, nI_6mul, nI_lt2, nI_eq2, nI_neg, nI_m1, ltv, nI_z, upd_at, upd_off, upr_off, usv, upd_upd]
        exact hK _ _ hI
  · simp (maxSteps := 400000) (disch := first | omega | assumption) only [e102, e185, s112i, rg_cls, rg_ite, i32v, iff_false_intro hx, bI_F, kv, rv, tv, lnv, lv0, clv, clr_i, clr_r, clr_n, clr_l, true_and, and_true, Option.toList_some, Option.toList_none, List.cons_append, List.nil_append, bI_0, bI_1, bI_or, ↓reduceIte, or_true, true_or, eq_self, irv, i0_add, not_true_eq_false, not_false_eq_true, Bool.false_eq_true, and_false, false_and, or_false, false_or, reduceCtorEq, nev, ngv, nc_or, in64, l64v, ite_not, ite_notP, up2_upr, upr_upr, upr_at, nI_cl, nI_ir, iav, nI_1, nI_mul6, nI_6mul, nI_lt2, nI_eq2, nI_neg, nI_m1, ltv, nI_z, upd_at, upd_off, upr_off, usv, upd_upd]
    exact hK _ _ hI
def lkN (lo hi : Nat) : Nat → Nat → Option Nat → Nat → Option Nat
  | 0, _, w, _ => w
  | j + 1, i, w, f => lkN lo hi j (i + 1) (if max (hi + 1 - max lo (i + 1)) (hi + 1 - lo - (hi + 1 - max lo (i + 1))) < f then some i else w) (min (max (hi + 1 - max lo (i + 1)) (hi + 1 - lo - (hi + 1 - max lo (i + 1)))) f)
/-- what the search holds before line i, of n that fit from lo on -/
def lkW (lo n i : Nat) : Option Nat := if n < 2 ∨ i ≤ lo then none else some (min (i - 1) (lo + n / 2 - 1))
def lkV (lo n i : Nat) : Nat := if n < 2 then n else n - min (i - lo) (n / 2)
theorem lk_go (lo hi n : Nat) (hn : n = hi + 1 - lo) : ∀ j i, lkN lo hi j i (lkW lo n i) (lkV lo n i) = lkW lo n (i + j)
  | 0, i => rfl
  | j + 1, i => by
    rw [lkN, ← hn, show i + (j + 1) = i + 1 + j by omega, ← lk_go lo hi n hn j (i + 1)]
    obtain ⟨a, ha⟩ : ∃ a, hi + 1 - max lo (i + 1) = a := ⟨_, rfl⟩
    rw [ha]
    obtain ⟨q, hq⟩ : ∃ q, n / 2 = q := ⟨_, rfl⟩
    by_cases h2 : n < 2
    · have w1 : ∀ k, lkW lo n k = none := fun k => if_pos (Or.inl h2)
      have v1 : ∀ k, lkV lo n k = n := fun k => if_pos h2
      rw [w1, w1, v1, v1, if_neg (by omega), show min (max a (n - a)) n = n by omega]
    · have v1 : ∀ k, lkV lo n k = n - min (k - lo) q := fun k => by unfold lkV; rw [if_neg h2, hq]
      rw [v1, v1]
      by_cases hl : i < lo
      · have w1 : lkW lo n i = none := if_pos (Or.inr (by omega))
        have w2 : lkW lo n (i + 1) = none := if_pos (Or.inr (by omega))
        rw [w1, w2, if_neg (by omega), show min (max a (n - a)) (n - min (i - lo) q) = n - min (i + 1 - lo) q by omega]
      · have w2 : lkW lo n (i + 1) = some (min i (lo + q - 1)) := by
          unfold lkW
          rw [if_neg (by omega), hq, show i + 1 - 1 = i by omega]
        by_cases hm : i ≤ lo + q - 1
        · rw [w2, if_pos (by omega), show min i (lo + q - 1) = i by omega, show min (max a (n - a)) (n - min (i - lo) q) = n - min (i + 1 - lo) q by omega]
        · have w1 : lkW lo n i = some (min (i - 1) (lo + q - 1)) := by
            unfold lkW
            rw [if_neg (by omega), hq]
          rw [w2, w1, if_neg (by omega), show min i (lo + q - 1) = min (i - 1) (lo + q - 1) by omega, show min (max a (n - a)) (n - min (i - lo) q) = n - min (i + 1 - lo) q by omega]
theorem lk_all : ∀ lo, lo ≤ 61 → ∀ hi, hi ≤ 60 → lkN lo hi 61 0 none (hi + 1 - lo) = (if hi + 1 - lo < 2 then none else some (lo + (hi + 1 - lo) / 2 - 1)) := by
  intro lo hlo hi hhi
  have e := lk_go lo hi (hi + 1 - lo) rfl 61 0
  have w0 : lkW lo (hi + 1 - lo) 0 = none := if_pos (Or.inr (by omega))
  have v0 : lkV lo (hi + 1 - lo) 0 = hi + 1 - lo := by
    unfold lkV
    by_cases h : hi + 1 - lo < 2
    · rw [if_pos h]
    · rw [if_neg h]
      omega
  rw [w0, v0] at e
  rw [e]
  unfold lkW
  by_cases h : hi + 1 - lo < 2
  · rw [if_pos (Or.inl h), if_pos h]
  · rw [if_neg (by omega), if_neg h]
    congr 1
    omega
theorem l188 (d c lo hi : Nat) (M : Mem) (Q : Option Value → Mem → Prop) (hH : HT M c lo hi) : ∀ j i w f x y, i + j = 61 → f ≤ 61 → (Wp (d + 2) 188 13 [.ref 40, .int (nI (hi + 1 - lo)), .int (nI f), .int (oI w), .int (nI i), x, y] [] M Q ↔ Q (some (.int (oI (lkN lo hi j i w f)))) M)
  | 0, i, w, f, x, y, hij, hf => by
    obtain rfl : i = 61 := hij
    rw [h188_13, lkN]
    have e : nI 61 < 61 ↔ False := ⟨fun h => absurd h (by decide), False.elim⟩
    simp (maxSteps := 400000) (disch := first | omega | assumption) only [e188, e, kv, rv, tv, lnv, lv0, clv, clr_i, clr_r, clr_n, clr_l, true_and, and_true, Option.toList_some, Option.toList_none, List.cons_append, List.nil_append, bI_0, bI_1, bI_or, ↓reduceIte, or_true, true_or, eq_self, irv, i0_add, not_true_eq_false, not_false_eq_true, Bool.false_eq_true, and_false, false_and, or_false, false_or, reduceCtorEq, nev, ngv, nc_or, in64, l64v, ite_not, ite_notP, up2_upr, upr_upr, upr_at, nI_cl, nI_ir, iav, nI_1, nI_mul6, nI_6mul, nI_lt2, nI_eq2, nI_neg, nI_m1, ltv, nI_z, upd_at, upd_off, upr_off, usv, upd_upd]
  | j + 1, i, w, f, x, y, hij, hf => by
    have hlo := hH.2.1
    have hhi := hH.2.2.1
    have e : nI i < 61 ↔ True := iff_true_intro ((nI_lt2 (by omega) (by omega : 61 < 2147483648)).mpr (by omega))
    have e187 := fun d Q => s187 d c lo hi (i + 1) (nI i) M Q hH (by omega) (nI_1 i)
    rw [h188_13, lkN]
    obtain ⟨a, ha⟩ : ∃ a, hi + 1 - max lo (i + 1) = a := ⟨_, rfl⟩
    have ha2 : a ≤ hi + 1 - lo := by omega
    simp only [ha] at e187 ⊢
    have es : nI (hi + 1 - lo) - nI a = nI (hi + 1 - lo - a) := pk_sub ha2
    have em : mx (nI a) (nI (hi + 1 - lo - a)) = nI (max a (hi + 1 - lo - a)) := mxN (by omega) (by omega)
    obtain ⟨p, hp⟩ : ∃ p, max a (hi + 1 - lo - a) = p := ⟨_, rfl⟩
    have hp2 : p ≤ 61 := by omega
    rw [hp] at em ⊢
    have en : mn (nI p) (nI f) = nI (min p f) := mnN (by omega) (by omega)
    by_cases h : p < f
    · rw [if_pos h]
      refine Iff.trans ?_ (l188 d c lo hi M Q hH j (i + 1) (some i) (min p f) (.int (nI a)) (.int (nI p)) (by omega) (by omega))
      simp (maxSteps := 400000) (disch := first | omega | assumption) only [e188, e, e187, es, em, en, s134, s133, h, oI, kv, rv, tv, lnv, lv0, clv, clr_i, clr_r, clr_n, clr_l, true_and, and_true, Option.toList_some, Option.toList_none, List.cons_append, List.nil_append, bI_0, bI_1, bI_or, ↓reduceIte, or_true, true_or, eq_self, irv, i0_add, not_true_eq_false, not_false_eq_true, Bool.false_eq_true, and_false, false_and, or_false, false_or, reduceCtorEq, nev, ngv, nc_or, in64, l64v, ite_not, ite_notP, up2_upr, upr_upr, upr_at, nI_cl, nI_ir, iav, nI_1, nI_mul6, nI_6mul, nI_lt2, nI_eq2, nI_neg, nI_m1, ltv, nI_z, upd_at, upd_off, upr_off, usv, upd_upd]
    · rw [if_neg h]
      refine Iff.trans ?_ (l188 d c lo hi M Q hH j (i + 1) w (min p f) (.int (nI a)) (.int (nI p)) (by omega) (by omega))
      simp (maxSteps := 400000) (disch := first | omega | assumption) only [e188, e, e187, es, em, en, s134, s133, h, kv, rv, tv, lnv, lv0, clv, clr_i, clr_r, clr_n, clr_l, true_and, and_true, Option.toList_some, Option.toList_none, List.cons_append, List.nil_append, bI_0, bI_1, bI_or, ↓reduceIte, or_true, true_or, eq_self, irv, i0_add, not_true_eq_false, not_false_eq_true, Bool.false_eq_true, and_false, false_and, or_false, false_or, reduceCtorEq, nev, ngv, nc_or, in64, l64v, ite_not, ite_notP, up2_upr, upr_upr, upr_at, nI_cl, nI_ir, iav, nI_1, nI_mul6, nI_6mul, nI_lt2, nI_eq2, nI_neg, nI_m1, ltv, nI_z, upd_at, upd_off, upr_off, usv, upd_upd]
theorem pair_look (d : Nat) (M : Mem) (hI : Inv M) : PairOK (d + 3) 103 188 [.ref 0] [.ref 40, .null, .null, .null, .null, .null, .null] M := by
  intro K hK
  obtain ⟨n, nc, np, B, -, -, -, -, -, -, ⟨c, lo, hi, hc, hlo, hhi, k0, k13, k1, k2, -, hh⟩, -⟩ := id hI
  have hH := ht_of hc hlo hhi k13 hh
  have e187 := fun d Q => s187 d c lo hi 0 (-1) M Q hH (by omega) (by decide)
  simp only [Nat.max_zero] at e187
  have el : ∀ d Q x y, Wp (d + 2) 188 13 [.ref 40, .int (nI (hi + 1 - lo)), .int (nI (hi + 1 - lo)), .int (-1), .int 0, x, y] [] M Q ↔ Q (some (.int (oI (lkN lo hi 61 0 none (hi + 1 - lo))))) M := fun d Q x y => l188 d c lo hi M Q hH 61 0 none (hi + 1 - lo) x y (by omega) (by omega)
  rw [lk_all lo hlo hi hhi] at el
  have e20 : ∀ d Q, Wp (d + 2) 20 0 [.ref 36, .null] [] M Q ↔ Q (some (.int (oI (if hi + 1 - lo < 2 then none else some (lo + (hi + 1 - lo) / 2 - 1))))) M := fun d Q => by
    rw [s20, k1, k2, fit_eq lo hlo hi hhi]
    have e2 : nI (hi + 1 - lo) < 2 ↔ hi + 1 - lo < 2 := nI_lt2 (by omega) (by omega : 2 < 2147483648)
    by_cases h : hi + 1 - lo < 2
    · rw [if_pos (e2.mpr h), if_pos h]; rfl
    · rw [if_neg (fun z => h (e2.mp z)), if_neg h]
      have e3 : nI (hi + 1 - lo) / 2 = nI ((hi + 1 - lo) / 2) := pk_div (d := 2) (by omega) (by decide) (by decide)
      rw [e3, nI_add]
      have e4 : nI (lo + (hi + 1 - lo) / 2) - 1 = nI (lo + (hi + 1 - lo) / 2 - 1) := pk_sub (b := 1) (by omega)
      rw [e4]
      rfl
  simp (maxSteps := 400000) (disch := first | omega | assumption) only [e103, e188, e20, e187, el, kv, rv, tv, lnv, lv0, clv, clr_i, clr_r, clr_n, clr_l, true_and, and_true, Option.toList_some, Option.toList_none, List.cons_append, List.nil_append, bI_0, bI_1, bI_or, ↓reduceIte, or_true, true_or, eq_self, irv, i0_add, not_true_eq_false, not_false_eq_true, Bool.false_eq_true, and_false, false_and, or_false, false_or, reduceCtorEq, nev, ngv, nc_or, in64, l64v, ite_not, ite_notP, up2_upr, upr_upr, upr_at, nI_cl, nI_ir, iav, nI_1, nI_mul6, nI_6mul, nI_lt2, nI_eq2, nI_neg, nI_m1, ltv, nI_z, upd_at, upd_off, upr_off, usv, upd_upd]
  exact hK _ _ hI
theorem hat_x {x e : Nat} (hx : x ≤ 60) (he : e ≤ 60) : nI e < nI x ↔ e < x := nI_lt2 (by omega) (by omega)
theorem pair_hat (d : Nat) (x z : Int32) (M : Mem) (hI : Inv M) (hz : z = 0 ∨ z = 1) : PairOK (d + 3) 101 184 [.ref 0, .int x, .int z] [.ref 40, .int x, .int z] M := by
  intro K hK
  obtain ⟨n, nc, np, B, hY, hL, hP, h0, h1, hT, ⟨c, lo, hi, hc, hlo, hhi, k0, k13, k1, k2, ha, hh⟩, hB, hS, hSt⟩ := id hI
  by_cases hx : rg x 0 60
  · obtain ⟨e, he, rfl⟩ := rg_nI (n := 60) hx
    have e60 : ¬ 60 < e := by omega
    by_cases hc6 : c = 6
    · subst hc6
      have e6 : nI 6 = 6 := rfl
      simp (maxSteps := 400000) (disch := first | omega | assumption) only [e101, e184, s112i, rg_cls, rg_ite, i32v, iff_true_intro hx, bI_T, z01, e60, k0, k13, e6, lt15, kv, rv, tv, lnv, lv0, clv, clr_i, clr_r, clr_n, clr_l, true_and, and_true, Option.toList_some, Option.toList_none, List.cons_append, List.nil_append, bI_0, bI_1, bI_or, ↓reduceIte, or_true, true_or, eq_self, irv, i0_add, not_true_eq_false, not_false_eq_true, Bool.false_eq_true, and_false, false_and, or_false, false_or, reduceCtorEq, nev, ngv, nc_or, in64, l64v, ite_not, ite_notP, up2_upr, upr_upr, upr_at, nI_cl, nI_ir, iav, nI_1, nI_mul6, nI_6mul, nI_lt2, nI_eq2, nI_neg, nI_m1, ltv, nI_z, upd_at, upd_off, upr_off, usv, upd_upd]
      exact hK _ _ hI
    · have hc' : c < 6 := by omega
      have e2 : 2 * nI c = nI (2 * c) := pk_mul 2 c
      rcases hz with rfl | rfl
      · have em : mn (nI hi) (nI e) = nI (min hi e) := mnN (by omega) (by omega)
        simp (maxSteps := 400000) (disch := first | omega | assumption) only [e101, e184, s112i, rg_cls, rg_ite, i32v, iff_true_intro hx, bI_T, z01, e60, k0, k13, hc6, hc', s18, k1, k2, em, e2, kv, rv, tv, lnv, lv0, clv, clr_i, clr_r, clr_n, clr_l, true_and, and_true, Option.toList_some, Option.toList_none, List.cons_append, List.nil_append, bI_0, bI_1, bI_or, ↓reduceIte, or_true, true_or, eq_self, irv, i0_add, not_true_eq_false, not_false_eq_true, Bool.false_eq_true, and_false, false_and, or_false, false_or, reduceCtorEq, nev, ngv, nc_or, in64, l64v, ite_not, ite_notP, up2_upr, upr_upr, upr_at, nI_cl, nI_ir, iav, nI_1, nI_mul6, nI_6mul, nI_lt2, nI_eq2, nI_neg, nI_m1, ltv, nI_z, upd_at, upd_off, upr_off, usv, upd_upd]
        refine hK _ _ ⟨n, nc, np, B, ?_⟩
        simp (maxSteps := 400000) (disch := first | omega | assumption) only [YR_upr, LM_upr, ST_upr, k1, k2, kv, rv, tv, lnv, lv0, clv, clr_i, clr_r, clr_n, clr_l, true_and, and_true, Option.toList_some, Option.toList_none, List.cons_append, List.nil_append, bI_0, bI_1, bI_or, ↓reduceIte, or_true, true_or, eq_self, irv, i0_add, not_true_eq_false, not_false_eq_true, Bool.false_eq_true, and_false, false_and, or_false, false_or, reduceCtorEq, nev, ngv, nc_or, in64, l64v, ite_not, ite_notP, up2_upr, upr_upr, upr_at, nI_cl, nI_ir, iav, nI_1, nI_mul6, nI_6mul, nI_lt2, nI_eq2, nI_neg, nI_m1, ltv, nI_z, upd_at, upd_off, upr_off, usv, upd_upd]
        refine ⟨hY, hL, hP, h0, h1, hT, ⟨c + 1, lo, min hi e, by omega, hlo, by omega, rfl, rfl, by exact k1, rfl, ?_, ?_⟩, hB, hS, hSt⟩
        · intro k hk
          by_cases hkc : k = c
          · subst hkc
            simp (maxSteps := 400000) (disch := first | omega | assumption) only [kv, rv, tv, lnv, lv0, clv, clr_i, clr_r, clr_n, clr_l, true_and, and_true, Option.toList_some, Option.toList_none, List.cons_append, List.nil_append, bI_0, bI_1, bI_or, ↓reduceIte, or_true, true_or, eq_self, irv, i0_add, not_true_eq_false, not_false_eq_true, Bool.false_eq_true, and_false, false_and, or_false, false_or, reduceCtorEq, nev, ngv, nc_or, in64, l64v, ite_not, ite_notP, up2_upr, upr_upr, upr_at, nI_cl, nI_ir, iav, nI_1, nI_mul6, nI_6mul, nI_lt2, nI_eq2, nI_neg, nI_m1, ltv, nI_z, upd_at, upd_off, upr_off, usv, upd_upd]
            exact ⟨e, he, rfl⟩
          · simp (maxSteps := 400000) (disch := first | omega | assumption) only [kv, rv, tv, lnv, lv0, clv, clr_i, clr_r, clr_n, clr_l, true_and, and_true, Option.toList_some, Option.toList_none, List.cons_append, List.nil_append, bI_0, bI_1, bI_or, ↓reduceIte, or_true, true_or, eq_self, irv, i0_add, not_true_eq_false, not_false_eq_true, Bool.false_eq_true, and_false, false_and, or_false, false_or, reduceCtorEq, nev, ngv, nc_or, in64, l64v, ite_not, ite_notP, up2_upr, upr_upr, upr_at, nI_cl, nI_ir, iav, nI_1, nI_mul6, nI_6mul, nI_lt2, nI_eq2, nI_neg, nI_m1, ltv, nI_z, upd_at, upd_off, upr_off, usv, upd_upd]
            exact ha k (by omega)
        · intro x hx
          rw [show (lo ≤ x ∧ x ≤ min hi e) ↔ (lo ≤ x ∧ x ≤ hi) ∧ ¬ e < x by omega, ← hh x hx]
          constructor
          · intro w
            refine ⟨fun k hk => ?_, fun z => ?_⟩
            · have := w k (by omega)
              simp (maxSteps := 400000) (disch := first | omega | assumption) only [kv, rv, tv, lnv, lv0, clv, clr_i, clr_r, clr_n, clr_l, true_and, and_true, Option.toList_some, Option.toList_none, List.cons_append, List.nil_append, bI_0, bI_1, bI_or, ↓reduceIte, or_true, true_or, eq_self, irv, i0_add, not_true_eq_false, not_false_eq_true, Bool.false_eq_true, and_false, false_and, or_false, false_or, reduceCtorEq, nev, ngv, nc_or, in64, l64v, ite_not, ite_notP, up2_upr, upr_upr, upr_at, nI_cl, nI_ir, iav, nI_1, nI_mul6, nI_6mul, nI_lt2, nI_eq2, nI_neg, nI_m1, ltv, nI_z, upd_at, upd_off, upr_off, usv, upd_upd] at this
              exact this
            · have := w c (by omega)
              simp (maxSteps := 400000) (disch := first | omega | assumption) only [z01, kv, rv, tv, lnv, lv0, clv, clr_i, clr_r, clr_n, clr_l, true_and, and_true, Option.toList_some, Option.toList_none, List.cons_append, List.nil_append, bI_0, bI_1, bI_or, ↓reduceIte, or_true, true_or, eq_self, irv, i0_add, not_true_eq_false, not_false_eq_true, Bool.false_eq_true, and_false, false_and, or_false, false_or, reduceCtorEq, nev, ngv, nc_or, in64, l64v, ite_not, ite_notP, up2_upr, upr_upr, upr_at, nI_cl, nI_ir, iav, nI_1, nI_mul6, nI_6mul, nI_lt2, nI_eq2, nI_neg, nI_m1, ltv, nI_z, upd_at, upd_off, upr_off, usv, upd_upd] at this
              exact this.mp z
          · intro w k hk
            by_cases hkc : k = c
            · subst hkc
              simp (maxSteps := 400000) (disch := first | omega | assumption) only [z01, kv, rv, tv, lnv, lv0, clv, clr_i, clr_r, clr_n, clr_l, true_and, and_true, Option.toList_some, Option.toList_none, List.cons_append, List.nil_append, bI_0, bI_1, bI_or, ↓reduceIte, or_true, true_or, eq_self, irv, i0_add, not_true_eq_false, not_false_eq_true, Bool.false_eq_true, and_false, false_and, or_false, false_or, reduceCtorEq, nev, ngv, nc_or, in64, l64v, ite_not, ite_notP, up2_upr, upr_upr, upr_at, nI_cl, nI_ir, iav, nI_1, nI_mul6, nI_6mul, nI_lt2, nI_eq2, nI_neg, nI_m1, ltv, nI_z, upd_at, upd_off, upr_off, usv, upd_upd]
              exact ⟨fun z => w.2 z, False.elim⟩
            · simp (maxSteps := 400000) (disch := first | omega | assumption) only [kv, rv, tv, lnv, lv0, clv, clr_i, clr_r, clr_n, clr_l, true_and, and_true, Option.toList_some, Option.toList_none, List.cons_append, List.nil_append, bI_0, bI_1, bI_or, ↓reduceIte, or_true, true_or, eq_self, irv, i0_add, not_true_eq_false, not_false_eq_true, Bool.false_eq_true, and_false, false_and, or_false, false_or, reduceCtorEq, nev, ngv, nc_or, in64, l64v, ite_not, ite_notP, up2_upr, upr_upr, upr_at, nI_cl, nI_ir, iav, nI_1, nI_mul6, nI_6mul, nI_lt2, nI_eq2, nI_neg, nI_m1, ltv, nI_z, upd_at, upd_off, upr_off, usv, upd_upd]
              exact w.1 k (by omega)
      · have em : mx (nI lo) (nI (e + 1)) = nI (max lo (e + 1)) := mxN (by omega) (by omega)
        simp (maxSteps := 400000) (disch := first | omega | assumption) only [e101, e184, s112i, rg_cls, rg_ite, i32v, iff_true_intro hx, bI_T, z01, e60, k0, k13, hc6, hc', s18, k1, k2, em, e2, kv, rv, tv, lnv, lv0, clv, clr_i, clr_r, clr_n, clr_l, true_and, and_true, Option.toList_some, Option.toList_none, List.cons_append, List.nil_append, bI_0, bI_1, bI_or, ↓reduceIte, or_true, true_or, eq_self, irv, i0_add, not_true_eq_false, not_false_eq_true, Bool.false_eq_true, and_false, false_and, or_false, false_or, reduceCtorEq, nev, ngv, nc_or, in64, l64v, ite_not, ite_notP, up2_upr, upr_upr, upr_at, nI_cl, nI_ir, iav, nI_1, nI_mul6, nI_6mul, nI_lt2, nI_eq2, nI_neg, nI_m1, ltv, nI_z, upd_at, upd_off, upr_off, usv, upd_upd]
        refine hK _ _ ⟨n, nc, np, B, ?_⟩
        simp (maxSteps := 400000) (disch := first | omega | assumption) only [YR_upr, LM_upr, ST_upr, k1, k2, kv, rv, tv, lnv, lv0, clv, clr_i, clr_r, clr_n, clr_l, true_and, and_true, Option.toList_some, Option.toList_none, List.cons_append, List.nil_append, bI_0, bI_1, bI_or, ↓reduceIte, or_true, true_or, eq_self, irv, i0_add, not_true_eq_false, not_false_eq_true, Bool.false_eq_true, and_false, false_and, or_false, false_or, reduceCtorEq, nev, ngv, nc_or, in64, l64v, ite_not, ite_notP, up2_upr, upr_upr, upr_at, nI_cl, nI_ir, iav, nI_1, nI_mul6, nI_6mul, nI_lt2, nI_eq2, nI_neg, nI_m1, ltv, nI_z, upd_at, upd_off, upr_off, usv, upd_upd]
        refine ⟨hY, hL, hP, h0, h1, hT, ⟨c + 1, max lo (e + 1), hi, by omega, by omega, hhi, rfl, rfl, rfl, by exact k2, ?_, ?_⟩, hB, hS, hSt⟩
        · intro k hk
          by_cases hkc : k = c
          · subst hkc
            simp (maxSteps := 400000) (disch := first | omega | assumption) only [kv, rv, tv, lnv, lv0, clv, clr_i, clr_r, clr_n, clr_l, true_and, and_true, Option.toList_some, Option.toList_none, List.cons_append, List.nil_append, bI_0, bI_1, bI_or, ↓reduceIte, or_true, true_or, eq_self, irv, i0_add, not_true_eq_false, not_false_eq_true, Bool.false_eq_true, and_false, false_and, or_false, false_or, reduceCtorEq, nev, ngv, nc_or, in64, l64v, ite_not, ite_notP, up2_upr, upr_upr, upr_at, nI_cl, nI_ir, iav, nI_1, nI_mul6, nI_6mul, nI_lt2, nI_eq2, nI_neg, nI_m1, ltv, nI_z, upd_at, upd_off, upr_off, usv, upd_upd]
            exact ⟨e, he, rfl⟩
          · simp (maxSteps := 400000) (disch := first | omega | assumption) only [kv, rv, tv, lnv, lv0, clv, clr_i, clr_r, clr_n, clr_l, true_and, and_true, Option.toList_some, Option.toList_none, List.cons_append, List.nil_append, bI_0, bI_1, bI_or, ↓reduceIte, or_true, true_or, eq_self, irv, i0_add, not_true_eq_false, not_false_eq_true, Bool.false_eq_true, and_false, false_and, or_false, false_or, reduceCtorEq, nev, ngv, nc_or, in64, l64v, ite_not, ite_notP, up2_upr, upr_upr, upr_at, nI_cl, nI_ir, iav, nI_1, nI_mul6, nI_6mul, nI_lt2, nI_eq2, nI_neg, nI_m1, ltv, nI_z, upd_at, upd_off, upr_off, usv, upd_upd]
            exact ha k (by omega)
        · intro x hx
          rw [show (max lo (e + 1) ≤ x ∧ x ≤ hi) ↔ (lo ≤ x ∧ x ≤ hi) ∧ e < x by omega, ← hh x hx]
          constructor
          · intro w
            refine ⟨fun k hk => ?_, ?_⟩
            · have := w k (by omega)
              simp (maxSteps := 400000) (disch := first | omega | assumption) only [kv, rv, tv, lnv, lv0, clv, clr_i, clr_r, clr_n, clr_l, true_and, and_true, Option.toList_some, Option.toList_none, List.cons_append, List.nil_append, bI_0, bI_1, bI_or, ↓reduceIte, or_true, true_or, eq_self, irv, i0_add, not_true_eq_false, not_false_eq_true, Bool.false_eq_true, and_false, false_and, or_false, false_or, reduceCtorEq, nev, ngv, nc_or, in64, l64v, ite_not, ite_notP, up2_upr, upr_upr, upr_at, nI_cl, nI_ir, iav, nI_1, nI_mul6, nI_6mul, nI_lt2, nI_eq2, nI_neg, nI_m1, ltv, nI_z, upd_at, upd_off, upr_off, usv, upd_upd] at this
              exact this
            · have := w c (by omega)
              simp (maxSteps := 400000) (disch := first | omega | assumption) only [z01, kv, rv, tv, lnv, lv0, clv, clr_i, clr_r, clr_n, clr_l, true_and, and_true, Option.toList_some, Option.toList_none, List.cons_append, List.nil_append, bI_0, bI_1, bI_or, ↓reduceIte, or_true, true_or, eq_self, irv, i0_add, not_true_eq_false, not_false_eq_true, Bool.false_eq_true, and_false, false_and, or_false, false_or, reduceCtorEq, nev, ngv, nc_or, in64, l64v, ite_not, ite_notP, up2_upr, upr_upr, upr_at, nI_cl, nI_ir, iav, nI_1, nI_mul6, nI_6mul, nI_lt2, nI_eq2, nI_neg, nI_m1, ltv, nI_z, upd_at, upd_off, upr_off, usv, upd_upd] at this
              exact this.mpr trivial
          · intro w k hk
            by_cases hkc : k = c
            · subst hkc
              simp (maxSteps := 400000) (disch := first | omega | assumption) only [z01, kv, rv, tv, lnv, lv0, clv, clr_i, clr_r, clr_n, clr_l, true_and, and_true, Option.toList_some, Option.toList_none, List.cons_append, List.nil_append, bI_0, bI_1, bI_or, ↓reduceIte, or_true, true_or, eq_self, irv, i0_add, not_true_eq_false, not_false_eq_true, Bool.false_eq_true, and_false, false_and, or_false, false_or, reduceCtorEq, nev, ngv, nc_or, in64, l64v, ite_not, ite_notP, up2_upr, upr_upr, upr_at, nI_cl, nI_ir, iav, nI_1, nI_mul6, nI_6mul, nI_lt2, nI_eq2, nI_neg, nI_m1, ltv, nI_z, upd_at, upd_off, upr_off, usv, upd_upd]
              exact iff_true_intro w.2
            · simp (maxSteps := 400000) (disch := first | omega | assumption) only [kv, rv, tv, lnv, lv0, clv, clr_i, clr_r, clr_n, clr_l, true_and, and_true, Option.toList_some, Option.toList_none, List.cons_append, List.nil_append, bI_0, bI_1, bI_or, ↓reduceIte, or_true, true_or, eq_self, irv, i0_add, not_true_eq_false, not_false_eq_true, Bool.false_eq_true, and_false, false_and, or_false, false_or, reduceCtorEq, nev, ngv, nc_or, in64, l64v, ite_not, ite_notP, up2_upr, upr_upr, upr_at, nI_cl, nI_ir, iav, nI_1, nI_mul6, nI_6mul, nI_lt2, nI_eq2, nI_neg, nI_m1, ltv, nI_z, upd_at, upd_off, upr_off, usv, upd_upd]
              exact w.1 k (by omega)
  · simp (maxSteps := 400000) (disch := first | omega | assumption) only [e101, e184, s112i, rg_cls, rg_ite, i32v, iff_false_intro hx, bI_F, kv, rv, tv, lnv, lv0, clv, clr_i, clr_r, clr_n, clr_l, true_and, and_true, Option.toList_some, Option.toList_none, List.cons_append, List.nil_append, bI_0, bI_1, bI_or, ↓reduceIte, or_true, true_or, eq_self, irv, i0_add, not_true_eq_false, not_false_eq_true, Bool.false_eq_true, and_false, false_and, or_false, false_or, reduceCtorEq, nev, ngv, nc_or, in64, l64v, ite_not, ite_notP, up2_upr, upr_upr, upr_at, nI_cl, nI_ir, iav, nI_1, nI_mul6, nI_6mul, nI_lt2, nI_eq2, nI_neg, nI_m1, ltv, nI_z, upd_at, upd_off, upr_off, usv, upd_upd]
    exact hK _ _ hI
