/-! part 40: outings: the program's side -/
def cxO (f : Nat → Nat) : Option Nat → Nat
  | none => 0
  | some p => f p
def dN (xs ys : Nat → Nat) (a b : Option Nat) : Nat := ((cxO xs a - cxO xs b) + (cxO xs b - cxO xs a)) + ((cxO ys a - cxO ys b) + (cxO ys b - cxO ys a))
theorem dN_tri (xs ys : Nat → Nat) (a b c : Option Nat) : dN xs ys a c ≤ dN xs ys a b + dN xs ys b c := by
  unfold dN
  omega
def btP (w s g : Int32) (b : Int32 × Int32 × Int32) : Prop := b.1 < w ∨ (w = b.1 ∧ (s < b.2.1 ∨ (s = b.2.1 ∧ g < b.2.2)))
noncomputable def mtF (t : Nat) (b : Int32 × Int32 × Int32) (w s g : Nat) : Int32 × Int32 × Int32 := @ite _ (s ≤ t ∧ btP (nI w) (nI s) (nI g) b) (Classical.propDecidable _) (nI w, nI s, nI g) b
def kdF {α : Type} (F : Nat → α → α) : Nat → Nat → α → α
  | 0, _, b => b
  | j + 1, p, b => kdF F j (p + 1) (F p b)
/-- all outings from a place on -/
noncomputable def goF (np t : Nat) (xs ys ws : Nat → Nat) : Nat → Nat → Option Nat → Nat → Nat → Nat → (Int32 × Int32 × Int32) → (Int32 × Int32 × Int32)
  | 0, _, _, _, _, _, b => b
  | f + 1, seen, o, w, s, g, b => kdF (fun p b => if seen.testBit p = true then b else goF np t xs ys ws f (seen ||| 2 ^ p) (some p) (w + ws p) (s + dN xs ys o (some p)) (g * 10 + p + 1) (mtF t b (w + ws p) (s + dN xs ys o (some p) + dN xs ys (some p) none) (g * 10 + p + 1))) np 0 b
theorem kdF_id {α : Type} {F : Nat → α → α} (h : ∀ p b, F p b = b) : ∀ j p b, kdF F j p b = b
  | 0, _, _ => rfl
  | j + 1, p, b => by rw [kdF, h, kdF_id h j]
theorem goF_late {np t : Nat} {xs ys ws : Nat → Nat} : ∀ f seen o w s g b, t < s + dN xs ys o none → goF np t xs ys ws f seen o w s g b = b
  | 0, seen, o, w, s, g, b, h => rfl
  | f + 1, seen, o, w, s, g, b, h => by
    rw [goF]
    refine kdF_id (fun p b => ?_) np 0 b
    have ht := dN_tri xs ys o (some p) none
    split
    · rfl
    · have hm : mtF t b (w + ws p) (s + dN xs ys o (some p) + dN xs ys (some p) none) (g * 10 + p + 1) = b := by
        unfold mtF
        rw [if_neg (fun z => by have := z.1; omega)]
      rw [hm]
      exact goF_late f _ _ _ _ _ _ (by omega)
/-- places -/
def PLC (M : Mem) (np : Nat) (xs ys ws : Nat → Nat) : Prop := np ≤ 6 ∧ M 15 14 = nI np ∧ ∀ p, p < np → M 21 p = nI (xs p) ∧ M 22 p = nI (ys p) ∧ M 23 p = nI (ws p) ∧ xs p ≤ 20 ∧ ys p ≤ 20 ∧ ws p ≤ 99
theorem ab_s : ∀ a, a ≤ 20 → ∀ b, b ≤ 20 → ab (nI a - nI b) = nI ((a - b) + (b - a)) := by decide +kernel
theorem ab_1 {b : Nat} (hb : b ≤ 20) : ab (0 - nI b) = nI b := by
  have := ab_s 0 (by omega) b hb
  rw [show (0 - b) + (b - 0) = b by omega] at this
  exact this
theorem ab_2 {a : Nat} (ha : a ≤ 20) : ab (nI a - 0) = nI a := by
  have := ab_s a ha 0 (by omega)
  rw [show (a - 0) + (0 - a) = a by omega] at this
  exact this
theorem ab_0 : ab (0 - 0) = nI 0 := by decide
theorem s7 (d np : Nat) (xs ys ws : Nat → Nat) (a b : Option Nat) (M : Mem) (Q : Option Value → Mem → Prop) (hP : PLC M np xs ys ws) (ha : ∀ p, a = some p → p < np) (hb : ∀ p, b = some p → p < np) : Wp (d + 1) 7 0 [.ref 15, .int (oI a), .int (oI b), .null, .null, .null, .null] [] M Q ↔ Q (some (.int (nI (dN xs ys a b)))) M := by
  obtain ⟨h6, h14, hp⟩ := hP
  unfold dN
  have m1 : ((-1 : Int32) < 0) ↔ True := iff_true_intro (by decide)
  cases a with
  | none =>
    cases b with
    | none => simp (maxSteps := 400000) (disch := first | omega | assumption) only [e7_0, e7_1, oI, m1, ab_0, nI_add, cxO, kv, rv, tv, lnv, lv0, clv, clr_i, clr_r, clr_n, clr_l, true_and, and_true, Option.toList_some, Option.toList_none, List.cons_append, List.nil_append, bI_0, bI_1, bI_or, ↓reduceIte, or_true, true_or, eq_self, irv, i0_add, not_true_eq_false, not_false_eq_true, Bool.false_eq_true, and_false, false_and, or_false, false_or, reduceCtorEq, nev, ngv, nc_or, in64, l64v, ite_not, ite_notP, up2_upr, upr_upr, upr_at, nI_cl, nI_ir, iav, nI_1, nI_mul6, nI_6mul, nI_lt2, nI_eq2, nI_neg, nI_m1, ltv, nI_z, upd_at, upd_off, upr_off, usv, upd_upd]
    | some q =>
      have hq := hb q rfl
      obtain ⟨e1, e2, -, r1, r2, -⟩ := hp q hq
      have i1 : (0 - xs q) + (xs q - 0) = xs q := by omega
      have i2 : (0 - ys q) + (ys q - 0) = ys q := by omega
      simp (maxSteps := 400000) (disch := first | omega | assumption) only [e7_0, e7_1, oI, m1, h14, hq, e1, e2, ab_1 r1, ab_1 r2, nI_add, cxO, i1, i2, kv, rv, tv, lnv, lv0, clv, clr_i, clr_r, clr_n, clr_l, true_and, and_true, Option.toList_some, Option.toList_none, List.cons_append, List.nil_append, bI_0, bI_1, bI_or, ↓reduceIte, or_true, true_or, eq_self, irv, i0_add, not_true_eq_false, not_false_eq_true, Bool.false_eq_true, and_false, false_and, or_false, false_or, reduceCtorEq, nev, ngv, nc_or, in64, l64v, ite_not, ite_notP, up2_upr, upr_upr, upr_at, nI_cl, nI_ir, iav, nI_1, nI_mul6, nI_6mul, nI_lt2, nI_eq2, nI_neg, nI_m1, ltv, nI_z, upd_at, upd_off, upr_off, usv, upd_upd]
  | some p =>
    have hpp := ha p rfl
    obtain ⟨e1, e2, -, r1, r2, -⟩ := hp p hpp
    cases b with
    | none =>
      have i1 : (xs p - 0) + (0 - xs p) = xs p := by omega
      have i2 : (ys p - 0) + (0 - ys p) = ys p := by omega
      simp (maxSteps := 400000) (disch := first | omega | assumption) only [e7_0, e7_1, oI, m1, h14, hpp, e1, e2, ab_2 r1, ab_2 r2, nI_add, cxO, i1, i2, kv, rv, tv, lnv, lv0, clv, clr_i, clr_r, clr_n, clr_l, true_and, and_true, Option.toList_some, Option.toList_none, List.cons_append, List.nil_append, bI_0, bI_1, bI_or, ↓reduceIte, or_true, true_or, eq_self, irv, i0_add, not_true_eq_false, not_false_eq_true, Bool.false_eq_true, and_false, false_and, or_false, false_or, reduceCtorEq, nev, ngv, nc_or, in64, l64v, ite_not, ite_notP, up2_upr, upr_upr, upr_at, nI_cl, nI_ir, iav, nI_1, nI_mul6, nI_6mul, nI_lt2, nI_eq2, nI_neg, nI_m1, ltv, nI_z, upd_at, upd_off, upr_off, usv, upd_upd]
    | some q =>
      have hq := hb q rfl
      obtain ⟨f1, f2, -, t1, t2, -⟩ := hp q hq
      simp (maxSteps := 400000) (disch := first | omega | assumption) only [e7_0, e7_1, oI, m1, h14, hpp, hq, e1, e2, f1, f2, ab_s _ r1 _ t1, ab_s _ r2 _ t2, nI_add, cxO, kv, rv, tv, lnv, lv0, clv, clr_i, clr_r, clr_n, clr_l, true_and, and_true, Option.toList_some, Option.toList_none, List.cons_append, List.nil_append, bI_0, bI_1, bI_or, ↓reduceIte, or_true, true_or, eq_self, irv, i0_add, not_true_eq_false, not_false_eq_true, Bool.false_eq_true, and_false, false_and, or_false, false_or, reduceCtorEq, nev, ngv, nc_or, in64, l64v, ite_not, ite_notP, up2_upr, upr_upr, upr_at, nI_cl, nI_ir, iav, nI_1, nI_mul6, nI_6mul, nI_lt2, nI_eq2, nI_neg, nI_m1, ltv, nI_z, upd_at, upd_off, upr_off, usv, upd_upd]
def rW (r : Nat → Int32) (t : Nat) (b : Int32 × Int32 × Int32) : Nat → Int32 := upd (upd (upd (upd r 0 (nI t)) 1 b.1) 2 b.2.1) 3 b.2.2
theorem rW_s (r : Nat → Int32) (t : Nat) (b : Int32 × Int32 × Int32) : rW r t b 0 = nI t ∧ rW r t b 1 = b.1 ∧ rW r t b 2 = b.2.1 ∧ rW r t b 3 = b.2.2 := ⟨rfl, rfl, rfl, rfl⟩
theorem rW_u (r : Nat → Int32) (t : Nat) (w s g : Int32) (b : Int32 × Int32 × Int32) : upd (upd (upd (rW r t b) 1 w) 2 s) 3 g = rW r t (w, s, g) := by
  unfold rW
  funext q
  by_cases h3 : q = 3
  · rw [h3, pk_us, pk_us]
  · rw [pk_un h3, pk_un h3]
    by_cases h2 : q = 2
    · rw [h2, pk_us, pk_us]
    · rw [pk_un h2, pk_un h2]
      by_cases h1 : q = 1
      · rw [h1, pk_us, pk_us]
      · rw [pk_un h1, pk_un h1, pk_un h3, pk_un h2, pk_un h1]
theorem ilt (x : Int32) : x < x ↔ False := iff_false_intro (Int32.lt_irrefl)
theorem s70 (d : Nat) (w s g : Int32) (b : Int32 × Int32 × Int32) (M : Mem) (Q : Option Value → Mem → Prop) (h1 : M 29 1 = b.1) (h2 : M 29 2 = b.2.1) (h3 : M 29 3 = b.2.2) : Wp d 70 0 [.ref 29, .int w, .int s, .int g] [] M Q ↔ Q (some (.int (@bI (btP w s g b) (Classical.propDecidable _)))) M := by
  obtain ⟨b1, b2, b3⟩ := b
  simp only at h1 h2 h3
  unfold btP bI
  simp only
  by_cases c1 : w = b1
  · subst c1
    by_cases c2 : s = b2
    · subst c2
      by_cases c3 : g < b3
      · rw [if_pos (Or.inr ⟨rfl, Or.inr ⟨rfl, c3⟩⟩)]
        simp (maxSteps := 400000) (disch := first | omega | assumption) only [e70, h1, h2, h3, c3, kv, rv, tv, lnv, lv0, clv, clr_i, clr_r, clr_n, clr_l, true_and, and_true, Option.toList_some, Option.toList_none, List.cons_append, List.nil_append, bI_0, bI_1, bI_or, ↓reduceIte, or_true, true_or, eq_self, irv, i0_add, not_true_eq_false, not_false_eq_true, Bool.false_eq_true, and_false, false_and, or_false, false_or, reduceCtorEq, nev, ngv, nc_or, in64, l64v, ite_not, ite_notP, up2_upr, upr_upr, upr_at, nI_cl, nI_ir, iav, nI_1, nI_mul6, nI_6mul, nI_lt2, nI_eq2, nI_neg, nI_m1, ltv, nI_z, upd_at, upd_off, upr_off, usv, upd_upd]
      · rw [if_neg (by simp only [ilt, c3, and_false, or_false, not_false_eq_true])]
        simp (maxSteps := 400000) (disch := first | omega | assumption) only [e70, h1, h2, h3, c3, kv, rv, tv, lnv, lv0, clv, clr_i, clr_r, clr_n, clr_l, true_and, and_true, Option.toList_some, Option.toList_none, List.cons_append, List.nil_append, bI_0, bI_1, bI_or, ↓reduceIte, or_true, true_or, eq_self, irv, i0_add, not_true_eq_false, not_false_eq_true, Bool.false_eq_true, and_false, false_and, or_false, false_or, reduceCtorEq, nev, ngv, nc_or, in64, l64v, ite_not, ite_notP, up2_upr, upr_upr, upr_at, nI_cl, nI_ir, iav, nI_1, nI_mul6, nI_6mul, nI_lt2, nI_eq2, nI_neg, nI_m1, ltv, nI_z, upd_at, upd_off, upr_off, usv, upd_upd]
    · by_cases c3 : s < b2
      · rw [if_pos (Or.inr ⟨rfl, Or.inl c3⟩)]
        simp (maxSteps := 400000) (disch := first | omega | assumption) only [e70, h1, h2, h3, c2, c3, kv, rv, tv, lnv, lv0, clv, clr_i, clr_r, clr_n, clr_l, true_and, and_true, Option.toList_some, Option.toList_none, List.cons_append, List.nil_append, bI_0, bI_1, bI_or, ↓reduceIte, or_true, true_or, eq_self, irv, i0_add, not_true_eq_false, not_false_eq_true, Bool.false_eq_true, and_false, false_and, or_false, false_or, reduceCtorEq, nev, ngv, nc_or, in64, l64v, ite_not, ite_notP, up2_upr, upr_upr, upr_at, nI_cl, nI_ir, iav, nI_1, nI_mul6, nI_6mul, nI_lt2, nI_eq2, nI_neg, nI_m1, ltv, nI_z, upd_at, upd_off, upr_off, usv, upd_upd]
      · rw [if_neg (by simp only [ilt, c2, c3, and_false, or_false, false_and, not_false_eq_true])]
        simp (maxSteps := 400000) (disch := first | omega | assumption) only [e70, h1, h2, h3, c2, c3, kv, rv, tv, lnv, lv0, clv, clr_i, clr_r, clr_n, clr_l, true_and, and_true, Option.toList_some, Option.toList_none, List.cons_append, List.nil_append, bI_0, bI_1, bI_or, ↓reduceIte, or_true, true_or, eq_self, irv, i0_add, not_true_eq_false, not_false_eq_true, Bool.false_eq_true, and_false, false_and, or_false, false_or, reduceCtorEq, nev, ngv, nc_or, in64, l64v, ite_not, ite_notP, up2_upr, upr_upr, upr_at, nI_cl, nI_ir, iav, nI_1, nI_mul6, nI_6mul, nI_lt2, nI_eq2, nI_neg, nI_m1, ltv, nI_z, upd_at, upd_off, upr_off, usv, upd_upd]
  · by_cases c2 : b1 < w
    · rw [if_pos (Or.inl c2)]
      simp (maxSteps := 400000) (disch := first | omega | assumption) only [e70, h1, h2, h3, c1, c2, kv, rv, tv, lnv, lv0, clv, clr_i, clr_r, clr_n, clr_l, true_and, and_true, Option.toList_some, Option.toList_none, List.cons_append, List.nil_append, bI_0, bI_1, bI_or, ↓reduceIte, or_true, true_or, eq_self, irv, i0_add, not_true_eq_false, not_false_eq_true, Bool.false_eq_true, and_false, false_and, or_false, false_or, reduceCtorEq, nev, ngv, nc_or, in64, l64v, ite_not, ite_notP, up2_upr, upr_upr, upr_at, nI_cl, nI_ir, iav, nI_1, nI_mul6, nI_6mul, nI_lt2, nI_eq2, nI_neg, nI_m1, ltv, nI_z, upd_at, upd_off, upr_off, usv, upd_upd]
    · rw [if_neg (by simp only [c1, c2, false_and, or_false, not_false_eq_true])]
      simp (maxSteps := 400000) (disch := first | omega | assumption) only [e70, h1, h2, h3, c1, c2, kv, rv, tv, lnv, lv0, clv, clr_i, clr_r, clr_n, clr_l, true_and, and_true, Option.toList_some, Option.toList_none, List.cons_append, List.nil_append, bI_0, bI_1, bI_or, ↓reduceIte, or_true, true_or, eq_self, irv, i0_add, not_true_eq_false, not_false_eq_true, Bool.false_eq_true, and_false, false_and, or_false, false_or, reduceCtorEq, nev, ngv, nc_or, in64, l64v, ite_not, ite_notP, up2_upr, upr_upr, upr_at, nI_cl, nI_ir, iav, nI_1, nI_mul6, nI_6mul, nI_lt2, nI_eq2, nI_neg, nI_m1, ltv, nI_z, upd_at, upd_off, upr_off, usv, upd_upd]
theorem dN_b {np : Nat} {xs ys ws : Nat → Nat} {M : Mem} (hP : PLC M np xs ys ws) {a b : Option Nat} (ha : ∀ p, a = some p → p < np) (hb : ∀ p, b = some p → p < np) : dN xs ys a b ≤ 40 := by
  have h : ∀ o : Option Nat, (∀ p, o = some p → p < np) → cxO xs o ≤ 20 ∧ cxO ys o ≤ 20 := by
    intro o ho
    cases o with
    | none => exact ⟨by simp [cxO], by simp [cxO]⟩
    | some p => exact ⟨(hP.2.2 p (ho p rfl)).2.2.2.1, (hP.2.2 p (ho p rfl)).2.2.2.2.1⟩
  have h1 := h a ha
  have h2 := h b hb
  unfold dN
  omega
theorem PLC_u {M : Mem} {np : Nat} {xs ys ws : Nat → Nat} {f : Nat → Int32} (h : PLC M np xs ys ws) : PLC (upr M 29 f) np xs ys ws := h
