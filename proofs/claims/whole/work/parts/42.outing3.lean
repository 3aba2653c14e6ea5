/-! part 42: outings: the reference's side -/
def PLM (M : Mem) (np : Nat) (xs ys ws : Nat → Nat) : Prop := np ≤ 6 ∧ M 41 5 = nI np ∧ ∀ p, p < np → M 41 (32 + p) = nI (xs p) ∧ M 41 (38 + p) = nI (ys p) ∧ M 41 (44 + p) = nI (ws p) ∧ xs p ≤ 20 ∧ ys p ≤ 20 ∧ ws p ≤ 99
theorem s176 (d : Nat) (x : Int32) (M : Mem) (Q : Option Value → Mem → Prop) : Wp d 176 0 [.int x] [] M Q ↔ Q (some (.int (ab x))) M := by
  unfold ab
  by_cases h : x < 0
  · have h2 : ¬ 0 ≤ x := Int32.not_le.mpr h
    rw [if_neg h2]
    simp (maxSteps := 400000) (disch := first | omega | assumption) only [e176, iff_true_intro h, Int32.zero_sub, kv, rv, tv, lnv, lv0, clv, clr_i, clr_r, clr_n, clr_l, true_and, and_true, Option.toList_some, Option.toList_none, List.cons_append, List.nil_append, bI_0, bI_1, bI_or, ↓reduceIte, or_true, true_or, eq_self, irv, i0_add, not_true_eq_false, not_false_eq_true, Bool.false_eq_true, and_false, false_and, or_false, false_or, reduceCtorEq, nev, ngv, nc_or, in64, l64v, ite_not, ite_notP, up2_upr, upr_upr, upr_at, nI_cl, nI_ir, iav, nI_1, nI_mul6, nI_6mul, nI_lt2, nI_eq2, nI_neg, nI_m1, ltv, nI_z, upd_at, upd_off, upr_off, usv, upd_upd]
  · have h2 : 0 ≤ x := Int32.not_lt.mp h
    rw [if_pos h2]
    simp (maxSteps := 400000) (disch := first | omega | assumption) only [e176, iff_false_intro h, kv, rv, tv, lnv, lv0, clv, clr_i, clr_r, clr_n, clr_l, true_and, and_true, Option.toList_some, Option.toList_none, List.cons_append, List.nil_append, bI_0, bI_1, bI_or, ↓reduceIte, or_true, true_or, eq_self, irv, i0_add, not_true_eq_false, not_false_eq_true, Bool.false_eq_true, and_false, false_and, or_false, false_or, reduceCtorEq, nev, ngv, nc_or, in64, l64v, ite_not, ite_notP, up2_upr, upr_upr, upr_at, nI_cl, nI_ir, iav, nI_1, nI_mul6, nI_6mul, nI_lt2, nI_eq2, nI_neg, nI_m1, ltv, nI_z, upd_at, upd_off, upr_off, usv, upd_upd]
theorem s174 (d np : Nat) (xs ys ws : Nat → Nat) (a b : Option Nat) (M : Mem) (Q : Option Value → Mem → Prop) (hP : PLM M np xs ys ws) (ha : ∀ p, a = some p → p < np) (hb : ∀ p, b = some p → p < np) : Wp (d + 2) 174 0 [.ref 40, .int (oI a), .int (oI b)] [] M Q ↔ Q (some (.int (nI (dN xs ys a b)))) M := by
  obtain ⟨h6, h14, hp⟩ := hP
  unfold dN
  have m1 : ((-1 : Int32) < 0) ↔ True := iff_true_intro (by decide)
  have a32 : ∀ p, (32 : Int32) + nI p = nI (32 + p) := fun p => nI_add 32 p
  have a38 : ∀ p, (38 : Int32) + nI p = nI (38 + p) := fun p => nI_add 38 p
  cases a with
  | none =>
    cases b with
    | none => simp (maxSteps := 400000) (disch := first | omega | assumption) only [e174, e175, e177, oI_n, m1, s176, ab_0, nI_add, cxO, kv, rv, tv, lnv, lv0, clv, clr_i, clr_r, clr_n, clr_l, true_and, and_true, Option.toList_some, Option.toList_none, List.cons_append, List.nil_append, bI_0, bI_1, bI_or, ↓reduceIte, or_true, true_or, eq_self, irv, i0_add, not_true_eq_false, not_false_eq_true, Bool.false_eq_true, and_false, false_and, or_false, false_or, reduceCtorEq, nev, ngv, nc_or, in64, l64v, ite_not, ite_notP, up2_upr, upr_upr, upr_at, nI_cl, nI_ir, iav, nI_1, nI_mul6, nI_6mul, nI_lt2, nI_eq2, nI_neg, nI_m1, ltv, nI_z, upd_at, upd_off, upr_off, usv, upd_upd]
    | some q =>
      have hq := hb q rfl
      obtain ⟨e1, e2, -, r1, r2, -⟩ := hp q hq
      have i1 : (0 - xs q) + (xs q - 0) = xs q := by omega
      have i2 : (0 - ys q) + (ys q - 0) = ys q := by omega
      simp (maxSteps := 400000) (disch := first | omega | assumption) only [e174, e175, e177, oI_n, oI_s, m1, s176, e1, e2, a32, a38, ab_1 r1, ab_1 r2, nI_add, cxO, i1, i2, kv, rv, tv, lnv, lv0, clv, clr_i, clr_r, clr_n, clr_l, true_and, and_true, Option.toList_some, Option.toList_none, List.cons_append, List.nil_append, bI_0, bI_1, bI_or, ↓reduceIte, or_true, true_or, eq_self, irv, i0_add, not_true_eq_false, not_false_eq_true, Bool.false_eq_true, and_false, false_and, or_false, false_or, reduceCtorEq, nev, ngv, nc_or, in64, l64v, ite_not, ite_notP, up2_upr, upr_upr, upr_at, nI_cl, nI_ir, iav, nI_1, nI_mul6, nI_6mul, nI_lt2, nI_eq2, nI_neg, nI_m1, ltv, nI_z, upd_at, upd_off, upr_off, usv, upd_upd]
  | some p =>
    have hpp := ha p rfl
    obtain ⟨e1, e2, -, r1, r2, -⟩ := hp p hpp
    cases b with
    | none =>
      have i1 : (xs p - 0) + (0 - xs p) = xs p := by omega
      have i2 : (ys p - 0) + (0 - ys p) = ys p := by omega
      simp (maxSteps := 400000) (disch := first | omega | assumption) only [e174, e175, e177, oI_n, oI_s, m1, s176, e1, e2, a32, a38, ab_2 r1, ab_2 r2, nI_add, cxO, i1, i2, kv, rv, tv, lnv, lv0, clv, clr_i, clr_r, clr_n, clr_l, true_and, and_true, Option.toList_some, Option.toList_none, List.cons_append, List.nil_append, bI_0, bI_1, bI_or, ↓reduceIte, or_true, true_or, eq_self, irv, i0_add, not_true_eq_false, not_false_eq_true, Bool.false_eq_true, and_false, false_and, or_false, false_or, reduceCtorEq, nev, ngv, nc_or, in64, l64v, ite_not, ite_notP, up2_upr, upr_upr, upr_at, nI_cl, nI_ir, iav, nI_1, nI_mul6, nI_6mul, nI_lt2, nI_eq2, nI_neg, nI_m1, ltv, nI_z, upd_at, upd_off, upr_off, usv, upd_upd]
    | some q =>
      have hq := hb q rfl
      obtain ⟨f1, f2, -, t1, t2, -⟩ := hp q hq
      simp (maxSteps := 400000) (disch := first | omega | assumption) only [e174, e175, e177, oI_n, oI_s, m1, s176, e1, e2, f1, f2, a32, a38, ab_s _ r1 _ t1, ab_s _ r2 _ t2, nI_add, cxO, kv, rv, tv, lnv, lv0, clv, clr_i, clr_r, clr_n, clr_l, true_and, and_true, Option.toList_some, Option.toList_none, List.cons_append, List.nil_append, bI_0, bI_1, bI_or, ↓reduceIte, or_true, true_or, eq_self, irv, i0_add, not_true_eq_false, not_false_eq_true, Bool.false_eq_true, and_false, false_and, or_false, false_or, reduceCtorEq, nev, ngv, nc_or, in64, l64v, ite_not, ite_notP, up2_upr, upr_upr, upr_at, nI_cl, nI_ir, iav, nI_1, nI_mul6, nI_6mul, nI_lt2, nI_eq2, nI_neg, nI_m1, ltv, nI_z, upd_at, upd_off, upr_off, usv, upd_upd]
def rB (r : Nat → Int32) (b : Int32 × Int32 × Int32) : Nat → Int32 := upd (upd (upd r 26 b.1) 27 b.2.1) 28 b.2.2
theorem rB_s (r : Nat → Int32) (b : Int32 × Int32 × Int32) : rB r b 26 = b.1 ∧ rB r b 27 = b.2.1 ∧ rB r b 28 = b.2.2 := ⟨rfl, rfl, rfl⟩
theorem rB_u (r : Nat → Int32) (w s g : Int32) (b : Int32 × Int32 × Int32) : upd (upd (upd (rB r b) 26 w) 27 s) 28 g = rB r (w, s, g) := by
  unfold rB
  funext q
  by_cases h3 : q = 28
  · rw [h3, pk_us, pk_us]
  · rw [pk_un h3, pk_un h3]
    by_cases h2 : q = 27
    · rw [h2, pk_us, pk_us]
    · rw [pk_un h2, pk_un h2]
      by_cases h1 : q = 26
      · rw [h1, pk_us, pk_us]
      · rw [pk_un h1, pk_un h1, pk_un h3, pk_un h2, pk_un h1]
noncomputable def btF (w s g : Int32) (b : Int32 × Int32 × Int32) : Int32 × Int32 × Int32 := @ite _ (btP w s g b) (Classical.propDecidable _) (w, s, g) b
theorem s178 (d : Nat) (w s g : Int32) (b : Int32 × Int32 × Int32) (r : Nat → Int32) (N : Mem) (Q : Option Value → Mem → Prop) (h : N 40 = rB r b) : Wp d 178 0 [.ref 40, .int w, .int s, .int g, .null] [] N Q ↔ Q none (upr N 40 (rB r (btF w s g b))) := by
  have e1 : N 40 26 = b.1 := by rw [h]; rfl
  have e2 : N 40 27 = b.2.1 := by rw [h]; rfl
  have e3 : N 40 28 = b.2.2 := by rw [h]; rfl
  have eu : ∀ w s g, upd (upd (upd (N 40) 26 w) 27 s) 28 g = rB r (w, s, g) := fun w s g => by rw [h, rB_u]
  have hid : rB r (b.1, b.2.1, b.2.2) = rB r b := rfl
  unfold btF
  by_cases hb : btP w s g b
  · rw [if_pos hb]
    unfold btP at hb
    by_cases c1 : b.1 < w
    · simp (maxSteps := 400000) (disch := first | omega | assumption) only [e178, e1, e2, e3, iff_true_intro c1, eu, z01, kv, rv, tv, lnv, lv0, clv, clr_i, clr_r, clr_n, clr_l, true_and, and_true, Option.toList_some, Option.toList_none, List.cons_append, List.nil_append, bI_0, bI_1, bI_or, ↓reduceIte, or_true, true_or, eq_self, irv, i0_add, not_true_eq_false, not_false_eq_true, Bool.false_eq_true, and_false, false_and, or_false, false_or, reduceCtorEq, nev, ngv, nc_or, in64, l64v, ite_not, ite_notP, up2_upr, upr_upr, upr_at, nI_cl, nI_ir, iav, nI_1, nI_mul6, nI_6mul, nI_lt2, nI_eq2, nI_neg, nI_m1, ltv, nI_z, upd_at, upd_off, upr_off, usv, upd_upd]
    · have hb2 := hb.resolve_left c1
      by_cases c2 : s < b.2.1
      · simp (maxSteps := 400000) (disch := first | omega | assumption) only [e178, e1, e2, e3, iff_false_intro c1, iff_true_intro hb2.1, iff_true_intro c2, eu, z01, kv, rv, tv, lnv, lv0, clv, clr_i, clr_r, clr_n, clr_l, true_and, and_true, Option.toList_some, Option.toList_none, List.cons_append, List.nil_append, bI_0, bI_1, bI_or, ↓reduceIte, or_true, true_or, eq_self, irv, i0_add, not_true_eq_false, not_false_eq_true, Bool.false_eq_true, and_false, false_and, or_false, false_or, reduceCtorEq, nev, ngv, nc_or, in64, l64v, ite_not, ite_notP, up2_upr, upr_upr, upr_at, nI_cl, nI_ir, iav, nI_1, nI_mul6, nI_6mul, nI_lt2, nI_eq2, nI_neg, nI_m1, ltv, nI_z, upd_at, upd_off, upr_off, usv, upd_upd]
      · have hb3 := hb2.2.resolve_left c2
        simp (maxSteps := 400000) (disch := first | omega | assumption) only [e178, e1, e2, e3, iff_false_intro c1, iff_true_intro hb2.1, iff_false_intro c2, iff_true_intro hb3.1, iff_true_intro hb3.2, eu, z01, kv, rv, tv, lnv, lv0, clv, clr_i, clr_r, clr_n, clr_l, true_and, and_true, Option.toList_some, Option.toList_none, List.cons_append, List.nil_append, bI_0, bI_1, bI_or, ↓reduceIte, or_true, true_or, eq_self, irv, i0_add, not_true_eq_false, not_false_eq_true, Bool.false_eq_true, and_false, false_and, or_false, false_or, reduceCtorEq, nev, ngv, nc_or, in64, l64v, ite_not, ite_notP, up2_upr, upr_upr, upr_at, nI_cl, nI_ir, iav, nI_1, nI_mul6, nI_6mul, nI_lt2, nI_eq2, nI_neg, nI_m1, ltv, nI_z, upd_at, upd_off, upr_off, usv, upd_upd]
  · rw [if_neg hb]
    unfold btP at hb
    have c1 : ¬ b.1 < w := fun z => hb (Or.inl z)
    by_cases c2 : w = b.1
    · have c3 : ¬ s < b.2.1 := fun z => hb (Or.inr ⟨c2, Or.inl z⟩)
      by_cases c4 : s = b.2.1
      · have c5 : ¬ g < b.2.2 := fun z => hb (Or.inr ⟨c2, Or.inr ⟨c4, z⟩⟩)
        simp (maxSteps := 400000) (disch := first | omega | assumption) only [e178, e1, e2, e3, iff_false_intro c1, iff_true_intro c2, iff_false_intro c3, iff_true_intro c4, iff_false_intro c5, eu, z01, hid, kv, rv, tv, lnv, lv0, clv, clr_i, clr_r, clr_n, clr_l, true_and, and_true, Option.toList_some, Option.toList_none, List.cons_append, List.nil_append, bI_0, bI_1, bI_or, ↓reduceIte, or_true, true_or, eq_self, irv, i0_add, not_true_eq_false, not_false_eq_true, Bool.false_eq_true, and_false, false_and, or_false, false_or, reduceCtorEq, nev, ngv, nc_or, in64, l64v, ite_not, ite_notP, up2_upr, upr_upr, upr_at, nI_cl, nI_ir, iav, nI_1, nI_mul6, nI_6mul, nI_lt2, nI_eq2, nI_neg, nI_m1, ltv, nI_z, upd_at, upd_off, upr_off, usv, upd_upd]
      · simp (maxSteps := 400000) (disch := first | omega | assumption) only [e178, e1, e2, e3, iff_false_intro c1, iff_true_intro c2, iff_false_intro c3, iff_false_intro c4, eu, z01, hid, kv, rv, tv, lnv, lv0, clv, clr_i, clr_r, clr_n, clr_l, true_and, and_true, Option.toList_some, Option.toList_none, List.cons_append, List.nil_append, bI_0, bI_1, bI_or, ↓reduceIte, or_true, true_or, eq_self, irv, i0_add, not_true_eq_false, not_false_eq_true, Bool.false_eq_true, and_false, false_and, or_false, false_or, reduceCtorEq, nev, ngv, nc_or, in64, l64v, ite_not, ite_notP, up2_upr, upr_upr, upr_at, nI_cl, nI_ir, iav, nI_1, nI_mul6, nI_6mul, nI_lt2, nI_eq2, nI_neg, nI_m1, ltv, nI_z, upd_at, upd_off, upr_off, usv, upd_upd]
    · simp (maxSteps := 400000) (disch := first | omega | assumption) only [e178, e1, e2, e3, iff_false_intro c1, iff_false_intro c2, eu, z01, hid, kv, rv, tv, lnv, lv0, clv, clr_i, clr_r, clr_n, clr_l, true_and, and_true, Option.toList_some, Option.toList_none, List.cons_append, List.nil_append, bI_0, bI_1, bI_or, ↓reduceIte, or_true, true_or, eq_self, irv, i0_add, not_true_eq_false, not_false_eq_true, Bool.false_eq_true, and_false, false_and, or_false, false_or, reduceCtorEq, nev, ngv, nc_or, in64, l64v, ite_not, ite_notP, up2_upr, upr_upr, upr_at, nI_cl, nI_ir, iav, nI_1, nI_mul6, nI_6mul, nI_lt2, nI_eq2, nI_neg, nI_m1, ltv, nI_z, upd_at, upd_off, upr_off, usv, upd_upd]
