/-! part 47: reading: the reference's steps -/
def rS (r : Nat → Int32) (a b s n v : Int32) : Nat → Int32 := fun q => if q = 16 then a else if q = 17 then b else if q = 18 then s else if q = 19 then n else if q = 20 then v else r q
theorem rS_r (r : Nat → Int32) (a b s n v : Int32) : rS r a b s n v 16 = a ∧ rS r a b s n v 17 = b ∧ rS r a b s n v 18 = s ∧ rS r a b s n v 19 = n ∧ rS r a b s n v 20 = v ∧ rS r a b s n v 10 = r 10 ∧ rS r a b s n v 21 = r 21 := ⟨rfl, rfl, rfl, rfl, rfl, rfl, rfl⟩
theorem rS_u (r : Nat → Int32) (a b s n v x : Int32) : upd (rS r a b s n v) 16 x = rS r x b s n v ∧ upd (rS r a b s n v) 17 x = rS r a x s n v ∧ upd (rS r a b s n v) 18 x = rS r a b x n v ∧ upd (rS r a b s n v) 19 x = rS r a b s x v ∧ upd (rS r a b s n v) 20 x = rS r a b s n x := by
  have h : ∀ k y q, upd (rS r a b s n v) k y q = if q = k then y else rS r a b s n v q := fun _ _ _ => rfl
  refine ⟨?_, ?_, ?_, ?_, ?_⟩ <;> (funext q; rw [h]; unfold rS; by_cases h1 : q = 16 <;> by_cases h2 : q = 17 <;> by_cases h3 : q = 18 <;> by_cases h4 : q = 19 <;> by_cases h5 : q = 20 <;> first | omega | simp [h1, h2, h3, h4, h5])
theorem rS_id (r : Nat → Int32) : rS r (r 16) (r 17) (r 18) (r 19) (r 20) = r := by
  funext q
  unfold rS
  by_cases h1 : q = 16
  · rw [if_pos h1, h1]
  · rw [if_neg h1]
    by_cases h2 : q = 17
    · rw [if_pos h2, h2]
    · rw [if_neg h2]
      by_cases h3 : q = 18
      · rw [if_pos h3, h3]
      · rw [if_neg h3]
        by_cases h4 : q = 19
        · rw [if_pos h4, h4]
        · rw [if_neg h4]
          by_cases h5 : q = 20
          · rw [if_pos h5, h5]
          · rw [if_neg h5]
theorem h115 (d c a : Nat) (r : Nat → Int32) (b s n v : Int32) (M : Mem) (Q : Option Value → Mem → Prop) (hc : c ≤ 240) (h10 : r 10 = nI c) (ha : a ≤ 240) : Wp d 115 0 [.ref 40] [] (upr M 40 (rS r (nI a) b s n v)) Q ↔ Q (some (.int (sgF (M 48) c a))) (upr M 40 (rS r (nI a) b s n v)) := s115 d c a (upr M 40 (rS r (nI a) b s n v)) Q hc h10 rfl (by omega)
theorem l114a (d c : Nat) (r : Nat → Int32) (b s n v : Int32) (M : Mem) (Q : Option Value → Mem → Prop) (hc : c ≤ 240) (h10 : r 10 = nI c) : ∀ f a, c ≤ a + f → a ≤ c → (Wp (d + 1) 114 0 [.ref 40] [] (upr M 40 (rS r (nI a) b s n v)) Q ↔ Wp (d + 1) 114 22 [.ref 40] [] (upr M 40 (rS r (nI (skN (M 48) c f a)) b s n v)) Q)
  | 0, a, h, ha => by
    have e := fun d Q => h115 d c a r b s n v M Q hc h10 (by omega)
    have hs : ¬ sgF (M 48) c a = 32 := by rw [sg_end (by omega)]; decide
    rw [h114_0, skN]
    simp (maxSteps := 400000) (disch := first | omega | assumption) only [e114_0, e114_1, e, hs, rS_r, rS_u, kv, rv, tv, lnv, lv0, clv, clr_i, clr_r, clr_n, clr_l, true_and, and_true, Option.toList_some, Option.toList_none, List.cons_append, List.nil_append, bI_0, bI_1, bI_or, ↓reduceIte, or_true, true_or, eq_self, irv, i0_add, not_true_eq_false, not_false_eq_true, Bool.false_eq_true, and_false, false_and, or_false, false_or, reduceCtorEq, nev, ngv, nc_or, in64, l64v, ite_not, ite_notP, up2_upr, upr_upr, upr_at, nI_cl, nI_ir, iav, nI_1, nI_mul6, nI_6mul, nI_lt2, nI_eq2, nI_neg, nI_m1, ltv, nI_z, upd_at, upd_off, upr_off, usv, upd_upd]
  | f + 1, a, h, ha => by
    have e := fun d Q => h115 d c a r b s n v M Q hc h10 (by omega)
    rw [skN]
    by_cases hs : sgF (M 48) c a = 32
    · have hac : a < c := by
        apply Classical.byContradiction
        intro z
        rw [sg_end (by omega)] at hs
        exact absurd hs (by decide)
      rw [if_pos hs, ← l114a d c r b s n v M Q hc h10 f (a + 1) (by omega) (by omega), h114_0]
      simp (maxSteps := 400000) (disch := first | omega | assumption) only [e114_0, e114_1, e, hs, rS_r, rS_u, kv, rv, tv, lnv, lv0, clv, clr_i, clr_r, clr_n, clr_l, true_and, and_true, Option.toList_some, Option.toList_none, List.cons_append, List.nil_append, bI_0, bI_1, bI_or, ↓reduceIte, or_true, true_or, eq_self, irv, i0_add, not_true_eq_false, not_false_eq_true, Bool.false_eq_true, and_false, false_and, or_false, false_or, reduceCtorEq, nev, ngv, nc_or, in64, l64v, ite_not, ite_notP, up2_upr, upr_upr, upr_at, nI_cl, nI_ir, iav, nI_1, nI_mul6, nI_6mul, nI_lt2, nI_eq2, nI_neg, nI_m1, ltv, nI_z, upd_at, upd_off, upr_off, usv, upd_upd]
    · rw [if_neg hs, h114_0]
      simp (maxSteps := 400000) (disch := first | omega | assumption) only [e114_0, e114_1, e, hs, rS_r, rS_u, kv, rv, tv, lnv, lv0, clv, clr_i, clr_r, clr_n, clr_l, true_and, and_true, Option.toList_some, Option.toList_none, List.cons_append, List.nil_append, bI_0, bI_1, bI_or, ↓reduceIte, or_true, true_or, eq_self, irv, i0_add, not_true_eq_false, not_false_eq_true, Bool.false_eq_true, and_false, false_and, or_false, false_or, reduceCtorEq, nev, ngv, nc_or, in64, l64v, ite_not, ite_notP, up2_upr, upr_upr, upr_at, nI_cl, nI_ir, iav, nI_1, nI_mul6, nI_6mul, nI_lt2, nI_eq2, nI_neg, nI_m1, ltv, nI_z, upd_at, upd_off, upr_off, usv, upd_upd]
theorem l114b (d c : Nat) (r : Nat → Int32) (b s : Int32) (M : Mem) (Q : Option Value → Mem → Prop) (hc : c ≤ 240) (h10 : r 10 = nI c) : ∀ f i a v, c ≤ a + f → a ≤ c → i ≤ a → (Wp (d + 1) 114 93 [.ref 40] [] (upr M 40 (rS r (nI a) b s (nI i) v)) Q ↔ Q none (upr M 40 (rS r (nI (dgF (M 48) c f i a v).2.1) b s (nI (dgF (M 48) c f i a v).1) (dgF (M 48) c f i a v).2.2)))
  | 0, i, a, v, h, ha, hia => by
    have e := fun d Q => h115 d c a r b s (nI i) v M Q hc h10 (by omega)
    have hs : ¬ rg (sgF (M 48) c a) 48 57 := by rw [sg_end (by omega)]; exact fg_end
    rw [h114_93, dgF]
    simp (maxSteps := 400000) (disch := first | omega | assumption) only [e114_0, e114_1, e, s112i, iff_false_intro hs, bI_F, rS_r, rS_u, kv, rv, tv, lnv, lv0, clv, clr_i, clr_r, clr_n, clr_l, true_and, and_true, Option.toList_some, Option.toList_none, List.cons_append, List.nil_append, bI_0, bI_1, bI_or, ↓reduceIte, or_true, true_or, eq_self, irv, i0_add, not_true_eq_false, not_false_eq_true, Bool.false_eq_true, and_false, false_and, or_false, false_or, reduceCtorEq, nev, ngv, nc_or, in64, l64v, ite_not, ite_notP, up2_upr, upr_upr, upr_at, nI_cl, nI_ir, iav, nI_1, nI_mul6, nI_6mul, nI_lt2, nI_eq2, nI_neg, nI_m1, ltv, nI_z, upd_at, upd_off, upr_off, usv, upd_upd]
  | f + 1, i, a, v, h, ha, hia => by
    have e := fun d v Q => h115 d c a r b s (nI i) v M Q hc h10 (by omega)
    by_cases hs : rg (sgF (M 48) c a) 48 57
    · have hac := fg_c hs
      rw [dgF_S.1 hs, ← l114b d c r b s M Q hc h10 f (i + 1) (a + 1) _ (by omega) (by omega) (by omega), h114_93]
      by_cases h3 : i < 3
      · rw [if_pos h3, Int32.mul_comm v 10]
        simp (maxSteps := 400000) (disch := first | omega | assumption) only [e114_0, e114_1, e, s112i, iff_true_intro hs, bI_T, z01, rS_r, rS_u, h3, kv, rv, tv, lnv, lv0, clv, clr_i, clr_r, clr_n, clr_l, true_and, and_true, Option.toList_some, Option.toList_none, List.cons_append, List.nil_append, bI_0, bI_1, bI_or, ↓reduceIte, or_true, true_or, eq_self, irv, i0_add, not_true_eq_false, not_false_eq_true, Bool.false_eq_true, and_false, false_and, or_false, false_or, reduceCtorEq, nev, ngv, nc_or, in64, l64v, ite_not, ite_notP, up2_upr, upr_upr, upr_at, nI_cl, nI_ir, iav, nI_1, nI_mul6, nI_6mul, nI_lt2, nI_eq2, nI_neg, nI_m1, ltv, nI_z, upd_at, upd_off, upr_off, usv, upd_upd]
      · rw [if_neg h3]
        simp (maxSteps := 400000) (disch := first | omega | assumption) only [e114_0, e114_1, e, s112i, iff_true_intro hs, bI_T, z01, rS_r, rS_u, h3, kv, rv, tv, lnv, lv0, clv, clr_i, clr_r, clr_n, clr_l, true_and, and_true, Option.toList_some, Option.toList_none, List.cons_append, List.nil_append, bI_0, bI_1, bI_or, ↓reduceIte, or_true, true_or, eq_self, irv, i0_add, not_true_eq_false, not_false_eq_true, Bool.false_eq_true, and_false, false_and, or_false, false_or, reduceCtorEq, nev, ngv, nc_or, in64, l64v, ite_not, ite_notP, up2_upr, upr_upr, upr_at, nI_cl, nI_ir, iav, nI_1, nI_mul6, nI_6mul, nI_lt2, nI_eq2, nI_neg, nI_m1, ltv, nI_z, upd_at, upd_off, upr_off, usv, upd_upd]
    · rw [dgF_S.2 hs, h114_93]
      simp (maxSteps := 400000) (disch := first | omega | assumption) only [e114_0, e114_1, e, s112i, iff_false_intro hs, bI_F, rS_r, rS_u, kv, rv, tv, lnv, lv0, clv, clr_i, clr_r, clr_n, clr_l, true_and, and_true, Option.toList_some, Option.toList_none, List.cons_append, List.nil_append, bI_0, bI_1, bI_or, ↓reduceIte, or_true, true_or, eq_self, irv, i0_add, not_true_eq_false, not_false_eq_true, Bool.false_eq_true, and_false, false_and, or_false, false_or, reduceCtorEq, nev, ngv, nc_or, in64, l64v, ite_not, ite_notP, up2_upr, upr_upr, upr_at, nI_cl, nI_ir, iav, nI_1, nI_mul6, nI_6mul, nI_lt2, nI_eq2, nI_neg, nI_m1, ltv, nI_z, upd_at, upd_off, upr_off, usv, upd_upd]
/-- a step from a: where it ends, where it began, what it met -/
noncomputable def stS (T : Nat → Int32) (c a : Nat) (r : Nat → Int32) : Nat → Int32 := @ite _ (rg (sgF T c (skN T c 240 a)) 48 57) (Classical.propDecidable _) (rS r (nI (dgF T c 240 0 (skN T c 240 a) 0).2.1) (nI (skN T c 240 a)) 48 (nI (dgF T c 240 0 (skN T c 240 a) 0).1) (dgF T c 240 0 (skN T c 240 a) 0).2.2) (rS r (nI (if sgF T c (skN T c 240 a) < 0 then skN T c 240 a else skN T c 240 a + 1)) (nI (skN T c 240 a)) (sgF T c (skN T c 240 a)) 0 0)
theorem s114 (d c a : Nat) (N : Mem) (Q : Option Value → Mem → Prop) (hc : c ≤ 240) (h10 : N 40 10 = nI c) (ha : a ≤ c) (h16 : N 40 16 = nI a) : Wp (d + 1) 114 0 [.ref 40] [] N Q ↔ Q none (upr N 40 (stS (N 48) c a (N 40))) := by
  have e0 : N = upr N 40 (rS (N 40) (nI a) (N 40 17) (N 40 18) (N 40 19) (N 40 20)) := by rw [← h16, rS_id, upr_id]
  have el := l114a d c (N 40) (N 40 17) (N 40 18) (N 40 19) (N 40 20) N Q hc h10 240 a (by omega) ha
  rw [← e0] at el
  rw [el]
  have hq := skN_le (N 48) c 240 a ha
  unfold stS
  generalize skN (N 48) c 240 a = q at hq ⊢
  have e := fun d b s n v Q => h115 d c q (N 40) b s n v N Q hc h10 (by omega)
  by_cases hs : rg (sgF (N 48) c q) 48 57
  · rw [if_pos hs]
    have lb := l114b d c (N 40) (nI q) 48 N Q hc h10 240 0 q 0 (by omega) hq (by omega)
    rw [← lb]
    simp (maxSteps := 400000) (disch := first | omega | assumption) only [e114_0, e114_1, e, s112i, iff_true_intro hs, bI_T, z01, rS_r, rS_u, kv, rv, tv, lnv, lv0, clv, clr_i, clr_r, clr_n, clr_l, true_and, and_true, Option.toList_some, Option.toList_none, List.cons_append, List.nil_append, bI_0, bI_1, bI_or, ↓reduceIte, or_true, true_or, eq_self, irv, i0_add, not_true_eq_false, not_false_eq_true, Bool.false_eq_true, and_false, false_and, or_false, false_or, reduceCtorEq, nev, ngv, nc_or, in64, l64v, ite_not, ite_notP, up2_upr, upr_upr, upr_at, nI_cl, nI_ir, iav, nI_1, nI_mul6, nI_6mul, nI_lt2, nI_eq2, nI_neg, nI_m1, ltv, nI_z, upd_at, upd_off, upr_off, usv, upd_upd]
    exact Iff.rfl
  · rw [if_neg hs]
    by_cases hn : sgF (N 48) c q < 0
    · rw [if_pos hn]
      simp (maxSteps := 400000) (disch := first | omega | assumption) only [e114_0, e114_1, e, s112i, iff_false_intro hs, bI_F, z01, rS_r, rS_u, iff_true_intro hn, Int32.add_zero, kv, rv, tv, lnv, lv0, clv, clr_i, clr_r, clr_n, clr_l, true_and, and_true, Option.toList_some, Option.toList_none, List.cons_append, List.nil_append, bI_0, bI_1, bI_or, ↓reduceIte, or_true, true_or, eq_self, irv, i0_add, not_true_eq_false, not_false_eq_true, Bool.false_eq_true, and_false, false_and, or_false, false_or, reduceCtorEq, nev, ngv, nc_or, in64, l64v, ite_not, ite_notP, up2_upr, upr_upr, upr_at, nI_cl, nI_ir, iav, nI_1, nI_mul6, nI_6mul, nI_lt2, nI_eq2, nI_neg, nI_m1, ltv, nI_z, upd_at, upd_off, upr_off, usv, upd_upd]
    · rw [if_neg hn]
      simp (maxSteps := 400000) (disch := first | omega | assumption) only [e114_0, e114_1, e, s112i, iff_false_intro hs, bI_F, z01, rS_r, rS_u, iff_false_intro hn, kv, rv, tv, lnv, lv0, clv, clr_i, clr_r, clr_n, clr_l, true_and, and_true, Option.toList_some, Option.toList_none, List.cons_append, List.nil_append, bI_0, bI_1, bI_or, ↓reduceIte, or_true, true_or, eq_self, irv, i0_add, not_true_eq_false, not_false_eq_true, Bool.false_eq_true, and_false, false_and, or_false, false_or, reduceCtorEq, nev, ngv, nc_or, in64, l64v, ite_not, ite_notP, up2_upr, upr_upr, upr_at, nI_cl, nI_ir, iav, nI_1, nI_mul6, nI_6mul, nI_lt2, nI_eq2, nI_neg, nI_m1, ltv, nI_z, upd_at, upd_off, upr_off, usv, upd_upd]
