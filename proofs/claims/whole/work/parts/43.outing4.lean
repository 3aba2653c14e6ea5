/-! part 43: the reference walks -/
theorem usx (M : Mem) (f g : Nat → Int32) : upr (upr M 51 f) 40 g = upr (upr M 40 g) 51 f ∧ upr (upr M 52 f) 40 g = upr (upr M 40 g) 52 f ∧ upr (upr M 52 f) 51 g = upr (upr M 51 g) 52 f ∧ upr (upr M 53 f) 40 g = upr (upr M 40 g) 53 f ∧ upr (upr M 53 f) 51 g = upr (upr M 51 g) 53 f ∧ upr (upr M 53 f) 52 g = upr (upr M 52 g) 53 f ∧ upr (upr M 54 f) 40 g = upr (upr M 40 g) 54 f ∧ upr (upr M 54 f) 51 g = upr (upr M 51 g) 54 f ∧ upr (upr M 54 f) 52 g = upr (upr M 52 g) 54 f ∧ upr (upr M 54 f) 53 g = upr (upr M 53 g) 54 f := by
  refine ⟨?_, ?_, ?_, ?_, ?_, ?_, ?_, ?_, ?_, ?_⟩ <;> exact upr_c (by decide)
def SM (M : Mem) (b : Int32 × Int32 × Int32) (f1 f2 f3 f4 : Nat → Int32) : Mem := upr (upr (upr (upr (upr M 40 (rB (M 40) b)) 51 f1) 52 f2) 53 f3) 54 f4
def PH (np k : Nat) (o : Option Nat) (w s g : Nat) (f1 f2 f3 f4 : Nat → Int32) : Prop := (k = 0 ∧ o = none ∧ w = 0 ∧ s = 0 ∧ g = 0) ∨ (∃ k' q, k = k' + 1 ∧ o = some q ∧ q < np ∧ f1 k' = nI q ∧ f2 k' = nI s ∧ f3 k' = nI w ∧ f4 k' = nI g)
theorem PH_c {np k : Nat} {o : Option Nat} {w s g : Nat} {f1 f2 f3 f4 h1 h2 h3 h4 : Nat → Int32} (h : ∀ i, i < k → h1 i = f1 i ∧ h2 i = f2 i ∧ h3 i = f3 i ∧ h4 i = f4 i) (hp : PH np k o w s g f1 f2 f3 f4) : PH np k o w s g h1 h2 h3 h4 := by
  rcases hp with hp | ⟨k', q, e1, e2, e3, e4, e5, e6, e7⟩
  · exact Or.inl hp
  · obtain ⟨a1, a2, a3, a4⟩ := h k' (by omega)
    exact Or.inr ⟨k', q, e1, e2, e3, a1.trans e4, a2.trans e5, a3.trans e6, a4.trans e7⟩
theorem cut_b : ∀ p, p < 6 → ∀ m, m < 64 → m.testBit p = false → (m ||| 2 ^ p) &&& (63 ^^^ 2 ^ p) = m := by decide +kernel
theorem and_m1 : ∀ m, m < 64 → nI m &&& (-1) = nI m := by decide +kernel
theorem mt_bt (t : Nat) (b : Int32 × Int32 × Int32) (w s g : Nat) : (s ≤ t → mtF t b w s g = btF (nI w) (nI s) (nI g) b) ∧ (¬ s ≤ t → mtF t b w s g = b) := by
  unfold mtF btF
  constructor
  · intro h
    by_cases hb : btP (nI w) (nI s) (nI g) b
    · rw [if_pos ⟨h, hb⟩, if_pos hb]
    · rw [if_neg (fun z => hb z.2), if_neg hb]
  · intro h
    rw [if_neg (fun z => h z.1)]
theorem dN_bm {np : Nat} {xs ys ws : Nat → Nat} {M : Mem} (hP : PLM M np xs ys ws) {a b : Option Nat} (ha : ∀ p, a = some p → p < np) (hb : ∀ p, b = some p → p < np) : dN xs ys a b ≤ 40 := by
  have h : ∀ o : Option Nat, (∀ p, o = some p → p < np) → cxO xs o ≤ 20 ∧ cxO ys o ≤ 20 := by
    intro o ho
    cases o with
    | none => exact ⟨by simp [cxO], by simp [cxO]⟩
    | some p => exact ⟨(hP.2.2 p (ho p rfl)).2.2.2.1, (hP.2.2 p (ho p rfl)).2.2.2.2.1⟩
  have h1 := h a ha
  have h2 := h b hb
  unfold dN
  omega
/-- one node is met: from the inner head to the outer head, one deeper -/
theorem n173 (d np t : Nat) (xs ys ws : Nat → Nat) (M : Mem) (ht : t ≤ 99) (hP : PLM M np xs ys ws) (k seen p w s g : Nat) (o : Option Nat) (b : Int32 × Int32 × Int32) (f1 f2 f3 f4 : Nat → Int32) (x y : Value) (Q : Option Value → Mem → Prop) (hk : k < 6) (hs : s ≤ 40 * k) (hse : seen < 64) (hp : p < np) (hb : seen.testBit p = false) (h1 : f1 k = nI p) (ho : ∀ p, o = some p → p < np) (hH : PH np k o w s g f1 f2 f3 f4) : Wp (d + 3) 173 66 [.ref 40, .int (nI t), .int (nI seen), .int (nI k), x, y] [] (SM M b f1 f2 f3 f4) Q ↔ Wp (d + 3) 173 26 [.ref 40, .int (nI t), .int (nI (seen ||| 2 ^ p)), .int (nI (k + 1)), .int (nI p), .int (nI (s + dN xs ys o (some p)))] [] (SM M (mtF t b (w + ws p) (s + dN xs ys o (some p) + dN xs ys (some p) none) (g * 10 + p + 1)) (upd f1 (k + 1) (-1)) (upd f2 k (nI (s + dN xs ys o (some p)))) (upd f3 k (nI (w + ws p))) (upd f4 k (nI (g * 10 + p + 1)))) Q := by
  obtain ⟨h6, h5, hpl⟩ := id hP
  have hp6 : p < 6 := by omega
  have e44 := (hpl p hp).2.2.1
  have a44 : (44 : Int32) + nI p = nI (44 + p) := nI_add 44 p
  have PN : ∀ N : Mem, N 41 = M 41 → PLM N np xs ys ws := fun N h => by unfold PLM; rw [h]; exact hP
  have e1 := fun (N : Mem) (h : N 41 = M 41) d Q => s174 d np xs ys ws o (some p) N Q (PN N h) ho (fun q e => by cases e; exact hp)
  have e2 := fun (N : Mem) (h : N 41 = M 41) d Q => s174 d np xs ys ws (some p) none N Q (PN N h) (fun q e => by cases e; exact hp) (fun q e => by cases e)
  have e3 := fun (N : Mem) (h : N 40 = rB (M 40) b) d w s g Q => s178 d w s g b (M 40) N Q h
  have hbt := (bt_iff p hp6 seen hse).trans (iff_false_intro (by rw [hb]; decide))
  have g10 : ∀ g, (10 : Int32) * nI g = nI (g * 10) := fun g => by rw [Nat.mul_comm]; exact pk_mul 10 g
  have i17 : inr 1 7 ↔ True := nI_ir (a := 1) (n := 7) (by omega) (by omega)
  simp only [oI_s, oI_n] at e1 e2
  rw [h173_66]
  unfold SM
  have hd1 : dN xs ys o (some p) ≤ 40 := dN_bm hP ho (fun q e => by cases e; exact hp)
  have hd2 : dN xs ys (some p) none ≤ 40 := dN_bm hP (fun q e => by cases e; exact hp) (fun q e => by cases e)
  obtain ⟨m1, m2⟩ := mt_bt t b (w + ws p) (s + dN xs ys o (some p) + dN xs ys (some p) none) (g * 10 + p + 1)
  by_cases hle : s + dN xs ys o (some p) + dN xs ys (some p) none ≤ t
  · rw [m1 hle]
    have hle' : ¬ t < s + dN xs ys o (some p) + dN xs ys (some p) none := by omega
    rcases hH with ⟨rfl, rfl, rfl, rfl, rfl⟩ | ⟨k', q, rfl, rfl, hq, q1, q2, q3, q4⟩
    · simp only [oI_n] at e1
      rw [Nat.zero_add] at hle'
      simp (maxSteps := 400000) (disch := first | omega | assumption | (simp (disch := omega) only [upr_off, upr_at, upd_off, upd_at] <;> assumption)) only [e173_0, e173_1, e173_2, e173_3, usx, h1, h5, hp, s129, hbt, bI_F, z01, e1, e2, e3, nI_add, or_bit p hp6 seen hse, a44, e44, hle', Nat.zero_add, Nat.zero_mul, nI_0, i17, kv, rv, tv, lnv, lv0, clv, clr_i, clr_r, clr_n, clr_l, true_and, and_true, Option.toList_some, Option.toList_none, List.cons_append, List.nil_append, bI_0, bI_1, bI_or, ↓reduceIte, or_true, true_or, eq_self, irv, i0_add, not_true_eq_false, not_false_eq_true, Bool.false_eq_true, and_false, false_and, or_false, false_or, reduceCtorEq, nev, ngv, nc_or, in64, l64v, ite_not, ite_notP, up2_upr, upr_upr, upr_at, nI_cl, nI_ir, iav, nI_1, nI_mul6, nI_6mul, nI_lt2, nI_eq2, nI_neg, nI_m1, ltv, nI_z, upd_at, upd_off, upr_off, usv, upd_upd]
      exact Iff.rfl
    · simp only [oI_s] at e1
      have e0 : nI (k' + 1) - 1 = nI k' := nI_pred k'
      simp (maxSteps := 400000) (disch := first | omega | assumption | (simp (disch := omega) only [upr_off, upr_at, upd_off, upd_at] <;> assumption)) only [e173_0, e173_1, e173_2, e173_3, usx, h1, h5, hp, s129, hbt, bI_F, z01, e0, q1, q2, q3, q4, e1, e2, e3, nI_add, or_bit p hp6 seen hse, a44, e44, g10, hle', kv, rv, tv, lnv, lv0, clv, clr_i, clr_r, clr_n, clr_l, true_and, and_true, Option.toList_some, Option.toList_none, List.cons_append, List.nil_append, bI_0, bI_1, bI_or, ↓reduceIte, or_true, true_or, eq_self, irv, i0_add, not_true_eq_false, not_false_eq_true, Bool.false_eq_true, and_false, false_and, or_false, false_or, reduceCtorEq, nev, ngv, nc_or, in64, l64v, ite_not, ite_notP, up2_upr, upr_upr, upr_at, nI_cl, nI_ir, iav, nI_1, nI_mul6, nI_6mul, nI_lt2, nI_eq2, nI_neg, nI_m1, ltv, nI_z, upd_at, upd_off, upr_off, usv, upd_upd]
  · rw [m2 hle]
    have hle' : t < s + dN xs ys o (some p) + dN xs ys (some p) none := by omega
    rcases hH with ⟨rfl, rfl, rfl, rfl, rfl⟩ | ⟨k', q, rfl, rfl, hq, q1, q2, q3, q4⟩
    · simp only [oI_n] at e1
      rw [Nat.zero_add] at hle'
      simp (maxSteps := 400000) (disch := first | omega | assumption | (simp (disch := omega) only [upr_off, upr_at, upd_off, upd_at] <;> assumption)) only [e173_0, e173_1, e173_2, e173_3, usx, h1, h5, hp, s129, hbt, bI_F, z01, e1, e2, e3, nI_add, or_bit p hp6 seen hse, a44, e44, hle', Nat.zero_add, Nat.zero_mul, nI_0, i17, kv, rv, tv, lnv, lv0, clv, clr_i, clr_r, clr_n, clr_l, true_and, and_true, Option.toList_some, Option.toList_none, List.cons_append, List.nil_append, bI_0, bI_1, bI_or, ↓reduceIte, or_true, true_or, eq_self, irv, i0_add, not_true_eq_false, not_false_eq_true, Bool.false_eq_true, and_false, false_and, or_false, false_or, reduceCtorEq, nev, ngv, nc_or, in64, l64v, ite_not, ite_notP, up2_upr, upr_upr, upr_at, nI_cl, nI_ir, iav, nI_1, nI_mul6, nI_6mul, nI_lt2, nI_eq2, nI_neg, nI_m1, ltv, nI_z, upd_at, upd_off, upr_off, usv, upd_upd]
      exact Iff.rfl
    · simp only [oI_s] at e1
      have e0 : nI (k' + 1) - 1 = nI k' := nI_pred k'
      simp (maxSteps := 400000) (disch := first | omega | assumption | (simp (disch := omega) only [upr_off, upr_at, upd_off, upd_at] <;> assumption)) only [e173_0, e173_1, e173_2, e173_3, usx, h1, h5, hp, s129, hbt, bI_F, z01, e0, q1, q2, q3, q4, e1, e2, e3, nI_add, or_bit p hp6 seen hse, a44, e44, g10, hle', kv, rv, tv, lnv, lv0, clv, clr_i, clr_r, clr_n, clr_l, true_and, and_true, Option.toList_some, Option.toList_none, List.cons_append, List.nil_append, bI_0, bI_1, bI_or, ↓reduceIte, or_true, true_or, eq_self, irv, i0_add, not_true_eq_false, not_false_eq_true, Bool.false_eq_true, and_false, false_and, or_false, false_or, reduceCtorEq, nev, ngv, nc_or, in64, l64v, ite_not, ite_notP, up2_upr, upr_upr, upr_at, nI_cl, nI_ir, iav, nI_1, nI_mul6, nI_6mul, nI_lt2, nI_eq2, nI_neg, nI_m1, ltv, nI_z, upd_at, upd_off, upr_off, usv, upd_upd]
theorem l173 (d np t : Nat) (xs ys ws : Nat → Nat) (M : Mem) (ht : t ≤ 99) (hP : PLM M np xs ys ws) : ∀ f k seen o w s g, k + f + 1 = 7 → seen < 64 → pcN seen = k → (∀ p, o = some p → p < np) → s ≤ 40 * k → ∀ j p b f1 f2 f3 f4 x y (Q : Option Value → Mem → Prop), p + j = np → f1 k = nI p → PH np k o w s g f1 f2 f3 f4 → ∃ h1 h2 h3 h4 x' y', (∀ i, i < k → h1 i = f1 i ∧ h2 i = f2 i ∧ h3 i = f3 i ∧ h4 i = f4 i) ∧ (Wp (d + 3) 173 66 [.ref 40, .int (nI t), .int (nI seen), .int (nI k), x, y] [] (SM M b f1 f2 f3 f4) Q ↔ Wp (d + 3) 173 26 [.ref 40, .int (nI t), .int (nI seen), .int (nI k + -1), x', y'] [] (SM M (kdF (fun p b => if seen.testBit p = true then b else goF np t xs ys ws f (seen ||| 2 ^ p) (some p) (w + ws p) (s + dN xs ys o (some p)) (g * 10 + p + 1) (mtF t b (w + ws p) (s + dN xs ys o (some p) + dN xs ys (some p) none) (g * 10 + p + 1))) j p b) h1 h2 h3 h4) Q) := by
  intro f
  induction f with
  | zero =>
    intro k seen o w s g hkf hse hpc ho hs j
    obtain ⟨h6, h5, hpl⟩ := id hP
    have hk6 : k = 6 := by omega
    have full := pc_full seen hse (by omega)
    induction j with
    | zero =>
      intro p b f1 f2 f3 f4 x y Q hpj h1 hH
      obtain rfl : p = np := by omega
      refine ⟨f1, f2, f3, f4, .int (nI p), y, fun i hi => ⟨rfl, rfl, rfl, rfl⟩, ?_⟩
      rw [h173_66, kdF]
      unfold SM
      simp (maxSteps := 400000) (disch := first | omega | assumption) only [e173_0, e173_1, e173_2, e173_3, usx, h1, h5, Nat.lt_irrefl, kv, rv, tv, lnv, lv0, clv, clr_i, clr_r, clr_n, clr_l, true_and, and_true, Option.toList_some, Option.toList_none, List.cons_append, List.nil_append, bI_0, bI_1, bI_or, ↓reduceIte, or_true, true_or, eq_self, irv, i0_add, not_true_eq_false, not_false_eq_true, Bool.false_eq_true, and_false, false_and, or_false, false_or, reduceCtorEq, nev, ngv, nc_or, in64, l64v, ite_not, ite_notP, up2_upr, upr_upr, upr_at, nI_cl, nI_ir, iav, nI_1, nI_mul6, nI_6mul, nI_lt2, nI_eq2, nI_neg, nI_m1, ltv, nI_z, upd_at, upd_off, upr_off, usv, upd_upd]
    | succ j ih =>
      intro p b f1 f2 f3 f4 x y Q hpj h1 hH
      have hlt : p < np := by omega
      have hp6 : p < 6 := by omega
      rw [kdF]
      have hb := full p hp6
      rw [if_pos hb]
      obtain ⟨g1, g2, g3, g4, x', y', hg, hw⟩ := ih (p + 1) b (upd f1 k (nI (p + 1))) f2 f3 f4 x y Q (by omega) pk_us (PH_c (fun i hi => ⟨pk_un (by omega), rfl, rfl, rfl⟩) hH)
      refine ⟨g1, g2, g3, g4, x', y', fun i hi => ⟨(hg i hi).1.trans (pk_un (by omega)), (hg i hi).2⟩, ?_⟩
      rw [← hw, h173_66]
      unfold SM
      have hbt := (bt_iff p hp6 seen hse).trans (iff_true_intro hb)
      simp (maxSteps := 400000) (disch := first | omega | assumption) only [e173_0, e173_1, e173_2, e173_3, usx, h1, h5, hlt, s129, hbt, bI_T, z01, kv, rv, tv, lnv, lv0, clv, clr_i, clr_r, clr_n, clr_l, true_and, and_true, Option.toList_some, Option.toList_none, List.cons_append, List.nil_append, bI_0, bI_1, bI_or, ↓reduceIte, or_true, true_or, eq_self, irv, i0_add, not_true_eq_false, not_false_eq_true, Bool.false_eq_true, and_false, false_and, or_false, false_or, reduceCtorEq, nev, ngv, nc_or, in64, l64v, ite_not, ite_notP, up2_upr, upr_upr, upr_at, nI_cl, nI_ir, iav, nI_1, nI_mul6, nI_6mul, nI_lt2, nI_eq2, nI_neg, nI_m1, ltv, nI_z, upd_at, upd_off, upr_off, usv, upd_upd]
  | succ f ihf =>
    intro k seen o w s g hkf hse hpc ho hs j
    obtain ⟨h6, h5, hpl⟩ := id hP
    have hk6 : k < 6 := by omega
    induction j with
    | zero =>
      intro p b f1 f2 f3 f4 x y Q hpj h1 hH
      obtain rfl : p = np := by omega
      refine ⟨f1, f2, f3, f4, .int (nI p), y, fun i hi => ⟨rfl, rfl, rfl, rfl⟩, ?_⟩
      rw [h173_66, kdF]
      unfold SM
      simp (maxSteps := 400000) (disch := first | omega | assumption) only [e173_0, e173_1, e173_2, e173_3, usx, h1, h5, Nat.lt_irrefl, kv, rv, tv, lnv, lv0, clv, clr_i, clr_r, clr_n, clr_l, true_and, and_true, Option.toList_some, Option.toList_none, List.cons_append, List.nil_append, bI_0, bI_1, bI_or, ↓reduceIte, or_true, true_or, eq_self, irv, i0_add, not_true_eq_false, not_false_eq_true, Bool.false_eq_true, and_false, false_and, or_false, false_or, reduceCtorEq, nev, ngv, nc_or, in64, l64v, ite_not, ite_notP, up2_upr, upr_upr, upr_at, nI_cl, nI_ir, iav, nI_1, nI_mul6, nI_6mul, nI_lt2, nI_eq2, nI_neg, nI_m1, ltv, nI_z, upd_at, upd_off, upr_off, usv, upd_upd]
    | succ j ih =>
      intro p b f1 f2 f3 f4 x y Q hpj h1 hH
      have hlt : p < np := by omega
      have hp6 : p < 6 := by omega
      rw [kdF]
      by_cases hb : seen.testBit p = true
      · rw [if_pos hb]
        obtain ⟨g1, g2, g3, g4, x', y', hg, hw⟩ := ih (p + 1) b (upd f1 k (nI (p + 1))) f2 f3 f4 x y Q (by omega) pk_us (PH_c (fun i hi => ⟨pk_un (by omega), rfl, rfl, rfl⟩) hH)
        refine ⟨g1, g2, g3, g4, x', y', fun i hi => ⟨(hg i hi).1.trans (pk_un (by omega)), (hg i hi).2⟩, ?_⟩
        rw [← hw, h173_66]
        unfold SM
        have hbt := (bt_iff p hp6 seen hse).trans (iff_true_intro hb)
        simp (maxSteps := 400000) (disch := first | omega | assumption) only [e173_0, e173_1, e173_2, e173_3, usx, h1, h5, hlt, s129, hbt, bI_T, z01, kv, rv, tv, lnv, lv0, clv, clr_i, clr_r, clr_n, clr_l, true_and, and_true, Option.toList_some, Option.toList_none, List.cons_append, List.nil_append, bI_0, bI_1, bI_or, ↓reduceIte, or_true, true_or, eq_self, irv, i0_add, not_true_eq_false, not_false_eq_true, Bool.false_eq_true, and_false, false_and, or_false, false_or, reduceCtorEq, nev, ngv, nc_or, in64, l64v, ite_not, ite_notP, up2_upr, upr_upr, upr_at, nI_cl, nI_ir, iav, nI_1, nI_mul6, nI_6mul, nI_lt2, nI_eq2, nI_neg, nI_m1, ltv, nI_z, upd_at, upd_off, upr_off, usv, upd_upd]
      · rw [if_neg hb]
        have hbf : seen.testBit p = false := by simpa using hb
        have hpc2 := pc_or p hp6 seen hse hbf
        have hd1 := dN_bm hP ho (b := some p) (fun q e => by cases e; exact hlt)
        rw [goF]
        generalize hb1 : mtF t b (w + ws p) (s + dN xs ys o (some p) + dN xs ys (some p) none) (g * 10 + p + 1) = b1
        obtain ⟨g1, g2, g3, g4, x', y', hg, hw⟩ := ihf (k + 1) (seen ||| 2 ^ p) (some p) (w + ws p) (s + dN xs ys o (some p)) (g * 10 + p + 1) (by omega) (s_or hse hp6) (by omega) (fun q e => by cases e; exact hlt) (by omega) np 0 b1 (upd f1 (k + 1) 0) (upd f2 k (nI (s + dN xs ys o (some p)))) (upd f3 k (nI (w + ws p))) (upd f4 k (nI (g * 10 + p + 1))) (.int (nI p)) (.int (nI (s + dN xs ys o (some p)))) Q (by omega) pk_us (Or.inr ⟨k, p, rfl, rfl, hlt, by rw [pk_un (by omega)]; exact h1, pk_us, pk_us, pk_us⟩)
        have hnode := n173 d np t xs ys ws M ht hP k seen p w s g o b f1 f2 f3 f4 x y Q hk6 hs hse hlt hbf h1 ho hH
        rw [hb1] at hnode
        generalize kdF (fun p_1 b => if (seen ||| 2 ^ p).testBit p_1 = true then b else goF np t xs ys ws f ((seen ||| 2 ^ p) ||| 2 ^ p_1) (some p_1) (w + ws p + ws p_1) (s + dN xs ys o (some p) + dN xs ys (some p) (some p_1)) ((g * 10 + p + 1) * 10 + p_1 + 1) (mtF t b (w + ws p + ws p_1) (s + dN xs ys o (some p) + dN xs ys (some p) (some p_1) + dN xs ys (some p_1) none) ((g * 10 + p + 1) * 10 + p_1 + 1))) np 0 b1 = b2 at hw ⊢
        have gk : g1 k = nI p := ((hg k (by omega)).1.trans (pk_un (by omega))).trans h1
        have gl : ∀ i, i < k → g1 i = f1 i ∧ g2 i = f2 i ∧ g3 i = f3 i ∧ g4 i = f4 i := fun i hi => by
          obtain ⟨a1, a2, a3, a4⟩ := hg i (by omega)
          exact ⟨a1.trans (pk_un (by omega)), a2.trans (pk_un (by omega)), a3.trans (pk_un (by omega)), a4.trans (pk_un (by omega))⟩
        obtain ⟨i1, i2, i3, i4, x2, y2, hi, hw2⟩ := ih (p + 1) b2 (upd g1 k (nI (p + 1))) g2 g3 g4 x' y' Q (by omega) pk_us (PH_c (fun i hi => ⟨(pk_un (by omega)).trans (gl i hi).1, (gl i hi).2⟩) hH)
        refine ⟨i1, i2, i3, i4, x2, y2, fun i hi2 => ?_, ?_⟩
        · obtain ⟨a1, a2, a3, a4⟩ := hi i hi2
          obtain ⟨c1, c2, c3, c4⟩ := gl i hi2
          exact ⟨a1.trans ((pk_un (by omega)).trans c1), a2.trans c2, a3.trans c3, a4.trans c4⟩
        · rw [← hw2, hnode]
          have st1 : Wp (d + 3) 173 26 [.ref 40, .int (nI t), .int (nI (seen ||| 2 ^ p)), .int (nI (k + 1)), .int (nI p), .int (nI (s + dN xs ys o (some p)))] [] (SM M b1 (upd f1 (k + 1) (-1)) (upd f2 k (nI (s + dN xs ys o (some p)))) (upd f3 k (nI (w + ws p))) (upd f4 k (nI (g * 10 + p + 1)))) Q ↔ Wp (d + 3) 173 66 [.ref 40, .int (nI t), .int (nI (seen ||| 2 ^ p)), .int (nI (k + 1)), .int (nI p), .int (nI (s + dN xs ys o (some p)))] [] (SM M b1 (upd f1 (k + 1) 0) (upd f2 k (nI (s + dN xs ys o (some p)))) (upd f3 k (nI (w + ws p))) (upd f4 k (nI (g * 10 + p + 1)))) Q := by
            rw [h173_26]
            unfold SM
            have m1 : ((-1 : Int32) < 0) ↔ True := iff_true_intro (by decide)
            have m2 : (-1 : Int32) + 1 = 0 := by decide
            simp (maxSteps := 400000) (disch := first | omega | assumption) only [e173_0, e173_1, e173_2, e173_3, usx, m1, m2, and_m1 _ (s_or hse hp6), kv, rv, tv, lnv, lv0, clv, clr_i, clr_r, clr_n, clr_l, true_and, and_true, Option.toList_some, Option.toList_none, List.cons_append, List.nil_append, bI_0, bI_1, bI_or, ↓reduceIte, or_true, true_or, eq_self, irv, i0_add, not_true_eq_false, not_false_eq_true, Bool.false_eq_true, and_false, false_and, or_false, false_or, reduceCtorEq, nev, ngv, nc_or, in64, l64v, ite_not, ite_notP, up2_upr, upr_upr, upr_at, nI_cl, nI_ir, iav, nI_1, nI_mul6, nI_6mul, nI_lt2, nI_eq2, nI_neg, nI_m1, ltv, nI_z, upd_at, upd_off, upr_off, usv, upd_upd]
          rw [st1, hw, h173_26]
          unfold SM
          have e0 : nI (k + 1) + -1 = nI k := by rw [← Int32.sub_eq_add_neg]; exact nI_pred k
          simp (maxSteps := 400000) (disch := first | omega | assumption) only [e173_0, e173_1, e173_2, e173_3, usx, e0, gk, cut_bit p hp6 _ (s_or hse hp6), cut_b p hp6 seen hse hbf, kv, rv, tv, lnv, lv0, clv, clr_i, clr_r, clr_n, clr_l, true_and, and_true, Option.toList_some, Option.toList_none, List.cons_append, List.nil_append, bI_0, bI_1, bI_or, ↓reduceIte, or_true, true_or, eq_self, irv, i0_add, not_true_eq_false, not_false_eq_true, Bool.false_eq_true, and_false, false_and, or_false, false_or, reduceCtorEq, nev, ngv, nc_or, in64, l64v, ite_not, ite_notP, up2_upr, upr_upr, upr_at, nI_cl, nI_ir, iav, nI_1, nI_mul6, nI_6mul, nI_lt2, nI_eq2, nI_neg, nI_m1, ltv, nI_z, upd_at, upd_off, upr_off, usv, upd_upd]
theorem s173 (d np t : Nat) (xs ys ws : Nat → Nat) (M : Mem) (Q : Option Value → Mem → Prop) (ht : t ≤ 99) (hP : PLM M np xs ys ws) : ∃ h1 h2 h3 h4, Wp (d + 3) 173 0 [.ref 40, .int (nI t), .null, .null, .null, .null] [] M Q ↔ Q none (SM M (goF np t xs ys ws 7 0 none 0 0 0 (0, 0, 0)) h1 h2 h3 h4) := by
  obtain ⟨h1, h2, h3, h4, x', y', -, hw⟩ := l173 d np t xs ys ws M ht hP 6 0 0 none 0 0 0 (by omega) (by omega) (by decide) (fun p e => by cases e) (by omega) np 0 (0, 0, 0) (upd (M 51) 0 0) (M 52) (M 53) (M 54) .null .null Q (by omega) pk_us (Or.inl ⟨rfl, rfl, rfl, rfl, rfl⟩)
  refine ⟨h1, h2, h3, h4, ?_⟩
  rw [goF]
  generalize kdF (fun p b => if (0 : Nat).testBit p = true then b else goF np t xs ys ws 6 (0 ||| 2 ^ p) (some p) (0 + ws p) (0 + dN xs ys none (some p)) (0 * 10 + p + 1) (mtF t b (0 + ws p) (0 + dN xs ys none (some p) + dN xs ys (some p) none) (0 * 10 + p + 1))) np 0 (0, 0, 0) = b at hw ⊢
  have m1 : ((-1 : Int32) < 0) ↔ True := iff_true_intro (by decide)
  have m2 : (-1 : Int32) + 1 = 0 := by decide
  have m3 : (0 : Int32) + -1 = -1 := by decide
  have m4 : (0 : Int32) &&& -1 = 0 := by decide
  have eu : upd (upd (upd (M 40) 26 0) 27 0) 28 0 = rB (M 40) (0, 0, 0) := rfl
  have ew : Wp (d + 3) 173 26 [.ref 40, .int (nI t), .int 0, .int (-1), x', y'] [] (SM M b h1 h2 h3 h4) Q ↔ Q none (SM M b h1 h2 h3 h4) := by
    rw [h173_26]
    simp (maxSteps := 400000) (disch := first | omega | assumption) only [e173_0, e173_1, e173_2, e173_3, m1, kv, rv, tv, lnv, lv0, clv, clr_i, clr_r, clr_n, clr_l, true_and, and_true, Option.toList_some, Option.toList_none, List.cons_append, List.nil_append, bI_0, bI_1, bI_or, ↓reduceIte, or_true, true_or, eq_self, irv, i0_add, not_true_eq_false, not_false_eq_true, Bool.false_eq_true, and_false, false_and, or_false, false_or, reduceCtorEq, nev, ngv, nc_or, in64, l64v, ite_not, ite_notP, up2_upr, upr_upr, upr_at, nI_cl, nI_ir, iav, nI_1, nI_mul6, nI_6mul, nI_lt2, nI_eq2, nI_neg, nI_m1, ltv, nI_z, upd_at, upd_off, upr_off, usv, upd_upd]
  simp only [nI_0, m3] at hw
  rw [← ew, ← hw]
  unfold SM
  have e51 : ∀ N : Mem, N 52 = M 52 → N 53 = M 53 → N 54 = M 54 → upr (upr (upr N 52 (M 52)) 53 (M 53)) 54 (M 54) = N := fun N a b c => by rw [upr_e a.symm, upr_e b.symm, upr_e c.symm]
  rw [e51 (upr (upr M 40 (rB (M 40) (0, 0, 0))) 51 (upd (M 51) 0 0)) rfl rfl rfl]
  simp (maxSteps := 400000) (disch := first | omega | assumption) only [e173_0, e173_1, e173_2, e173_3, usx, eu, kv, rv, tv, lnv, lv0, clv, clr_i, clr_r, clr_n, clr_l, true_and, and_true, Option.toList_some, Option.toList_none, List.cons_append, List.nil_append, bI_0, bI_1, bI_or, ↓reduceIte, or_true, true_or, eq_self, irv, i0_add, not_true_eq_false, not_false_eq_true, Bool.false_eq_true, and_false, false_and, or_false, false_or, reduceCtorEq, nev, ngv, nc_or, in64, l64v, ite_not, ite_notP, up2_upr, upr_upr, upr_at, nI_cl, nI_ir, iav, nI_1, nI_mul6, nI_6mul, nI_lt2, nI_eq2, nI_neg, nI_m1, ltv, nI_z, upd_at, upd_off, upr_off, usv, upd_upd]
  rw [h173_26]
  simp (maxSteps := 400000) (disch := first | omega | assumption) only [e173_0, e173_1, e173_2, e173_3, usx, m1, m2, m4, kv, rv, tv, lnv, lv0, clv, clr_i, clr_r, clr_n, clr_l, true_and, and_true, Option.toList_some, Option.toList_none, List.cons_append, List.nil_append, bI_0, bI_1, bI_or, ↓reduceIte, or_true, true_or, eq_self, irv, i0_add, not_true_eq_false, not_false_eq_true, Bool.false_eq_true, and_false, false_and, or_false, false_or, reduceCtorEq, nev, ngv, nc_or, in64, l64v, ite_not, ite_notP, up2_upr, upr_upr, upr_at, nI_cl, nI_ir, iav, nI_1, nI_mul6, nI_6mul, nI_lt2, nI_eq2, nI_neg, nI_m1, ltv, nI_z, upd_at, upd_off, upr_off, usv, upd_upd]
