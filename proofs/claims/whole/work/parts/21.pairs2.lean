/-! part 21: costs, sums; calls that ask for debtors and counts -/
theorem acc_b {p k : Int32} {w : Nat} (hp : rg p 1 100) (hk : rg k 0 20) (hw : w ≤ 10000) : ∃ a, a ≤ 100 ∧ accF p k (nI w) = nI a := by
  obtain ⟨p, hp2, rfl⟩ := rg_nI (n := 100) (x := p) ⟨by have := hp.1; omega, hp.2⟩
  obtain ⟨k, hk2, rfl⟩ := rg_nI (n := 20) (x := k) hk
  have hkw : k * w ≤ 20 * 10000 := Nat.mul_le_mul hk2 hw
  have e5 : mn (nI p) 5 = nI (if 5 < p then 5 else p) := by
    unfold mn
    by_cases h : 5 < p
    · rw [if_pos ((ltv (by omega)).2.2.2.2.2.2.2.2.2.2.2.2.2.1.mpr h), if_pos h]; rfl
    · rw [if_neg (fun z => h ((ltv (by omega)).2.2.2.2.2.2.2.2.2.2.2.2.2.1.mp z)), if_neg h]
  unfold accF
  rw [e5, pk_mul]
  have et := pk_sub_toInt (a := p) (b := k * w) (by omega) (by omega)
  unfold mx
  by_cases h : nI p - nI (k * w) < nI (if 5 < p then 5 else p)
  · rw [if_pos h]
    exact ⟨_, by split <;> omega, rfl⟩
  · rw [if_neg h]
    have hle : k * w ≤ p := by
      apply Classical.byContradiction
      intro z
      apply h
      rw [Int32.lt_iff_toInt_lt, et, nI_toInt (by split <;> omega)]
      omega
    exact ⟨p - k * w, by omega, pk_sub hle⟩
theorem cst_n {s a : Nat} (hs : s ≤ 999) (ha : a ≤ 100) : cstC (nI s) (nI a) = nI ((s * a + 99) / 100) ∧ cstF (nI s) (nI a) = nI ((s * a + 99) / 100) := by
  have hsa : s * a ≤ 999 * 100 := Nat.mul_le_mul hs ha
  unfold cstC cstF
  rw [pk_mul]
  have e100 : (100 : Int32) = nI 100 := rfl
  have e99 : (99 : Int32) = nI 99 := rfl
  rw [e100, e99, nI_add, pk_div (by omega) (by decide) (by decide), pk_div (by omega) (by decide) (by decide)]
  refine ⟨rfl, ?_⟩
  have er : nI (s * a) - nI (s * a / 100) * nI 100 = nI (s * a % 100) := by
    have := pk_rem (a := s * a) (d := 100) (by omega) (by decide) (by decide)
    rw [pk_div (by omega) (by decide) (by decide)] at this
    exact this
  rw [er]
  by_cases h : s * a % 100 = 0
  · rw [if_pos (by rw [h]; rfl), Int32.add_zero]
    congr 1
    omega
  · rw [if_neg (fun z => h ((nI_z (by omega)).1.mp z))]
    rw [show nI (s * a / 100) + 1 = nI (s * a / 100 + 1) from nI_1 _]
    congr 1
    omega
/-- what it costs to settle: both count alike, and it is small -/
theorem cst_eq {s p k : Int32} {w : Nat} (hs : rg s 1 999) (hp : rg p 1 100) (hk : rg k 0 20) (hw : w ≤ 10000) : cstF s (accF p k (nI w)) = cstC s (accF p k (nI w)) ∧ ∃ c, c ≤ 999 ∧ cstC s (accF p k (nI w)) = nI c := by
  obtain ⟨a, ha, e⟩ := acc_b hp hk hw
  obtain ⟨s, hs2, rfl⟩ := rg_nI (n := 999) (x := s) ⟨by have := hs.1; omega, hs.2⟩
  rw [e]
  obtain ⟨e1, e2⟩ := cst_n hs2 ha
  refine ⟨e2.trans e1.symm, _, ?_, e1⟩
  have : s * a ≤ 999 * 100 := Nat.mul_le_mul hs2 ha
  omega
theorem smF_c {f g : Nat → Int32} : ∀ {n : Nat}, (∀ k, k < n → f k = g k) → smF f n = smF g n
  | 0, _ => rfl
  | n + 1, h => by rw [smF, smF, smF_c (fun k hk => h k (by omega)), h n (by omega)]
theorem smF_add (f g : Nat → Int32) : ∀ n, smF (fun k => f k + g k) n = smF f n + smF g n
  | 0 => by simp [smF]
  | n + 1 => by
    rw [smF, smF, smF, smF_add f g n, Int32.add_assoc, Int32.add_assoc]
    congr 1
    rw [← Int32.add_assoc, Int32.add_comm (smF g n) (f n), Int32.add_assoc]
theorem smF_0 : ∀ n, smF (fun _ => 0) n = 0
  | 0 => rfl
  | n + 1 => by rw [smF, smF_0 n, Int32.add_zero]
theorem smF_swap (f : Nat → Nat → Int32) (m : Nat) : ∀ n, smF (fun k => smF (fun e => f k e) m) n = smF (fun e => smF (fun k => f k e) n) m
  | 0 => by simp only [smF]; exact (smF_0 m).symm
  | n + 1 => by
    rw [smF, smF_swap f m n, ← smF_add]
    rfl
theorem i4a (a b c d : Int32) : a - b + c - d = (a + c) - (b + d) := by
  first
  | grind
  | (apply Int32.toBitVec_inj.mp; simp only [Int32.toBitVec_add, Int32.toBitVec_sub]; bv_omega)
theorem i4b (a b c d : Int32) : a - b - d + c = (a + c) - (b + d) := by
  first
  | grind
  | (apply Int32.toBitVec_inj.mp; simp only [Int32.toBitVec_add, Int32.toBitVec_sub]; bv_omega)
theorem smF_S (f : Nat → Int32) (k : Nat) : smF f (k + 1) = smF f k + f k := rfl
theorem cleF_S (g : Nat → Int32) (k : Nat) : cleF g (k + 1) = cleF g k + smF (fun e => mx 0 (g (12 + 6 * k + e))) 6 - mx 0 (smF (fun e => g (12 + 6 * k + e)) 6) := rfl
theorem cleC_S (b : Nat → Int32) (k : Nat) : cleC b (k + 1) = cleC b k - mx 0 (smF (fun e => b (e * 6 + k)) 6) + smF (fun e => mx 0 (b (k * 6 + e))) 6 := rfl
theorem cleF_s (g : Nat → Int32) : ∀ k, cleF g k = smF (fun k => smF (fun e => mx 0 (g (12 + 6 * k + e))) 6) k - smF (fun k => mx 0 (smF (fun e => g (12 + 6 * k + e)) 6)) k
  | 0 => by rw [cleF, smF, smF]; rfl
  | k + 1 => by
    have e := i4a (smF (fun k => smF (fun e => mx 0 (g (12 + 6 * k + e))) 6) k) (smF (fun k => mx 0 (smF (fun e => g (12 + 6 * k + e)) 6)) k) (smF (fun e => mx 0 (g (12 + 6 * k + e))) 6) (mx 0 (smF (fun e => g (12 + 6 * k + e)) 6))
    rw [← cleF_s g k] at e
    exact e
theorem cleC_s (b : Nat → Int32) : ∀ k, cleC b k = smF (fun k => smF (fun e => mx 0 (b (k * 6 + e))) 6) k - smF (fun k => mx 0 (smF (fun e => b (e * 6 + k)) 6)) k
  | 0 => by rw [cleC, smF, smF]; rfl
  | k + 1 => by
    have e := i4b (smF (fun k => smF (fun e => mx 0 (b (k * 6 + e))) 6) k) (smF (fun k => mx 0 (smF (fun e => b (e * 6 + k)) 6)) k) (smF (fun e => mx 0 (b (k * 6 + e))) 6) (mx 0 (smF (fun e => b (e * 6 + k)) 6))
    rw [← cleC_s b k] at e
    exact e
theorem cle_eq {b g : Nat → Int32} (h : ∀ i, i < 6 → ∀ j, j < 6 → g (12 + 6 * i + j) = b (j * 6 + i)) : cleF g 6 = cleC b 6 := by
  rw [cleF_s, cleC_s, smF_swap (fun k e => mx 0 (b (k * 6 + e)))]
  have e1 : smF (fun k => smF (fun e => mx 0 (g (12 + 6 * k + e))) 6) 6 = smF (fun e => smF (fun k => mx 0 (b (k * 6 + e))) 6) 6 := smF_c (fun k hk => smF_c (fun e he => by rw [h k hk e he]))
  have e2 : smF (fun k => mx 0 (smF (fun e => g (12 + 6 * k + e)) 6)) 6 = smF (fun k => mx 0 (smF (fun e => b (e * 6 + k)) 6)) 6 := smF_c (fun k hk => by rw [smF_c (fun e he => h k hk e he)])
  rw [e1, e2]
theorem bstN_c {f g : Nat → Int32} {m : Nat} : ∀ {n : Nat}, (∀ k, k < n → f k = g k) → bstN f m n = bstN g m n
  | 0, _ => rfl
  | n + 1, h => by
    rw [bstN, bstN, bstN_c (fun k hk => h k (by omega)), h n (by omega)]
    cases hb : bstN g m n with
    | none => rfl
    | some b =>
      have := bstN_lt hb
      simp only
      rw [h b (by omega)]
theorem takN_c {f g : Nat → Int32} {n : Nat} (h : ∀ k, k < n → f k = g k) : ∀ b m s, takN f n b m s = takN g n b m s
  | 0, _, _ => rfl
  | b + 1, m, s => by
    rw [takN, takN, bstN_c h]
    split
    · rfl
    · split
      · rfl
      · exact takN_c h b _ _
theorem remN_c {f g : Nat → Int32} {n : Nat} (h : ∀ k, k < n → f k = g k) : ∀ r m, remN f n r m = remN g n r m
  | 0, _ => rfl
  | r + 1, m => by rw [remN, remN, remN_c h r m]; unfold cutB; rw [bstN_c h]
theorem priF_c {f g : Nat → Int32} {n m : Nat} (h : ∀ k, k < n → f k = g k) : priF f n m = priF g n m := by
  unfold priF
  rw [bstN_c h]
  cases hb : bstN g m n with
  | none => rfl
  | some b => exact h b (bstN_lt hb)
theorem pair_debtor (d : Nat) (x y : Int32) (M : Mem) (hI : Inv M) : PairOK (d + 5) 76 140 [.ref 0, .int x, .int y] [.ref 40, .int x, .int y] M := by
  intro K hK
  obtain ⟨n, nc, np, B, hY, hL, -⟩ := id hI
  obtain ⟨⟨g1, g2, g3, g4⟩, ⟨h13, h4⟩, ⟨h12, -⟩, -, -, -, -, hC, hD, -⟩ := hY
  obtain ⟨l1, l2, l3, ⟨l48, -, -⟩, -, -, -, -, ⟨w, a, hw, -, lw, -⟩, -⟩ := hL
  by_cases hx : rg x 0 (n - 1)
  · obtain ⟨k, hk, rfl⟩ := rg_k (by omega) hx
    have hk6 : k < 6 := by omega
    obtain ⟨d1, ⟨c, hc, d2⟩, d3, d4, d5, d6⟩ := hD k hk
    obtain ⟨c1, c2, c3, c4⟩ := hC c hc
    have e1 := l1 k hk6
    have e2 := l2 k hk6
    have d2m : M 41 (14 + k) = nI c := d1.trans d2
    have en : smF (fun e => M 43 (12 + 6 * k + e)) 6 = smF (fun e => M 28 (e * 6 + k)) 6 := smF_c (fun e he => l3 k hk6 e he)
    have q0 : (14 : Int32) + 6 * 0 + nI k = nI (14 + k) := nI_add 14 k
    have q1 : (14 : Int32) + 6 * 1 + nI k = nI (20 + k) := nI_add 20 k
    have q2 : (14 : Int32) + 6 * 2 + nI k = nI (26 + k) := nI_add 26 k
    have ec := (cst_eq (w := w) d4 c3 c4 (by omega)).1
    rw [← lw] at ec
    by_cases hy : rg y 0 6
    · obtain ⟨j, hj, rfl⟩ := rg_nI (n := 6) hy
      have : j = 0 ∨ j = 1 ∨ j = 2 ∨ j = 3 ∨ j = 4 ∨ j = 5 ∨ j = 6 := by omega
      rcases this with rfl | rfl | rfl | rfl | rfl | rfl | rfl
      · rw [show nI 0 = 0 from rfl]
        simp (maxSteps := 2000000) (disch := first | omega | assumption) only [e76_0, e76_1, e140, s77 _ n _ M _ g1 h13, s141 _ n _ M _ g1 h4, iff_true_intro hx, bI_0, q0, q1, q2, d1, d3, d5, e1, e2, s50 _ k c nc _ M _ hk6 d2 hc g2 h12, s142 _ k c M _ hk6 d2m (by omega), s9, s137, en, c1, c2, l48, ec, kv, rv, tv, lnv, lv0, clv, clr_i, clr_r, clr_n, clr_l, true_and, and_true, Option.toList_some, Option.toList_none, List.cons_append, List.nil_append, bI_0, bI_1, bI_or, ↓reduceIte, or_true, true_or, eq_self, irv, i0_add, not_true_eq_false, not_false_eq_true, Bool.false_eq_true, and_false, false_and, or_false, false_or, reduceCtorEq, nev, ngv, nc_or, in64, l64v, ite_not, ite_notP, up2_upr, upr_upr, upr_at, nI_cl, nI_ir, iav, nI_1, nI_mul6, nI_6mul, nI_lt2, nI_eq2, nI_neg, nI_m1, ltv, nI_z, upd_at, upd_off, upr_off, usv, upd_upd]
        exact hK _ _ hI
      · rw [show nI 1 = 1 from rfl]
        simp (maxSteps := 2000000) (disch := first | omega | assumption) only [e76_0, e76_1, e140, s77 _ n _ M _ g1 h13, s141 _ n _ M _ g1 h4, iff_true_intro hx, bI_0, q0, q1, q2, d1, d3, d5, e1, e2, s50 _ k c nc _ M _ hk6 d2 hc g2 h12, s142 _ k c M _ hk6 d2m (by omega), s9, s137, en, c1, c2, l48, ec, kv, rv, tv, lnv, lv0, clv, clr_i, clr_r, clr_n, clr_l, true_and, and_true, Option.toList_some, Option.toList_none, List.cons_append, List.nil_append, bI_0, bI_1, bI_or, ↓reduceIte, or_true, true_or, eq_self, irv, i0_add, not_true_eq_false, not_false_eq_true, Bool.false_eq_true, and_false, false_and, or_false, false_or, reduceCtorEq, nev, ngv, nc_or, in64, l64v, ite_not, ite_notP, up2_upr, upr_upr, upr_at, nI_cl, nI_ir, iav, nI_1, nI_mul6, nI_6mul, nI_lt2, nI_eq2, nI_neg, nI_m1, ltv, nI_z, upd_at, upd_off, upr_off, usv, upd_upd]
        exact hK _ _ hI
      · rw [show nI 2 = 2 from rfl]
        simp (maxSteps := 2000000) (disch := first | omega | assumption) only [e76_0, e76_1, e140, s77 _ n _ M _ g1 h13, s141 _ n _ M _ g1 h4, iff_true_intro hx, bI_0, q0, q1, q2, d1, d3, d5, e1, e2, s50 _ k c nc _ M _ hk6 d2 hc g2 h12, s142 _ k c M _ hk6 d2m (by omega), s9, s137, en, c1, c2, l48, ec, kv, rv, tv, lnv, lv0, clv, clr_i, clr_r, clr_n, clr_l, true_and, and_true, Option.toList_some, Option.toList_none, List.cons_append, List.nil_append, bI_0, bI_1, bI_or, ↓reduceIte, or_true, true_or, eq_self, irv, i0_add, not_true_eq_false, not_false_eq_true, Bool.false_eq_true, and_false, false_and, or_false, false_or, reduceCtorEq, nev, ngv, nc_or, in64, l64v, ite_not, ite_notP, up2_upr, upr_upr, upr_at, nI_cl, nI_ir, iav, nI_1, nI_mul6, nI_6mul, nI_lt2, nI_eq2, nI_neg, nI_m1, ltv, nI_z, upd_at, upd_off, upr_off, usv, upd_upd]
        exact hK _ _ hI
      · rw [show nI 3 = 3 from rfl]
        simp (maxSteps := 2000000) (disch := first | omega | assumption) only [e76_0, e76_1, e140, s77 _ n _ M _ g1 h13, s141 _ n _ M _ g1 h4, iff_true_intro hx, bI_0, q0, q1, q2, d1, d3, d5, e1, e2, s50 _ k c nc _ M _ hk6 d2 hc g2 h12, s142 _ k c M _ hk6 d2m (by omega), s9, s137, en, c1, c2, l48, ec, kv, rv, tv, lnv, lv0, clv, clr_i, clr_r, clr_n, clr_l, true_and, and_true, Option.toList_some, Option.toList_none, List.cons_append, List.nil_append, bI_0, bI_1, bI_or, ↓reduceIte, or_true, true_or, eq_self, irv, i0_add, not_true_eq_false, not_false_eq_true, Bool.false_eq_true, and_false, false_and, or_false, false_or, reduceCtorEq, nev, ngv, nc_or, in64, l64v, ite_not, ite_notP, up2_upr, upr_upr, upr_at, nI_cl, nI_ir, iav, nI_1, nI_mul6, nI_6mul, nI_lt2, nI_eq2, nI_neg, nI_m1, ltv, nI_z, upd_at, upd_off, upr_off, usv, upd_upd]
        exact hK _ _ hI
      · rw [show nI 4 = 4 from rfl]
        simp (maxSteps := 2000000) (disch := first | omega | assumption) only [e76_0, e76_1, e140, s77 _ n _ M _ g1 h13, s141 _ n _ M _ g1 h4, iff_true_intro hx, bI_0, q0, q1, q2, d1, d3, d5, e1, e2, s50 _ k c nc _ M _ hk6 d2 hc g2 h12, s142 _ k c M _ hk6 d2m (by omega), s9, s137, en, c1, c2, l48, ec, kv, rv, tv, lnv, lv0, clv, clr_i, clr_r, clr_n, clr_l, true_and, and_true, Option.toList_some, Option.toList_none, List.cons_append, List.nil_append, bI_0, bI_1, bI_or, ↓reduceIte, or_true, true_or, eq_self, irv, i0_add, not_true_eq_false, not_false_eq_true, Bool.false_eq_true, and_false, false_and, or_false, false_or, reduceCtorEq, nev, ngv, nc_or, in64, l64v, ite_not, ite_notP, up2_upr, upr_upr, upr_at, nI_cl, nI_ir, iav, nI_1, nI_mul6, nI_6mul, nI_lt2, nI_eq2, nI_neg, nI_m1, ltv, nI_z, upd_at, upd_off, upr_off, usv, upd_upd]
        exact hK _ _ hI
      · rw [show nI 5 = 5 from rfl]
        simp (maxSteps := 2000000) (disch := first | omega | assumption) only [e76_0, e76_1, e140, s77 _ n _ M _ g1 h13, s141 _ n _ M _ g1 h4, iff_true_intro hx, bI_0, q0, q1, q2, d1, d3, d5, e1, e2, s50 _ k c nc _ M _ hk6 d2 hc g2 h12, s142 _ k c M _ hk6 d2m (by omega), s9, s137, en, c1, c2, l48, ec, kv, rv, tv, lnv, lv0, clv, clr_i, clr_r, clr_n, clr_l, true_and, and_true, Option.toList_some, Option.toList_none, List.cons_append, List.nil_append, bI_0, bI_1, bI_or, ↓reduceIte, or_true, true_or, eq_self, irv, i0_add, not_true_eq_false, not_false_eq_true, Bool.false_eq_true, and_false, false_and, or_false, false_or, reduceCtorEq, nev, ngv, nc_or, in64, l64v, ite_not, ite_notP, up2_upr, upr_upr, upr_at, nI_cl, nI_ir, iav, nI_1, nI_mul6, nI_6mul, nI_lt2, nI_eq2, nI_neg, nI_m1, ltv, nI_z, upd_at, upd_off, upr_off, usv, upd_upd]
        exact hK _ _ hI
      · rw [show nI 6 = 6 from rfl]
        obtain ⟨v, hv⟩ : ∃ v, smF (fun e => M 28 (e * 6 + k)) 6 = v := ⟨_, rfl⟩
        have e9 : ∀ d Q, Wp (d + 2) 9 0 [.ref 27, .int (nI k), .null, .null] [] M Q ↔ Q (some (.int v)) M := fun d Q => by rw [s9 d k M Q hk6, hv]
        have e137 : ∀ d Q, Wp d 137 0 [.ref 40, .int (nI k), .null, .null] [] M Q ↔ Q (some (.int v)) M := fun d Q => by rw [s137 d k M Q hk6, en, hv]
        clear en hv
        simp (maxSteps := 2000000) (disch := first | omega | assumption) only [e76_0, e76_1, e140, e9, e137, s77 _ n _ M _ g1 h13, s141 _ n _ M _ g1 h4, iff_true_intro hx, kv, rv, tv, lnv, lv0, clv, clr_i, clr_r, clr_n, clr_l, true_and, and_true, Option.toList_some, Option.toList_none, List.cons_append, List.nil_append, bI_0, bI_1, bI_or, ↓reduceIte, or_true, true_or, eq_self, irv, i0_add, not_true_eq_false, not_false_eq_true, Bool.false_eq_true, and_false, false_and, or_false, false_or, reduceCtorEq, nev, ngv, nc_or, in64, l64v, ite_not, ite_notP, up2_upr, upr_upr, upr_at, nI_cl, nI_ir, iav, nI_1, nI_mul6, nI_6mul, nI_lt2, nI_eq2, nI_neg, nI_m1, ltv, nI_z, upd_at, upd_off, upr_off, usv, upd_upd]
        exact hK _ _ hI
    · have hne : ∀ j, j ≤ 6 → ¬ y = nI j := fun j hj z => hy (by rw [z]; exact (rg_of (by omega)).mpr ⟨by omega, by omega⟩)
      have n0 : ¬ y = 0 := hne 0 (by omega)
      have n1 : ¬ y = 1 := hne 1 (by omega)
      have n2 : ¬ y = 2 := hne 2 (by omega)
      have n3 : ¬ y = 3 := hne 3 (by omega)
      have n4 : ¬ y = 4 := hne 4 (by omega)
      have n5 : ¬ y = 5 := hne 5 (by omega)
      have n6 : ¬ y = 6 := hne 6 (by omega)
      simp (maxSteps := 2000000) (disch := first | omega | assumption) only [e76_0, e76_1, e140, s77 _ n _ M _ g1 h13, s141 _ n _ M _ g1 h4, iff_true_intro hx, n0, n1, n2, n3, n4, n5, n6, kv, rv, tv, lnv, lv0, clv, clr_i, clr_r, clr_n, clr_l, true_and, and_true, Option.toList_some, Option.toList_none, List.cons_append, List.nil_append, bI_0, bI_1, bI_or, ↓reduceIte, or_true, true_or, eq_self, irv, i0_add, not_true_eq_false, not_false_eq_true, Bool.false_eq_true, and_false, false_and, or_false, false_or, reduceCtorEq, nev, ngv, nc_or, in64, l64v, ite_not, ite_notP, up2_upr, upr_upr, upr_at, nI_cl, nI_ir, iav, nI_1, nI_mul6, nI_6mul, nI_lt2, nI_eq2, nI_neg, nI_m1, ltv, nI_z, upd_at, upd_off, upr_off, usv, upd_upd]
      exact hK _ _ hI
  · simp (maxSteps := 2000000) (disch := first | omega | assumption) only [e76_0, e76_1, e140, s77 _ n _ M _ g1 h13, s141 _ n _ M _ g1 h4, iff_false_intro hx, kv, rv, tv, lnv, lv0, clv, clr_i, clr_r, clr_n, clr_l, true_and, and_true, Option.toList_some, Option.toList_none, List.cons_append, List.nil_append, bI_0, bI_1, bI_or, ↓reduceIte, or_true, true_or, eq_self, irv, i0_add, not_true_eq_false, not_false_eq_true, Bool.false_eq_true, and_false, false_and, or_false, false_or, reduceCtorEq, nev, ngv, nc_or, in64, l64v, ite_not, ite_notP, up2_upr, upr_upr, upr_at, nI_cl, nI_ir, iav, nI_1, nI_mul6, nI_6mul, nI_lt2, nI_eq2, nI_neg, nI_m1, ltv, nI_z, upd_at, upd_off, upr_off, usv, upd_upd]
    exact hK _ _ hI
