/-! part 25: what can be undone, images -/
theorem LR_c {n : Nat} {l is ca ba g l' is' ca' ba' g' : Nat → Int32} (hl : ∀ j, 3 ≤ j → j ≤ 5 → l' j = l j) (hi : ∀ k, k < 6 → is' k = is k) (hc : ∀ k, k < 6 → ca' k = ca k) (hb : ∀ q, q < 36 → ba' q = ba q) (hg : ∀ j, j < 51 → g' j = g j) (h : LR n l is ca ba g) : LR n l' is' ca' ba' g' := by
  obtain ⟨a1, a2, a3, ⟨a4, a5, a6⟩, a7, a8, a9, a10, a11, a12⟩ := h
  refine ⟨fun k hk => ?_, fun k hk => ?_, fun i h1 j h2 => ?_, ⟨?_, ?_, ?_⟩, fun k hk => ?_, fun i h1 j h2 => ?_, fun i h1 j h2 => ?_, fun i h1 j h2 h3 => ?_, ?_, ?_⟩
  · rw [hg k (by omega), hi k hk]; exact a1 k hk
  · rw [hg (6 + k) (by omega), hc k hk]; exact a2 k hk
  · rw [hg (12 + 6 * i + j) (by omega), hb (j * 6 + i) (by omega)]; exact a3 i h1 j h2
  · rw [hg 48 (by omega), hl 3 (by omega) (by omega)]; exact a4
  · rw [hg 49 (by omega), hl 4 (by omega) (by omega)]; exact a5
  · rw [hg 50 (by omega), hl 5 (by omega) (by omega)]; exact a6
  · rw [hc k hk]; exact a7 k hk
  · rw [hb (i * 6 + j) (by omega), hb (j * 6 + i) (by omega)]; exact a8 i h1 j h2
  · rw [hb (i * 6 + j) (by omega)]; exact a9 i h1 j h2
  · rw [hb (i * 6 + j) (by omega)]; exact a10 i h1 j h2 h3
  · rw [hl 3 (by omega) (by omega), hl 4 (by omega) (by omega)]; exact a11
  · rw [hl 5 (by omega) (by omega)]; exact a12
theorem pkF_off {l is ca ba r : Nat → Int32} {f q : Nat} (h : q < f ∨ f + 51 ≤ q) : pkF l is ca ba r f q = r q := by
  unfold pkF
  rw [pk_un (by omega), pk_un (by omega), pk_un (by omega), pk_cpy_out (by omega), pk_cpy_out (by omega), pk_cpy_out (by omega)]
theorem pkF_is {l is ca ba r : Nat → Int32} {f k : Nat} (h : k < 6) : pkF l is ca ba r f (f + k) = is k := by
  unfold pkF
  rw [pk_un (by omega), pk_un (by omega), pk_un (by omega), pk_cpy_out (by omega), pk_cpy_out (by omega), pk_cpy_in (by omega) (by omega), show 0 + (f + k - f) = k by omega]
theorem pkF_ca {l is ca ba r : Nat → Int32} {f k : Nat} (h : k < 6) : pkF l is ca ba r f (f + 6 + k) = ca k := by
  unfold pkF
  rw [pk_un (by omega), pk_un (by omega), pk_un (by omega), pk_cpy_out (by omega), pk_cpy_in (by omega) (by omega), show 0 + (f + 6 + k - (f + 6)) = k by omega]
theorem pkF_ba {l is ca ba r : Nat → Int32} {f k : Nat} (h : k < 36) : pkF l is ca ba r f (f + 12 + k) = ba k := by
  unfold pkF
  rw [pk_un (by omega), pk_un (by omega), pk_un (by omega), pk_cpy_in (by omega) (by omega), show 0 + (f + 12 + k - (f + 12)) = k by omega]
theorem pkF_l {l is ca ba r : Nat → Int32} {f j : Nat} (h : 3 ≤ j) (h2 : j ≤ 5) : pkF l is ca ba r f (f + 45 + j) = l j := by
  unfold pkF
  have : j = 3 ∨ j = 4 ∨ j = 5 := by omega
  rcases this with rfl | rfl | rfl
  · rw [pk_un (by omega), pk_un (by omega)]; exact pk_us
  · rw [pk_un (by omega)]; exact pk_us
  · exact pk_us
theorem pk_LPk {n : Nat} {l is ca ba g r g' : Nat → Int32} {f : Nat} (h : LR n l is ca ba g) (hg : ∀ j, j < 51 → g' j = g j) : LPk n (pkF l is ca ba r f) f g' := LR_c (fun _ h1 h2 => pkF_l h1 h2) (fun _ h1 => pkF_is h1) (fun _ h1 => pkF_ca h1) (fun _ h1 => pkF_ba h1) hg h
theorem LPk_c {n : Nat} {r r' g g' : Nat → Int32} {f : Nat} (hr : ∀ q, f ≤ q → q < f + 51 → r' q = r q) (hg : ∀ j, j < 51 → g' j = g j) (h : LPk n r f g) : LPk n r' f g' := LR_c (fun j h1 h2 => hr _ (by omega) (by omega)) (fun _ h1 => hr _ (by omega) (by omega)) (fun _ h1 => hr _ (by omega) (by omega)) (fun _ h1 => hr _ (by omega) (by omega)) hg h
def psQ (g q : Nat → Int32) (u : Nat) : Nat → Int32 := if u = 16 then va_cpy g (shF q) 0 765 51 else va_cpy g q 0 (51 * u) 51
def up1 (u : Nat) : Nat := if u = 16 then 16 else u + 1
theorem s148p (d u : Nat) (M : Mem) (Q : Option Value → Mem → Prop) (hu : u ≤ 16) (h5 : M 40 5 = nI u) : Wp (d + 1) 148 0 [.ref 40, .null] [] M Q ↔ Q none (upr (upr M 40 (upd (M 40) 5 (nI (up1 u)))) 45 (psQ (M 43) (M 45) u)) := by
  rw [s148 d u M Q hu h5]
  unfold up1 psQ
  by_cases h : u = 16
  · rw [if_pos h, if_pos h, if_pos h]
  · rw [if_neg h, if_neg h, if_neg h]
theorem PR_push {n x u : Nat} {p r q l is ca ba g : Nat → Int32} (hx : x < 16) (hu : u ≤ 16) (hq : ∀ i, i < u → LPk n r ((x + 16 - u + i) % 16 * 51) (fun j => q (51 * i + j))) (hL : LR n l is ca ba g) : PR n (upd (upd p 1 (nI ((x + 1) % 16))) 2 (nI (up1 u))) (pkF l is ca ba r (x * 51)) (nI (up1 u)) (psQ g q u) := by
  refine ⟨(x + 1) % 16, up1 u, by omega, by unfold up1; split <;> omega, rfl, rfl, rfl, fun i hi => ?_⟩
  unfold up1 at hi ⊢
  unfold psQ
  by_cases h : u = 16
  · subst h
    rw [if_pos rfl] at hi ⊢
    rw [if_pos rfl]
    by_cases h15 : i = 15
    · subst h15
      rw [show ((x + 1) % 16 + 16 - 16 + 15) % 16 = x by omega]
      refine pk_LPk hL (fun j hj => ?_)
      show va_cpy g (shF q) 0 765 51 (51 * 15 + j) = g j
      rw [pk_cpy_in (by omega) (by omega), show 0 + (51 * 15 + j - 765) = j by omega]
    · have := hq (i + 1) (by omega)
      rw [show (x + 16 - 16 + (i + 1)) % 16 = ((x + 1) % 16 + 16 - 16 + i) % 16 by omega] at this
      have hne : ((x + 1) % 16 + 16 - 16 + i) % 16 ≠ x := by omega
      generalize ((x + 1) % 16 + 16 - 16 + i) % 16 = s at this hne ⊢
      refine LPk_c (fun z h1 h2 => pkF_off (by omega)) (fun j hj => ?_) this
      show va_cpy g (shF q) 0 765 51 (51 * i + j) = q (51 * (i + 1) + j)
      rw [pk_cpy_out (by omega)]
      show (if 51 * i + j < 765 then q (51 * i + j + 51) else q (51 * i + j)) = _
      rw [if_pos (by omega), show 51 * i + j + 51 = 51 * (i + 1) + j by omega]
  · rw [if_neg h] at hi ⊢
    rw [if_neg h]
    by_cases h15 : i = u
    · subst h15
      rw [show ((x + 1) % 16 + 16 - (i + 1) + i) % 16 = x by omega]
      refine pk_LPk hL (fun j hj => ?_)
      show va_cpy g q 0 (51 * i) 51 (51 * i + j) = g j
      rw [pk_cpy_in (by omega) (by omega), show 0 + (51 * i + j - 51 * i) = j by omega]
    · have := hq i (by omega)
      rw [show (x + 16 - u + i) % 16 = ((x + 1) % 16 + 16 - (u + 1) + i) % 16 by omega] at this
      have hne : ((x + 1) % 16 + 16 - (u + 1) + i) % 16 ≠ x := by omega
      generalize ((x + 1) % 16 + 16 - (u + 1) + i) % 16 = s at this hne ⊢
      refine LPk_c (fun z h1 h2 => pkF_off (by omega)) (fun j hj => ?_) this
      exact pk_cpy_out (by omega)
/-- a life that comes back -/
theorem LM_back {n f g0 : Nat} {r q l is ca ba g : Nat → Int32} (h : LPk n r f (fun j => q (g0 + j))) : LR n (upL l r f) (va_cpy r is f 0 6) (va_cpy r ca (f + 6) 0 6) (va_cpy r ba (f + 12) 0 36) (va_cpy q g g0 0 51) := by
  refine LR_c (fun j h1 h2 => ?_) (fun k h1 => ?_) (fun k h1 => ?_) (fun k h1 => ?_) (fun j h1 => ?_) h
  · unfold upL
    have : j = 3 ∨ j = 4 ∨ j = 5 := by omega
    rcases this with rfl | rfl | rfl
    · rw [pk_un (by omega), pk_un (by omega), pk_us]
    · rw [pk_un (by omega), pk_us]
    · rw [pk_us]
  · rw [pk_cpy_in (by omega) (by omega), show k - 0 = k by omega]
  · rw [pk_cpy_in (by omega) (by omega), show k - 0 = k by omega]
  · rw [pk_cpy_in (by omega) (by omega), show k - 0 = k by omega]
  · rw [pk_cpy_in (by omega) (by omega), show j - 0 = j by omega]
theorem PR_pop {n x u : Nat} {p r q : Nat → Int32} (hx : x < 16) (hu : u < 16) (hq : ∀ i, i < u + 1 → LPk n r ((x + 16 - (u + 1) + i) % 16 * 51) (fun j => q (51 * i + j))) : PR n (upd (upd p 1 (nI ((x + 15) % 16))) 2 (nI u)) r (nI u) q := by
  refine ⟨(x + 15) % 16, u, by omega, by omega, rfl, rfl, rfl, fun i hi => ?_⟩
  have := hq i (by omega)
  rw [show (x + 16 - (u + 1) + i) % 16 = ((x + 15) % 16 + 16 - u + i) % 16 by omega] at this
  exact this
theorem PR_0 {n : Nat} {p r q : Nat → Int32} {un : Int32} (h : PR n p r un q) : PR n (upd p 2 0) r 0 q := by
  obtain ⟨x, u, hx, -, h1, -⟩ := h
  exact ⟨x, 0, hx, by omega, h1, rfl, rfl, fun i hi => absurd hi (by omega)⟩
theorem pair_undo (d : Nat) (M : Mem) (hI : Inv M) : PairOK (d + 3) 93 169 [.ref 0] [.ref 40] M := by
  intro K hK
  obtain ⟨n, nc, np, B, hY, hL, ⟨x, u, hx, hu, p1, p2, p5, hq⟩, h0, h1, hT, hH, hB, hS, hSt⟩ := id hI
  cases u with
  | zero =>
    simp (maxSteps := 400000) (disch := first | omega | assumption) only [e93, e169, p2, p5, nI_0, kv, rv, tv, lnv, lv0, clv, clr_i, clr_r, clr_n, clr_l, true_and, and_true, Option.toList_some, Option.toList_none, List.cons_append, List.nil_append, bI_0, bI_1, bI_or, ↓reduceIte, or_true, true_or, eq_self, irv, i0_add, not_true_eq_false, not_false_eq_true, Bool.false_eq_true, and_false, false_and, or_false, false_or, reduceCtorEq, nev, ngv, nc_or, in64, l64v, ite_not, ite_notP, up2_upr, upr_upr, upr_at, nI_cl, nI_ir, iav, nI_1, nI_mul6, nI_6mul, nI_lt2, nI_eq2, nI_neg, nI_m1, ltv, nI_z, upd_at, upd_off, upr_off, usv, upd_upd]
    exact hK _ _ hI
  | succ u =>
    have e1 : nI (u + 1) - 1 = nI u := nI_pred u
    have e0 : ¬ u + 1 = 0 := by omega
    have e51 : 51 * nI u = nI (51 * u) := pk_mul 51 u
    simp (maxSteps := 400000) (disch := first | omega | assumption) only [e93, e169, p2, p5, e0, s30 _ x u M _ hx (by omega) p1 p2, e1, e51, c_undo, kv, rv, tv, lnv, lv0, clv, clr_i, clr_r, clr_n, clr_l, true_and, and_true, Option.toList_some, Option.toList_none, List.cons_append, List.nil_append, bI_0, bI_1, bI_or, ↓reduceIte, or_true, true_or, eq_self, irv, i0_add, not_true_eq_false, not_false_eq_true, Bool.false_eq_true, and_false, false_and, or_false, false_or, reduceCtorEq, nev, ngv, nc_or, in64, l64v, ite_not, ite_notP, up2_upr, upr_upr, upr_at, nI_cl, nI_ir, iav, nI_1, nI_mul6, nI_6mul, nI_lt2, nI_eq2, nI_neg, nI_m1, ltv, nI_z, upd_at, upd_off, upr_off, usv, upd_upd]
    refine hK _ _ ⟨n, nc, np, B, ?_⟩
    unfold LM
    simp (maxSteps := 400000) (disch := first | omega | assumption) only [YR_upr, ST_upr, kv, rv, tv, lnv, lv0, clv, clr_i, clr_r, clr_n, clr_l, true_and, and_true, Option.toList_some, Option.toList_none, List.cons_append, List.nil_append, bI_0, bI_1, bI_or, ↓reduceIte, or_true, true_or, eq_self, irv, i0_add, not_true_eq_false, not_false_eq_true, Bool.false_eq_true, and_false, false_and, or_false, false_or, reduceCtorEq, nev, ngv, nc_or, in64, l64v, ite_not, ite_notP, up2_upr, upr_upr, upr_at, nI_cl, nI_ir, iav, nI_1, nI_mul6, nI_6mul, nI_lt2, nI_eq2, nI_neg, nI_m1, ltv, nI_z, upd_at, upd_off, upr_off, usv, upd_upd]
    refine ⟨hY, ?_, ?_, h0, h1, hT, hH, hB, hS, hSt⟩
    · have := hq u (by omega)
      rw [show (x + 16 - (u + 1) + u) % 16 = (x + 15) % 16 by omega] at this
      exact LM_back this
    · exact PR_pop hx (by omega) hq
