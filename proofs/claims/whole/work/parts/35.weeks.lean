/-! part 35: weeks, one after another -/
def agC (N M : Mem) : Prop := ∀ r, r < 40 → N r = M r
def agM (N M : Mem) : Prop := ∀ r, 40 ≤ r → N r = M r
def uC (N : Mem) (a b c e f : Nat → Int32) : Mem := upr (upr (upr (upr (upr N 0 a) 24 b) 25 c) 26 e) 28 f
def uM (N : Mem) (x g : Nat → Int32) : Mem := upr (upr N 40 x) 43 g
theorem upr_e {M : Mem} {k : Nat} {f : Nat → Int32} (h : f = M k) : upr M k f = M := by rw [h, upr_id]
theorem upr_r (M : Mem) (k r : Nat) (f : Nat → Int32) : upr M k f r = if r = k then f else M r := rfl
theorem uC_id {N M : Mem} (h : agC N M) : uC N (M 0) (M 24) (M 25) (M 26) (M 28) = N := by
  unfold uC
  rw [← h 0 (by omega), ← h 24 (by omega), ← h 25 (by omega), ← h 26 (by omega), ← h 28 (by omega), upr_id, upr_id, upr_id, upr_id, upr_id]
theorem uM_id {N M : Mem} (h : agM N M) : uM N (M 40) (M 43) = N := by
  unfold uM
  rw [← h 40 (by omega), ← h 43 (by omega), upr_id, upr_id]
theorem uC_uC (N : Mem) (a b c e f a' b' c' e' f' : Nat → Int32) : uC (uC N a b c e f) a' b' c' e' f' = uC N a' b' c' e' f' := by
  unfold uC
  funext r
  simp only [upr_r]
  by_cases h1 : r = 28
  · simp only [if_pos h1]
  · by_cases h2 : r = 26
    · simp only [if_neg h1, if_pos h2]
    · by_cases h3 : r = 25
      · simp only [if_neg h1, if_neg h2, if_pos h3]
      · by_cases h4 : r = 24
        · simp only [if_neg h1, if_neg h2, if_neg h3, if_pos h4]
        · simp only [if_neg h1, if_neg h2, if_neg h3, if_neg h4]
          split <;> rfl
theorem uM_uM (N : Mem) (x g x' g' : Nat → Int32) : uM (uM N x g) x' g' = uM N x' g' := by
  unfold uM
  funext r
  simp only [upr_r]
  by_cases h1 : r = 43
  · simp only [if_pos h1]
  · simp only [if_neg h1]
    split <;> rfl
theorem agC_u {N M : Mem} {a b c e f x g : Nat → Int32} (h : agC N M) : agC (uC N a b c e f) (uM (uC M a b c e f) x g) := by
  intro r hr
  unfold uC uM
  simp only [upr_r]
  rw [if_neg (show ¬ r = 43 by omega), if_neg (show ¬ r = 40 by omega), h r hr]
theorem agM_u {N M : Mem} {a b c e f x g : Nat → Int32} (h : agM N M) : agM (uM N x g) (uM (uC M a b c e f) x g) := by
  intro r hr
  unfold uC uM
  simp only [upr_r]
  rw [if_neg (show ¬ r = 28 by omega), if_neg (show ¬ r = 26 by omega), if_neg (show ¬ r = 25 by omega), if_neg (show ¬ r = 24 by omega), if_neg (show ¬ r = 0 by omega), h r hr]
theorem wk_C (d n B : Nat) (N M : Mem) (Q : Option Value → Mem → Prop) (h : agC N M) (hn : n ≤ 6) (h4 : M 15 13 = nI n) (hB : B ≤ 6) (h2 : M 15 11 = nI B) : Wp (d + 4) 51 0 [.ref 14, .null] [] N Q ↔ Q none (uC N (M 0) (wkL (M 24) (M 25) (M 19) (M 15 9) n B) (wkI (M 25) (M 26) (M 20) (M 19) (M 15 9) n B) (ca1 (M 25) (M 26) (M 20) (M 15 9) n) (M 28)) := by
  rw [s51 d n B N Q hn (by rw [h 15 (by omega)]; exact h4) hB (by rw [h 15 (by omega)]; exact h2)]
  rw [h 24 (by omega), h 25 (by omega), h 26 (by omega), h 20 (by omega), h 19 (by omega), h 15 (by omega)]
  unfold uC
  rw [← h 0 (by omega), upr_id, upr_e (k := 28) (by rw [← h 28 (by omega)]; rfl)]
theorem wk_M (d n B : Nat) (N M : Mem) (Q : Option Value → Mem → Prop) (h : agM N M) (hn : n ≤ 6) (h4 : M 41 4 = nI n) (hB : B ≤ 6) (h2 : M 41 2 = nI B) : Wp (d + 3) 149 0 [.ref 40, .null, .null, .null] [] N Q ↔ Q none (uM N (M 40) (wkF (M 41) (M 43) n B)) := by
  rw [s149 d n B N Q hn (by rw [h 41 (by omega)]; exact h4) hB (by rw [h 41 (by omega)]; exact h2)]
  rw [h 41 (by omega), h 43 (by omega)]
  unfold uM
  rw [← h 40 (by omega), upr_id]
/-- rows that may come next -/
def Gd (n nc np B w : Nat) (M : Mem) : Prop := YR n nc np B M ∧ LM n M ∧ M 24 3 = nI w ∧ ∃ s, s < 2147483648 ∧ M 0 11 = nI s ∧ M 40 8 = nI s
def Stw (n w : Nat) (M : Mem) (a b c e f x g : Nat → Int32) : Prop := LR n b c e f g ∧ b 3 = nI w ∧ (∃ s, s < 2147483648 ∧ a 11 = nI s ∧ x 8 = nI s) ∧ (∀ q, q ≠ 11 → a q = M 0 q) ∧ (∀ q, q ≠ 8 → x q = M 40 q)
theorem Gd_u {n nc np B w w' : Nat} {M : Mem} {a b c e f x g : Nat → Int32} (h : Gd n nc np B w M) (hs : Stw n w' M a b c e f x g) : Gd n nc np B w' (uM (uC M a b c e f) x g) := by
  obtain ⟨h1, -, -, -⟩ := h
  obtain ⟨s1, s2, s3, -, -⟩ := hs
  refine ⟨?_, s1, s2, s3⟩
  unfold uC uM
  rw [YR_upr (by omega), YR_upr (by omega), YR_upr (by omega), YR_upr (by omega), YR_upr (by omega), YR_upr (by omega), YR_upr (by omega)]
  exact h1
theorem Stp_t {n w w' : Nat} {M : Mem} {a b c e f x g a' b' c' e' f' x' g' : Nat → Int32} (h : Stw n w M a b c e f x g) (h' : Stw n w' (uM (uC M a b c e f) x g) a' b' c' e' f' x' g') : Stw n w' M a' b' c' e' f' x' g' := by
  obtain ⟨-, -, -, s4, s5⟩ := h
  obtain ⟨t1, t2, t3, t4, t5⟩ := h'
  exact ⟨t1, t2, t3, fun q hq => (t4 q hq).trans (s4 q hq), fun q hq => (t5 q hq).trans (s5 q hq)⟩
theorem wk_S {n nc np B w : Nat} {M : Mem} (hw : w < 9060) (h : Gd n nc np B w M) : Stw n (w + 1) M (M 0) (wkL (M 24) (M 25) (M 19) (M 15 9) n B) (wkI (M 25) (M 26) (M 20) (M 19) (M 15 9) n B) (ca1 (M 25) (M 26) (M 20) (M 15 9) n) (M 28) (M 40) (wkF (M 41) (M 43) n B) := by
  obtain ⟨hY, hL, h3, hs⟩ := h
  obtain ⟨⟨g1, g2, g3, g4⟩, ⟨h13, h4⟩, -, -, ⟨h11, h2⟩, ⟨h0, h0r⟩, -, hC, hD, -⟩ := hY
  obtain ⟨L0, hL0, eL⟩ := rg_nI (n := 99) h0r
  obtain ⟨r1, r2⟩ := LR_week (B := B) g1 eL hL0 h0 (fun k hk => (hD k hk).2.2.2.2.1) (fun k hk => (hD k hk).2.2.1) hw h3 hL
  exact ⟨r1, r2, hs, fun _ _ => rfl, fun _ _ => rfl⟩
theorem wkl_all (d n nc np B m : Nat) (hm : m ≤ 60) : ∀ j i w M, i + j = m → w + j ≤ 9060 → Gd n nc np B w M → ∃ a b c e f x g, Stw n (w + j) M a b c e f x g ∧ (∀ N, agC N M → ∀ Q, Wp (d + 5) 81 28 [.ref 0, .int (nI m), .int 0, .int (nI i)] [] N Q ↔ Q (some (.int (nI (w + j)))) (uC N a b c e f)) ∧ (∀ N, agM N M → ∀ Q, Wp (d + 5) 146 18 [.ref 40, .int (nI m), .int 0, .int (nI i)] [] N Q ↔ Q (some (.int (nI (w + j)))) (uM N x g))
  | 0, i, w, M, hi, hw, hG => by
    obtain rfl : i = m := hi
    obtain ⟨hY, hL, h3, hs⟩ := id hG
    refine ⟨M 0, M 24, M 25, M 26, M 28, M 40, M 43, ⟨hL, h3, hs, fun _ _ => rfl, fun _ _ => rfl⟩, fun N hN Q => ?_, fun N hN Q => ?_⟩
    · rw [uC_id hN, h81_28]
      have e : N 24 3 = nI (w + 0) := by rw [hN 24 (by omega)]; exact h3
      simp (maxSteps := 400000) (disch := first | omega | assumption) only [e81, Nat.lt_irrefl, e, kv, rv, tv, lnv, lv0, clv, clr_i, clr_r, clr_n, clr_l, true_and, and_true, Option.toList_some, Option.toList_none, List.cons_append, List.nil_append, bI_0, bI_1, bI_or, ↓reduceIte, or_true, true_or, eq_self, irv, i0_add, not_true_eq_false, not_false_eq_true, Bool.false_eq_true, and_false, false_and, or_false, false_or, reduceCtorEq, nev, ngv, nc_or, in64, l64v, ite_not, ite_notP, up2_upr, upr_upr, upr_at, nI_cl, nI_ir, iav, nI_1, nI_mul6, nI_6mul, nI_lt2, nI_eq2, nI_neg, nI_m1, ltv, nI_z, upd_at, upd_off, upr_off, usv, upd_upd]
    · rw [uM_id hN, h146_18]
      have e : N 43 48 = nI (w + 0) := by rw [hN 43 (by omega), hL.2.2.2.1.1]; exact h3
      simp (maxSteps := 400000) (disch := first | omega | assumption) only [e146, Nat.lt_irrefl, e, kv, rv, tv, lnv, lv0, clv, clr_i, clr_r, clr_n, clr_l, true_and, and_true, Option.toList_some, Option.toList_none, List.cons_append, List.nil_append, bI_0, bI_1, bI_or, ↓reduceIte, or_true, true_or, eq_self, irv, i0_add, not_true_eq_false, not_false_eq_true, Bool.false_eq_true, and_false, false_and, or_false, false_or, reduceCtorEq, nev, ngv, nc_or, in64, l64v, ite_not, ite_notP, up2_upr, upr_upr, upr_at, nI_cl, nI_ir, iav, nI_1, nI_mul6, nI_6mul, nI_lt2, nI_eq2, nI_neg, nI_m1, ltv, nI_z, upd_at, upd_off, upr_off, usv, upd_upd]
  | j + 1, i, w, M, hi, hw, hG => by
    obtain ⟨hY, hL, h3, hs⟩ := id hG
    obtain ⟨⟨g1, g2, g3, g4⟩, ⟨h13, h4⟩, -, -, ⟨h11, h2⟩, -⟩ := hY
    have hlt : i < m := by omega
    have hS := wk_S (show w < 9060 by omega) hG
    obtain ⟨a, b, c, e, f, x, g, hs2, hc, hm2⟩ := wkl_all d n nc np B m hm j (i + 1) (w + 1) _ (by omega) (by omega) (Gd_u hG hS)
    refine ⟨a, b, c, e, f, x, g, by rw [show w + (j + 1) = w + 1 + j by omega]; exact Stp_t hS hs2, fun N hN Q => ?_, fun N hN Q => ?_⟩
    · have := hc _ (agC_u hN) Q
      rw [uC_uC] at this
      rw [show w + (j + 1) = w + 1 + j by omega, ← this, h81_28]
      simp (maxSteps := 400000) (disch := first | omega | assumption) only [e81, hlt, wk_C _ n B N M _ hN g1 h13 g4 h11, kv, rv, tv, lnv, lv0, clv, clr_i, clr_r, clr_n, clr_l, true_and, and_true, Option.toList_some, Option.toList_none, List.cons_append, List.nil_append, bI_0, bI_1, bI_or, ↓reduceIte, or_true, true_or, eq_self, irv, i0_add, not_true_eq_false, not_false_eq_true, Bool.false_eq_true, and_false, false_and, or_false, false_or, reduceCtorEq, nev, ngv, nc_or, in64, l64v, ite_not, ite_notP, up2_upr, upr_upr, upr_at, nI_cl, nI_ir, iav, nI_1, nI_mul6, nI_6mul, nI_lt2, nI_eq2, nI_neg, nI_m1, ltv, nI_z, upd_at, upd_off, upr_off, usv, upd_upd]
    · have := hm2 _ (agM_u hN) Q
      rw [uM_uM] at this
      rw [show w + (j + 1) = w + 1 + j by omega, ← this, h146_18]
      simp (maxSteps := 400000) (disch := first | omega | assumption) only [e146, hlt, wk_M _ n B N M _ hN g1 h4 g4 h2, kv, rv, tv, lnv, lv0, clv, clr_i, clr_r, clr_n, clr_l, true_and, and_true, Option.toList_some, Option.toList_none, List.cons_append, List.nil_append, bI_0, bI_1, bI_or, ↓reduceIte, or_true, true_or, eq_self, irv, i0_add, not_true_eq_false, not_false_eq_true, Bool.false_eq_true, and_false, false_and, or_false, false_or, reduceCtorEq, nev, ngv, nc_or, in64, l64v, ite_not, ite_notP, up2_upr, upr_upr, upr_at, nI_cl, nI_ir, iav, nI_1, nI_mul6, nI_6mul, nI_lt2, nI_eq2, nI_neg, nI_m1, ltv, nI_z, upd_at, upd_off, upr_off, usv, upd_upd]
theorem refuse_eq {M : Mem} {n nc np B : Nat} {x : Int32} (hY : YR n nc np B M) (h48 : M 43 48 = M 24 3) : (if rg x 1 60 then (if M 41 1 = 0 then (-1000000003 : Int32) else if 9000 < M 43 48 then -1000000004 else 0) else -1000000002) = (if rg x 1 60 then (if M 15 8 = 0 then (-1000000003 : Int32) else if 9000 < M 24 3 then -1000000004 else 0) else -1000000002) := by
  obtain ⟨-, -, -, -, -, -, ⟨h1, -, h8, -⟩, -⟩ := hY
  rw [h48, h1]
  simp only [h8]
theorem Inv_w {n nc np B px u w : Nat} {M : Mem} {a b c e f x g : Nat → Int32} (hI : YR n nc np B M ∧ IR n 0 (M 32) (M 33) (M 46) (M 47) ∧ IR n 1 (M 34) (M 35) (M 46) (M 47) ∧ TR (M 1 1) (M 2) (M 40 10) (M 48) ∧ HR (M 36) (M 40 13) (M 49) ∧ BR n (M 37 2) (M 38) (M 39) (M 40 15) (M 50) ∧ SR (M 0 11) (M 0 10) (M 40 8) (M 40 11) ∧ ST M) (hL : LM n M) (hx16 : px < 16) (hu : u ≤ 16) (hq : ∀ i, i < u → LPk n (M 31) ((px + 16 - u + i) % 16 * 51) (fun j => M 45 (51 * i + j))) (hs : Stw n w (upr (upr (upr (upr M 30 (upd (upd (M 30) 1 (nI ((px + 1) % 16))) 2 (nI (up1 u)))) 31 (pkF (M 24) (M 25) (M 26) (M 28) (M 31) (px * 51))) 40 (upd (M 40) 5 (nI (up1 u)))) 45 (psQ (M 43) (M 45) u)) a b c e f x g) : Inv (uM (upr (upr (uC (upr (upr M 30 (upd (upd (M 30) 1 (nI ((px + 1) % 16))) 2 (nI (up1 u)))) 31 (pkF (M 24) (M 25) (M 26) (M 28) (M 31) (px * 51))) a b c e f) 40 (upd (M 40) 5 (nI (up1 u)))) 45 (psQ (M 43) (M 45) u)) x g) := by
  obtain ⟨hY, h0, h1, hT, hH, hB, hS, hSt⟩ := hI
  obtain ⟨s1, s2, s3, s4, s5⟩ := hs
  have x5 : x 5 = nI (up1 u) := s5 5 (by omega)
  have x10 : x 10 = M 40 10 := s5 10 (by omega)
  have x13 : x 13 = M 40 13 := s5 13 (by omega)
  have x15 : x 15 = M 40 15 := s5 15 (by omega)
  have x11 : x 11 = M 40 11 := s5 11 (by omega)
  have a10 : a 10 = M 0 10 := s4 10 (by omega)
  refine ⟨n, nc, np, B, ?_⟩
  unfold uM uC LM
  simp (maxSteps := 400000) (disch := first | omega | assumption) only [YR_upr, ST_upr, x5, x10, x13, x15, x11, a10, kv, rv, tv, lnv, lv0, clv, clr_i, clr_r, clr_n, clr_l, true_and, and_true, Option.toList_some, Option.toList_none, List.cons_append, List.nil_append, bI_0, bI_1, bI_or, ↓reduceIte, or_true, true_or, eq_self, irv, i0_add, not_true_eq_false, not_false_eq_true, Bool.false_eq_true, and_false, false_and, or_false, false_or, reduceCtorEq, nev, ngv, nc_or, in64, l64v, ite_not, ite_notP, up2_upr, upr_upr, upr_at, nI_cl, nI_ir, iav, nI_1, nI_mul6, nI_6mul, nI_lt2, nI_eq2, nI_neg, nI_m1, ltv, nI_z, upd_at, upd_off, upr_off, usv, upd_upd]
  exact ⟨hY, s1, PR_push hx16 hu hq hL, h0, h1, hT, hH, hB, ⟨s3, hS.2⟩, hSt⟩
theorem uC_off {N : Mem} {a b c e f : Nat → Int32} {r : Nat} (h : 28 < r) : uC N a b c e f r = N r := by
  unfold uC
  simp only [upr_r]
  rw [if_neg (by omega), if_neg (by omega), if_neg (by omega), if_neg (by omega), if_neg (by omega)]
theorem s29p (d x u : Nat) (M : Mem) (Q : Option Value → Mem → Prop) (hx : x < 16) (hu : u ≤ 16) (h1 : M 30 1 = nI x) (h2 : M 30 2 = nI u) : Wp (d + 2) 29 0 [.ref 30, .ref 24] [] M Q ↔ Q none (upr (upr M 30 (upd (upd (M 30) 1 (nI ((x + 1) % 16))) 2 (nI (up1 u)))) 31 (pkF (M 24) (M 25) (M 26) (M 28) (M 31) (x * 51))) := s29 d x u M Q hx hu h1 h2
theorem pair_week (d : Nat) (x : Int32) (M : Mem) (hI : Inv M) : PairOK (d + 5) 81 146 [.ref 0, .int x, .null, .null] [.ref 40, .int x, .null, .null] M := by
  intro K hK
  obtain ⟨n, nc, np, B, hY, hL, ⟨px, u, hx16, hu, p1, p2, p5, hq⟩, h0, h1, hT, hH, hB, hS, hSt⟩ := id hI
  have l48 := hL.2.2.2.1.1
  have er := refuse_eq (x := x) hY l48
  by_cases hr : (if rg x 1 60 then (if M 15 8 = 0 then (-1000000003 : Int32) else if 9000 < M 24 3 then -1000000004 else 0) else -1000000002) = 0
  · have hx : rg x 1 60 := by
      apply Classical.byContradiction
      intro z
      rw [if_neg z] at hr
      exact absurd hr (by decide)
    rw [if_pos hx] at hr
    have h8 : ¬ M 15 8 = 0 := by
      intro z
      rw [if_pos z] at hr
      exact absurd hr (by decide)
    rw [if_neg h8] at hr
    have h9 : ¬ 9000 < M 24 3 := by
      intro z
      rw [if_pos z] at hr
      exact absurd hr (by decide)
    obtain ⟨w, aa, hw, -, lw, -⟩ := hL.2.2.2.2.2.2.2.2.1
    have hw9 : w ≤ 9000 := by
      rw [lw, show (9000 : Int32) = nI 9000 from rfl, nI_lt2 (by omega) (by omega)] at h9
      omega
    obtain ⟨m, hm, rfl⟩ := rg_nI (n := 60) (x := x) ⟨by have := hx.1; omega, hx.2⟩
    have hG : Gd n nc np B w (upr (upr (upr (upr M 30 (upd (upd (M 30) 1 (nI ((px + 1) % 16))) 2 (nI (up1 u)))) 31 (pkF (M 24) (M 25) (M 26) (M 28) (M 31) (px * 51))) 40 (upd (M 40) 5 (nI (up1 u)))) 45 (psQ (M 43) (M 45) u)) := by
      refine ⟨?_, ?_, lw, hS.1⟩
      · rw [YR_upr (by omega), YR_upr (by omega), YR_upr (by omega), YR_upr (by omega)]; exact hY
      · rw [LM_upr (by omega), LM_upr (by omega), LM_upr (by omega), LM_upr (by omega)]; exact hL
    obtain ⟨a, b, c, e, f, xx, g, hs, hc, hmo⟩ := wkl_all d n nc np B m hm m 0 w _ (by omega) (by omega) hG
    have hfin := Inv_w ⟨hY, h0, h1, hT, hH, hB, hS, hSt⟩ hL hx16 hu hq hs
    have m1 : M 41 1 = 0 ↔ False := by
      obtain ⟨-, -, -, -, -, -, ⟨q1, -, q8, -⟩, -⟩ := hY
      rw [q1, ← q8]
      exact iff_false_intro h8
    have m9 : 9000 < M 43 48 ↔ False := by rw [l48]; exact iff_false_intro h9
    simp (maxSteps := 400000) (disch := first | omega | assumption) only [e81, s82, iff_true_intro hx, iff_false_intro h8, iff_false_intro h9, s29p _ px u M _ hx16 hu p1 p2, kv, rv, tv, lnv, lv0, clv, clr_i, clr_r, clr_n, clr_l, true_and, and_true, Option.toList_some, Option.toList_none, List.cons_append, List.nil_append, bI_0, bI_1, bI_or, ↓reduceIte, or_true, true_or, eq_self, irv, i0_add, not_true_eq_false, not_false_eq_true, Bool.false_eq_true, and_false, false_and, or_false, false_or, reduceCtorEq, nev, ngv, nc_or, in64, l64v, ite_not, ite_notP, up2_upr, upr_upr, upr_at, nI_cl, nI_ir, iav, nI_1, nI_mul6, nI_6mul, nI_lt2, nI_eq2, nI_neg, nI_m1, ltv, nI_z, upd_at, upd_off, upr_off, usv, upd_upd]
    refine (hc _ (fun r hr => by simp only [upr_r]; rw [if_neg (show ¬ r = 45 by omega), if_neg (show ¬ r = 40 by omega)]) _).mpr ?_
    simp (maxSteps := 400000) (disch := first | omega | assumption) only [e146, s147, uC_off, iff_true_intro hx, m1, m9, kv, rv, tv, lnv, lv0, clv, clr_i, clr_r, clr_n, clr_l, true_and, and_true, Option.toList_some, Option.toList_none, List.cons_append, List.nil_append, bI_0, bI_1, bI_or, ↓reduceIte, or_true, true_or, eq_self, irv, i0_add, not_true_eq_false, not_false_eq_true, Bool.false_eq_true, and_false, false_and, or_false, false_or, reduceCtorEq, nev, ngv, nc_or, in64, l64v, ite_not, ite_notP, up2_upr, upr_upr, upr_at, nI_cl, nI_ir, iav, nI_1, nI_mul6, nI_6mul, nI_lt2, nI_eq2, nI_neg, nI_m1, ltv, nI_z, upd_at, upd_off, upr_off, usv, upd_upd]
    refine (s148p (d + 3) u _ _ hu (by rw [uC_off (by omega)]; exact p5)).mpr ?_
    simp (maxSteps := 400000) (disch := first | omega | assumption) only [e146, uC_off, kv, rv, tv, lnv, lv0, clv, clr_i, clr_r, clr_n, clr_l, true_and, and_true, Option.toList_some, Option.toList_none, List.cons_append, List.nil_append, bI_0, bI_1, bI_or, ↓reduceIte, or_true, true_or, eq_self, irv, i0_add, not_true_eq_false, not_false_eq_true, Bool.false_eq_true, and_false, false_and, or_false, false_or, reduceCtorEq, nev, ngv, nc_or, in64, l64v, ite_not, ite_notP, up2_upr, upr_upr, upr_at, nI_cl, nI_ir, iav, nI_1, nI_mul6, nI_6mul, nI_lt2, nI_eq2, nI_neg, nI_m1, ltv, nI_z, upd_at, upd_off, upr_off, usv, upd_upd]
    refine (hmo _ (fun r hr => ?_) _).mpr ?_
    · simp only [upr_r]
      by_cases h45 : r = 45
      · simp only [if_pos h45]
      · by_cases h40 : r = 40
        · simp only [if_neg h45, if_pos h40]
        · simp only [if_neg h45, if_neg h40]
          rw [uC_off (by omega)]
          rfl
    · exact hK _ _ hfin
  · have e82 := fun d Q => s82 d x M Q
    generalize (if rg x 1 60 then (if M 15 8 = 0 then (-1000000003 : Int32) else if 9000 < M 24 3 then -1000000004 else 0) else -1000000002) = v at hr er e82
    have e147 : ∀ d Q, Wp (d + 1) 147 0 [.ref 40, .int x] [] M Q ↔ Q (some (.int v)) M := fun d Q => by rw [s147, er]
    simp (maxSteps := 400000) (disch := first | omega | assumption) only [e81, e146, e82, e147, iff_false_intro hr, kv, rv, tv, lnv, lv0, clv, clr_i, clr_r, clr_n, clr_l, true_and, and_true, Option.toList_some, Option.toList_none, List.cons_append, List.nil_append, bI_0, bI_1, bI_or, ↓reduceIte, or_true, true_or, eq_self, irv, i0_add, not_true_eq_false, not_false_eq_true, Bool.false_eq_true, and_false, false_and, or_false, false_or, reduceCtorEq, nev, ngv, nc_or, in64, l64v, ite_not, ite_notP, up2_upr, upr_upr, upr_at, nI_cl, nI_ir, iav, nI_1, nI_mul6, nI_6mul, nI_lt2, nI_eq2, nI_neg, nI_m1, ltv, nI_z, upd_at, upd_off, upr_off, usv, upd_upd]
    exact hK _ _ hI
