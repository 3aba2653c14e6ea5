/-! part 19: what holds between two calls -/
/-- the yard: the program's rows and the reference's -/
def YR (n nc np B : Nat) (M : Mem) : Prop :=
  (n ≤ 6 ∧ nc ≤ 4 ∧ np ≤ 6 ∧ B ≤ 6) ∧ (M 15 13 = nI n ∧ M 41 4 = nI n) ∧ (M 15 12 = nI nc ∧ M 41 3 = nI nc) ∧ (M 15 14 = nI np ∧ M 41 5 = nI np) ∧ (M 15 11 = nI B ∧ M 41 2 = nI B) ∧
  (M 41 0 = M 15 9 ∧ rg (M 15 9) 0 99) ∧ (M 41 1 = M 15 10 ∧ (∃ R, R ≤ 6 ∧ M 15 10 = nI R ∧ (R = 0 → n = 0)) ∧ (M 15 8 = 0 ↔ M 15 10 = 0) ∧ (M 15 8 = 0 ∨ M 15 8 = 1)) ∧
  (∀ k, k < nc → M 41 (6 + k) = M 16 k ∧ M 41 (10 + k) = M 17 k ∧ rg (M 16 k) 1 100 ∧ rg (M 17 k) 0 20) ∧
  (∀ k, k < n → M 41 (14 + k) = M 18 k ∧ (∃ c, c < nc ∧ M 18 k = nI c) ∧ M 41 (20 + k) = M 19 k ∧ rg (M 19 k) 1 999 ∧ M 41 (26 + k) = M 20 k ∧ rg (M 20 k) 0 99) ∧
  (∀ k, k < np → (M 41 (32 + k) = M 21 k ∧ rg (M 21 k) 0 20) ∧ (M 41 (38 + k) = M 22 k ∧ rg (M 22 k) 0 20) ∧ (M 41 (44 + k) = M 23 k ∧ rg (M 23 k) 0 99))
theorem YR_upr {n nc np B : Nat} {M : Mem} {j : Nat} {f : Nat → Int32} (h : j < 15 ∨ (23 < j ∧ j < 41) ∨ 41 < j) : YR n nc np B (upr M j f) ↔ YR n nc np B M := by
  unfold YR
  rw [upr_off (a := 15) (by omega), upr_off (a := 16) (by omega), upr_off (a := 17) (by omega), upr_off (a := 18) (by omega), upr_off (a := 19) (by omega), upr_off (a := 20) (by omega), upr_off (a := 21) (by omega), upr_off (a := 22) (by omega), upr_off (a := 23) (by omega), upr_off (a := 41) (by omega)]
/-- a life: the program's rows and the reference's -/
def LR (n : Nat) (l is ca ba g : Nat → Int32) : Prop :=
  (∀ k, k < 6 → g k = is k) ∧ (∀ k, k < 6 → g (6 + k) = ca k) ∧ (∀ i, i < 6 → ∀ j, j < 6 → g (12 + 6 * i + j) = ba (j * 6 + i)) ∧ (g 48 = l 3 ∧ g 49 = l 4 ∧ g 50 = l 5) ∧
  (∀ k, k < 6 → rg (ca k) (-9999) 9999) ∧ (∀ i, i < 6 → ∀ j, j < 6 → (ba (i * 6 + j)).toInt = -(ba (j * 6 + i)).toInt) ∧ (∀ i, i < 6 → ∀ j, j < 6 → rg (ba (i * 6 + j)) (-9999) 9999) ∧ (∀ i, i < 6 → ∀ j, j < 6 → (n ≤ i ∨ n ≤ j) → ba (i * 6 + j) = 0) ∧
  (∃ w a, w ≤ 9060 ∧ a ≤ 6 * w ∧ l 3 = nI w ∧ l 4 = nI a) ∧ rg (l 5) 0 999999
def LM (n : Nat) (M : Mem) : Prop := LR n (M 24) (M 25) (M 26) (M 28) (M 43)
theorem LM_upr {n : Nat} {M : Mem} {j : Nat} {f : Nat → Int32} (h : j < 24 ∨ j = 27 ∨ (28 < j ∧ j < 43) ∨ 43 < j) : LM n (upr M j f) ↔ LM n M := by
  unfold LM
  rw [upr_off (a := 24) (by omega), upr_off (a := 25) (by omega), upr_off (a := 26) (by omega), upr_off (a := 28) (by omega), upr_off (a := 43) (by omega)]
/-- a packed life -/
def LPk (n : Nat) (r : Nat → Int32) (f : Nat) (g : Nat → Int32) : Prop := LR n (fun j => r (f + 45 + j)) (fun k => r (f + k)) (fun k => r (f + 6 + k)) (fun q => r (f + 12 + q)) g
/-- what can be undone -/
def PR (n : Nat) (p r : Nat → Int32) (un : Int32) (q : Nat → Int32) : Prop := ∃ x u, x < 16 ∧ u ≤ 16 ∧ p 1 = nI x ∧ p 2 = nI u ∧ un = nI u ∧ ∀ i, i < u → LPk n r ((x + 16 - u + i) % 16 * 51) (fun j => q (51 * i + j))
/-- an image -/
def IR (n : Nat) (i : Nat) (o r im ke : Nat → Int32) : Prop := (o 1 = 0 ∨ o 1 = 1) ∧ ke i = o 1 ∧ (o 1 = 1 → LPk n r 0 (fun j => im (52 * i + j)) ∧ im (52 * i + 51) = o 2 ∧ ∃ a, a < 2147483648 ∧ o 2 = nI a)
/-- THE TEXT -/
def TR (l1 : Int32) (s : Nat → Int32) (m10 : Int32) (t : Nat → Int32) : Prop := ∃ c, c ≤ 240 ∧ l1 = nI c ∧ m10 = nI c ∧ ∀ i, i < c → t i = s i ∧ rg (s i) 0 255
/-- HATS -/
def HR (h : Nat → Int32) (m13 : Int32) (a : Nat → Int32) : Prop := ∃ c lo hi, c ≤ 6 ∧ lo ≤ 61 ∧ hi ≤ 60 ∧ h 0 = nI c ∧ m13 = nI c ∧ h 1 = nI lo ∧ h 2 = nI hi ∧ (∀ k, k < c → (∃ e, e ≤ 60 ∧ a (2 * k) = nI e) ∧ (a (2 * k + 1) = 0 ∨ a (2 * k + 1) = 1)) ∧ ∀ x, x ≤ 60 → ((∀ k, k < c → (a (2 * k) < nI x ↔ a (2 * k + 1) = 1)) ↔ lo ≤ x ∧ x ≤ hi)
/-- THE BOOK -/
def BR (n : Nat) (b2 : Int32) (w s : Nat → Int32) (m15 : Int32) (a : Nat → Int32) : Prop := ∃ c, c ≤ 15 ∧ b2 = nI c ∧ m15 = nI c ∧ ∀ i, i < c → a (2 * i) = w i ∧ a (2 * i + 1) = s i ∧ ∃ k, k < n ∧ w i = nI k
def SR (o11 o10 m8 m11 : Int32) : Prop := (∃ a, a < 2147483648 ∧ o11 = nI a ∧ m8 = nI a) ∧ m11 = o10
/-- the three rows that stand since the start -/
def ST (M : Mem) : Prop := (M 60 0 = 3 ∧ M 60 1 = 2 ∧ M 60 2 = 3 ∧ M 60 3 = 3) ∧ (∀ i, i < 12 → M 61 i = ([0, 1, 0, 1, 0, 0, 0, 1, 0, 0, 0, 0] : List Int32).getD i 0) ∧ (∀ i, i < 12 → M 62 i = ([99, 6, 6, 100, 20, 0, 3, 999, 99, 20, 20, 99] : List Int32).getD i 0)
theorem ST_upr {M : Mem} {j : Nat} {f : Nat → Int32} (h : j < 60) : ST (upr M j f) ↔ ST M := by
  unfold ST
  rw [upr_off (a := 60) (by omega), upr_off (a := 61) (by omega), upr_off (a := 62) (by omega)]
def Inv (M : Mem) : Prop := ∃ n nc np B, YR n nc np B M ∧ LM n M ∧ PR n (M 30) (M 31) (M 40 5) (M 45) ∧ IR n 0 (M 32) (M 33) (M 46) (M 47) ∧ IR n 1 (M 34) (M 35) (M 46) (M 47) ∧ TR (M 1 1) (M 2) (M 40 10) (M 48) ∧ HR (M 36) (M 40 13) (M 49) ∧ BR n (M 37 2) (M 38) (M 39) (M 40 15) (M 50) ∧ SR (M 0 11) (M 0 10) (M 40 8) (M 40 11) ∧ ST M
/-- a call of both -/
def PairOK (d yC yM : Nat) (LC LM : List Value) (M : Mem) : Prop := ∀ K : Option Value → Option Value → Mem → Prop, (∀ v M', Inv M' → K (some (.int v)) (some (.int v)) M') → Wp d yC 0 LC [] M (fun r1 M1 => Wp d yM 0 LM [] M1 (fun r2 M2 => K r1 r2 M2))
theorem pair_fault (d : Nat) (M : Mem) (hI : Inv M) : PairOK d 73 125 [.ref 0] [.ref 40] M := by
  intro K hK
  obtain ⟨n, nc, np, B, hY, hL, hP, h0, h1, hT, hH, hB, hS, hSt⟩ := id hI
  simp only [e73, e125, hS.2, kv, rv, tv, lnv, lv0, clv, clr_i, clr_r, clr_n, clr_l, true_and, and_true, Option.toList_some, Option.toList_none, List.cons_append, List.nil_append, bI_0, bI_1, bI_or, ↓reduceIte, or_true, true_or, eq_self, irv, i0_add, not_true_eq_false, not_false_eq_true, Bool.false_eq_true, and_false, false_and, or_false, false_or, reduceCtorEq, nev, ngv, nc_or, in64, l64v, ite_not, ite_notP, up2_upr, upr_upr, upr_at]
  exact hK _ _ hI
