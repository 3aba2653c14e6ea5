/-! part 09: the shape of the world, as rows to rewrite with -/
theorem kv : isK 0 11 = true ∧
  isK 1 5 = true ∧
  isK 2 13 = true ∧
  isK 3 8 = true ∧
  isK 4 13 = true ∧
  isK 5 1 = true ∧
  isK 6 13 = true ∧
  isK 7 13 = true ∧
  isK 8 13 = true ∧
  isK 9 13 = true ∧
  isK 10 13 = true ∧
  isK 11 13 = true ∧
  isK 12 13 = true ∧
  isK 13 13 = true ∧
  isK 14 9 = true ∧
  isK 15 1 = true ∧
  isK 16 13 = true ∧
  isK 17 13 = true ∧
  isK 18 13 = true ∧
  isK 19 13 = true ∧
  isK 20 13 = true ∧
  isK 21 13 = true ∧
  isK 22 13 = true ∧
  isK 23 13 = true ∧
  isK 24 6 = true ∧
  isK 25 13 = true ∧
  isK 26 13 = true ∧
  isK 27 2 = true ∧
  isK 28 13 = true ∧
  isK 29 10 = true ∧
  isK 30 7 = true ∧
  isK 31 13 = true ∧
  isK 32 4 = true ∧
  isK 33 13 = true ∧
  isK 34 4 = true ∧
  isK 35 13 = true ∧
  isK 36 3 = true ∧
  isK 37 0 = true ∧
  isK 38 13 = true ∧
  isK 39 13 = true ∧
  isK 40 12 = true ∧
  isK 41 13 = true ∧
  isK 42 13 = true ∧
  isK 43 13 = true ∧
  isK 44 13 = true ∧
  isK 45 13 = true ∧
  isK 46 13 = true ∧
  isK 47 14 = true ∧
  isK 48 13 = true ∧
  isK 49 13 = true ∧
  isK 50 13 = true ∧
  isK 51 13 = true ∧
  isK 52 13 = true ∧
  isK 53 13 = true ∧
  isK 54 13 = true := by
  refine ⟨?_, ?_, ?_, ?_, ?_, ?_, ?_, ?_, ?_, ?_, ?_, ?_, ?_, ?_, ?_, ?_, ?_, ?_, ?_, ?_, ?_, ?_, ?_, ?_, ?_, ?_, ?_, ?_, ?_, ?_, ?_, ?_, ?_, ?_, ?_, ?_, ?_, ?_, ?_, ?_, ?_, ?_, ?_, ?_, ?_, ?_, ?_, ?_, ?_, ?_, ?_, ?_, ?_, ?_, ?_⟩ <;> decide +kernel
theorem rv : isR 2 = true ∧ isR 4 = true ∧ isR 6 = true ∧ isR 7 = true ∧ isR 8 = true ∧ isR 9 = true ∧ isR 10 = true ∧ isR 11 = true ∧ isR 12 = true ∧ isR 13 = true ∧ isR 16 = true ∧ isR 17 = true ∧ isR 18 = true ∧ isR 19 = true ∧ isR 20 = true ∧ isR 21 = true ∧ isR 22 = true ∧ isR 23 = true ∧ isR 25 = true ∧ isR 26 = true ∧ isR 28 = true ∧ isR 31 = true ∧ isR 33 = true ∧ isR 35 = true ∧ isR 38 = true ∧ isR 39 = true ∧ isR 41 = true ∧ isR 42 = true ∧ isR 43 = true ∧ isR 44 = true ∧ isR 45 = true ∧ isR 46 = true ∧ isR 48 = true ∧ isR 49 = true ∧ isR 50 = true ∧ isR 51 = true ∧ isR 52 = true ∧ isR 53 = true ∧ isR 54 = true ∧ isR 60 = true ∧ isR 61 = true ∧ isR 62 = true ∧ isR 63 = true := by decide +kernel
theorem tv : rt 0 0 = 1 ∧ rt 0 1 = 3 ∧ rt 0 2 = 5 ∧ rt 0 3 = 14 ∧ rt 0 4 = 29 ∧ rt 0 5 = 30 ∧ rt 0 6 = 32 ∧ rt 0 7 = 34 ∧ rt 0 8 = 36 ∧ rt 0 9 = 37 ∧ rt 1 0 = 2 ∧ rt 3 0 = 4 ∧ rt 5 0 = 6 ∧ rt 5 1 = 7 ∧ rt 5 2 = 8 ∧ rt 5 3 = 9 ∧ rt 5 4 = 10 ∧ rt 5 5 = 11 ∧ rt 5 6 = 12 ∧ rt 5 7 = 13 ∧ rt 14 0 = 15 ∧ rt 14 1 = 24 ∧ rt 15 0 = 16 ∧ rt 15 1 = 17 ∧ rt 15 2 = 18 ∧ rt 15 3 = 19 ∧ rt 15 4 = 20 ∧ rt 15 5 = 21 ∧ rt 15 6 = 22 ∧ rt 15 7 = 23 ∧ rt 24 0 = 25 ∧ rt 24 1 = 26 ∧ rt 24 2 = 27 ∧ rt 27 0 = 28 ∧ rt 30 0 = 31 ∧ rt 32 0 = 33 ∧ rt 34 0 = 35 ∧ rt 37 0 = 38 ∧ rt 37 1 = 39 ∧ rt 40 0 = 41 ∧ rt 40 1 = 42 ∧ rt 40 2 = 43 ∧ rt 40 3 = 44 ∧ rt 40 4 = 45 ∧ rt 40 6 = 46 ∧ rt 40 7 = 47 ∧ rt 40 9 = 48 ∧ rt 40 12 = 49 ∧ rt 40 14 = 50 ∧ rt 40 22 = 51 ∧ rt 40 23 = 52 ∧ rt 40 24 = 53 ∧ rt 40 25 = 54 := by decide +kernel
theorem lv0 : ln0 2 = 240 ∧ ln0 4 = 3 ∧ ln0 6 = 4 ∧ ln0 7 = 4 ∧ ln0 8 = 6 ∧ ln0 9 = 6 ∧ ln0 10 = 6 ∧ ln0 11 = 6 ∧ ln0 12 = 6 ∧ ln0 13 = 6 ∧ ln0 16 = 4 ∧ ln0 17 = 4 ∧ ln0 18 = 6 ∧ ln0 19 = 6 ∧ ln0 20 = 6 ∧ ln0 21 = 6 ∧ ln0 22 = 6 ∧ ln0 23 = 6 ∧ ln0 25 = 6 ∧ ln0 26 = 6 ∧ ln0 28 = 36 ∧ ln0 31 = 816 ∧ ln0 33 = 51 ∧ ln0 35 = 51 ∧ ln0 38 = 15 ∧ ln0 39 = 15 ∧ ln0 41 = 50 ∧ ln0 42 = 50 ∧ ln0 43 = 51 ∧ ln0 44 = 51 ∧ ln0 45 = 816 ∧ ln0 46 = 104 ∧ ln0 47 = 2 ∧ ln0 48 = 240 ∧ ln0 49 = 12 ∧ ln0 50 = 30 ∧ ln0 51 = 7 ∧ ln0 52 = 7 ∧ ln0 53 = 7 ∧ ln0 54 = 7 := by decide +kernel
theorem lnv (M : Mem) : lnm M 2 = 240 ∧ lnm M 4 = 3 ∧ lnm M 6 = 4 ∧ lnm M 7 = 4 ∧ lnm M 8 = 6 ∧ lnm M 9 = 6 ∧ lnm M 10 = 6 ∧ lnm M 11 = 6 ∧ lnm M 12 = 6 ∧ lnm M 13 = 6 ∧ lnm M 16 = 4 ∧ lnm M 17 = 4 ∧ lnm M 18 = 6 ∧ lnm M 19 = 6 ∧ lnm M 20 = 6 ∧ lnm M 21 = 6 ∧ lnm M 22 = 6 ∧ lnm M 23 = 6 ∧ lnm M 25 = 6 ∧ lnm M 26 = 6 ∧ lnm M 28 = 36 ∧ lnm M 31 = 816 ∧ lnm M 33 = 51 ∧ lnm M 35 = 51 ∧ lnm M 38 = 15 ∧ lnm M 39 = 15 ∧ lnm M 41 = 50 ∧ lnm M 42 = 50 ∧ lnm M 43 = 51 ∧ lnm M 44 = 51 ∧ lnm M 45 = 816 ∧ lnm M 46 = 104 ∧ lnm M 47 = 2 ∧ lnm M 48 = 240 ∧ lnm M 49 = 12 ∧ lnm M 50 = 30 ∧ lnm M 51 = 7 ∧ lnm M 52 = 7 ∧ lnm M 53 = 7 ∧ lnm M 54 = 7 ∧ lnm M 60 = 4 ∧ lnm M 61 = 12 ∧ lnm M 62 = 12 := by
  refine ⟨?_, ?_, ?_, ?_, ?_, ?_, ?_, ?_, ?_, ?_, ?_, ?_, ?_, ?_, ?_, ?_, ?_, ?_, ?_, ?_, ?_, ?_, ?_, ?_, ?_, ?_, ?_, ?_, ?_, ?_, ?_, ?_, ?_, ?_, ?_, ?_, ?_, ?_, ?_, ?_, ?_, ?_, ?_⟩ <;> rfl
theorem clv : Int32.toNatClampNeg 0 = 0 ∧ Int32.toNatClampNeg 1 = 1 ∧ Int32.toNatClampNeg 2 = 2 ∧ Int32.toNatClampNeg 3 = 3 ∧ Int32.toNatClampNeg 4 = 4 ∧ Int32.toNatClampNeg 5 = 5 ∧ Int32.toNatClampNeg 6 = 6 ∧ Int32.toNatClampNeg 7 = 7 ∧ Int32.toNatClampNeg 8 = 8 ∧ Int32.toNatClampNeg 9 = 9 ∧ Int32.toNatClampNeg 10 = 10 ∧ Int32.toNatClampNeg 11 = 11 ∧ Int32.toNatClampNeg 12 = 12 ∧ Int32.toNatClampNeg 13 = 13 ∧ Int32.toNatClampNeg 14 = 14 ∧ Int32.toNatClampNeg 15 = 15 ∧ Int32.toNatClampNeg 16 = 16 ∧ Int32.toNatClampNeg 17 = 17 ∧ Int32.toNatClampNeg 18 = 18 ∧ Int32.toNatClampNeg 19 = 19 ∧ Int32.toNatClampNeg 20 = 20 ∧ Int32.toNatClampNeg 21 = 21 ∧ Int32.toNatClampNeg 22 = 22 ∧ Int32.toNatClampNeg 23 = 23 ∧ Int32.toNatClampNeg 24 = 24 ∧ Int32.toNatClampNeg 25 = 25 ∧ Int32.toNatClampNeg 26 = 26 ∧ Int32.toNatClampNeg 27 = 27 ∧ Int32.toNatClampNeg 28 = 28 ∧ Int32.toNatClampNeg 29 = 29 ∧ Int32.toNatClampNeg 30 = 30 ∧ Int32.toNatClampNeg 31 = 31 ∧ Int32.toNatClampNeg 32 = 32 ∧ Int32.toNatClampNeg 33 = 33 ∧ Int32.toNatClampNeg 34 = 34 ∧ Int32.toNatClampNeg 35 = 35 ∧ Int32.toNatClampNeg 36 = 36 ∧ Int32.toNatClampNeg 37 = 37 ∧ Int32.toNatClampNeg 38 = 38 ∧ Int32.toNatClampNeg 39 = 39 ∧ Int32.toNatClampNeg 40 = 40 ∧ Int32.toNatClampNeg 41 = 41 ∧ Int32.toNatClampNeg 42 = 42 ∧ Int32.toNatClampNeg 43 = 43 ∧ Int32.toNatClampNeg 44 = 44 ∧ Int32.toNatClampNeg 45 = 45 ∧ Int32.toNatClampNeg 46 = 46 ∧ Int32.toNatClampNeg 47 = 47 ∧ Int32.toNatClampNeg 48 = 48 ∧ Int32.toNatClampNeg 49 = 49 ∧ Int32.toNatClampNeg 50 = 50 ∧ Int32.toNatClampNeg 51 = 51 ∧ Int32.toNatClampNeg 52 = 52 ∧ Int32.toNatClampNeg 53 = 53 ∧ Int32.toNatClampNeg 54 = 54 ∧ Int32.toNatClampNeg 55 = 55 ∧ Int32.toNatClampNeg 56 = 56 ∧ Int32.toNatClampNeg 57 = 57 ∧ Int32.toNatClampNeg 58 = 58 ∧ Int32.toNatClampNeg 59 = 59 ∧ Int32.toNatClampNeg 60 = 60 ∧ Int32.toNatClampNeg 61 = 61 ∧ Int32.toNatClampNeg 62 = 62 ∧ Int32.toNatClampNeg 63 = 63 ∧ Int32.toNatClampNeg 98 = 98 ∧ Int32.toNatClampNeg 104 = 104 ∧ Int32.toNatClampNeg 240 = 240 := by
  refine ⟨?_, ?_, ?_, ?_, ?_, ?_, ?_, ?_, ?_, ?_, ?_, ?_, ?_, ?_, ?_, ?_, ?_, ?_, ?_, ?_, ?_, ?_, ?_, ?_, ?_, ?_, ?_, ?_, ?_, ?_, ?_, ?_, ?_, ?_, ?_, ?_, ?_, ?_, ?_, ?_, ?_, ?_, ?_, ?_, ?_, ?_, ?_, ?_, ?_, ?_, ?_, ?_, ?_, ?_, ?_, ?_, ?_, ?_, ?_, ?_, ?_, ?_, ?_, ?_, ?_, ?_, ?_⟩ <;> decide +kernel
theorem clr_i (v : Int32) : clr (.int v) = .int v := rfl
theorem clr_r (v : Nat) : clr (.ref v) = .ref v := rfl
theorem clr_n : clr .null = .null := rfl
theorem clr_l (v : Int64) : clr (.long v) = .null := rfl
theorem nI_cl {n : Nat} (h : n < 2147483648) : (nI n).toNatClampNeg = n := nI_clamp h
theorem nI_ir {a n : Nat} (h : a < n) (h2 : n < 2147483648) : inr (nI a) n ↔ True := by
  refine ⟨fun _ => trivial, fun _ => ⟨nI_pos (by omega), ?_⟩⟩
  rw [nI_clamp (by omega)]
  exact h
theorem nI_6mul (k : Nat) : nI k * (6 : Int32) = nI (k * 6) := pk_mul k 6
theorem nI_mul6 (k : Nat) : (6 : Int32) * nI k = nI (6 * k) := pk_mul 6 k
theorem irv : (inr 0 50 ↔ True) ∧ (inr 1 50 ↔ True) ∧ (inr 2 50 ↔ True) ∧ (inr 3 50 ↔ True) ∧ (inr 4 50 ↔ True) ∧ (inr 5 50 ↔ True) ∧ (inr 6 50 ↔ True) ∧ (inr 7 50 ↔ True) ∧ (inr 8 50 ↔ True) ∧ (inr 9 50 ↔ True) ∧ (inr 10 50 ↔ True) ∧ (inr 11 50 ↔ True) ∧ (inr 12 50 ↔ True) ∧ (inr 13 50 ↔ True) ∧ (inr 14 50 ↔ True) ∧ (inr 15 50 ↔ True) ∧ (inr 16 50 ↔ True) ∧ (inr 17 50 ↔ True) ∧ (inr 18 50 ↔ True) ∧ (inr 19 50 ↔ True) ∧ (inr 20 50 ↔ True) ∧ (inr 21 50 ↔ True) ∧ (inr 22 50 ↔ True) ∧ (inr 23 50 ↔ True) ∧ (inr 24 50 ↔ True) ∧ (inr 25 50 ↔ True) ∧ (inr 26 50 ↔ True) ∧ (inr 27 50 ↔ True) ∧ (inr 28 50 ↔ True) ∧ (inr 29 50 ↔ True) ∧ (inr 30 50 ↔ True) ∧ (inr 31 50 ↔ True) ∧ (inr 32 50 ↔ True) ∧ (inr 33 50 ↔ True) ∧ (inr 34 50 ↔ True) ∧ (inr 35 50 ↔ True) ∧ (inr 36 50 ↔ True) ∧ (inr 37 50 ↔ True) ∧ (inr 38 50 ↔ True) ∧ (inr 39 50 ↔ True) ∧ (inr 40 50 ↔ True) ∧ (inr 41 50 ↔ True) ∧ (inr 42 50 ↔ True) ∧ (inr 43 50 ↔ True) ∧ (inr 44 50 ↔ True) ∧ (inr 45 50 ↔ True) ∧ (inr 46 50 ↔ True) ∧ (inr 47 50 ↔ True) ∧ (inr 48 50 ↔ True) ∧ (inr 49 50 ↔ True) ∧ (inr 0 51 ↔ True) ∧ (inr 1 51 ↔ True) ∧ (inr 2 51 ↔ True) ∧ (inr 3 51 ↔ True) ∧ (inr 4 51 ↔ True) ∧ (inr 5 51 ↔ True) ∧ (inr 6 51 ↔ True) ∧ (inr 7 51 ↔ True) ∧ (inr 8 51 ↔ True) ∧ (inr 9 51 ↔ True) ∧ (inr 10 51 ↔ True) ∧ (inr 11 51 ↔ True) ∧ (inr 12 51 ↔ True) ∧ (inr 13 51 ↔ True) ∧ (inr 14 51 ↔ True) ∧ (inr 15 51 ↔ True) ∧ (inr 16 51 ↔ True) ∧ (inr 17 51 ↔ True) ∧ (inr 18 51 ↔ True) ∧ (inr 19 51 ↔ True) ∧ (inr 20 51 ↔ True) ∧ (inr 21 51 ↔ True) ∧ (inr 22 51 ↔ True) ∧ (inr 23 51 ↔ True) ∧ (inr 24 51 ↔ True) ∧ (inr 25 51 ↔ True) ∧ (inr 26 51 ↔ True) ∧ (inr 27 51 ↔ True) ∧ (inr 28 51 ↔ True) ∧ (inr 29 51 ↔ True) ∧ (inr 30 51 ↔ True) ∧ (inr 31 51 ↔ True) ∧ (inr 32 51 ↔ True) ∧ (inr 33 51 ↔ True) ∧ (inr 34 51 ↔ True) ∧ (inr 35 51 ↔ True) ∧ (inr 36 51 ↔ True) ∧ (inr 37 51 ↔ True) ∧ (inr 38 51 ↔ True) ∧ (inr 39 51 ↔ True) ∧ (inr 40 51 ↔ True) ∧ (inr 41 51 ↔ True) ∧ (inr 42 51 ↔ True) ∧ (inr 43 51 ↔ True) ∧ (inr 44 51 ↔ True) ∧ (inr 45 51 ↔ True) ∧ (inr 46 51 ↔ True) ∧ (inr 47 51 ↔ True) ∧ (inr 48 51 ↔ True) ∧ (inr 49 51 ↔ True) ∧ (inr 50 51 ↔ True) ∧ (inr 51 104 ↔ True) ∧ (inr 103 104 ↔ True) ∧ (inr 0 2 ↔ True) ∧ (inr 1 2 ↔ True) ∧ (inr 0 3 ↔ True) ∧ (inr 1 3 ↔ True) ∧ (inr 2 3 ↔ True) ∧ (inr 0 7 ↔ True) := by
  refine ⟨?_, ?_, ?_, ?_, ?_, ?_, ?_, ?_, ?_, ?_, ?_, ?_, ?_, ?_, ?_, ?_, ?_, ?_, ?_, ?_, ?_, ?_, ?_, ?_, ?_, ?_, ?_, ?_, ?_, ?_, ?_, ?_, ?_, ?_, ?_, ?_, ?_, ?_, ?_, ?_, ?_, ?_, ?_, ?_, ?_, ?_, ?_, ?_, ?_, ?_, ?_, ?_, ?_, ?_, ?_, ?_, ?_, ?_, ?_, ?_, ?_, ?_, ?_, ?_, ?_, ?_, ?_, ?_, ?_, ?_, ?_, ?_, ?_, ?_, ?_, ?_, ?_, ?_, ?_, ?_, ?_, ?_, ?_, ?_, ?_, ?_, ?_, ?_, ?_, ?_, ?_, ?_, ?_, ?_, ?_, ?_, ?_, ?_, ?_, ?_, ?_, ?_, ?_, ?_, ?_, ?_, ?_, ?_, ?_⟩ <;> exact ⟨fun _ => trivial, fun _ => inrB_iff.mp (by decide +kernel)⟩
theorem nI_lt2 {a b : Nat} (ha : a < 2147483648) (hb : b < 2147483648) : nI a < nI b ↔ a < b := nI_ltI ha hb
theorem nI_le2 {a b : Nat} (ha : a < 2147483648) (hb : b < 2147483648) : nI a ≤ nI b ↔ a ≤ b := nI_leI ha hb
theorem nI_eq2 {a b : Nat} (ha : a < 2147483648) (hb : b < 2147483648) : nI a = nI b ↔ a = b := nI_eq ha hb
theorem nI_neg {a : Nat} (ha : a < 2147483648) : nI a < 0 ↔ False := ⟨fun h => nI_pos ha h, False.elim⟩
theorem nI_m1 {a : Nat} (ha : a < 2147483648) : nI a = -1 ↔ False := ⟨fun h => nI_pos ha (by rw [h]; decide), False.elim⟩
theorem i0_add (x : Int32) : 0 + x = x := Int32.zero_add x
theorem up2_upr (M : Mem) (k j : Nat) (v : Int32) : up2 M k j v = upr M k (upd (M k) j v) := rfl
theorem upr_upr (M : Mem) (k : Nat) (f g : Nat → Int32) : upr (upr M k f) k g = upr M k g := by
  funext a
  unfold upr
  split <;> rfl
theorem upr_at (M : Mem) (k : Nat) (f : Nat → Int32) : upr M k f k = f := upr_eq
theorem upr_id (M : Mem) (k : Nat) : upr M k (M k) = M := by
  funext a
  unfold upr
  split
  next h => rw [h]
  next => rfl
theorem upr_off {M : Mem} {k : Nat} {f : Nat → Int32} {a : Nat} (h : a ≠ k) : upr M k f a = M a := upr_ne h
theorem iteQ {c : Prop} [Decidable c] (Q : Option Value → Mem → Prop) (a b : Int32) (M : Mem) : (if c then Q (some (.int a)) M else Q (some (.int b)) M) ↔ Q (some (.int (if c then a else b))) M := by
  split <;> rfl
theorem andI (x : Int32) : x &&& 1 = 0 ∨ x &&& 1 = 1 := by
  obtain ⟨j, hj, e⟩ := pk_andE x (m := 1) 1 (by decide)
  rw [e]
  have : j = 0 ∨ j = 1 := by omega
  rcases this with rfl | rfl
  · exact Or.inl rfl
  · exact Or.inr rfl
theorem and1 (x : Int32) : x &&& 1 = 0 ↔ ¬ x &&& 1 = 1 := by
  rcases andI x with h | h <;> rw [h] <;> decide
theorem mn_l (a b : Int32) : (if a < b then a else b) = mn a b := by
  unfold mn
  by_cases h : a < b
  · rw [if_pos h, if_neg (Int32.not_lt.mpr (Int32.le_of_lt h))]
  · rw [if_neg h]
    by_cases h2 : b < a
    · rw [if_pos h2]
    · rw [if_neg h2]
      exact Int32.le_antisymm (Int32.not_lt.mp h) (Int32.not_lt.mp h2)
theorem mx_g (a b : Int32) : (if b < a then a else b) = mx a b := by
  unfold mx
  by_cases h : b < a
  · rw [if_pos h, if_neg (Int32.not_lt.mpr (Int32.le_of_lt h))]
  · rw [if_neg h]
    by_cases h2 : a < b
    · rw [if_pos h2]
    · rw [if_neg h2]
      exact Int32.le_antisymm (Int32.not_lt.mp h2) (Int32.not_lt.mp h)
theorem bI_or2 (p q : Prop) [Decidable p] [Decidable q] : (if p then (1 : Int32) else if q then 1 else 0) = bI (p ∨ q) := by
  unfold bI
  by_cases h : p <;> by_cases g : q <;> simp [h, g]
theorem bI_and2 (p q : Prop) [Decidable p] [Decidable q] : (if p then (if q then (1 : Int32) else 0) else 0) = bI (p ∧ q) := by
  unfold bI
  by_cases h : p <;> by_cases g : q <;> simp [h, g]
theorem bI_nand (p q : Prop) [Decidable p] [Decidable q] : (if p then (0 : Int32) else if q then 0 else 1) = bI (¬ p ∧ ¬ q) := by
  unfold bI
  by_cases h : p <;> by_cases g : q <;> simp [h, g]
theorem bI_if (p : Prop) [Decidable p] : (if p then (1 : Int32) else 0) = bI p := rfl
theorem bI_ifn (p : Prop) [Decidable p] : (if p then (0 : Int32) else 1) = bI (¬ p) := by
  unfold bI
  by_cases h : p <;> simp [h]
theorem upr_c {M : Mem} {a b : Nat} {f g : Nat → Int32} (h : a ≠ b) : upr (upr M a f) b g = upr (upr M b g) a f := by
  funext x
  unfold upr
  by_cases h1 : x = b
  · subst h1; rw [if_pos rfl, if_neg (fun z => h z.symm), if_pos rfl]
  · rw [if_neg h1]
    split <;> first | rfl | rw [if_neg h1]
theorem ltv {a : Nat} (ha : a < 2147483648) : (nI a < 1 ↔ a < 1) ∧ (1 < nI a ↔ 1 < a) ∧ (nI a = 1 ↔ a = 1) ∧ (nI a < 2 ↔ a < 2) ∧ (2 < nI a ↔ 2 < a) ∧ (nI a = 2 ↔ a = 2) ∧ (nI a < 3 ↔ a < 3) ∧ (3 < nI a ↔ 3 < a) ∧ (nI a = 3 ↔ a = 3) ∧ (nI a < 4 ↔ a < 4) ∧ (4 < nI a ↔ 4 < a) ∧ (nI a = 4 ↔ a = 4) ∧ (nI a < 5 ↔ a < 5) ∧ (5 < nI a ↔ 5 < a) ∧ (nI a = 5 ↔ a = 5) ∧ (nI a < 6 ↔ a < 6) ∧ (6 < nI a ↔ 6 < a) ∧ (nI a = 6 ↔ a = 6) ∧ (nI a < 7 ↔ a < 7) ∧ (7 < nI a ↔ 7 < a) ∧ (nI a = 7 ↔ a = 7) ∧ (nI a < 15 ↔ a < 15) ∧ (15 < nI a ↔ 15 < a) ∧ (nI a = 15 ↔ a = 15) ∧ (nI a < 16 ↔ a < 16) ∧ (16 < nI a ↔ 16 < a) ∧ (nI a = 16 ↔ a = 16) ∧ (nI a < 32 ↔ a < 32) ∧ (32 < nI a ↔ 32 < a) ∧ (nI a = 32 ↔ a = 32) ∧ (nI a < 50 ↔ a < 50) ∧ (50 < nI a ↔ 50 < a) ∧ (nI a = 50 ↔ a = 50) ∧ (nI a < 51 ↔ a < 51) ∧ (51 < nI a ↔ 51 < a) ∧ (nI a = 51 ↔ a = 51) ∧ (nI a < 59 ↔ a < 59) ∧ (59 < nI a ↔ 59 < a) ∧ (nI a = 59 ↔ a = 59) ∧ (nI a < 60 ↔ a < 60) ∧ (60 < nI a ↔ 60 < a) ∧ (nI a = 60 ↔ a = 60) ∧ (nI a < 61 ↔ a < 61) ∧ (61 < nI a ↔ 61 < a) ∧ (nI a = 61 ↔ a = 61) ∧ (nI a < 99 ↔ a < 99) ∧ (99 < nI a ↔ 99 < a) ∧ (nI a = 99 ↔ a = 99) ∧ (nI a < 100 ↔ a < 100) ∧ (100 < nI a ↔ 100 < a) ∧ (nI a = 100 ↔ a = 100) ∧ (nI a < 101 ↔ a < 101) ∧ (101 < nI a ↔ 101 < a) ∧ (nI a = 101 ↔ a = 101) ∧ (nI a < 200 ↔ a < 200) ∧ (200 < nI a ↔ 200 < a) ∧ (nI a = 200 ↔ a = 200) ∧ (nI a < 201 ↔ a < 201) ∧ (201 < nI a ↔ 201 < a) ∧ (nI a = 201 ↔ a = 201) ∧ (nI a < 240 ↔ a < 240) ∧ (240 < nI a ↔ 240 < a) ∧ (nI a = 240 ↔ a = 240) ∧ (nI a < 241 ↔ a < 241) ∧ (241 < nI a ↔ 241 < a) ∧ (nI a = 241 ↔ a = 241) ∧ (nI a < 255 ↔ a < 255) ∧ (255 < nI a ↔ 255 < a) ∧ (nI a = 255 ↔ a = 255) ∧ (nI a < 816 ↔ a < 816) ∧ (816 < nI a ↔ 816 < a) ∧ (nI a = 816 ↔ a = 816) ∧ (nI a < 765 ↔ a < 765) ∧ (765 < nI a ↔ 765 < a) ∧ (nI a = 765 ↔ a = 765) := by
  refine ⟨nI_ltI ha (b := 1) (by decide), nI_ltI (a := 1) (by decide) ha, nI_eq ha (b := 1) (by decide), nI_ltI ha (b := 2) (by decide), nI_ltI (a := 2) (by decide) ha, nI_eq ha (b := 2) (by decide), nI_ltI ha (b := 3) (by decide), nI_ltI (a := 3) (by decide) ha, nI_eq ha (b := 3) (by decide), nI_ltI ha (b := 4) (by decide), nI_ltI (a := 4) (by decide) ha, nI_eq ha (b := 4) (by decide), nI_ltI ha (b := 5) (by decide), nI_ltI (a := 5) (by decide) ha, nI_eq ha (b := 5) (by decide), nI_ltI ha (b := 6) (by decide), nI_ltI (a := 6) (by decide) ha, nI_eq ha (b := 6) (by decide), nI_ltI ha (b := 7) (by decide), nI_ltI (a := 7) (by decide) ha, nI_eq ha (b := 7) (by decide), nI_ltI ha (b := 15) (by decide), nI_ltI (a := 15) (by decide) ha, nI_eq ha (b := 15) (by decide), nI_ltI ha (b := 16) (by decide), nI_ltI (a := 16) (by decide) ha, nI_eq ha (b := 16) (by decide), nI_ltI ha (b := 32) (by decide), nI_ltI (a := 32) (by decide) ha, nI_eq ha (b := 32) (by decide), nI_ltI ha (b := 50) (by decide), nI_ltI (a := 50) (by decide) ha, nI_eq ha (b := 50) (by decide), nI_ltI ha (b := 51) (by decide), nI_ltI (a := 51) (by decide) ha, nI_eq ha (b := 51) (by decide), nI_ltI ha (b := 59) (by decide), nI_ltI (a := 59) (by decide) ha, nI_eq ha (b := 59) (by decide), nI_ltI ha (b := 60) (by decide), nI_ltI (a := 60) (by decide) ha, nI_eq ha (b := 60) (by decide), nI_ltI ha (b := 61) (by decide), nI_ltI (a := 61) (by decide) ha, nI_eq ha (b := 61) (by decide), nI_ltI ha (b := 99) (by decide), nI_ltI (a := 99) (by decide) ha, nI_eq ha (b := 99) (by decide), nI_ltI ha (b := 100) (by decide), nI_ltI (a := 100) (by decide) ha, nI_eq ha (b := 100) (by decide), nI_ltI ha (b := 101) (by decide), nI_ltI (a := 101) (by decide) ha, nI_eq ha (b := 101) (by decide), nI_ltI ha (b := 200) (by decide), nI_ltI (a := 200) (by decide) ha, nI_eq ha (b := 200) (by decide), nI_ltI ha (b := 201) (by decide), nI_ltI (a := 201) (by decide) ha, nI_eq ha (b := 201) (by decide), nI_ltI ha (b := 240) (by decide), nI_ltI (a := 240) (by decide) ha, nI_eq ha (b := 240) (by decide), nI_ltI ha (b := 241) (by decide), nI_ltI (a := 241) (by decide) ha, nI_eq ha (b := 241) (by decide), nI_ltI ha (b := 255) (by decide), nI_ltI (a := 255) (by decide) ha, nI_eq ha (b := 255) (by decide), nI_ltI ha (b := 816) (by decide), nI_ltI (a := 816) (by decide) ha, nI_eq ha (b := 816) (by decide), nI_ltI ha (b := 765) (by decide), nI_ltI (a := 765) (by decide) ha, nI_eq ha (b := 765) (by decide)⟩
theorem nI_z {a : Nat} (ha : a < 2147483648) : (nI a = 0 ↔ a = 0) ∧ (0 < nI a ↔ 0 < a) := ⟨nI_eq ha (b := 0) (by decide), nI_ltI (a := 0) (by decide) ha⟩
theorem l64v : Int64.toInt 0 = 0 ∧ Int64.toInt 1 = 1 ∧ Int64.toInt 2 = 2 ∧ Int64.toInt 4 = 4 ∧ Int64.toInt 48 = 48 ∧ Int64.toInt 57 = 57 ∧ Int64.toInt 60 = 60 ∧ Int64.toInt 99 = 99 ∧ Int64.toInt 100 = 100 ∧ Int64.toInt 255 = 255 ∧ Int64.toInt 999 = 999 ∧ Int64.toInt 9999 = 9999 := by
  refine ⟨?_, ?_, ?_, ?_, ?_, ?_, ?_, ?_, ?_, ?_, ?_, ?_⟩ <;> decide +kernel
theorem nc_or (c : Prop) : (¬ c ∨ c) ↔ True := ⟨fun _ => trivial, fun _ => (Classical.em c).symm⟩
/-- a number within bounds -/
abbrev rg (x : Int32) (lo hi : Int) : Prop := lo ≤ x.toInt ∧ x.toInt ≤ hi
theorem in64 (x : Int32) (u v : Int64) : (u ≤ x.toInt64 ∧ x.toInt64 ≤ v) ↔ rg x u.toInt v.toInt := by
  rw [Int64.le_iff_toInt_le, Int64.le_iff_toInt_le, Int32.toInt_toInt64]
theorem rg_cls {A B : Prop} (x lo hi : Int32) : (if x < lo then A else if hi < x then A else B) ↔ if rg x lo.toInt hi.toInt then B else A := by
  by_cases h1 : x < lo
  · rw [if_pos h1, if_neg (fun z => Int.not_lt.mpr z.1 (Int32.lt_iff_toInt_lt.mp h1))]
  · rw [if_neg h1]
    by_cases h2 : hi < x
    · rw [if_pos h2, if_neg (fun z => Int.not_lt.mpr z.2 (Int32.lt_iff_toInt_lt.mp h2))]
    · rw [if_neg h2, if_pos ⟨Int.not_lt.mp (fun z => h1 (Int32.lt_iff_toInt_lt.mpr z)), Int.not_lt.mp (fun z => h2 (Int32.lt_iff_toInt_lt.mpr z))⟩]
theorem rg_ite {α : Type} {a b : α} (x lo hi : Int32) : (if x < lo then a else if hi < x then a else b) = if rg x lo.toInt hi.toInt then b else a := by
  by_cases h1 : x < lo
  · rw [if_pos h1, if_neg (fun z => Int.not_lt.mpr z.1 (Int32.lt_iff_toInt_lt.mp h1))]
  · rw [if_neg h1]
    by_cases h2 : hi < x
    · rw [if_pos h2, if_neg (fun z => Int.not_lt.mpr z.2 (Int32.lt_iff_toInt_lt.mp h2))]
    · rw [if_neg h2, if_pos ⟨Int.not_lt.mp (fun z => h1 (Int32.lt_iff_toInt_lt.mpr z)), Int.not_lt.mp (fun z => h2 (Int32.lt_iff_toInt_lt.mpr z))⟩]
theorem rg_deb {x : Int32} {n : Nat} (hn : n < 1000) : (if x < 0 then (0 : Int32) else if x < nI n then 1 else 0) = bI (rg x 0 (n - 1)) := by
  have e : (nI n).toInt = n := nI_toInt (by omega)
  have z0 : (0 : Int32).toInt = 0 := by decide
  unfold bI
  by_cases h1 : x < 0
  · rw [if_pos h1, if_neg]
    intro z
    have := Int32.lt_iff_toInt_lt.mp h1
    have := z.1
    omega
  · rw [if_neg h1]
    have a1 : ¬ x.toInt < 0 := fun z => h1 (Int32.lt_iff_toInt_lt.mpr (by rw [z0]; exact z))
    by_cases h2 : x < nI n
    · have := Int32.lt_iff_toInt_lt.mp h2
      rw [if_pos h2, if_pos ⟨by omega, by omega⟩]
    · rw [if_neg h2, if_neg]
      intro z
      apply h2
      apply Int32.lt_iff_toInt_lt.mpr
      have := z.2
      omega
theorem rg_debP {A B : Prop} {x : Int32} {n : Nat} (hn : n < 1000) : (if x < 0 then A else if x < nI n then B else A) ↔ if rg x 0 (n - 1) then B else A := by
  have h := rg_deb (x := x) (n := n) hn
  unfold bI at h
  by_cases h1 : x < 0
  · rw [if_pos h1] at h ⊢
    rw [if_neg]
    intro z
    rw [if_pos z] at h
    exact absurd h (by decide)
  · rw [if_neg h1] at h ⊢
    by_cases h2 : x < nI n
    · rw [if_pos h2] at h ⊢
      rw [if_pos]
      apply Classical.byContradiction
      intro z
      rw [if_neg z] at h
      exact absurd h (by decide)
    · rw [if_neg h2] at h ⊢
      rw [if_neg]
      intro z
      rw [if_pos z] at h
      exact absurd h (by decide)
theorem i32v : Int32.toInt 0 = 0 ∧ Int32.toInt 1 = 1 ∧ Int32.toInt 2 = 2 ∧ Int32.toInt 4 = 4 ∧ Int32.toInt 60 = 60 ∧ Int32.toInt 99 = 99 ∧ Int32.toInt 100 = 100 ∧ Int32.toInt 255 = 255 ∧ Int32.toInt 999 = 999 ∧ Int32.toInt 9999 = 9999 := by decide +kernel
theorem rg_nI {x : Int32} {n : Nat} (h : rg x 0 n) : ∃ k, k ≤ n ∧ x = nI k := by
  obtain ⟨k, hk, e⟩ := nI_of (x := x) (fun z => Int.not_lt.mpr h.1 (Int32.lt_iff_toInt_lt.mp z))
  refine ⟨k, ?_, e⟩
  have := h.2
  rw [e, nI_toInt hk] at this
  omega
theorem rg_k {x : Int32} {n : Nat} (hn : n < 1000) (h : rg x 0 (n - 1)) : ∃ k, k < n ∧ x = nI k := by
  obtain ⟨k, hk, e⟩ := rg_nI (n := n) (x := x) ⟨h.1, by have := h.2; omega⟩
  refine ⟨k, ?_, e⟩
  have := h.2
  rw [e, nI_toInt (by omega)] at this
  omega
theorem rg_of {k : Nat} {lo hi : Int} (h : k < 2147483648) : rg (nI k) lo hi ↔ lo ≤ k ∧ (k : Int) ≤ hi := by
  unfold rg
  rw [nI_toInt h]
theorem ite_not {c : Prop} [Decidable c] {α : Type} (a b : α) : (if ¬ c then a else b) = if c then b else a := by
  by_cases h : c
  · rw [if_neg (fun z => z h), if_pos h]
  · rw [if_pos h, if_neg h]
theorem ite_notP {c : Prop} [Decidable c] (a b : Prop) : (if ¬ c then a else b) = if c then b else a := by
  by_cases h : c
  · rw [if_neg (fun z => z h), if_pos h]
  · rw [if_pos h, if_neg h]
theorem upd_at (f : Nat → Int32) (k : Nat) (x : Int32) : upd f k x k = x := pk_us
theorem upd_off {f : Nat → Int32} {k j : Nat} {x : Int32} (h : j ≠ k) : upd f k x j = f j := pk_un h
theorem upd_upd (f : Nat → Int32) (k : Nat) (x y : Int32) : upd (upd f k x) k y = upd f k y := by
  funext j
  unfold upd
  split <;> rfl
theorem fill_s (f g : Nat → Int32) (i : Nat) : upd (fun q => if q < i then f q else g q) i (f i) = fun q => if q < i + 1 then f q else g q := by
  funext q
  unfold upd
  by_cases h1 : q = i
  · subst h1; rw [if_pos rfl, if_pos (by omega)]
  · rw [if_neg h1]
    by_cases h2 : q < i
    · simp only [if_pos h2, if_pos (show q < i + 1 by omega)]
    · simp only [if_neg h2, if_neg (show ¬ q < i + 1 by omega)]
theorem fill_0 (f g : Nat → Int32) : (fun q => if q < 0 then f q else g q) = g := by
  funext q
  rw [if_neg (by omega)]
theorem nev : ((0 : Int32) = 1 ↔ False) ∧ ((0 : Int32) = 2 ↔ False) ∧ ((0 : Int32) = 3 ↔ False) ∧ ((0 : Int32) = 4 ↔ False) ∧ ((0 : Int32) = 5 ↔ False) ∧ ((1 : Int32) = 0 ↔ False) ∧ ((1 : Int32) = 2 ↔ False) ∧ ((1 : Int32) = 3 ↔ False) ∧ ((1 : Int32) = 4 ↔ False) ∧ ((1 : Int32) = 5 ↔ False) ∧ ((2 : Int32) = 0 ↔ False) ∧ ((2 : Int32) = 1 ↔ False) ∧ ((2 : Int32) = 3 ↔ False) ∧ ((2 : Int32) = 4 ↔ False) ∧ ((2 : Int32) = 5 ↔ False) ∧ ((3 : Int32) = 0 ↔ False) ∧ ((3 : Int32) = 1 ↔ False) ∧ ((3 : Int32) = 2 ↔ False) ∧ ((3 : Int32) = 4 ↔ False) ∧ ((3 : Int32) = 5 ↔ False) ∧ ((4 : Int32) = 0 ↔ False) ∧ ((4 : Int32) = 1 ↔ False) ∧ ((4 : Int32) = 2 ↔ False) ∧ ((4 : Int32) = 3 ↔ False) ∧ ((4 : Int32) = 5 ↔ False) ∧ ((5 : Int32) = 0 ↔ False) ∧ ((5 : Int32) = 1 ↔ False) ∧ ((5 : Int32) = 2 ↔ False) ∧ ((5 : Int32) = 3 ↔ False) ∧ ((5 : Int32) = 4 ↔ False) := by
  refine ⟨?_, ?_, ?_, ?_, ?_, ?_, ?_, ?_, ?_, ?_, ?_, ?_, ?_, ?_, ?_, ?_, ?_, ?_, ?_, ?_, ?_, ?_, ?_, ?_, ?_, ?_, ?_, ?_, ?_, ?_⟩ <;> exact ⟨fun h => absurd h (by decide), False.elim⟩
theorem usv (M : Mem) (f g : Nat → Int32) : upr (upr M 24 f) 0 g = upr (upr M 0 g) 24 f ∧ upr (upr M 25 f) 0 g = upr (upr M 0 g) 25 f ∧ upr (upr M 25 f) 24 g = upr (upr M 24 g) 25 f ∧ upr (upr M 26 f) 0 g = upr (upr M 0 g) 26 f ∧ upr (upr M 26 f) 24 g = upr (upr M 24 g) 26 f ∧ upr (upr M 26 f) 25 g = upr (upr M 25 g) 26 f ∧ upr (upr M 28 f) 0 g = upr (upr M 0 g) 28 f ∧ upr (upr M 28 f) 24 g = upr (upr M 24 g) 28 f ∧ upr (upr M 28 f) 25 g = upr (upr M 25 g) 28 f ∧ upr (upr M 28 f) 26 g = upr (upr M 26 g) 28 f ∧ upr (upr M 30 f) 0 g = upr (upr M 0 g) 30 f ∧ upr (upr M 30 f) 24 g = upr (upr M 24 g) 30 f ∧ upr (upr M 30 f) 25 g = upr (upr M 25 g) 30 f ∧ upr (upr M 30 f) 26 g = upr (upr M 26 g) 30 f ∧ upr (upr M 30 f) 28 g = upr (upr M 28 g) 30 f ∧ upr (upr M 31 f) 0 g = upr (upr M 0 g) 31 f ∧ upr (upr M 31 f) 24 g = upr (upr M 24 g) 31 f ∧ upr (upr M 31 f) 25 g = upr (upr M 25 g) 31 f ∧ upr (upr M 31 f) 26 g = upr (upr M 26 g) 31 f ∧ upr (upr M 31 f) 28 g = upr (upr M 28 g) 31 f ∧ upr (upr M 31 f) 30 g = upr (upr M 30 g) 31 f ∧ upr (upr M 40 f) 0 g = upr (upr M 0 g) 40 f ∧ upr (upr M 40 f) 24 g = upr (upr M 24 g) 40 f ∧ upr (upr M 40 f) 25 g = upr (upr M 25 g) 40 f ∧ upr (upr M 40 f) 26 g = upr (upr M 26 g) 40 f ∧ upr (upr M 40 f) 28 g = upr (upr M 28 g) 40 f ∧ upr (upr M 40 f) 30 g = upr (upr M 30 g) 40 f ∧ upr (upr M 40 f) 31 g = upr (upr M 31 g) 40 f ∧ upr (upr M 43 f) 0 g = upr (upr M 0 g) 43 f ∧ upr (upr M 43 f) 24 g = upr (upr M 24 g) 43 f ∧ upr (upr M 43 f) 25 g = upr (upr M 25 g) 43 f ∧ upr (upr M 43 f) 26 g = upr (upr M 26 g) 43 f ∧ upr (upr M 43 f) 28 g = upr (upr M 28 g) 43 f ∧ upr (upr M 43 f) 30 g = upr (upr M 30 g) 43 f ∧ upr (upr M 43 f) 31 g = upr (upr M 31 g) 43 f ∧ upr (upr M 43 f) 40 g = upr (upr M 40 g) 43 f ∧ upr (upr M 45 f) 0 g = upr (upr M 0 g) 45 f ∧ upr (upr M 45 f) 24 g = upr (upr M 24 g) 45 f ∧ upr (upr M 45 f) 25 g = upr (upr M 25 g) 45 f ∧ upr (upr M 45 f) 26 g = upr (upr M 26 g) 45 f ∧ upr (upr M 45 f) 28 g = upr (upr M 28 g) 45 f ∧ upr (upr M 45 f) 30 g = upr (upr M 30 g) 45 f ∧ upr (upr M 45 f) 31 g = upr (upr M 31 g) 45 f ∧ upr (upr M 45 f) 40 g = upr (upr M 40 g) 45 f ∧ upr (upr M 45 f) 43 g = upr (upr M 43 g) 45 f := by
  refine ⟨?_, ?_, ?_, ?_, ?_, ?_, ?_, ?_, ?_, ?_, ?_, ?_, ?_, ?_, ?_, ?_, ?_, ?_, ?_, ?_, ?_, ?_, ?_, ?_, ?_, ?_, ?_, ?_, ?_, ?_, ?_, ?_, ?_, ?_, ?_, ?_, ?_, ?_, ?_, ?_, ?_, ?_, ?_, ?_, ?_⟩ <;> exact upr_c (by decide)
theorem ngv : ((0 : Int32) < 0 ↔ False) ∧ ((1 : Int32) < 0 ↔ False) ∧ ((2 : Int32) < 0 ↔ False) ∧ ((5 : Int32) < 0 ↔ False) ∧ ((6 : Int32) < 0 ↔ False) ∧ ((12 : Int32) < 0 ↔ False) ∧ ((36 : Int32) < 0 ↔ False) ∧ ((51 : Int32) < 0 ↔ False) ∧ ((60 : Int32) < 0 ↔ False) := by
  refine ⟨?_, ?_, ?_, ?_, ?_, ?_, ?_, ?_, ?_⟩ <;> exact ⟨fun h => absurd h (by decide), False.elim⟩
theorem usw (M : Mem) (f g : Nat → Int32) : upr (upr M 1 f) 0 g = upr (upr M 0 g) 1 f ∧ upr (upr M 2 f) 0 g = upr (upr M 0 g) 2 f ∧ upr (upr M 2 f) 1 g = upr (upr M 1 g) 2 f ∧ upr (upr M 30 f) 0 g = upr (upr M 0 g) 30 f ∧ upr (upr M 30 f) 1 g = upr (upr M 1 g) 30 f ∧ upr (upr M 30 f) 2 g = upr (upr M 2 g) 30 f ∧ upr (upr M 32 f) 0 g = upr (upr M 0 g) 32 f ∧ upr (upr M 32 f) 1 g = upr (upr M 1 g) 32 f ∧ upr (upr M 32 f) 2 g = upr (upr M 2 g) 32 f ∧ upr (upr M 32 f) 30 g = upr (upr M 30 g) 32 f ∧ upr (upr M 33 f) 0 g = upr (upr M 0 g) 33 f ∧ upr (upr M 33 f) 1 g = upr (upr M 1 g) 33 f ∧ upr (upr M 33 f) 2 g = upr (upr M 2 g) 33 f ∧ upr (upr M 33 f) 30 g = upr (upr M 30 g) 33 f ∧ upr (upr M 33 f) 32 g = upr (upr M 32 g) 33 f ∧ upr (upr M 34 f) 0 g = upr (upr M 0 g) 34 f ∧ upr (upr M 34 f) 1 g = upr (upr M 1 g) 34 f ∧ upr (upr M 34 f) 2 g = upr (upr M 2 g) 34 f ∧ upr (upr M 34 f) 30 g = upr (upr M 30 g) 34 f ∧ upr (upr M 34 f) 32 g = upr (upr M 32 g) 34 f ∧ upr (upr M 34 f) 33 g = upr (upr M 33 g) 34 f ∧ upr (upr M 35 f) 0 g = upr (upr M 0 g) 35 f ∧ upr (upr M 35 f) 1 g = upr (upr M 1 g) 35 f ∧ upr (upr M 35 f) 2 g = upr (upr M 2 g) 35 f ∧ upr (upr M 35 f) 30 g = upr (upr M 30 g) 35 f ∧ upr (upr M 35 f) 32 g = upr (upr M 32 g) 35 f ∧ upr (upr M 35 f) 33 g = upr (upr M 33 g) 35 f ∧ upr (upr M 35 f) 34 g = upr (upr M 34 g) 35 f ∧ upr (upr M 36 f) 0 g = upr (upr M 0 g) 36 f ∧ upr (upr M 36 f) 1 g = upr (upr M 1 g) 36 f ∧ upr (upr M 36 f) 2 g = upr (upr M 2 g) 36 f ∧ upr (upr M 36 f) 30 g = upr (upr M 30 g) 36 f ∧ upr (upr M 36 f) 32 g = upr (upr M 32 g) 36 f ∧ upr (upr M 36 f) 33 g = upr (upr M 33 g) 36 f ∧ upr (upr M 36 f) 34 g = upr (upr M 34 g) 36 f ∧ upr (upr M 36 f) 35 g = upr (upr M 35 g) 36 f ∧ upr (upr M 37 f) 0 g = upr (upr M 0 g) 37 f ∧ upr (upr M 37 f) 1 g = upr (upr M 1 g) 37 f ∧ upr (upr M 37 f) 2 g = upr (upr M 2 g) 37 f ∧ upr (upr M 37 f) 30 g = upr (upr M 30 g) 37 f ∧ upr (upr M 37 f) 32 g = upr (upr M 32 g) 37 f ∧ upr (upr M 37 f) 33 g = upr (upr M 33 g) 37 f ∧ upr (upr M 37 f) 34 g = upr (upr M 34 g) 37 f ∧ upr (upr M 37 f) 35 g = upr (upr M 35 g) 37 f ∧ upr (upr M 37 f) 36 g = upr (upr M 36 g) 37 f ∧ upr (upr M 38 f) 0 g = upr (upr M 0 g) 38 f ∧ upr (upr M 38 f) 1 g = upr (upr M 1 g) 38 f ∧ upr (upr M 38 f) 2 g = upr (upr M 2 g) 38 f ∧ upr (upr M 38 f) 30 g = upr (upr M 30 g) 38 f ∧ upr (upr M 38 f) 32 g = upr (upr M 32 g) 38 f ∧ upr (upr M 38 f) 33 g = upr (upr M 33 g) 38 f ∧ upr (upr M 38 f) 34 g = upr (upr M 34 g) 38 f ∧ upr (upr M 38 f) 35 g = upr (upr M 35 g) 38 f ∧ upr (upr M 38 f) 36 g = upr (upr M 36 g) 38 f ∧ upr (upr M 38 f) 37 g = upr (upr M 37 g) 38 f ∧ upr (upr M 39 f) 0 g = upr (upr M 0 g) 39 f ∧ upr (upr M 39 f) 1 g = upr (upr M 1 g) 39 f ∧ upr (upr M 39 f) 2 g = upr (upr M 2 g) 39 f ∧ upr (upr M 39 f) 30 g = upr (upr M 30 g) 39 f ∧ upr (upr M 39 f) 32 g = upr (upr M 32 g) 39 f ∧ upr (upr M 39 f) 33 g = upr (upr M 33 g) 39 f ∧ upr (upr M 39 f) 34 g = upr (upr M 34 g) 39 f ∧ upr (upr M 39 f) 35 g = upr (upr M 35 g) 39 f ∧ upr (upr M 39 f) 36 g = upr (upr M 36 g) 39 f ∧ upr (upr M 39 f) 37 g = upr (upr M 37 g) 39 f ∧ upr (upr M 39 f) 38 g = upr (upr M 38 g) 39 f ∧ upr (upr M 40 f) 0 g = upr (upr M 0 g) 40 f ∧ upr (upr M 40 f) 1 g = upr (upr M 1 g) 40 f ∧ upr (upr M 40 f) 2 g = upr (upr M 2 g) 40 f ∧ upr (upr M 40 f) 30 g = upr (upr M 30 g) 40 f ∧ upr (upr M 40 f) 32 g = upr (upr M 32 g) 40 f ∧ upr (upr M 40 f) 33 g = upr (upr M 33 g) 40 f ∧ upr (upr M 40 f) 34 g = upr (upr M 34 g) 40 f ∧ upr (upr M 40 f) 35 g = upr (upr M 35 g) 40 f ∧ upr (upr M 40 f) 36 g = upr (upr M 36 g) 40 f ∧ upr (upr M 40 f) 37 g = upr (upr M 37 g) 40 f ∧ upr (upr M 40 f) 38 g = upr (upr M 38 g) 40 f ∧ upr (upr M 40 f) 39 g = upr (upr M 39 g) 40 f ∧ upr (upr M 46 f) 0 g = upr (upr M 0 g) 46 f ∧ upr (upr M 46 f) 1 g = upr (upr M 1 g) 46 f ∧ upr (upr M 46 f) 2 g = upr (upr M 2 g) 46 f ∧ upr (upr M 46 f) 30 g = upr (upr M 30 g) 46 f ∧ upr (upr M 46 f) 32 g = upr (upr M 32 g) 46 f ∧ upr (upr M 46 f) 33 g = upr (upr M 33 g) 46 f ∧ upr (upr M 46 f) 34 g = upr (upr M 34 g) 46 f ∧ upr (upr M 46 f) 35 g = upr (upr M 35 g) 46 f ∧ upr (upr M 46 f) 36 g = upr (upr M 36 g) 46 f ∧ upr (upr M 46 f) 37 g = upr (upr M 37 g) 46 f ∧ upr (upr M 46 f) 38 g = upr (upr M 38 g) 46 f ∧ upr (upr M 46 f) 39 g = upr (upr M 39 g) 46 f ∧ upr (upr M 46 f) 40 g = upr (upr M 40 g) 46 f ∧ upr (upr M 47 f) 0 g = upr (upr M 0 g) 47 f ∧ upr (upr M 47 f) 1 g = upr (upr M 1 g) 47 f ∧ upr (upr M 47 f) 2 g = upr (upr M 2 g) 47 f ∧ upr (upr M 47 f) 30 g = upr (upr M 30 g) 47 f ∧ upr (upr M 47 f) 32 g = upr (upr M 32 g) 47 f ∧ upr (upr M 47 f) 33 g = upr (upr M 33 g) 47 f ∧ upr (upr M 47 f) 34 g = upr (upr M 34 g) 47 f ∧ upr (upr M 47 f) 35 g = upr (upr M 35 g) 47 f ∧ upr (upr M 47 f) 36 g = upr (upr M 36 g) 47 f ∧ upr (upr M 47 f) 37 g = upr (upr M 37 g) 47 f ∧ upr (upr M 47 f) 38 g = upr (upr M 38 g) 47 f ∧ upr (upr M 47 f) 39 g = upr (upr M 39 g) 47 f ∧ upr (upr M 47 f) 40 g = upr (upr M 40 g) 47 f ∧ upr (upr M 47 f) 46 g = upr (upr M 46 g) 47 f ∧ upr (upr M 48 f) 0 g = upr (upr M 0 g) 48 f ∧ upr (upr M 48 f) 1 g = upr (upr M 1 g) 48 f ∧ upr (upr M 48 f) 2 g = upr (upr M 2 g) 48 f ∧ upr (upr M 48 f) 30 g = upr (upr M 30 g) 48 f ∧ upr (upr M 48 f) 32 g = upr (upr M 32 g) 48 f ∧ upr (upr M 48 f) 33 g = upr (upr M 33 g) 48 f ∧ upr (upr M 48 f) 34 g = upr (upr M 34 g) 48 f ∧ upr (upr M 48 f) 35 g = upr (upr M 35 g) 48 f ∧ upr (upr M 48 f) 36 g = upr (upr M 36 g) 48 f ∧ upr (upr M 48 f) 37 g = upr (upr M 37 g) 48 f ∧ upr (upr M 48 f) 38 g = upr (upr M 38 g) 48 f ∧ upr (upr M 48 f) 39 g = upr (upr M 39 g) 48 f ∧ upr (upr M 48 f) 40 g = upr (upr M 40 g) 48 f ∧ upr (upr M 48 f) 46 g = upr (upr M 46 g) 48 f ∧ upr (upr M 48 f) 47 g = upr (upr M 47 g) 48 f ∧ upr (upr M 49 f) 0 g = upr (upr M 0 g) 49 f ∧ upr (upr M 49 f) 1 g = upr (upr M 1 g) 49 f ∧ upr (upr M 49 f) 2 g = upr (upr M 2 g) 49 f ∧ upr (upr M 49 f) 30 g = upr (upr M 30 g) 49 f ∧ upr (upr M 49 f) 32 g = upr (upr M 32 g) 49 f ∧ upr (upr M 49 f) 33 g = upr (upr M 33 g) 49 f ∧ upr (upr M 49 f) 34 g = upr (upr M 34 g) 49 f ∧ upr (upr M 49 f) 35 g = upr (upr M 35 g) 49 f ∧ upr (upr M 49 f) 36 g = upr (upr M 36 g) 49 f ∧ upr (upr M 49 f) 37 g = upr (upr M 37 g) 49 f ∧ upr (upr M 49 f) 38 g = upr (upr M 38 g) 49 f ∧ upr (upr M 49 f) 39 g = upr (upr M 39 g) 49 f ∧ upr (upr M 49 f) 40 g = upr (upr M 40 g) 49 f ∧ upr (upr M 49 f) 46 g = upr (upr M 46 g) 49 f ∧ upr (upr M 49 f) 47 g = upr (upr M 47 g) 49 f ∧ upr (upr M 49 f) 48 g = upr (upr M 48 g) 49 f ∧ upr (upr M 50 f) 0 g = upr (upr M 0 g) 50 f ∧ upr (upr M 50 f) 1 g = upr (upr M 1 g) 50 f ∧ upr (upr M 50 f) 2 g = upr (upr M 2 g) 50 f ∧ upr (upr M 50 f) 30 g = upr (upr M 30 g) 50 f ∧ upr (upr M 50 f) 32 g = upr (upr M 32 g) 50 f ∧ upr (upr M 50 f) 33 g = upr (upr M 33 g) 50 f ∧ upr (upr M 50 f) 34 g = upr (upr M 34 g) 50 f ∧ upr (upr M 50 f) 35 g = upr (upr M 35 g) 50 f ∧ upr (upr M 50 f) 36 g = upr (upr M 36 g) 50 f ∧ upr (upr M 50 f) 37 g = upr (upr M 37 g) 50 f ∧ upr (upr M 50 f) 38 g = upr (upr M 38 g) 50 f ∧ upr (upr M 50 f) 39 g = upr (upr M 39 g) 50 f ∧ upr (upr M 50 f) 40 g = upr (upr M 40 g) 50 f ∧ upr (upr M 50 f) 46 g = upr (upr M 46 g) 50 f ∧ upr (upr M 50 f) 47 g = upr (upr M 47 g) 50 f ∧ upr (upr M 50 f) 48 g = upr (upr M 48 g) 50 f ∧ upr (upr M 50 f) 49 g = upr (upr M 49 g) 50 f := by
  refine ⟨?_, ?_, ?_, ?_, ?_, ?_, ?_, ?_, ?_, ?_, ?_, ?_, ?_, ?_, ?_, ?_, ?_, ?_, ?_, ?_, ?_, ?_, ?_, ?_, ?_, ?_, ?_, ?_, ?_, ?_, ?_, ?_, ?_, ?_, ?_, ?_, ?_, ?_, ?_, ?_, ?_, ?_, ?_, ?_, ?_, ?_, ?_, ?_, ?_, ?_, ?_, ?_, ?_, ?_, ?_, ?_, ?_, ?_, ?_, ?_, ?_, ?_, ?_, ?_, ?_, ?_, ?_, ?_, ?_, ?_, ?_, ?_, ?_, ?_, ?_, ?_, ?_, ?_, ?_, ?_, ?_, ?_, ?_, ?_, ?_, ?_, ?_, ?_, ?_, ?_, ?_, ?_, ?_, ?_, ?_, ?_, ?_, ?_, ?_, ?_, ?_, ?_, ?_, ?_, ?_, ?_, ?_, ?_, ?_, ?_, ?_, ?_, ?_, ?_, ?_, ?_, ?_, ?_, ?_, ?_, ?_, ?_, ?_, ?_, ?_, ?_, ?_, ?_, ?_, ?_, ?_, ?_, ?_, ?_, ?_, ?_, ?_, ?_, ?_, ?_, ?_, ?_, ?_, ?_, ?_, ?_, ?_, ?_, ?_, ?_, ?_, ?_, ?_⟩ <;> exact upr_c (by decide)
theorem iav : (∀ k, (1 : Int32) + nI k = nI (1 + k)) ∧ (∀ k, (2 : Int32) + nI k = nI (2 + k)) ∧ (∀ k, (3 : Int32) + nI k = nI (3 + k)) ∧ (∀ k, (5 : Int32) + nI k = nI (5 + k)) ∧ (∀ k, (6 : Int32) + nI k = nI (6 + k)) ∧ (∀ k, (10 : Int32) + nI k = nI (10 + k)) ∧ (∀ k, (12 : Int32) + nI k = nI (12 + k)) ∧ (∀ k, (14 : Int32) + nI k = nI (14 + k)) ∧ (∀ k, (20 : Int32) + nI k = nI (20 + k)) ∧ (∀ k, (26 : Int32) + nI k = nI (26 + k)) ∧ (∀ k, (32 : Int32) + nI k = nI (32 + k)) ∧ (∀ k, (38 : Int32) + nI k = nI (38 + k)) ∧ (∀ k, (44 : Int32) + nI k = nI (44 + k)) ∧ (∀ k, (48 : Int32) + nI k = nI (48 + k)) ∧ (∀ k, (51 : Int32) + nI k = nI (51 + k)) := by
  refine ⟨?_, ?_, ?_, ?_, ?_, ?_, ?_, ?_, ?_, ?_, ?_, ?_, ?_, ?_, ?_⟩ <;> exact fun k => nI_add _ k
