/-! part 09: the shape of the world, as rows to rewrite with -/
theorem kv : isK 0 11 = true ∧
  isK 1 5 = true ∧
  isK 2 13 = true ∧
  isK 3 8 = true ∧
  isK 4 13 = true ∧
  isK 5 1 = true ∧
  isK 6 13 = true ∧
  isK 7 13 = true ∧
  isK 8 13 = true ∧
  isK 9 13 = true ∧
  isK 10 13 = true ∧
  isK 11 13 = true ∧
  isK 12 13 = true ∧
  isK 13 13 = true ∧
  isK 14 9 = true ∧
  isK 15 1 = true ∧
  isK 16 13 = true ∧
  isK 17 13 = true ∧
  isK 18 13 = true ∧
  isK 19 13 = true ∧
  isK 20 13 = true ∧
  isK 21 13 = true ∧
  isK 22 13 = true ∧
  isK 23 13 = true ∧
  isK 24 6 = true ∧
  isK 25 13 = true ∧
  isK 26 13 = true ∧
  isK 27 2 = true ∧
  isK 28 13 = true ∧
  isK 29 10 = true ∧
  isK 30 7 = true ∧
  isK 31 13 = true ∧
  isK 32 4 = true ∧
  isK 33 13 = true ∧
  isK 34 4 = true ∧
  isK 35 13 = true ∧
  isK 36 3 = true ∧
  isK 37 0 = true ∧
  isK 38 13 = true ∧
  isK 39 13 = true ∧
  isK 40 12 = true ∧
  isK 41 13 = true ∧
  isK 42 13 = true ∧
  isK 43 13 = true ∧
  isK 44 13 = true ∧
  isK 45 13 = true ∧
  isK 46 13 = true ∧
  isK 47 14 = true ∧
  isK 48 13 = true ∧
  isK 49 13 = true ∧
  isK 50 13 = true ∧
  isK 51 13 = true ∧
  isK 52 13 = true ∧
  isK 53 13 = true ∧
  isK 54 13 = true := by decide +kernel
theorem rv : isR 2 = true ∧ isR 4 = true ∧ isR 6 = true ∧ isR 7 = true ∧ isR 8 = true ∧ isR 9 = true ∧ isR 10 = true ∧ isR 11 = true ∧ isR 12 = true ∧ isR 13 = true ∧ isR 16 = true ∧ isR 17 = true ∧ isR 18 = true ∧ isR 19 = true ∧ isR 20 = true ∧ isR 21 = true ∧ isR 22 = true ∧ isR 23 = true ∧ isR 25 = true ∧ isR 26 = true ∧ isR 28 = true ∧ isR 31 = true ∧ isR 33 = true ∧ isR 35 = true ∧ isR 38 = true ∧ isR 39 = true ∧ isR 41 = true ∧ isR 42 = true ∧ isR 43 = true ∧ isR 44 = true ∧ isR 45 = true ∧ isR 46 = true ∧ isR 48 = true ∧ isR 49 = true ∧ isR 50 = true ∧ isR 51 = true ∧ isR 52 = true ∧ isR 53 = true ∧ isR 54 = true ∧ isR 60 = true ∧ isR 61 = true ∧ isR 62 = true ∧ isR 63 = true := by decide +kernel
theorem tv : rt 0 0 = 1 ∧ rt 0 1 = 3 ∧ rt 0 2 = 5 ∧ rt 0 3 = 14 ∧ rt 0 4 = 29 ∧ rt 0 5 = 30 ∧ rt 0 6 = 32 ∧ rt 0 7 = 34 ∧ rt 0 8 = 36 ∧ rt 0 9 = 37 ∧ rt 1 0 = 2 ∧ rt 3 0 = 4 ∧ rt 5 0 = 6 ∧ rt 5 1 = 7 ∧ rt 5 2 = 8 ∧ rt 5 3 = 9 ∧ rt 5 4 = 10 ∧ rt 5 5 = 11 ∧ rt 5 6 = 12 ∧ rt 5 7 = 13 ∧ rt 14 0 = 15 ∧ rt 14 1 = 24 ∧ rt 15 0 = 16 ∧ rt 15 1 = 17 ∧ rt 15 2 = 18 ∧ rt 15 3 = 19 ∧ rt 15 4 = 20 ∧ rt 15 5 = 21 ∧ rt 15 6 = 22 ∧ rt 15 7 = 23 ∧ rt 24 0 = 25 ∧ rt 24 1 = 26 ∧ rt 24 2 = 27 ∧ rt 27 0 = 28 ∧ rt 30 0 = 31 ∧ rt 32 0 = 33 ∧ rt 34 0 = 35 ∧ rt 37 0 = 38 ∧ rt 37 1 = 39 ∧ rt 40 0 = 41 ∧ rt 40 1 = 42 ∧ rt 40 2 = 43 ∧ rt 40 3 = 44 ∧ rt 40 4 = 45 ∧ rt 40 6 = 46 ∧ rt 40 7 = 47 ∧ rt 40 9 = 48 ∧ rt 40 12 = 49 ∧ rt 40 14 = 50 ∧ rt 40 22 = 51 ∧ rt 40 23 = 52 ∧ rt 40 24 = 53 ∧ rt 40 25 = 54 := by decide +kernel
theorem lv0 : ln0 2 = 240 ∧ ln0 4 = 3 ∧ ln0 6 = 4 ∧ ln0 7 = 4 ∧ ln0 8 = 6 ∧ ln0 9 = 6 ∧ ln0 10 = 6 ∧ ln0 11 = 6 ∧ ln0 12 = 6 ∧ ln0 13 = 6 ∧ ln0 16 = 4 ∧ ln0 17 = 4 ∧ ln0 18 = 6 ∧ ln0 19 = 6 ∧ ln0 20 = 6 ∧ ln0 21 = 6 ∧ ln0 22 = 6 ∧ ln0 23 = 6 ∧ ln0 25 = 6 ∧ ln0 26 = 6 ∧ ln0 28 = 36 ∧ ln0 31 = 816 ∧ ln0 33 = 51 ∧ ln0 35 = 51 ∧ ln0 38 = 15 ∧ ln0 39 = 15 ∧ ln0 41 = 50 ∧ ln0 42 = 50 ∧ ln0 43 = 51 ∧ ln0 44 = 51 ∧ ln0 45 = 816 ∧ ln0 46 = 104 ∧ ln0 47 = 2 ∧ ln0 48 = 240 ∧ ln0 49 = 12 ∧ ln0 50 = 30 ∧ ln0 51 = 7 ∧ ln0 52 = 7 ∧ ln0 53 = 7 ∧ ln0 54 = 7 := by decide +kernel
theorem lnv (M : Mem) : lnm M 2 = 240 ∧ lnm M 4 = 3 ∧ lnm M 6 = 4 ∧ lnm M 7 = 4 ∧ lnm M 8 = 6 ∧ lnm M 9 = 6 ∧ lnm M 10 = 6 ∧ lnm M 11 = 6 ∧ lnm M 12 = 6 ∧ lnm M 13 = 6 ∧ lnm M 16 = 4 ∧ lnm M 17 = 4 ∧ lnm M 18 = 6 ∧ lnm M 19 = 6 ∧ lnm M 20 = 6 ∧ lnm M 21 = 6 ∧ lnm M 22 = 6 ∧ lnm M 23 = 6 ∧ lnm M 25 = 6 ∧ lnm M 26 = 6 ∧ lnm M 28 = 36 ∧ lnm M 31 = 816 ∧ lnm M 33 = 51 ∧ lnm M 35 = 51 ∧ lnm M 38 = 15 ∧ lnm M 39 = 15 ∧ lnm M 41 = 50 ∧ lnm M 42 = 50 ∧ lnm M 43 = 51 ∧ lnm M 44 = 51 ∧ lnm M 45 = 816 ∧ lnm M 46 = 104 ∧ lnm M 47 = 2 ∧ lnm M 48 = 240 ∧ lnm M 49 = 12 ∧ lnm M 50 = 30 ∧ lnm M 51 = 7 ∧ lnm M 52 = 7 ∧ lnm M 53 = 7 ∧ lnm M 54 = 7 ∧ lnm M 60 = 4 ∧ lnm M 61 = 12 ∧ lnm M 62 = 12 := by
  refine ⟨?_, ?_, ?_, ?_, ?_, ?_, ?_, ?_, ?_, ?_, ?_, ?_, ?_, ?_, ?_, ?_, ?_, ?_, ?_, ?_, ?_, ?_, ?_, ?_, ?_, ?_, ?_, ?_, ?_, ?_, ?_, ?_, ?_, ?_, ?_, ?_, ?_, ?_, ?_, ?_, ?_, ?_, ?_⟩ <;> rfl
theorem clv : Int32.toNatClampNeg 0 = 0 ∧ Int32.toNatClampNeg 1 = 1 ∧ Int32.toNatClampNeg 2 = 2 ∧ Int32.toNatClampNeg 3 = 3 ∧ Int32.toNatClampNeg 4 = 4 ∧ Int32.toNatClampNeg 5 = 5 ∧ Int32.toNatClampNeg 6 = 6 ∧ Int32.toNatClampNeg 7 = 7 ∧ Int32.toNatClampNeg 8 = 8 ∧ Int32.toNatClampNeg 9 = 9 ∧ Int32.toNatClampNeg 10 = 10 ∧ Int32.toNatClampNeg 11 = 11 ∧ Int32.toNatClampNeg 12 = 12 ∧ Int32.toNatClampNeg 13 = 13 ∧ Int32.toNatClampNeg 14 = 14 ∧ Int32.toNatClampNeg 15 = 15 ∧ Int32.toNatClampNeg 16 = 16 ∧ Int32.toNatClampNeg 17 = 17 ∧ Int32.toNatClampNeg 18 = 18 ∧ Int32.toNatClampNeg 19 = 19 ∧ Int32.toNatClampNeg 20 = 20 ∧ Int32.toNatClampNeg 21 = 21 ∧ Int32.toNatClampNeg 22 = 22 ∧ Int32.toNatClampNeg 23 = 23 ∧ Int32.toNatClampNeg 24 = 24 ∧ Int32.toNatClampNeg 25 = 25 ∧ Int32.toNatClampNeg 26 = 26 ∧ Int32.toNatClampNeg 27 = 27 ∧ Int32.toNatClampNeg 28 = 28 ∧ Int32.toNatClampNeg 29 = 29 ∧ Int32.toNatClampNeg 30 = 30 ∧ Int32.toNatClampNeg 31 = 31 ∧ Int32.toNatClampNeg 32 = 32 ∧ Int32.toNatClampNeg 33 = 33 ∧ Int32.toNatClampNeg 34 = 34 ∧ Int32.toNatClampNeg 35 = 35 ∧ Int32.toNatClampNeg 36 = 36 ∧ Int32.toNatClampNeg 37 = 37 ∧ Int32.toNatClampNeg 38 = 38 ∧ Int32.toNatClampNeg 39 = 39 ∧ Int32.toNatClampNeg 40 = 40 ∧ Int32.toNatClampNeg 41 = 41 ∧ Int32.toNatClampNeg 42 = 42 ∧ Int32.toNatClampNeg 43 = 43 ∧ Int32.toNatClampNeg 44 = 44 ∧ Int32.toNatClampNeg 45 = 45 ∧ Int32.toNatClampNeg 46 = 46 ∧ Int32.toNatClampNeg 47 = 47 ∧ Int32.toNatClampNeg 48 = 48 ∧ Int32.toNatClampNeg 49 = 49 ∧ Int32.toNatClampNeg 50 = 50 ∧ Int32.toNatClampNeg 51 = 51 ∧ Int32.toNatClampNeg 52 = 52 ∧ Int32.toNatClampNeg 53 = 53 ∧ Int32.toNatClampNeg 54 = 54 ∧ Int32.toNatClampNeg 55 = 55 ∧ Int32.toNatClampNeg 56 = 56 ∧ Int32.toNatClampNeg 57 = 57 ∧ Int32.toNatClampNeg 58 = 58 ∧ Int32.toNatClampNeg 59 = 59 ∧ Int32.toNatClampNeg 60 = 60 ∧ Int32.toNatClampNeg 61 = 61 ∧ Int32.toNatClampNeg 62 = 62 ∧ Int32.toNatClampNeg 63 = 63 ∧ Int32.toNatClampNeg 98 = 98 ∧ Int32.toNatClampNeg 104 = 104 ∧ Int32.toNatClampNeg 240 = 240 := by decide +kernel
theorem clr_i (v : Int32) : clr (.int v) = .int v := rfl
theorem clr_r (v : Nat) : clr (.ref v) = .ref v := rfl
theorem clr_n : clr .null = .null := rfl
theorem clr_l (v : Int64) : clr (.long v) = .null := rfl
theorem nI_cl {n : Nat} (h : n < 2147483648) : (nI n).toNatClampNeg = n := nI_clamp h
theorem nI_ir {a n : Nat} (h : a < n) (h2 : n < 2147483648) : inr (nI a) n ↔ True := by
  refine ⟨fun _ => trivial, fun _ => ⟨nI_pos (by omega), ?_⟩⟩
  rw [nI_clamp (by omega)]
  exact h
theorem nI_mul6 (k : Nat) : (6 : Int32) * nI k = nI (6 * k) := pk_mul 6 k
theorem iav : (∀ k, (1 : Int32) + nI k = nI (1 + k)) ∧ (∀ k, (2 : Int32) + nI k = nI (2 + k)) ∧ (∀ k, (3 : Int32) + nI k = nI (3 + k)) ∧ (∀ k, (5 : Int32) + nI k = nI (5 + k)) ∧ (∀ k, (6 : Int32) + nI k = nI (6 + k)) ∧ (∀ k, (10 : Int32) + nI k = nI (10 + k)) ∧ (∀ k, (12 : Int32) + nI k = nI (12 + k)) ∧ (∀ k, (14 : Int32) + nI k = nI (14 + k)) ∧ (∀ k, (20 : Int32) + nI k = nI (20 + k)) ∧ (∀ k, (26 : Int32) + nI k = nI (26 + k)) ∧ (∀ k, (32 : Int32) + nI k = nI (32 + k)) ∧ (∀ k, (38 : Int32) + nI k = nI (38 + k)) ∧ (∀ k, (44 : Int32) + nI k = nI (44 + k)) ∧ (∀ k, (48 : Int32) + nI k = nI (48 + k)) ∧ (∀ k, (51 : Int32) + nI k = nI (51 + k)) := by
  refine ⟨?_, ?_, ?_, ?_, ?_, ?_, ?_, ?_, ?_, ?_, ?_, ?_, ?_, ?_, ?_⟩ <;> exact fun k => nI_add _ k
