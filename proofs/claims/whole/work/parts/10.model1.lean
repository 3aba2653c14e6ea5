/-! part 10: the reference's small methods -/
theorem lgc_lt (x y : Int64) : lg_cmp x y < 0 ↔ x < y := by
  unfold lg_cmp
  by_cases h1 : x > y
  · rw [if_pos h1]
    refine ⟨fun z => absurd z (by decide), fun z => absurd z ?_⟩
    exact Int64.not_lt.mpr (Int64.le_of_lt h1)
  · rw [if_neg h1]
    by_cases h2 : x = y
    · rw [if_pos h2, h2]
      exact ⟨fun z => absurd z (by decide), fun z => absurd z (Int64.lt_irrefl)⟩
    · rw [if_neg h2]
      refine ⟨fun _ => ?_, fun _ => by decide⟩
      have h3 := Int64.not_lt.mp h1
      exact Int64.lt_of_le_of_ne h3 h2
theorem lgc_gt (x y : Int64) : 0 < lg_cmp x y ↔ y < x := by
  unfold lg_cmp
  by_cases h1 : x > y
  · rw [if_pos h1]
    exact ⟨fun _ => h1, fun _ => by decide⟩
  · rw [if_neg h1]
    refine ⟨fun z => absurd z ?_, fun z => absurd z h1⟩
    by_cases h2 : x = y
    · rw [if_pos h2]; decide
    · rw [if_neg h2]; decide
theorem s112 (d : Nat) (v lo hi : Int64) (M : Mem) (Q : Option Value → Mem → Prop) : Wp d 112 0 [.long v, .null, .long lo, .null, .long hi, .null] [] M Q ↔ Q (some (.int (bI (lo ≤ v ∧ v ≤ hi)))) M := by
  simp only [e112, lgc_lt, lgc_gt, eq_self, kv, rv, tv, lnv, lv0, clv, clr_i, clr_r, clr_n, clr_l, true_and, and_true, Option.toList_some, Option.toList_none, List.cons_append, List.nil_append, bI_0, bI_1, bI_or, ↓reduceIte, or_true, true_or]
  trace_state
  sorry
theorem s129 (d : Nat) (s i : Int32) (M : Mem) (Q : Option Value → Mem → Prop) : Wp d 129 0 [.int s, .int i] [] M Q ↔ Q (some (.int (bI ((s >>> (i &&& 31)) &&& 1 = 1)))) M := by
  simp only [e129, eq_self, kv, rv, tv, lnv, lv0, clv, clr_i, clr_r, clr_n, clr_l, true_and, and_true, Option.toList_some, Option.toList_none, List.cons_append, List.nil_append, bI_0, bI_1, bI_or, ↓reduceIte, or_true, true_or]
  trace_state
  sorry
theorem s133 (d : Nat) (a b : Int32) (M : Mem) (Q : Option Value → Mem → Prop) : Wp d 133 0 [.int a, .int b] [] M Q ↔ Q (some (.int (mn a b))) M := by
  simp only [e133, eq_self, kv, rv, tv, lnv, lv0, clv, clr_i, clr_r, clr_n, clr_l, true_and, and_true, Option.toList_some, Option.toList_none, List.cons_append, List.nil_append, bI_0, bI_1, bI_or, ↓reduceIte, or_true, true_or]
  trace_state
  sorry
def whoF (f : Nat → Int32) (what : Int32) : Nat → Int32
  | 0 => 0
  | n + 1 => whoF f what n ||| (if f n = what then 1 <<< (nI n &&& 31) else 0)
theorem l127 (d n : Nat) (what : Int32) (M : Mem) (Q : Option Value → Mem → Prop) (hn : n ≤ 6) (h4 : M 41 4 = nI n) : ∀ j k, k + j = n → (Wp d 127 4 [.ref 40, .int what, .int (whoF (M 43) what k), .int (nI k)] [] M Q ↔ Q (some (.int (whoF (M 43) what n))) M)
  | 0, k, hk => by
    obtain rfl : k = n := hk
    rw [h127_4]
    simp (disch := omega) only [e127, h4, kv, rv, tv, lnv, lv0, clv, clr_i, clr_r, clr_n, clr_l, true_and, and_true, Option.toList_some, Option.toList_none, List.cons_append, List.nil_append, bI_0, bI_1, bI_or, ↓reduceIte, or_true, true_or, nI_cl, nI_ir, iav, nI_1, nI_mul6]
    trace_state
    sorry
  | j + 1, k, hk => by
    rw [h127_4]
    simp (disch := omega) only [e127, h4, kv, rv, tv, lnv, lv0, clv, clr_i, clr_r, clr_n, clr_l, true_and, and_true, Option.toList_some, Option.toList_none, List.cons_append, List.nil_append, bI_0, bI_1, bI_or, ↓reduceIte, or_true, true_or, nI_cl, nI_ir, iav, nI_1, nI_mul6]
    trace_state
    sorry
