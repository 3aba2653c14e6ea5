/-! part 08e: the instructions of the methods 150 to 196 -/
/- 150: PalaceYardModel.isInOrOut -/
set_option maxRecDepth 10000 in
theorem e150 : (∀ (d : Nat) (x : Nat) (L : List Value) (M : Mem) (Q : Option Value → Mem → Prop), Wp d 150 0 (.ref x :: L) [] M Q ↔ Wp d 150 1 (.ref x :: L) [.ref x] M Q) ∧
    (∀ (d : Nat) (a : Nat) (L : List Value) (M : Mem) (Q : Option Value → Mem → Prop), Wp d 150 1 L [.ref a] M Q ↔ (isK a 12 = true ∧ Wp d 150 4 L [.ref (rt a 2)] M Q)) ∧
    (∀ (d : Nat) (a : Nat) (L : List Value) (M : Mem) (Q : Option Value → Mem → Prop), Wp d 150 4 L [.ref a] M Q ↔ Wp d 150 5 L [.int 0, .ref a] M Q) ∧
    (∀ (d : Nat) (a : Int32) (b : Nat) (v0 : Value) (x : Int32) (L : List Value) (M : Mem) (Q : Option Value → Mem → Prop), Wp d 150 5 (v0 :: .int x :: L) [.int a, .ref b] M Q ↔ Wp d 150 6 (v0 :: .int x :: L) [.int x, .int a, .ref b] M Q) ∧
    (∀ (d : Nat) (a : Int32) (b : Int32) (c : Nat) (L : List Value) (M : Mem) (Q : Option Value → Mem → Prop), Wp d 150 6 L [.int a, .int b, .ref c] M Q ↔ Wp d 150 7 L [.int (b + a), .ref c] M Q) ∧
    (∀ (d : Nat) (a : Int32) (b : Nat) (L : List Value) (M : Mem) (Q : Option Value → Mem → Prop), Wp d 150 7 L [.int a, .ref b] M Q ↔ ((isR b = true ∧ inr a (lnm M b)) ∧ Wp d 150 8 L [.int (M b a.toNatClampNeg)] M Q)) ∧
    (∀ (d : Nat) (a : Int32) (L : List Value) (M : Mem) (Q : Option Value → Mem → Prop), Wp d 150 8 L [.int a] M Q ↔ Wp d 150 9 L [.int 1, .int a] M Q) ∧
    (∀ (d : Nat) (a : Int32) (b : Int32) (L : List Value) (M : Mem) (Q : Option Value → Mem → Prop), Wp d 150 9 L [.int a, .int b] M Q ↔ (if b = a then Wp d 150 23 L [] M Q else Wp d 150 12 L [] M Q)) ∧
    (∀ (d : Nat) (x : Nat) (L : List Value) (M : Mem) (Q : Option Value → Mem → Prop), Wp d 150 12 (.ref x :: L) [] M Q ↔ Wp d 150 13 (.ref x :: L) [.ref x] M Q) ∧
    (∀ (d : Nat) (a : Nat) (L : List Value) (M : Mem) (Q : Option Value → Mem → Prop), Wp d 150 13 L [.ref a] M Q ↔ (isK a 12 = true ∧ Wp d 150 16 L [.ref (rt a 2)] M Q)) ∧
    (∀ (d : Nat) (a : Nat) (L : List Value) (M : Mem) (Q : Option Value → Mem → Prop), Wp d 150 16 L [.ref a] M Q ↔ Wp d 150 17 L [.int 0, .ref a] M Q) ∧
    (∀ (d : Nat) (a : Int32) (b : Nat) (v0 : Value) (x : Int32) (L : List Value) (M : Mem) (Q : Option Value → Mem → Prop), Wp d 150 17 (v0 :: .int x :: L) [.int a, .ref b] M Q ↔ Wp d 150 18 (v0 :: .int x :: L) [.int x, .int a, .ref b] M Q) ∧
    (∀ (d : Nat) (a : Int32) (b : Int32) (c : Nat) (L : List Value) (M : Mem) (Q : Option Value → Mem → Prop), Wp d 150 18 L [.int a, .int b, .ref c] M Q ↔ Wp d 150 19 L [.int (b + a), .ref c] M Q) ∧
    (∀ (d : Nat) (a : Int32) (b : Nat) (L : List Value) (M : Mem) (Q : Option Value → Mem → Prop), Wp d 150 19 L [.int a, .ref b] M Q ↔ ((isR b = true ∧ inr a (lnm M b)) ∧ Wp d 150 20 L [.int (M b a.toNatClampNeg)] M Q)) ∧
    (∀ (d : Nat) (a : Int32) (L : List Value) (M : Mem) (Q : Option Value → Mem → Prop), Wp d 150 20 L [.int a] M Q ↔ (if a = 0 then Wp d 150 23 L [] M Q else Wp d 150 27 L [] M Q)) ∧
    (∀ (d : Nat) (L : List Value) (M : Mem) (Q : Option Value → Mem → Prop), Wp d 150 23 L [] M Q ↔ Wp d 150 24 L [.int 1] M Q) ∧
    (∀ (d : Nat) (a : Int32) (L : List Value) (M : Mem) (Q : Option Value → Mem → Prop), Wp d 150 24 L [.int a] M Q ↔ Wp d 150 28 L [.int a] M Q) ∧
    (∀ (d : Nat) (L : List Value) (M : Mem) (Q : Option Value → Mem → Prop), Wp d 150 27 L [] M Q ↔ Wp d 150 28 L [.int 0] M Q) ∧
    (∀ (d : Nat) (a : Int32) (L : List Value) (M : Mem) (Q : Option Value → Mem → Prop), Wp d 150 28 L [.int a] M Q ↔ ((a = 0 ∨ a = 1) ∧ Q (some (.int a)) M)) := by
  refine ⟨?_, ?_, ?_, ?_, ?_, ?_, ?_, ?_, ?_, ?_, ?_, ?_, ?_, ?_, ?_, ?_, ?_, ?_, ?_⟩
  · intro d x L M Q; exact Wp_sim (by decide +kernel : decode (cd 150) 0 = .ok (.aload_n 0, 1)) rfl rfl
  · intro d a L M Q; exact q_getR (p := 845) (by decide +kernel : decode (cd 150) 1 = .ok (.getfield 16, 3)) (by decide +kernel) (by decide +kernel)
  · intro d a L M Q; exact Wp_sim (by decide +kernel : decode (cd 150) 4 = .ok (.iconst 0, 1)) rfl rfl
  · intro d a b v0 x L M Q; exact Wp_sim (by decide +kernel : decode (cd 150) 5 = .ok (.iload_n 1, 1)) rfl rfl
  · intro d a b c L M Q; exact Wp_sim (by decide +kernel : decode (cd 150) 6 = .ok (.iadd , 1)) rfl rfl
  · intro d a b L M Q; exact q_ald (by decide +kernel : decode (cd 150) 7 = .ok (.iaload , 1))
  · intro d a L M Q; exact Wp_sim (by decide +kernel : decode (cd 150) 8 = .ok (.iconst 1, 1)) rfl rfl
  · intro d a b L M Q; exact q_ieq (by decide +kernel : decode (cd 150) 9 = .ok (.if_icmp .eq 14, 3)) (by decide)
  · intro d x L M Q; exact Wp_sim (by decide +kernel : decode (cd 150) 12 = .ok (.aload_n 0, 1)) rfl rfl
  · intro d a L M Q; exact q_getR (p := 845) (by decide +kernel : decode (cd 150) 13 = .ok (.getfield 16, 3)) (by decide +kernel) (by decide +kernel)
  · intro d a L M Q; exact Wp_sim (by decide +kernel : decode (cd 150) 16 = .ok (.iconst 0, 1)) rfl rfl
  · intro d a b v0 x L M Q; exact Wp_sim (by decide +kernel : decode (cd 150) 17 = .ok (.iload_n 1, 1)) rfl rfl
  · intro d a b c L M Q; exact Wp_sim (by decide +kernel : decode (cd 150) 18 = .ok (.iadd , 1)) rfl rfl
  · intro d a b L M Q; exact q_ald (by decide +kernel : decode (cd 150) 19 = .ok (.iaload , 1))
  · intro d a L M Q; exact q_zne (by decide +kernel : decode (cd 150) 20 = .ok (.ifCond .ne 7, 3)) (by decide)
  · intro d L M Q; exact Wp_sim (by decide +kernel : decode (cd 150) 23 = .ok (.iconst 1, 1)) rfl rfl
  · intro d a L M Q; exact q_goto (by decide +kernel : decode (cd 150) 24 = .ok (.goto 4, 3)) (by decide)
  · intro d L M Q; exact Wp_sim (by decide +kernel : decode (cd 150) 27 = .ok (.iconst 0, 1)) rfl rfl
  · intro d a L M Q; exact q_zret (by decide +kernel : decode (cd 150) 28 = .ok (.ireturn , 1)) (by decide +kernel)

/- 151: PalaceYardModel.bits -/
set_option maxRecDepth 10000 in
theorem e151 : (∀ (d : Nat) (L : List Value) (M : Mem) (Q : Option Value → Mem → Prop), Wp d 151 0 L [] M Q ↔ Wp d 151 1 L [.int 0] M Q) ∧
    (∀ (d : Nat) (a : Int32) (v0 : Value) (x : Value) (L : List Value) (M : Mem) (Q : Option Value → Mem → Prop), Wp d 151 1 (v0 :: x :: L) [.int a] M Q ↔ Wp d 151 2 (clr v0 :: .int a :: L) [] M Q) ∧
    (∀ (d : Nat) (x : Int32) (L : List Value) (M : Mem) (Q : Option Value → Mem → Prop), Wp d 151 2 (.int x :: L) [] M Q ↔ Wp d 151 3 (.int x :: L) [.int x] M Q) ∧
    (∀ (d : Nat) (a : Int32) (v0 : Value) (v1 : Value) (x : Value) (L : List Value) (M : Mem) (Q : Option Value → Mem → Prop), Wp d 151 3 (v0 :: v1 :: x :: L) [.int a] M Q ↔ Wp d 151 4 (v0 :: clr v1 :: .int a :: L) [] M Q) ∧
    (∀ (d : Nat) (a : Int32) (L : List Value) (M : Mem) (Q : Option Value → Mem → Prop), Wp d 151 5 L [.int a] M Q ↔ (if a = 0 then Wp d 151 20 L [] M Q else Wp d 151 8 L [] M Q)) ∧
    (∀ (d : Nat) (v0 : Value) (x : Int32) (L : List Value) (M : Mem) (Q : Option Value → Mem → Prop), Wp d 151 8 (v0 :: .int x :: L) [] M Q ↔ Wp d 151 11 (clr v0 :: .int (x + 1) :: L) [] M Q) ∧
    (∀ (d : Nat) (v0 : Value) (v1 : Value) (x : Int32) (L : List Value) (M : Mem) (Q : Option Value → Mem → Prop), Wp d 151 11 (v0 :: v1 :: .int x :: L) [] M Q ↔ Wp d 151 12 (v0 :: v1 :: .int x :: L) [.int x] M Q) ∧
    (∀ (d : Nat) (a : Int32) (v0 : Value) (v1 : Value) (x : Int32) (L : List Value) (M : Mem) (Q : Option Value → Mem → Prop), Wp d 151 12 (v0 :: v1 :: .int x :: L) [.int a] M Q ↔ Wp d 151 13 (v0 :: v1 :: .int x :: L) [.int x, .int a] M Q) ∧
    (∀ (d : Nat) (a : Int32) (b : Int32) (L : List Value) (M : Mem) (Q : Option Value → Mem → Prop), Wp d 151 13 L [.int a, .int b] M Q ↔ Wp d 151 14 L [.int 1, .int a, .int b] M Q) ∧
    (∀ (d : Nat) (a : Int32) (b : Int32) (c : Int32) (L : List Value) (M : Mem) (Q : Option Value → Mem → Prop), Wp d 151 14 L [.int a, .int b, .int c] M Q ↔ Wp d 151 15 L [.int (b - a), .int c] M Q) ∧
    (∀ (d : Nat) (a : Int32) (b : Int32) (L : List Value) (M : Mem) (Q : Option Value → Mem → Prop), Wp d 151 15 L [.int a, .int b] M Q ↔ Wp d 151 16 L [.int (b &&& a)] M Q) ∧
    (∀ (d : Nat) (a : Int32) (v0 : Value) (v1 : Value) (x : Value) (L : List Value) (M : Mem) (Q : Option Value → Mem → Prop), Wp d 151 16 (v0 :: v1 :: x :: L) [.int a] M Q ↔ Wp d 151 17 (v0 :: clr v1 :: .int a :: L) [] M Q) ∧
    (∀ (d : Nat) (L : List Value) (M : Mem) (Q : Option Value → Mem → Prop), Wp d 151 17 L [] M Q ↔ Wp d 151 4 L [] M Q) ∧
    (∀ (d : Nat) (v0 : Value) (x : Int32) (L : List Value) (M : Mem) (Q : Option Value → Mem → Prop), Wp d 151 20 (v0 :: .int x :: L) [] M Q ↔ Wp d 151 21 (v0 :: .int x :: L) [.int x] M Q) ∧
    (∀ (d : Nat) (a : Int32) (L : List Value) (M : Mem) (Q : Option Value → Mem → Prop), Wp d 151 21 L [.int a] M Q ↔ Q (some (.int a)) M) := by
  refine ⟨?_, ?_, ?_, ?_, ?_, ?_, ?_, ?_, ?_, ?_, ?_, ?_, ?_, ?_, ?_⟩
  · intro d L M Q; exact Wp_sim (by decide +kernel : decode (cd 151) 0 = .ok (.iconst 0, 1)) rfl rfl
  · intro d a v0 x L M Q; exact Wp_sim (by decide +kernel : decode (cd 151) 1 = .ok (.istore_n 1, 1)) rfl rfl
  · intro d x L M Q; exact Wp_sim (by decide +kernel : decode (cd 151) 2 = .ok (.iload_n 0, 1)) rfl rfl
  · intro d a v0 v1 x L M Q; exact Wp_sim (by decide +kernel : decode (cd 151) 3 = .ok (.istore_n 2, 1)) rfl rfl
  · intro d a L M Q; exact q_zeq (by decide +kernel : decode (cd 151) 5 = .ok (.ifCond .eq 15, 3)) (by decide)
  · intro d v0 x L M Q; exact Wp_sim (by decide +kernel : decode (cd 151) 8 = .ok (.iinc 1 1, 3)) rfl rfl
  · intro d v0 v1 x L M Q; exact Wp_sim (by decide +kernel : decode (cd 151) 11 = .ok (.iload_n 2, 1)) rfl rfl
  · intro d a v0 v1 x L M Q; exact Wp_sim (by decide +kernel : decode (cd 151) 12 = .ok (.iload_n 2, 1)) rfl rfl
  · intro d a b L M Q; exact Wp_sim (by decide +kernel : decode (cd 151) 13 = .ok (.iconst 1, 1)) rfl rfl
  · intro d a b c L M Q; exact Wp_sim (by decide +kernel : decode (cd 151) 14 = .ok (.isub , 1)) rfl rfl
  · intro d a b L M Q; exact Wp_sim (by decide +kernel : decode (cd 151) 15 = .ok (.iand , 1)) rfl rfl
  · intro d a v0 v1 x L M Q; exact Wp_sim (by decide +kernel : decode (cd 151) 16 = .ok (.istore_n 2, 1)) rfl rfl
  · intro d L M Q; exact q_goto (by decide +kernel : decode (cd 151) 17 = .ok (.goto (-13), 3)) (by decide)
  · intro d v0 x L M Q; exact Wp_sim (by decide +kernel : decode (cd 151) 20 = .ok (.iload_n 1, 1)) rfl rfl
  · intro d a L M Q; exact q_iret (by decide +kernel : decode (cd 151) 21 = .ok (.ireturn , 1)) (by decide +kernel)
theorem h151_4 : (∀ (d : Nat) (v0 : Value) (v1 : Value) (x : Int32) (L : List Value) (M : Mem) (Q : Option Value → Mem → Prop), Wp d 151 4 (v0 :: v1 :: .int x :: L) [] M Q ↔ Wp d 151 5 (v0 :: v1 :: .int x :: L) [.int x] M Q) := by
  intro d v0 v1 x L M Q; exact Wp_sim (by decide +kernel : decode (cd 151) 4 = .ok (.iload_n 2, 1)) rfl rfl

/- 152: PalaceYardModel.goIn -/
set_option maxRecDepth 10000 in
theorem e152 : (∀ (d : Nat) (x : Nat) (L : List Value) (M : Mem) (Q : Option Value → Mem → Prop), Wp d 152 0 (.ref x :: L) [] M Q ↔ Wp d 152 1 (.ref x :: L) [.ref x] M Q) ∧
    (∀ (d : Nat) (a : Nat) (v0 : Value) (x : Int32) (L : List Value) (M : Mem) (Q : Option Value → Mem → Prop), Wp d 152 1 (v0 :: .int x :: L) [.ref a] M Q ↔ Wp d 152 2 (v0 :: .int x :: L) [.int x, .ref a] M Q) ∧
    (∀ (d : Nat) (a : Int32) (b : Nat) (L : List Value) (M : Mem) (Q : Option Value → Mem → Prop), Wp (d + 1) 152 2 L [.int a, .ref b] M Q ↔ (isK b 12 = true ∧ Wp d 141 0 [.ref b, .int a] [] M (fun r M2 => Wp (d + 1) 152 5 L (r.toList ++ []) M2 Q))) ∧
    (∀ (d : Nat) (a : Int32) (L : List Value) (M : Mem) (Q : Option Value → Mem → Prop), Wp d 152 5 L [.int a] M Q ↔ (if a = 0 then Wp d 152 8 L [] M Q else Wp d 152 11 L [] M Q)) ∧
    (∀ (d : Nat) (L : List Value) (M : Mem) (Q : Option Value → Mem → Prop), Wp d 152 8 L [] M Q ↔ Wp d 152 10 L [.int (-1000000001)] M Q) ∧
    (∀ (d : Nat) (a : Int32) (L : List Value) (M : Mem) (Q : Option Value → Mem → Prop), Wp d 152 10 L [.int a] M Q ↔ Q (some (.int a)) M) ∧
    (∀ (d : Nat) (x : Nat) (L : List Value) (M : Mem) (Q : Option Value → Mem → Prop), Wp d 152 11 (.ref x :: L) [] M Q ↔ Wp d 152 12 (.ref x :: L) [.ref x] M Q) ∧
    (∀ (d : Nat) (a : Nat) (v0 : Value) (x : Int32) (L : List Value) (M : Mem) (Q : Option Value → Mem → Prop), Wp d 152 12 (v0 :: .int x :: L) [.ref a] M Q ↔ Wp d 152 13 (v0 :: .int x :: L) [.int x, .ref a] M Q) ∧
    (∀ (d : Nat) (a : Int32) (b : Nat) (L : List Value) (M : Mem) (Q : Option Value → Mem → Prop), Wp (d + 1) 152 13 L [.int a, .ref b] M Q ↔ (isK b 12 = true ∧ Wp d 153 0 [.ref b, .int a] [] M (fun r M2 => Wp (d + 1) 152 16 L (r.toList ++ []) M2 Q))) ∧
    (∀ (d : Nat) (a : Int32) (L : List Value) (M : Mem) (Q : Option Value → Mem → Prop), Wp d 152 16 L [.int a] M Q ↔ (if a = 0 then Wp d 152 19 L [] M Q else Wp d 152 22 L [] M Q)) ∧
    (∀ (d : Nat) (L : List Value) (M : Mem) (Q : Option Value → Mem → Prop), Wp d 152 19 L [] M Q ↔ Wp d 152 21 L [.int (-1000000003)] M Q) ∧
    (∀ (d : Nat) (a : Int32) (L : List Value) (M : Mem) (Q : Option Value → Mem → Prop), Wp d 152 21 L [.int a] M Q ↔ Q (some (.int a)) M) ∧
    (∀ (d : Nat) (x : Nat) (L : List Value) (M : Mem) (Q : Option Value → Mem → Prop), Wp d 152 22 (.ref x :: L) [] M Q ↔ Wp d 152 23 (.ref x :: L) [.ref x] M Q) ∧
    (∀ (d : Nat) (a : Nat) (L : List Value) (M : Mem) (Q : Option Value → Mem → Prop), Wp (d + 1) 152 23 L [.ref a] M Q ↔ (isK a 12 = true ∧ Wp d 148 0 [.ref a, .null] [] M (fun r M2 => Wp (d + 1) 152 26 L (r.toList ++ []) M2 Q))) ∧
    (∀ (d : Nat) (x : Nat) (L : List Value) (M : Mem) (Q : Option Value → Mem → Prop), Wp d 152 26 (.ref x :: L) [] M Q ↔ Wp d 152 27 (.ref x :: L) [.ref x] M Q) ∧
    (∀ (d : Nat) (a : Nat) (L : List Value) (M : Mem) (Q : Option Value → Mem → Prop), Wp d 152 27 L [.ref a] M Q ↔ (isK a 12 = true ∧ Wp d 152 30 L [.ref (rt a 2)] M Q)) ∧
    (∀ (d : Nat) (a : Nat) (L : List Value) (M : Mem) (Q : Option Value → Mem → Prop), Wp d 152 30 L [.ref a] M Q ↔ Wp d 152 31 L [.int 0, .ref a] M Q) ∧
    (∀ (d : Nat) (a : Int32) (b : Nat) (v0 : Value) (x : Int32) (L : List Value) (M : Mem) (Q : Option Value → Mem → Prop), Wp d 152 31 (v0 :: .int x :: L) [.int a, .ref b] M Q ↔ Wp d 152 32 (v0 :: .int x :: L) [.int x, .int a, .ref b] M Q) ∧
    (∀ (d : Nat) (a : Int32) (b : Int32) (c : Nat) (L : List Value) (M : Mem) (Q : Option Value → Mem → Prop), Wp d 152 32 L [.int a, .int b, .ref c] M Q ↔ Wp d 152 33 L [.int (b + a), .ref c] M Q) ∧
    (∀ (d : Nat) (a : Int32) (b : Nat) (L : List Value) (M : Mem) (Q : Option Value → Mem → Prop), Wp d 152 33 L [.int a, .ref b] M Q ↔ Wp d 152 34 L [.int 1, .int a, .ref b] M Q) ∧
    (∀ (d : Nat) (a : Int32) (b : Int32) (c : Nat) (L : List Value) (M : Mem) (Q : Option Value → Mem → Prop), Wp d 152 34 L [.int a, .int b, .ref c] M Q ↔ ((isK c 13 = true ∧ inr b (lnm M c)) ∧ Wp d 152 35 L [] (up2 M c b.toNatClampNeg a) Q)) ∧
    (∀ (d : Nat) (x : Nat) (L : List Value) (M : Mem) (Q : Option Value → Mem → Prop), Wp d 152 35 (.ref x :: L) [] M Q ↔ Wp d 152 36 (.ref x :: L) [.ref x] M Q) ∧
    (∀ (d : Nat) (a : Nat) (L : List Value) (M : Mem) (Q : Option Value → Mem → Prop), Wp d 152 36 L [.ref a] M Q ↔ Wp d 152 37 L [.int 1, .ref a] M Q) ∧
    (∀ (d : Nat) (a : Int32) (b : Nat) (L : List Value) (M : Mem) (Q : Option Value → Mem → Prop), Wp (d + 1) 152 37 L [.int a, .ref b] M Q ↔ (isK b 12 = true ∧ Wp d 127 0 [.ref b, .int a, .null, .null] [] M (fun r M2 => Wp (d + 1) 152 40 L (r.toList ++ []) M2 Q))) ∧
    (∀ (d : Nat) (a : Int32) (L : List Value) (M : Mem) (Q : Option Value → Mem → Prop), Wp d 152 40 L [.int a] M Q ↔ Q (some (.int a)) M) := by
  refine ⟨?_, ?_, ?_, ?_, ?_, ?_, ?_, ?_, ?_, ?_, ?_, ?_, ?_, ?_, ?_, ?_, ?_, ?_, ?_, ?_, ?_, ?_, ?_, ?_, ?_⟩
  · intro d x L M Q; exact Wp_sim (by decide +kernel : decode (cd 152) 0 = .ok (.aload_n 0, 1)) rfl rfl
  · intro d a v0 x L M Q; exact Wp_sim (by decide +kernel : decode (cd 152) 1 = .ok (.iload_n 1, 1)) rfl rfl
  · intro d a b L M Q; exact q_invV (pz := 1053) (n := 1) (c := 12) (m := 2) (k := b) (As := [.int a]) (rest := []) (by decide +kernel : decode (cd 152) 2 = .ok (.invokevirtual 183, 3)) (by decide +kernel) (by decide +kernel) rfl rfl (Nat.le_of_ble_eq_true rfl) (Nat.le_of_ble_eq_true rfl) rfl
  · intro d a L M Q; exact q_zne (by decide +kernel : decode (cd 152) 5 = .ok (.ifCond .ne 6, 3)) (by decide)
  · intro d L M Q; exact q_ldc (p := 1043) (by decide +kernel : decode (cd 152) 8 = .ok (.ldc 180, 2)) (by decide +kernel)
  · intro d a L M Q; exact q_iret (by decide +kernel : decode (cd 152) 10 = .ok (.ireturn , 1)) (by decide +kernel)
  · intro d x L M Q; exact Wp_sim (by decide +kernel : decode (cd 152) 11 = .ok (.aload_n 0, 1)) rfl rfl
  · intro d a v0 x L M Q; exact Wp_sim (by decide +kernel : decode (cd 152) 12 = .ok (.iload_n 1, 1)) rfl rfl
  · intro d a b L M Q; exact q_invV (pz := 1104) (n := 1) (c := 12) (m := 2) (k := b) (As := [.int a]) (rest := []) (by decide +kernel : decode (cd 152) 13 = .ok (.invokevirtual 210, 3)) (by decide +kernel) (by decide +kernel) rfl rfl (Nat.le_of_ble_eq_true rfl) (Nat.le_of_ble_eq_true rfl) rfl
  · intro d a L M Q; exact q_zne (by decide +kernel : decode (cd 152) 16 = .ok (.ifCond .ne 6, 3)) (by decide)
  · intro d L M Q; exact q_ldc (p := 1083) (by decide +kernel : decode (cd 152) 19 = .ok (.ldc 200, 2)) (by decide +kernel)
  · intro d a L M Q; exact q_iret (by decide +kernel : decode (cd 152) 21 = .ok (.ireturn , 1)) (by decide +kernel)
  · intro d x L M Q; exact Wp_sim (by decide +kernel : decode (cd 152) 22 = .ok (.aload_n 0, 1)) rfl rfl
  · intro d a L M Q; exact q_invV (pz := 1084) (n := 0) (c := 12) (m := 2) (k := a) (As := []) (rest := []) (by decide +kernel : decode (cd 152) 23 = .ok (.invokevirtual 204, 3)) (by decide +kernel) (by decide +kernel) rfl rfl (Nat.le_of_ble_eq_true rfl) (Nat.le_of_ble_eq_true rfl) rfl
  · intro d x L M Q; exact Wp_sim (by decide +kernel : decode (cd 152) 26 = .ok (.aload_n 0, 1)) rfl rfl
  · intro d a L M Q; exact q_getR (p := 845) (by decide +kernel : decode (cd 152) 27 = .ok (.getfield 16, 3)) (by decide +kernel) (by decide +kernel)
  · intro d a L M Q; exact Wp_sim (by decide +kernel : decode (cd 152) 30 = .ok (.iconst 0, 1)) rfl rfl
  · intro d a b v0 x L M Q; exact Wp_sim (by decide +kernel : decode (cd 152) 31 = .ok (.iload_n 1, 1)) rfl rfl
  · intro d a b c L M Q; exact Wp_sim (by decide +kernel : decode (cd 152) 32 = .ok (.iadd , 1)) rfl rfl
  · intro d a b L M Q; exact Wp_sim (by decide +kernel : decode (cd 152) 33 = .ok (.iconst 1, 1)) rfl rfl
  · intro d a b c L M Q; exact q_ast (by decide +kernel : decode (cd 152) 34 = .ok (.iastore , 1))
  · intro d x L M Q; exact Wp_sim (by decide +kernel : decode (cd 152) 35 = .ok (.aload_n 0, 1)) rfl rfl
  · intro d a L M Q; exact Wp_sim (by decide +kernel : decode (cd 152) 36 = .ok (.iconst 1, 1)) rfl rfl
  · intro d a b L M Q; exact q_invV (pz := 999) (n := 1) (c := 12) (m := 4) (k := b) (As := [.int a]) (rest := []) (by decide +kernel : decode (cd 152) 37 = .ok (.invokevirtual 150, 3)) (by decide +kernel) (by decide +kernel) rfl rfl (Nat.le_of_ble_eq_true rfl) (Nat.le_of_ble_eq_true rfl) rfl
  · intro d a L M Q; exact q_iret (by decide +kernel : decode (cd 152) 40 = .ok (.ireturn , 1)) (by decide +kernel)

/- 153: PalaceYardModel.mayGoIn -/
set_option maxRecDepth 10000 in
theorem e153 : (∀ (d : Nat) (x : Nat) (L : List Value) (M : Mem) (Q : Option Value → Mem → Prop), Wp d 153 0 (.ref x :: L) [] M Q ↔ Wp d 153 1 (.ref x :: L) [.ref x] M Q) ∧
    (∀ (d : Nat) (a : Nat) (L : List Value) (M : Mem) (Q : Option Value → Mem → Prop), Wp d 153 1 L [.ref a] M Q ↔ (isK a 12 = true ∧ Wp d 153 4 L [.ref (rt a 2)] M Q)) ∧
    (∀ (d : Nat) (a : Nat) (L : List Value) (M : Mem) (Q : Option Value → Mem → Prop), Wp d 153 4 L [.ref a] M Q ↔ Wp d 153 5 L [.int 0, .ref a] M Q) ∧
    (∀ (d : Nat) (a : Int32) (b : Nat) (v0 : Value) (x : Int32) (L : List Value) (M : Mem) (Q : Option Value → Mem → Prop), Wp d 153 5 (v0 :: .int x :: L) [.int a, .ref b] M Q ↔ Wp d 153 6 (v0 :: .int x :: L) [.int x, .int a, .ref b] M Q) ∧
    (∀ (d : Nat) (a : Int32) (b : Int32) (c : Nat) (L : List Value) (M : Mem) (Q : Option Value → Mem → Prop), Wp d 153 6 L [.int a, .int b, .ref c] M Q ↔ Wp d 153 7 L [.int (b + a), .ref c] M Q) ∧
    (∀ (d : Nat) (a : Int32) (b : Nat) (L : List Value) (M : Mem) (Q : Option Value → Mem → Prop), Wp d 153 7 L [.int a, .ref b] M Q ↔ ((isR b = true ∧ inr a (lnm M b)) ∧ Wp d 153 8 L [.int (M b a.toNatClampNeg)] M Q)) ∧
    (∀ (d : Nat) (a : Int32) (L : List Value) (M : Mem) (Q : Option Value → Mem → Prop), Wp d 153 8 L [.int a] M Q ↔ (if a = 0 then Wp d 153 11 L [] M Q else Wp d 153 32 L [] M Q)) ∧
    (∀ (d : Nat) (x : Nat) (L : List Value) (M : Mem) (Q : Option Value → Mem → Prop), Wp d 153 11 (.ref x :: L) [] M Q ↔ Wp d 153 12 (.ref x :: L) [.ref x] M Q) ∧
    (∀ (d : Nat) (a : Nat) (L : List Value) (M : Mem) (Q : Option Value → Mem → Prop), Wp d 153 12 L [.ref a] M Q ↔ Wp d 153 13 L [.int 1, .ref a] M Q) ∧
    (∀ (d : Nat) (a : Int32) (b : Nat) (L : List Value) (M : Mem) (Q : Option Value → Mem → Prop), Wp (d + 1) 153 13 L [.int a, .ref b] M Q ↔ (isK b 12 = true ∧ Wp d 127 0 [.ref b, .int a, .null, .null] [] M (fun r M2 => Wp (d + 1) 153 16 L (r.toList ++ []) M2 Q))) ∧
    (∀ (d : Nat) (a : Int32) (L : List Value) (M : Mem) (Q : Option Value → Mem → Prop), Wp (d + 1) 153 16 L [.int a] M Q ↔ Wp d 151 0 [.int a, .null, .null] [] M (fun r M2 => Wp (d + 1) 153 19 L (r.toList ++ []) M2 Q)) ∧
    (∀ (d : Nat) (a : Int32) (x : Nat) (L : List Value) (M : Mem) (Q : Option Value → Mem → Prop), Wp d 153 19 (.ref x :: L) [.int a] M Q ↔ Wp d 153 20 (.ref x :: L) [.ref x, .int a] M Q) ∧
    (∀ (d : Nat) (a : Nat) (b : Int32) (L : List Value) (M : Mem) (Q : Option Value → Mem → Prop), Wp d 153 20 L [.ref a, .int b] M Q ↔ (isK a 12 = true ∧ Wp d 153 23 L [.ref (rt a 0), .int b] M Q)) ∧
    (∀ (d : Nat) (a : Nat) (b : Int32) (L : List Value) (M : Mem) (Q : Option Value → Mem → Prop), Wp d 153 23 L [.ref a, .int b] M Q ↔ Wp d 153 24 L [.int 1, .ref a, .int b] M Q) ∧
    (∀ (d : Nat) (a : Int32) (b : Nat) (c : Int32) (L : List Value) (M : Mem) (Q : Option Value → Mem → Prop), Wp d 153 24 L [.int a, .ref b, .int c] M Q ↔ ((isR b = true ∧ inr a (lnm M b)) ∧ Wp d 153 25 L [.int (M b a.toNatClampNeg), .int c] M Q)) ∧
    (∀ (d : Nat) (a : Int32) (b : Int32) (L : List Value) (M : Mem) (Q : Option Value → Mem → Prop), Wp d 153 25 L [.int a, .int b] M Q ↔ (if b < a then Wp d 153 28 L [] M Q else Wp d 153 32 L [] M Q)) ∧
    (∀ (d : Nat) (L : List Value) (M : Mem) (Q : Option Value → Mem → Prop), Wp d 153 28 L [] M Q ↔ Wp d 153 29 L [.int 1] M Q) ∧
    (∀ (d : Nat) (a : Int32) (L : List Value) (M : Mem) (Q : Option Value → Mem → Prop), Wp d 153 29 L [.int a] M Q ↔ Wp d 153 33 L [.int a] M Q) ∧
    (∀ (d : Nat) (L : List Value) (M : Mem) (Q : Option Value → Mem → Prop), Wp d 153 32 L [] M Q ↔ Wp d 153 33 L [.int 0] M Q) ∧
    (∀ (d : Nat) (a : Int32) (L : List Value) (M : Mem) (Q : Option Value → Mem → Prop), Wp d 153 33 L [.int a] M Q ↔ ((a = 0 ∨ a = 1) ∧ Q (some (.int a)) M)) := by
  refine ⟨?_, ?_, ?_, ?_, ?_, ?_, ?_, ?_, ?_, ?_, ?_, ?_, ?_, ?_, ?_, ?_, ?_, ?_, ?_, ?_⟩
  · intro d x L M Q; exact Wp_sim (by decide +kernel : decode (cd 153) 0 = .ok (.aload_n 0, 1)) rfl rfl
  · intro d a L M Q; exact q_getR (p := 845) (by decide +kernel : decode (cd 153) 1 = .ok (.getfield 16, 3)) (by decide +kernel) (by decide +kernel)
  · intro d a L M Q; exact Wp_sim (by decide +kernel : decode (cd 153) 4 = .ok (.iconst 0, 1)) rfl rfl
  · intro d a b v0 x L M Q; exact Wp_sim (by decide +kernel : decode (cd 153) 5 = .ok (.iload_n 1, 1)) rfl rfl
  · intro d a b c L M Q; exact Wp_sim (by decide +kernel : decode (cd 153) 6 = .ok (.iadd , 1)) rfl rfl
  · intro d a b L M Q; exact q_ald (by decide +kernel : decode (cd 153) 7 = .ok (.iaload , 1))
  · intro d a L M Q; exact q_zne (by decide +kernel : decode (cd 153) 8 = .ok (.ifCond .ne 24, 3)) (by decide)
  · intro d x L M Q; exact Wp_sim (by decide +kernel : decode (cd 153) 11 = .ok (.aload_n 0, 1)) rfl rfl
  · intro d a L M Q; exact Wp_sim (by decide +kernel : decode (cd 153) 12 = .ok (.iconst 1, 1)) rfl rfl
  · intro d a b L M Q; exact q_invV (pz := 999) (n := 1) (c := 12) (m := 4) (k := b) (As := [.int a]) (rest := []) (by decide +kernel : decode (cd 153) 13 = .ok (.invokevirtual 150, 3)) (by decide +kernel) (by decide +kernel) rfl rfl (Nat.le_of_ble_eq_true rfl) (Nat.le_of_ble_eq_true rfl) rfl
  · intro d a L M Q; exact q_invS (pz := 1097) (n := 1) (m := 3) (As := [.int a]) (rest := []) (by decide +kernel : decode (cd 153) 16 = .ok (.invokestatic 195, 3)) (by decide +kernel) (by decide +kernel) (by decide +kernel) rfl rfl (Nat.le_of_ble_eq_true rfl) (Nat.le_of_ble_eq_true rfl) rfl
  · intro d a x L M Q; exact Wp_sim (by decide +kernel : decode (cd 153) 19 = .ok (.aload_n 0, 1)) rfl rfl
  · intro d a b L M Q; exact q_getR (p := 843) (by decide +kernel : decode (cd 153) 20 = .ok (.getfield 7, 3)) (by decide +kernel) (by decide +kernel)
  · intro d a b L M Q; exact Wp_sim (by decide +kernel : decode (cd 153) 23 = .ok (.iconst 1, 1)) rfl rfl
  · intro d a b c L M Q; exact q_ald (by decide +kernel : decode (cd 153) 24 = .ok (.iaload , 1))
  · intro d a b L M Q; exact q_ige (by decide +kernel : decode (cd 153) 25 = .ok (.if_icmp .ge 7, 3)) (by decide)
  · intro d L M Q; exact Wp_sim (by decide +kernel : decode (cd 153) 28 = .ok (.iconst 1, 1)) rfl rfl
  · intro d a L M Q; exact q_goto (by decide +kernel : decode (cd 153) 29 = .ok (.goto 4, 3)) (by decide)
  · intro d L M Q; exact Wp_sim (by decide +kernel : decode (cd 153) 32 = .ok (.iconst 0, 1)) rfl rfl
  · intro d a L M Q; exact q_zret (by decide +kernel : decode (cd 153) 33 = .ok (.ireturn , 1)) (by decide +kernel)

/- 154: PalaceYardModel.goOut -/
set_option maxRecDepth 10000 in
theorem e154 : (∀ (d : Nat) (x : Nat) (L : List Value) (M : Mem) (Q : Option Value → Mem → Prop), Wp d 154 0 (.ref x :: L) [] M Q ↔ Wp d 154 1 (.ref x :: L) [.ref x] M Q) ∧
    (∀ (d : Nat) (a : Nat) (v0 : Value) (x : Int32) (L : List Value) (M : Mem) (Q : Option Value → Mem → Prop), Wp d 154 1 (v0 :: .int x :: L) [.ref a] M Q ↔ Wp d 154 2 (v0 :: .int x :: L) [.int x, .ref a] M Q) ∧
    (∀ (d : Nat) (a : Int32) (b : Nat) (L : List Value) (M : Mem) (Q : Option Value → Mem → Prop), Wp (d + 1) 154 2 L [.int a, .ref b] M Q ↔ (isK b 12 = true ∧ Wp d 141 0 [.ref b, .int a] [] M (fun r M2 => Wp (d + 1) 154 5 L (r.toList ++ []) M2 Q))) ∧
    (∀ (d : Nat) (a : Int32) (L : List Value) (M : Mem) (Q : Option Value → Mem → Prop), Wp d 154 5 L [.int a] M Q ↔ (if a = 0 then Wp d 154 8 L [] M Q else Wp d 154 11 L [] M Q)) ∧
    (∀ (d : Nat) (L : List Value) (M : Mem) (Q : Option Value → Mem → Prop), Wp d 154 8 L [] M Q ↔ Wp d 154 10 L [.int (-1000000001)] M Q) ∧
    (∀ (d : Nat) (a : Int32) (L : List Value) (M : Mem) (Q : Option Value → Mem → Prop), Wp d 154 10 L [.int a] M Q ↔ Q (some (.int a)) M) ∧
    (∀ (d : Nat) (x : Nat) (L : List Value) (M : Mem) (Q : Option Value → Mem → Prop), Wp d 154 11 (.ref x :: L) [] M Q ↔ Wp d 154 12 (.ref x :: L) [.ref x] M Q) ∧
    (∀ (d : Nat) (a : Nat) (L : List Value) (M : Mem) (Q : Option Value → Mem → Prop), Wp d 154 12 L [.ref a] M Q ↔ (isK a 12 = true ∧ Wp d 154 15 L [.ref (rt a 2)] M Q)) ∧
    (∀ (d : Nat) (a : Nat) (L : List Value) (M : Mem) (Q : Option Value → Mem → Prop), Wp d 154 15 L [.ref a] M Q ↔ Wp d 154 16 L [.int 0, .ref a] M Q) ∧
    (∀ (d : Nat) (a : Int32) (b : Nat) (v0 : Value) (x : Int32) (L : List Value) (M : Mem) (Q : Option Value → Mem → Prop), Wp d 154 16 (v0 :: .int x :: L) [.int a, .ref b] M Q ↔ Wp d 154 17 (v0 :: .int x :: L) [.int x, .int a, .ref b] M Q) ∧
    (∀ (d : Nat) (a : Int32) (b : Int32) (c : Nat) (L : List Value) (M : Mem) (Q : Option Value → Mem → Prop), Wp d 154 17 L [.int a, .int b, .ref c] M Q ↔ Wp d 154 18 L [.int (b + a), .ref c] M Q) ∧
    (∀ (d : Nat) (a : Int32) (b : Nat) (L : List Value) (M : Mem) (Q : Option Value → Mem → Prop), Wp d 154 18 L [.int a, .ref b] M Q ↔ ((isR b = true ∧ inr a (lnm M b)) ∧ Wp d 154 19 L [.int (M b a.toNatClampNeg)] M Q)) ∧
    (∀ (d : Nat) (a : Int32) (L : List Value) (M : Mem) (Q : Option Value → Mem → Prop), Wp d 154 19 L [.int a] M Q ↔ Wp d 154 20 L [.int 1, .int a] M Q) ∧
    (∀ (d : Nat) (a : Int32) (b : Int32) (L : List Value) (M : Mem) (Q : Option Value → Mem → Prop), Wp d 154 20 L [.int a, .int b] M Q ↔ (if b = a then Wp d 154 26 L [] M Q else Wp d 154 23 L [] M Q)) ∧
    (∀ (d : Nat) (L : List Value) (M : Mem) (Q : Option Value → Mem → Prop), Wp d 154 23 L [] M Q ↔ Wp d 154 25 L [.int (-1000000003)] M Q) ∧
    (∀ (d : Nat) (a : Int32) (L : List Value) (M : Mem) (Q : Option Value → Mem → Prop), Wp d 154 25 L [.int a] M Q ↔ Q (some (.int a)) M) ∧
    (∀ (d : Nat) (x : Nat) (L : List Value) (M : Mem) (Q : Option Value → Mem → Prop), Wp d 154 26 (.ref x :: L) [] M Q ↔ Wp d 154 27 (.ref x :: L) [.ref x] M Q) ∧
    (∀ (d : Nat) (a : Nat) (L : List Value) (M : Mem) (Q : Option Value → Mem → Prop), Wp (d + 1) 154 27 L [.ref a] M Q ↔ (isK a 12 = true ∧ Wp d 148 0 [.ref a, .null] [] M (fun r M2 => Wp (d + 1) 154 30 L (r.toList ++ []) M2 Q))) ∧
    (∀ (d : Nat) (x : Nat) (L : List Value) (M : Mem) (Q : Option Value → Mem → Prop), Wp d 154 30 (.ref x :: L) [] M Q ↔ Wp d 154 31 (.ref x :: L) [.ref x] M Q) ∧
    (∀ (d : Nat) (a : Nat) (L : List Value) (M : Mem) (Q : Option Value → Mem → Prop), Wp d 154 31 L [.ref a] M Q ↔ (isK a 12 = true ∧ Wp d 154 34 L [.ref (rt a 2)] M Q)) ∧
    (∀ (d : Nat) (a : Nat) (L : List Value) (M : Mem) (Q : Option Value → Mem → Prop), Wp d 154 34 L [.ref a] M Q ↔ Wp d 154 35 L [.int 0, .ref a] M Q) ∧
    (∀ (d : Nat) (a : Int32) (b : Nat) (v0 : Value) (x : Int32) (L : List Value) (M : Mem) (Q : Option Value → Mem → Prop), Wp d 154 35 (v0 :: .int x :: L) [.int a, .ref b] M Q ↔ Wp d 154 36 (v0 :: .int x :: L) [.int x, .int a, .ref b] M Q) ∧
    (∀ (d : Nat) (a : Int32) (b : Int32) (c : Nat) (L : List Value) (M : Mem) (Q : Option Value → Mem → Prop), Wp d 154 36 L [.int a, .int b, .ref c] M Q ↔ Wp d 154 37 L [.int (b + a), .ref c] M Q) ∧
    (∀ (d : Nat) (a : Int32) (b : Nat) (L : List Value) (M : Mem) (Q : Option Value → Mem → Prop), Wp d 154 37 L [.int a, .ref b] M Q ↔ Wp d 154 38 L [.int 0, .int a, .ref b] M Q) ∧
    (∀ (d : Nat) (a : Int32) (b : Int32) (c : Nat) (L : List Value) (M : Mem) (Q : Option Value → Mem → Prop), Wp d 154 38 L [.int a, .int b, .ref c] M Q ↔ ((isK c 13 = true ∧ inr b (lnm M c)) ∧ Wp d 154 39 L [] (up2 M c b.toNatClampNeg a) Q)) ∧
    (∀ (d : Nat) (x : Nat) (L : List Value) (M : Mem) (Q : Option Value → Mem → Prop), Wp d 154 39 (.ref x :: L) [] M Q ↔ Wp d 154 40 (.ref x :: L) [.ref x] M Q) ∧
    (∀ (d : Nat) (a : Nat) (L : List Value) (M : Mem) (Q : Option Value → Mem → Prop), Wp d 154 40 L [.ref a] M Q ↔ Wp d 154 41 L [.int 0, .ref a] M Q) ∧
    (∀ (d : Nat) (a : Int32) (b : Nat) (L : List Value) (M : Mem) (Q : Option Value → Mem → Prop), Wp (d + 1) 154 41 L [.int a, .ref b] M Q ↔ (isK b 12 = true ∧ Wp d 127 0 [.ref b, .int a, .null, .null] [] M (fun r M2 => Wp (d + 1) 154 44 L (r.toList ++ []) M2 Q))) ∧
    (∀ (d : Nat) (a : Int32) (L : List Value) (M : Mem) (Q : Option Value → Mem → Prop), Wp d 154 44 L [.int a] M Q ↔ Q (some (.int a)) M) := by
  refine ⟨?_, ?_, ?_, ?_, ?_, ?_, ?_, ?_, ?_, ?_, ?_, ?_, ?_, ?_, ?_, ?_, ?_, ?_, ?_, ?_, ?_, ?_, ?_, ?_, ?_, ?_, ?_, ?_, ?_⟩
  · intro d x L M Q; exact Wp_sim (by decide +kernel : decode (cd 154) 0 = .ok (.aload_n 0, 1)) rfl rfl
  · intro d a v0 x L M Q; exact Wp_sim (by decide +kernel : decode (cd 154) 1 = .ok (.iload_n 1, 1)) rfl rfl
  · intro d a b L M Q; exact q_invV (pz := 1053) (n := 1) (c := 12) (m := 2) (k := b) (As := [.int a]) (rest := []) (by decide +kernel : decode (cd 154) 2 = .ok (.invokevirtual 183, 3)) (by decide +kernel) (by decide +kernel) rfl rfl (Nat.le_of_ble_eq_true rfl) (Nat.le_of_ble_eq_true rfl) rfl
  · intro d a L M Q; exact q_zne (by decide +kernel : decode (cd 154) 5 = .ok (.ifCond .ne 6, 3)) (by decide)
  · intro d L M Q; exact q_ldc (p := 1043) (by decide +kernel : decode (cd 154) 8 = .ok (.ldc 180, 2)) (by decide +kernel)
  · intro d a L M Q; exact q_iret (by decide +kernel : decode (cd 154) 10 = .ok (.ireturn , 1)) (by decide +kernel)
  · intro d x L M Q; exact Wp_sim (by decide +kernel : decode (cd 154) 11 = .ok (.aload_n 0, 1)) rfl rfl
  · intro d a L M Q; exact q_getR (p := 845) (by decide +kernel : decode (cd 154) 12 = .ok (.getfield 16, 3)) (by decide +kernel) (by decide +kernel)
  · intro d a L M Q; exact Wp_sim (by decide +kernel : decode (cd 154) 15 = .ok (.iconst 0, 1)) rfl rfl
  · intro d a b v0 x L M Q; exact Wp_sim (by decide +kernel : decode (cd 154) 16 = .ok (.iload_n 1, 1)) rfl rfl
  · intro d a b c L M Q; exact Wp_sim (by decide +kernel : decode (cd 154) 17 = .ok (.iadd , 1)) rfl rfl
  · intro d a b L M Q; exact q_ald (by decide +kernel : decode (cd 154) 18 = .ok (.iaload , 1))
  · intro d a L M Q; exact Wp_sim (by decide +kernel : decode (cd 154) 19 = .ok (.iconst 1, 1)) rfl rfl
  · intro d a b L M Q; exact q_ieq (by decide +kernel : decode (cd 154) 20 = .ok (.if_icmp .eq 6, 3)) (by decide)
  · intro d L M Q; exact q_ldc (p := 1083) (by decide +kernel : decode (cd 154) 23 = .ok (.ldc 200, 2)) (by decide +kernel)
  · intro d a L M Q; exact q_iret (by decide +kernel : decode (cd 154) 25 = .ok (.ireturn , 1)) (by decide +kernel)
  · intro d x L M Q; exact Wp_sim (by decide +kernel : decode (cd 154) 26 = .ok (.aload_n 0, 1)) rfl rfl
  · intro d a L M Q; exact q_invV (pz := 1084) (n := 0) (c := 12) (m := 2) (k := a) (As := []) (rest := []) (by decide +kernel : decode (cd 154) 27 = .ok (.invokevirtual 204, 3)) (by decide +kernel) (by decide +kernel) rfl rfl (Nat.le_of_ble_eq_true rfl) (Nat.le_of_ble_eq_true rfl) rfl
  · intro d x L M Q; exact Wp_sim (by decide +kernel : decode (cd 154) 30 = .ok (.aload_n 0, 1)) rfl rfl
  · intro d a L M Q; exact q_getR (p := 845) (by decide +kernel : decode (cd 154) 31 = .ok (.getfield 16, 3)) (by decide +kernel) (by decide +kernel)
  · intro d a L M Q; exact Wp_sim (by decide +kernel : decode (cd 154) 34 = .ok (.iconst 0, 1)) rfl rfl
  · intro d a b v0 x L M Q; exact Wp_sim (by decide +kernel : decode (cd 154) 35 = .ok (.iload_n 1, 1)) rfl rfl
  · intro d a b c L M Q; exact Wp_sim (by decide +kernel : decode (cd 154) 36 = .ok (.iadd , 1)) rfl rfl
  · intro d a b L M Q; exact Wp_sim (by decide +kernel : decode (cd 154) 37 = .ok (.iconst 0, 1)) rfl rfl
  · intro d a b c L M Q; exact q_ast (by decide +kernel : decode (cd 154) 38 = .ok (.iastore , 1))
  · intro d x L M Q; exact Wp_sim (by decide +kernel : decode (cd 154) 39 = .ok (.aload_n 0, 1)) rfl rfl
  · intro d a L M Q; exact Wp_sim (by decide +kernel : decode (cd 154) 40 = .ok (.iconst 0, 1)) rfl rfl
  · intro d a b L M Q; exact q_invV (pz := 999) (n := 1) (c := 12) (m := 4) (k := b) (As := [.int a]) (rest := []) (by decide +kernel : decode (cd 154) 41 = .ok (.invokevirtual 150, 3)) (by decide +kernel) (by decide +kernel) rfl rfl (Nat.le_of_ble_eq_true rfl) (Nat.le_of_ble_eq_true rfl) rfl
  · intro d a L M Q; exact q_iret (by decide +kernel : decode (cd 154) 44 = .ok (.ireturn , 1)) (by decide +kernel)

/- 155: PalaceYardModel.settle -/
set_option maxRecDepth 10000 in
theorem e155 : (∀ (d : Nat) (x : Nat) (L : List Value) (M : Mem) (Q : Option Value → Mem → Prop), Wp d 155 0 (.ref x :: L) [] M Q ↔ Wp d 155 1 (.ref x :: L) [.ref x] M Q) ∧
    (∀ (d : Nat) (a : Nat) (v0 : Value) (x : Int32) (L : List Value) (M : Mem) (Q : Option Value → Mem → Prop), Wp d 155 1 (v0 :: .int x :: L) [.ref a] M Q ↔ Wp d 155 2 (v0 :: .int x :: L) [.int x, .ref a] M Q) ∧
    (∀ (d : Nat) (a : Int32) (b : Nat) (L : List Value) (M : Mem) (Q : Option Value → Mem → Prop), Wp (d + 1) 155 2 L [.int a, .ref b] M Q ↔ (isK b 12 = true ∧ Wp d 141 0 [.ref b, .int a] [] M (fun r M2 => Wp (d + 1) 155 5 L (r.toList ++ []) M2 Q))) ∧
    (∀ (d : Nat) (a : Int32) (L : List Value) (M : Mem) (Q : Option Value → Mem → Prop), Wp d 155 5 L [.int a] M Q ↔ (if a = 0 then Wp d 155 8 L [] M Q else Wp d 155 11 L [] M Q)) ∧
    (∀ (d : Nat) (L : List Value) (M : Mem) (Q : Option Value → Mem → Prop), Wp d 155 8 L [] M Q ↔ Wp d 155 10 L [.int (-1000000001)] M Q) ∧
    (∀ (d : Nat) (a : Int32) (L : List Value) (M : Mem) (Q : Option Value → Mem → Prop), Wp d 155 10 L [.int a] M Q ↔ Q (some (.int a)) M) ∧
    (∀ (d : Nat) (x : Nat) (L : List Value) (M : Mem) (Q : Option Value → Mem → Prop), Wp d 155 11 (.ref x :: L) [] M Q ↔ Wp d 155 12 (.ref x :: L) [.ref x] M Q) ∧
    (∀ (d : Nat) (a : Nat) (v0 : Value) (x : Int32) (L : List Value) (M : Mem) (Q : Option Value → Mem → Prop), Wp d 155 12 (v0 :: .int x :: L) [.ref a] M Q ↔ Wp d 155 13 (v0 :: .int x :: L) [.int x, .ref a] M Q) ∧
    (∀ (d : Nat) (a : Int32) (b : Nat) (L : List Value) (M : Mem) (Q : Option Value → Mem → Prop), Wp (d + 1) 155 13 L [.int a, .ref b] M Q ↔ (isK b 12 = true ∧ Wp d 156 0 [.ref b, .int a] [] M (fun r M2 => Wp (d + 1) 155 16 L (r.toList ++ []) M2 Q))) ∧
    (∀ (d : Nat) (a : Int32) (L : List Value) (M : Mem) (Q : Option Value → Mem → Prop), Wp d 155 16 L [.int a] M Q ↔ (if a = 0 then Wp d 155 19 L [] M Q else Wp d 155 22 L [] M Q)) ∧
    (∀ (d : Nat) (L : List Value) (M : Mem) (Q : Option Value → Mem → Prop), Wp d 155 19 L [] M Q ↔ Wp d 155 21 L [.int (-1000000003)] M Q) ∧
    (∀ (d : Nat) (a : Int32) (L : List Value) (M : Mem) (Q : Option Value → Mem → Prop), Wp d 155 21 L [.int a] M Q ↔ Q (some (.int a)) M) ∧
    (∀ (d : Nat) (x : Nat) (L : List Value) (M : Mem) (Q : Option Value → Mem → Prop), Wp d 155 22 (.ref x :: L) [] M Q ↔ Wp d 155 23 (.ref x :: L) [.ref x] M Q) ∧
    (∀ (d : Nat) (a : Nat) (L : List Value) (M : Mem) (Q : Option Value → Mem → Prop), Wp (d + 1) 155 23 L [.ref a] M Q ↔ (isK a 12 = true ∧ Wp d 148 0 [.ref a, .null] [] M (fun r M2 => Wp (d + 1) 155 26 L (r.toList ++ []) M2 Q))) ∧
    (∀ (d : Nat) (x : Nat) (L : List Value) (M : Mem) (Q : Option Value → Mem → Prop), Wp d 155 26 (.ref x :: L) [] M Q ↔ Wp d 155 27 (.ref x :: L) [.ref x] M Q) ∧
    (∀ (d : Nat) (a : Nat) (v0 : Value) (x : Int32) (L : List Value) (M : Mem) (Q : Option Value → Mem → Prop), Wp d 155 27 (v0 :: .int x :: L) [.ref a] M Q ↔ Wp d 155 28 (v0 :: .int x :: L) [.int x, .ref a] M Q) ∧
    (∀ (d : Nat) (a : Int32) (b : Nat) (L : List Value) (M : Mem) (Q : Option Value → Mem → Prop), Wp (d + 1) 155 28 L [.int a, .ref b] M Q ↔ (isK b 12 = true ∧ Wp d 157 0 [.ref b, .int a, .null] [] M (fun r M2 => Wp (d + 1) 155 31 L (r.toList ++ []) M2 Q))) ∧
    (∀ (d : Nat) (a : Int32) (L : List Value) (M : Mem) (Q : Option Value → Mem → Prop), Wp d 155 31 L [.int a] M Q ↔ Q (some (.int a)) M) := by
  refine ⟨?_, ?_, ?_, ?_, ?_, ?_, ?_, ?_, ?_, ?_, ?_, ?_, ?_, ?_, ?_, ?_, ?_, ?_⟩
  · intro d x L M Q; exact Wp_sim (by decide +kernel : decode (cd 155) 0 = .ok (.aload_n 0, 1)) rfl rfl
  · intro d a v0 x L M Q; exact Wp_sim (by decide +kernel : decode (cd 155) 1 = .ok (.iload_n 1, 1)) rfl rfl
  · intro d a b L M Q; exact q_invV (pz := 1053) (n := 1) (c := 12) (m := 2) (k := b) (As := [.int a]) (rest := []) (by decide +kernel : decode (cd 155) 2 = .ok (.invokevirtual 183, 3)) (by decide +kernel) (by decide +kernel) rfl rfl (Nat.le_of_ble_eq_true rfl) (Nat.le_of_ble_eq_true rfl) rfl
  · intro d a L M Q; exact q_zne (by decide +kernel : decode (cd 155) 5 = .ok (.ifCond .ne 6, 3)) (by decide)
  · intro d L M Q; exact q_ldc (p := 1043) (by decide +kernel : decode (cd 155) 8 = .ok (.ldc 180, 2)) (by decide +kernel)
  · intro d a L M Q; exact q_iret (by decide +kernel : decode (cd 155) 10 = .ok (.ireturn , 1)) (by decide +kernel)
  · intro d x L M Q; exact Wp_sim (by decide +kernel : decode (cd 155) 11 = .ok (.aload_n 0, 1)) rfl rfl
  · intro d a v0 x L M Q; exact Wp_sim (by decide +kernel : decode (cd 155) 12 = .ok (.iload_n 1, 1)) rfl rfl
  · intro d a b L M Q; exact q_invV (pz := 1116) (n := 1) (c := 12) (m := 2) (k := b) (As := [.int a]) (rest := []) (by decide +kernel : decode (cd 155) 13 = .ok (.invokevirtual 213, 3)) (by decide +kernel) (by decide +kernel) rfl rfl (Nat.le_of_ble_eq_true rfl) (Nat.le_of_ble_eq_true rfl) rfl
  · intro d a L M Q; exact q_zne (by decide +kernel : decode (cd 155) 16 = .ok (.ifCond .ne 6, 3)) (by decide)
  · intro d L M Q; exact q_ldc (p := 1083) (by decide +kernel : decode (cd 155) 19 = .ok (.ldc 200, 2)) (by decide +kernel)
  · intro d a L M Q; exact q_iret (by decide +kernel : decode (cd 155) 21 = .ok (.ireturn , 1)) (by decide +kernel)
  · intro d x L M Q; exact Wp_sim (by decide +kernel : decode (cd 155) 22 = .ok (.aload_n 0, 1)) rfl rfl
  · intro d a L M Q; exact q_invV (pz := 1084) (n := 0) (c := 12) (m := 2) (k := a) (As := []) (rest := []) (by decide +kernel : decode (cd 155) 23 = .ok (.invokevirtual 204, 3)) (by decide +kernel) (by decide +kernel) rfl rfl (Nat.le_of_ble_eq_true rfl) (Nat.le_of_ble_eq_true rfl) rfl
  · intro d x L M Q; exact Wp_sim (by decide +kernel : decode (cd 155) 26 = .ok (.aload_n 0, 1)) rfl rfl
  · intro d a v0 x L M Q; exact Wp_sim (by decide +kernel : decode (cd 155) 27 = .ok (.iload_n 1, 1)) rfl rfl
  · intro d a b L M Q; exact q_invV (pz := 1120) (n := 1) (c := 12) (m := 3) (k := b) (As := [.int a]) (rest := []) (by decide +kernel : decode (cd 155) 28 = .ok (.invokevirtual 216, 3)) (by decide +kernel) (by decide +kernel) rfl rfl (Nat.le_of_ble_eq_true rfl) (Nat.le_of_ble_eq_true rfl) rfl
  · intro d a L M Q; exact q_iret (by decide +kernel : decode (cd 155) 31 = .ok (.ireturn , 1)) (by decide +kernel)

/- 156: PalaceYardModel.maySettle -/
set_option maxRecDepth 10000 in
theorem e156 : (∀ (d : Nat) (x : Nat) (L : List Value) (M : Mem) (Q : Option Value → Mem → Prop), Wp d 156 0 (.ref x :: L) [] M Q ↔ Wp d 156 1 (.ref x :: L) [.ref x] M Q) ∧
    (∀ (d : Nat) (a : Nat) (v0 : Value) (x : Int32) (L : List Value) (M : Mem) (Q : Option Value → Mem → Prop), Wp d 156 1 (v0 :: .int x :: L) [.ref a] M Q ↔ Wp d 156 2 (v0 :: .int x :: L) [.int x, .ref a] M Q) ∧
    (∀ (d : Nat) (a : Int32) (b : Nat) (L : List Value) (M : Mem) (Q : Option Value → Mem → Prop), Wp (d + 1) 156 2 L [.int a, .ref b] M Q ↔ (isK b 12 = true ∧ Wp d 150 0 [.ref b, .int a] [] M (fun r M2 => Wp (d + 1) 156 5 L (r.toList ++ []) M2 Q))) ∧
    (∀ (d : Nat) (a : Int32) (L : List Value) (M : Mem) (Q : Option Value → Mem → Prop), Wp d 156 5 L [.int a] M Q ↔ (if a = 0 then Wp d 156 29 L [] M Q else Wp d 156 8 L [] M Q)) ∧
    (∀ (d : Nat) (x : Nat) (L : List Value) (M : Mem) (Q : Option Value → Mem → Prop), Wp d 156 8 (.ref x :: L) [] M Q ↔ Wp d 156 9 (.ref x :: L) [.ref x] M Q) ∧
    (∀ (d : Nat) (a : Nat) (L : List Value) (M : Mem) (Q : Option Value → Mem → Prop), Wp d 156 9 L [.ref a] M Q ↔ (isK a 12 = true ∧ Wp d 156 12 L [.ref (rt a 2)] M Q)) ∧
    (∀ (d : Nat) (a : Nat) (L : List Value) (M : Mem) (Q : Option Value → Mem → Prop), Wp d 156 12 L [.ref a] M Q ↔ Wp d 156 14 L [.int 6, .ref a] M Q) ∧
    (∀ (d : Nat) (a : Int32) (b : Nat) (v0 : Value) (x : Int32) (L : List Value) (M : Mem) (Q : Option Value → Mem → Prop), Wp d 156 14 (v0 :: .int x :: L) [.int a, .ref b] M Q ↔ Wp d 156 15 (v0 :: .int x :: L) [.int x, .int a, .ref b] M Q) ∧
    (∀ (d : Nat) (a : Int32) (b : Int32) (c : Nat) (L : List Value) (M : Mem) (Q : Option Value → Mem → Prop), Wp d 156 15 L [.int a, .int b, .ref c] M Q ↔ Wp d 156 16 L [.int (b + a), .ref c] M Q) ∧
    (∀ (d : Nat) (a : Int32) (b : Nat) (L : List Value) (M : Mem) (Q : Option Value → Mem → Prop), Wp d 156 16 L [.int a, .ref b] M Q ↔ ((isR b = true ∧ inr a (lnm M b)) ∧ Wp d 156 17 L [.int (M b a.toNatClampNeg)] M Q)) ∧
    (∀ (d : Nat) (a : Int32) (x : Nat) (L : List Value) (M : Mem) (Q : Option Value → Mem → Prop), Wp d 156 17 (.ref x :: L) [.int a] M Q ↔ Wp d 156 18 (.ref x :: L) [.ref x, .int a] M Q) ∧
    (∀ (d : Nat) (a : Nat) (b : Int32) (v0 : Value) (x : Int32) (L : List Value) (M : Mem) (Q : Option Value → Mem → Prop), Wp d 156 18 (v0 :: .int x :: L) [.ref a, .int b] M Q ↔ Wp d 156 19 (v0 :: .int x :: L) [.int x, .ref a, .int b] M Q) ∧
    (∀ (d : Nat) (a : Int32) (b : Nat) (c : Int32) (L : List Value) (M : Mem) (Q : Option Value → Mem → Prop), Wp (d + 1) 156 19 L [.int a, .ref b, .int c] M Q ↔ (isK b 12 = true ∧ Wp d 142 0 [.ref b, .int a] [] M (fun r M2 => Wp (d + 1) 156 22 L (r.toList ++ [.int c]) M2 Q))) ∧
    (∀ (d : Nat) (a : Int32) (b : Int32) (L : List Value) (M : Mem) (Q : Option Value → Mem → Prop), Wp d 156 22 L [.int a, .int b] M Q ↔ (if b < a then Wp d 156 29 L [] M Q else Wp d 156 25 L [] M Q)) ∧
    (∀ (d : Nat) (L : List Value) (M : Mem) (Q : Option Value → Mem → Prop), Wp d 156 25 L [] M Q ↔ Wp d 156 26 L [.int 1] M Q) ∧
    (∀ (d : Nat) (a : Int32) (L : List Value) (M : Mem) (Q : Option Value → Mem → Prop), Wp d 156 26 L [.int a] M Q ↔ Wp d 156 30 L [.int a] M Q) ∧
    (∀ (d : Nat) (L : List Value) (M : Mem) (Q : Option Value → Mem → Prop), Wp d 156 29 L [] M Q ↔ Wp d 156 30 L [.int 0] M Q) ∧
    (∀ (d : Nat) (a : Int32) (L : List Value) (M : Mem) (Q : Option Value → Mem → Prop), Wp d 156 30 L [.int a] M Q ↔ ((a = 0 ∨ a = 1) ∧ Q (some (.int a)) M)) := by
  refine ⟨?_, ?_, ?_, ?_, ?_, ?_, ?_, ?_, ?_, ?_, ?_, ?_, ?_, ?_, ?_, ?_, ?_, ?_⟩
  · intro d x L M Q; exact Wp_sim (by decide +kernel : decode (cd 156) 0 = .ok (.aload_n 0, 1)) rfl rfl
  · intro d a v0 x L M Q; exact Wp_sim (by decide +kernel : decode (cd 156) 1 = .ok (.iload_n 1, 1)) rfl rfl
  · intro d a b L M Q; exact q_invV (pz := 1092) (n := 1) (c := 12) (m := 2) (k := b) (As := [.int a]) (rest := []) (by decide +kernel : decode (cd 156) 2 = .ok (.invokevirtual 191, 3)) (by decide +kernel) (by decide +kernel) rfl rfl (Nat.le_of_ble_eq_true rfl) (Nat.le_of_ble_eq_true rfl) rfl
  · intro d a L M Q; exact q_zeq (by decide +kernel : decode (cd 156) 5 = .ok (.ifCond .eq 24, 3)) (by decide)
  · intro d x L M Q; exact Wp_sim (by decide +kernel : decode (cd 156) 8 = .ok (.aload_n 0, 1)) rfl rfl
  · intro d a L M Q; exact q_getR (p := 845) (by decide +kernel : decode (cd 156) 9 = .ok (.getfield 16, 3)) (by decide +kernel) (by decide +kernel)
  · intro d a L M Q; exact Wp_sim (by decide +kernel : decode (cd 156) 12 = .ok (.bipush 6, 2)) rfl rfl
  · intro d a b v0 x L M Q; exact Wp_sim (by decide +kernel : decode (cd 156) 14 = .ok (.iload_n 1, 1)) rfl rfl
  · intro d a b c L M Q; exact Wp_sim (by decide +kernel : decode (cd 156) 15 = .ok (.iadd , 1)) rfl rfl
  · intro d a b L M Q; exact q_ald (by decide +kernel : decode (cd 156) 16 = .ok (.iaload , 1))
  · intro d a x L M Q; exact Wp_sim (by decide +kernel : decode (cd 156) 17 = .ok (.aload_n 0, 1)) rfl rfl
  · intro d a b v0 x L M Q; exact Wp_sim (by decide +kernel : decode (cd 156) 18 = .ok (.iload_n 1, 1)) rfl rfl
  · intro d a b c L M Q; exact q_invV (pz := 1057) (n := 1) (c := 12) (m := 2) (k := b) (As := [.int a]) (rest := [.int c]) (by decide +kernel : decode (cd 156) 19 = .ok (.invokevirtual 186, 3)) (by decide +kernel) (by decide +kernel) rfl rfl (Nat.le_of_ble_eq_true rfl) (Nat.le_of_ble_eq_true rfl) rfl
  · intro d a b L M Q; exact q_ilt (by decide +kernel : decode (cd 156) 22 = .ok (.if_icmp .lt 7, 3)) (by decide)
  · intro d L M Q; exact Wp_sim (by decide +kernel : decode (cd 156) 25 = .ok (.iconst 1, 1)) rfl rfl
  · intro d a L M Q; exact q_goto (by decide +kernel : decode (cd 156) 26 = .ok (.goto 4, 3)) (by decide)
  · intro d L M Q; exact Wp_sim (by decide +kernel : decode (cd 156) 29 = .ok (.iconst 0, 1)) rfl rfl
  · intro d a L M Q; exact q_zret (by decide +kernel : decode (cd 156) 30 = .ok (.ireturn , 1)) (by decide +kernel)

/- 157: PalaceYardModel.settles -/
set_option maxRecDepth 10000 in
theorem e157 : (∀ (d : Nat) (x : Nat) (L : List Value) (M : Mem) (Q : Option Value → Mem → Prop), Wp d 157 0 (.ref x :: L) [] M Q ↔ Wp d 157 1 (.ref x :: L) [.ref x] M Q) ∧
    (∀ (d : Nat) (a : Nat) (v0 : Value) (x : Int32) (L : List Value) (M : Mem) (Q : Option Value → Mem → Prop), Wp d 157 1 (v0 :: .int x :: L) [.ref a] M Q ↔ Wp d 157 2 (v0 :: .int x :: L) [.int x, .ref a] M Q) ∧
    (∀ (d : Nat) (a : Int32) (b : Nat) (L : List Value) (M : Mem) (Q : Option Value → Mem → Prop), Wp (d + 1) 157 2 L [.int a, .ref b] M Q ↔ (isK b 12 = true ∧ Wp d 142 0 [.ref b, .int a] [] M (fun r M2 => Wp (d + 1) 157 5 L (r.toList ++ []) M2 Q))) ∧
    (∀ (d : Nat) (a : Int32) (v0 : Value) (v1 : Value) (x : Value) (L : List Value) (M : Mem) (Q : Option Value → Mem → Prop), Wp d 157 5 (v0 :: v1 :: x :: L) [.int a] M Q ↔ Wp d 157 6 (v0 :: clr v1 :: .int a :: L) [] M Q) ∧
    (∀ (d : Nat) (x : Nat) (L : List Value) (M : Mem) (Q : Option Value → Mem → Prop), Wp d 157 6 (.ref x :: L) [] M Q ↔ Wp d 157 7 (.ref x :: L) [.ref x] M Q) ∧
    (∀ (d : Nat) (a : Nat) (L : List Value) (M : Mem) (Q : Option Value → Mem → Prop), Wp d 157 7 L [.ref a] M Q ↔ (isK a 12 = true ∧ Wp d 157 10 L [.ref (rt a 2)] M Q)) ∧
    (∀ (d : Nat) (a : Nat) (L : List Value) (M : Mem) (Q : Option Value → Mem → Prop), Wp d 157 10 L [.ref a] M Q ↔ Wp d 157 12 L [.int 6, .ref a] M Q) ∧
    (∀ (d : Nat) (a : Int32) (b : Nat) (v0 : Value) (x : Int32) (L : List Value) (M : Mem) (Q : Option Value → Mem → Prop), Wp d 157 12 (v0 :: .int x :: L) [.int a, .ref b] M Q ↔ Wp d 157 13 (v0 :: .int x :: L) [.int x, .int a, .ref b] M Q) ∧
    (∀ (d : Nat) (a : Int32) (b : Int32) (c : Nat) (L : List Value) (M : Mem) (Q : Option Value → Mem → Prop), Wp d 157 13 L [.int a, .int b, .ref c] M Q ↔ Wp d 157 14 L [.int (b + a), .ref c] M Q) ∧
    (∀ (d : Nat) (a : Int32) (b : Nat) (L : List Value) (M : Mem) (Q : Option Value → Mem → Prop), Wp d 157 14 L [.int a, .ref b] M Q ↔ Wp d 157 15 L [.int a, .ref b, .int a, .ref b] M Q) ∧
    (∀ (d : Nat) (a : Int32) (b : Nat) (c : Int32) (d2 : Nat) (L : List Value) (M : Mem) (Q : Option Value → Mem → Prop), Wp d 157 15 L [.int a, .ref b, .int c, .ref d2] M Q ↔ ((isR b = true ∧ inr a (lnm M b)) ∧ Wp d 157 16 L [.int (M b a.toNatClampNeg), .int c, .ref d2] M Q)) ∧
    (∀ (d : Nat) (a : Int32) (b : Int32) (c : Nat) (v0 : Value) (v1 : Value) (x : Int32) (L : List Value) (M : Mem) (Q : Option Value → Mem → Prop), Wp d 157 16 (v0 :: v1 :: .int x :: L) [.int a, .int b, .ref c] M Q ↔ Wp d 157 17 (v0 :: v1 :: .int x :: L) [.int x, .int a, .int b, .ref c] M Q) ∧
    (∀ (d : Nat) (a : Int32) (b : Int32) (c : Int32) (d2 : Nat) (L : List Value) (M : Mem) (Q : Option Value → Mem → Prop), Wp d 157 17 L [.int a, .int b, .int c, .ref d2] M Q ↔ Wp d 157 18 L [.int (b - a), .int c, .ref d2] M Q) ∧
    (∀ (d : Nat) (a : Int32) (b : Int32) (c : Nat) (L : List Value) (M : Mem) (Q : Option Value → Mem → Prop), Wp d 157 18 L [.int a, .int b, .ref c] M Q ↔ ((isK c 13 = true ∧ inr b (lnm M c)) ∧ Wp d 157 19 L [] (up2 M c b.toNatClampNeg a) Q)) ∧
    (∀ (d : Nat) (x : Nat) (L : List Value) (M : Mem) (Q : Option Value → Mem → Prop), Wp d 157 19 (.ref x :: L) [] M Q ↔ Wp d 157 20 (.ref x :: L) [.ref x] M Q) ∧
    (∀ (d : Nat) (a : Nat) (L : List Value) (M : Mem) (Q : Option Value → Mem → Prop), Wp d 157 20 L [.ref a] M Q ↔ (isK a 12 = true ∧ Wp d 157 23 L [.ref (rt a 2)] M Q)) ∧
    (∀ (d : Nat) (a : Nat) (L : List Value) (M : Mem) (Q : Option Value → Mem → Prop), Wp d 157 23 L [.ref a] M Q ↔ Wp d 157 24 L [.int 0, .ref a] M Q) ∧
    (∀ (d : Nat) (a : Int32) (b : Nat) (v0 : Value) (x : Int32) (L : List Value) (M : Mem) (Q : Option Value → Mem → Prop), Wp d 157 24 (v0 :: .int x :: L) [.int a, .ref b] M Q ↔ Wp d 157 25 (v0 :: .int x :: L) [.int x, .int a, .ref b] M Q) ∧
    (∀ (d : Nat) (a : Int32) (b : Int32) (c : Nat) (L : List Value) (M : Mem) (Q : Option Value → Mem → Prop), Wp d 157 25 L [.int a, .int b, .ref c] M Q ↔ Wp d 157 26 L [.int (b + a), .ref c] M Q) ∧
    (∀ (d : Nat) (a : Int32) (b : Nat) (L : List Value) (M : Mem) (Q : Option Value → Mem → Prop), Wp d 157 26 L [.int a, .ref b] M Q ↔ Wp d 157 27 L [.int 3, .int a, .ref b] M Q) ∧
    (∀ (d : Nat) (a : Int32) (b : Int32) (c : Nat) (L : List Value) (M : Mem) (Q : Option Value → Mem → Prop), Wp d 157 27 L [.int a, .int b, .ref c] M Q ↔ ((isK c 13 = true ∧ inr b (lnm M c)) ∧ Wp d 157 28 L [] (up2 M c b.toNatClampNeg a) Q)) ∧
    (∀ (d : Nat) (v0 : Value) (v1 : Value) (x : Int32) (L : List Value) (M : Mem) (Q : Option Value → Mem → Prop), Wp d 157 28 (v0 :: v1 :: .int x :: L) [] M Q ↔ Wp d 157 29 (v0 :: v1 :: .int x :: L) [.int x] M Q) ∧
    (∀ (d : Nat) (a : Int32) (L : List Value) (M : Mem) (Q : Option Value → Mem → Prop), Wp d 157 29 L [.int a] M Q ↔ Q (some (.int a)) M) := by
  refine ⟨?_, ?_, ?_, ?_, ?_, ?_, ?_, ?_, ?_, ?_, ?_, ?_, ?_, ?_, ?_, ?_, ?_, ?_, ?_, ?_, ?_, ?_, ?_⟩
  · intro d x L M Q; exact Wp_sim (by decide +kernel : decode (cd 157) 0 = .ok (.aload_n 0, 1)) rfl rfl
  · intro d a v0 x L M Q; exact Wp_sim (by decide +kernel : decode (cd 157) 1 = .ok (.iload_n 1, 1)) rfl rfl
  · intro d a b L M Q; exact q_invV (pz := 1057) (n := 1) (c := 12) (m := 2) (k := b) (As := [.int a]) (rest := []) (by decide +kernel : decode (cd 157) 2 = .ok (.invokevirtual 186, 3)) (by decide +kernel) (by decide +kernel) rfl rfl (Nat.le_of_ble_eq_true rfl) (Nat.le_of_ble_eq_true rfl) rfl
  · intro d a v0 v1 x L M Q; exact Wp_sim (by decide +kernel : decode (cd 157) 5 = .ok (.istore_n 2, 1)) rfl rfl
  · intro d x L M Q; exact Wp_sim (by decide +kernel : decode (cd 157) 6 = .ok (.aload_n 0, 1)) rfl rfl
  · intro d a L M Q; exact q_getR (p := 845) (by decide +kernel : decode (cd 157) 7 = .ok (.getfield 16, 3)) (by decide +kernel) (by decide +kernel)
  · intro d a L M Q; exact Wp_sim (by decide +kernel : decode (cd 157) 10 = .ok (.bipush 6, 2)) rfl rfl
  · intro d a b v0 x L M Q; exact Wp_sim (by decide +kernel : decode (cd 157) 12 = .ok (.iload_n 1, 1)) rfl rfl
  · intro d a b c L M Q; exact Wp_sim (by decide +kernel : decode (cd 157) 13 = .ok (.iadd , 1)) rfl rfl
  · intro d a b L M Q; exact Wp_sim (by decide +kernel : decode (cd 157) 14 = .ok (.dup2 , 1)) rfl rfl
  · intro d a b c d2 L M Q; exact q_ald (by decide +kernel : decode (cd 157) 15 = .ok (.iaload , 1))
  · intro d a b c v0 v1 x L M Q; exact Wp_sim (by decide +kernel : decode (cd 157) 16 = .ok (.iload_n 2, 1)) rfl rfl
  · intro d a b c d2 L M Q; exact Wp_sim (by decide +kernel : decode (cd 157) 17 = .ok (.isub , 1)) rfl rfl
  · intro d a b c L M Q; exact q_ast (by decide +kernel : decode (cd 157) 18 = .ok (.iastore , 1))
  · intro d x L M Q; exact Wp_sim (by decide +kernel : decode (cd 157) 19 = .ok (.aload_n 0, 1)) rfl rfl
  · intro d a L M Q; exact q_getR (p := 845) (by decide +kernel : decode (cd 157) 20 = .ok (.getfield 16, 3)) (by decide +kernel) (by decide +kernel)
  · intro d a L M Q; exact Wp_sim (by decide +kernel : decode (cd 157) 23 = .ok (.iconst 0, 1)) rfl rfl
  · intro d a b v0 x L M Q; exact Wp_sim (by decide +kernel : decode (cd 157) 24 = .ok (.iload_n 1, 1)) rfl rfl
  · intro d a b c L M Q; exact Wp_sim (by decide +kernel : decode (cd 157) 25 = .ok (.iadd , 1)) rfl rfl
  · intro d a b L M Q; exact Wp_sim (by decide +kernel : decode (cd 157) 26 = .ok (.iconst 3, 1)) rfl rfl
  · intro d a b c L M Q; exact q_ast (by decide +kernel : decode (cd 157) 27 = .ok (.iastore , 1))
  · intro d v0 v1 x L M Q; exact Wp_sim (by decide +kernel : decode (cd 157) 28 = .ok (.iload_n 2, 1)) rfl rfl
  · intro d a L M Q; exact q_iret (by decide +kernel : decode (cd 157) 29 = .ok (.ireturn , 1)) (by decide +kernel)

/- 158: PalaceYardModel.lend -/
set_option maxRecDepth 10000 in
theorem e158 : (∀ (d : Nat) (x : Nat) (L : List Value) (M : Mem) (Q : Option Value → Mem → Prop), Wp d 158 0 (.ref x :: L) [] M Q ↔ Wp d 158 1 (.ref x :: L) [.ref x] M Q) ∧
    (∀ (d : Nat) (a : Nat) (v0 : Value) (x : Int32) (L : List Value) (M : Mem) (Q : Option Value → Mem → Prop), Wp d 158 1 (v0 :: .int x :: L) [.ref a] M Q ↔ Wp d 158 2 (v0 :: .int x :: L) [.int x, .ref a] M Q) ∧
    (∀ (d : Nat) (a : Int32) (b : Nat) (L : List Value) (M : Mem) (Q : Option Value → Mem → Prop), Wp (d + 1) 158 2 L [.int a, .ref b] M Q ↔ (isK b 12 = true ∧ Wp d 141 0 [.ref b, .int a] [] M (fun r M2 => Wp (d + 1) 158 5 L (r.toList ++ []) M2 Q))) ∧
    (∀ (d : Nat) (a : Int32) (L : List Value) (M : Mem) (Q : Option Value → Mem → Prop), Wp d 158 5 L [.int a] M Q ↔ (if a = 0 then Wp d 158 21 L [] M Q else Wp d 158 8 L [] M Q)) ∧
    (∀ (d : Nat) (x : Nat) (L : List Value) (M : Mem) (Q : Option Value → Mem → Prop), Wp d 158 8 (.ref x :: L) [] M Q ↔ Wp d 158 9 (.ref x :: L) [.ref x] M Q) ∧
    (∀ (d : Nat) (a : Nat) (v0 : Value) (v1 : Value) (x : Int32) (L : List Value) (M : Mem) (Q : Option Value → Mem → Prop), Wp d 158 9 (v0 :: v1 :: .int x :: L) [.ref a] M Q ↔ Wp d 158 10 (v0 :: v1 :: .int x :: L) [.int x, .ref a] M Q) ∧
    (∀ (d : Nat) (a : Int32) (b : Nat) (L : List Value) (M : Mem) (Q : Option Value → Mem → Prop), Wp (d + 1) 158 10 L [.int a, .ref b] M Q ↔ (isK b 12 = true ∧ Wp d 141 0 [.ref b, .int a] [] M (fun r M2 => Wp (d + 1) 158 13 L (r.toList ++ []) M2 Q))) ∧
    (∀ (d : Nat) (a : Int32) (L : List Value) (M : Mem) (Q : Option Value → Mem → Prop), Wp d 158 13 L [.int a] M Q ↔ (if a = 0 then Wp d 158 21 L [] M Q else Wp d 158 16 L [] M Q)) ∧
    (∀ (d : Nat) (v0 : Value) (x : Int32) (L : List Value) (M : Mem) (Q : Option Value → Mem → Prop), Wp d 158 16 (v0 :: .int x :: L) [] M Q ↔ Wp d 158 17 (v0 :: .int x :: L) [.int x] M Q) ∧
    (∀ (d : Nat) (a : Int32) (v0 : Value) (v1 : Value) (x : Int32) (L : List Value) (M : Mem) (Q : Option Value → Mem → Prop), Wp d 158 17 (v0 :: v1 :: .int x :: L) [.int a] M Q ↔ Wp d 158 18 (v0 :: v1 :: .int x :: L) [.int x, .int a] M Q) ∧
    (∀ (d : Nat) (a : Int32) (b : Int32) (L : List Value) (M : Mem) (Q : Option Value → Mem → Prop), Wp d 158 18 L [.int a, .int b] M Q ↔ (if b = a then Wp d 158 21 L [] M Q else Wp d 158 24 L [] M Q)) ∧
    (∀ (d : Nat) (L : List Value) (M : Mem) (Q : Option Value → Mem → Prop), Wp d 158 21 L [] M Q ↔ Wp d 158 23 L [.int (-1000000001)] M Q) ∧
    (∀ (d : Nat) (a : Int32) (L : List Value) (M : Mem) (Q : Option Value → Mem → Prop), Wp d 158 23 L [.int a] M Q ↔ Q (some (.int a)) M) ∧
    (∀ (d : Nat) (v0 : Value) (v1 : Value) (v2 : Value) (x : Int32) (L : List Value) (M : Mem) (Q : Option Value → Mem → Prop), Wp d 158 24 (v0 :: v1 :: v2 :: .int x :: L) [] M Q ↔ Wp d 158 25 (v0 :: v1 :: v2 :: .int x :: L) [.int x] M Q) ∧
    (∀ (d : Nat) (a : Int32) (L : List Value) (M : Mem) (Q : Option Value → Mem → Prop), Wp d 158 25 L [.int a] M Q ↔ Wp d 158 26 L [.long a.toInt64] M Q) ∧
    (∀ (d : Nat) (a : Int64) (L : List Value) (M : Mem) (Q : Option Value → Mem → Prop), Wp d 158 26 L [.long a] M Q ↔ Wp d 158 27 L [.long 1, .long a] M Q) ∧
    (∀ (d : Nat) (a : Int64) (b : Int64) (L : List Value) (M : Mem) (Q : Option Value → Mem → Prop), Wp d 158 27 L [.long a, .long b] M Q ↔ Wp d 158 30 L [.long 999, .long a, .long b] M Q) ∧
    (∀ (d : Nat) (a : Int64) (b : Int64) (c : Int64) (L : List Value) (M : Mem) (Q : Option Value → Mem → Prop), Wp (d + 1) 158 30 L [.long a, .long b, .long c] M Q ↔ Wp d 112 0 [.long c, .null, .long b, .null, .long a, .null] [] M (fun r M2 => Wp (d + 1) 158 33 L (r.toList ++ []) M2 Q)) ∧
    (∀ (d : Nat) (a : Int32) (L : List Value) (M : Mem) (Q : Option Value → Mem → Prop), Wp d 158 33 L [.int a] M Q ↔ (if a = 0 then Wp d 158 36 L [] M Q else Wp d 158 39 L [] M Q)) ∧
    (∀ (d : Nat) (L : List Value) (M : Mem) (Q : Option Value → Mem → Prop), Wp d 158 36 L [] M Q ↔ Wp d 158 38 L [.int (-1000000002)] M Q) ∧
    (∀ (d : Nat) (a : Int32) (L : List Value) (M : Mem) (Q : Option Value → Mem → Prop), Wp d 158 38 L [.int a] M Q ↔ Q (some (.int a)) M) ∧
    (∀ (d : Nat) (x : Nat) (L : List Value) (M : Mem) (Q : Option Value → Mem → Prop), Wp d 158 39 (.ref x :: L) [] M Q ↔ Wp d 158 40 (.ref x :: L) [.ref x] M Q) ∧
    (∀ (d : Nat) (a : Nat) (v0 : Value) (x : Int32) (L : List Value) (M : Mem) (Q : Option Value → Mem → Prop), Wp d 158 40 (v0 :: .int x :: L) [.ref a] M Q ↔ Wp d 158 41 (v0 :: .int x :: L) [.int x, .ref a] M Q) ∧
    (∀ (d : Nat) (a : Int32) (b : Nat) (v0 : Value) (v1 : Value) (x : Int32) (L : List Value) (M : Mem) (Q : Option Value → Mem → Prop), Wp d 158 41 (v0 :: v1 :: .int x :: L) [.int a, .ref b] M Q ↔ Wp d 158 42 (v0 :: v1 :: .int x :: L) [.int x, .int a, .ref b] M Q) ∧
    (∀ (d : Nat) (a : Int32) (b : Int32) (c : Nat) (v0 : Value) (v1 : Value) (v2 : Value) (x : Int32) (L : List Value) (M : Mem) (Q : Option Value → Mem → Prop), Wp d 158 42 (v0 :: v1 :: v2 :: .int x :: L) [.int a, .int b, .ref c] M Q ↔ Wp d 158 43 (v0 :: v1 :: v2 :: .int x :: L) [.int x, .int a, .int b, .ref c] M Q) ∧
    (∀ (d : Nat) (a : Int32) (b : Int32) (c : Int32) (d2 : Nat) (L : List Value) (M : Mem) (Q : Option Value → Mem → Prop), Wp (d + 1) 158 43 L [.int a, .int b, .int c, .ref d2] M Q ↔ (isK d2 12 = true ∧ Wp d 159 0 [.ref d2, .int c, .int b, .int a] [] M (fun r M2 => Wp (d + 1) 158 46 L (r.toList ++ []) M2 Q))) ∧
    (∀ (d : Nat) (a : Int32) (L : List Value) (M : Mem) (Q : Option Value → Mem → Prop), Wp d 158 46 L [.int a] M Q ↔ (if a = 0 then Wp d 158 49 L [] M Q else Wp d 158 52 L [] M Q)) ∧
    (∀ (d : Nat) (L : List Value) (M : Mem) (Q : Option Value → Mem → Prop), Wp d 158 49 L [] M Q ↔ Wp d 158 51 L [.int (-1000000003)] M Q) ∧
    (∀ (d : Nat) (a : Int32) (L : List Value) (M : Mem) (Q : Option Value → Mem → Prop), Wp d 158 51 L [.int a] M Q ↔ Q (some (.int a)) M) ∧
    (∀ (d : Nat) (x : Nat) (L : List Value) (M : Mem) (Q : Option Value → Mem → Prop), Wp d 158 52 (.ref x :: L) [] M Q ↔ Wp d 158 53 (.ref x :: L) [.ref x] M Q) ∧
    (∀ (d : Nat) (a : Nat) (v0 : Value) (x : Int32) (L : List Value) (M : Mem) (Q : Option Value → Mem → Prop), Wp d 158 53 (v0 :: .int x :: L) [.ref a] M Q ↔ Wp d 158 54 (v0 :: .int x :: L) [.int x, .ref a] M Q) ∧
    (∀ (d : Nat) (a : Int32) (b : Nat) (v0 : Value) (v1 : Value) (x : Int32) (L : List Value) (M : Mem) (Q : Option Value → Mem → Prop), Wp d 158 54 (v0 :: v1 :: .int x :: L) [.int a, .ref b] M Q ↔ Wp d 158 55 (v0 :: v1 :: .int x :: L) [.int x, .int a, .ref b] M Q) ∧
    (∀ (d : Nat) (a : Int32) (b : Int32) (c : Nat) (v0 : Value) (v1 : Value) (v2 : Value) (x : Int32) (L : List Value) (M : Mem) (Q : Option Value → Mem → Prop), Wp d 158 55 (v0 :: v1 :: v2 :: .int x :: L) [.int a, .int b, .ref c] M Q ↔ Wp d 158 56 (v0 :: v1 :: v2 :: .int x :: L) [.int x, .int a, .int b, .ref c] M Q) ∧
    (∀ (d : Nat) (a : Int32) (b : Int32) (c : Int32) (d2 : Nat) (L : List Value) (M : Mem) (Q : Option Value → Mem → Prop), Wp (d + 1) 158 56 L [.int a, .int b, .int c, .ref d2] M Q ↔ (isK d2 12 = true ∧ Wp d 160 0 [.ref d2, .int c, .int b, .int a] [] M (fun r M2 => Wp (d + 1) 158 59 L (r.toList ++ []) M2 Q))) ∧
    (∀ (d : Nat) (a : Int32) (L : List Value) (M : Mem) (Q : Option Value → Mem → Prop), Wp d 158 59 L [.int a] M Q ↔ (if a = 0 then Wp d 158 65 L [] M Q else Wp d 158 62 L [] M Q)) ∧
    (∀ (d : Nat) (L : List Value) (M : Mem) (Q : Option Value → Mem → Prop), Wp d 158 62 L [] M Q ↔ Wp d 158 64 L [.int (-1000000004)] M Q) ∧
    (∀ (d : Nat) (a : Int32) (L : List Value) (M : Mem) (Q : Option Value → Mem → Prop), Wp d 158 64 L [.int a] M Q ↔ Q (some (.int a)) M) ∧
    (∀ (d : Nat) (x : Nat) (L : List Value) (M : Mem) (Q : Option Value → Mem → Prop), Wp d 158 65 (.ref x :: L) [] M Q ↔ Wp d 158 66 (.ref x :: L) [.ref x] M Q) ∧
    (∀ (d : Nat) (a : Nat) (L : List Value) (M : Mem) (Q : Option Value → Mem → Prop), Wp (d + 1) 158 66 L [.ref a] M Q ↔ (isK a 12 = true ∧ Wp d 148 0 [.ref a, .null] [] M (fun r M2 => Wp (d + 1) 158 69 L (r.toList ++ []) M2 Q))) ∧
    (∀ (d : Nat) (x : Nat) (L : List Value) (M : Mem) (Q : Option Value → Mem → Prop), Wp d 158 69 (.ref x :: L) [] M Q ↔ Wp d 158 70 (.ref x :: L) [.ref x] M Q) ∧
    (∀ (d : Nat) (a : Nat) (v0 : Value) (x : Int32) (L : List Value) (M : Mem) (Q : Option Value → Mem → Prop), Wp d 158 70 (v0 :: .int x :: L) [.ref a] M Q ↔ Wp d 158 71 (v0 :: .int x :: L) [.int x, .ref a] M Q) ∧
    (∀ (d : Nat) (a : Int32) (b : Nat) (v0 : Value) (v1 : Value) (x : Int32) (L : List Value) (M : Mem) (Q : Option Value → Mem → Prop), Wp d 158 71 (v0 :: v1 :: .int x :: L) [.int a, .ref b] M Q ↔ Wp d 158 72 (v0 :: v1 :: .int x :: L) [.int x, .int a, .ref b] M Q) ∧
    (∀ (d : Nat) (a : Int32) (b : Int32) (c : Nat) (v0 : Value) (v1 : Value) (v2 : Value) (x : Int32) (L : List Value) (M : Mem) (Q : Option Value → Mem → Prop), Wp d 158 72 (v0 :: v1 :: v2 :: .int x :: L) [.int a, .int b, .ref c] M Q ↔ Wp d 158 73 (v0 :: v1 :: v2 :: .int x :: L) [.int x, .int a, .int b, .ref c] M Q) ∧
    (∀ (d : Nat) (a : Int32) (b : Int32) (c : Int32) (d2 : Nat) (L : List Value) (M : Mem) (Q : Option Value → Mem → Prop), Wp (d + 1) 158 73 L [.int a, .int b, .int c, .ref d2] M Q ↔ (isK d2 12 = true ∧ Wp d 161 0 [.ref d2, .int c, .int b, .int a] [] M (fun r M2 => Wp (d + 1) 158 76 L (r.toList ++ []) M2 Q))) ∧
    (∀ (d : Nat) (L : List Value) (M : Mem) (Q : Option Value → Mem → Prop), Wp d 158 76 L [] M Q ↔ Wp d 158 77 L [.int 0] M Q) ∧
    (∀ (d : Nat) (a : Int32) (x : Nat) (L : List Value) (M : Mem) (Q : Option Value → Mem → Prop), Wp d 158 77 (.ref x :: L) [.int a] M Q ↔ Wp d 158 78 (.ref x :: L) [.ref x, .int a] M Q) ∧
    (∀ (d : Nat) (a : Nat) (b : Int32) (L : List Value) (M : Mem) (Q : Option Value → Mem → Prop), Wp d 158 78 L [.ref a, .int b] M Q ↔ (isK a 12 = true ∧ Wp d 158 81 L [.ref (rt a 2), .int b] M Q)) ∧
    (∀ (d : Nat) (a : Nat) (b : Int32) (L : List Value) (M : Mem) (Q : Option Value → Mem → Prop), Wp d 158 81 L [.ref a, .int b] M Q ↔ Wp d 158 83 L [.int 12, .ref a, .int b] M Q) ∧
    (∀ (d : Nat) (a : Int32) (b : Nat) (c : Int32) (L : List Value) (M : Mem) (Q : Option Value → Mem → Prop), Wp d 158 83 L [.int a, .ref b, .int c] M Q ↔ Wp d 158 85 L [.int 6, .int a, .ref b, .int c] M Q) ∧
    (∀ (d : Nat) (a : Int32) (b : Int32) (c : Nat) (d2 : Int32) (v0 : Value) (x : Int32) (L : List Value) (M : Mem) (Q : Option Value → Mem → Prop), Wp d 158 85 (v0 :: .int x :: L) [.int a, .int b, .ref c, .int d2] M Q ↔ Wp d 158 86 (v0 :: .int x :: L) [.int x, .int a, .int b, .ref c, .int d2] M Q) ∧
    (∀ (d : Nat) (a : Int32) (b : Int32) (c : Int32) (d2 : Nat) (e : Int32) (L : List Value) (M : Mem) (Q : Option Value → Mem → Prop), Wp d 158 86 L [.int a, .int b, .int c, .ref d2, .int e] M Q ↔ Wp d 158 87 L [.int (b * a), .int c, .ref d2, .int e] M Q) ∧
    (∀ (d : Nat) (a : Int32) (b : Int32) (c : Nat) (d2 : Int32) (L : List Value) (M : Mem) (Q : Option Value → Mem → Prop), Wp d 158 87 L [.int a, .int b, .ref c, .int d2] M Q ↔ Wp d 158 88 L [.int (b + a), .ref c, .int d2] M Q) ∧
    (∀ (d : Nat) (a : Int32) (b : Nat) (c : Int32) (v0 : Value) (v1 : Value) (x : Int32) (L : List Value) (M : Mem) (Q : Option Value → Mem → Prop), Wp d 158 88 (v0 :: v1 :: .int x :: L) [.int a, .ref b, .int c] M Q ↔ Wp d 158 89 (v0 :: v1 :: .int x :: L) [.int x, .int a, .ref b, .int c] M Q) ∧
    (∀ (d : Nat) (a : Int32) (b : Int32) (c : Nat) (d2 : Int32) (L : List Value) (M : Mem) (Q : Option Value → Mem → Prop), Wp d 158 89 L [.int a, .int b, .ref c, .int d2] M Q ↔ Wp d 158 90 L [.int (b + a), .ref c, .int d2] M Q) ∧
    (∀ (d : Nat) (a : Int32) (b : Nat) (c : Int32) (L : List Value) (M : Mem) (Q : Option Value → Mem → Prop), Wp d 158 90 L [.int a, .ref b, .int c] M Q ↔ ((isR b = true ∧ inr a (lnm M b)) ∧ Wp d 158 91 L [.int (M b a.toNatClampNeg), .int c] M Q)) ∧
    (∀ (d : Nat) (a : Int32) (b : Int32) (L : List Value) (M : Mem) (Q : Option Value → Mem → Prop), Wp (d + 1) 158 91 L [.int a, .int b] M Q ↔ Wp d 134 0 [.int b, .int a] [] M (fun r M2 => Wp (d + 1) 158 94 L (r.toList ++ []) M2 Q)) ∧
    (∀ (d : Nat) (a : Int32) (L : List Value) (M : Mem) (Q : Option Value → Mem → Prop), Wp d 158 94 L [.int a] M Q ↔ Q (some (.int a)) M) := by
  refine ⟨?_, ?_, ?_, ?_, ?_, ?_, ?_, ?_, ?_, ?_, ?_, ?_, ?_, ?_, ?_, ?_, ?_, ?_, ?_, ?_, ?_, ?_, ?_, ?_, ?_, ?_, ?_, ?_, ?_, ?_, ?_, ?_, ?_, ?_, ?_, ?_, ?_, ?_, ?_, ?_, ?_, ?_, ?_, ?_, ?_, ?_, ?_, ?_, ?_, ?_, ?_, ?_, ?_, ?_, ?_, ?_, ?_⟩
  · intro d x L M Q; exact Wp_sim (by decide +kernel : decode (cd 158) 0 = .ok (.aload_n 0, 1)) rfl rfl
  · intro d a v0 x L M Q; exact Wp_sim (by decide +kernel : decode (cd 158) 1 = .ok (.iload_n 1, 1)) rfl rfl
  · intro d a b L M Q; exact q_invV (pz := 1053) (n := 1) (c := 12) (m := 2) (k := b) (As := [.int a]) (rest := []) (by decide +kernel : decode (cd 158) 2 = .ok (.invokevirtual 183, 3)) (by decide +kernel) (by decide +kernel) rfl rfl (Nat.le_of_ble_eq_true rfl) (Nat.le_of_ble_eq_true rfl) rfl
  · intro d a L M Q; exact q_zeq (by decide +kernel : decode (cd 158) 5 = .ok (.ifCond .eq 16, 3)) (by decide)
  · intro d x L M Q; exact Wp_sim (by decide +kernel : decode (cd 158) 8 = .ok (.aload_n 0, 1)) rfl rfl
  · intro d a v0 v1 x L M Q; exact Wp_sim (by decide +kernel : decode (cd 158) 9 = .ok (.iload_n 2, 1)) rfl rfl
  · intro d a b L M Q; exact q_invV (pz := 1053) (n := 1) (c := 12) (m := 2) (k := b) (As := [.int a]) (rest := []) (by decide +kernel : decode (cd 158) 10 = .ok (.invokevirtual 183, 3)) (by decide +kernel) (by decide +kernel) rfl rfl (Nat.le_of_ble_eq_true rfl) (Nat.le_of_ble_eq_true rfl) rfl
  · intro d a L M Q; exact q_zeq (by decide +kernel : decode (cd 158) 13 = .ok (.ifCond .eq 8, 3)) (by decide)
  · intro d v0 x L M Q; exact Wp_sim (by decide +kernel : decode (cd 158) 16 = .ok (.iload_n 1, 1)) rfl rfl
  · intro d a v0 v1 x L M Q; exact Wp_sim (by decide +kernel : decode (cd 158) 17 = .ok (.iload_n 2, 1)) rfl rfl
  · intro d a b L M Q; exact q_ine (by decide +kernel : decode (cd 158) 18 = .ok (.if_icmp .ne 6, 3)) (by decide)
  · intro d L M Q; exact q_ldc (p := 1043) (by decide +kernel : decode (cd 158) 21 = .ok (.ldc 180, 2)) (by decide +kernel)
  · intro d a L M Q; exact q_iret (by decide +kernel : decode (cd 158) 23 = .ok (.ireturn , 1)) (by decide +kernel)
  · intro d v0 v1 v2 x L M Q; exact Wp_sim (by decide +kernel : decode (cd 158) 24 = .ok (.iload_n 3, 1)) rfl rfl
  · intro d a L M Q; exact Wp_sim (by decide +kernel : decode (cd 158) 25 = .ok (.i2l , 1)) rfl rfl
  · intro d a L M Q; exact Wp_sim (by decide +kernel : decode (cd 158) 26 = .ok (.lconst 1, 1)) rfl rfl
  · intro d a b L M Q; exact q_ldc2 (p := 1128) (by decide +kernel : decode (cd 158) 27 = .ok (.ldc2_w 219, 3)) (by decide +kernel)
  · intro d a b c L M Q; exact q_invS (pz := 937) (n := 3) (m := 6) (As := [.long c, .long b, .long a]) (rest := []) (by decide +kernel : decode (cd 158) 30 = .ok (.invokestatic 75, 3)) (by decide +kernel) (by decide +kernel) (by decide +kernel) rfl rfl (Nat.le_of_ble_eq_true rfl) (Nat.le_of_ble_eq_true rfl) rfl
  · intro d a L M Q; exact q_zne (by decide +kernel : decode (cd 158) 33 = .ok (.ifCond .ne 6, 3)) (by decide)
  · intro d L M Q; exact q_ldc (p := 940) (by decide +kernel : decode (cd 158) 36 = .ok (.ldc 79, 2)) (by decide +kernel)
  · intro d a L M Q; exact q_iret (by decide +kernel : decode (cd 158) 38 = .ok (.ireturn , 1)) (by decide +kernel)
  · intro d x L M Q; exact Wp_sim (by decide +kernel : decode (cd 158) 39 = .ok (.aload_n 0, 1)) rfl rfl
  · intro d a v0 x L M Q; exact Wp_sim (by decide +kernel : decode (cd 158) 40 = .ok (.iload_n 1, 1)) rfl rfl
  · intro d a b v0 v1 x L M Q; exact Wp_sim (by decide +kernel : decode (cd 158) 41 = .ok (.iload_n 2, 1)) rfl rfl
  · intro d a b c v0 v1 v2 x L M Q; exact Wp_sim (by decide +kernel : decode (cd 158) 42 = .ok (.iload_n 3, 1)) rfl rfl
  · intro d a b c d2 L M Q; exact q_invV (pz := 1129) (n := 3) (c := 12) (m := 4) (k := d2) (As := [.int c, .int b, .int a]) (rest := []) (by decide +kernel : decode (cd 158) 43 = .ok (.invokevirtual 221, 3)) (by decide +kernel) (by decide +kernel) rfl rfl (Nat.le_of_ble_eq_true rfl) (Nat.le_of_ble_eq_true rfl) rfl
  · intro d a L M Q; exact q_zne (by decide +kernel : decode (cd 158) 46 = .ok (.ifCond .ne 6, 3)) (by decide)
  · intro d L M Q; exact q_ldc (p := 1083) (by decide +kernel : decode (cd 158) 49 = .ok (.ldc 200, 2)) (by decide +kernel)
  · intro d a L M Q; exact q_iret (by decide +kernel : decode (cd 158) 51 = .ok (.ireturn , 1)) (by decide +kernel)
  · intro d x L M Q; exact Wp_sim (by decide +kernel : decode (cd 158) 52 = .ok (.aload_n 0, 1)) rfl rfl
  · intro d a v0 x L M Q; exact Wp_sim (by decide +kernel : decode (cd 158) 53 = .ok (.iload_n 1, 1)) rfl rfl
  · intro d a b v0 v1 x L M Q; exact Wp_sim (by decide +kernel : decode (cd 158) 54 = .ok (.iload_n 2, 1)) rfl rfl
  · intro d a b c v0 v1 v2 x L M Q; exact Wp_sim (by decide +kernel : decode (cd 158) 55 = .ok (.iload_n 3, 1)) rfl rfl
  · intro d a b c d2 L M Q; exact q_invV (pz := 1133) (n := 3) (c := 12) (m := 4) (k := d2) (As := [.int c, .int b, .int a]) (rest := []) (by decide +kernel : decode (cd 158) 56 = .ok (.invokevirtual 224, 3)) (by decide +kernel) (by decide +kernel) rfl rfl (Nat.le_of_ble_eq_true rfl) (Nat.le_of_ble_eq_true rfl) rfl
  · intro d a L M Q; exact q_zeq (by decide +kernel : decode (cd 158) 59 = .ok (.ifCond .eq 6, 3)) (by decide)
  · intro d L M Q; exact q_ldc (p := 941) (by decide +kernel : decode (cd 158) 62 = .ok (.ldc 83, 2)) (by decide +kernel)
  · intro d a L M Q; exact q_iret (by decide +kernel : decode (cd 158) 64 = .ok (.ireturn , 1)) (by decide +kernel)
  · intro d x L M Q; exact Wp_sim (by decide +kernel : decode (cd 158) 65 = .ok (.aload_n 0, 1)) rfl rfl
  · intro d a L M Q; exact q_invV (pz := 1084) (n := 0) (c := 12) (m := 2) (k := a) (As := []) (rest := []) (by decide +kernel : decode (cd 158) 66 = .ok (.invokevirtual 204, 3)) (by decide +kernel) (by decide +kernel) rfl rfl (Nat.le_of_ble_eq_true rfl) (Nat.le_of_ble_eq_true rfl) rfl
  · intro d x L M Q; exact Wp_sim (by decide +kernel : decode (cd 158) 69 = .ok (.aload_n 0, 1)) rfl rfl
  · intro d a v0 x L M Q; exact Wp_sim (by decide +kernel : decode (cd 158) 70 = .ok (.iload_n 1, 1)) rfl rfl
  · intro d a b v0 v1 x L M Q; exact Wp_sim (by decide +kernel : decode (cd 158) 71 = .ok (.iload_n 2, 1)) rfl rfl
  · intro d a b c v0 v1 v2 x L M Q; exact Wp_sim (by decide +kernel : decode (cd 158) 72 = .ok (.iload_n 3, 1)) rfl rfl
  · intro d a b c d2 L M Q; exact q_invV (pz := 1137) (n := 3) (c := 12) (m := 4) (k := d2) (As := [.int c, .int b, .int a]) (rest := []) (by decide +kernel : decode (cd 158) 73 = .ok (.invokevirtual 227, 3)) (by decide +kernel) (by decide +kernel) rfl rfl (Nat.le_of_ble_eq_true rfl) (Nat.le_of_ble_eq_true rfl) rfl
  · intro d L M Q; exact Wp_sim (by decide +kernel : decode (cd 158) 76 = .ok (.iconst 0, 1)) rfl rfl
  · intro d a x L M Q; exact Wp_sim (by decide +kernel : decode (cd 158) 77 = .ok (.aload_n 0, 1)) rfl rfl
  · intro d a b L M Q; exact q_getR (p := 845) (by decide +kernel : decode (cd 158) 78 = .ok (.getfield 16, 3)) (by decide +kernel) (by decide +kernel)
  · intro d a b L M Q; exact Wp_sim (by decide +kernel : decode (cd 158) 81 = .ok (.bipush 12, 2)) rfl rfl
  · intro d a b c L M Q; exact Wp_sim (by decide +kernel : decode (cd 158) 83 = .ok (.bipush 6, 2)) rfl rfl
  · intro d a b c d2 v0 x L M Q; exact Wp_sim (by decide +kernel : decode (cd 158) 85 = .ok (.iload_n 1, 1)) rfl rfl
  · intro d a b c d2 e L M Q; exact Wp_sim (by decide +kernel : decode (cd 158) 86 = .ok (.imul , 1)) rfl rfl
  · intro d a b c d2 L M Q; exact Wp_sim (by decide +kernel : decode (cd 158) 87 = .ok (.iadd , 1)) rfl rfl
  · intro d a b c v0 v1 x L M Q; exact Wp_sim (by decide +kernel : decode (cd 158) 88 = .ok (.iload_n 2, 1)) rfl rfl
  · intro d a b c d2 L M Q; exact Wp_sim (by decide +kernel : decode (cd 158) 89 = .ok (.iadd , 1)) rfl rfl
  · intro d a b c L M Q; exact q_ald (by decide +kernel : decode (cd 158) 90 = .ok (.iaload , 1))
  · intro d a b L M Q; exact q_invS (pz := 1024) (n := 2) (m := 2) (As := [.int b, .int a]) (rest := []) (by decide +kernel : decode (cd 158) 91 = .ok (.invokestatic 61, 3)) (by decide +kernel) (by decide +kernel) (by decide +kernel) rfl rfl (Nat.le_of_ble_eq_true rfl) (Nat.le_of_ble_eq_true rfl) rfl
  · intro d a L M Q; exact q_iret (by decide +kernel : decode (cd 158) 94 = .ok (.ireturn , 1)) (by decide +kernel)

/- 159: PalaceYardModel.mayLend -/
set_option maxRecDepth 10000 in
theorem e159 : (∀ (d : Nat) (v0 : Value) (x : Int32) (L : List Value) (M : Mem) (Q : Option Value → Mem → Prop), Wp d 159 0 (v0 :: .int x :: L) [] M Q ↔ Wp d 159 1 (v0 :: .int x :: L) [.int x] M Q) ∧
    (∀ (d : Nat) (a : Int32) (v0 : Value) (v1 : Value) (x : Int32) (L : List Value) (M : Mem) (Q : Option Value → Mem → Prop), Wp d 159 1 (v0 :: v1 :: .int x :: L) [.int a] M Q ↔ Wp d 159 2 (v0 :: v1 :: .int x :: L) [.int x, .int a] M Q) ∧
    (∀ (d : Nat) (a : Int32) (b : Int32) (L : List Value) (M : Mem) (Q : Option Value → Mem → Prop), Wp d 159 2 L [.int a, .int b] M Q ↔ (if b = a then Wp d 159 46 L [] M Q else Wp d 159 5 L [] M Q)) ∧
    (∀ (d : Nat) (x : Nat) (L : List Value) (M : Mem) (Q : Option Value → Mem → Prop), Wp d 159 5 (.ref x :: L) [] M Q ↔ Wp d 159 6 (.ref x :: L) [.ref x] M Q) ∧
    (∀ (d : Nat) (a : Nat) (L : List Value) (M : Mem) (Q : Option Value → Mem → Prop), Wp d 159 6 L [.ref a] M Q ↔ (isK a 12 = true ∧ Wp d 159 9 L [.ref (rt a 2)] M Q)) ∧
    (∀ (d : Nat) (a : Nat) (L : List Value) (M : Mem) (Q : Option Value → Mem → Prop), Wp d 159 9 L [.ref a] M Q ↔ Wp d 159 10 L [.int 0, .ref a] M Q) ∧
    (∀ (d : Nat) (a : Int32) (b : Nat) (v0 : Value) (x : Int32) (L : List Value) (M : Mem) (Q : Option Value → Mem → Prop), Wp d 159 10 (v0 :: .int x :: L) [.int a, .ref b] M Q ↔ Wp d 159 11 (v0 :: .int x :: L) [.int x, .int a, .ref b] M Q) ∧
    (∀ (d : Nat) (a : Int32) (b : Int32) (c : Nat) (L : List Value) (M : Mem) (Q : Option Value → Mem → Prop), Wp d 159 11 L [.int a, .int b, .ref c] M Q ↔ Wp d 159 12 L [.int (b + a), .ref c] M Q) ∧
    (∀ (d : Nat) (a : Int32) (b : Nat) (L : List Value) (M : Mem) (Q : Option Value → Mem → Prop), Wp d 159 12 L [.int a, .ref b] M Q ↔ ((isR b = true ∧ inr a (lnm M b)) ∧ Wp d 159 13 L [.int (M b a.toNatClampNeg)] M Q)) ∧
    (∀ (d : Nat) (a : Int32) (L : List Value) (M : Mem) (Q : Option Value → Mem → Prop), Wp d 159 13 L [.int a] M Q ↔ Wp d 159 14 L [.int 1, .int a] M Q) ∧
    (∀ (d : Nat) (a : Int32) (b : Int32) (L : List Value) (M : Mem) (Q : Option Value → Mem → Prop), Wp d 159 14 L [.int a, .int b] M Q ↔ (if b = a then Wp d 159 17 L [] M Q else Wp d 159 46 L [] M Q)) ∧
    (∀ (d : Nat) (x : Nat) (L : List Value) (M : Mem) (Q : Option Value → Mem → Prop), Wp d 159 17 (.ref x :: L) [] M Q ↔ Wp d 159 18 (.ref x :: L) [.ref x] M Q) ∧
    (∀ (d : Nat) (a : Nat) (L : List Value) (M : Mem) (Q : Option Value → Mem → Prop), Wp d 159 18 L [.ref a] M Q ↔ (isK a 12 = true ∧ Wp d 159 21 L [.ref (rt a 2)] M Q)) ∧
    (∀ (d : Nat) (a : Nat) (L : List Value) (M : Mem) (Q : Option Value → Mem → Prop), Wp d 159 21 L [.ref a] M Q ↔ Wp d 159 22 L [.int 0, .ref a] M Q) ∧
    (∀ (d : Nat) (a : Int32) (b : Nat) (v0 : Value) (v1 : Value) (x : Int32) (L : List Value) (M : Mem) (Q : Option Value → Mem → Prop), Wp d 159 22 (v0 :: v1 :: .int x :: L) [.int a, .ref b] M Q ↔ Wp d 159 23 (v0 :: v1 :: .int x :: L) [.int x, .int a, .ref b] M Q) ∧
    (∀ (d : Nat) (a : Int32) (b : Int32) (c : Nat) (L : List Value) (M : Mem) (Q : Option Value → Mem → Prop), Wp d 159 23 L [.int a, .int b, .ref c] M Q ↔ Wp d 159 24 L [.int (b + a), .ref c] M Q) ∧
    (∀ (d : Nat) (a : Int32) (b : Nat) (L : List Value) (M : Mem) (Q : Option Value → Mem → Prop), Wp d 159 24 L [.int a, .ref b] M Q ↔ ((isR b = true ∧ inr a (lnm M b)) ∧ Wp d 159 25 L [.int (M b a.toNatClampNeg)] M Q)) ∧
    (∀ (d : Nat) (a : Int32) (L : List Value) (M : Mem) (Q : Option Value → Mem → Prop), Wp d 159 25 L [.int a] M Q ↔ Wp d 159 26 L [.int 1, .int a] M Q) ∧
    (∀ (d : Nat) (a : Int32) (b : Int32) (L : List Value) (M : Mem) (Q : Option Value → Mem → Prop), Wp d 159 26 L [.int a, .int b] M Q ↔ (if b = a then Wp d 159 29 L [] M Q else Wp d 159 46 L [] M Q)) ∧
    (∀ (d : Nat) (x : Nat) (L : List Value) (M : Mem) (Q : Option Value → Mem → Prop), Wp d 159 29 (.ref x :: L) [] M Q ↔ Wp d 159 30 (.ref x :: L) [.ref x] M Q) ∧
    (∀ (d : Nat) (a : Nat) (L : List Value) (M : Mem) (Q : Option Value → Mem → Prop), Wp d 159 30 L [.ref a] M Q ↔ (isK a 12 = true ∧ Wp d 159 33 L [.ref (rt a 2)] M Q)) ∧
    (∀ (d : Nat) (a : Nat) (L : List Value) (M : Mem) (Q : Option Value → Mem → Prop), Wp d 159 33 L [.ref a] M Q ↔ Wp d 159 35 L [.int 6, .ref a] M Q) ∧
    (∀ (d : Nat) (a : Int32) (b : Nat) (v0 : Value) (x : Int32) (L : List Value) (M : Mem) (Q : Option Value → Mem → Prop), Wp d 159 35 (v0 :: .int x :: L) [.int a, .ref b] M Q ↔ Wp d 159 36 (v0 :: .int x :: L) [.int x, .int a, .ref b] M Q) ∧
    (∀ (d : Nat) (a : Int32) (b : Int32) (c : Nat) (L : List Value) (M : Mem) (Q : Option Value → Mem → Prop), Wp d 159 36 L [.int a, .int b, .ref c] M Q ↔ Wp d 159 37 L [.int (b + a), .ref c] M Q) ∧
    (∀ (d : Nat) (a : Int32) (b : Nat) (L : List Value) (M : Mem) (Q : Option Value → Mem → Prop), Wp d 159 37 L [.int a, .ref b] M Q ↔ ((isR b = true ∧ inr a (lnm M b)) ∧ Wp d 159 38 L [.int (M b a.toNatClampNeg)] M Q)) ∧
    (∀ (d : Nat) (a : Int32) (v0 : Value) (v1 : Value) (v2 : Value) (x : Int32) (L : List Value) (M : Mem) (Q : Option Value → Mem → Prop), Wp d 159 38 (v0 :: v1 :: v2 :: .int x :: L) [.int a] M Q ↔ Wp d 159 39 (v0 :: v1 :: v2 :: .int x :: L) [.int x, .int a] M Q) ∧
    (∀ (d : Nat) (a : Int32) (b : Int32) (L : List Value) (M : Mem) (Q : Option Value → Mem → Prop), Wp d 159 39 L [.int a, .int b] M Q ↔ (if b < a then Wp d 159 46 L [] M Q else Wp d 159 42 L [] M Q)) ∧
    (∀ (d : Nat) (L : List Value) (M : Mem) (Q : Option Value → Mem → Prop), Wp d 159 42 L [] M Q ↔ Wp d 159 43 L [.int 1] M Q) ∧
    (∀ (d : Nat) (a : Int32) (L : List Value) (M : Mem) (Q : Option Value → Mem → Prop), Wp d 159 43 L [.int a] M Q ↔ Wp d 159 47 L [.int a] M Q) ∧
    (∀ (d : Nat) (L : List Value) (M : Mem) (Q : Option Value → Mem → Prop), Wp d 159 46 L [] M Q ↔ Wp d 159 47 L [.int 0] M Q) ∧
    (∀ (d : Nat) (a : Int32) (L : List Value) (M : Mem) (Q : Option Value → Mem → Prop), Wp d 159 47 L [.int a] M Q ↔ ((a = 0 ∨ a = 1) ∧ Q (some (.int a)) M)) := by
  refine ⟨?_, ?_, ?_, ?_, ?_, ?_, ?_, ?_, ?_, ?_, ?_, ?_, ?_, ?_, ?_, ?_, ?_, ?_, ?_, ?_, ?_, ?_, ?_, ?_, ?_, ?_, ?_, ?_, ?_, ?_, ?_⟩
  · intro d v0 x L M Q; exact Wp_sim (by decide +kernel : decode (cd 159) 0 = .ok (.iload_n 1, 1)) rfl rfl
  · intro d a v0 v1 x L M Q; exact Wp_sim (by decide +kernel : decode (cd 159) 1 = .ok (.iload_n 2, 1)) rfl rfl
  · intro d a b L M Q; exact q_ieq (by decide +kernel : decode (cd 159) 2 = .ok (.if_icmp .eq 44, 3)) (by decide)
  · intro d x L M Q; exact Wp_sim (by decide +kernel : decode (cd 159) 5 = .ok (.aload_n 0, 1)) rfl rfl
  · intro d a L M Q; exact q_getR (p := 845) (by decide +kernel : decode (cd 159) 6 = .ok (.getfield 16, 3)) (by decide +kernel) (by decide +kernel)
  · intro d a L M Q; exact Wp_sim (by decide +kernel : decode (cd 159) 9 = .ok (.iconst 0, 1)) rfl rfl
  · intro d a b v0 x L M Q; exact Wp_sim (by decide +kernel : decode (cd 159) 10 = .ok (.iload_n 1, 1)) rfl rfl
  · intro d a b c L M Q; exact Wp_sim (by decide +kernel : decode (cd 159) 11 = .ok (.iadd , 1)) rfl rfl
  · intro d a b L M Q; exact q_ald (by decide +kernel : decode (cd 159) 12 = .ok (.iaload , 1))
  · intro d a L M Q; exact Wp_sim (by decide +kernel : decode (cd 159) 13 = .ok (.iconst 1, 1)) rfl rfl
  · intro d a b L M Q; exact q_ine (by decide +kernel : decode (cd 159) 14 = .ok (.if_icmp .ne 32, 3)) (by decide)
  · intro d x L M Q; exact Wp_sim (by decide +kernel : decode (cd 159) 17 = .ok (.aload_n 0, 1)) rfl rfl
  · intro d a L M Q; exact q_getR (p := 845) (by decide +kernel : decode (cd 159) 18 = .ok (.getfield 16, 3)) (by decide +kernel) (by decide +kernel)
  · intro d a L M Q; exact Wp_sim (by decide +kernel : decode (cd 159) 21 = .ok (.iconst 0, 1)) rfl rfl
  · intro d a b v0 v1 x L M Q; exact Wp_sim (by decide +kernel : decode (cd 159) 22 = .ok (.iload_n 2, 1)) rfl rfl
  · intro d a b c L M Q; exact Wp_sim (by decide +kernel : decode (cd 159) 23 = .ok (.iadd , 1)) rfl rfl
  · intro d a b L M Q; exact q_ald (by decide +kernel : decode (cd 159) 24 = .ok (.iaload , 1))
  · intro d a L M Q; exact Wp_sim (by decide +kernel : decode (cd 159) 25 = .ok (.iconst 1, 1)) rfl rfl
  · intro d a b L M Q; exact q_ine (by decide +kernel : decode (cd 159) 26 = .ok (.if_icmp .ne 20, 3)) (by decide)
  · intro d x L M Q; exact Wp_sim (by decide +kernel : decode (cd 159) 29 = .ok (.aload_n 0, 1)) rfl rfl
  · intro d a L M Q; exact q_getR (p := 845) (by decide +kernel : decode (cd 159) 30 = .ok (.getfield 16, 3)) (by decide +kernel) (by decide +kernel)
  · intro d a L M Q; exact Wp_sim (by decide +kernel : decode (cd 159) 33 = .ok (.bipush 6, 2)) rfl rfl
  · intro d a b v0 x L M Q; exact Wp_sim (by decide +kernel : decode (cd 159) 35 = .ok (.iload_n 1, 1)) rfl rfl
  · intro d a b c L M Q; exact Wp_sim (by decide +kernel : decode (cd 159) 36 = .ok (.iadd , 1)) rfl rfl
  · intro d a b L M Q; exact q_ald (by decide +kernel : decode (cd 159) 37 = .ok (.iaload , 1))
  · intro d a v0 v1 v2 x L M Q; exact Wp_sim (by decide +kernel : decode (cd 159) 38 = .ok (.iload_n 3, 1)) rfl rfl
  · intro d a b L M Q; exact q_ilt (by decide +kernel : decode (cd 159) 39 = .ok (.if_icmp .lt 7, 3)) (by decide)
  · intro d L M Q; exact Wp_sim (by decide +kernel : decode (cd 159) 42 = .ok (.iconst 1, 1)) rfl rfl
  · intro d a L M Q; exact q_goto (by decide +kernel : decode (cd 159) 43 = .ok (.goto 4, 3)) (by decide)
  · intro d L M Q; exact Wp_sim (by decide +kernel : decode (cd 159) 46 = .ok (.iconst 0, 1)) rfl rfl
  · intro d a L M Q; exact q_zret (by decide +kernel : decode (cd 159) 47 = .ok (.ireturn , 1)) (by decide +kernel)

/- 160: PalaceYardModel.isTooMuch -/
set_option maxRecDepth 10000 in
theorem e160 : (∀ (d : Nat) (x : Nat) (L : List Value) (M : Mem) (Q : Option Value → Mem → Prop), Wp d 160 0 (.ref x :: L) [] M Q ↔ Wp d 160 1 (.ref x :: L) [.ref x] M Q) ∧
    (∀ (d : Nat) (a : Nat) (L : List Value) (M : Mem) (Q : Option Value → Mem → Prop), Wp d 160 1 L [.ref a] M Q ↔ (isK a 12 = true ∧ Wp d 160 4 L [.ref (rt a 2)] M Q)) ∧
    (∀ (d : Nat) (a : Nat) (L : List Value) (M : Mem) (Q : Option Value → Mem → Prop), Wp d 160 4 L [.ref a] M Q ↔ Wp d 160 6 L [.int 12, .ref a] M Q) ∧
    (∀ (d : Nat) (a : Int32) (b : Nat) (L : List Value) (M : Mem) (Q : Option Value → Mem → Prop), Wp d 160 6 L [.int a, .ref b] M Q ↔ Wp d 160 8 L [.int 6, .int a, .ref b] M Q) ∧
    (∀ (d : Nat) (a : Int32) (b : Int32) (c : Nat) (v0 : Value) (x : Int32) (L : List Value) (M : Mem) (Q : Option Value → Mem → Prop), Wp d 160 8 (v0 :: .int x :: L) [.int a, .int b, .ref c] M Q ↔ Wp d 160 9 (v0 :: .int x :: L) [.int x, .int a, .int b, .ref c] M Q) ∧
    (∀ (d : Nat) (a : Int32) (b : Int32) (c : Int32) (d2 : Nat) (L : List Value) (M : Mem) (Q : Option Value → Mem → Prop), Wp d 160 9 L [.int a, .int b, .int c, .ref d2] M Q ↔ Wp d 160 10 L [.int (b * a), .int c, .ref d2] M Q) ∧
    (∀ (d : Nat) (a : Int32) (b : Int32) (c : Nat) (L : List Value) (M : Mem) (Q : Option Value → Mem → Prop), Wp d 160 10 L [.int a, .int b, .ref c] M Q ↔ Wp d 160 11 L [.int (b + a), .ref c] M Q) ∧
    (∀ (d : Nat) (a : Int32) (b : Nat) (v0 : Value) (v1 : Value) (x : Int32) (L : List Value) (M : Mem) (Q : Option Value → Mem → Prop), Wp d 160 11 (v0 :: v1 :: .int x :: L) [.int a, .ref b] M Q ↔ Wp d 160 12 (v0 :: v1 :: .int x :: L) [.int x, .int a, .ref b] M Q) ∧
    (∀ (d : Nat) (a : Int32) (b : Int32) (c : Nat) (L : List Value) (M : Mem) (Q : Option Value → Mem → Prop), Wp d 160 12 L [.int a, .int b, .ref c] M Q ↔ Wp d 160 13 L [.int (b + a), .ref c] M Q) ∧
    (∀ (d : Nat) (a : Int32) (b : Nat) (L : List Value) (M : Mem) (Q : Option Value → Mem → Prop), Wp d 160 13 L [.int a, .ref b] M Q ↔ ((isR b = true ∧ inr a (lnm M b)) ∧ Wp d 160 14 L [.int (M b a.toNatClampNeg)] M Q)) ∧
    (∀ (d : Nat) (a : Int32) (v0 : Value) (v1 : Value) (v2 : Value) (x : Int32) (L : List Value) (M : Mem) (Q : Option Value → Mem → Prop), Wp d 160 14 (v0 :: v1 :: v2 :: .int x :: L) [.int a] M Q ↔ Wp d 160 15 (v0 :: v1 :: v2 :: .int x :: L) [.int x, .int a] M Q) ∧
    (∀ (d : Nat) (a : Int32) (b : Int32) (L : List Value) (M : Mem) (Q : Option Value → Mem → Prop), Wp d 160 15 L [.int a, .int b] M Q ↔ Wp d 160 16 L [.int (b + a)] M Q) ∧
    (∀ (d : Nat) (a : Int32) (L : List Value) (M : Mem) (Q : Option Value → Mem → Prop), Wp d 160 16 L [.int a] M Q ↔ Wp d 160 19 L [.int 9999, .int a] M Q) ∧
    (∀ (d : Nat) (a : Int32) (b : Int32) (L : List Value) (M : Mem) (Q : Option Value → Mem → Prop), Wp d 160 19 L [.int a, .int b] M Q ↔ (if a < b then Wp d 160 22 L [] M Q else Wp d 160 26 L [] M Q)) ∧
    (∀ (d : Nat) (L : List Value) (M : Mem) (Q : Option Value → Mem → Prop), Wp d 160 22 L [] M Q ↔ Wp d 160 23 L [.int 1] M Q) ∧
    (∀ (d : Nat) (a : Int32) (L : List Value) (M : Mem) (Q : Option Value → Mem → Prop), Wp d 160 23 L [.int a] M Q ↔ Wp d 160 27 L [.int a] M Q) ∧
    (∀ (d : Nat) (L : List Value) (M : Mem) (Q : Option Value → Mem → Prop), Wp d 160 26 L [] M Q ↔ Wp d 160 27 L [.int 0] M Q) ∧
    (∀ (d : Nat) (a : Int32) (L : List Value) (M : Mem) (Q : Option Value → Mem → Prop), Wp d 160 27 L [.int a] M Q ↔ ((a = 0 ∨ a = 1) ∧ Q (some (.int a)) M)) := by
  refine ⟨?_, ?_, ?_, ?_, ?_, ?_, ?_, ?_, ?_, ?_, ?_, ?_, ?_, ?_, ?_, ?_, ?_, ?_⟩
  · intro d x L M Q; exact Wp_sim (by decide +kernel : decode (cd 160) 0 = .ok (.aload_n 0, 1)) rfl rfl
  · intro d a L M Q; exact q_getR (p := 845) (by decide +kernel : decode (cd 160) 1 = .ok (.getfield 16, 3)) (by decide +kernel) (by decide +kernel)
  · intro d a L M Q; exact Wp_sim (by decide +kernel : decode (cd 160) 4 = .ok (.bipush 12, 2)) rfl rfl
  · intro d a b L M Q; exact Wp_sim (by decide +kernel : decode (cd 160) 6 = .ok (.bipush 6, 2)) rfl rfl
  · intro d a b c v0 x L M Q; exact Wp_sim (by decide +kernel : decode (cd 160) 8 = .ok (.iload_n 1, 1)) rfl rfl
  · intro d a b c d2 L M Q; exact Wp_sim (by decide +kernel : decode (cd 160) 9 = .ok (.imul , 1)) rfl rfl
  · intro d a b c L M Q; exact Wp_sim (by decide +kernel : decode (cd 160) 10 = .ok (.iadd , 1)) rfl rfl
  · intro d a b v0 v1 x L M Q; exact Wp_sim (by decide +kernel : decode (cd 160) 11 = .ok (.iload_n 2, 1)) rfl rfl
  · intro d a b c L M Q; exact Wp_sim (by decide +kernel : decode (cd 160) 12 = .ok (.iadd , 1)) rfl rfl
  · intro d a b L M Q; exact q_ald (by decide +kernel : decode (cd 160) 13 = .ok (.iaload , 1))
  · intro d a v0 v1 v2 x L M Q; exact Wp_sim (by decide +kernel : decode (cd 160) 14 = .ok (.iload_n 3, 1)) rfl rfl
  · intro d a b L M Q; exact Wp_sim (by decide +kernel : decode (cd 160) 15 = .ok (.iadd , 1)) rfl rfl
  · intro d a L M Q; exact Wp_sim (by decide +kernel : decode (cd 160) 16 = .ok (.sipush 9999, 3)) rfl rfl
  · intro d a b L M Q; exact q_ile (by decide +kernel : decode (cd 160) 19 = .ok (.if_icmp .le 7, 3)) (by decide)
  · intro d L M Q; exact Wp_sim (by decide +kernel : decode (cd 160) 22 = .ok (.iconst 1, 1)) rfl rfl
  · intro d a L M Q; exact q_goto (by decide +kernel : decode (cd 160) 23 = .ok (.goto 4, 3)) (by decide)
  · intro d L M Q; exact Wp_sim (by decide +kernel : decode (cd 160) 26 = .ok (.iconst 0, 1)) rfl rfl
  · intro d a L M Q; exact q_zret (by decide +kernel : decode (cd 160) 27 = .ok (.ireturn , 1)) (by decide +kernel)

/- 161: PalaceYardModel.moves -/
set_option maxRecDepth 10000 in
theorem e161 : (∀ (d : Nat) (x : Nat) (L : List Value) (M : Mem) (Q : Option Value → Mem → Prop), Wp d 161 0 (.ref x :: L) [] M Q ↔ Wp d 161 1 (.ref x :: L) [.ref x] M Q) ∧
    (∀ (d : Nat) (a : Nat) (L : List Value) (M : Mem) (Q : Option Value → Mem → Prop), Wp d 161 1 L [.ref a] M Q ↔ (isK a 12 = true ∧ Wp d 161 4 L [.ref (rt a 2)] M Q)) ∧
    (∀ (d : Nat) (a : Nat) (L : List Value) (M : Mem) (Q : Option Value → Mem → Prop), Wp d 161 4 L [.ref a] M Q ↔ Wp d 161 6 L [.int 6, .ref a] M Q) ∧
    (∀ (d : Nat) (a : Int32) (b : Nat) (v0 : Value) (x : Int32) (L : List Value) (M : Mem) (Q : Option Value → Mem → Prop), Wp d 161 6 (v0 :: .int x :: L) [.int a, .ref b] M Q ↔ Wp d 161 7 (v0 :: .int x :: L) [.int x, .int a, .ref b] M Q) ∧
    (∀ (d : Nat) (a : Int32) (b : Int32) (c : Nat) (L : List Value) (M : Mem) (Q : Option Value → Mem → Prop), Wp d 161 7 L [.int a, .int b, .ref c] M Q ↔ Wp d 161 8 L [.int (b + a), .ref c] M Q) ∧
    (∀ (d : Nat) (a : Int32) (b : Nat) (L : List Value) (M : Mem) (Q : Option Value → Mem → Prop), Wp d 161 8 L [.int a, .ref b] M Q ↔ Wp d 161 9 L [.int a, .ref b, .int a, .ref b] M Q) ∧
    (∀ (d : Nat) (a : Int32) (b : Nat) (c : Int32) (d2 : Nat) (L : List Value) (M : Mem) (Q : Option Value → Mem → Prop), Wp d 161 9 L [.int a, .ref b, .int c, .ref d2] M Q ↔ ((isR b = true ∧ inr a (lnm M b)) ∧ Wp d 161 10 L [.int (M b a.toNatClampNeg), .int c, .ref d2] M Q)) ∧
    (∀ (d : Nat) (a : Int32) (b : Int32) (c : Nat) (v0 : Value) (v1 : Value) (v2 : Value) (x : Int32) (L : List Value) (M : Mem) (Q : Option Value → Mem → Prop), Wp d 161 10 (v0 :: v1 :: v2 :: .int x :: L) [.int a, .int b, .ref c] M Q ↔ Wp d 161 11 (v0 :: v1 :: v2 :: .int x :: L) [.int x, .int a, .int b, .ref c] M Q) ∧
    (∀ (d : Nat) (a : Int32) (b : Int32) (c : Int32) (d2 : Nat) (L : List Value) (M : Mem) (Q : Option Value → Mem → Prop), Wp d 161 11 L [.int a, .int b, .int c, .ref d2] M Q ↔ Wp d 161 12 L [.int (b - a), .int c, .ref d2] M Q) ∧
    (∀ (d : Nat) (a : Int32) (b : Int32) (c : Nat) (L : List Value) (M : Mem) (Q : Option Value → Mem → Prop), Wp d 161 12 L [.int a, .int b, .ref c] M Q ↔ ((isK c 13 = true ∧ inr b (lnm M c)) ∧ Wp d 161 13 L [] (up2 M c b.toNatClampNeg a) Q)) ∧
    (∀ (d : Nat) (x : Nat) (L : List Value) (M : Mem) (Q : Option Value → Mem → Prop), Wp d 161 13 (.ref x :: L) [] M Q ↔ Wp d 161 14 (.ref x :: L) [.ref x] M Q) ∧
    (∀ (d : Nat) (a : Nat) (L : List Value) (M : Mem) (Q : Option Value → Mem → Prop), Wp d 161 14 L [.ref a] M Q ↔ (isK a 12 = true ∧ Wp d 161 17 L [.ref (rt a 2)] M Q)) ∧
    (∀ (d : Nat) (a : Nat) (L : List Value) (M : Mem) (Q : Option Value → Mem → Prop), Wp d 161 17 L [.ref a] M Q ↔ Wp d 161 19 L [.int 6, .ref a] M Q) ∧
    (∀ (d : Nat) (a : Int32) (b : Nat) (v0 : Value) (v1 : Value) (x : Int32) (L : List Value) (M : Mem) (Q : Option Value → Mem → Prop), Wp d 161 19 (v0 :: v1 :: .int x :: L) [.int a, .ref b] M Q ↔ Wp d 161 20 (v0 :: v1 :: .int x :: L) [.int x, .int a, .ref b] M Q) ∧
    (∀ (d : Nat) (a : Int32) (b : Int32) (c : Nat) (L : List Value) (M : Mem) (Q : Option Value → Mem → Prop), Wp d 161 20 L [.int a, .int b, .ref c] M Q ↔ Wp d 161 21 L [.int (b + a), .ref c] M Q) ∧
    (∀ (d : Nat) (a : Int32) (b : Nat) (x : Nat) (L : List Value) (M : Mem) (Q : Option Value → Mem → Prop), Wp d 161 21 (.ref x :: L) [.int a, .ref b] M Q ↔ Wp d 161 22 (.ref x :: L) [.ref x, .int a, .ref b] M Q) ∧
    (∀ (d : Nat) (a : Nat) (b : Int32) (c : Nat) (L : List Value) (M : Mem) (Q : Option Value → Mem → Prop), Wp d 161 22 L [.ref a, .int b, .ref c] M Q ↔ (isK a 12 = true ∧ Wp d 161 25 L [.ref (rt a 2), .int b, .ref c] M Q)) ∧
    (∀ (d : Nat) (a : Nat) (b : Int32) (c : Nat) (L : List Value) (M : Mem) (Q : Option Value → Mem → Prop), Wp d 161 25 L [.ref a, .int b, .ref c] M Q ↔ Wp d 161 27 L [.int 6, .ref a, .int b, .ref c] M Q) ∧
    (∀ (d : Nat) (a : Int32) (b : Nat) (c : Int32) (d2 : Nat) (v0 : Value) (v1 : Value) (x : Int32) (L : List Value) (M : Mem) (Q : Option Value → Mem → Prop), Wp d 161 27 (v0 :: v1 :: .int x :: L) [.int a, .ref b, .int c, .ref d2] M Q ↔ Wp d 161 28 (v0 :: v1 :: .int x :: L) [.int x, .int a, .ref b, .int c, .ref d2] M Q) ∧
    (∀ (d : Nat) (a : Int32) (b : Int32) (c : Nat) (d2 : Int32) (e : Nat) (L : List Value) (M : Mem) (Q : Option Value → Mem → Prop), Wp d 161 28 L [.int a, .int b, .ref c, .int d2, .ref e] M Q ↔ Wp d 161 29 L [.int (b + a), .ref c, .int d2, .ref e] M Q) ∧
    (∀ (d : Nat) (a : Int32) (b : Nat) (c : Int32) (d2 : Nat) (L : List Value) (M : Mem) (Q : Option Value → Mem → Prop), Wp d 161 29 L [.int a, .ref b, .int c, .ref d2] M Q ↔ ((isR b = true ∧ inr a (lnm M b)) ∧ Wp d 161 30 L [.int (M b a.toNatClampNeg), .int c, .ref d2] M Q)) ∧
    (∀ (d : Nat) (a : Int32) (b : Int32) (c : Nat) (v0 : Value) (v1 : Value) (v2 : Value) (x : Int32) (L : List Value) (M : Mem) (Q : Option Value → Mem → Prop), Wp d 161 30 (v0 :: v1 :: v2 :: .int x :: L) [.int a, .int b, .ref c] M Q ↔ Wp d 161 31 (v0 :: v1 :: v2 :: .int x :: L) [.int x, .int a, .int b, .ref c] M Q) ∧
    (∀ (d : Nat) (a : Int32) (b : Int32) (c : Int32) (d2 : Nat) (L : List Value) (M : Mem) (Q : Option Value → Mem → Prop), Wp d 161 31 L [.int a, .int b, .int c, .ref d2] M Q ↔ Wp d 161 32 L [.int (b + a), .int c, .ref d2] M Q) ∧
    (∀ (d : Nat) (a : Int32) (b : Int32) (c : Nat) (L : List Value) (M : Mem) (Q : Option Value → Mem → Prop), Wp (d + 1) 161 32 L [.int a, .int b, .ref c] M Q ↔ Wp d 132 0 [.int a] [] M (fun r M2 => Wp (d + 1) 161 35 L (r.toList ++ [.int b, .ref c]) M2 Q)) ∧
    (∀ (d : Nat) (a : Int32) (b : Int32) (c : Nat) (L : List Value) (M : Mem) (Q : Option Value → Mem → Prop), Wp d 161 35 L [.int a, .int b, .ref c] M Q ↔ ((isK c 13 = true ∧ inr b (lnm M c)) ∧ Wp d 161 36 L [] (up2 M c b.toNatClampNeg a) Q)) ∧
    (∀ (d : Nat) (x : Nat) (L : List Value) (M : Mem) (Q : Option Value → Mem → Prop), Wp d 161 36 (.ref x :: L) [] M Q ↔ Wp d 161 37 (.ref x :: L) [.ref x] M Q) ∧
    (∀ (d : Nat) (a : Nat) (L : List Value) (M : Mem) (Q : Option Value → Mem → Prop), Wp d 161 37 L [.ref a] M Q ↔ (isK a 12 = true ∧ Wp d 161 40 L [.ref (rt a 2)] M Q)) ∧
    (∀ (d : Nat) (a : Nat) (L : List Value) (M : Mem) (Q : Option Value → Mem → Prop), Wp d 161 40 L [.ref a] M Q ↔ Wp d 161 42 L [.int 12, .ref a] M Q) ∧
    (∀ (d : Nat) (a : Int32) (b : Nat) (L : List Value) (M : Mem) (Q : Option Value → Mem → Prop), Wp d 161 42 L [.int a, .ref b] M Q ↔ Wp d 161 44 L [.int 6, .int a, .ref b] M Q) ∧
    (∀ (d : Nat) (a : Int32) (b : Int32) (c : Nat) (v0 : Value) (x : Int32) (L : List Value) (M : Mem) (Q : Option Value → Mem → Prop), Wp d 161 44 (v0 :: .int x :: L) [.int a, .int b, .ref c] M Q ↔ Wp d 161 45 (v0 :: .int x :: L) [.int x, .int a, .int b, .ref c] M Q) ∧
    (∀ (d : Nat) (a : Int32) (b : Int32) (c : Int32) (d2 : Nat) (L : List Value) (M : Mem) (Q : Option Value → Mem → Prop), Wp d 161 45 L [.int a, .int b, .int c, .ref d2] M Q ↔ Wp d 161 46 L [.int (b * a), .int c, .ref d2] M Q) ∧
    (∀ (d : Nat) (a : Int32) (b : Int32) (c : Nat) (L : List Value) (M : Mem) (Q : Option Value → Mem → Prop), Wp d 161 46 L [.int a, .int b, .ref c] M Q ↔ Wp d 161 47 L [.int (b + a), .ref c] M Q) ∧
    (∀ (d : Nat) (a : Int32) (b : Nat) (v0 : Value) (v1 : Value) (x : Int32) (L : List Value) (M : Mem) (Q : Option Value → Mem → Prop), Wp d 161 47 (v0 :: v1 :: .int x :: L) [.int a, .ref b] M Q ↔ Wp d 161 48 (v0 :: v1 :: .int x :: L) [.int x, .int a, .ref b] M Q) ∧
    (∀ (d : Nat) (a : Int32) (b : Int32) (c : Nat) (L : List Value) (M : Mem) (Q : Option Value → Mem → Prop), Wp d 161 48 L [.int a, .int b, .ref c] M Q ↔ Wp d 161 49 L [.int (b + a), .ref c] M Q) ∧
    (∀ (d : Nat) (a : Int32) (b : Nat) (L : List Value) (M : Mem) (Q : Option Value → Mem → Prop), Wp d 161 49 L [.int a, .ref b] M Q ↔ Wp d 161 50 L [.int a, .ref b, .int a, .ref b] M Q) ∧
    (∀ (d : Nat) (a : Int32) (b : Nat) (c : Int32) (d2 : Nat) (L : List Value) (M : Mem) (Q : Option Value → Mem → Prop), Wp d 161 50 L [.int a, .ref b, .int c, .ref d2] M Q ↔ ((isR b = true ∧ inr a (lnm M b)) ∧ Wp d 161 51 L [.int (M b a.toNatClampNeg), .int c, .ref d2] M Q)) ∧
    (∀ (d : Nat) (a : Int32) (b : Int32) (c : Nat) (v0 : Value) (v1 : Value) (v2 : Value) (x : Int32) (L : List Value) (M : Mem) (Q : Option Value → Mem → Prop), Wp d 161 51 (v0 :: v1 :: v2 :: .int x :: L) [.int a, .int b, .ref c] M Q ↔ Wp d 161 52 (v0 :: v1 :: v2 :: .int x :: L) [.int x, .int a, .int b, .ref c] M Q) ∧
    (∀ (d : Nat) (a : Int32) (b : Int32) (c : Int32) (d2 : Nat) (L : List Value) (M : Mem) (Q : Option Value → Mem → Prop), Wp d 161 52 L [.int a, .int b, .int c, .ref d2] M Q ↔ Wp d 161 53 L [.int (b + a), .int c, .ref d2] M Q) ∧
    (∀ (d : Nat) (a : Int32) (b : Int32) (c : Nat) (L : List Value) (M : Mem) (Q : Option Value → Mem → Prop), Wp d 161 53 L [.int a, .int b, .ref c] M Q ↔ ((isK c 13 = true ∧ inr b (lnm M c)) ∧ Wp d 161 54 L [] (up2 M c b.toNatClampNeg a) Q)) ∧
    (∀ (d : Nat) (x : Nat) (L : List Value) (M : Mem) (Q : Option Value → Mem → Prop), Wp d 161 54 (.ref x :: L) [] M Q ↔ Wp d 161 55 (.ref x :: L) [.ref x] M Q) ∧
    (∀ (d : Nat) (a : Nat) (L : List Value) (M : Mem) (Q : Option Value → Mem → Prop), Wp d 161 55 L [.ref a] M Q ↔ (isK a 12 = true ∧ Wp d 161 58 L [.ref (rt a 2)] M Q)) ∧
    (∀ (d : Nat) (a : Nat) (L : List Value) (M : Mem) (Q : Option Value → Mem → Prop), Wp d 161 58 L [.ref a] M Q ↔ Wp d 161 60 L [.int 12, .ref a] M Q) ∧
    (∀ (d : Nat) (a : Int32) (b : Nat) (L : List Value) (M : Mem) (Q : Option Value → Mem → Prop), Wp d 161 60 L [.int a, .ref b] M Q ↔ Wp d 161 62 L [.int 6, .int a, .ref b] M Q) ∧
    (∀ (d : Nat) (a : Int32) (b : Int32) (c : Nat) (v0 : Value) (v1 : Value) (x : Int32) (L : List Value) (M : Mem) (Q : Option Value → Mem → Prop), Wp d 161 62 (v0 :: v1 :: .int x :: L) [.int a, .int b, .ref c] M Q ↔ Wp d 161 63 (v0 :: v1 :: .int x :: L) [.int x, .int a, .int b, .ref c] M Q) ∧
    (∀ (d : Nat) (a : Int32) (b : Int32) (c : Int32) (d2 : Nat) (L : List Value) (M : Mem) (Q : Option Value → Mem → Prop), Wp d 161 63 L [.int a, .int b, .int c, .ref d2] M Q ↔ Wp d 161 64 L [.int (b * a), .int c, .ref d2] M Q) ∧
    (∀ (d : Nat) (a : Int32) (b : Int32) (c : Nat) (L : List Value) (M : Mem) (Q : Option Value → Mem → Prop), Wp d 161 64 L [.int a, .int b, .ref c] M Q ↔ Wp d 161 65 L [.int (b + a), .ref c] M Q) ∧
    (∀ (d : Nat) (a : Int32) (b : Nat) (v0 : Value) (x : Int32) (L : List Value) (M : Mem) (Q : Option Value → Mem → Prop), Wp d 161 65 (v0 :: .int x :: L) [.int a, .ref b] M Q ↔ Wp d 161 66 (v0 :: .int x :: L) [.int x, .int a, .ref b] M Q) ∧
    (∀ (d : Nat) (a : Int32) (b : Int32) (c : Nat) (L : List Value) (M : Mem) (Q : Option Value → Mem → Prop), Wp d 161 66 L [.int a, .int b, .ref c] M Q ↔ Wp d 161 67 L [.int (b + a), .ref c] M Q) ∧
    (∀ (d : Nat) (a : Int32) (b : Nat) (L : List Value) (M : Mem) (Q : Option Value → Mem → Prop), Wp d 161 67 L [.int a, .ref b] M Q ↔ Wp d 161 68 L [.int a, .ref b, .int a, .ref b] M Q) ∧
    (∀ (d : Nat) (a : Int32) (b : Nat) (c : Int32) (d2 : Nat) (L : List Value) (M : Mem) (Q : Option Value → Mem → Prop), Wp d 161 68 L [.int a, .ref b, .int c, .ref d2] M Q ↔ ((isR b = true ∧ inr a (lnm M b)) ∧ Wp d 161 69 L [.int (M b a.toNatClampNeg), .int c, .ref d2] M Q)) ∧
    (∀ (d : Nat) (a : Int32) (b : Int32) (c : Nat) (v0 : Value) (v1 : Value) (v2 : Value) (x : Int32) (L : List Value) (M : Mem) (Q : Option Value → Mem → Prop), Wp d 161 69 (v0 :: v1 :: v2 :: .int x :: L) [.int a, .int b, .ref c] M Q ↔ Wp d 161 70 (v0 :: v1 :: v2 :: .int x :: L) [.int x, .int a, .int b, .ref c] M Q) ∧
    (∀ (d : Nat) (a : Int32) (b : Int32) (c : Int32) (d2 : Nat) (L : List Value) (M : Mem) (Q : Option Value → Mem → Prop), Wp d 161 70 L [.int a, .int b, .int c, .ref d2] M Q ↔ Wp d 161 71 L [.int (b - a), .int c, .ref d2] M Q) ∧
    (∀ (d : Nat) (a : Int32) (b : Int32) (c : Nat) (L : List Value) (M : Mem) (Q : Option Value → Mem → Prop), Wp d 161 71 L [.int a, .int b, .ref c] M Q ↔ ((isK c 13 = true ∧ inr b (lnm M c)) ∧ Wp d 161 72 L [] (up2 M c b.toNatClampNeg a) Q)) ∧
    (∀ (d : Nat) (L : List Value) (M : Mem) (Q : Option Value → Mem → Prop), Wp d 161 72 L [] M Q ↔ Q none M) := by
  refine ⟨?_, ?_, ?_, ?_, ?_, ?_, ?_, ?_, ?_, ?_, ?_, ?_, ?_, ?_, ?_, ?_, ?_, ?_, ?_, ?_, ?_, ?_, ?_, ?_, ?_, ?_, ?_, ?_, ?_, ?_, ?_, ?_, ?_, ?_, ?_, ?_, ?_, ?_, ?_, ?_, ?_, ?_, ?_, ?_, ?_, ?_, ?_, ?_, ?_, ?_, ?_, ?_, ?_, ?_⟩
  · intro d x L M Q; exact Wp_sim (by decide +kernel : decode (cd 161) 0 = .ok (.aload_n 0, 1)) rfl rfl
  · intro d a L M Q; exact q_getR (p := 845) (by decide +kernel : decode (cd 161) 1 = .ok (.getfield 16, 3)) (by decide +kernel) (by decide +kernel)
  · intro d a L M Q; exact Wp_sim (by decide +kernel : decode (cd 161) 4 = .ok (.bipush 6, 2)) rfl rfl
  · intro d a b v0 x L M Q; exact Wp_sim (by decide +kernel : decode (cd 161) 6 = .ok (.iload_n 1, 1)) rfl rfl
  · intro d a b c L M Q; exact Wp_sim (by decide +kernel : decode (cd 161) 7 = .ok (.iadd , 1)) rfl rfl
  · intro d a b L M Q; exact Wp_sim (by decide +kernel : decode (cd 161) 8 = .ok (.dup2 , 1)) rfl rfl
  · intro d a b c d2 L M Q; exact q_ald (by decide +kernel : decode (cd 161) 9 = .ok (.iaload , 1))
  · intro d a b c v0 v1 v2 x L M Q; exact Wp_sim (by decide +kernel : decode (cd 161) 10 = .ok (.iload_n 3, 1)) rfl rfl
  · intro d a b c d2 L M Q; exact Wp_sim (by decide +kernel : decode (cd 161) 11 = .ok (.isub , 1)) rfl rfl
  · intro d a b c L M Q; exact q_ast (by decide +kernel : decode (cd 161) 12 = .ok (.iastore , 1))
  · intro d x L M Q; exact Wp_sim (by decide +kernel : decode (cd 161) 13 = .ok (.aload_n 0, 1)) rfl rfl
  · intro d a L M Q; exact q_getR (p := 845) (by decide +kernel : decode (cd 161) 14 = .ok (.getfield 16, 3)) (by decide +kernel) (by decide +kernel)
  · intro d a L M Q; exact Wp_sim (by decide +kernel : decode (cd 161) 17 = .ok (.bipush 6, 2)) rfl rfl
  · intro d a b v0 v1 x L M Q; exact Wp_sim (by decide +kernel : decode (cd 161) 19 = .ok (.iload_n 2, 1)) rfl rfl
  · intro d a b c L M Q; exact Wp_sim (by decide +kernel : decode (cd 161) 20 = .ok (.iadd , 1)) rfl rfl
  · intro d a b x L M Q; exact Wp_sim (by decide +kernel : decode (cd 161) 21 = .ok (.aload_n 0, 1)) rfl rfl
  · intro d a b c L M Q; exact q_getR (p := 845) (by decide +kernel : decode (cd 161) 22 = .ok (.getfield 16, 3)) (by decide +kernel) (by decide +kernel)
  · intro d a b c L M Q; exact Wp_sim (by decide +kernel : decode (cd 161) 25 = .ok (.bipush 6, 2)) rfl rfl
  · intro d a b c d2 v0 v1 x L M Q; exact Wp_sim (by decide +kernel : decode (cd 161) 27 = .ok (.iload_n 2, 1)) rfl rfl
  · intro d a b c d2 e L M Q; exact Wp_sim (by decide +kernel : decode (cd 161) 28 = .ok (.iadd , 1)) rfl rfl
  · intro d a b c d2 L M Q; exact q_ald (by decide +kernel : decode (cd 161) 29 = .ok (.iaload , 1))
  · intro d a b c v0 v1 v2 x L M Q; exact Wp_sim (by decide +kernel : decode (cd 161) 30 = .ok (.iload_n 3, 1)) rfl rfl
  · intro d a b c d2 L M Q; exact Wp_sim (by decide +kernel : decode (cd 161) 31 = .ok (.iadd , 1)) rfl rfl
  · intro d a b c L M Q; exact q_invS (pz := 1018) (n := 1) (m := 1) (As := [.int a]) (rest := [.int b, .ref c]) (by decide +kernel : decode (cd 161) 32 = .ok (.invokestatic 158, 3)) (by decide +kernel) (by decide +kernel) (by decide +kernel) rfl rfl (Nat.le_of_ble_eq_true rfl) (Nat.le_of_ble_eq_true rfl) rfl
  · intro d a b c L M Q; exact q_ast (by decide +kernel : decode (cd 161) 35 = .ok (.iastore , 1))
  · intro d x L M Q; exact Wp_sim (by decide +kernel : decode (cd 161) 36 = .ok (.aload_n 0, 1)) rfl rfl
  · intro d a L M Q; exact q_getR (p := 845) (by decide +kernel : decode (cd 161) 37 = .ok (.getfield 16, 3)) (by decide +kernel) (by decide +kernel)
  · intro d a L M Q; exact Wp_sim (by decide +kernel : decode (cd 161) 40 = .ok (.bipush 12, 2)) rfl rfl
  · intro d a b L M Q; exact Wp_sim (by decide +kernel : decode (cd 161) 42 = .ok (.bipush 6, 2)) rfl rfl
  · intro d a b c v0 x L M Q; exact Wp_sim (by decide +kernel : decode (cd 161) 44 = .ok (.iload_n 1, 1)) rfl rfl
  · intro d a b c d2 L M Q; exact Wp_sim (by decide +kernel : decode (cd 161) 45 = .ok (.imul , 1)) rfl rfl
  · intro d a b c L M Q; exact Wp_sim (by decide +kernel : decode (cd 161) 46 = .ok (.iadd , 1)) rfl rfl
  · intro d a b v0 v1 x L M Q; exact Wp_sim (by decide +kernel : decode (cd 161) 47 = .ok (.iload_n 2, 1)) rfl rfl
  · intro d a b c L M Q; exact Wp_sim (by decide +kernel : decode (cd 161) 48 = .ok (.iadd , 1)) rfl rfl
  · intro d a b L M Q; exact Wp_sim (by decide +kernel : decode (cd 161) 49 = .ok (.dup2 , 1)) rfl rfl
  · intro d a b c d2 L M Q; exact q_ald (by decide +kernel : decode (cd 161) 50 = .ok (.iaload , 1))
  · intro d a b c v0 v1 v2 x L M Q; exact Wp_sim (by decide +kernel : decode (cd 161) 51 = .ok (.iload_n 3, 1)) rfl rfl
  · intro d a b c d2 L M Q; exact Wp_sim (by decide +kernel : decode (cd 161) 52 = .ok (.iadd , 1)) rfl rfl
  · intro d a b c L M Q; exact q_ast (by decide +kernel : decode (cd 161) 53 = .ok (.iastore , 1))
  · intro d x L M Q; exact Wp_sim (by decide +kernel : decode (cd 161) 54 = .ok (.aload_n 0, 1)) rfl rfl
  · intro d a L M Q; exact q_getR (p := 845) (by decide +kernel : decode (cd 161) 55 = .ok (.getfield 16, 3)) (by decide +kernel) (by decide +kernel)
  · intro d a L M Q; exact Wp_sim (by decide +kernel : decode (cd 161) 58 = .ok (.bipush 12, 2)) rfl rfl
  · intro d a b L M Q; exact Wp_sim (by decide +kernel : decode (cd 161) 60 = .ok (.bipush 6, 2)) rfl rfl
  · intro d a b c v0 v1 x L M Q; exact Wp_sim (by decide +kernel : decode (cd 161) 62 = .ok (.iload_n 2, 1)) rfl rfl
  · intro d a b c d2 L M Q; exact Wp_sim (by decide +kernel : decode (cd 161) 63 = .ok (.imul , 1)) rfl rfl
  · intro d a b c L M Q; exact Wp_sim (by decide +kernel : decode (cd 161) 64 = .ok (.iadd , 1)) rfl rfl
  · intro d a b v0 x L M Q; exact Wp_sim (by decide +kernel : decode (cd 161) 65 = .ok (.iload_n 1, 1)) rfl rfl
  · intro d a b c L M Q; exact Wp_sim (by decide +kernel : decode (cd 161) 66 = .ok (.iadd , 1)) rfl rfl
  · intro d a b L M Q; exact Wp_sim (by decide +kernel : decode (cd 161) 67 = .ok (.dup2 , 1)) rfl rfl
  · intro d a b c d2 L M Q; exact q_ald (by decide +kernel : decode (cd 161) 68 = .ok (.iaload , 1))
  · intro d a b c v0 v1 v2 x L M Q; exact Wp_sim (by decide +kernel : decode (cd 161) 69 = .ok (.iload_n 3, 1)) rfl rfl
  · intro d a b c d2 L M Q; exact Wp_sim (by decide +kernel : decode (cd 161) 70 = .ok (.isub , 1)) rfl rfl
  · intro d a b c L M Q; exact q_ast (by decide +kernel : decode (cd 161) 71 = .ok (.iastore , 1))
  · intro d L M Q; exact q_vret (by decide +kernel : decode (cd 161) 72 = .ok (.return_ , 1)) (by decide +kernel)

/- 162: PalaceYardModel.sue -/
set_option maxRecDepth 10000 in
theorem e162 : (∀ (d : Nat) (x : Nat) (L : List Value) (M : Mem) (Q : Option Value → Mem → Prop), Wp d 162 0 (.ref x :: L) [] M Q ↔ Wp d 162 1 (.ref x :: L) [.ref x] M Q) ∧
    (∀ (d : Nat) (a : Nat) (v0 : Value) (x : Int32) (L : List Value) (M : Mem) (Q : Option Value → Mem → Prop), Wp d 162 1 (v0 :: .int x :: L) [.ref a] M Q ↔ Wp d 162 2 (v0 :: .int x :: L) [.int x, .ref a] M Q) ∧
    (∀ (d : Nat) (a : Int32) (b : Nat) (L : List Value) (M : Mem) (Q : Option Value → Mem → Prop), Wp (d + 1) 162 2 L [.int a, .ref b] M Q ↔ (isK b 12 = true ∧ Wp d 141 0 [.ref b, .int a] [] M (fun r M2 => Wp (d + 1) 162 5 L (r.toList ++ []) M2 Q))) ∧
    (∀ (d : Nat) (a : Int32) (L : List Value) (M : Mem) (Q : Option Value → Mem → Prop), Wp d 162 5 L [.int a] M Q ↔ (if a = 0 then Wp d 162 21 L [] M Q else Wp d 162 8 L [] M Q)) ∧
    (∀ (d : Nat) (x : Nat) (L : List Value) (M : Mem) (Q : Option Value → Mem → Prop), Wp d 162 8 (.ref x :: L) [] M Q ↔ Wp d 162 9 (.ref x :: L) [.ref x] M Q) ∧
    (∀ (d : Nat) (a : Nat) (v0 : Value) (v1 : Value) (x : Int32) (L : List Value) (M : Mem) (Q : Option Value → Mem → Prop), Wp d 162 9 (v0 :: v1 :: .int x :: L) [.ref a] M Q ↔ Wp d 162 10 (v0 :: v1 :: .int x :: L) [.int x, .ref a] M Q) ∧
    (∀ (d : Nat) (a : Int32) (b : Nat) (L : List Value) (M : Mem) (Q : Option Value → Mem → Prop), Wp (d + 1) 162 10 L [.int a, .ref b] M Q ↔ (isK b 12 = true ∧ Wp d 141 0 [.ref b, .int a] [] M (fun r M2 => Wp (d + 1) 162 13 L (r.toList ++ []) M2 Q))) ∧
    (∀ (d : Nat) (a : Int32) (L : List Value) (M : Mem) (Q : Option Value → Mem → Prop), Wp d 162 13 L [.int a] M Q ↔ (if a = 0 then Wp d 162 21 L [] M Q else Wp d 162 16 L [] M Q)) ∧
    (∀ (d : Nat) (v0 : Value) (x : Int32) (L : List Value) (M : Mem) (Q : Option Value → Mem → Prop), Wp d 162 16 (v0 :: .int x :: L) [] M Q ↔ Wp d 162 17 (v0 :: .int x :: L) [.int x] M Q) ∧
    (∀ (d : Nat) (a : Int32) (v0 : Value) (v1 : Value) (x : Int32) (L : List Value) (M : Mem) (Q : Option Value → Mem → Prop), Wp d 162 17 (v0 :: v1 :: .int x :: L) [.int a] M Q ↔ Wp d 162 18 (v0 :: v1 :: .int x :: L) [.int x, .int a] M Q) ∧
    (∀ (d : Nat) (a : Int32) (b : Int32) (L : List Value) (M : Mem) (Q : Option Value → Mem → Prop), Wp d 162 18 L [.int a, .int b] M Q ↔ (if b = a then Wp d 162 21 L [] M Q else Wp d 162 24 L [] M Q)) ∧
    (∀ (d : Nat) (L : List Value) (M : Mem) (Q : Option Value → Mem → Prop), Wp d 162 21 L [] M Q ↔ Wp d 162 23 L [.int (-1000000001)] M Q) ∧
    (∀ (d : Nat) (a : Int32) (L : List Value) (M : Mem) (Q : Option Value → Mem → Prop), Wp d 162 23 L [.int a] M Q ↔ Q (some (.int a)) M) ∧
    (∀ (d : Nat) (x : Nat) (L : List Value) (M : Mem) (Q : Option Value → Mem → Prop), Wp d 162 24 (.ref x :: L) [] M Q ↔ Wp d 162 25 (.ref x :: L) [.ref x] M Q) ∧
    (∀ (d : Nat) (a : Nat) (v0 : Value) (x : Int32) (L : List Value) (M : Mem) (Q : Option Value → Mem → Prop), Wp d 162 25 (v0 :: .int x :: L) [.ref a] M Q ↔ Wp d 162 26 (v0 :: .int x :: L) [.int x, .ref a] M Q) ∧
    (∀ (d : Nat) (a : Int32) (b : Nat) (v0 : Value) (v1 : Value) (x : Int32) (L : List Value) (M : Mem) (Q : Option Value → Mem → Prop), Wp d 162 26 (v0 :: v1 :: .int x :: L) [.int a, .ref b] M Q ↔ Wp d 162 27 (v0 :: v1 :: .int x :: L) [.int x, .int a, .ref b] M Q) ∧
    (∀ (d : Nat) (a : Int32) (b : Int32) (c : Nat) (L : List Value) (M : Mem) (Q : Option Value → Mem → Prop), Wp (d + 1) 162 27 L [.int a, .int b, .ref c] M Q ↔ (isK c 12 = true ∧ Wp d 163 0 [.ref c, .int b, .int a] [] M (fun r M2 => Wp (d + 1) 162 30 L (r.toList ++ []) M2 Q))) ∧
    (∀ (d : Nat) (a : Int32) (L : List Value) (M : Mem) (Q : Option Value → Mem → Prop), Wp d 162 30 L [.int a] M Q ↔ (if a = 0 then Wp d 162 33 L [] M Q else Wp d 162 36 L [] M Q)) ∧
    (∀ (d : Nat) (L : List Value) (M : Mem) (Q : Option Value → Mem → Prop), Wp d 162 33 L [] M Q ↔ Wp d 162 35 L [.int (-1000000003)] M Q) ∧
    (∀ (d : Nat) (a : Int32) (L : List Value) (M : Mem) (Q : Option Value → Mem → Prop), Wp d 162 35 L [.int a] M Q ↔ Q (some (.int a)) M) ∧
    (∀ (d : Nat) (x : Nat) (L : List Value) (M : Mem) (Q : Option Value → Mem → Prop), Wp d 162 36 (.ref x :: L) [] M Q ↔ Wp d 162 37 (.ref x :: L) [.ref x] M Q) ∧
    (∀ (d : Nat) (a : Nat) (L : List Value) (M : Mem) (Q : Option Value → Mem → Prop), Wp (d + 1) 162 37 L [.ref a] M Q ↔ (isK a 12 = true ∧ Wp d 148 0 [.ref a, .null] [] M (fun r M2 => Wp (d + 1) 162 40 L (r.toList ++ []) M2 Q))) ∧
    (∀ (d : Nat) (x : Nat) (L : List Value) (M : Mem) (Q : Option Value → Mem → Prop), Wp d 162 40 (.ref x :: L) [] M Q ↔ Wp d 162 41 (.ref x :: L) [.ref x] M Q) ∧
    (∀ (d : Nat) (a : Nat) (v0 : Value) (x : Int32) (L : List Value) (M : Mem) (Q : Option Value → Mem → Prop), Wp d 162 41 (v0 :: .int x :: L) [.ref a] M Q ↔ Wp d 162 42 (v0 :: .int x :: L) [.int x, .ref a] M Q) ∧
    (∀ (d : Nat) (a : Int32) (b : Nat) (v0 : Value) (v1 : Value) (x : Int32) (L : List Value) (M : Mem) (Q : Option Value → Mem → Prop), Wp d 162 42 (v0 :: v1 :: .int x :: L) [.int a, .ref b] M Q ↔ Wp d 162 43 (v0 :: v1 :: .int x :: L) [.int x, .int a, .ref b] M Q) ∧
    (∀ (d : Nat) (a : Int32) (b : Int32) (c : Nat) (L : List Value) (M : Mem) (Q : Option Value → Mem → Prop), Wp (d + 1) 162 43 L [.int a, .int b, .ref c] M Q ↔ (isK c 12 = true ∧ Wp d 164 0 [.ref c, .int b, .int a, .null, .null] [] M (fun r M2 => Wp (d + 1) 162 46 L (r.toList ++ []) M2 Q))) ∧
    (∀ (d : Nat) (a : Int32) (L : List Value) (M : Mem) (Q : Option Value → Mem → Prop), Wp d 162 46 L [.int a] M Q ↔ Q (some (.int a)) M) := by
  refine ⟨?_, ?_, ?_, ?_, ?_, ?_, ?_, ?_, ?_, ?_, ?_, ?_, ?_, ?_, ?_, ?_, ?_, ?_, ?_, ?_, ?_, ?_, ?_, ?_, ?_, ?_, ?_⟩
  · intro d x L M Q; exact Wp_sim (by decide +kernel : decode (cd 162) 0 = .ok (.aload_n 0, 1)) rfl rfl
  · intro d a v0 x L M Q; exact Wp_sim (by decide +kernel : decode (cd 162) 1 = .ok (.iload_n 1, 1)) rfl rfl
  · intro d a b L M Q; exact q_invV (pz := 1053) (n := 1) (c := 12) (m := 2) (k := b) (As := [.int a]) (rest := []) (by decide +kernel : decode (cd 162) 2 = .ok (.invokevirtual 183, 3)) (by decide +kernel) (by decide +kernel) rfl rfl (Nat.le_of_ble_eq_true rfl) (Nat.le_of_ble_eq_true rfl) rfl
  · intro d a L M Q; exact q_zeq (by decide +kernel : decode (cd 162) 5 = .ok (.ifCond .eq 16, 3)) (by decide)
  · intro d x L M Q; exact Wp_sim (by decide +kernel : decode (cd 162) 8 = .ok (.aload_n 0, 1)) rfl rfl
  · intro d a v0 v1 x L M Q; exact Wp_sim (by decide +kernel : decode (cd 162) 9 = .ok (.iload_n 2, 1)) rfl rfl
  · intro d a b L M Q; exact q_invV (pz := 1053) (n := 1) (c := 12) (m := 2) (k := b) (As := [.int a]) (rest := []) (by decide +kernel : decode (cd 162) 10 = .ok (.invokevirtual 183, 3)) (by decide +kernel) (by decide +kernel) rfl rfl (Nat.le_of_ble_eq_true rfl) (Nat.le_of_ble_eq_true rfl) rfl
  · intro d a L M Q; exact q_zeq (by decide +kernel : decode (cd 162) 13 = .ok (.ifCond .eq 8, 3)) (by decide)
  · intro d v0 x L M Q; exact Wp_sim (by decide +kernel : decode (cd 162) 16 = .ok (.iload_n 1, 1)) rfl rfl
  · intro d a v0 v1 x L M Q; exact Wp_sim (by decide +kernel : decode (cd 162) 17 = .ok (.iload_n 2, 1)) rfl rfl
  · intro d a b L M Q; exact q_ine (by decide +kernel : decode (cd 162) 18 = .ok (.if_icmp .ne 6, 3)) (by decide)
  · intro d L M Q; exact q_ldc (p := 1043) (by decide +kernel : decode (cd 162) 21 = .ok (.ldc 180, 2)) (by decide +kernel)
  · intro d a L M Q; exact q_iret (by decide +kernel : decode (cd 162) 23 = .ok (.ireturn , 1)) (by decide +kernel)
  · intro d x L M Q; exact Wp_sim (by decide +kernel : decode (cd 162) 24 = .ok (.aload_n 0, 1)) rfl rfl
  · intro d a v0 x L M Q; exact Wp_sim (by decide +kernel : decode (cd 162) 25 = .ok (.iload_n 1, 1)) rfl rfl
  · intro d a b v0 v1 x L M Q; exact Wp_sim (by decide +kernel : decode (cd 162) 26 = .ok (.iload_n 2, 1)) rfl rfl
  · intro d a b c L M Q; exact q_invV (pz := 1145) (n := 2) (c := 12) (m := 3) (k := c) (As := [.int b, .int a]) (rest := []) (by decide +kernel : decode (cd 162) 27 = .ok (.invokevirtual 231, 3)) (by decide +kernel) (by decide +kernel) rfl rfl (Nat.le_of_ble_eq_true rfl) (Nat.le_of_ble_eq_true rfl) rfl
  · intro d a L M Q; exact q_zne (by decide +kernel : decode (cd 162) 30 = .ok (.ifCond .ne 6, 3)) (by decide)
  · intro d L M Q; exact q_ldc (p := 1083) (by decide +kernel : decode (cd 162) 33 = .ok (.ldc 200, 2)) (by decide +kernel)
  · intro d a L M Q; exact q_iret (by decide +kernel : decode (cd 162) 35 = .ok (.ireturn , 1)) (by decide +kernel)
  · intro d x L M Q; exact Wp_sim (by decide +kernel : decode (cd 162) 36 = .ok (.aload_n 0, 1)) rfl rfl
  · intro d a L M Q; exact q_invV (pz := 1084) (n := 0) (c := 12) (m := 2) (k := a) (As := []) (rest := []) (by decide +kernel : decode (cd 162) 37 = .ok (.invokevirtual 204, 3)) (by decide +kernel) (by decide +kernel) rfl rfl (Nat.le_of_ble_eq_true rfl) (Nat.le_of_ble_eq_true rfl) rfl
  · intro d x L M Q; exact Wp_sim (by decide +kernel : decode (cd 162) 40 = .ok (.aload_n 0, 1)) rfl rfl
  · intro d a v0 x L M Q; exact Wp_sim (by decide +kernel : decode (cd 162) 41 = .ok (.iload_n 1, 1)) rfl rfl
  · intro d a b v0 v1 x L M Q; exact Wp_sim (by decide +kernel : decode (cd 162) 42 = .ok (.iload_n 2, 1)) rfl rfl
  · intro d a b c L M Q; exact q_invV (pz := 1149) (n := 2) (c := 12) (m := 5) (k := c) (As := [.int b, .int a]) (rest := []) (by decide +kernel : decode (cd 162) 43 = .ok (.invokevirtual 234, 3)) (by decide +kernel) (by decide +kernel) rfl rfl (Nat.le_of_ble_eq_true rfl) (Nat.le_of_ble_eq_true rfl) rfl
  · intro d a L M Q; exact q_iret (by decide +kernel : decode (cd 162) 46 = .ok (.ireturn , 1)) (by decide +kernel)

/- 163: PalaceYardModel.maySue -/
set_option maxRecDepth 10000 in
theorem e163 : (∀ (d : Nat) (x : Nat) (L : List Value) (M : Mem) (Q : Option Value → Mem → Prop), Wp d 163 0 (.ref x :: L) [] M Q ↔ Wp d 163 1 (.ref x :: L) [.ref x] M Q) ∧
    (∀ (d : Nat) (a : Nat) (L : List Value) (M : Mem) (Q : Option Value → Mem → Prop), Wp d 163 1 L [.ref a] M Q ↔ (isK a 12 = true ∧ Wp d 163 4 L [.ref (rt a 2)] M Q)) ∧
    (∀ (d : Nat) (a : Nat) (L : List Value) (M : Mem) (Q : Option Value → Mem → Prop), Wp d 163 4 L [.ref a] M Q ↔ Wp d 163 6 L [.int 12, .ref a] M Q) ∧
    (∀ (d : Nat) (a : Int32) (b : Nat) (L : List Value) (M : Mem) (Q : Option Value → Mem → Prop), Wp d 163 6 L [.int a, .ref b] M Q ↔ Wp d 163 8 L [.int 6, .int a, .ref b] M Q) ∧
    (∀ (d : Nat) (a : Int32) (b : Int32) (c : Nat) (v0 : Value) (x : Int32) (L : List Value) (M : Mem) (Q : Option Value → Mem → Prop), Wp d 163 8 (v0 :: .int x :: L) [.int a, .int b, .ref c] M Q ↔ Wp d 163 9 (v0 :: .int x :: L) [.int x, .int a, .int b, .ref c] M Q) ∧
    (∀ (d : Nat) (a : Int32) (b : Int32) (c : Int32) (d2 : Nat) (L : List Value) (M : Mem) (Q : Option Value → Mem → Prop), Wp d 163 9 L [.int a, .int b, .int c, .ref d2] M Q ↔ Wp d 163 10 L [.int (b * a), .int c, .ref d2] M Q) ∧
    (∀ (d : Nat) (a : Int32) (b : Int32) (c : Nat) (L : List Value) (M : Mem) (Q : Option Value → Mem → Prop), Wp d 163 10 L [.int a, .int b, .ref c] M Q ↔ Wp d 163 11 L [.int (b + a), .ref c] M Q) ∧
    (∀ (d : Nat) (a : Int32) (b : Nat) (v0 : Value) (v1 : Value) (x : Int32) (L : List Value) (M : Mem) (Q : Option Value → Mem → Prop), Wp d 163 11 (v0 :: v1 :: .int x :: L) [.int a, .ref b] M Q ↔ Wp d 163 12 (v0 :: v1 :: .int x :: L) [.int x, .int a, .ref b] M Q) ∧
    (∀ (d : Nat) (a : Int32) (b : Int32) (c : Nat) (L : List Value) (M : Mem) (Q : Option Value → Mem → Prop), Wp d 163 12 L [.int a, .int b, .ref c] M Q ↔ Wp d 163 13 L [.int (b + a), .ref c] M Q) ∧
    (∀ (d : Nat) (a : Int32) (b : Nat) (L : List Value) (M : Mem) (Q : Option Value → Mem → Prop), Wp d 163 13 L [.int a, .ref b] M Q ↔ ((isR b = true ∧ inr a (lnm M b)) ∧ Wp d 163 14 L [.int (M b a.toNatClampNeg)] M Q)) ∧
    (∀ (d : Nat) (a : Int32) (L : List Value) (M : Mem) (Q : Option Value → Mem → Prop), Wp d 163 14 L [.int a] M Q ↔ (if 0 < a then Wp d 163 17 L [] M Q else Wp d 163 33 L [] M Q)) ∧
    (∀ (d : Nat) (x : Nat) (L : List Value) (M : Mem) (Q : Option Value → Mem → Prop), Wp d 163 17 (.ref x :: L) [] M Q ↔ Wp d 163 18 (.ref x :: L) [.ref x] M Q) ∧
    (∀ (d : Nat) (a : Nat) (L : List Value) (M : Mem) (Q : Option Value → Mem → Prop), Wp d 163 18 L [.ref a] M Q ↔ (isK a 12 = true ∧ Wp d 163 21 L [.ref (rt a 2)] M Q)) ∧
    (∀ (d : Nat) (a : Nat) (L : List Value) (M : Mem) (Q : Option Value → Mem → Prop), Wp d 163 21 L [.ref a] M Q ↔ Wp d 163 22 L [.int 0, .ref a] M Q) ∧
    (∀ (d : Nat) (a : Int32) (b : Nat) (v0 : Value) (v1 : Value) (x : Int32) (L : List Value) (M : Mem) (Q : Option Value → Mem → Prop), Wp d 163 22 (v0 :: v1 :: .int x :: L) [.int a, .ref b] M Q ↔ Wp d 163 23 (v0 :: v1 :: .int x :: L) [.int x, .int a, .ref b] M Q) ∧
    (∀ (d : Nat) (a : Int32) (b : Int32) (c : Nat) (L : List Value) (M : Mem) (Q : Option Value → Mem → Prop), Wp d 163 23 L [.int a, .int b, .ref c] M Q ↔ Wp d 163 24 L [.int (b + a), .ref c] M Q) ∧
    (∀ (d : Nat) (a : Int32) (b : Nat) (L : List Value) (M : Mem) (Q : Option Value → Mem → Prop), Wp d 163 24 L [.int a, .ref b] M Q ↔ ((isR b = true ∧ inr a (lnm M b)) ∧ Wp d 163 25 L [.int (M b a.toNatClampNeg)] M Q)) ∧
    (∀ (d : Nat) (a : Int32) (L : List Value) (M : Mem) (Q : Option Value → Mem → Prop), Wp d 163 25 L [.int a] M Q ↔ Wp d 163 26 L [.int 1, .int a] M Q) ∧
    (∀ (d : Nat) (a : Int32) (b : Int32) (L : List Value) (M : Mem) (Q : Option Value → Mem → Prop), Wp d 163 26 L [.int a, .int b] M Q ↔ (if b = a then Wp d 163 29 L [] M Q else Wp d 163 33 L [] M Q)) ∧
    (∀ (d : Nat) (L : List Value) (M : Mem) (Q : Option Value → Mem → Prop), Wp d 163 29 L [] M Q ↔ Wp d 163 30 L [.int 1] M Q) ∧
    (∀ (d : Nat) (a : Int32) (L : List Value) (M : Mem) (Q : Option Value → Mem → Prop), Wp d 163 30 L [.int a] M Q ↔ Wp d 163 34 L [.int a] M Q) ∧
    (∀ (d : Nat) (L : List Value) (M : Mem) (Q : Option Value → Mem → Prop), Wp d 163 33 L [] M Q ↔ Wp d 163 34 L [.int 0] M Q) ∧
    (∀ (d : Nat) (a : Int32) (L : List Value) (M : Mem) (Q : Option Value → Mem → Prop), Wp d 163 34 L [.int a] M Q ↔ ((a = 0 ∨ a = 1) ∧ Q (some (.int a)) M)) := by
  refine ⟨?_, ?_, ?_, ?_, ?_, ?_, ?_, ?_, ?_, ?_, ?_, ?_, ?_, ?_, ?_, ?_, ?_, ?_, ?_, ?_, ?_, ?_, ?_⟩
  · intro d x L M Q; exact Wp_sim (by decide +kernel : decode (cd 163) 0 = .ok (.aload_n 0, 1)) rfl rfl
  · intro d a L M Q; exact q_getR (p := 845) (by decide +kernel : decode (cd 163) 1 = .ok (.getfield 16, 3)) (by decide +kernel) (by decide +kernel)
  · intro d a L M Q; exact Wp_sim (by decide +kernel : decode (cd 163) 4 = .ok (.bipush 12, 2)) rfl rfl
  · intro d a b L M Q; exact Wp_sim (by decide +kernel : decode (cd 163) 6 = .ok (.bipush 6, 2)) rfl rfl
  · intro d a b c v0 x L M Q; exact Wp_sim (by decide +kernel : decode (cd 163) 8 = .ok (.iload_n 1, 1)) rfl rfl
  · intro d a b c d2 L M Q; exact Wp_sim (by decide +kernel : decode (cd 163) 9 = .ok (.imul , 1)) rfl rfl
  · intro d a b c L M Q; exact Wp_sim (by decide +kernel : decode (cd 163) 10 = .ok (.iadd , 1)) rfl rfl
  · intro d a b v0 v1 x L M Q; exact Wp_sim (by decide +kernel : decode (cd 163) 11 = .ok (.iload_n 2, 1)) rfl rfl
  · intro d a b c L M Q; exact Wp_sim (by decide +kernel : decode (cd 163) 12 = .ok (.iadd , 1)) rfl rfl
  · intro d a b L M Q; exact q_ald (by decide +kernel : decode (cd 163) 13 = .ok (.iaload , 1))
  · intro d a L M Q; exact q_zle (by decide +kernel : decode (cd 163) 14 = .ok (.ifCond .le 19, 3)) (by decide)
  · intro d x L M Q; exact Wp_sim (by decide +kernel : decode (cd 163) 17 = .ok (.aload_n 0, 1)) rfl rfl
  · intro d a L M Q; exact q_getR (p := 845) (by decide +kernel : decode (cd 163) 18 = .ok (.getfield 16, 3)) (by decide +kernel) (by decide +kernel)
  · intro d a L M Q; exact Wp_sim (by decide +kernel : decode (cd 163) 21 = .ok (.iconst 0, 1)) rfl rfl
  · intro d a b v0 v1 x L M Q; exact Wp_sim (by decide +kernel : decode (cd 163) 22 = .ok (.iload_n 2, 1)) rfl rfl
  · intro d a b c L M Q; exact Wp_sim (by decide +kernel : decode (cd 163) 23 = .ok (.iadd , 1)) rfl rfl
  · intro d a b L M Q; exact q_ald (by decide +kernel : decode (cd 163) 24 = .ok (.iaload , 1))
  · intro d a L M Q; exact Wp_sim (by decide +kernel : decode (cd 163) 25 = .ok (.iconst 1, 1)) rfl rfl
  · intro d a b L M Q; exact q_ine (by decide +kernel : decode (cd 163) 26 = .ok (.if_icmp .ne 7, 3)) (by decide)
  · intro d L M Q; exact Wp_sim (by decide +kernel : decode (cd 163) 29 = .ok (.iconst 1, 1)) rfl rfl
  · intro d a L M Q; exact q_goto (by decide +kernel : decode (cd 163) 30 = .ok (.goto 4, 3)) (by decide)
  · intro d L M Q; exact Wp_sim (by decide +kernel : decode (cd 163) 33 = .ok (.iconst 0, 1)) rfl rfl
  · intro d a L M Q; exact q_zret (by decide +kernel : decode (cd 163) 34 = .ok (.ireturn , 1)) (by decide +kernel)

/- 164: PalaceYardModel.sues -/
set_option maxRecDepth 10000 in
theorem e164 : (∀ (d : Nat) (x : Nat) (L : List Value) (M : Mem) (Q : Option Value → Mem → Prop), Wp d 164 0 (.ref x :: L) [] M Q ↔ Wp d 164 1 (.ref x :: L) [.ref x] M Q) ∧
    (∀ (d : Nat) (a : Nat) (L : List Value) (M : Mem) (Q : Option Value → Mem → Prop), Wp d 164 1 L [.ref a] M Q ↔ (isK a 12 = true ∧ Wp d 164 4 L [.ref (rt a 2)] M Q)) ∧
    (∀ (d : Nat) (a : Nat) (L : List Value) (M : Mem) (Q : Option Value → Mem → Prop), Wp d 164 4 L [.ref a] M Q ↔ Wp d 164 6 L [.int 12, .ref a] M Q) ∧
    (∀ (d : Nat) (a : Int32) (b : Nat) (L : List Value) (M : Mem) (Q : Option Value → Mem → Prop), Wp d 164 6 L [.int a, .ref b] M Q ↔ Wp d 164 8 L [.int 6, .int a, .ref b] M Q) ∧
    (∀ (d : Nat) (a : Int32) (b : Int32) (c : Nat) (v0 : Value) (x : Int32) (L : List Value) (M : Mem) (Q : Option Value → Mem → Prop), Wp d 164 8 (v0 :: .int x :: L) [.int a, .int b, .ref c] M Q ↔ Wp d 164 9 (v0 :: .int x :: L) [.int x, .int a, .int b, .ref c] M Q) ∧
    (∀ (d : Nat) (a : Int32) (b : Int32) (c : Int32) (d2 : Nat) (L : List Value) (M : Mem) (Q : Option Value → Mem → Prop), Wp d 164 9 L [.int a, .int b, .int c, .ref d2] M Q ↔ Wp d 164 10 L [.int (b * a), .int c, .ref d2] M Q) ∧
    (∀ (d : Nat) (a : Int32) (b : Int32) (c : Nat) (L : List Value) (M : Mem) (Q : Option Value → Mem → Prop), Wp d 164 10 L [.int a, .int b, .ref c] M Q ↔ Wp d 164 11 L [.int (b + a), .ref c] M Q) ∧
    (∀ (d : Nat) (a : Int32) (b : Nat) (v0 : Value) (v1 : Value) (x : Int32) (L : List Value) (M : Mem) (Q : Option Value → Mem → Prop), Wp d 164 11 (v0 :: v1 :: .int x :: L) [.int a, .ref b] M Q ↔ Wp d 164 12 (v0 :: v1 :: .int x :: L) [.int x, .int a, .ref b] M Q) ∧
    (∀ (d : Nat) (a : Int32) (b : Int32) (c : Nat) (L : List Value) (M : Mem) (Q : Option Value → Mem → Prop), Wp d 164 12 L [.int a, .int b, .ref c] M Q ↔ Wp d 164 13 L [.int (b + a), .ref c] M Q) ∧
    (∀ (d : Nat) (a : Int32) (b : Nat) (L : List Value) (M : Mem) (Q : Option Value → Mem → Prop), Wp d 164 13 L [.int a, .ref b] M Q ↔ ((isR b = true ∧ inr a (lnm M b)) ∧ Wp d 164 14 L [.int (M b a.toNatClampNeg)] M Q)) ∧
    (∀ (d : Nat) (a : Int32) (v0 : Value) (v1 : Value) (v2 : Value) (x : Value) (L : List Value) (M : Mem) (Q : Option Value → Mem → Prop), Wp d 164 14 (v0 :: v1 :: v2 :: x :: L) [.int a] M Q ↔ Wp d 164 15 (v0 :: v1 :: clr v2 :: .int a :: L) [] M Q) ∧
    (∀ (d : Nat) (v0 : Value) (v1 : Value) (v2 : Value) (x : Int32) (L : List Value) (M : Mem) (Q : Option Value → Mem → Prop), Wp d 164 15 (v0 :: v1 :: v2 :: .int x :: L) [] M Q ↔ Wp d 164 16 (v0 :: v1 :: v2 :: .int x :: L) [.int x] M Q) ∧
    (∀ (d : Nat) (a : Int32) (L : List Value) (M : Mem) (Q : Option Value → Mem → Prop), Wp d 164 16 L [.int a] M Q ↔ Wp d 164 17 L [.int 0, .int a] M Q) ∧
    (∀ (d : Nat) (a : Int32) (b : Int32) (x : Nat) (L : List Value) (M : Mem) (Q : Option Value → Mem → Prop), Wp d 164 17 (.ref x :: L) [.int a, .int b] M Q ↔ Wp d 164 18 (.ref x :: L) [.ref x, .int a, .int b] M Q) ∧
    (∀ (d : Nat) (a : Nat) (b : Int32) (c : Int32) (L : List Value) (M : Mem) (Q : Option Value → Mem → Prop), Wp d 164 18 L [.ref a, .int b, .int c] M Q ↔ (isK a 12 = true ∧ Wp d 164 21 L [.ref (rt a 2), .int b, .int c] M Q)) ∧
    (∀ (d : Nat) (a : Nat) (b : Int32) (c : Int32) (L : List Value) (M : Mem) (Q : Option Value → Mem → Prop), Wp d 164 21 L [.ref a, .int b, .int c] M Q ↔ Wp d 164 23 L [.int 6, .ref a, .int b, .int c] M Q) ∧
    (∀ (d : Nat) (a : Int32) (b : Nat) (c : Int32) (d2 : Int32) (v0 : Value) (v1 : Value) (x : Int32) (L : List Value) (M : Mem) (Q : Option Value → Mem → Prop), Wp d 164 23 (v0 :: v1 :: .int x :: L) [.int a, .ref b, .int c, .int d2] M Q ↔ Wp d 164 24 (v0 :: v1 :: .int x :: L) [.int x, .int a, .ref b, .int c, .int d2] M Q) ∧
    (∀ (d : Nat) (a : Int32) (b : Int32) (c : Nat) (d2 : Int32) (e : Int32) (L : List Value) (M : Mem) (Q : Option Value → Mem → Prop), Wp d 164 24 L [.int a, .int b, .ref c, .int d2, .int e] M Q ↔ Wp d 164 25 L [.int (b + a), .ref c, .int d2, .int e] M Q) ∧
    (∀ (d : Nat) (a : Int32) (b : Nat) (c : Int32) (d2 : Int32) (L : List Value) (M : Mem) (Q : Option Value → Mem → Prop), Wp d 164 25 L [.int a, .ref b, .int c, .int d2] M Q ↔ ((isR b = true ∧ inr a (lnm M b)) ∧ Wp d 164 26 L [.int (M b a.toNatClampNeg), .int c, .int d2] M Q)) ∧
    (∀ (d : Nat) (a : Int32) (b : Int32) (c : Int32) (L : List Value) (M : Mem) (Q : Option Value → Mem → Prop), Wp (d + 1) 164 26 L [.int a, .int b, .int c] M Q ↔ Wp d 134 0 [.int b, .int a] [] M (fun r M2 => Wp (d + 1) 164 29 L (r.toList ++ [.int c]) M2 Q)) ∧
    (∀ (d : Nat) (a : Int32) (b : Int32) (L : List Value) (M : Mem) (Q : Option Value → Mem → Prop), Wp (d + 1) 164 29 L [.int a, .int b] M Q ↔ Wp d 133 0 [.int b, .int a] [] M (fun r M2 => Wp (d + 1) 164 32 L (r.toList ++ []) M2 Q)) ∧
    (∀ (d : Nat) (a : Int32) (v0 : Value) (v1 : Value) (v2 : Value) (v3 : Value) (x : Value) (L : List Value) (M : Mem) (Q : Option Value → Mem → Prop), Wp d 164 32 (v0 :: v1 :: v2 :: v3 :: x :: L) [.int a] M Q ↔ Wp d 164 34 (v0 :: v1 :: v2 :: clr v3 :: .int a :: L) [] M Q) ∧
    (∀ (d : Nat) (x : Nat) (L : List Value) (M : Mem) (Q : Option Value → Mem → Prop), Wp d 164 34 (.ref x :: L) [] M Q ↔ Wp d 164 35 (.ref x :: L) [.ref x] M Q) ∧
    (∀ (d : Nat) (a : Nat) (v0 : Value) (v1 : Value) (x : Int32) (L : List Value) (M : Mem) (Q : Option Value → Mem → Prop), Wp d 164 35 (v0 :: v1 :: .int x :: L) [.ref a] M Q ↔ Wp d 164 36 (v0 :: v1 :: .int x :: L) [.int x, .ref a] M Q) ∧
    (∀ (d : Nat) (a : Int32) (b : Nat) (v0 : Value) (x : Int32) (L : List Value) (M : Mem) (Q : Option Value → Mem → Prop), Wp d 164 36 (v0 :: .int x :: L) [.int a, .ref b] M Q ↔ Wp d 164 37 (v0 :: .int x :: L) [.int x, .int a, .ref b] M Q) ∧
    (∀ (d : Nat) (a : Int32) (b : Int32) (c : Nat) (v0 : Value) (v1 : Value) (v2 : Value) (v3 : Value) (x : Int32) (L : List Value) (M : Mem) (Q : Option Value → Mem → Prop), Wp d 164 37 (v0 :: v1 :: v2 :: v3 :: .int x :: L) [.int a, .int b, .ref c] M Q ↔ Wp d 164 39 (v0 :: v1 :: v2 :: v3 :: .int x :: L) [.int x, .int a, .int b, .ref c] M Q) ∧
    (∀ (d : Nat) (a : Int32) (b : Int32) (c : Int32) (d2 : Nat) (L : List Value) (M : Mem) (Q : Option Value → Mem → Prop), Wp (d + 1) 164 39 L [.int a, .int b, .int c, .ref d2] M Q ↔ (isK d2 12 = true ∧ Wp d 161 0 [.ref d2, .int c, .int b, .int a] [] M (fun r M2 => Wp (d + 1) 164 42 L (r.toList ++ []) M2 Q))) ∧
    (∀ (d : Nat) (x : Nat) (L : List Value) (M : Mem) (Q : Option Value → Mem → Prop), Wp d 164 42 (.ref x :: L) [] M Q ↔ Wp d 164 43 (.ref x :: L) [.ref x] M Q) ∧
    (∀ (d : Nat) (a : Nat) (L : List Value) (M : Mem) (Q : Option Value → Mem → Prop), Wp d 164 43 L [.ref a] M Q ↔ (isK a 12 = true ∧ Wp d 164 46 L [.ref (rt a 2)] M Q)) ∧
    (∀ (d : Nat) (a : Nat) (L : List Value) (M : Mem) (Q : Option Value → Mem → Prop), Wp d 164 46 L [.ref a] M Q ↔ Wp d 164 47 L [.int 0, .ref a] M Q) ∧
    (∀ (d : Nat) (a : Int32) (b : Nat) (v0 : Value) (v1 : Value) (x : Int32) (L : List Value) (M : Mem) (Q : Option Value → Mem → Prop), Wp d 164 47 (v0 :: v1 :: .int x :: L) [.int a, .ref b] M Q ↔ Wp d 164 48 (v0 :: v1 :: .int x :: L) [.int x, .int a, .ref b] M Q) ∧
    (∀ (d : Nat) (a : Int32) (b : Int32) (c : Nat) (L : List Value) (M : Mem) (Q : Option Value → Mem → Prop), Wp d 164 48 L [.int a, .int b, .ref c] M Q ↔ Wp d 164 49 L [.int (b + a), .ref c] M Q) ∧
    (∀ (d : Nat) (a : Int32) (b : Nat) (v0 : Value) (v1 : Value) (v2 : Value) (v3 : Value) (x : Int32) (L : List Value) (M : Mem) (Q : Option Value → Mem → Prop), Wp d 164 49 (v0 :: v1 :: v2 :: v3 :: .int x :: L) [.int a, .ref b] M Q ↔ Wp d 164 51 (v0 :: v1 :: v2 :: v3 :: .int x :: L) [.int x, .int a, .ref b] M Q) ∧
    (∀ (d : Nat) (a : Int32) (b : Int32) (c : Nat) (v0 : Value) (v1 : Value) (v2 : Value) (x : Int32) (L : List Value) (M : Mem) (Q : Option Value → Mem → Prop), Wp d 164 51 (v0 :: v1 :: v2 :: .int x :: L) [.int a, .int b, .ref c] M Q ↔ Wp d 164 52 (v0 :: v1 :: v2 :: .int x :: L) [.int x, .int a, .int b, .ref c] M Q) ∧
    (∀ (d : Nat) (a : Int32) (b : Int32) (c : Int32) (d2 : Nat) (L : List Value) (M : Mem) (Q : Option Value → Mem → Prop), Wp d 164 52 L [.int a, .int b, .int c, .ref d2] M Q ↔ (if b < a then Wp d 164 55 L [.int c, .ref d2] M Q else Wp d 164 59 L [.int c, .ref d2] M Q)) ∧
    (∀ (d : Nat) (a : Int32) (b : Nat) (L : List Value) (M : Mem) (Q : Option Value → Mem → Prop), Wp d 164 55 L [.int a, .ref b] M Q ↔ Wp d 164 56 L [.int 4, .int a, .ref b] M Q) ∧
    (∀ (d : Nat) (a : Int32) (b : Int32) (c : Nat) (L : List Value) (M : Mem) (Q : Option Value → Mem → Prop), Wp d 164 56 L [.int a, .int b, .ref c] M Q ↔ Wp d 164 60 L [.int a, .int b, .ref c] M Q) ∧
    (∀ (d : Nat) (a : Int32) (b : Nat) (L : List Value) (M : Mem) (Q : Option Value → Mem → Prop), Wp d 164 59 L [.int a, .ref b] M Q ↔ Wp d 164 60 L [.int 1, .int a, .ref b] M Q) ∧
    (∀ (d : Nat) (a : Int32) (b : Int32) (c : Nat) (L : List Value) (M : Mem) (Q : Option Value → Mem → Prop), Wp d 164 60 L [.int a, .int b, .ref c] M Q ↔ ((isK c 13 = true ∧ inr b (lnm M c)) ∧ Wp d 164 61 L [] (up2 M c b.toNatClampNeg a) Q)) ∧
    (∀ (d : Nat) (v0 : Value) (v1 : Value) (v2 : Value) (v3 : Value) (x : Int32) (L : List Value) (M : Mem) (Q : Option Value → Mem → Prop), Wp d 164 61 (v0 :: v1 :: v2 :: v3 :: .int x :: L) [] M Q ↔ Wp d 164 63 (v0 :: v1 :: v2 :: v3 :: .int x :: L) [.int x] M Q) ∧
    (∀ (d : Nat) (a : Int32) (L : List Value) (M : Mem) (Q : Option Value → Mem → Prop), Wp d 164 63 L [.int a] M Q ↔ Q (some (.int a)) M) := by
  refine ⟨?_, ?_, ?_, ?_, ?_, ?_, ?_, ?_, ?_, ?_, ?_, ?_, ?_, ?_, ?_, ?_, ?_, ?_, ?_, ?_, ?_, ?_, ?_, ?_, ?_, ?_, ?_, ?_, ?_, ?_, ?_, ?_, ?_, ?_, ?_, ?_, ?_, ?_, ?_, ?_, ?_⟩
  · intro d x L M Q; exact Wp_sim (by decide +kernel : decode (cd 164) 0 = .ok (.aload_n 0, 1)) rfl rfl
  · intro d a L M Q; exact q_getR (p := 845) (by decide +kernel : decode (cd 164) 1 = .ok (.getfield 16, 3)) (by decide +kernel) (by decide +kernel)
  · intro d a L M Q; exact Wp_sim (by decide +kernel : decode (cd 164) 4 = .ok (.bipush 12, 2)) rfl rfl
  · intro d a b L M Q; exact Wp_sim (by decide +kernel : decode (cd 164) 6 = .ok (.bipush 6, 2)) rfl rfl
  · intro d a b c v0 x L M Q; exact Wp_sim (by decide +kernel : decode (cd 164) 8 = .ok (.iload_n 1, 1)) rfl rfl
  · intro d a b c d2 L M Q; exact Wp_sim (by decide +kernel : decode (cd 164) 9 = .ok (.imul , 1)) rfl rfl
  · intro d a b c L M Q; exact Wp_sim (by decide +kernel : decode (cd 164) 10 = .ok (.iadd , 1)) rfl rfl
  · intro d a b v0 v1 x L M Q; exact Wp_sim (by decide +kernel : decode (cd 164) 11 = .ok (.iload_n 2, 1)) rfl rfl
  · intro d a b c L M Q; exact Wp_sim (by decide +kernel : decode (cd 164) 12 = .ok (.iadd , 1)) rfl rfl
  · intro d a b L M Q; exact q_ald (by decide +kernel : decode (cd 164) 13 = .ok (.iaload , 1))
  · intro d a v0 v1 v2 x L M Q; exact Wp_sim (by decide +kernel : decode (cd 164) 14 = .ok (.istore_n 3, 1)) rfl rfl
  · intro d v0 v1 v2 x L M Q; exact Wp_sim (by decide +kernel : decode (cd 164) 15 = .ok (.iload_n 3, 1)) rfl rfl
  · intro d a L M Q; exact Wp_sim (by decide +kernel : decode (cd 164) 16 = .ok (.iconst 0, 1)) rfl rfl
  · intro d a b x L M Q; exact Wp_sim (by decide +kernel : decode (cd 164) 17 = .ok (.aload_n 0, 1)) rfl rfl
  · intro d a b c L M Q; exact q_getR (p := 845) (by decide +kernel : decode (cd 164) 18 = .ok (.getfield 16, 3)) (by decide +kernel) (by decide +kernel)
  · intro d a b c L M Q; exact Wp_sim (by decide +kernel : decode (cd 164) 21 = .ok (.bipush 6, 2)) rfl rfl
  · intro d a b c d2 v0 v1 x L M Q; exact Wp_sim (by decide +kernel : decode (cd 164) 23 = .ok (.iload_n 2, 1)) rfl rfl
  · intro d a b c d2 e L M Q; exact Wp_sim (by decide +kernel : decode (cd 164) 24 = .ok (.iadd , 1)) rfl rfl
  · intro d a b c d2 L M Q; exact q_ald (by decide +kernel : decode (cd 164) 25 = .ok (.iaload , 1))
  · intro d a b c L M Q; exact q_invS (pz := 1024) (n := 2) (m := 2) (As := [.int b, .int a]) (rest := [.int c]) (by decide +kernel : decode (cd 164) 26 = .ok (.invokestatic 61, 3)) (by decide +kernel) (by decide +kernel) (by decide +kernel) rfl rfl (Nat.le_of_ble_eq_true rfl) (Nat.le_of_ble_eq_true rfl) rfl
  · intro d a b L M Q; exact q_invS (pz := 1021) (n := 2) (m := 2) (As := [.int b, .int a]) (rest := []) (by decide +kernel : decode (cd 164) 29 = .ok (.invokestatic 57, 3)) (by decide +kernel) (by decide +kernel) (by decide +kernel) rfl rfl (Nat.le_of_ble_eq_true rfl) (Nat.le_of_ble_eq_true rfl) rfl
  · intro d a v0 v1 v2 v3 x L M Q; exact Wp_sim (by decide +kernel : decode (cd 164) 32 = .ok (.istore 4, 2)) rfl rfl
  · intro d x L M Q; exact Wp_sim (by decide +kernel : decode (cd 164) 34 = .ok (.aload_n 0, 1)) rfl rfl
  · intro d a v0 v1 x L M Q; exact Wp_sim (by decide +kernel : decode (cd 164) 35 = .ok (.iload_n 2, 1)) rfl rfl
  · intro d a b v0 x L M Q; exact Wp_sim (by decide +kernel : decode (cd 164) 36 = .ok (.iload_n 1, 1)) rfl rfl
  · intro d a b c v0 v1 v2 v3 x L M Q; exact Wp_sim (by decide +kernel : decode (cd 164) 37 = .ok (.iload 4, 2)) rfl rfl
  · intro d a b c d2 L M Q; exact q_invV (pz := 1137) (n := 3) (c := 12) (m := 4) (k := d2) (As := [.int c, .int b, .int a]) (rest := []) (by decide +kernel : decode (cd 164) 39 = .ok (.invokevirtual 227, 3)) (by decide +kernel) (by decide +kernel) rfl rfl (Nat.le_of_ble_eq_true rfl) (Nat.le_of_ble_eq_true rfl) rfl
  · intro d x L M Q; exact Wp_sim (by decide +kernel : decode (cd 164) 42 = .ok (.aload_n 0, 1)) rfl rfl
  · intro d a L M Q; exact q_getR (p := 845) (by decide +kernel : decode (cd 164) 43 = .ok (.getfield 16, 3)) (by decide +kernel) (by decide +kernel)
  · intro d a L M Q; exact Wp_sim (by decide +kernel : decode (cd 164) 46 = .ok (.iconst 0, 1)) rfl rfl
  · intro d a b v0 v1 x L M Q; exact Wp_sim (by decide +kernel : decode (cd 164) 47 = .ok (.iload_n 2, 1)) rfl rfl
  · intro d a b c L M Q; exact Wp_sim (by decide +kernel : decode (cd 164) 48 = .ok (.iadd , 1)) rfl rfl
  · intro d a b v0 v1 v2 v3 x L M Q; exact Wp_sim (by decide +kernel : decode (cd 164) 49 = .ok (.iload 4, 2)) rfl rfl
  · intro d a b c v0 v1 v2 x L M Q; exact Wp_sim (by decide +kernel : decode (cd 164) 51 = .ok (.iload_n 3, 1)) rfl rfl
  · intro d a b c d2 L M Q; exact q_ige (by decide +kernel : decode (cd 164) 52 = .ok (.if_icmp .ge 7, 3)) (by decide)
  · intro d a b L M Q; exact Wp_sim (by decide +kernel : decode (cd 164) 55 = .ok (.iconst 4, 1)) rfl rfl
  · intro d a b c L M Q; exact q_goto (by decide +kernel : decode (cd 164) 56 = .ok (.goto 4, 3)) (by decide)
  · intro d a b L M Q; exact Wp_sim (by decide +kernel : decode (cd 164) 59 = .ok (.iconst 1, 1)) rfl rfl
  · intro d a b c L M Q; exact q_ast (by decide +kernel : decode (cd 164) 60 = .ok (.iastore , 1))
  · intro d v0 v1 v2 v3 x L M Q; exact Wp_sim (by decide +kernel : decode (cd 164) 61 = .ok (.iload 4, 2)) rfl rfl
  · intro d a L M Q; exact q_iret (by decide +kernel : decode (cd 164) 63 = .ok (.ireturn , 1)) (by decide +kernel)

/- 165: PalaceYardModel.drift -/
set_option maxRecDepth 10000 in
theorem e165 : (∀ (d : Nat) (x : Nat) (L : List Value) (M : Mem) (Q : Option Value → Mem → Prop), Wp d 165 0 (.ref x :: L) [] M Q ↔ Wp d 165 1 (.ref x :: L) [.ref x] M Q) ∧
    (∀ (d : Nat) (a : Nat) (v0 : Value) (x : Int32) (L : List Value) (M : Mem) (Q : Option Value → Mem → Prop), Wp d 165 1 (v0 :: .int x :: L) [.ref a] M Q ↔ Wp d 165 2 (v0 :: .int x :: L) [.int x, .ref a] M Q) ∧
    (∀ (d : Nat) (a : Int32) (b : Nat) (L : List Value) (M : Mem) (Q : Option Value → Mem → Prop), Wp (d + 1) 165 2 L [.int a, .ref b] M Q ↔ (isK b 12 = true ∧ Wp d 147 0 [.ref b, .int a] [] M (fun r M2 => Wp (d + 1) 165 5 L (r.toList ++ []) M2 Q))) ∧
    (∀ (d : Nat) (a : Int32) (v0 : Value) (v1 : Value) (x : Value) (L : List Value) (M : Mem) (Q : Option Value → Mem → Prop), Wp d 165 5 (v0 :: v1 :: x :: L) [.int a] M Q ↔ Wp d 165 6 (v0 :: clr v1 :: .int a :: L) [] M Q) ∧
    (∀ (d : Nat) (v0 : Value) (v1 : Value) (x : Int32) (L : List Value) (M : Mem) (Q : Option Value → Mem → Prop), Wp d 165 6 (v0 :: v1 :: .int x :: L) [] M Q ↔ Wp d 165 7 (v0 :: v1 :: .int x :: L) [.int x] M Q) ∧
    (∀ (d : Nat) (a : Int32) (L : List Value) (M : Mem) (Q : Option Value → Mem → Prop), Wp d 165 7 L [.int a] M Q ↔ (if a = 0 then Wp d 165 12 L [] M Q else Wp d 165 10 L [] M Q)) ∧
    (∀ (d : Nat) (v0 : Value) (v1 : Value) (x : Int32) (L : List Value) (M : Mem) (Q : Option Value → Mem → Prop), Wp d 165 10 (v0 :: v1 :: .int x :: L) [] M Q ↔ Wp d 165 11 (v0 :: v1 :: .int x :: L) [.int x] M Q) ∧
    (∀ (d : Nat) (a : Int32) (L : List Value) (M : Mem) (Q : Option Value → Mem → Prop), Wp d 165 11 L [.int a] M Q ↔ Q (some (.int a)) M) ∧
    (∀ (d : Nat) (x : Nat) (L : List Value) (M : Mem) (Q : Option Value → Mem → Prop), Wp d 165 12 (.ref x :: L) [] M Q ↔ Wp d 165 13 (.ref x :: L) [.ref x] M Q) ∧
    (∀ (d : Nat) (a : Nat) (L : List Value) (M : Mem) (Q : Option Value → Mem → Prop), Wp (d + 1) 165 13 L [.ref a] M Q ↔ (isK a 12 = true ∧ Wp d 148 0 [.ref a, .null] [] M (fun r M2 => Wp (d + 1) 165 16 L (r.toList ++ []) M2 Q))) ∧
    (∀ (d : Nat) (L : List Value) (M : Mem) (Q : Option Value → Mem → Prop), Wp d 165 16 L [] M Q ↔ Wp d 165 17 L [.int 0] M Q) ∧
    (∀ (d : Nat) (a : Int32) (v0 : Value) (v1 : Value) (v2 : Value) (x : Value) (L : List Value) (M : Mem) (Q : Option Value → Mem → Prop), Wp d 165 17 (v0 :: v1 :: v2 :: x :: L) [.int a] M Q ↔ Wp d 165 18 (v0 :: v1 :: clr v2 :: .int a :: L) [] M Q) ∧
    (∀ (d : Nat) (a : Int32) (v0 : Value) (x : Int32) (L : List Value) (M : Mem) (Q : Option Value → Mem → Prop), Wp d 165 19 (v0 :: .int x :: L) [.int a] M Q ↔ Wp d 165 20 (v0 :: .int x :: L) [.int x, .int a] M Q) ∧
    (∀ (d : Nat) (a : Int32) (b : Int32) (L : List Value) (M : Mem) (Q : Option Value → Mem → Prop), Wp d 165 20 L [.int a, .int b] M Q ↔ (if b < a then Wp d 165 23 L [] M Q else Wp d 165 46 L [] M Q)) ∧
    (∀ (d : Nat) (x : Nat) (L : List Value) (M : Mem) (Q : Option Value → Mem → Prop), Wp d 165 23 (.ref x :: L) [] M Q ↔ Wp d 165 24 (.ref x :: L) [.ref x] M Q) ∧
    (∀ (d : Nat) (a : Nat) (L : List Value) (M : Mem) (Q : Option Value → Mem → Prop), Wp d 165 24 L [.ref a] M Q ↔ (isK a 12 = true ∧ Wp d 165 27 L [.ref (rt a 0)] M Q)) ∧
    (∀ (d : Nat) (a : Nat) (L : List Value) (M : Mem) (Q : Option Value → Mem → Prop), Wp d 165 27 L [.ref a] M Q ↔ Wp d 165 28 L [.int 4, .ref a] M Q) ∧
    (∀ (d : Nat) (a : Int32) (b : Nat) (L : List Value) (M : Mem) (Q : Option Value → Mem → Prop), Wp d 165 28 L [.int a, .ref b] M Q ↔ ((isR b = true ∧ inr a (lnm M b)) ∧ Wp d 165 29 L [.int (M b a.toNatClampNeg)] M Q)) ∧
    (∀ (d : Nat) (a : Int32) (L : List Value) (M : Mem) (Q : Option Value → Mem → Prop), Wp d 165 29 L [.int a] M Q ↔ (if 0 < a then Wp d 165 32 L [] M Q else Wp d 165 36 L [] M Q)) ∧
    (∀ (d : Nat) (x : Nat) (L : List Value) (M : Mem) (Q : Option Value → Mem → Prop), Wp d 165 32 (.ref x :: L) [] M Q ↔ Wp d 165 33 (.ref x :: L) [.ref x] M Q) ∧
    (∀ (d : Nat) (a : Nat) (L : List Value) (M : Mem) (Q : Option Value → Mem → Prop), Wp (d + 1) 165 33 L [.ref a] M Q ↔ (isK a 12 = true ∧ Wp d 166 0 [.ref a, .null, .null, .null, .null] [] M (fun r M2 => Wp (d + 1) 165 36 L (r.toList ++ []) M2 Q))) ∧
    (∀ (d : Nat) (x : Nat) (L : List Value) (M : Mem) (Q : Option Value → Mem → Prop), Wp d 165 36 (.ref x :: L) [] M Q ↔ Wp d 165 37 (.ref x :: L) [.ref x] M Q) ∧
    (∀ (d : Nat) (a : Nat) (L : List Value) (M : Mem) (Q : Option Value → Mem → Prop), Wp (d + 1) 165 37 L [.ref a] M Q ↔ (isK a 12 = true ∧ Wp d 149 0 [.ref a, .null, .null, .null] [] M (fun r M2 => Wp (d + 1) 165 40 L (r.toList ++ []) M2 Q))) ∧
    (∀ (d : Nat) (v0 : Value) (v1 : Value) (v2 : Value) (x : Int32) (L : List Value) (M : Mem) (Q : Option Value → Mem → Prop), Wp d 165 40 (v0 :: v1 :: v2 :: .int x :: L) [] M Q ↔ Wp d 165 43 (v0 :: v1 :: clr v2 :: .int (x + 1) :: L) [] M Q) ∧
    (∀ (d : Nat) (L : List Value) (M : Mem) (Q : Option Value → Mem → Prop), Wp d 165 43 L [] M Q ↔ Wp d 165 18 L [] M Q) ∧
    (∀ (d : Nat) (x : Nat) (L : List Value) (M : Mem) (Q : Option Value → Mem → Prop), Wp d 165 46 (.ref x :: L) [] M Q ↔ Wp d 165 47 (.ref x :: L) [.ref x] M Q) ∧
    (∀ (d : Nat) (a : Nat) (L : List Value) (M : Mem) (Q : Option Value → Mem → Prop), Wp d 165 47 L [.ref a] M Q ↔ (isK a 12 = true ∧ Wp d 165 50 L [.ref (rt a 2)] M Q)) ∧
    (∀ (d : Nat) (a : Nat) (L : List Value) (M : Mem) (Q : Option Value → Mem → Prop), Wp d 165 50 L [.ref a] M Q ↔ Wp d 165 52 L [.int 49, .ref a] M Q) ∧
    (∀ (d : Nat) (a : Int32) (b : Nat) (L : List Value) (M : Mem) (Q : Option Value → Mem → Prop), Wp d 165 52 L [.int a, .ref b] M Q ↔ ((isR b = true ∧ inr a (lnm M b)) ∧ Wp d 165 53 L [.int (M b a.toNatClampNeg)] M Q)) ∧
    (∀ (d : Nat) (a : Int32) (L : List Value) (M : Mem) (Q : Option Value → Mem → Prop), Wp d 165 53 L [.int a] M Q ↔ Q (some (.int a)) M) := by
  refine ⟨?_, ?_, ?_, ?_, ?_, ?_, ?_, ?_, ?_, ?_, ?_, ?_, ?_, ?_, ?_, ?_, ?_, ?_, ?_, ?_, ?_, ?_, ?_, ?_, ?_, ?_, ?_, ?_, ?_, ?_⟩
  · intro d x L M Q; exact Wp_sim (by decide +kernel : decode (cd 165) 0 = .ok (.aload_n 0, 1)) rfl rfl
  · intro d a v0 x L M Q; exact Wp_sim (by decide +kernel : decode (cd 165) 1 = .ok (.iload_n 1, 1)) rfl rfl
  · intro d a b L M Q; exact q_invV (pz := 1078) (n := 1) (c := 12) (m := 2) (k := b) (As := [.int a]) (rest := []) (by decide +kernel : decode (cd 165) 2 = .ok (.invokevirtual 201, 3)) (by decide +kernel) (by decide +kernel) rfl rfl (Nat.le_of_ble_eq_true rfl) (Nat.le_of_ble_eq_true rfl) rfl
  · intro d a v0 v1 x L M Q; exact Wp_sim (by decide +kernel : decode (cd 165) 5 = .ok (.istore_n 2, 1)) rfl rfl
  · intro d v0 v1 x L M Q; exact Wp_sim (by decide +kernel : decode (cd 165) 6 = .ok (.iload_n 2, 1)) rfl rfl
  · intro d a L M Q; exact q_zeq (by decide +kernel : decode (cd 165) 7 = .ok (.ifCond .eq 5, 3)) (by decide)
  · intro d v0 v1 x L M Q; exact Wp_sim (by decide +kernel : decode (cd 165) 10 = .ok (.iload_n 2, 1)) rfl rfl
  · intro d a L M Q; exact q_iret (by decide +kernel : decode (cd 165) 11 = .ok (.ireturn , 1)) (by decide +kernel)
  · intro d x L M Q; exact Wp_sim (by decide +kernel : decode (cd 165) 12 = .ok (.aload_n 0, 1)) rfl rfl
  · intro d a L M Q; exact q_invV (pz := 1084) (n := 0) (c := 12) (m := 2) (k := a) (As := []) (rest := []) (by decide +kernel : decode (cd 165) 13 = .ok (.invokevirtual 204, 3)) (by decide +kernel) (by decide +kernel) rfl rfl (Nat.le_of_ble_eq_true rfl) (Nat.le_of_ble_eq_true rfl) rfl
  · intro d L M Q; exact Wp_sim (by decide +kernel : decode (cd 165) 16 = .ok (.iconst 0, 1)) rfl rfl
  · intro d a v0 v1 v2 x L M Q; exact Wp_sim (by decide +kernel : decode (cd 165) 17 = .ok (.istore_n 3, 1)) rfl rfl
  · intro d a v0 x L M Q; exact Wp_sim (by decide +kernel : decode (cd 165) 19 = .ok (.iload_n 1, 1)) rfl rfl
  · intro d a b L M Q; exact q_ige (by decide +kernel : decode (cd 165) 20 = .ok (.if_icmp .ge 26, 3)) (by decide)
  · intro d x L M Q; exact Wp_sim (by decide +kernel : decode (cd 165) 23 = .ok (.aload_n 0, 1)) rfl rfl
  · intro d a L M Q; exact q_getR (p := 843) (by decide +kernel : decode (cd 165) 24 = .ok (.getfield 7, 3)) (by decide +kernel) (by decide +kernel)
  · intro d a L M Q; exact Wp_sim (by decide +kernel : decode (cd 165) 27 = .ok (.iconst 4, 1)) rfl rfl
  · intro d a b L M Q; exact q_ald (by decide +kernel : decode (cd 165) 28 = .ok (.iaload , 1))
  · intro d a L M Q; exact q_zle (by decide +kernel : decode (cd 165) 29 = .ok (.ifCond .le 7, 3)) (by decide)
  · intro d x L M Q; exact Wp_sim (by decide +kernel : decode (cd 165) 32 = .ok (.aload_n 0, 1)) rfl rfl
  · intro d a L M Q; exact q_invV (pz := 1157) (n := 0) (c := 12) (m := 5) (k := a) (As := []) (rest := []) (by decide +kernel : decode (cd 165) 33 = .ok (.invokevirtual 255, 3)) (by decide +kernel) (by decide +kernel) rfl rfl (Nat.le_of_ble_eq_true rfl) (Nat.le_of_ble_eq_true rfl) rfl
  · intro d x L M Q; exact Wp_sim (by decide +kernel : decode (cd 165) 36 = .ok (.aload_n 0, 1)) rfl rfl
  · intro d a L M Q; exact q_invV (pz := 1088) (n := 0) (c := 12) (m := 4) (k := a) (As := []) (rest := []) (by decide +kernel : decode (cd 165) 37 = .ok (.invokevirtual 207, 3)) (by decide +kernel) (by decide +kernel) rfl rfl (Nat.le_of_ble_eq_true rfl) (Nat.le_of_ble_eq_true rfl) rfl
  · intro d v0 v1 v2 x L M Q; exact Wp_sim (by decide +kernel : decode (cd 165) 40 = .ok (.iinc 3 1, 3)) rfl rfl
  · intro d L M Q; exact q_goto (by decide +kernel : decode (cd 165) 43 = .ok (.goto (-25), 3)) (by decide)
  · intro d x L M Q; exact Wp_sim (by decide +kernel : decode (cd 165) 46 = .ok (.aload_n 0, 1)) rfl rfl
  · intro d a L M Q; exact q_getR (p := 845) (by decide +kernel : decode (cd 165) 47 = .ok (.getfield 16, 3)) (by decide +kernel) (by decide +kernel)
  · intro d a L M Q; exact Wp_sim (by decide +kernel : decode (cd 165) 50 = .ok (.bipush 49, 2)) rfl rfl
  · intro d a b L M Q; exact q_ald (by decide +kernel : decode (cd 165) 52 = .ok (.iaload , 1))
  · intro d a L M Q; exact q_iret (by decide +kernel : decode (cd 165) 53 = .ok (.ireturn , 1)) (by decide +kernel)
theorem h165_18 : (∀ (d : Nat) (v0 : Value) (v1 : Value) (v2 : Value) (x : Int32) (L : List Value) (M : Mem) (Q : Option Value → Mem → Prop), Wp d 165 18 (v0 :: v1 :: v2 :: .int x :: L) [] M Q ↔ Wp d 165 19 (v0 :: v1 :: v2 :: .int x :: L) [.int x] M Q) := by
  intro d v0 v1 v2 x L M Q; exact Wp_sim (by decide +kernel : decode (cd 165) 18 = .ok (.iload_n 3, 1)) rfl rfl

/- 166: PalaceYardModel.drifts -/
set_option maxRecDepth 10000 in
theorem e166_0 : (∀ (d : Nat) (x : Nat) (L : List Value) (M : Mem) (Q : Option Value → Mem → Prop), Wp d 166 0 (.ref x :: L) [] M Q ↔ Wp d 166 1 (.ref x :: L) [.ref x] M Q) ∧
    (∀ (d : Nat) (a : Nat) (x : Nat) (L : List Value) (M : Mem) (Q : Option Value → Mem → Prop), Wp d 166 1 (.ref x :: L) [.ref a] M Q ↔ Wp d 166 2 (.ref x :: L) [.ref x, .ref a] M Q) ∧
    (∀ (d : Nat) (a : Nat) (b : Nat) (L : List Value) (M : Mem) (Q : Option Value → Mem → Prop), Wp d 166 2 L [.ref a, .ref b] M Q ↔ (isK a 12 = true ∧ Wp d 166 5 L [.ref (rt a 0), .ref b] M Q)) ∧
    (∀ (d : Nat) (a : Nat) (b : Nat) (L : List Value) (M : Mem) (Q : Option Value → Mem → Prop), Wp d 166 5 L [.ref a, .ref b] M Q ↔ Wp d 166 6 L [.int 4, .ref a, .ref b] M Q) ∧
    (∀ (d : Nat) (a : Int32) (b : Nat) (c : Nat) (L : List Value) (M : Mem) (Q : Option Value → Mem → Prop), Wp d 166 6 L [.int a, .ref b, .ref c] M Q ↔ ((isR b = true ∧ inr a (lnm M b)) ∧ Wp d 166 7 L [.int (M b a.toNatClampNeg), .ref c] M Q)) ∧
    (∀ (d : Nat) (a : Int32) (b : Nat) (L : List Value) (M : Mem) (Q : Option Value → Mem → Prop), Wp (d + 1) 166 7 L [.int a, .ref b] M Q ↔ (isK b 12 = true ∧ Wp d 167 0 [.ref b, .int a] [] M (fun r M2 => Wp (d + 1) 166 10 L (r.toList ++ []) M2 Q))) ∧
    (∀ (d : Nat) (a : Int32) (v0 : Value) (x : Value) (L : List Value) (M : Mem) (Q : Option Value → Mem → Prop), Wp d 166 10 (v0 :: x :: L) [.int a] M Q ↔ Wp d 166 11 (clr v0 :: .int a :: L) [] M Q) ∧
    (∀ (d : Nat) (x : Nat) (L : List Value) (M : Mem) (Q : Option Value → Mem → Prop), Wp d 166 11 (.ref x :: L) [] M Q ↔ Wp d 166 12 (.ref x :: L) [.ref x] M Q) ∧
    (∀ (d : Nat) (a : Nat) (L : List Value) (M : Mem) (Q : Option Value → Mem → Prop), Wp d 166 12 L [.ref a] M Q ↔ Wp d 166 13 L [.int 5, .ref a] M Q) ∧
    (∀ (d : Nat) (a : Int32) (b : Nat) (L : List Value) (M : Mem) (Q : Option Value → Mem → Prop), Wp (d + 1) 166 13 L [.int a, .ref b] M Q ↔ (isK b 12 = true ∧ Wp d 167 0 [.ref b, .int a] [] M (fun r M2 => Wp (d + 1) 166 16 L (r.toList ++ []) M2 Q))) ∧
    (∀ (d : Nat) (a : Int32) (v0 : Value) (v1 : Value) (x : Value) (L : List Value) (M : Mem) (Q : Option Value → Mem → Prop), Wp d 166 16 (v0 :: v1 :: x :: L) [.int a] M Q ↔ Wp d 166 17 (v0 :: clr v1 :: .int a :: L) [] M Q) ∧
    (∀ (d : Nat) (v0 : Value) (v1 : Value) (x : Int32) (L : List Value) (M : Mem) (Q : Option Value → Mem → Prop), Wp d 166 17 (v0 :: v1 :: .int x :: L) [] M Q ↔ Wp d 166 18 (v0 :: v1 :: .int x :: L) [.int x] M Q) ∧
    (∀ (d : Nat) (a : Int32) (L : List Value) (M : Mem) (Q : Option Value → Mem → Prop), Wp d 166 18 L [.int a] M Q ↔ (if a = 0 then Wp d 166 21 L [] M Q else Wp d 166 41 L [] M Q)) ∧
    (∀ (d : Nat) (x : Nat) (L : List Value) (M : Mem) (Q : Option Value → Mem → Prop), Wp d 166 21 (.ref x :: L) [] M Q ↔ Wp d 166 22 (.ref x :: L) [.ref x] M Q) ∧
    (∀ (d : Nat) (a : Nat) (v0 : Value) (x : Int32) (L : List Value) (M : Mem) (Q : Option Value → Mem → Prop), Wp d 166 22 (v0 :: .int x :: L) [.ref a] M Q ↔ Wp d 166 23 (v0 :: .int x :: L) [.int x, .ref a] M Q) ∧
    (∀ (d : Nat) (a : Int32) (b : Nat) (L : List Value) (M : Mem) (Q : Option Value → Mem → Prop), Wp (d + 1) 166 23 L [.int a, .ref b] M Q ↔ (isK b 12 = true ∧ Wp d 153 0 [.ref b, .int a] [] M (fun r M2 => Wp (d + 1) 166 26 L (r.toList ++ []) M2 Q))) ∧
    (∀ (d : Nat) (a : Int32) (L : List Value) (M : Mem) (Q : Option Value → Mem → Prop), Wp d 166 26 L [.int a] M Q ↔ (if a = 0 then Wp d 166 41 L [] M Q else Wp d 166 29 L [] M Q)) ∧
    (∀ (d : Nat) (x : Nat) (L : List Value) (M : Mem) (Q : Option Value → Mem → Prop), Wp d 166 29 (.ref x :: L) [] M Q ↔ Wp d 166 30 (.ref x :: L) [.ref x] M Q) ∧
    (∀ (d : Nat) (a : Nat) (L : List Value) (M : Mem) (Q : Option Value → Mem → Prop), Wp d 166 30 L [.ref a] M Q ↔ (isK a 12 = true ∧ Wp d 166 33 L [.ref (rt a 2)] M Q)) ∧
    (∀ (d : Nat) (a : Nat) (L : List Value) (M : Mem) (Q : Option Value → Mem → Prop), Wp d 166 33 L [.ref a] M Q ↔ Wp d 166 34 L [.int 0, .ref a] M Q) ∧
    (∀ (d : Nat) (a : Int32) (b : Nat) (v0 : Value) (x : Int32) (L : List Value) (M : Mem) (Q : Option Value → Mem → Prop), Wp d 166 34 (v0 :: .int x :: L) [.int a, .ref b] M Q ↔ Wp d 166 35 (v0 :: .int x :: L) [.int x, .int a, .ref b] M Q) ∧
    (∀ (d : Nat) (a : Int32) (b : Int32) (c : Nat) (L : List Value) (M : Mem) (Q : Option Value → Mem → Prop), Wp d 166 35 L [.int a, .int b, .ref c] M Q ↔ Wp d 166 36 L [.int (b + a), .ref c] M Q) ∧
    (∀ (d : Nat) (a : Int32) (b : Nat) (L : List Value) (M : Mem) (Q : Option Value → Mem → Prop), Wp d 166 36 L [.int a, .ref b] M Q ↔ Wp d 166 37 L [.int 1, .int a, .ref b] M Q) ∧
    (∀ (d : Nat) (a : Int32) (b : Int32) (c : Nat) (L : List Value) (M : Mem) (Q : Option Value → Mem → Prop), Wp d 166 37 L [.int a, .int b, .ref c] M Q ↔ ((isK c 13 = true ∧ inr b (lnm M c)) ∧ Wp d 166 38 L [] (up2 M c b.toNatClampNeg a) Q)) ∧
    (∀ (d : Nat) (L : List Value) (M : Mem) (Q : Option Value → Mem → Prop), Wp d 166 38 L [] M Q ↔ Wp d 166 184 L [] M Q) ∧
    (∀ (d : Nat) (v0 : Value) (v1 : Value) (x : Int32) (L : List Value) (M : Mem) (Q : Option Value → Mem → Prop), Wp d 166 41 (v0 :: v1 :: .int x :: L) [] M Q ↔ Wp d 166 42 (v0 :: v1 :: .int x :: L) [.int x] M Q) ∧
    (∀ (d : Nat) (a : Int32) (L : List Value) (M : Mem) (Q : Option Value → Mem → Prop), Wp d 166 42 L [.int a] M Q ↔ Wp d 166 43 L [.int 1, .int a] M Q) ∧
    (∀ (d : Nat) (a : Int32) (b : Int32) (L : List Value) (M : Mem) (Q : Option Value → Mem → Prop), Wp d 166 43 L [.int a, .int b] M Q ↔ (if b = a then Wp d 166 46 L [] M Q else Wp d 166 70 L [] M Q)) ∧
    (∀ (d : Nat) (x : Nat) (L : List Value) (M : Mem) (Q : Option Value → Mem → Prop), Wp d 166 46 (.ref x :: L) [] M Q ↔ Wp d 166 47 (.ref x :: L) [.ref x] M Q) ∧
    (∀ (d : Nat) (a : Nat) (L : List Value) (M : Mem) (Q : Option Value → Mem → Prop), Wp d 166 47 L [.ref a] M Q ↔ (isK a 12 = true ∧ Wp d 166 50 L [.ref (rt a 2)] M Q)) ∧
    (∀ (d : Nat) (a : Nat) (L : List Value) (M : Mem) (Q : Option Value → Mem → Prop), Wp d 166 50 L [.ref a] M Q ↔ Wp d 166 51 L [.int 0, .ref a] M Q) ∧
    (∀ (d : Nat) (a : Int32) (b : Nat) (v0 : Value) (x : Int32) (L : List Value) (M : Mem) (Q : Option Value → Mem → Prop), Wp d 166 51 (v0 :: .int x :: L) [.int a, .ref b] M Q ↔ Wp d 166 52 (v0 :: .int x :: L) [.int x, .int a, .ref b] M Q) ∧
    (∀ (d : Nat) (a : Int32) (b : Int32) (c : Nat) (L : List Value) (M : Mem) (Q : Option Value → Mem → Prop), Wp d 166 52 L [.int a, .int b, .ref c] M Q ↔ Wp d 166 53 L [.int (b + a), .ref c] M Q) ∧
    (∀ (d : Nat) (a : Int32) (b : Nat) (L : List Value) (M : Mem) (Q : Option Value → Mem → Prop), Wp d 166 53 L [.int a, .ref b] M Q ↔ ((isR b = true ∧ inr a (lnm M b)) ∧ Wp d 166 54 L [.int (M b a.toNatClampNeg)] M Q)) ∧
    (∀ (d : Nat) (a : Int32) (L : List Value) (M : Mem) (Q : Option Value → Mem → Prop), Wp d 166 54 L [.int a] M Q ↔ Wp d 166 55 L [.int 1, .int a] M Q) ∧
    (∀ (d : Nat) (a : Int32) (b : Int32) (L : List Value) (M : Mem) (Q : Option Value → Mem → Prop), Wp d 166 55 L [.int a, .int b] M Q ↔ (if b = a then Wp d 166 58 L [] M Q else Wp d 166 70 L [] M Q)) ∧
    (∀ (d : Nat) (x : Nat) (L : List Value) (M : Mem) (Q : Option Value → Mem → Prop), Wp d 166 58 (.ref x :: L) [] M Q ↔ Wp d 166 59 (.ref x :: L) [.ref x] M Q) ∧
    (∀ (d : Nat) (a : Nat) (L : List Value) (M : Mem) (Q : Option Value → Mem → Prop), Wp d 166 59 L [.ref a] M Q ↔ (isK a 12 = true ∧ Wp d 166 62 L [.ref (rt a 2)] M Q)) ∧
    (∀ (d : Nat) (a : Nat) (L : List Value) (M : Mem) (Q : Option Value → Mem → Prop), Wp d 166 62 L [.ref a] M Q ↔ Wp d 166 63 L [.int 0, .ref a] M Q) ∧
    (∀ (d : Nat) (a : Int32) (b : Nat) (v0 : Value) (x : Int32) (L : List Value) (M : Mem) (Q : Option Value → Mem → Prop), Wp d 166 63 (v0 :: .int x :: L) [.int a, .ref b] M Q ↔ Wp d 166 64 (v0 :: .int x :: L) [.int x, .int a, .ref b] M Q) ∧
    (∀ (d : Nat) (a : Int32) (b : Int32) (c : Nat) (L : List Value) (M : Mem) (Q : Option Value → Mem → Prop), Wp d 166 64 L [.int a, .int b, .ref c] M Q ↔ Wp d 166 65 L [.int (b + a), .ref c] M Q) ∧
    (∀ (d : Nat) (a : Int32) (b : Nat) (L : List Value) (M : Mem) (Q : Option Value → Mem → Prop), Wp d 166 65 L [.int a, .ref b] M Q ↔ Wp d 166 66 L [.int 0, .int a, .ref b] M Q) ∧
    (∀ (d : Nat) (a : Int32) (b : Int32) (c : Nat) (L : List Value) (M : Mem) (Q : Option Value → Mem → Prop), Wp d 166 66 L [.int a, .int b, .ref c] M Q ↔ ((isK c 13 = true ∧ inr b (lnm M c)) ∧ Wp d 166 67 L [] (up2 M c b.toNatClampNeg a) Q)) ∧
    (∀ (d : Nat) (L : List Value) (M : Mem) (Q : Option Value → Mem → Prop), Wp d 166 67 L [] M Q ↔ Wp d 166 184 L [] M Q) ∧
    (∀ (d : Nat) (v0 : Value) (v1 : Value) (x : Int32) (L : List Value) (M : Mem) (Q : Option Value → Mem → Prop), Wp d 166 70 (v0 :: v1 :: .int x :: L) [] M Q ↔ Wp d 166 71 (v0 :: v1 :: .int x :: L) [.int x] M Q) ∧
    (∀ (d : Nat) (a : Int32) (L : List Value) (M : Mem) (Q : Option Value → Mem → Prop), Wp d 166 71 L [.int a] M Q ↔ Wp d 166 72 L [.int 2, .int a] M Q) ∧
    (∀ (d : Nat) (a : Int32) (b : Int32) (L : List Value) (M : Mem) (Q : Option Value → Mem → Prop), Wp d 166 72 L [.int a, .int b] M Q ↔ (if b = a then Wp d 166 75 L [] M Q else Wp d 166 92 L [] M Q)) ∧
    (∀ (d : Nat) (x : Nat) (L : List Value) (M : Mem) (Q : Option Value → Mem → Prop), Wp d 166 75 (.ref x :: L) [] M Q ↔ Wp d 166 76 (.ref x :: L) [.ref x] M Q) ∧
    (∀ (d : Nat) (a : Nat) (v0 : Value) (x : Int32) (L : List Value) (M : Mem) (Q : Option Value → Mem → Prop), Wp d 166 76 (v0 :: .int x :: L) [.ref a] M Q ↔ Wp d 166 77 (v0 :: .int x :: L) [.int x, .ref a] M Q) ∧
    (∀ (d : Nat) (a : Int32) (b : Nat) (L : List Value) (M : Mem) (Q : Option Value → Mem → Prop), Wp (d + 1) 166 77 L [.int a, .ref b] M Q ↔ (isK b 12 = true ∧ Wp d 156 0 [.ref b, .int a] [] M (fun r M2 => Wp (d + 1) 166 80 L (r.toList ++ []) M2 Q))) ∧
    (∀ (d : Nat) (a : Int32) (L : List Value) (M : Mem) (Q : Option Value → Mem → Prop), Wp d 166 80 L [.int a] M Q ↔ (if a = 0 then Wp d 166 92 L [] M Q else Wp d 166 83 L [] M Q)) ∧
    (∀ (d : Nat) (x : Nat) (L : List Value) (M : Mem) (Q : Option Value → Mem → Prop), Wp d 166 83 (.ref x :: L) [] M Q ↔ Wp d 166 84 (.ref x :: L) [.ref x] M Q) ∧
    (∀ (d : Nat) (a : Nat) (v0 : Value) (x : Int32) (L : List Value) (M : Mem) (Q : Option Value → Mem → Prop), Wp d 166 84 (v0 :: .int x :: L) [.ref a] M Q ↔ Wp d 166 85 (v0 :: .int x :: L) [.int x, .ref a] M Q) ∧
    (∀ (d : Nat) (a : Int32) (b : Nat) (L : List Value) (M : Mem) (Q : Option Value → Mem → Prop), Wp (d + 1) 166 85 L [.int a, .ref b] M Q ↔ (isK b 12 = true ∧ Wp d 157 0 [.ref b, .int a, .null] [] M (fun r M2 => Wp (d + 1) 166 88 L (r.toList ++ []) M2 Q))) ∧
    (∀ (d : Nat) (a : Int32) (v0 : Value) (v1 : Value) (v2 : Value) (x : Value) (L : List Value) (M : Mem) (Q : Option Value → Mem → Prop), Wp d 166 88 (v0 :: v1 :: v2 :: x :: L) [.int a] M Q ↔ Wp d 166 89 (v0 :: v1 :: clr v2 :: .int a :: L) [] M Q) ∧
    (∀ (d : Nat) (L : List Value) (M : Mem) (Q : Option Value → Mem → Prop), Wp d 166 89 L [] M Q ↔ Wp d 166 184 L [] M Q) ∧
    (∀ (d : Nat) (v0 : Value) (v1 : Value) (x : Int32) (L : List Value) (M : Mem) (Q : Option Value → Mem → Prop), Wp d 166 92 (v0 :: v1 :: .int x :: L) [] M Q ↔ Wp d 166 93 (v0 :: v1 :: .int x :: L) [.int x] M Q) ∧
    (∀ (d : Nat) (a : Int32) (L : List Value) (M : Mem) (Q : Option Value → Mem → Prop), Wp d 166 93 L [.int a] M Q ↔ Wp d 166 94 L [.int 3, .int a] M Q) ∧
    (∀ (d : Nat) (a : Int32) (b : Int32) (L : List Value) (M : Mem) (Q : Option Value → Mem → Prop), Wp d 166 94 L [.int a, .int b] M Q ↔ (if b = a then Wp d 166 97 L [] M Q else Wp d 166 151 L [] M Q)) ∧
    (∀ (d : Nat) (x : Nat) (L : List Value) (M : Mem) (Q : Option Value → Mem → Prop), Wp d 166 97 (.ref x :: L) [] M Q ↔ Wp d 166 98 (.ref x :: L) [.ref x] M Q) := by
  refine ⟨?_, ?_, ?_, ?_, ?_, ?_, ?_, ?_, ?_, ?_, ?_, ?_, ?_, ?_, ?_, ?_, ?_, ?_, ?_, ?_, ?_, ?_, ?_, ?_, ?_, ?_, ?_, ?_, ?_, ?_, ?_, ?_, ?_, ?_, ?_, ?_, ?_, ?_, ?_, ?_, ?_, ?_, ?_, ?_, ?_, ?_, ?_, ?_, ?_, ?_, ?_, ?_, ?_, ?_, ?_, ?_, ?_, ?_, ?_, ?_⟩
  · intro d x L M Q; exact Wp_sim (by decide +kernel : decode (cd 166) 0 = .ok (.aload_n 0, 1)) rfl rfl
  · intro d a x L M Q; exact Wp_sim (by decide +kernel : decode (cd 166) 1 = .ok (.aload_n 0, 1)) rfl rfl
  · intro d a b L M Q; exact q_getR (p := 843) (by decide +kernel : decode (cd 166) 2 = .ok (.getfield 7, 3)) (by decide +kernel) (by decide +kernel)
  · intro d a b L M Q; exact Wp_sim (by decide +kernel : decode (cd 166) 5 = .ok (.iconst 4, 1)) rfl rfl
  · intro d a b c L M Q; exact q_ald (by decide +kernel : decode (cd 166) 6 = .ok (.iaload , 1))
  · intro d a b L M Q; exact q_invV (pz := 1161) (n := 1) (c := 12) (m := 2) (k := b) (As := [.int a]) (rest := []) (by decide +kernel : decode (cd 166) 7 = .ok (.invokevirtual 249, 3)) (by decide +kernel) (by decide +kernel) rfl rfl (Nat.le_of_ble_eq_true rfl) (Nat.le_of_ble_eq_true rfl) rfl
  · intro d a v0 x L M Q; exact Wp_sim (by decide +kernel : decode (cd 166) 10 = .ok (.istore_n 1, 1)) rfl rfl
  · intro d x L M Q; exact Wp_sim (by decide +kernel : decode (cd 166) 11 = .ok (.aload_n 0, 1)) rfl rfl
  · intro d a L M Q; exact Wp_sim (by decide +kernel : decode (cd 166) 12 = .ok (.iconst 5, 1)) rfl rfl
  · intro d a b L M Q; exact q_invV (pz := 1161) (n := 1) (c := 12) (m := 2) (k := b) (As := [.int a]) (rest := []) (by decide +kernel : decode (cd 166) 13 = .ok (.invokevirtual 249, 3)) (by decide +kernel) (by decide +kernel) rfl rfl (Nat.le_of_ble_eq_true rfl) (Nat.le_of_ble_eq_true rfl) rfl
  · intro d a v0 v1 x L M Q; exact Wp_sim (by decide +kernel : decode (cd 166) 16 = .ok (.istore_n 2, 1)) rfl rfl
  · intro d v0 v1 x L M Q; exact Wp_sim (by decide +kernel : decode (cd 166) 17 = .ok (.iload_n 2, 1)) rfl rfl
  · intro d a L M Q; exact q_zne (by decide +kernel : decode (cd 166) 18 = .ok (.ifCond .ne 23, 3)) (by decide)
  · intro d x L M Q; exact Wp_sim (by decide +kernel : decode (cd 166) 21 = .ok (.aload_n 0, 1)) rfl rfl
  · intro d a v0 x L M Q; exact Wp_sim (by decide +kernel : decode (cd 166) 22 = .ok (.iload_n 1, 1)) rfl rfl
  · intro d a b L M Q; exact q_invV (pz := 1104) (n := 1) (c := 12) (m := 2) (k := b) (As := [.int a]) (rest := []) (by decide +kernel : decode (cd 166) 23 = .ok (.invokevirtual 210, 3)) (by decide +kernel) (by decide +kernel) rfl rfl (Nat.le_of_ble_eq_true rfl) (Nat.le_of_ble_eq_true rfl) rfl
  · intro d a L M Q; exact q_zeq (by decide +kernel : decode (cd 166) 26 = .ok (.ifCond .eq 15, 3)) (by decide)
  · intro d x L M Q; exact Wp_sim (by decide +kernel : decode (cd 166) 29 = .ok (.aload_n 0, 1)) rfl rfl
  · intro d a L M Q; exact q_getR (p := 845) (by decide +kernel : decode (cd 166) 30 = .ok (.getfield 16, 3)) (by decide +kernel) (by decide +kernel)
  · intro d a L M Q; exact Wp_sim (by decide +kernel : decode (cd 166) 33 = .ok (.iconst 0, 1)) rfl rfl
  · intro d a b v0 x L M Q; exact Wp_sim (by decide +kernel : decode (cd 166) 34 = .ok (.iload_n 1, 1)) rfl rfl
  · intro d a b c L M Q; exact Wp_sim (by decide +kernel : decode (cd 166) 35 = .ok (.iadd , 1)) rfl rfl
  · intro d a b L M Q; exact Wp_sim (by decide +kernel : decode (cd 166) 36 = .ok (.iconst 1, 1)) rfl rfl
  · intro d a b c L M Q; exact q_ast (by decide +kernel : decode (cd 166) 37 = .ok (.iastore , 1))
  · intro d L M Q; exact q_goto (by decide +kernel : decode (cd 166) 38 = .ok (.goto 146, 3)) (by decide)
  · intro d v0 v1 x L M Q; exact Wp_sim (by decide +kernel : decode (cd 166) 41 = .ok (.iload_n 2, 1)) rfl rfl
  · intro d a L M Q; exact Wp_sim (by decide +kernel : decode (cd 166) 42 = .ok (.iconst 1, 1)) rfl rfl
  · intro d a b L M Q; exact q_ine (by decide +kernel : decode (cd 166) 43 = .ok (.if_icmp .ne 27, 3)) (by decide)
  · intro d x L M Q; exact Wp_sim (by decide +kernel : decode (cd 166) 46 = .ok (.aload_n 0, 1)) rfl rfl
  · intro d a L M Q; exact q_getR (p := 845) (by decide +kernel : decode (cd 166) 47 = .ok (.getfield 16, 3)) (by decide +kernel) (by decide +kernel)
  · intro d a L M Q; exact Wp_sim (by decide +kernel : decode (cd 166) 50 = .ok (.iconst 0, 1)) rfl rfl
  · intro d a b v0 x L M Q; exact Wp_sim (by decide +kernel : decode (cd 166) 51 = .ok (.iload_n 1, 1)) rfl rfl
  · intro d a b c L M Q; exact Wp_sim (by decide +kernel : decode (cd 166) 52 = .ok (.iadd , 1)) rfl rfl
  · intro d a b L M Q; exact q_ald (by decide +kernel : decode (cd 166) 53 = .ok (.iaload , 1))
  · intro d a L M Q; exact Wp_sim (by decide +kernel : decode (cd 166) 54 = .ok (.iconst 1, 1)) rfl rfl
  · intro d a b L M Q; exact q_ine (by decide +kernel : decode (cd 166) 55 = .ok (.if_icmp .ne 15, 3)) (by decide)
  · intro d x L M Q; exact Wp_sim (by decide +kernel : decode (cd 166) 58 = .ok (.aload_n 0, 1)) rfl rfl
  · intro d a L M Q; exact q_getR (p := 845) (by decide +kernel : decode (cd 166) 59 = .ok (.getfield 16, 3)) (by decide +kernel) (by decide +kernel)
  · intro d a L M Q; exact Wp_sim (by decide +kernel : decode (cd 166) 62 = .ok (.iconst 0, 1)) rfl rfl
  · intro d a b v0 x L M Q; exact Wp_sim (by decide +kernel : decode (cd 166) 63 = .ok (.iload_n 1, 1)) rfl rfl
  · intro d a b c L M Q; exact Wp_sim (by decide +kernel : decode (cd 166) 64 = .ok (.iadd , 1)) rfl rfl
  · intro d a b L M Q; exact Wp_sim (by decide +kernel : decode (cd 166) 65 = .ok (.iconst 0, 1)) rfl rfl
  · intro d a b c L M Q; exact q_ast (by decide +kernel : decode (cd 166) 66 = .ok (.iastore , 1))
  · intro d L M Q; exact q_goto (by decide +kernel : decode (cd 166) 67 = .ok (.goto 117, 3)) (by decide)
  · intro d v0 v1 x L M Q; exact Wp_sim (by decide +kernel : decode (cd 166) 70 = .ok (.iload_n 2, 1)) rfl rfl
  · intro d a L M Q; exact Wp_sim (by decide +kernel : decode (cd 166) 71 = .ok (.iconst 2, 1)) rfl rfl
  · intro d a b L M Q; exact q_ine (by decide +kernel : decode (cd 166) 72 = .ok (.if_icmp .ne 20, 3)) (by decide)
  · intro d x L M Q; exact Wp_sim (by decide +kernel : decode (cd 166) 75 = .ok (.aload_n 0, 1)) rfl rfl
  · intro d a v0 x L M Q; exact Wp_sim (by decide +kernel : decode (cd 166) 76 = .ok (.iload_n 1, 1)) rfl rfl
  · intro d a b L M Q; exact q_invV (pz := 1116) (n := 1) (c := 12) (m := 2) (k := b) (As := [.int a]) (rest := []) (by decide +kernel : decode (cd 166) 77 = .ok (.invokevirtual 213, 3)) (by decide +kernel) (by decide +kernel) rfl rfl (Nat.le_of_ble_eq_true rfl) (Nat.le_of_ble_eq_true rfl) rfl
  · intro d a L M Q; exact q_zeq (by decide +kernel : decode (cd 166) 80 = .ok (.ifCond .eq 12, 3)) (by decide)
  · intro d x L M Q; exact Wp_sim (by decide +kernel : decode (cd 166) 83 = .ok (.aload_n 0, 1)) rfl rfl
  · intro d a v0 x L M Q; exact Wp_sim (by decide +kernel : decode (cd 166) 84 = .ok (.iload_n 1, 1)) rfl rfl
  · intro d a b L M Q; exact q_invV (pz := 1120) (n := 1) (c := 12) (m := 3) (k := b) (As := [.int a]) (rest := []) (by decide +kernel : decode (cd 166) 85 = .ok (.invokevirtual 216, 3)) (by decide +kernel) (by decide +kernel) rfl rfl (Nat.le_of_ble_eq_true rfl) (Nat.le_of_ble_eq_true rfl) rfl
  · intro d a v0 v1 v2 x L M Q; exact Wp_sim (by decide +kernel : decode (cd 166) 88 = .ok (.istore_n 3, 1)) rfl rfl
  · intro d L M Q; exact q_goto (by decide +kernel : decode (cd 166) 89 = .ok (.goto 95, 3)) (by decide)
  · intro d v0 v1 x L M Q; exact Wp_sim (by decide +kernel : decode (cd 166) 92 = .ok (.iload_n 2, 1)) rfl rfl
  · intro d a L M Q; exact Wp_sim (by decide +kernel : decode (cd 166) 93 = .ok (.iconst 3, 1)) rfl rfl
  · intro d a b L M Q; exact q_ine (by decide +kernel : decode (cd 166) 94 = .ok (.if_icmp .ne 57, 3)) (by decide)
  · intro d x L M Q; exact Wp_sim (by decide +kernel : decode (cd 166) 97 = .ok (.aload_n 0, 1)) rfl rfl
set_option maxRecDepth 10000 in
theorem e166_1 : (∀ (d : Nat) (a : Nat) (L : List Value) (M : Mem) (Q : Option Value → Mem → Prop), Wp d 166 98 L [.ref a] M Q ↔ Wp d 166 100 L [.int 20, .ref a] M Q) ∧
    (∀ (d : Nat) (a : Int32) (b : Nat) (L : List Value) (M : Mem) (Q : Option Value → Mem → Prop), Wp (d + 1) 166 100 L [.int a, .ref b] M Q ↔ (isK b 12 = true ∧ Wp d 167 0 [.ref b, .int a] [] M (fun r M2 => Wp (d + 1) 166 103 L (r.toList ++ []) M2 Q))) ∧
    (∀ (d : Nat) (a : Int32) (L : List Value) (M : Mem) (Q : Option Value → Mem → Prop), Wp d 166 103 L [.int a] M Q ↔ Wp d 166 104 L [.int 1, .int a] M Q) ∧
    (∀ (d : Nat) (a : Int32) (b : Int32) (L : List Value) (M : Mem) (Q : Option Value → Mem → Prop), Wp d 166 104 L [.int a, .int b] M Q ↔ Wp d 166 105 L [.int (b + a)] M Q) ∧
    (∀ (d : Nat) (a : Int32) (v0 : Value) (v1 : Value) (v2 : Value) (x : Value) (L : List Value) (M : Mem) (Q : Option Value → Mem → Prop), Wp d 166 105 (v0 :: v1 :: v2 :: x :: L) [.int a] M Q ↔ Wp d 166 106 (v0 :: v1 :: clr v2 :: .int a :: L) [] M Q) ∧
    (∀ (d : Nat) (x : Nat) (L : List Value) (M : Mem) (Q : Option Value → Mem → Prop), Wp d 166 106 (.ref x :: L) [] M Q ↔ Wp d 166 107 (.ref x :: L) [.ref x] M Q) ∧
    (∀ (d : Nat) (a : Nat) (x : Nat) (L : List Value) (M : Mem) (Q : Option Value → Mem → Prop), Wp d 166 107 (.ref x :: L) [.ref a] M Q ↔ Wp d 166 108 (.ref x :: L) [.ref x, .ref a] M Q) ∧
    (∀ (d : Nat) (a : Nat) (b : Nat) (L : List Value) (M : Mem) (Q : Option Value → Mem → Prop), Wp d 166 108 L [.ref a, .ref b] M Q ↔ (isK a 12 = true ∧ Wp d 166 111 L [.ref (rt a 0), .ref b] M Q)) ∧
    (∀ (d : Nat) (a : Nat) (b : Nat) (L : List Value) (M : Mem) (Q : Option Value → Mem → Prop), Wp d 166 111 L [.ref a, .ref b] M Q ↔ Wp d 166 112 L [.int 4, .ref a, .ref b] M Q) ∧
    (∀ (d : Nat) (a : Int32) (b : Nat) (c : Nat) (L : List Value) (M : Mem) (Q : Option Value → Mem → Prop), Wp d 166 112 L [.int a, .ref b, .ref c] M Q ↔ ((isR b = true ∧ inr a (lnm M b)) ∧ Wp d 166 113 L [.int (M b a.toNatClampNeg), .ref c] M Q)) ∧
    (∀ (d : Nat) (a : Int32) (b : Nat) (L : List Value) (M : Mem) (Q : Option Value → Mem → Prop), Wp (d + 1) 166 113 L [.int a, .ref b] M Q ↔ (isK b 12 = true ∧ Wp d 167 0 [.ref b, .int a] [] M (fun r M2 => Wp (d + 1) 166 116 L (r.toList ++ []) M2 Q))) ∧
    (∀ (d : Nat) (a : Int32) (v0 : Value) (v1 : Value) (v2 : Value) (v3 : Value) (x : Value) (L : List Value) (M : Mem) (Q : Option Value → Mem → Prop), Wp d 166 116 (v0 :: v1 :: v2 :: v3 :: x :: L) [.int a] M Q ↔ Wp d 166 118 (v0 :: v1 :: v2 :: clr v3 :: .int a :: L) [] M Q) ∧
    (∀ (d : Nat) (x : Nat) (L : List Value) (M : Mem) (Q : Option Value → Mem → Prop), Wp d 166 118 (.ref x :: L) [] M Q ↔ Wp d 166 119 (.ref x :: L) [.ref x] M Q) ∧
    (∀ (d : Nat) (a : Nat) (v0 : Value) (x : Int32) (L : List Value) (M : Mem) (Q : Option Value → Mem → Prop), Wp d 166 119 (v0 :: .int x :: L) [.ref a] M Q ↔ Wp d 166 120 (v0 :: .int x :: L) [.int x, .ref a] M Q) ∧
    (∀ (d : Nat) (a : Int32) (b : Nat) (v0 : Value) (v1 : Value) (v2 : Value) (v3 : Value) (x : Int32) (L : List Value) (M : Mem) (Q : Option Value → Mem → Prop), Wp d 166 120 (v0 :: v1 :: v2 :: v3 :: .int x :: L) [.int a, .ref b] M Q ↔ Wp d 166 122 (v0 :: v1 :: v2 :: v3 :: .int x :: L) [.int x, .int a, .ref b] M Q) ∧
    (∀ (d : Nat) (a : Int32) (b : Int32) (c : Nat) (v0 : Value) (v1 : Value) (v2 : Value) (x : Int32) (L : List Value) (M : Mem) (Q : Option Value → Mem → Prop), Wp d 166 122 (v0 :: v1 :: v2 :: .int x :: L) [.int a, .int b, .ref c] M Q ↔ Wp d 166 123 (v0 :: v1 :: v2 :: .int x :: L) [.int x, .int a, .int b, .ref c] M Q) ∧
    (∀ (d : Nat) (a : Int32) (b : Int32) (c : Int32) (d2 : Nat) (L : List Value) (M : Mem) (Q : Option Value → Mem → Prop), Wp (d + 1) 166 123 L [.int a, .int b, .int c, .ref d2] M Q ↔ (isK d2 12 = true ∧ Wp d 159 0 [.ref d2, .int c, .int b, .int a] [] M (fun r M2 => Wp (d + 1) 166 126 L (r.toList ++ []) M2 Q))) ∧
    (∀ (d : Nat) (a : Int32) (L : List Value) (M : Mem) (Q : Option Value → Mem → Prop), Wp d 166 126 L [.int a] M Q ↔ (if a = 0 then Wp d 166 148 L [] M Q else Wp d 166 129 L [] M Q)) ∧
    (∀ (d : Nat) (x : Nat) (L : List Value) (M : Mem) (Q : Option Value → Mem → Prop), Wp d 166 129 (.ref x :: L) [] M Q ↔ Wp d 166 130 (.ref x :: L) [.ref x] M Q) ∧
    (∀ (d : Nat) (a : Nat) (v0 : Value) (x : Int32) (L : List Value) (M : Mem) (Q : Option Value → Mem → Prop), Wp d 166 130 (v0 :: .int x :: L) [.ref a] M Q ↔ Wp d 166 131 (v0 :: .int x :: L) [.int x, .ref a] M Q) ∧
    (∀ (d : Nat) (a : Int32) (b : Nat) (v0 : Value) (v1 : Value) (v2 : Value) (v3 : Value) (x : Int32) (L : List Value) (M : Mem) (Q : Option Value → Mem → Prop), Wp d 166 131 (v0 :: v1 :: v2 :: v3 :: .int x :: L) [.int a, .ref b] M Q ↔ Wp d 166 133 (v0 :: v1 :: v2 :: v3 :: .int x :: L) [.int x, .int a, .ref b] M Q) ∧
    (∀ (d : Nat) (a : Int32) (b : Int32) (c : Nat) (v0 : Value) (v1 : Value) (v2 : Value) (x : Int32) (L : List Value) (M : Mem) (Q : Option Value → Mem → Prop), Wp d 166 133 (v0 :: v1 :: v2 :: .int x :: L) [.int a, .int b, .ref c] M Q ↔ Wp d 166 134 (v0 :: v1 :: v2 :: .int x :: L) [.int x, .int a, .int b, .ref c] M Q) ∧
    (∀ (d : Nat) (a : Int32) (b : Int32) (c : Int32) (d2 : Nat) (L : List Value) (M : Mem) (Q : Option Value → Mem → Prop), Wp (d + 1) 166 134 L [.int a, .int b, .int c, .ref d2] M Q ↔ (isK d2 12 = true ∧ Wp d 160 0 [.ref d2, .int c, .int b, .int a] [] M (fun r M2 => Wp (d + 1) 166 137 L (r.toList ++ []) M2 Q))) ∧
    (∀ (d : Nat) (a : Int32) (L : List Value) (M : Mem) (Q : Option Value → Mem → Prop), Wp d 166 137 L [.int a] M Q ↔ (if a = 0 then Wp d 166 140 L [] M Q else Wp d 166 148 L [] M Q)) ∧
    (∀ (d : Nat) (x : Nat) (L : List Value) (M : Mem) (Q : Option Value → Mem → Prop), Wp d 166 140 (.ref x :: L) [] M Q ↔ Wp d 166 141 (.ref x :: L) [.ref x] M Q) ∧
    (∀ (d : Nat) (a : Nat) (v0 : Value) (x : Int32) (L : List Value) (M : Mem) (Q : Option Value → Mem → Prop), Wp d 166 141 (v0 :: .int x :: L) [.ref a] M Q ↔ Wp d 166 142 (v0 :: .int x :: L) [.int x, .ref a] M Q) ∧
    (∀ (d : Nat) (a : Int32) (b : Nat) (v0 : Value) (v1 : Value) (v2 : Value) (v3 : Value) (x : Int32) (L : List Value) (M : Mem) (Q : Option Value → Mem → Prop), Wp d 166 142 (v0 :: v1 :: v2 :: v3 :: .int x :: L) [.int a, .ref b] M Q ↔ Wp d 166 144 (v0 :: v1 :: v2 :: v3 :: .int x :: L) [.int x, .int a, .ref b] M Q) ∧
    (∀ (d : Nat) (a : Int32) (b : Int32) (c : Nat) (v0 : Value) (v1 : Value) (v2 : Value) (x : Int32) (L : List Value) (M : Mem) (Q : Option Value → Mem → Prop), Wp d 166 144 (v0 :: v1 :: v2 :: .int x :: L) [.int a, .int b, .ref c] M Q ↔ Wp d 166 145 (v0 :: v1 :: v2 :: .int x :: L) [.int x, .int a, .int b, .ref c] M Q) ∧
    (∀ (d : Nat) (a : Int32) (b : Int32) (c : Int32) (d2 : Nat) (L : List Value) (M : Mem) (Q : Option Value → Mem → Prop), Wp (d + 1) 166 145 L [.int a, .int b, .int c, .ref d2] M Q ↔ (isK d2 12 = true ∧ Wp d 161 0 [.ref d2, .int c, .int b, .int a] [] M (fun r M2 => Wp (d + 1) 166 148 L (r.toList ++ []) M2 Q))) ∧
    (∀ (d : Nat) (L : List Value) (M : Mem) (Q : Option Value → Mem → Prop), Wp d 166 148 L [] M Q ↔ Wp d 166 184 L [] M Q) ∧
    (∀ (d : Nat) (v0 : Value) (v1 : Value) (x : Int32) (L : List Value) (M : Mem) (Q : Option Value → Mem → Prop), Wp d 166 151 (v0 :: v1 :: .int x :: L) [] M Q ↔ Wp d 166 152 (v0 :: v1 :: .int x :: L) [.int x] M Q) ∧
    (∀ (d : Nat) (a : Int32) (L : List Value) (M : Mem) (Q : Option Value → Mem → Prop), Wp d 166 152 L [.int a] M Q ↔ Wp d 166 153 L [.int 4, .int a] M Q) ∧
    (∀ (d : Nat) (a : Int32) (b : Int32) (L : List Value) (M : Mem) (Q : Option Value → Mem → Prop), Wp d 166 153 L [.int a, .int b] M Q ↔ (if b = a then Wp d 166 156 L [] M Q else Wp d 166 184 L [] M Q)) ∧
    (∀ (d : Nat) (x : Nat) (L : List Value) (M : Mem) (Q : Option Value → Mem → Prop), Wp d 166 156 (.ref x :: L) [] M Q ↔ Wp d 166 157 (.ref x :: L) [.ref x] M Q) ∧
    (∀ (d : Nat) (a : Nat) (v0 : Value) (x : Int32) (L : List Value) (M : Mem) (Q : Option Value → Mem → Prop), Wp d 166 157 (v0 :: .int x :: L) [.ref a] M Q ↔ Wp d 166 158 (v0 :: .int x :: L) [.int x, .ref a] M Q) ∧
    (∀ (d : Nat) (a : Int32) (b : Nat) (L : List Value) (M : Mem) (Q : Option Value → Mem → Prop), Wp (d + 1) 166 158 L [.int a, .ref b] M Q ↔ (isK b 12 = true ∧ Wp d 168 0 [.ref b, .int a, .null] [] M (fun r M2 => Wp (d + 1) 166 161 L (r.toList ++ []) M2 Q))) ∧
    (∀ (d : Nat) (a : Int32) (v0 : Value) (v1 : Value) (v2 : Value) (x : Value) (L : List Value) (M : Mem) (Q : Option Value → Mem → Prop), Wp d 166 161 (v0 :: v1 :: v2 :: x :: L) [.int a] M Q ↔ Wp d 166 162 (v0 :: v1 :: clr v2 :: .int a :: L) [] M Q) ∧
    (∀ (d : Nat) (v0 : Value) (v1 : Value) (v2 : Value) (x : Int32) (L : List Value) (M : Mem) (Q : Option Value → Mem → Prop), Wp d 166 162 (v0 :: v1 :: v2 :: .int x :: L) [] M Q ↔ Wp d 166 163 (v0 :: v1 :: v2 :: .int x :: L) [.int x] M Q) ∧
    (∀ (d : Nat) (a : Int32) (L : List Value) (M : Mem) (Q : Option Value → Mem → Prop), Wp d 166 163 L [.int a] M Q ↔ Wp d 166 164 L [.int (-1), .int a] M Q) ∧
    (∀ (d : Nat) (a : Int32) (b : Int32) (L : List Value) (M : Mem) (Q : Option Value → Mem → Prop), Wp d 166 164 L [.int a, .int b] M Q ↔ (if b = a then Wp d 166 184 L [] M Q else Wp d 166 167 L [] M Q)) ∧
    (∀ (d : Nat) (x : Nat) (L : List Value) (M : Mem) (Q : Option Value → Mem → Prop), Wp d 166 167 (.ref x :: L) [] M Q ↔ Wp d 166 168 (.ref x :: L) [.ref x] M Q) ∧
    (∀ (d : Nat) (a : Nat) (v0 : Value) (x : Int32) (L : List Value) (M : Mem) (Q : Option Value → Mem → Prop), Wp d 166 168 (v0 :: .int x :: L) [.ref a] M Q ↔ Wp d 166 169 (v0 :: .int x :: L) [.int x, .ref a] M Q) ∧
    (∀ (d : Nat) (a : Int32) (b : Nat) (v0 : Value) (v1 : Value) (v2 : Value) (x : Int32) (L : List Value) (M : Mem) (Q : Option Value → Mem → Prop), Wp d 166 169 (v0 :: v1 :: v2 :: .int x :: L) [.int a, .ref b] M Q ↔ Wp d 166 170 (v0 :: v1 :: v2 :: .int x :: L) [.int x, .int a, .ref b] M Q) ∧
    (∀ (d : Nat) (a : Int32) (b : Int32) (c : Nat) (L : List Value) (M : Mem) (Q : Option Value → Mem → Prop), Wp (d + 1) 166 170 L [.int a, .int b, .ref c] M Q ↔ (isK c 12 = true ∧ Wp d 163 0 [.ref c, .int b, .int a] [] M (fun r M2 => Wp (d + 1) 166 173 L (r.toList ++ []) M2 Q))) ∧
    (∀ (d : Nat) (a : Int32) (L : List Value) (M : Mem) (Q : Option Value → Mem → Prop), Wp d 166 173 L [.int a] M Q ↔ (if a = 0 then Wp d 166 184 L [] M Q else Wp d 166 176 L [] M Q)) ∧
    (∀ (d : Nat) (x : Nat) (L : List Value) (M : Mem) (Q : Option Value → Mem → Prop), Wp d 166 176 (.ref x :: L) [] M Q ↔ Wp d 166 177 (.ref x :: L) [.ref x] M Q) ∧
    (∀ (d : Nat) (a : Nat) (v0 : Value) (x : Int32) (L : List Value) (M : Mem) (Q : Option Value → Mem → Prop), Wp d 166 177 (v0 :: .int x :: L) [.ref a] M Q ↔ Wp d 166 178 (v0 :: .int x :: L) [.int x, .ref a] M Q) ∧
    (∀ (d : Nat) (a : Int32) (b : Nat) (v0 : Value) (v1 : Value) (v2 : Value) (x : Int32) (L : List Value) (M : Mem) (Q : Option Value → Mem → Prop), Wp d 166 178 (v0 :: v1 :: v2 :: .int x :: L) [.int a, .ref b] M Q ↔ Wp d 166 179 (v0 :: v1 :: v2 :: .int x :: L) [.int x, .int a, .ref b] M Q) ∧
    (∀ (d : Nat) (a : Int32) (b : Int32) (c : Nat) (L : List Value) (M : Mem) (Q : Option Value → Mem → Prop), Wp (d + 1) 166 179 L [.int a, .int b, .ref c] M Q ↔ (isK c 12 = true ∧ Wp d 164 0 [.ref c, .int b, .int a, .null, .null] [] M (fun r M2 => Wp (d + 1) 166 182 L (r.toList ++ []) M2 Q))) ∧
    (∀ (d : Nat) (a : Int32) (v0 : Value) (v1 : Value) (v2 : Value) (v3 : Value) (x : Value) (L : List Value) (M : Mem) (Q : Option Value → Mem → Prop), Wp d 166 182 (v0 :: v1 :: v2 :: v3 :: x :: L) [.int a] M Q ↔ Wp d 166 184 (v0 :: v1 :: v2 :: clr v3 :: .int a :: L) [] M Q) ∧
    (∀ (d : Nat) (L : List Value) (M : Mem) (Q : Option Value → Mem → Prop), Wp d 166 184 L [] M Q ↔ Q none M) := by
  refine ⟨?_, ?_, ?_, ?_, ?_, ?_, ?_, ?_, ?_, ?_, ?_, ?_, ?_, ?_, ?_, ?_, ?_, ?_, ?_, ?_, ?_, ?_, ?_, ?_, ?_, ?_, ?_, ?_, ?_, ?_, ?_, ?_, ?_, ?_, ?_, ?_, ?_, ?_, ?_, ?_, ?_, ?_, ?_, ?_, ?_, ?_, ?_, ?_, ?_, ?_, ?_⟩
  · intro d a L M Q; exact Wp_sim (by decide +kernel : decode (cd 166) 98 = .ok (.bipush 20, 2)) rfl rfl
  · intro d a b L M Q; exact q_invV (pz := 1161) (n := 1) (c := 12) (m := 2) (k := b) (As := [.int a]) (rest := []) (by decide +kernel : decode (cd 166) 100 = .ok (.invokevirtual 249, 3)) (by decide +kernel) (by decide +kernel) rfl rfl (Nat.le_of_ble_eq_true rfl) (Nat.le_of_ble_eq_true rfl) rfl
  · intro d a L M Q; exact Wp_sim (by decide +kernel : decode (cd 166) 103 = .ok (.iconst 1, 1)) rfl rfl
  · intro d a b L M Q; exact Wp_sim (by decide +kernel : decode (cd 166) 104 = .ok (.iadd , 1)) rfl rfl
  · intro d a v0 v1 v2 x L M Q; exact Wp_sim (by decide +kernel : decode (cd 166) 105 = .ok (.istore_n 3, 1)) rfl rfl
  · intro d x L M Q; exact Wp_sim (by decide +kernel : decode (cd 166) 106 = .ok (.aload_n 0, 1)) rfl rfl
  · intro d a x L M Q; exact Wp_sim (by decide +kernel : decode (cd 166) 107 = .ok (.aload_n 0, 1)) rfl rfl
  · intro d a b L M Q; exact q_getR (p := 843) (by decide +kernel : decode (cd 166) 108 = .ok (.getfield 7, 3)) (by decide +kernel) (by decide +kernel)
  · intro d a b L M Q; exact Wp_sim (by decide +kernel : decode (cd 166) 111 = .ok (.iconst 4, 1)) rfl rfl
  · intro d a b c L M Q; exact q_ald (by decide +kernel : decode (cd 166) 112 = .ok (.iaload , 1))
  · intro d a b L M Q; exact q_invV (pz := 1161) (n := 1) (c := 12) (m := 2) (k := b) (As := [.int a]) (rest := []) (by decide +kernel : decode (cd 166) 113 = .ok (.invokevirtual 249, 3)) (by decide +kernel) (by decide +kernel) rfl rfl (Nat.le_of_ble_eq_true rfl) (Nat.le_of_ble_eq_true rfl) rfl
  · intro d a v0 v1 v2 v3 x L M Q; exact Wp_sim (by decide +kernel : decode (cd 166) 116 = .ok (.istore 4, 2)) rfl rfl
  · intro d x L M Q; exact Wp_sim (by decide +kernel : decode (cd 166) 118 = .ok (.aload_n 0, 1)) rfl rfl
  · intro d a v0 x L M Q; exact Wp_sim (by decide +kernel : decode (cd 166) 119 = .ok (.iload_n 1, 1)) rfl rfl
  · intro d a b v0 v1 v2 v3 x L M Q; exact Wp_sim (by decide +kernel : decode (cd 166) 120 = .ok (.iload 4, 2)) rfl rfl
  · intro d a b c v0 v1 v2 x L M Q; exact Wp_sim (by decide +kernel : decode (cd 166) 122 = .ok (.iload_n 3, 1)) rfl rfl
  · intro d a b c d2 L M Q; exact q_invV (pz := 1129) (n := 3) (c := 12) (m := 4) (k := d2) (As := [.int c, .int b, .int a]) (rest := []) (by decide +kernel : decode (cd 166) 123 = .ok (.invokevirtual 221, 3)) (by decide +kernel) (by decide +kernel) rfl rfl (Nat.le_of_ble_eq_true rfl) (Nat.le_of_ble_eq_true rfl) rfl
  · intro d a L M Q; exact q_zeq (by decide +kernel : decode (cd 166) 126 = .ok (.ifCond .eq 22, 3)) (by decide)
  · intro d x L M Q; exact Wp_sim (by decide +kernel : decode (cd 166) 129 = .ok (.aload_n 0, 1)) rfl rfl
  · intro d a v0 x L M Q; exact Wp_sim (by decide +kernel : decode (cd 166) 130 = .ok (.iload_n 1, 1)) rfl rfl
  · intro d a b v0 v1 v2 v3 x L M Q; exact Wp_sim (by decide +kernel : decode (cd 166) 131 = .ok (.iload 4, 2)) rfl rfl
  · intro d a b c v0 v1 v2 x L M Q; exact Wp_sim (by decide +kernel : decode (cd 166) 133 = .ok (.iload_n 3, 1)) rfl rfl
  · intro d a b c d2 L M Q; exact q_invV (pz := 1133) (n := 3) (c := 12) (m := 4) (k := d2) (As := [.int c, .int b, .int a]) (rest := []) (by decide +kernel : decode (cd 166) 134 = .ok (.invokevirtual 224, 3)) (by decide +kernel) (by decide +kernel) rfl rfl (Nat.le_of_ble_eq_true rfl) (Nat.le_of_ble_eq_true rfl) rfl
  · intro d a L M Q; exact q_zne (by decide +kernel : decode (cd 166) 137 = .ok (.ifCond .ne 11, 3)) (by decide)
  · intro d x L M Q; exact Wp_sim (by decide +kernel : decode (cd 166) 140 = .ok (.aload_n 0, 1)) rfl rfl
  · intro d a v0 x L M Q; exact Wp_sim (by decide +kernel : decode (cd 166) 141 = .ok (.iload_n 1, 1)) rfl rfl
  · intro d a b v0 v1 v2 v3 x L M Q; exact Wp_sim (by decide +kernel : decode (cd 166) 142 = .ok (.iload 4, 2)) rfl rfl
  · intro d a b c v0 v1 v2 x L M Q; exact Wp_sim (by decide +kernel : decode (cd 166) 144 = .ok (.iload_n 3, 1)) rfl rfl
  · intro d a b c d2 L M Q; exact q_invV (pz := 1137) (n := 3) (c := 12) (m := 4) (k := d2) (As := [.int c, .int b, .int a]) (rest := []) (by decide +kernel : decode (cd 166) 145 = .ok (.invokevirtual 227, 3)) (by decide +kernel) (by decide +kernel) rfl rfl (Nat.le_of_ble_eq_true rfl) (Nat.le_of_ble_eq_true rfl) rfl
  · intro d L M Q; exact q_goto (by decide +kernel : decode (cd 166) 148 = .ok (.goto 36, 3)) (by decide)
  · intro d v0 v1 x L M Q; exact Wp_sim (by decide +kernel : decode (cd 166) 151 = .ok (.iload_n 2, 1)) rfl rfl
  · intro d a L M Q; exact Wp_sim (by decide +kernel : decode (cd 166) 152 = .ok (.iconst 4, 1)) rfl rfl
  · intro d a b L M Q; exact q_ine (by decide +kernel : decode (cd 166) 153 = .ok (.if_icmp .ne 31, 3)) (by decide)
  · intro d x L M Q; exact Wp_sim (by decide +kernel : decode (cd 166) 156 = .ok (.aload_n 0, 1)) rfl rfl
  · intro d a v0 x L M Q; exact Wp_sim (by decide +kernel : decode (cd 166) 157 = .ok (.iload_n 1, 1)) rfl rfl
  · intro d a b L M Q; exact q_invV (pz := 1169) (n := 1) (c := 12) (m := 3) (k := b) (As := [.int a]) (rest := []) (by decide +kernel : decode (cd 166) 158 = .ok (.invokevirtual 252, 3)) (by decide +kernel) (by decide +kernel) rfl rfl (Nat.le_of_ble_eq_true rfl) (Nat.le_of_ble_eq_true rfl) rfl
  · intro d a v0 v1 v2 x L M Q; exact Wp_sim (by decide +kernel : decode (cd 166) 161 = .ok (.istore_n 3, 1)) rfl rfl
  · intro d v0 v1 v2 x L M Q; exact Wp_sim (by decide +kernel : decode (cd 166) 162 = .ok (.iload_n 3, 1)) rfl rfl
  · intro d a L M Q; exact Wp_sim (by decide +kernel : decode (cd 166) 163 = .ok (.iconst (-1), 1)) rfl rfl
  · intro d a b L M Q; exact q_ieq (by decide +kernel : decode (cd 166) 164 = .ok (.if_icmp .eq 20, 3)) (by decide)
  · intro d x L M Q; exact Wp_sim (by decide +kernel : decode (cd 166) 167 = .ok (.aload_n 0, 1)) rfl rfl
  · intro d a v0 x L M Q; exact Wp_sim (by decide +kernel : decode (cd 166) 168 = .ok (.iload_n 1, 1)) rfl rfl
  · intro d a b v0 v1 v2 x L M Q; exact Wp_sim (by decide +kernel : decode (cd 166) 169 = .ok (.iload_n 3, 1)) rfl rfl
  · intro d a b c L M Q; exact q_invV (pz := 1145) (n := 2) (c := 12) (m := 3) (k := c) (As := [.int b, .int a]) (rest := []) (by decide +kernel : decode (cd 166) 170 = .ok (.invokevirtual 231, 3)) (by decide +kernel) (by decide +kernel) rfl rfl (Nat.le_of_ble_eq_true rfl) (Nat.le_of_ble_eq_true rfl) rfl
  · intro d a L M Q; exact q_zeq (by decide +kernel : decode (cd 166) 173 = .ok (.ifCond .eq 11, 3)) (by decide)
  · intro d x L M Q; exact Wp_sim (by decide +kernel : decode (cd 166) 176 = .ok (.aload_n 0, 1)) rfl rfl
  · intro d a v0 x L M Q; exact Wp_sim (by decide +kernel : decode (cd 166) 177 = .ok (.iload_n 1, 1)) rfl rfl
  · intro d a b v0 v1 v2 x L M Q; exact Wp_sim (by decide +kernel : decode (cd 166) 178 = .ok (.iload_n 3, 1)) rfl rfl
  · intro d a b c L M Q; exact q_invV (pz := 1149) (n := 2) (c := 12) (m := 5) (k := c) (As := [.int b, .int a]) (rest := []) (by decide +kernel : decode (cd 166) 179 = .ok (.invokevirtual 234, 3)) (by decide +kernel) (by decide +kernel) rfl rfl (Nat.le_of_ble_eq_true rfl) (Nat.le_of_ble_eq_true rfl) rfl
  · intro d a v0 v1 v2 v3 x L M Q; exact Wp_sim (by decide +kernel : decode (cd 166) 182 = .ok (.istore 4, 2)) rfl rfl
  · intro d L M Q; exact q_vret (by decide +kernel : decode (cd 166) 184 = .ok (.return_ , 1)) (by decide +kernel)

/- 167: PalaceYardModel.draw -/
set_option maxRecDepth 10000 in
theorem e167 : (∀ (d : Nat) (x : Nat) (L : List Value) (M : Mem) (Q : Option Value → Mem → Prop), Wp d 167 0 (.ref x :: L) [] M Q ↔ Wp d 167 1 (.ref x :: L) [.ref x] M Q) ∧
    (∀ (d : Nat) (a : Nat) (x : Nat) (L : List Value) (M : Mem) (Q : Option Value → Mem → Prop), Wp d 167 1 (.ref x :: L) [.ref a] M Q ↔ Wp d 167 2 (.ref x :: L) [.ref x, .ref a] M Q) ∧
    (∀ (d : Nat) (a : Nat) (b : Nat) (L : List Value) (M : Mem) (Q : Option Value → Mem → Prop), Wp d 167 2 L [.ref a, .ref b] M Q ↔ (isK a 12 = true ∧ Wp d 167 5 L [.long (M a 8).toInt64, .ref b] M Q)) ∧
    (∀ (d : Nat) (a : Int64) (b : Nat) (L : List Value) (M : Mem) (Q : Option Value → Mem → Prop), Wp d 167 5 L [.long a, .ref b] M Q ↔ Wp d 167 8 L [.long 1103515245, .long a, .ref b] M Q) ∧
    (∀ (d : Nat) (a : Int64) (b : Int64) (c : Nat) (L : List Value) (M : Mem) (Q : Option Value → Mem → Prop), Wp d 167 8 L [.long a, .long b, .ref c] M Q ↔ Wp d 167 9 L [.long (b * a), .ref c] M Q) ∧
    (∀ (d : Nat) (a : Int64) (b : Nat) (L : List Value) (M : Mem) (Q : Option Value → Mem → Prop), Wp d 167 9 L [.long a, .ref b] M Q ↔ Wp d 167 12 L [.long 12345, .long a, .ref b] M Q) ∧
    (∀ (d : Nat) (a : Int64) (b : Int64) (c : Nat) (L : List Value) (M : Mem) (Q : Option Value → Mem → Prop), Wp d 167 12 L [.long a, .long b, .ref c] M Q ↔ Wp d 167 13 L [.long (b + a), .ref c] M Q) ∧
    (∀ (d : Nat) (a : Int64) (b : Nat) (L : List Value) (M : Mem) (Q : Option Value → Mem → Prop), Wp d 167 13 L [.long a, .ref b] M Q ↔ Wp d 167 16 L [.long 2147483648, .long a, .ref b] M Q) ∧
    (∀ (d : Nat) (a : Int64) (b : Int64) (c : Nat) (L : List Value) (M : Mem) (Q : Option Value → Mem → Prop), Wp d 167 16 L [.long a, .long b, .ref c] M Q ↔ (¬ a = 0 ∧ Wp d 167 17 L [.long (b - b / a * a), .ref c] M Q)) ∧
    (∀ (d : Nat) (a : Int64) (b : Nat) (L : List Value) (M : Mem) (Q : Option Value → Mem → Prop), Wp d 167 17 L [.long a, .ref b] M Q ↔ ((isK b 12 = true ∧ a.toInt32.toInt64 = a) ∧ Wp d 167 20 L [] (up2 M b 8 a.toInt32) Q)) ∧
    (∀ (d : Nat) (x : Nat) (L : List Value) (M : Mem) (Q : Option Value → Mem → Prop), Wp d 167 20 (.ref x :: L) [] M Q ↔ Wp d 167 21 (.ref x :: L) [.ref x] M Q) ∧
    (∀ (d : Nat) (a : Nat) (L : List Value) (M : Mem) (Q : Option Value → Mem → Prop), Wp d 167 21 L [.ref a] M Q ↔ (isK a 12 = true ∧ Wp d 167 24 L [.long (M a 8).toInt64] M Q)) ∧
    (∀ (d : Nat) (a : Int64) (L : List Value) (M : Mem) (Q : Option Value → Mem → Prop), Wp d 167 24 L [.long a] M Q ↔ Wp d 167 27 L [.long 65536, .long a] M Q) ∧
    (∀ (d : Nat) (a : Int64) (b : Int64) (L : List Value) (M : Mem) (Q : Option Value → Mem → Prop), Wp d 167 27 L [.long a, .long b] M Q ↔ (¬ a = 0 ∧ Wp d 167 28 L [.long (b / a)] M Q)) ∧
    (∀ (d : Nat) (a : Int64) (v0 : Value) (x : Int32) (L : List Value) (M : Mem) (Q : Option Value → Mem → Prop), Wp d 167 28 (v0 :: .int x :: L) [.long a] M Q ↔ Wp d 167 29 (v0 :: .int x :: L) [.int x, .long a] M Q) ∧
    (∀ (d : Nat) (a : Int32) (b : Int64) (L : List Value) (M : Mem) (Q : Option Value → Mem → Prop), Wp d 167 29 L [.int a, .long b] M Q ↔ Wp d 167 30 L [.long a.toInt64, .long b] M Q) ∧
    (∀ (d : Nat) (a : Int64) (b : Int64) (L : List Value) (M : Mem) (Q : Option Value → Mem → Prop), Wp d 167 30 L [.long a, .long b] M Q ↔ (¬ a = 0 ∧ Wp d 167 31 L [.long (b - b / a * a)] M Q)) ∧
    (∀ (d : Nat) (a : Int64) (L : List Value) (M : Mem) (Q : Option Value → Mem → Prop), Wp d 167 31 L [.long a] M Q ↔ Wp d 167 32 L [.int a.toInt32] M Q) ∧
    (∀ (d : Nat) (a : Int32) (L : List Value) (M : Mem) (Q : Option Value → Mem → Prop), Wp d 167 32 L [.int a] M Q ↔ Q (some (.int a)) M) := by
  refine ⟨?_, ?_, ?_, ?_, ?_, ?_, ?_, ?_, ?_, ?_, ?_, ?_, ?_, ?_, ?_, ?_, ?_, ?_, ?_⟩
  · intro d x L M Q; exact Wp_sim (by decide +kernel : decode (cd 167) 0 = .ok (.aload_n 0, 1)) rfl rfl
  · intro d a x L M Q; exact Wp_sim (by decide +kernel : decode (cd 167) 1 = .ok (.aload_n 0, 1)) rfl rfl
  · intro d a b L M Q; exact q_getJ (p := 851) (by decide +kernel : decode (cd 167) 2 = .ok (.getfield 237, 3)) (by decide +kernel) (by decide +kernel)
  · intro d a b L M Q; exact q_ldc2 (p := 1165) (by decide +kernel : decode (cd 167) 5 = .ok (.ldc2_w 241, 3)) (by decide +kernel)
  · intro d a b c L M Q; exact Wp_sim (by decide +kernel : decode (cd 167) 8 = .ok (.lmul , 1)) rfl rfl
  · intro d a b L M Q; exact q_ldc2 (p := 1166) (by decide +kernel : decode (cd 167) 9 = .ok (.ldc2_w 243, 3)) (by decide +kernel)
  · intro d a b c L M Q; exact Wp_sim (by decide +kernel : decode (cd 167) 12 = .ok (.ladd , 1)) rfl rfl
  · intro d a b L M Q; exact q_ldc2 (p := 1167) (by decide +kernel : decode (cd 167) 13 = .ok (.ldc2_w 245, 3)) (by decide +kernel)
  · intro d a b c L M Q; exact q_lrem (by decide +kernel : decode (cd 167) 16 = .ok (.lrem , 1))
  · intro d a b L M Q; exact q_putJ (p := 851) (by decide +kernel : decode (cd 167) 17 = .ok (.putfield 237, 3)) (by decide +kernel) (by decide +kernel)
  · intro d x L M Q; exact Wp_sim (by decide +kernel : decode (cd 167) 20 = .ok (.aload_n 0, 1)) rfl rfl
  · intro d a L M Q; exact q_getJ (p := 851) (by decide +kernel : decode (cd 167) 21 = .ok (.getfield 237, 3)) (by decide +kernel) (by decide +kernel)
  · intro d a L M Q; exact q_ldc2 (p := 1168) (by decide +kernel : decode (cd 167) 24 = .ok (.ldc2_w 247, 3)) (by decide +kernel)
  · intro d a b L M Q; exact q_ldiv (by decide +kernel : decode (cd 167) 27 = .ok (.ldiv , 1))
  · intro d a v0 x L M Q; exact Wp_sim (by decide +kernel : decode (cd 167) 28 = .ok (.iload_n 1, 1)) rfl rfl
  · intro d a b L M Q; exact Wp_sim (by decide +kernel : decode (cd 167) 29 = .ok (.i2l , 1)) rfl rfl
  · intro d a b L M Q; exact q_lrem (by decide +kernel : decode (cd 167) 30 = .ok (.lrem , 1))
  · intro d a L M Q; exact Wp_sim (by decide +kernel : decode (cd 167) 31 = .ok (.l2i , 1)) rfl rfl
  · intro d a L M Q; exact q_iret (by decide +kernel : decode (cd 167) 32 = .ok (.ireturn , 1)) (by decide +kernel)

/- 168: PalaceYardModel.firstWhoOwes -/
set_option maxRecDepth 10000 in
theorem e168 : (∀ (d : Nat) (L : List Value) (M : Mem) (Q : Option Value → Mem → Prop), Wp d 168 0 L [] M Q ↔ Wp d 168 1 L [.int 0] M Q) ∧
    (∀ (d : Nat) (a : Int32) (v0 : Value) (v1 : Value) (x : Value) (L : List Value) (M : Mem) (Q : Option Value → Mem → Prop), Wp d 168 1 (v0 :: v1 :: x :: L) [.int a] M Q ↔ Wp d 168 2 (v0 :: clr v1 :: .int a :: L) [] M Q) ∧
    (∀ (d : Nat) (a : Int32) (x : Nat) (L : List Value) (M : Mem) (Q : Option Value → Mem → Prop), Wp d 168 3 (.ref x :: L) [.int a] M Q ↔ Wp d 168 4 (.ref x :: L) [.ref x, .int a] M Q) ∧
    (∀ (d : Nat) (a : Nat) (b : Int32) (L : List Value) (M : Mem) (Q : Option Value → Mem → Prop), Wp d 168 4 L [.ref a, .int b] M Q ↔ (isK a 12 = true ∧ Wp d 168 7 L [.ref (rt a 0), .int b] M Q)) ∧
    (∀ (d : Nat) (a : Nat) (b : Int32) (L : List Value) (M : Mem) (Q : Option Value → Mem → Prop), Wp d 168 7 L [.ref a, .int b] M Q ↔ Wp d 168 8 L [.int 4, .ref a, .int b] M Q) ∧
    (∀ (d : Nat) (a : Int32) (b : Nat) (c : Int32) (L : List Value) (M : Mem) (Q : Option Value → Mem → Prop), Wp d 168 8 L [.int a, .ref b, .int c] M Q ↔ ((isR b = true ∧ inr a (lnm M b)) ∧ Wp d 168 9 L [.int (M b a.toNatClampNeg), .int c] M Q)) ∧
    (∀ (d : Nat) (a : Int32) (b : Int32) (L : List Value) (M : Mem) (Q : Option Value → Mem → Prop), Wp d 168 9 L [.int a, .int b] M Q ↔ (if b < a then Wp d 168 12 L [] M Q else Wp d 168 37 L [] M Q)) ∧
    (∀ (d : Nat) (x : Nat) (L : List Value) (M : Mem) (Q : Option Value → Mem → Prop), Wp d 168 12 (.ref x :: L) [] M Q ↔ Wp d 168 13 (.ref x :: L) [.ref x] M Q) ∧
    (∀ (d : Nat) (a : Nat) (L : List Value) (M : Mem) (Q : Option Value → Mem → Prop), Wp d 168 13 L [.ref a] M Q ↔ (isK a 12 = true ∧ Wp d 168 16 L [.ref (rt a 2)] M Q)) ∧
    (∀ (d : Nat) (a : Nat) (L : List Value) (M : Mem) (Q : Option Value → Mem → Prop), Wp d 168 16 L [.ref a] M Q ↔ Wp d 168 18 L [.int 12, .ref a] M Q) ∧
    (∀ (d : Nat) (a : Int32) (b : Nat) (L : List Value) (M : Mem) (Q : Option Value → Mem → Prop), Wp d 168 18 L [.int a, .ref b] M Q ↔ Wp d 168 20 L [.int 6, .int a, .ref b] M Q) ∧
    (∀ (d : Nat) (a : Int32) (b : Int32) (c : Nat) (v0 : Value) (x : Int32) (L : List Value) (M : Mem) (Q : Option Value → Mem → Prop), Wp d 168 20 (v0 :: .int x :: L) [.int a, .int b, .ref c] M Q ↔ Wp d 168 21 (v0 :: .int x :: L) [.int x, .int a, .int b, .ref c] M Q) ∧
    (∀ (d : Nat) (a : Int32) (b : Int32) (c : Int32) (d2 : Nat) (L : List Value) (M : Mem) (Q : Option Value → Mem → Prop), Wp d 168 21 L [.int a, .int b, .int c, .ref d2] M Q ↔ Wp d 168 22 L [.int (b * a), .int c, .ref d2] M Q) ∧
    (∀ (d : Nat) (a : Int32) (b : Int32) (c : Nat) (L : List Value) (M : Mem) (Q : Option Value → Mem → Prop), Wp d 168 22 L [.int a, .int b, .ref c] M Q ↔ Wp d 168 23 L [.int (b + a), .ref c] M Q) ∧
    (∀ (d : Nat) (a : Int32) (b : Nat) (v0 : Value) (v1 : Value) (x : Int32) (L : List Value) (M : Mem) (Q : Option Value → Mem → Prop), Wp d 168 23 (v0 :: v1 :: .int x :: L) [.int a, .ref b] M Q ↔ Wp d 168 24 (v0 :: v1 :: .int x :: L) [.int x, .int a, .ref b] M Q) ∧
    (∀ (d : Nat) (a : Int32) (b : Int32) (c : Nat) (L : List Value) (M : Mem) (Q : Option Value → Mem → Prop), Wp d 168 24 L [.int a, .int b, .ref c] M Q ↔ Wp d 168 25 L [.int (b + a), .ref c] M Q) ∧
    (∀ (d : Nat) (a : Int32) (b : Nat) (L : List Value) (M : Mem) (Q : Option Value → Mem → Prop), Wp d 168 25 L [.int a, .ref b] M Q ↔ ((isR b = true ∧ inr a (lnm M b)) ∧ Wp d 168 26 L [.int (M b a.toNatClampNeg)] M Q)) ∧
    (∀ (d : Nat) (a : Int32) (L : List Value) (M : Mem) (Q : Option Value → Mem → Prop), Wp d 168 26 L [.int a] M Q ↔ (if 0 < a then Wp d 168 29 L [] M Q else Wp d 168 31 L [] M Q)) ∧
    (∀ (d : Nat) (v0 : Value) (v1 : Value) (x : Int32) (L : List Value) (M : Mem) (Q : Option Value → Mem → Prop), Wp d 168 29 (v0 :: v1 :: .int x :: L) [] M Q ↔ Wp d 168 30 (v0 :: v1 :: .int x :: L) [.int x] M Q) ∧
    (∀ (d : Nat) (a : Int32) (L : List Value) (M : Mem) (Q : Option Value → Mem → Prop), Wp d 168 30 L [.int a] M Q ↔ Q (some (.int a)) M) ∧
    (∀ (d : Nat) (v0 : Value) (v1 : Value) (x : Int32) (L : List Value) (M : Mem) (Q : Option Value → Mem → Prop), Wp d 168 31 (v0 :: v1 :: .int x :: L) [] M Q ↔ Wp d 168 34 (v0 :: clr v1 :: .int (x + 1) :: L) [] M Q) ∧
    (∀ (d : Nat) (L : List Value) (M : Mem) (Q : Option Value → Mem → Prop), Wp d 168 34 L [] M Q ↔ Wp d 168 2 L [] M Q) ∧
    (∀ (d : Nat) (L : List Value) (M : Mem) (Q : Option Value → Mem → Prop), Wp d 168 37 L [] M Q ↔ Wp d 168 38 L [.int (-1)] M Q) ∧
    (∀ (d : Nat) (a : Int32) (L : List Value) (M : Mem) (Q : Option Value → Mem → Prop), Wp d 168 38 L [.int a] M Q ↔ Q (some (.int a)) M) := by
  refine ⟨?_, ?_, ?_, ?_, ?_, ?_, ?_, ?_, ?_, ?_, ?_, ?_, ?_, ?_, ?_, ?_, ?_, ?_, ?_, ?_, ?_, ?_, ?_, ?_⟩
  · intro d L M Q; exact Wp_sim (by decide +kernel : decode (cd 168) 0 = .ok (.iconst 0, 1)) rfl rfl
  · intro d a v0 v1 x L M Q; exact Wp_sim (by decide +kernel : decode (cd 168) 1 = .ok (.istore_n 2, 1)) rfl rfl
  · intro d a x L M Q; exact Wp_sim (by decide +kernel : decode (cd 168) 3 = .ok (.aload_n 0, 1)) rfl rfl
  · intro d a b L M Q; exact q_getR (p := 843) (by decide +kernel : decode (cd 168) 4 = .ok (.getfield 7, 3)) (by decide +kernel) (by decide +kernel)
  · intro d a b L M Q; exact Wp_sim (by decide +kernel : decode (cd 168) 7 = .ok (.iconst 4, 1)) rfl rfl
  · intro d a b c L M Q; exact q_ald (by decide +kernel : decode (cd 168) 8 = .ok (.iaload , 1))
  · intro d a b L M Q; exact q_ige (by decide +kernel : decode (cd 168) 9 = .ok (.if_icmp .ge 28, 3)) (by decide)
  · intro d x L M Q; exact Wp_sim (by decide +kernel : decode (cd 168) 12 = .ok (.aload_n 0, 1)) rfl rfl
  · intro d a L M Q; exact q_getR (p := 845) (by decide +kernel : decode (cd 168) 13 = .ok (.getfield 16, 3)) (by decide +kernel) (by decide +kernel)
  · intro d a L M Q; exact Wp_sim (by decide +kernel : decode (cd 168) 16 = .ok (.bipush 12, 2)) rfl rfl
  · intro d a b L M Q; exact Wp_sim (by decide +kernel : decode (cd 168) 18 = .ok (.bipush 6, 2)) rfl rfl
  · intro d a b c v0 x L M Q; exact Wp_sim (by decide +kernel : decode (cd 168) 20 = .ok (.iload_n 1, 1)) rfl rfl
  · intro d a b c d2 L M Q; exact Wp_sim (by decide +kernel : decode (cd 168) 21 = .ok (.imul , 1)) rfl rfl
  · intro d a b c L M Q; exact Wp_sim (by decide +kernel : decode (cd 168) 22 = .ok (.iadd , 1)) rfl rfl
  · intro d a b v0 v1 x L M Q; exact Wp_sim (by decide +kernel : decode (cd 168) 23 = .ok (.iload_n 2, 1)) rfl rfl
  · intro d a b c L M Q; exact Wp_sim (by decide +kernel : decode (cd 168) 24 = .ok (.iadd , 1)) rfl rfl
  · intro d a b L M Q; exact q_ald (by decide +kernel : decode (cd 168) 25 = .ok (.iaload , 1))
  · intro d a L M Q; exact q_zle (by decide +kernel : decode (cd 168) 26 = .ok (.ifCond .le 5, 3)) (by decide)
  · intro d v0 v1 x L M Q; exact Wp_sim (by decide +kernel : decode (cd 168) 29 = .ok (.iload_n 2, 1)) rfl rfl
  · intro d a L M Q; exact q_iret (by decide +kernel : decode (cd 168) 30 = .ok (.ireturn , 1)) (by decide +kernel)
  · intro d v0 v1 x L M Q; exact Wp_sim (by decide +kernel : decode (cd 168) 31 = .ok (.iinc 2 1, 3)) rfl rfl
  · intro d L M Q; exact q_goto (by decide +kernel : decode (cd 168) 34 = .ok (.goto (-32), 3)) (by decide)
  · intro d L M Q; exact Wp_sim (by decide +kernel : decode (cd 168) 37 = .ok (.iconst (-1), 1)) rfl rfl
  · intro d a L M Q; exact q_iret (by decide +kernel : decode (cd 168) 38 = .ok (.ireturn , 1)) (by decide +kernel)
theorem h168_2 : (∀ (d : Nat) (v0 : Value) (v1 : Value) (x : Int32) (L : List Value) (M : Mem) (Q : Option Value → Mem → Prop), Wp d 168 2 (v0 :: v1 :: .int x :: L) [] M Q ↔ Wp d 168 3 (v0 :: v1 :: .int x :: L) [.int x] M Q) := by
  intro d v0 v1 x L M Q; exact Wp_sim (by decide +kernel : decode (cd 168) 2 = .ok (.iload_n 2, 1)) rfl rfl

/- 169: PalaceYardModel.undo -/
set_option maxRecDepth 10000 in
theorem e169 : (∀ (d : Nat) (x : Nat) (L : List Value) (M : Mem) (Q : Option Value → Mem → Prop), Wp d 169 0 (.ref x :: L) [] M Q ↔ Wp d 169 1 (.ref x :: L) [.ref x] M Q) ∧
    (∀ (d : Nat) (a : Nat) (L : List Value) (M : Mem) (Q : Option Value → Mem → Prop), Wp d 169 1 L [.ref a] M Q ↔ (isK a 12 = true ∧ Wp d 169 4 L [.int (M a 5)] M Q)) ∧
    (∀ (d : Nat) (a : Int32) (L : List Value) (M : Mem) (Q : Option Value → Mem → Prop), Wp d 169 4 L [.int a] M Q ↔ (if a = 0 then Wp d 169 7 L [] M Q else Wp d 169 10 L [] M Q)) ∧
    (∀ (d : Nat) (L : List Value) (M : Mem) (Q : Option Value → Mem → Prop), Wp d 169 7 L [] M Q ↔ Wp d 169 9 L [.int (-1000000003)] M Q) ∧
    (∀ (d : Nat) (a : Int32) (L : List Value) (M : Mem) (Q : Option Value → Mem → Prop), Wp d 169 9 L [.int a] M Q ↔ Q (some (.int a)) M) ∧
    (∀ (d : Nat) (x : Nat) (L : List Value) (M : Mem) (Q : Option Value → Mem → Prop), Wp d 169 10 (.ref x :: L) [] M Q ↔ Wp d 169 11 (.ref x :: L) [.ref x] M Q) ∧
    (∀ (d : Nat) (a : Nat) (L : List Value) (M : Mem) (Q : Option Value → Mem → Prop), Wp d 169 11 L [.ref a] M Q ↔ Wp d 169 12 L [.ref a, .ref a] M Q) ∧
    (∀ (d : Nat) (a : Nat) (b : Nat) (L : List Value) (M : Mem) (Q : Option Value → Mem → Prop), Wp d 169 12 L [.ref a, .ref b] M Q ↔ (isK a 12 = true ∧ Wp d 169 15 L [.int (M a 5), .ref b] M Q)) ∧
    (∀ (d : Nat) (a : Int32) (b : Nat) (L : List Value) (M : Mem) (Q : Option Value → Mem → Prop), Wp d 169 15 L [.int a, .ref b] M Q ↔ Wp d 169 16 L [.int 1, .int a, .ref b] M Q) ∧
    (∀ (d : Nat) (a : Int32) (b : Int32) (c : Nat) (L : List Value) (M : Mem) (Q : Option Value → Mem → Prop), Wp d 169 16 L [.int a, .int b, .ref c] M Q ↔ Wp d 169 17 L [.int (b - a), .ref c] M Q) ∧
    (∀ (d : Nat) (a : Int32) (b : Nat) (L : List Value) (M : Mem) (Q : Option Value → Mem → Prop), Wp d 169 17 L [.int a, .ref b] M Q ↔ (isK b 12 = true ∧ Wp d 169 20 L [] (up2 M b 5 a) Q)) ∧
    (∀ (d : Nat) (x : Nat) (L : List Value) (M : Mem) (Q : Option Value → Mem → Prop), Wp d 169 20 (.ref x :: L) [] M Q ↔ Wp d 169 21 (.ref x :: L) [.ref x] M Q) ∧
    (∀ (d : Nat) (a : Nat) (L : List Value) (M : Mem) (Q : Option Value → Mem → Prop), Wp d 169 21 L [.ref a] M Q ↔ (isK a 12 = true ∧ Wp d 169 24 L [.ref (rt a 4)] M Q)) ∧
    (∀ (d : Nat) (a : Nat) (L : List Value) (M : Mem) (Q : Option Value → Mem → Prop), Wp d 169 24 L [.ref a] M Q ↔ Wp d 169 26 L [.int 51, .ref a] M Q) ∧
    (∀ (d : Nat) (a : Int32) (b : Nat) (x : Nat) (L : List Value) (M : Mem) (Q : Option Value → Mem → Prop), Wp d 169 26 (.ref x :: L) [.int a, .ref b] M Q ↔ Wp d 169 27 (.ref x :: L) [.ref x, .int a, .ref b] M Q) ∧
    (∀ (d : Nat) (a : Nat) (b : Int32) (c : Nat) (L : List Value) (M : Mem) (Q : Option Value → Mem → Prop), Wp d 169 27 L [.ref a, .int b, .ref c] M Q ↔ (isK a 12 = true ∧ Wp d 169 30 L [.int (M a 5), .int b, .ref c] M Q)) ∧
    (∀ (d : Nat) (a : Int32) (b : Int32) (c : Nat) (L : List Value) (M : Mem) (Q : Option Value → Mem → Prop), Wp d 169 30 L [.int a, .int b, .ref c] M Q ↔ Wp d 169 31 L [.int (b * a), .ref c] M Q) ∧
    (∀ (d : Nat) (a : Int32) (b : Nat) (x : Nat) (L : List Value) (M : Mem) (Q : Option Value → Mem → Prop), Wp d 169 31 (.ref x :: L) [.int a, .ref b] M Q ↔ Wp d 169 32 (.ref x :: L) [.ref x, .int a, .ref b] M Q) ∧
    (∀ (d : Nat) (a : Nat) (b : Int32) (c : Nat) (L : List Value) (M : Mem) (Q : Option Value → Mem → Prop), Wp d 169 32 L [.ref a, .int b, .ref c] M Q ↔ (isK a 12 = true ∧ Wp d 169 35 L [.ref (rt a 2), .int b, .ref c] M Q)) ∧
    (∀ (d : Nat) (a : Nat) (b : Int32) (c : Nat) (L : List Value) (M : Mem) (Q : Option Value → Mem → Prop), Wp d 169 35 L [.ref a, .int b, .ref c] M Q ↔ Wp d 169 36 L [.int 0, .ref a, .int b, .ref c] M Q) ∧
    (∀ (d : Nat) (a : Int32) (b : Nat) (c : Int32) (d2 : Nat) (L : List Value) (M : Mem) (Q : Option Value → Mem → Prop), Wp d 169 36 L [.int a, .ref b, .int c, .ref d2] M Q ↔ Wp d 169 38 L [.int 51, .int a, .ref b, .int c, .ref d2] M Q) ∧
    (∀ (d : Nat) (a : Int32) (b : Int32) (c : Nat) (d2 : Int32) (e : Nat) (L : List Value) (M : Mem) (Q : Option Value → Mem → Prop), Wp (d + 1) 169 38 L [.int a, .int b, .ref c, .int d2, .ref e] M Q ↔ Wp d 123 0 [.ref e, .int d2, .ref c, .int b, .int a, .null] [] M (fun r M2 => Wp (d + 1) 169 41 L (r.toList ++ []) M2 Q)) ∧
    (∀ (d : Nat) (x : Nat) (L : List Value) (M : Mem) (Q : Option Value → Mem → Prop), Wp d 169 41 (.ref x :: L) [] M Q ↔ Wp d 169 42 (.ref x :: L) [.ref x] M Q) ∧
    (∀ (d : Nat) (a : Nat) (L : List Value) (M : Mem) (Q : Option Value → Mem → Prop), Wp d 169 42 L [.ref a] M Q ↔ (isK a 12 = true ∧ Wp d 169 45 L [.int (M a 5)] M Q)) ∧
    (∀ (d : Nat) (a : Int32) (L : List Value) (M : Mem) (Q : Option Value → Mem → Prop), Wp d 169 45 L [.int a] M Q ↔ Q (some (.int a)) M) := by
  refine ⟨?_, ?_, ?_, ?_, ?_, ?_, ?_, ?_, ?_, ?_, ?_, ?_, ?_, ?_, ?_, ?_, ?_, ?_, ?_, ?_, ?_, ?_, ?_, ?_, ?_⟩
  · intro d x L M Q; exact Wp_sim (by decide +kernel : decode (cd 169) 0 = .ok (.aload_n 0, 1)) rfl rfl
  · intro d a L M Q; exact q_getI (p := 848) (by decide +kernel : decode (cd 169) 1 = .ok (.getfield 64, 3)) (by decide +kernel) (by decide +kernel)
  · intro d a L M Q; exact q_zne (by decide +kernel : decode (cd 169) 4 = .ok (.ifCond .ne 6, 3)) (by decide)
  · intro d L M Q; exact q_ldc (p := 1083) (by decide +kernel : decode (cd 169) 7 = .ok (.ldc 200, 2)) (by decide +kernel)
  · intro d a L M Q; exact q_iret (by decide +kernel : decode (cd 169) 9 = .ok (.ireturn , 1)) (by decide +kernel)
  · intro d x L M Q; exact Wp_sim (by decide +kernel : decode (cd 169) 10 = .ok (.aload_n 0, 1)) rfl rfl
  · intro d a L M Q; exact Wp_sim (by decide +kernel : decode (cd 169) 11 = .ok (.dup , 1)) rfl rfl
  · intro d a b L M Q; exact q_getI (p := 848) (by decide +kernel : decode (cd 169) 12 = .ok (.getfield 64, 3)) (by decide +kernel) (by decide +kernel)
  · intro d a b L M Q; exact Wp_sim (by decide +kernel : decode (cd 169) 15 = .ok (.iconst 1, 1)) rfl rfl
  · intro d a b c L M Q; exact Wp_sim (by decide +kernel : decode (cd 169) 16 = .ok (.isub , 1)) rfl rfl
  · intro d a b L M Q; exact q_putI (p := 848) (by decide +kernel : decode (cd 169) 17 = .ok (.putfield 64, 3)) (by decide +kernel) (by decide +kernel)
  · intro d x L M Q; exact Wp_sim (by decide +kernel : decode (cd 169) 20 = .ok (.aload_n 0, 1)) rfl rfl
  · intro d a L M Q; exact q_getR (p := 847) (by decide +kernel : decode (cd 169) 21 = .ok (.getfield 22, 3)) (by decide +kernel) (by decide +kernel)
  · intro d a L M Q; exact Wp_sim (by decide +kernel : decode (cd 169) 24 = .ok (.bipush 51, 2)) rfl rfl
  · intro d a b x L M Q; exact Wp_sim (by decide +kernel : decode (cd 169) 26 = .ok (.aload_n 0, 1)) rfl rfl
  · intro d a b c L M Q; exact q_getI (p := 848) (by decide +kernel : decode (cd 169) 27 = .ok (.getfield 64, 3)) (by decide +kernel) (by decide +kernel)
  · intro d a b c L M Q; exact Wp_sim (by decide +kernel : decode (cd 169) 30 = .ok (.imul , 1)) rfl rfl
  · intro d a b x L M Q; exact Wp_sim (by decide +kernel : decode (cd 169) 31 = .ok (.aload_n 0, 1)) rfl rfl
  · intro d a b c L M Q; exact q_getR (p := 845) (by decide +kernel : decode (cd 169) 32 = .ok (.getfield 16, 3)) (by decide +kernel) (by decide +kernel)
  · intro d a b c L M Q; exact Wp_sim (by decide +kernel : decode (cd 169) 35 = .ok (.iconst 0, 1)) rfl rfl
  · intro d a b c d2 L M Q; exact Wp_sim (by decide +kernel : decode (cd 169) 36 = .ok (.bipush 51, 2)) rfl rfl
  · intro d a b c d2 e L M Q; exact q_invS (pz := 984) (n := 5) (m := 6) (As := [.ref e, .int d2, .ref c, .int b, .int a]) (rest := []) (by decide +kernel : decode (cd 169) 38 = .ok (.invokestatic 137, 3)) (by decide +kernel) (by decide +kernel) (by decide +kernel) rfl rfl (Nat.le_of_ble_eq_true rfl) (Nat.le_of_ble_eq_true rfl) rfl
  · intro d x L M Q; exact Wp_sim (by decide +kernel : decode (cd 169) 41 = .ok (.aload_n 0, 1)) rfl rfl
  · intro d a L M Q; exact q_getI (p := 848) (by decide +kernel : decode (cd 169) 42 = .ok (.getfield 64, 3)) (by decide +kernel) (by decide +kernel)
  · intro d a L M Q; exact q_iret (by decide +kernel : decode (cd 169) 45 = .ok (.ireturn , 1)) (by decide +kernel)

/- 170: PalaceYardModel.soon -/
set_option maxRecDepth 10000 in
theorem e170 : (∀ (d : Nat) (x : Nat) (L : List Value) (M : Mem) (Q : Option Value → Mem → Prop), Wp d 170 0 (.ref x :: L) [] M Q ↔ Wp d 170 1 (.ref x :: L) [.ref x] M Q) ∧
    (∀ (d : Nat) (a : Nat) (v0 : Value) (x : Int32) (L : List Value) (M : Mem) (Q : Option Value → Mem → Prop), Wp d 170 1 (v0 :: .int x :: L) [.ref a] M Q ↔ Wp d 170 2 (v0 :: .int x :: L) [.int x, .ref a] M Q) ∧
    (∀ (d : Nat) (a : Int32) (b : Nat) (L : List Value) (M : Mem) (Q : Option Value → Mem → Prop), Wp (d + 1) 170 2 L [.int a, .ref b] M Q ↔ (isK b 12 = true ∧ Wp d 141 0 [.ref b, .int a] [] M (fun r M2 => Wp (d + 1) 170 5 L (r.toList ++ []) M2 Q))) ∧
    (∀ (d : Nat) (a : Int32) (L : List Value) (M : Mem) (Q : Option Value → Mem → Prop), Wp d 170 5 L [.int a] M Q ↔ (if a = 0 then Wp d 170 8 L [] M Q else Wp d 170 11 L [] M Q)) ∧
    (∀ (d : Nat) (L : List Value) (M : Mem) (Q : Option Value → Mem → Prop), Wp d 170 8 L [] M Q ↔ Wp d 170 10 L [.int (-1000000001)] M Q) ∧
    (∀ (d : Nat) (a : Int32) (L : List Value) (M : Mem) (Q : Option Value → Mem → Prop), Wp d 170 10 L [.int a] M Q ↔ Q (some (.int a)) M) ∧
    (∀ (d : Nat) (x : Nat) (L : List Value) (M : Mem) (Q : Option Value → Mem → Prop), Wp d 170 11 (.ref x :: L) [] M Q ↔ Wp d 170 12 (.ref x :: L) [.ref x] M Q) ∧
    (∀ (d : Nat) (a : Nat) (v0 : Value) (x : Int32) (L : List Value) (M : Mem) (Q : Option Value → Mem → Prop), Wp d 170 12 (v0 :: .int x :: L) [.ref a] M Q ↔ Wp d 170 13 (v0 :: .int x :: L) [.int x, .ref a] M Q) ∧
    (∀ (d : Nat) (a : Int32) (b : Nat) (L : List Value) (M : Mem) (Q : Option Value → Mem → Prop), Wp (d + 1) 170 13 L [.int a, .ref b] M Q ↔ (isK b 12 = true ∧ Wp d 150 0 [.ref b, .int a] [] M (fun r M2 => Wp (d + 1) 170 16 L (r.toList ++ []) M2 Q))) ∧
    (∀ (d : Nat) (a : Int32) (L : List Value) (M : Mem) (Q : Option Value → Mem → Prop), Wp d 170 16 L [.int a] M Q ↔ (if a = 0 then Wp d 170 19 L [] M Q else Wp d 170 22 L [] M Q)) ∧
    (∀ (d : Nat) (L : List Value) (M : Mem) (Q : Option Value → Mem → Prop), Wp d 170 19 L [] M Q ↔ Wp d 170 21 L [.int (-1000000003)] M Q) ∧
    (∀ (d : Nat) (a : Int32) (L : List Value) (M : Mem) (Q : Option Value → Mem → Prop), Wp d 170 21 L [.int a] M Q ↔ Q (some (.int a)) M) ∧
    (∀ (d : Nat) (x : Nat) (L : List Value) (M : Mem) (Q : Option Value → Mem → Prop), Wp d 170 22 (.ref x :: L) [] M Q ↔ Wp d 170 23 (.ref x :: L) [.ref x] M Q) ∧
    (∀ (d : Nat) (a : Nat) (L : List Value) (M : Mem) (Q : Option Value → Mem → Prop), Wp d 170 23 L [.ref a] M Q ↔ (isK a 12 = true ∧ Wp d 170 26 L [.ref (rt a 2)] M Q)) ∧
    (∀ (d : Nat) (a : Nat) (L : List Value) (M : Mem) (Q : Option Value → Mem → Prop), Wp d 170 26 L [.ref a] M Q ↔ Wp d 170 28 L [.int 6, .ref a] M Q) ∧
    (∀ (d : Nat) (a : Int32) (b : Nat) (v0 : Value) (x : Int32) (L : List Value) (M : Mem) (Q : Option Value → Mem → Prop), Wp d 170 28 (v0 :: .int x :: L) [.int a, .ref b] M Q ↔ Wp d 170 29 (v0 :: .int x :: L) [.int x, .int a, .ref b] M Q) ∧
    (∀ (d : Nat) (a : Int32) (b : Int32) (c : Nat) (L : List Value) (M : Mem) (Q : Option Value → Mem → Prop), Wp d 170 29 L [.int a, .int b, .ref c] M Q ↔ Wp d 170 30 L [.int (b + a), .ref c] M Q) ∧
    (∀ (d : Nat) (a : Int32) (b : Nat) (L : List Value) (M : Mem) (Q : Option Value → Mem → Prop), Wp d 170 30 L [.int a, .ref b] M Q ↔ ((isR b = true ∧ inr a (lnm M b)) ∧ Wp d 170 31 L [.int (M b a.toNatClampNeg)] M Q)) ∧
    (∀ (d : Nat) (a : Int32) (v0 : Value) (v1 : Value) (x : Value) (L : List Value) (M : Mem) (Q : Option Value → Mem → Prop), Wp d 170 31 (v0 :: v1 :: x :: L) [.int a] M Q ↔ Wp d 170 32 (v0 :: clr v1 :: .int a :: L) [] M Q) ∧
    (∀ (d : Nat) (L : List Value) (M : Mem) (Q : Option Value → Mem → Prop), Wp d 170 32 L [] M Q ↔ Wp d 170 33 L [.int 0] M Q) ∧
    (∀ (d : Nat) (a : Int32) (v0 : Value) (v1 : Value) (v2 : Value) (x : Value) (L : List Value) (M : Mem) (Q : Option Value → Mem → Prop), Wp d 170 33 (v0 :: v1 :: v2 :: x :: L) [.int a] M Q ↔ Wp d 170 34 (v0 :: v1 :: clr v2 :: .int a :: L) [] M Q) ∧
    (∀ (d : Nat) (a : Int32) (L : List Value) (M : Mem) (Q : Option Value → Mem → Prop), Wp d 170 35 L [.int a] M Q ↔ Wp d 170 38 L [.int 201, .int a] M Q) ∧
    (∀ (d : Nat) (a : Int32) (b : Int32) (L : List Value) (M : Mem) (Q : Option Value → Mem → Prop), Wp d 170 38 L [.int a, .int b] M Q ↔ (if b < a then Wp d 170 41 L [] M Q else Wp d 170 91 L [] M Q)) ∧
    (∀ (d : Nat) (v0 : Value) (v1 : Value) (x : Int32) (L : List Value) (M : Mem) (Q : Option Value → Mem → Prop), Wp d 170 41 (v0 :: v1 :: .int x :: L) [] M Q ↔ Wp d 170 42 (v0 :: v1 :: .int x :: L) [.int x] M Q) ∧
    (∀ (d : Nat) (a : Int32) (x : Nat) (L : List Value) (M : Mem) (Q : Option Value → Mem → Prop), Wp d 170 42 (.ref x :: L) [.int a] M Q ↔ Wp d 170 43 (.ref x :: L) [.ref x, .int a] M Q) ∧
    (∀ (d : Nat) (a : Nat) (b : Int32) (v0 : Value) (x : Int32) (L : List Value) (M : Mem) (Q : Option Value → Mem → Prop), Wp d 170 43 (v0 :: .int x :: L) [.ref a, .int b] M Q ↔ Wp d 170 44 (v0 :: .int x :: L) [.int x, .ref a, .int b] M Q) ∧
    (∀ (d : Nat) (a : Int32) (b : Nat) (c : Int32) (x : Nat) (L : List Value) (M : Mem) (Q : Option Value → Mem → Prop), Wp d 170 44 (.ref x :: L) [.int a, .ref b, .int c] M Q ↔ Wp d 170 45 (.ref x :: L) [.ref x, .int a, .ref b, .int c] M Q) ∧
    (∀ (d : Nat) (a : Nat) (b : Int32) (c : Nat) (d2 : Int32) (L : List Value) (M : Mem) (Q : Option Value → Mem → Prop), Wp d 170 45 L [.ref a, .int b, .ref c, .int d2] M Q ↔ (isK a 12 = true ∧ Wp d 170 48 L [.ref (rt a 2), .int b, .ref c, .int d2] M Q)) ∧
    (∀ (d : Nat) (a : Nat) (b : Int32) (c : Nat) (d2 : Int32) (L : List Value) (M : Mem) (Q : Option Value → Mem → Prop), Wp d 170 48 L [.ref a, .int b, .ref c, .int d2] M Q ↔ Wp d 170 50 L [.int 48, .ref a, .int b, .ref c, .int d2] M Q) ∧
    (∀ (d : Nat) (a : Int32) (b : Nat) (c : Int32) (d2 : Nat) (e : Int32) (L : List Value) (M : Mem) (Q : Option Value → Mem → Prop), Wp d 170 50 L [.int a, .ref b, .int c, .ref d2, .int e] M Q ↔ ((isR b = true ∧ inr a (lnm M b)) ∧ Wp d 170 51 L [.int (M b a.toNatClampNeg), .int c, .ref d2, .int e] M Q)) ∧
    (∀ (d : Nat) (a : Int32) (b : Int32) (c : Nat) (d2 : Int32) (v0 : Value) (v1 : Value) (v2 : Value) (x : Int32) (L : List Value) (M : Mem) (Q : Option Value → Mem → Prop), Wp d 170 51 (v0 :: v1 :: v2 :: .int x :: L) [.int a, .int b, .ref c, .int d2] M Q ↔ Wp d 170 52 (v0 :: v1 :: v2 :: .int x :: L) [.int x, .int a, .int b, .ref c, .int d2] M Q) ∧
    (∀ (d : Nat) (a : Int32) (b : Int32) (c : Int32) (d2 : Nat) (e : Int32) (L : List Value) (M : Mem) (Q : Option Value → Mem → Prop), Wp d 170 52 L [.int a, .int b, .int c, .ref d2, .int e] M Q ↔ Wp d 170 53 L [.int (b + a), .int c, .ref d2, .int e] M Q) ∧
    (∀ (d : Nat) (a : Int32) (b : Int32) (c : Nat) (d2 : Int32) (L : List Value) (M : Mem) (Q : Option Value → Mem → Prop), Wp (d + 1) 170 53 L [.int a, .int b, .ref c, .int d2] M Q ↔ (isK c 12 = true ∧ Wp d 143 0 [.ref c, .int b, .int a, .null] [] M (fun r M2 => Wp (d + 1) 170 56 L (r.toList ++ [.int d2]) M2 Q))) ∧
    (∀ (d : Nat) (a : Int32) (b : Int32) (L : List Value) (M : Mem) (Q : Option Value → Mem → Prop), Wp d 170 56 L [.int a, .int b] M Q ↔ (if b < a then Wp d 170 61 L [] M Q else Wp d 170 59 L [] M Q)) ∧
    (∀ (d : Nat) (v0 : Value) (v1 : Value) (v2 : Value) (x : Int32) (L : List Value) (M : Mem) (Q : Option Value → Mem → Prop), Wp d 170 59 (v0 :: v1 :: v2 :: .int x :: L) [] M Q ↔ Wp d 170 60 (v0 :: v1 :: v2 :: .int x :: L) [.int x] M Q) ∧
    (∀ (d : Nat) (a : Int32) (L : List Value) (M : Mem) (Q : Option Value → Mem → Prop), Wp d 170 60 L [.int a] M Q ↔ Q (some (.int a)) M) ∧
    (∀ (d : Nat) (x : Nat) (L : List Value) (M : Mem) (Q : Option Value → Mem → Prop), Wp d 170 61 (.ref x :: L) [] M Q ↔ Wp d 170 62 (.ref x :: L) [.ref x] M Q) ∧
    (∀ (d : Nat) (a : Nat) (v0 : Value) (x : Int32) (L : List Value) (M : Mem) (Q : Option Value → Mem → Prop), Wp d 170 62 (v0 :: .int x :: L) [.ref a] M Q ↔ Wp d 170 63 (v0 :: .int x :: L) [.int x, .ref a] M Q) ∧
    (∀ (d : Nat) (a : Int32) (b : Nat) (v0 : Value) (v1 : Value) (x : Int32) (L : List Value) (M : Mem) (Q : Option Value → Mem → Prop), Wp d 170 63 (v0 :: v1 :: .int x :: L) [.int a, .ref b] M Q ↔ Wp d 170 64 (v0 :: v1 :: .int x :: L) [.int x, .int a, .ref b] M Q) ∧
    (∀ (d : Nat) (a : Int32) (b : Int32) (c : Nat) (x : Nat) (L : List Value) (M : Mem) (Q : Option Value → Mem → Prop), Wp d 170 64 (.ref x :: L) [.int a, .int b, .ref c] M Q ↔ Wp d 170 65 (.ref x :: L) [.ref x, .int a, .int b, .ref c] M Q) ∧
    (∀ (d : Nat) (a : Nat) (b : Int32) (c : Int32) (d2 : Nat) (L : List Value) (M : Mem) (Q : Option Value → Mem → Prop), Wp d 170 65 L [.ref a, .int b, .int c, .ref d2] M Q ↔ (isK a 12 = true ∧ Wp d 170 68 L [.ref (rt a 2), .int b, .int c, .ref d2] M Q)) ∧
    (∀ (d : Nat) (a : Nat) (b : Int32) (c : Int32) (d2 : Nat) (L : List Value) (M : Mem) (Q : Option Value → Mem → Prop), Wp d 170 68 L [.ref a, .int b, .int c, .ref d2] M Q ↔ Wp d 170 69 L [.int 0, .ref a, .int b, .int c, .ref d2] M Q) ∧
    (∀ (d : Nat) (a : Int32) (b : Nat) (c : Int32) (d2 : Int32) (e : Nat) (v0 : Value) (x : Int32) (L : List Value) (M : Mem) (Q : Option Value → Mem → Prop), Wp d 170 69 (v0 :: .int x :: L) [.int a, .ref b, .int c, .int d2, .ref e] M Q ↔ Wp d 170 70 (v0 :: .int x :: L) [.int x, .int a, .ref b, .int c, .int d2, .ref e] M Q) ∧
    (∀ (d : Nat) (a : Int32) (b : Int32) (c : Nat) (d2 : Int32) (e : Int32) (f : Nat) (L : List Value) (M : Mem) (Q : Option Value → Mem → Prop), Wp d 170 70 L [.int a, .int b, .ref c, .int d2, .int e, .ref f] M Q ↔ Wp d 170 71 L [.int (b + a), .ref c, .int d2, .int e, .ref f] M Q) ∧
    (∀ (d : Nat) (a : Int32) (b : Nat) (c : Int32) (d2 : Int32) (e : Nat) (L : List Value) (M : Mem) (Q : Option Value → Mem → Prop), Wp d 170 71 L [.int a, .ref b, .int c, .int d2, .ref e] M Q ↔ ((isR b = true ∧ inr a (lnm M b)) ∧ Wp d 170 72 L [.int (M b a.toNatClampNeg), .int c, .int d2, .ref e] M Q)) ∧
    (∀ (d : Nat) (a : Int32) (b : Int32) (c : Int32) (d2 : Nat) (L : List Value) (M : Mem) (Q : Option Value → Mem → Prop), Wp d 170 72 L [.int a, .int b, .int c, .ref d2] M Q ↔ Wp d 170 73 L [.int 1, .int a, .int b, .int c, .ref d2] M Q) ∧
    (∀ (d : Nat) (a : Int32) (b : Int32) (c : Int32) (d2 : Int32) (e : Nat) (L : List Value) (M : Mem) (Q : Option Value → Mem → Prop), Wp d 170 73 L [.int a, .int b, .int c, .int d2, .ref e] M Q ↔ (if b = a then Wp d 170 76 L [.int c, .int d2, .ref e] M Q else Wp d 170 80 L [.int c, .int d2, .ref e] M Q)) ∧
    (∀ (d : Nat) (a : Int32) (b : Int32) (c : Nat) (L : List Value) (M : Mem) (Q : Option Value → Mem → Prop), Wp d 170 76 L [.int a, .int b, .ref c] M Q ↔ Wp d 170 77 L [.int 1, .int a, .int b, .ref c] M Q) ∧
    (∀ (d : Nat) (a : Int32) (b : Int32) (c : Int32) (d2 : Nat) (L : List Value) (M : Mem) (Q : Option Value → Mem → Prop), Wp d 170 77 L [.int a, .int b, .int c, .ref d2] M Q ↔ Wp d 170 81 L [.int a, .int b, .int c, .ref d2] M Q) ∧
    (∀ (d : Nat) (a : Int32) (b : Int32) (c : Nat) (L : List Value) (M : Mem) (Q : Option Value → Mem → Prop), Wp d 170 80 L [.int a, .int b, .ref c] M Q ↔ Wp d 170 81 L [.int 0, .int a, .int b, .ref c] M Q) ∧
    (∀ (d : Nat) (a : Int32) (b : Int32) (c : Int32) (d2 : Nat) (L : List Value) (M : Mem) (Q : Option Value → Mem → Prop), Wp (d + 1) 170 81 L [.int a, .int b, .int c, .ref d2] M Q ↔ (isK d2 12 = true ∧ Wp d 131 0 [.ref d2, .int c, .int b, .int a] [] M (fun r M2 => Wp (d + 1) 170 84 L (r.toList ++ []) M2 Q))) ∧
    (∀ (d : Nat) (a : Int32) (v0 : Value) (v1 : Value) (x : Value) (L : List Value) (M : Mem) (Q : Option Value → Mem → Prop), Wp d 170 84 (v0 :: v1 :: x :: L) [.int a] M Q ↔ Wp d 170 85 (v0 :: clr v1 :: .int a :: L) [] M Q) ∧
    (∀ (d : Nat) (v0 : Value) (v1 : Value) (v2 : Value) (x : Int32) (L : List Value) (M : Mem) (Q : Option Value → Mem → Prop), Wp d 170 85 (v0 :: v1 :: v2 :: .int x :: L) [] M Q ↔ Wp d 170 88 (v0 :: v1 :: clr v2 :: .int (x + 1) :: L) [] M Q) ∧
    (∀ (d : Nat) (L : List Value) (M : Mem) (Q : Option Value → Mem → Prop), Wp d 170 88 L [] M Q ↔ Wp d 170 34 L [] M Q) ∧
    (∀ (d : Nat) (L : List Value) (M : Mem) (Q : Option Value → Mem → Prop), Wp d 170 91 L [] M Q ↔ Wp d 170 92 L [.int (-1)] M Q) ∧
    (∀ (d : Nat) (a : Int32) (L : List Value) (M : Mem) (Q : Option Value → Mem → Prop), Wp d 170 92 L [.int a] M Q ↔ Q (some (.int a)) M) := by
  refine ⟨?_, ?_, ?_, ?_, ?_, ?_, ?_, ?_, ?_, ?_, ?_, ?_, ?_, ?_, ?_, ?_, ?_, ?_, ?_, ?_, ?_, ?_, ?_, ?_, ?_, ?_, ?_, ?_, ?_, ?_, ?_, ?_, ?_, ?_, ?_, ?_, ?_, ?_, ?_, ?_, ?_, ?_, ?_, ?_, ?_, ?_, ?_, ?_, ?_, ?_, ?_, ?_, ?_, ?_, ?_, ?_⟩
  · intro d x L M Q; exact Wp_sim (by decide +kernel : decode (cd 170) 0 = .ok (.aload_n 0, 1)) rfl rfl
  · intro d a v0 x L M Q; exact Wp_sim (by decide +kernel : decode (cd 170) 1 = .ok (.iload_n 1, 1)) rfl rfl
  · intro d a b L M Q; exact q_invV (pz := 1053) (n := 1) (c := 12) (m := 2) (k := b) (As := [.int a]) (rest := []) (by decide +kernel : decode (cd 170) 2 = .ok (.invokevirtual 183, 3)) (by decide +kernel) (by decide +kernel) rfl rfl (Nat.le_of_ble_eq_true rfl) (Nat.le_of_ble_eq_true rfl) rfl
  · intro d a L M Q; exact q_zne (by decide +kernel : decode (cd 170) 5 = .ok (.ifCond .ne 6, 3)) (by decide)
  · intro d L M Q; exact q_ldc (p := 1043) (by decide +kernel : decode (cd 170) 8 = .ok (.ldc 180, 2)) (by decide +kernel)
  · intro d a L M Q; exact q_iret (by decide +kernel : decode (cd 170) 10 = .ok (.ireturn , 1)) (by decide +kernel)
  · intro d x L M Q; exact Wp_sim (by decide +kernel : decode (cd 170) 11 = .ok (.aload_n 0, 1)) rfl rfl
  · intro d a v0 x L M Q; exact Wp_sim (by decide +kernel : decode (cd 170) 12 = .ok (.iload_n 1, 1)) rfl rfl
  · intro d a b L M Q; exact q_invV (pz := 1092) (n := 1) (c := 12) (m := 2) (k := b) (As := [.int a]) (rest := []) (by decide +kernel : decode (cd 170) 13 = .ok (.invokevirtual 191, 3)) (by decide +kernel) (by decide +kernel) rfl rfl (Nat.le_of_ble_eq_true rfl) (Nat.le_of_ble_eq_true rfl) rfl
  · intro d a L M Q; exact q_zne (by decide +kernel : decode (cd 170) 16 = .ok (.ifCond .ne 6, 3)) (by decide)
  · intro d L M Q; exact q_ldc (p := 1083) (by decide +kernel : decode (cd 170) 19 = .ok (.ldc 200, 2)) (by decide +kernel)
  · intro d a L M Q; exact q_iret (by decide +kernel : decode (cd 170) 21 = .ok (.ireturn , 1)) (by decide +kernel)
  · intro d x L M Q; exact Wp_sim (by decide +kernel : decode (cd 170) 22 = .ok (.aload_n 0, 1)) rfl rfl
  · intro d a L M Q; exact q_getR (p := 845) (by decide +kernel : decode (cd 170) 23 = .ok (.getfield 16, 3)) (by decide +kernel) (by decide +kernel)
  · intro d a L M Q; exact Wp_sim (by decide +kernel : decode (cd 170) 26 = .ok (.bipush 6, 2)) rfl rfl
  · intro d a b v0 x L M Q; exact Wp_sim (by decide +kernel : decode (cd 170) 28 = .ok (.iload_n 1, 1)) rfl rfl
  · intro d a b c L M Q; exact Wp_sim (by decide +kernel : decode (cd 170) 29 = .ok (.iadd , 1)) rfl rfl
  · intro d a b L M Q; exact q_ald (by decide +kernel : decode (cd 170) 30 = .ok (.iaload , 1))
  · intro d a v0 v1 x L M Q; exact Wp_sim (by decide +kernel : decode (cd 170) 31 = .ok (.istore_n 2, 1)) rfl rfl
  · intro d L M Q; exact Wp_sim (by decide +kernel : decode (cd 170) 32 = .ok (.iconst 0, 1)) rfl rfl
  · intro d a v0 v1 v2 x L M Q; exact Wp_sim (by decide +kernel : decode (cd 170) 33 = .ok (.istore_n 3, 1)) rfl rfl
  · intro d a L M Q; exact Wp_sim (by decide +kernel : decode (cd 170) 35 = .ok (.sipush 201, 3)) rfl rfl
  · intro d a b L M Q; exact q_ige (by decide +kernel : decode (cd 170) 38 = .ok (.if_icmp .ge 53, 3)) (by decide)
  · intro d v0 v1 x L M Q; exact Wp_sim (by decide +kernel : decode (cd 170) 41 = .ok (.iload_n 2, 1)) rfl rfl
  · intro d a x L M Q; exact Wp_sim (by decide +kernel : decode (cd 170) 42 = .ok (.aload_n 0, 1)) rfl rfl
  · intro d a b v0 x L M Q; exact Wp_sim (by decide +kernel : decode (cd 170) 43 = .ok (.iload_n 1, 1)) rfl rfl
  · intro d a b c x L M Q; exact Wp_sim (by decide +kernel : decode (cd 170) 44 = .ok (.aload_n 0, 1)) rfl rfl
  · intro d a b c d2 L M Q; exact q_getR (p := 845) (by decide +kernel : decode (cd 170) 45 = .ok (.getfield 16, 3)) (by decide +kernel) (by decide +kernel)
  · intro d a b c d2 L M Q; exact Wp_sim (by decide +kernel : decode (cd 170) 48 = .ok (.bipush 48, 2)) rfl rfl
  · intro d a b c d2 e L M Q; exact q_ald (by decide +kernel : decode (cd 170) 50 = .ok (.iaload , 1))
  · intro d a b c d2 v0 v1 v2 x L M Q; exact Wp_sim (by decide +kernel : decode (cd 170) 51 = .ok (.iload_n 3, 1)) rfl rfl
  · intro d a b c d2 e L M Q; exact Wp_sim (by decide +kernel : decode (cd 170) 52 = .ok (.iadd , 1)) rfl rfl
  · intro d a b c d2 L M Q; exact q_invV (pz := 1061) (n := 2) (c := 12) (m := 4) (k := c) (As := [.int b, .int a]) (rest := [.int d2]) (by decide +kernel : decode (cd 170) 53 = .ok (.invokevirtual 147, 3)) (by decide +kernel) (by decide +kernel) rfl rfl (Nat.le_of_ble_eq_true rfl) (Nat.le_of_ble_eq_true rfl) rfl
  · intro d a b L M Q; exact q_ilt (by decide +kernel : decode (cd 170) 56 = .ok (.if_icmp .lt 5, 3)) (by decide)
  · intro d v0 v1 v2 x L M Q; exact Wp_sim (by decide +kernel : decode (cd 170) 59 = .ok (.iload_n 3, 1)) rfl rfl
  · intro d a L M Q; exact q_iret (by decide +kernel : decode (cd 170) 60 = .ok (.ireturn , 1)) (by decide +kernel)
  · intro d x L M Q; exact Wp_sim (by decide +kernel : decode (cd 170) 61 = .ok (.aload_n 0, 1)) rfl rfl
  · intro d a v0 x L M Q; exact Wp_sim (by decide +kernel : decode (cd 170) 62 = .ok (.iload_n 1, 1)) rfl rfl
  · intro d a b v0 v1 x L M Q; exact Wp_sim (by decide +kernel : decode (cd 170) 63 = .ok (.iload_n 2, 1)) rfl rfl
  · intro d a b c x L M Q; exact Wp_sim (by decide +kernel : decode (cd 170) 64 = .ok (.aload_n 0, 1)) rfl rfl
  · intro d a b c d2 L M Q; exact q_getR (p := 845) (by decide +kernel : decode (cd 170) 65 = .ok (.getfield 16, 3)) (by decide +kernel) (by decide +kernel)
  · intro d a b c d2 L M Q; exact Wp_sim (by decide +kernel : decode (cd 170) 68 = .ok (.iconst 0, 1)) rfl rfl
  · intro d a b c d2 e v0 x L M Q; exact Wp_sim (by decide +kernel : decode (cd 170) 69 = .ok (.iload_n 1, 1)) rfl rfl
  · intro d a b c d2 e f L M Q; exact Wp_sim (by decide +kernel : decode (cd 170) 70 = .ok (.iadd , 1)) rfl rfl
  · intro d a b c d2 e L M Q; exact q_ald (by decide +kernel : decode (cd 170) 71 = .ok (.iaload , 1))
  · intro d a b c d2 L M Q; exact Wp_sim (by decide +kernel : decode (cd 170) 72 = .ok (.iconst 1, 1)) rfl rfl
  · intro d a b c d2 e L M Q; exact q_ine (by decide +kernel : decode (cd 170) 73 = .ok (.if_icmp .ne 7, 3)) (by decide)
  · intro d a b c L M Q; exact Wp_sim (by decide +kernel : decode (cd 170) 76 = .ok (.iconst 1, 1)) rfl rfl
  · intro d a b c d2 L M Q; exact q_goto (by decide +kernel : decode (cd 170) 77 = .ok (.goto 4, 3)) (by decide)
  · intro d a b c L M Q; exact Wp_sim (by decide +kernel : decode (cd 170) 80 = .ok (.iconst 0, 1)) rfl rfl
  · intro d a b c d2 L M Q; exact q_invV (pz := 1014) (n := 3) (c := 12) (m := 4) (k := d2) (As := [.int c, .int b, .int a]) (rest := []) (by decide +kernel : decode (cd 170) 81 = .ok (.invokevirtual 161, 3)) (by decide +kernel) (by decide +kernel) rfl rfl (Nat.le_of_ble_eq_true rfl) (Nat.le_of_ble_eq_true rfl) rfl
  · intro d a v0 v1 x L M Q; exact Wp_sim (by decide +kernel : decode (cd 170) 84 = .ok (.istore_n 2, 1)) rfl rfl
  · intro d v0 v1 v2 x L M Q; exact Wp_sim (by decide +kernel : decode (cd 170) 85 = .ok (.iinc 3 1, 3)) rfl rfl
  · intro d L M Q; exact q_goto (by decide +kernel : decode (cd 170) 88 = .ok (.goto (-54), 3)) (by decide)
  · intro d L M Q; exact Wp_sim (by decide +kernel : decode (cd 170) 91 = .ok (.iconst (-1), 1)) rfl rfl
  · intro d a L M Q; exact q_iret (by decide +kernel : decode (cd 170) 92 = .ok (.ireturn , 1)) (by decide +kernel)
theorem h170_34 : (∀ (d : Nat) (v0 : Value) (v1 : Value) (v2 : Value) (x : Int32) (L : List Value) (M : Mem) (Q : Option Value → Mem → Prop), Wp d 170 34 (v0 :: v1 :: v2 :: .int x :: L) [] M Q ↔ Wp d 170 35 (v0 :: v1 :: v2 :: .int x :: L) [.int x] M Q) := by
  intro d v0 v1 v2 x L M Q; exact Wp_sim (by decide +kernel : decode (cd 170) 34 = .ok (.iload_n 3, 1)) rfl rfl

/- 171: PalaceYardModel.cheapest -/
set_option maxRecDepth 10000 in
theorem e171_0 : (∀ (d : Nat) (x : Nat) (L : List Value) (M : Mem) (Q : Option Value → Mem → Prop), Wp d 171 0 (.ref x :: L) [] M Q ↔ Wp d 171 1 (.ref x :: L) [.ref x] M Q) ∧
    (∀ (d : Nat) (a : Nat) (v0 : Value) (x : Int32) (L : List Value) (M : Mem) (Q : Option Value → Mem → Prop), Wp d 171 1 (v0 :: .int x :: L) [.ref a] M Q ↔ Wp d 171 2 (v0 :: .int x :: L) [.int x, .ref a] M Q) ∧
    (∀ (d : Nat) (a : Int32) (b : Nat) (L : List Value) (M : Mem) (Q : Option Value → Mem → Prop), Wp (d + 1) 171 2 L [.int a, .ref b] M Q ↔ (isK b 12 = true ∧ Wp d 141 0 [.ref b, .int a] [] M (fun r M2 => Wp (d + 1) 171 5 L (r.toList ++ []) M2 Q))) ∧
    (∀ (d : Nat) (a : Int32) (L : List Value) (M : Mem) (Q : Option Value → Mem → Prop), Wp d 171 5 L [.int a] M Q ↔ (if a = 0 then Wp d 171 8 L [] M Q else Wp d 171 11 L [] M Q)) ∧
    (∀ (d : Nat) (L : List Value) (M : Mem) (Q : Option Value → Mem → Prop), Wp d 171 8 L [] M Q ↔ Wp d 171 10 L [.int (-1000000001)] M Q) ∧
    (∀ (d : Nat) (a : Int32) (L : List Value) (M : Mem) (Q : Option Value → Mem → Prop), Wp d 171 10 L [.int a] M Q ↔ Q (some (.int a)) M) ∧
    (∀ (d : Nat) (v0 : Value) (v1 : Value) (x : Int32) (L : List Value) (M : Mem) (Q : Option Value → Mem → Prop), Wp d 171 11 (v0 :: v1 :: .int x :: L) [] M Q ↔ Wp d 171 12 (v0 :: v1 :: .int x :: L) [.int x] M Q) ∧
    (∀ (d : Nat) (a : Int32) (L : List Value) (M : Mem) (Q : Option Value → Mem → Prop), Wp d 171 12 L [.int a] M Q ↔ Wp d 171 13 L [.long a.toInt64] M Q) ∧
    (∀ (d : Nat) (a : Int64) (L : List Value) (M : Mem) (Q : Option Value → Mem → Prop), Wp d 171 13 L [.long a] M Q ↔ Wp d 171 14 L [.long 0, .long a] M Q) ∧
    (∀ (d : Nat) (a : Int64) (b : Int64) (L : List Value) (M : Mem) (Q : Option Value → Mem → Prop), Wp d 171 14 L [.long a, .long b] M Q ↔ Wp d 171 15 L [.long 1, .long a, .long b] M Q) ∧
    (∀ (d : Nat) (a : Int64) (b : Int64) (c : Int64) (L : List Value) (M : Mem) (Q : Option Value → Mem → Prop), Wp (d + 1) 171 15 L [.long a, .long b, .long c] M Q ↔ Wp d 112 0 [.long c, .null, .long b, .null, .long a, .null] [] M (fun r M2 => Wp (d + 1) 171 18 L (r.toList ++ []) M2 Q)) ∧
    (∀ (d : Nat) (a : Int32) (L : List Value) (M : Mem) (Q : Option Value → Mem → Prop), Wp d 171 18 L [.int a] M Q ↔ (if a = 0 then Wp d 171 21 L [] M Q else Wp d 171 24 L [] M Q)) ∧
    (∀ (d : Nat) (L : List Value) (M : Mem) (Q : Option Value → Mem → Prop), Wp d 171 21 L [] M Q ↔ Wp d 171 23 L [.int (-1000000002)] M Q) ∧
    (∀ (d : Nat) (a : Int32) (L : List Value) (M : Mem) (Q : Option Value → Mem → Prop), Wp d 171 23 L [.int a] M Q ↔ Q (some (.int a)) M) ∧
    (∀ (d : Nat) (x : Nat) (L : List Value) (M : Mem) (Q : Option Value → Mem → Prop), Wp d 171 24 (.ref x :: L) [] M Q ↔ Wp d 171 25 (.ref x :: L) [.ref x] M Q) ∧
    (∀ (d : Nat) (a : Nat) (v0 : Value) (x : Int32) (L : List Value) (M : Mem) (Q : Option Value → Mem → Prop), Wp d 171 25 (v0 :: .int x :: L) [.ref a] M Q ↔ Wp d 171 26 (v0 :: .int x :: L) [.int x, .ref a] M Q) ∧
    (∀ (d : Nat) (a : Int32) (b : Nat) (L : List Value) (M : Mem) (Q : Option Value → Mem → Prop), Wp (d + 1) 171 26 L [.int a, .ref b] M Q ↔ (isK b 12 = true ∧ Wp d 150 0 [.ref b, .int a] [] M (fun r M2 => Wp (d + 1) 171 29 L (r.toList ++ []) M2 Q))) ∧
    (∀ (d : Nat) (a : Int32) (L : List Value) (M : Mem) (Q : Option Value → Mem → Prop), Wp d 171 29 L [.int a] M Q ↔ (if a = 0 then Wp d 171 32 L [] M Q else Wp d 171 35 L [] M Q)) ∧
    (∀ (d : Nat) (L : List Value) (M : Mem) (Q : Option Value → Mem → Prop), Wp d 171 32 L [] M Q ↔ Wp d 171 34 L [.int (-1000000003)] M Q) ∧
    (∀ (d : Nat) (a : Int32) (L : List Value) (M : Mem) (Q : Option Value → Mem → Prop), Wp d 171 34 L [.int a] M Q ↔ Q (some (.int a)) M) ∧
    (∀ (d : Nat) (x : Nat) (L : List Value) (M : Mem) (Q : Option Value → Mem → Prop), Wp d 171 35 (.ref x :: L) [] M Q ↔ Wp d 171 36 (.ref x :: L) [.ref x] M Q) ∧
    (∀ (d : Nat) (a : Nat) (L : List Value) (M : Mem) (Q : Option Value → Mem → Prop), Wp d 171 36 L [.ref a] M Q ↔ (isK a 12 = true ∧ Wp d 171 39 L [.ref (rt a 2)] M Q)) ∧
    (∀ (d : Nat) (a : Nat) (L : List Value) (M : Mem) (Q : Option Value → Mem → Prop), Wp d 171 39 L [.ref a] M Q ↔ Wp d 171 40 L [.int 0, .ref a] M Q) ∧
    (∀ (d : Nat) (a : Int32) (b : Nat) (v0 : Value) (x : Int32) (L : List Value) (M : Mem) (Q : Option Value → Mem → Prop), Wp d 171 40 (v0 :: .int x :: L) [.int a, .ref b] M Q ↔ Wp d 171 41 (v0 :: .int x :: L) [.int x, .int a, .ref b] M Q) ∧
    (∀ (d : Nat) (a : Int32) (b : Int32) (c : Nat) (L : List Value) (M : Mem) (Q : Option Value → Mem → Prop), Wp d 171 41 L [.int a, .int b, .ref c] M Q ↔ Wp d 171 42 L [.int (b + a), .ref c] M Q) ∧
    (∀ (d : Nat) (a : Int32) (b : Nat) (L : List Value) (M : Mem) (Q : Option Value → Mem → Prop), Wp d 171 42 L [.int a, .ref b] M Q ↔ ((isR b = true ∧ inr a (lnm M b)) ∧ Wp d 171 43 L [.int (M b a.toNatClampNeg)] M Q)) ∧
    (∀ (d : Nat) (a : Int32) (L : List Value) (M : Mem) (Q : Option Value → Mem → Prop), Wp d 171 43 L [.int a] M Q ↔ Wp d 171 44 L [.int 1, .int a] M Q) ∧
    (∀ (d : Nat) (a : Int32) (b : Int32) (L : List Value) (M : Mem) (Q : Option Value → Mem → Prop), Wp d 171 44 L [.int a, .int b] M Q ↔ (if b = a then Wp d 171 47 L [] M Q else Wp d 171 51 L [] M Q)) ∧
    (∀ (d : Nat) (L : List Value) (M : Mem) (Q : Option Value → Mem → Prop), Wp d 171 47 L [] M Q ↔ Wp d 171 48 L [.int 1] M Q) ∧
    (∀ (d : Nat) (a : Int32) (L : List Value) (M : Mem) (Q : Option Value → Mem → Prop), Wp d 171 48 L [.int a] M Q ↔ Wp d 171 52 L [.int a] M Q) ∧
    (∀ (d : Nat) (L : List Value) (M : Mem) (Q : Option Value → Mem → Prop), Wp d 171 51 L [] M Q ↔ Wp d 171 52 L [.int 0] M Q) ∧
    (∀ (d : Nat) (a : Int32) (v0 : Value) (v1 : Value) (v2 : Value) (x : Value) (L : List Value) (M : Mem) (Q : Option Value → Mem → Prop), Wp d 171 52 (v0 :: v1 :: v2 :: x :: L) [.int a] M Q ↔ Wp d 171 53 (v0 :: v1 :: clr v2 :: .int a :: L) [] M Q) ∧
    (∀ (d : Nat) (x : Nat) (L : List Value) (M : Mem) (Q : Option Value → Mem → Prop), Wp d 171 53 (.ref x :: L) [] M Q ↔ Wp d 171 54 (.ref x :: L) [.ref x] M Q) ∧
    (∀ (d : Nat) (a : Nat) (L : List Value) (M : Mem) (Q : Option Value → Mem → Prop), Wp d 171 54 L [.ref a] M Q ↔ (isK a 12 = true ∧ Wp d 171 57 L [.ref (rt a 2)] M Q)) ∧
    (∀ (d : Nat) (a : Nat) (L : List Value) (M : Mem) (Q : Option Value → Mem → Prop), Wp d 171 57 L [.ref a] M Q ↔ Wp d 171 59 L [.int 6, .ref a] M Q) ∧
    (∀ (d : Nat) (a : Int32) (b : Nat) (v0 : Value) (x : Int32) (L : List Value) (M : Mem) (Q : Option Value → Mem → Prop), Wp d 171 59 (v0 :: .int x :: L) [.int a, .ref b] M Q ↔ Wp d 171 60 (v0 :: .int x :: L) [.int x, .int a, .ref b] M Q) ∧
    (∀ (d : Nat) (a : Int32) (b : Int32) (c : Nat) (L : List Value) (M : Mem) (Q : Option Value → Mem → Prop), Wp d 171 60 L [.int a, .int b, .ref c] M Q ↔ Wp d 171 61 L [.int (b + a), .ref c] M Q) ∧
    (∀ (d : Nat) (a : Int32) (b : Nat) (L : List Value) (M : Mem) (Q : Option Value → Mem → Prop), Wp d 171 61 L [.int a, .ref b] M Q ↔ ((isR b = true ∧ inr a (lnm M b)) ∧ Wp d 171 62 L [.int (M b a.toNatClampNeg)] M Q)) ∧
    (∀ (d : Nat) (a : Int32) (v0 : Value) (v1 : Value) (v2 : Value) (v3 : Value) (x : Value) (L : List Value) (M : Mem) (Q : Option Value → Mem → Prop), Wp d 171 62 (v0 :: v1 :: v2 :: v3 :: x :: L) [.int a] M Q ↔ Wp d 171 64 (v0 :: v1 :: v2 :: clr v3 :: .int a :: L) [] M Q) ∧
    (∀ (d : Nat) (L : List Value) (M : Mem) (Q : Option Value → Mem → Prop), Wp d 171 64 L [] M Q ↔ Wp d 171 65 L [.int (-1)] M Q) ∧
    (∀ (d : Nat) (a : Int32) (v0 : Value) (v1 : Value) (v2 : Value) (v3 : Value) (v4 : Value) (x : Value) (L : List Value) (M : Mem) (Q : Option Value → Mem → Prop), Wp d 171 65 (v0 :: v1 :: v2 :: v3 :: v4 :: x :: L) [.int a] M Q ↔ Wp d 171 67 (v0 :: v1 :: v2 :: v3 :: clr v4 :: .int a :: L) [] M Q) ∧
    (∀ (d : Nat) (L : List Value) (M : Mem) (Q : Option Value → Mem → Prop), Wp d 171 67 L [] M Q ↔ Wp d 171 70 L [.int 100000000] M Q) ∧
    (∀ (d : Nat) (a : Int32) (v0 : Value) (v1 : Value) (v2 : Value) (v3 : Value) (v4 : Value) (v5 : Value) (x : Value) (L : List Value) (M : Mem) (Q : Option Value → Mem → Prop), Wp d 171 70 (v0 :: v1 :: v2 :: v3 :: v4 :: v5 :: x :: L) [.int a] M Q ↔ Wp d 171 72 (v0 :: v1 :: v2 :: v3 :: v4 :: clr v5 :: .int a :: L) [] M Q) ∧
    (∀ (d : Nat) (L : List Value) (M : Mem) (Q : Option Value → Mem → Prop), Wp d 171 72 L [] M Q ↔ Wp d 171 73 L [.int 0] M Q) ∧
    (∀ (d : Nat) (a : Int32) (v0 : Value) (v1 : Value) (v2 : Value) (v3 : Value) (v4 : Value) (v5 : Value) (v6 : Value) (x : Value) (L : List Value) (M : Mem) (Q : Option Value → Mem → Prop), Wp d 171 73 (v0 :: v1 :: v2 :: v3 :: v4 :: v5 :: v6 :: x :: L) [.int a] M Q ↔ Wp d 171 75 (v0 :: v1 :: v2 :: v3 :: v4 :: v5 :: clr v6 :: .int a :: L) [] M Q) ∧
    (∀ (d : Nat) (a : Int32) (L : List Value) (M : Mem) (Q : Option Value → Mem → Prop), Wp d 171 77 L [.int a] M Q ↔ Wp d 171 79 L [.int 61, .int a] M Q) ∧
    (∀ (d : Nat) (a : Int32) (b : Int32) (L : List Value) (M : Mem) (Q : Option Value → Mem → Prop), Wp d 171 79 L [.int a, .int b] M Q ↔ (if b < a then Wp d 171 82 L [] M Q else Wp d 171 159 L [] M Q)) ∧
    (∀ (d : Nat) (x : Nat) (L : List Value) (M : Mem) (Q : Option Value → Mem → Prop), Wp d 171 82 (.ref x :: L) [] M Q ↔ Wp d 171 83 (.ref x :: L) [.ref x] M Q) ∧
    (∀ (d : Nat) (a : Nat) (v0 : Value) (x : Int32) (L : List Value) (M : Mem) (Q : Option Value → Mem → Prop), Wp d 171 83 (v0 :: .int x :: L) [.ref a] M Q ↔ Wp d 171 84 (v0 :: .int x :: L) [.int x, .ref a] M Q) ∧
    (∀ (d : Nat) (a : Int32) (b : Nat) (x : Nat) (L : List Value) (M : Mem) (Q : Option Value → Mem → Prop), Wp d 171 84 (.ref x :: L) [.int a, .ref b] M Q ↔ Wp d 171 85 (.ref x :: L) [.ref x, .int a, .ref b] M Q) ∧
    (∀ (d : Nat) (a : Nat) (b : Int32) (c : Nat) (L : List Value) (M : Mem) (Q : Option Value → Mem → Prop), Wp d 171 85 L [.ref a, .int b, .ref c] M Q ↔ (isK a 12 = true ∧ Wp d 171 88 L [.ref (rt a 2), .int b, .ref c] M Q)) ∧
    (∀ (d : Nat) (a : Nat) (b : Int32) (c : Nat) (L : List Value) (M : Mem) (Q : Option Value → Mem → Prop), Wp d 171 88 L [.ref a, .int b, .ref c] M Q ↔ Wp d 171 90 L [.int 48, .ref a, .int b, .ref c] M Q) ∧
    (∀ (d : Nat) (a : Int32) (b : Nat) (c : Int32) (d2 : Nat) (L : List Value) (M : Mem) (Q : Option Value → Mem → Prop), Wp d 171 90 L [.int a, .ref b, .int c, .ref d2] M Q ↔ ((isR b = true ∧ inr a (lnm M b)) ∧ Wp d 171 91 L [.int (M b a.toNatClampNeg), .int c, .ref d2] M Q)) ∧
    (∀ (d : Nat) (a : Int32) (b : Int32) (c : Nat) (v0 : Value) (v1 : Value) (v2 : Value) (v3 : Value) (v4 : Value) (v5 : Value) (v6 : Value) (x : Int32) (L : List Value) (M : Mem) (Q : Option Value → Mem → Prop), Wp d 171 91 (v0 :: v1 :: v2 :: v3 :: v4 :: v5 :: v6 :: .int x :: L) [.int a, .int b, .ref c] M Q ↔ Wp d 171 93 (v0 :: v1 :: v2 :: v3 :: v4 :: v5 :: v6 :: .int x :: L) [.int x, .int a, .int b, .ref c] M Q) ∧
    (∀ (d : Nat) (a : Int32) (b : Int32) (c : Int32) (d2 : Nat) (L : List Value) (M : Mem) (Q : Option Value → Mem → Prop), Wp d 171 93 L [.int a, .int b, .int c, .ref d2] M Q ↔ Wp d 171 94 L [.int (b + a), .int c, .ref d2] M Q) ∧
    (∀ (d : Nat) (a : Int32) (b : Int32) (c : Nat) (L : List Value) (M : Mem) (Q : Option Value → Mem → Prop), Wp (d + 1) 171 94 L [.int a, .int b, .ref c] M Q ↔ (isK c 12 = true ∧ Wp d 143 0 [.ref c, .int b, .int a, .null] [] M (fun r M2 => Wp (d + 1) 171 97 L (r.toList ++ []) M2 Q))) ∧
    (∀ (d : Nat) (a : Int32) (v0 : Value) (v1 : Value) (v2 : Value) (v3 : Value) (v4 : Value) (v5 : Value) (v6 : Value) (v7 : Value) (x : Value) (L : List Value) (M : Mem) (Q : Option Value → Mem → Prop), Wp d 171 97 (v0 :: v1 :: v2 :: v3 :: v4 :: v5 :: v6 :: v7 :: x :: L) [.int a] M Q ↔ Wp d 171 99 (v0 :: v1 :: v2 :: v3 :: v4 :: v5 :: v6 :: clr v7 :: .int a :: L) [] M Q) ∧
    (∀ (d : Nat) (v0 : Value) (v1 : Value) (v2 : Value) (v3 : Value) (v4 : Value) (v5 : Value) (v6 : Value) (v7 : Value) (x : Int32) (L : List Value) (M : Mem) (Q : Option Value → Mem → Prop), Wp d 171 99 (v0 :: v1 :: v2 :: v3 :: v4 :: v5 :: v6 :: v7 :: .int x :: L) [] M Q ↔ Wp d 171 101 (v0 :: v1 :: v2 :: v3 :: v4 :: v5 :: v6 :: v7 :: .int x :: L) [.int x] M Q) ∧
    (∀ (d : Nat) (a : Int32) (v0 : Value) (v1 : Value) (v2 : Value) (x : Int32) (L : List Value) (M : Mem) (Q : Option Value → Mem → Prop), Wp d 171 101 (v0 :: v1 :: v2 :: .int x :: L) [.int a] M Q ↔ Wp d 171 102 (v0 :: v1 :: v2 :: .int x :: L) [.int x, .int a] M Q) ∧
    (∀ (d : Nat) (a : Int32) (b : Int32) (L : List Value) (M : Mem) (Q : Option Value → Mem → Prop), Wp d 171 102 L [.int a, .int b] M Q ↔ (if a = 0 then Wp d 171 117 L [.int b] M Q else Wp d 171 105 L [.int b] M Q)) := by
  refine ⟨?_, ?_, ?_, ?_, ?_, ?_, ?_, ?_, ?_, ?_, ?_, ?_, ?_, ?_, ?_, ?_, ?_, ?_, ?_, ?_, ?_, ?_, ?_, ?_, ?_, ?_, ?_, ?_, ?_, ?_, ?_, ?_, ?_, ?_, ?_, ?_, ?_, ?_, ?_, ?_, ?_, ?_, ?_, ?_, ?_, ?_, ?_, ?_, ?_, ?_, ?_, ?_, ?_, ?_, ?_, ?_, ?_, ?_, ?_, ?_⟩
  · intro d x L M Q; exact Wp_sim (by decide +kernel : decode (cd 171) 0 = .ok (.aload_n 0, 1)) rfl rfl
  · intro d a v0 x L M Q; exact Wp_sim (by decide +kernel : decode (cd 171) 1 = .ok (.iload_n 1, 1)) rfl rfl
  · intro d a b L M Q; exact q_invV (pz := 1053) (n := 1) (c := 12) (m := 2) (k := b) (As := [.int a]) (rest := []) (by decide +kernel : decode (cd 171) 2 = .ok (.invokevirtual 183, 3)) (by decide +kernel) (by decide +kernel) rfl rfl (Nat.le_of_ble_eq_true rfl) (Nat.le_of_ble_eq_true rfl) rfl
  · intro d a L M Q; exact q_zne (by decide +kernel : decode (cd 171) 5 = .ok (.ifCond .ne 6, 3)) (by decide)
  · intro d L M Q; exact q_ldc (p := 1043) (by decide +kernel : decode (cd 171) 8 = .ok (.ldc 180, 2)) (by decide +kernel)
  · intro d a L M Q; exact q_iret (by decide +kernel : decode (cd 171) 10 = .ok (.ireturn , 1)) (by decide +kernel)
  · intro d v0 v1 x L M Q; exact Wp_sim (by decide +kernel : decode (cd 171) 11 = .ok (.iload_n 2, 1)) rfl rfl
  · intro d a L M Q; exact Wp_sim (by decide +kernel : decode (cd 171) 12 = .ok (.i2l , 1)) rfl rfl
  · intro d a L M Q; exact Wp_sim (by decide +kernel : decode (cd 171) 13 = .ok (.lconst 0, 1)) rfl rfl
  · intro d a b L M Q; exact Wp_sim (by decide +kernel : decode (cd 171) 14 = .ok (.lconst 1, 1)) rfl rfl
  · intro d a b c L M Q; exact q_invS (pz := 937) (n := 3) (m := 6) (As := [.long c, .long b, .long a]) (rest := []) (by decide +kernel : decode (cd 171) 15 = .ok (.invokestatic 75, 3)) (by decide +kernel) (by decide +kernel) (by decide +kernel) rfl rfl (Nat.le_of_ble_eq_true rfl) (Nat.le_of_ble_eq_true rfl) rfl
  · intro d a L M Q; exact q_zne (by decide +kernel : decode (cd 171) 18 = .ok (.ifCond .ne 6, 3)) (by decide)
  · intro d L M Q; exact q_ldc (p := 940) (by decide +kernel : decode (cd 171) 21 = .ok (.ldc 79, 2)) (by decide +kernel)
  · intro d a L M Q; exact q_iret (by decide +kernel : decode (cd 171) 23 = .ok (.ireturn , 1)) (by decide +kernel)
  · intro d x L M Q; exact Wp_sim (by decide +kernel : decode (cd 171) 24 = .ok (.aload_n 0, 1)) rfl rfl
  · intro d a v0 x L M Q; exact Wp_sim (by decide +kernel : decode (cd 171) 25 = .ok (.iload_n 1, 1)) rfl rfl
  · intro d a b L M Q; exact q_invV (pz := 1092) (n := 1) (c := 12) (m := 2) (k := b) (As := [.int a]) (rest := []) (by decide +kernel : decode (cd 171) 26 = .ok (.invokevirtual 191, 3)) (by decide +kernel) (by decide +kernel) rfl rfl (Nat.le_of_ble_eq_true rfl) (Nat.le_of_ble_eq_true rfl) rfl
  · intro d a L M Q; exact q_zne (by decide +kernel : decode (cd 171) 29 = .ok (.ifCond .ne 6, 3)) (by decide)
  · intro d L M Q; exact q_ldc (p := 1083) (by decide +kernel : decode (cd 171) 32 = .ok (.ldc 200, 2)) (by decide +kernel)
  · intro d a L M Q; exact q_iret (by decide +kernel : decode (cd 171) 34 = .ok (.ireturn , 1)) (by decide +kernel)
  · intro d x L M Q; exact Wp_sim (by decide +kernel : decode (cd 171) 35 = .ok (.aload_n 0, 1)) rfl rfl
  · intro d a L M Q; exact q_getR (p := 845) (by decide +kernel : decode (cd 171) 36 = .ok (.getfield 16, 3)) (by decide +kernel) (by decide +kernel)
  · intro d a L M Q; exact Wp_sim (by decide +kernel : decode (cd 171) 39 = .ok (.iconst 0, 1)) rfl rfl
  · intro d a b v0 x L M Q; exact Wp_sim (by decide +kernel : decode (cd 171) 40 = .ok (.iload_n 1, 1)) rfl rfl
  · intro d a b c L M Q; exact Wp_sim (by decide +kernel : decode (cd 171) 41 = .ok (.iadd , 1)) rfl rfl
  · intro d a b L M Q; exact q_ald (by decide +kernel : decode (cd 171) 42 = .ok (.iaload , 1))
  · intro d a L M Q; exact Wp_sim (by decide +kernel : decode (cd 171) 43 = .ok (.iconst 1, 1)) rfl rfl
  · intro d a b L M Q; exact q_ine (by decide +kernel : decode (cd 171) 44 = .ok (.if_icmp .ne 7, 3)) (by decide)
  · intro d L M Q; exact Wp_sim (by decide +kernel : decode (cd 171) 47 = .ok (.iconst 1, 1)) rfl rfl
  · intro d a L M Q; exact q_goto (by decide +kernel : decode (cd 171) 48 = .ok (.goto 4, 3)) (by decide)
  · intro d L M Q; exact Wp_sim (by decide +kernel : decode (cd 171) 51 = .ok (.iconst 0, 1)) rfl rfl
  · intro d a v0 v1 v2 x L M Q; exact Wp_sim (by decide +kernel : decode (cd 171) 52 = .ok (.istore_n 3, 1)) rfl rfl
  · intro d x L M Q; exact Wp_sim (by decide +kernel : decode (cd 171) 53 = .ok (.aload_n 0, 1)) rfl rfl
  · intro d a L M Q; exact q_getR (p := 845) (by decide +kernel : decode (cd 171) 54 = .ok (.getfield 16, 3)) (by decide +kernel) (by decide +kernel)
  · intro d a L M Q; exact Wp_sim (by decide +kernel : decode (cd 171) 57 = .ok (.bipush 6, 2)) rfl rfl
  · intro d a b v0 x L M Q; exact Wp_sim (by decide +kernel : decode (cd 171) 59 = .ok (.iload_n 1, 1)) rfl rfl
  · intro d a b c L M Q; exact Wp_sim (by decide +kernel : decode (cd 171) 60 = .ok (.iadd , 1)) rfl rfl
  · intro d a b L M Q; exact q_ald (by decide +kernel : decode (cd 171) 61 = .ok (.iaload , 1))
  · intro d a v0 v1 v2 v3 x L M Q; exact Wp_sim (by decide +kernel : decode (cd 171) 62 = .ok (.istore 4, 2)) rfl rfl
  · intro d L M Q; exact Wp_sim (by decide +kernel : decode (cd 171) 64 = .ok (.iconst (-1), 1)) rfl rfl
  · intro d a v0 v1 v2 v3 v4 x L M Q; exact Wp_sim (by decide +kernel : decode (cd 171) 65 = .ok (.istore 5, 2)) rfl rfl
  · intro d L M Q; exact q_ldcw (p := 1185) (by decide +kernel : decode (cd 171) 67 = .ok (.ldc_w 258, 3)) (by decide +kernel)
  · intro d a v0 v1 v2 v3 v4 v5 x L M Q; exact Wp_sim (by decide +kernel : decode (cd 171) 70 = .ok (.istore 6, 2)) rfl rfl
  · intro d L M Q; exact Wp_sim (by decide +kernel : decode (cd 171) 72 = .ok (.iconst 0, 1)) rfl rfl
  · intro d a v0 v1 v2 v3 v4 v5 v6 x L M Q; exact Wp_sim (by decide +kernel : decode (cd 171) 73 = .ok (.istore 7, 2)) rfl rfl
  · intro d a L M Q; exact Wp_sim (by decide +kernel : decode (cd 171) 77 = .ok (.bipush 61, 2)) rfl rfl
  · intro d a b L M Q; exact q_ige (by decide +kernel : decode (cd 171) 79 = .ok (.if_icmp .ge 80, 3)) (by decide)
  · intro d x L M Q; exact Wp_sim (by decide +kernel : decode (cd 171) 82 = .ok (.aload_n 0, 1)) rfl rfl
  · intro d a v0 x L M Q; exact Wp_sim (by decide +kernel : decode (cd 171) 83 = .ok (.iload_n 1, 1)) rfl rfl
  · intro d a b x L M Q; exact Wp_sim (by decide +kernel : decode (cd 171) 84 = .ok (.aload_n 0, 1)) rfl rfl
  · intro d a b c L M Q; exact q_getR (p := 845) (by decide +kernel : decode (cd 171) 85 = .ok (.getfield 16, 3)) (by decide +kernel) (by decide +kernel)
  · intro d a b c L M Q; exact Wp_sim (by decide +kernel : decode (cd 171) 88 = .ok (.bipush 48, 2)) rfl rfl
  · intro d a b c d2 L M Q; exact q_ald (by decide +kernel : decode (cd 171) 90 = .ok (.iaload , 1))
  · intro d a b c v0 v1 v2 v3 v4 v5 v6 x L M Q; exact Wp_sim (by decide +kernel : decode (cd 171) 91 = .ok (.iload 7, 2)) rfl rfl
  · intro d a b c d2 L M Q; exact Wp_sim (by decide +kernel : decode (cd 171) 93 = .ok (.iadd , 1)) rfl rfl
  · intro d a b c L M Q; exact q_invV (pz := 1061) (n := 2) (c := 12) (m := 4) (k := c) (As := [.int b, .int a]) (rest := []) (by decide +kernel : decode (cd 171) 94 = .ok (.invokevirtual 147, 3)) (by decide +kernel) (by decide +kernel) rfl rfl (Nat.le_of_ble_eq_true rfl) (Nat.le_of_ble_eq_true rfl) rfl
  · intro d a v0 v1 v2 v3 v4 v5 v6 v7 x L M Q; exact Wp_sim (by decide +kernel : decode (cd 171) 97 = .ok (.istore 8, 2)) rfl rfl
  · intro d v0 v1 v2 v3 v4 v5 v6 v7 x L M Q; exact Wp_sim (by decide +kernel : decode (cd 171) 99 = .ok (.iload 8, 2)) rfl rfl
  · intro d a v0 v1 v2 x L M Q; exact Wp_sim (by decide +kernel : decode (cd 171) 101 = .ok (.iload_n 3, 1)) rfl rfl
  · intro d a b L M Q; exact q_zeq (by decide +kernel : decode (cd 171) 102 = .ok (.ifCond .eq 15, 3)) (by decide)
set_option maxRecDepth 10000 in
theorem e171_1 : (∀ (d : Nat) (a : Int32) (v0 : Value) (v1 : Value) (v2 : Value) (v3 : Value) (v4 : Value) (v5 : Value) (v6 : Value) (x : Int32) (L : List Value) (M : Mem) (Q : Option Value → Mem → Prop), Wp d 171 105 (v0 :: v1 :: v2 :: v3 :: v4 :: v5 :: v6 :: .int x :: L) [.int a] M Q ↔ Wp d 171 107 (v0 :: v1 :: v2 :: v3 :: v4 :: v5 :: v6 :: .int x :: L) [.int x, .int a] M Q) ∧
    (∀ (d : Nat) (a : Int32) (b : Int32) (x : Nat) (L : List Value) (M : Mem) (Q : Option Value → Mem → Prop), Wp d 171 107 (.ref x :: L) [.int a, .int b] M Q ↔ Wp d 171 108 (.ref x :: L) [.ref x, .int a, .int b] M Q) ∧
    (∀ (d : Nat) (a : Nat) (b : Int32) (c : Int32) (L : List Value) (M : Mem) (Q : Option Value → Mem → Prop), Wp d 171 108 L [.ref a, .int b, .int c] M Q ↔ (isK a 12 = true ∧ Wp d 171 111 L [.ref (rt a 0), .int b, .int c] M Q)) ∧
    (∀ (d : Nat) (a : Nat) (b : Int32) (c : Int32) (L : List Value) (M : Mem) (Q : Option Value → Mem → Prop), Wp d 171 111 L [.ref a, .int b, .int c] M Q ↔ Wp d 171 112 L [.int 0, .ref a, .int b, .int c] M Q) ∧
    (∀ (d : Nat) (a : Int32) (b : Nat) (c : Int32) (d2 : Int32) (L : List Value) (M : Mem) (Q : Option Value → Mem → Prop), Wp d 171 112 L [.int a, .ref b, .int c, .int d2] M Q ↔ ((isR b = true ∧ inr a (lnm M b)) ∧ Wp d 171 113 L [.int (M b a.toNatClampNeg), .int c, .int d2] M Q)) ∧
    (∀ (d : Nat) (a : Int32) (b : Int32) (c : Int32) (L : List Value) (M : Mem) (Q : Option Value → Mem → Prop), Wp d 171 113 L [.int a, .int b, .int c] M Q ↔ Wp d 171 114 L [.int (b * a), .int c] M Q) ∧
    (∀ (d : Nat) (a : Int32) (b : Int32) (L : List Value) (M : Mem) (Q : Option Value → Mem → Prop), Wp d 171 114 L [.int a, .int b] M Q ↔ Wp d 171 118 L [.int a, .int b] M Q) ∧
    (∀ (d : Nat) (a : Int32) (L : List Value) (M : Mem) (Q : Option Value → Mem → Prop), Wp d 171 117 L [.int a] M Q ↔ Wp d 171 118 L [.int 0, .int a] M Q) ∧
    (∀ (d : Nat) (a : Int32) (b : Int32) (L : List Value) (M : Mem) (Q : Option Value → Mem → Prop), Wp d 171 118 L [.int a, .int b] M Q ↔ Wp d 171 119 L [.int (b + a)] M Q) ∧
    (∀ (d : Nat) (a : Int32) (v0 : Value) (v1 : Value) (v2 : Value) (v3 : Value) (v4 : Value) (v5 : Value) (v6 : Value) (v7 : Value) (v8 : Value) (x : Value) (L : List Value) (M : Mem) (Q : Option Value → Mem → Prop), Wp d 171 119 (v0 :: v1 :: v2 :: v3 :: v4 :: v5 :: v6 :: v7 :: v8 :: x :: L) [.int a] M Q ↔ Wp d 171 121 (v0 :: v1 :: v2 :: v3 :: v4 :: v5 :: v6 :: v7 :: clr v8 :: .int a :: L) [] M Q) ∧
    (∀ (d : Nat) (v0 : Value) (v1 : Value) (v2 : Value) (v3 : Value) (x : Int32) (L : List Value) (M : Mem) (Q : Option Value → Mem → Prop), Wp d 171 121 (v0 :: v1 :: v2 :: v3 :: .int x :: L) [] M Q ↔ Wp d 171 123 (v0 :: v1 :: v2 :: v3 :: .int x :: L) [.int x] M Q) ∧
    (∀ (d : Nat) (a : Int32) (v0 : Value) (v1 : Value) (v2 : Value) (v3 : Value) (v4 : Value) (v5 : Value) (v6 : Value) (v7 : Value) (x : Int32) (L : List Value) (M : Mem) (Q : Option Value → Mem → Prop), Wp d 171 123 (v0 :: v1 :: v2 :: v3 :: v4 :: v5 :: v6 :: v7 :: .int x :: L) [.int a] M Q ↔ Wp d 171 125 (v0 :: v1 :: v2 :: v3 :: v4 :: v5 :: v6 :: v7 :: .int x :: L) [.int x, .int a] M Q) ∧
    (∀ (d : Nat) (a : Int32) (b : Int32) (L : List Value) (M : Mem) (Q : Option Value → Mem → Prop), Wp d 171 125 L [.int a, .int b] M Q ↔ (if b < a then Wp d 171 143 L [] M Q else Wp d 171 128 L [] M Q)) ∧
    (∀ (d : Nat) (v0 : Value) (v1 : Value) (v2 : Value) (v3 : Value) (v4 : Value) (v5 : Value) (v6 : Value) (v7 : Value) (v8 : Value) (x : Int32) (L : List Value) (M : Mem) (Q : Option Value → Mem → Prop), Wp d 171 128 (v0 :: v1 :: v2 :: v3 :: v4 :: v5 :: v6 :: v7 :: v8 :: .int x :: L) [] M Q ↔ Wp d 171 130 (v0 :: v1 :: v2 :: v3 :: v4 :: v5 :: v6 :: v7 :: v8 :: .int x :: L) [.int x] M Q) ∧
    (∀ (d : Nat) (a : Int32) (v0 : Value) (v1 : Value) (v2 : Value) (v3 : Value) (v4 : Value) (v5 : Value) (x : Int32) (L : List Value) (M : Mem) (Q : Option Value → Mem → Prop), Wp d 171 130 (v0 :: v1 :: v2 :: v3 :: v4 :: v5 :: .int x :: L) [.int a] M Q ↔ Wp d 171 132 (v0 :: v1 :: v2 :: v3 :: v4 :: v5 :: .int x :: L) [.int x, .int a] M Q) ∧
    (∀ (d : Nat) (a : Int32) (b : Int32) (L : List Value) (M : Mem) (Q : Option Value → Mem → Prop), Wp d 171 132 L [.int a, .int b] M Q ↔ (if b < a then Wp d 171 135 L [] M Q else Wp d 171 143 L [] M Q)) ∧
    (∀ (d : Nat) (v0 : Value) (v1 : Value) (v2 : Value) (v3 : Value) (v4 : Value) (v5 : Value) (v6 : Value) (x : Int32) (L : List Value) (M : Mem) (Q : Option Value → Mem → Prop), Wp d 171 135 (v0 :: v1 :: v2 :: v3 :: v4 :: v5 :: v6 :: .int x :: L) [] M Q ↔ Wp d 171 137 (v0 :: v1 :: v2 :: v3 :: v4 :: v5 :: v6 :: .int x :: L) [.int x] M Q) ∧
    (∀ (d : Nat) (a : Int32) (v0 : Value) (v1 : Value) (v2 : Value) (v3 : Value) (v4 : Value) (x : Value) (L : List Value) (M : Mem) (Q : Option Value → Mem → Prop), Wp d 171 137 (v0 :: v1 :: v2 :: v3 :: v4 :: x :: L) [.int a] M Q ↔ Wp d 171 139 (v0 :: v1 :: v2 :: v3 :: clr v4 :: .int a :: L) [] M Q) ∧
    (∀ (d : Nat) (v0 : Value) (v1 : Value) (v2 : Value) (v3 : Value) (v4 : Value) (v5 : Value) (v6 : Value) (v7 : Value) (v8 : Value) (x : Int32) (L : List Value) (M : Mem) (Q : Option Value → Mem → Prop), Wp d 171 139 (v0 :: v1 :: v2 :: v3 :: v4 :: v5 :: v6 :: v7 :: v8 :: .int x :: L) [] M Q ↔ Wp d 171 141 (v0 :: v1 :: v2 :: v3 :: v4 :: v5 :: v6 :: v7 :: v8 :: .int x :: L) [.int x] M Q) ∧
    (∀ (d : Nat) (a : Int32) (v0 : Value) (v1 : Value) (v2 : Value) (v3 : Value) (v4 : Value) (v5 : Value) (x : Value) (L : List Value) (M : Mem) (Q : Option Value → Mem → Prop), Wp d 171 141 (v0 :: v1 :: v2 :: v3 :: v4 :: v5 :: x :: L) [.int a] M Q ↔ Wp d 171 143 (v0 :: v1 :: v2 :: v3 :: v4 :: clr v5 :: .int a :: L) [] M Q) ∧
    (∀ (d : Nat) (x : Nat) (L : List Value) (M : Mem) (Q : Option Value → Mem → Prop), Wp d 171 143 (.ref x :: L) [] M Q ↔ Wp d 171 144 (.ref x :: L) [.ref x] M Q) ∧
    (∀ (d : Nat) (a : Nat) (v0 : Value) (x : Int32) (L : List Value) (M : Mem) (Q : Option Value → Mem → Prop), Wp d 171 144 (v0 :: .int x :: L) [.ref a] M Q ↔ Wp d 171 145 (v0 :: .int x :: L) [.int x, .ref a] M Q) ∧
    (∀ (d : Nat) (a : Int32) (b : Nat) (v0 : Value) (v1 : Value) (v2 : Value) (v3 : Value) (x : Int32) (L : List Value) (M : Mem) (Q : Option Value → Mem → Prop), Wp d 171 145 (v0 :: v1 :: v2 :: v3 :: .int x :: L) [.int a, .ref b] M Q ↔ Wp d 171 147 (v0 :: v1 :: v2 :: v3 :: .int x :: L) [.int x, .int a, .ref b] M Q) ∧
    (∀ (d : Nat) (a : Int32) (b : Int32) (c : Nat) (v0 : Value) (v1 : Value) (v2 : Value) (x : Int32) (L : List Value) (M : Mem) (Q : Option Value → Mem → Prop), Wp d 171 147 (v0 :: v1 :: v2 :: .int x :: L) [.int a, .int b, .ref c] M Q ↔ Wp d 171 148 (v0 :: v1 :: v2 :: .int x :: L) [.int x, .int a, .int b, .ref c] M Q) ∧
    (∀ (d : Nat) (a : Int32) (b : Int32) (c : Int32) (d2 : Nat) (L : List Value) (M : Mem) (Q : Option Value → Mem → Prop), Wp (d + 1) 171 148 L [.int a, .int b, .int c, .ref d2] M Q ↔ (isK d2 12 = true ∧ Wp d 131 0 [.ref d2, .int c, .int b, .int a] [] M (fun r M2 => Wp (d + 1) 171 151 L (r.toList ++ []) M2 Q))) ∧
    (∀ (d : Nat) (a : Int32) (v0 : Value) (v1 : Value) (v2 : Value) (v3 : Value) (x : Value) (L : List Value) (M : Mem) (Q : Option Value → Mem → Prop), Wp d 171 151 (v0 :: v1 :: v2 :: v3 :: x :: L) [.int a] M Q ↔ Wp d 171 153 (v0 :: v1 :: v2 :: clr v3 :: .int a :: L) [] M Q) ∧
    (∀ (d : Nat) (v0 : Value) (v1 : Value) (v2 : Value) (v3 : Value) (v4 : Value) (v5 : Value) (v6 : Value) (x : Int32) (L : List Value) (M : Mem) (Q : Option Value → Mem → Prop), Wp d 171 153 (v0 :: v1 :: v2 :: v3 :: v4 :: v5 :: v6 :: .int x :: L) [] M Q ↔ Wp d 171 156 (v0 :: v1 :: v2 :: v3 :: v4 :: v5 :: clr v6 :: .int (x + 1) :: L) [] M Q) ∧
    (∀ (d : Nat) (L : List Value) (M : Mem) (Q : Option Value → Mem → Prop), Wp d 171 156 L [] M Q ↔ Wp d 171 75 L [] M Q) ∧
    (∀ (d : Nat) (v0 : Value) (v1 : Value) (v2 : Value) (v3 : Value) (v4 : Value) (x : Int32) (L : List Value) (M : Mem) (Q : Option Value → Mem → Prop), Wp d 171 159 (v0 :: v1 :: v2 :: v3 :: v4 :: .int x :: L) [] M Q ↔ Wp d 171 161 (v0 :: v1 :: v2 :: v3 :: v4 :: .int x :: L) [.int x] M Q) ∧
    (∀ (d : Nat) (a : Int32) (L : List Value) (M : Mem) (Q : Option Value → Mem → Prop), Wp d 171 161 L [.int a] M Q ↔ Wp d 171 162 L [.int (-1), .int a] M Q) ∧
    (∀ (d : Nat) (a : Int32) (b : Int32) (L : List Value) (M : Mem) (Q : Option Value → Mem → Prop), Wp d 171 162 L [.int a, .int b] M Q ↔ (if b = a then Wp d 171 169 L [] M Q else Wp d 171 165 L [] M Q)) ∧
    (∀ (d : Nat) (v0 : Value) (v1 : Value) (x : Int32) (L : List Value) (M : Mem) (Q : Option Value → Mem → Prop), Wp d 171 165 (v0 :: v1 :: .int x :: L) [] M Q ↔ Wp d 171 166 (v0 :: v1 :: .int x :: L) [.int x] M Q) ∧
    (∀ (d : Nat) (a : Int32) (L : List Value) (M : Mem) (Q : Option Value → Mem → Prop), Wp d 171 166 L [.int a] M Q ↔ (if a = 0 then Wp d 171 169 L [] M Q else Wp d 171 174 L [] M Q)) ∧
    (∀ (d : Nat) (v0 : Value) (v1 : Value) (v2 : Value) (v3 : Value) (v4 : Value) (x : Int32) (L : List Value) (M : Mem) (Q : Option Value → Mem → Prop), Wp d 171 169 (v0 :: v1 :: v2 :: v3 :: v4 :: .int x :: L) [] M Q ↔ Wp d 171 171 (v0 :: v1 :: v2 :: v3 :: v4 :: .int x :: L) [.int x] M Q) ∧
    (∀ (d : Nat) (a : Int32) (L : List Value) (M : Mem) (Q : Option Value → Mem → Prop), Wp d 171 171 L [.int a] M Q ↔ Wp d 171 176 L [.int a] M Q) ∧
    (∀ (d : Nat) (v0 : Value) (v1 : Value) (v2 : Value) (v3 : Value) (v4 : Value) (v5 : Value) (x : Int32) (L : List Value) (M : Mem) (Q : Option Value → Mem → Prop), Wp d 171 174 (v0 :: v1 :: v2 :: v3 :: v4 :: v5 :: .int x :: L) [] M Q ↔ Wp d 171 176 (v0 :: v1 :: v2 :: v3 :: v4 :: v5 :: .int x :: L) [.int x] M Q) ∧
    (∀ (d : Nat) (a : Int32) (L : List Value) (M : Mem) (Q : Option Value → Mem → Prop), Wp d 171 176 L [.int a] M Q ↔ Q (some (.int a)) M) := by
  refine ⟨?_, ?_, ?_, ?_, ?_, ?_, ?_, ?_, ?_, ?_, ?_, ?_, ?_, ?_, ?_, ?_, ?_, ?_, ?_, ?_, ?_, ?_, ?_, ?_, ?_, ?_, ?_, ?_, ?_, ?_, ?_, ?_, ?_, ?_, ?_, ?_, ?_⟩
  · intro d a v0 v1 v2 v3 v4 v5 v6 x L M Q; exact Wp_sim (by decide +kernel : decode (cd 171) 105 = .ok (.iload 7, 2)) rfl rfl
  · intro d a b x L M Q; exact Wp_sim (by decide +kernel : decode (cd 171) 107 = .ok (.aload_n 0, 1)) rfl rfl
  · intro d a b c L M Q; exact q_getR (p := 843) (by decide +kernel : decode (cd 171) 108 = .ok (.getfield 7, 3)) (by decide +kernel) (by decide +kernel)
  · intro d a b c L M Q; exact Wp_sim (by decide +kernel : decode (cd 171) 111 = .ok (.iconst 0, 1)) rfl rfl
  · intro d a b c d2 L M Q; exact q_ald (by decide +kernel : decode (cd 171) 112 = .ok (.iaload , 1))
  · intro d a b c L M Q; exact Wp_sim (by decide +kernel : decode (cd 171) 113 = .ok (.imul , 1)) rfl rfl
  · intro d a b L M Q; exact q_goto (by decide +kernel : decode (cd 171) 114 = .ok (.goto 4, 3)) (by decide)
  · intro d a L M Q; exact Wp_sim (by decide +kernel : decode (cd 171) 117 = .ok (.iconst 0, 1)) rfl rfl
  · intro d a b L M Q; exact Wp_sim (by decide +kernel : decode (cd 171) 118 = .ok (.iadd , 1)) rfl rfl
  · intro d a v0 v1 v2 v3 v4 v5 v6 v7 v8 x L M Q; exact Wp_sim (by decide +kernel : decode (cd 171) 119 = .ok (.istore 9, 2)) rfl rfl
  · intro d v0 v1 v2 v3 x L M Q; exact Wp_sim (by decide +kernel : decode (cd 171) 121 = .ok (.iload 4, 2)) rfl rfl
  · intro d a v0 v1 v2 v3 v4 v5 v6 v7 x L M Q; exact Wp_sim (by decide +kernel : decode (cd 171) 123 = .ok (.iload 8, 2)) rfl rfl
  · intro d a b L M Q; exact q_ilt (by decide +kernel : decode (cd 171) 125 = .ok (.if_icmp .lt 18, 3)) (by decide)
  · intro d v0 v1 v2 v3 v4 v5 v6 v7 v8 x L M Q; exact Wp_sim (by decide +kernel : decode (cd 171) 128 = .ok (.iload 9, 2)) rfl rfl
  · intro d a v0 v1 v2 v3 v4 v5 x L M Q; exact Wp_sim (by decide +kernel : decode (cd 171) 130 = .ok (.iload 6, 2)) rfl rfl
  · intro d a b L M Q; exact q_ige (by decide +kernel : decode (cd 171) 132 = .ok (.if_icmp .ge 11, 3)) (by decide)
  · intro d v0 v1 v2 v3 v4 v5 v6 x L M Q; exact Wp_sim (by decide +kernel : decode (cd 171) 135 = .ok (.iload 7, 2)) rfl rfl
  · intro d a v0 v1 v2 v3 v4 x L M Q; exact Wp_sim (by decide +kernel : decode (cd 171) 137 = .ok (.istore 5, 2)) rfl rfl
  · intro d v0 v1 v2 v3 v4 v5 v6 v7 v8 x L M Q; exact Wp_sim (by decide +kernel : decode (cd 171) 139 = .ok (.iload 9, 2)) rfl rfl
  · intro d a v0 v1 v2 v3 v4 v5 x L M Q; exact Wp_sim (by decide +kernel : decode (cd 171) 141 = .ok (.istore 6, 2)) rfl rfl
  · intro d x L M Q; exact Wp_sim (by decide +kernel : decode (cd 171) 143 = .ok (.aload_n 0, 1)) rfl rfl
  · intro d a v0 x L M Q; exact Wp_sim (by decide +kernel : decode (cd 171) 144 = .ok (.iload_n 1, 1)) rfl rfl
  · intro d a b v0 v1 v2 v3 x L M Q; exact Wp_sim (by decide +kernel : decode (cd 171) 145 = .ok (.iload 4, 2)) rfl rfl
  · intro d a b c v0 v1 v2 x L M Q; exact Wp_sim (by decide +kernel : decode (cd 171) 147 = .ok (.iload_n 3, 1)) rfl rfl
  · intro d a b c d2 L M Q; exact q_invV (pz := 1014) (n := 3) (c := 12) (m := 4) (k := d2) (As := [.int c, .int b, .int a]) (rest := []) (by decide +kernel : decode (cd 171) 148 = .ok (.invokevirtual 161, 3)) (by decide +kernel) (by decide +kernel) rfl rfl (Nat.le_of_ble_eq_true rfl) (Nat.le_of_ble_eq_true rfl) rfl
  · intro d a v0 v1 v2 v3 x L M Q; exact Wp_sim (by decide +kernel : decode (cd 171) 151 = .ok (.istore 4, 2)) rfl rfl
  · intro d v0 v1 v2 v3 v4 v5 v6 x L M Q; exact Wp_sim (by decide +kernel : decode (cd 171) 153 = .ok (.iinc 7 1, 3)) rfl rfl
  · intro d L M Q; exact q_goto (by decide +kernel : decode (cd 171) 156 = .ok (.goto (-81), 3)) (by decide)
  · intro d v0 v1 v2 v3 v4 x L M Q; exact Wp_sim (by decide +kernel : decode (cd 171) 159 = .ok (.iload 5, 2)) rfl rfl
  · intro d a L M Q; exact Wp_sim (by decide +kernel : decode (cd 171) 161 = .ok (.iconst (-1), 1)) rfl rfl
  · intro d a b L M Q; exact q_ieq (by decide +kernel : decode (cd 171) 162 = .ok (.if_icmp .eq 7, 3)) (by decide)
  · intro d v0 v1 x L M Q; exact Wp_sim (by decide +kernel : decode (cd 171) 165 = .ok (.iload_n 2, 1)) rfl rfl
  · intro d a L M Q; exact q_zne (by decide +kernel : decode (cd 171) 166 = .ok (.ifCond .ne 8, 3)) (by decide)
  · intro d v0 v1 v2 v3 v4 x L M Q; exact Wp_sim (by decide +kernel : decode (cd 171) 169 = .ok (.iload 5, 2)) rfl rfl
  · intro d a L M Q; exact q_goto (by decide +kernel : decode (cd 171) 171 = .ok (.goto 5, 3)) (by decide)
  · intro d v0 v1 v2 v3 v4 v5 x L M Q; exact Wp_sim (by decide +kernel : decode (cd 171) 174 = .ok (.iload 6, 2)) rfl rfl
  · intro d a L M Q; exact q_iret (by decide +kernel : decode (cd 171) 176 = .ok (.ireturn , 1)) (by decide +kernel)
theorem h171_75 : (∀ (d : Nat) (v0 : Value) (v1 : Value) (v2 : Value) (v3 : Value) (v4 : Value) (v5 : Value) (v6 : Value) (x : Int32) (L : List Value) (M : Mem) (Q : Option Value → Mem → Prop), Wp d 171 75 (v0 :: v1 :: v2 :: v3 :: v4 :: v5 :: v6 :: .int x :: L) [] M Q ↔ Wp d 171 77 (v0 :: v1 :: v2 :: v3 :: v4 :: v5 :: v6 :: .int x :: L) [.int x] M Q) := by
  intro d v0 v1 v2 v3 v4 v5 v6 x L M Q; exact Wp_sim (by decide +kernel : decode (cd 171) 75 = .ok (.iload 7, 2)) rfl rfl

/- 172: PalaceYardModel.outing -/
set_option maxRecDepth 10000 in
theorem e172 : (∀ (d : Nat) (v0 : Value) (x : Int32) (L : List Value) (M : Mem) (Q : Option Value → Mem → Prop), Wp d 172 0 (v0 :: .int x :: L) [] M Q ↔ Wp d 172 1 (v0 :: .int x :: L) [.int x] M Q) ∧
    (∀ (d : Nat) (a : Int32) (L : List Value) (M : Mem) (Q : Option Value → Mem → Prop), Wp d 172 1 L [.int a] M Q ↔ Wp d 172 2 L [.long a.toInt64] M Q) ∧
    (∀ (d : Nat) (a : Int64) (L : List Value) (M : Mem) (Q : Option Value → Mem → Prop), Wp d 172 2 L [.long a] M Q ↔ Wp d 172 3 L [.long 0, .long a] M Q) ∧
    (∀ (d : Nat) (a : Int64) (b : Int64) (L : List Value) (M : Mem) (Q : Option Value → Mem → Prop), Wp d 172 3 L [.long a, .long b] M Q ↔ Wp d 172 6 L [.long 99, .long a, .long b] M Q) ∧
    (∀ (d : Nat) (a : Int64) (b : Int64) (c : Int64) (L : List Value) (M : Mem) (Q : Option Value → Mem → Prop), Wp (d + 1) 172 6 L [.long a, .long b, .long c] M Q ↔ Wp d 112 0 [.long c, .null, .long b, .null, .long a, .null] [] M (fun r M2 => Wp (d + 1) 172 9 L (r.toList ++ []) M2 Q)) ∧
    (∀ (d : Nat) (a : Int32) (L : List Value) (M : Mem) (Q : Option Value → Mem → Prop), Wp d 172 9 L [.int a] M Q ↔ (if a = 0 then Wp d 172 24 L [] M Q else Wp d 172 12 L [] M Q)) ∧
    (∀ (d : Nat) (v0 : Value) (v1 : Value) (x : Int32) (L : List Value) (M : Mem) (Q : Option Value → Mem → Prop), Wp d 172 12 (v0 :: v1 :: .int x :: L) [] M Q ↔ Wp d 172 13 (v0 :: v1 :: .int x :: L) [.int x] M Q) ∧
    (∀ (d : Nat) (a : Int32) (L : List Value) (M : Mem) (Q : Option Value → Mem → Prop), Wp d 172 13 L [.int a] M Q ↔ Wp d 172 14 L [.long a.toInt64] M Q) ∧
    (∀ (d : Nat) (a : Int64) (L : List Value) (M : Mem) (Q : Option Value → Mem → Prop), Wp d 172 14 L [.long a] M Q ↔ Wp d 172 15 L [.long 0, .long a] M Q) ∧
    (∀ (d : Nat) (a : Int64) (b : Int64) (L : List Value) (M : Mem) (Q : Option Value → Mem → Prop), Wp d 172 15 L [.long a, .long b] M Q ↔ Wp d 172 18 L [.long 2, .long a, .long b] M Q) ∧
    (∀ (d : Nat) (a : Int64) (b : Int64) (c : Int64) (L : List Value) (M : Mem) (Q : Option Value → Mem → Prop), Wp (d + 1) 172 18 L [.long a, .long b, .long c] M Q ↔ Wp d 112 0 [.long c, .null, .long b, .null, .long a, .null] [] M (fun r M2 => Wp (d + 1) 172 21 L (r.toList ++ []) M2 Q)) ∧
    (∀ (d : Nat) (a : Int32) (L : List Value) (M : Mem) (Q : Option Value → Mem → Prop), Wp d 172 21 L [.int a] M Q ↔ (if a = 0 then Wp d 172 24 L [] M Q else Wp d 172 27 L [] M Q)) ∧
    (∀ (d : Nat) (L : List Value) (M : Mem) (Q : Option Value → Mem → Prop), Wp d 172 24 L [] M Q ↔ Wp d 172 26 L [.int (-1000000002)] M Q) ∧
    (∀ (d : Nat) (a : Int32) (L : List Value) (M : Mem) (Q : Option Value → Mem → Prop), Wp d 172 26 L [.int a] M Q ↔ Q (some (.int a)) M) ∧
    (∀ (d : Nat) (x : Nat) (L : List Value) (M : Mem) (Q : Option Value → Mem → Prop), Wp d 172 27 (.ref x :: L) [] M Q ↔ Wp d 172 28 (.ref x :: L) [.ref x] M Q) ∧
    (∀ (d : Nat) (a : Nat) (v0 : Value) (x : Int32) (L : List Value) (M : Mem) (Q : Option Value → Mem → Prop), Wp d 172 28 (v0 :: .int x :: L) [.ref a] M Q ↔ Wp d 172 29 (v0 :: .int x :: L) [.int x, .ref a] M Q) ∧
    (∀ (d : Nat) (a : Int32) (b : Nat) (L : List Value) (M : Mem) (Q : Option Value → Mem → Prop), Wp (d + 1) 172 29 L [.int a, .ref b] M Q ↔ (isK b 12 = true ∧ Wp d 173 0 [.ref b, .int a, .null, .null, .null, .null] [] M (fun r M2 => Wp (d + 1) 172 32 L (r.toList ++ []) M2 Q))) ∧
    (∀ (d : Nat) (v0 : Value) (v1 : Value) (x : Int32) (L : List Value) (M : Mem) (Q : Option Value → Mem → Prop), Wp d 172 32 (v0 :: v1 :: .int x :: L) [] M Q ↔ Wp d 172 33 (v0 :: v1 :: .int x :: L) [.int x] M Q) ∧
    (∀ (d : Nat) (a : Int32) (L : List Value) (M : Mem) (Q : Option Value → Mem → Prop), Wp d 172 33 L [.int a] M Q ↔ (if a = 0 then Wp d 172 36 L [] M Q else Wp d 172 43 L [] M Q)) ∧
    (∀ (d : Nat) (x : Nat) (L : List Value) (M : Mem) (Q : Option Value → Mem → Prop), Wp d 172 36 (.ref x :: L) [] M Q ↔ Wp d 172 37 (.ref x :: L) [.ref x] M Q) ∧
    (∀ (d : Nat) (a : Nat) (L : List Value) (M : Mem) (Q : Option Value → Mem → Prop), Wp d 172 37 L [.ref a] M Q ↔ (isK a 12 = true ∧ Wp d 172 40 L [.int (M a 26)] M Q)) ∧
    (∀ (d : Nat) (a : Int32) (L : List Value) (M : Mem) (Q : Option Value → Mem → Prop), Wp d 172 40 L [.int a] M Q ↔ Wp d 172 59 L [.int a] M Q) ∧
    (∀ (d : Nat) (v0 : Value) (v1 : Value) (x : Int32) (L : List Value) (M : Mem) (Q : Option Value → Mem → Prop), Wp d 172 43 (v0 :: v1 :: .int x :: L) [] M Q ↔ Wp d 172 44 (v0 :: v1 :: .int x :: L) [.int x] M Q) ∧
    (∀ (d : Nat) (a : Int32) (L : List Value) (M : Mem) (Q : Option Value → Mem → Prop), Wp d 172 44 L [.int a] M Q ↔ Wp d 172 45 L [.int 1, .int a] M Q) ∧
    (∀ (d : Nat) (a : Int32) (b : Int32) (L : List Value) (M : Mem) (Q : Option Value → Mem → Prop), Wp d 172 45 L [.int a, .int b] M Q ↔ (if b = a then Wp d 172 48 L [] M Q else Wp d 172 55 L [] M Q)) ∧
    (∀ (d : Nat) (x : Nat) (L : List Value) (M : Mem) (Q : Option Value → Mem → Prop), Wp d 172 48 (.ref x :: L) [] M Q ↔ Wp d 172 49 (.ref x :: L) [.ref x] M Q) ∧
    (∀ (d : Nat) (a : Nat) (L : List Value) (M : Mem) (Q : Option Value → Mem → Prop), Wp d 172 49 L [.ref a] M Q ↔ (isK a 12 = true ∧ Wp d 172 52 L [.int (M a 27)] M Q)) ∧
    (∀ (d : Nat) (a : Int32) (L : List Value) (M : Mem) (Q : Option Value → Mem → Prop), Wp d 172 52 L [.int a] M Q ↔ Wp d 172 59 L [.int a] M Q) ∧
    (∀ (d : Nat) (x : Nat) (L : List Value) (M : Mem) (Q : Option Value → Mem → Prop), Wp d 172 55 (.ref x :: L) [] M Q ↔ Wp d 172 56 (.ref x :: L) [.ref x] M Q) ∧
    (∀ (d : Nat) (a : Nat) (L : List Value) (M : Mem) (Q : Option Value → Mem → Prop), Wp d 172 56 L [.ref a] M Q ↔ (isK a 12 = true ∧ Wp d 172 59 L [.int (M a 28)] M Q)) ∧
    (∀ (d : Nat) (a : Int32) (L : List Value) (M : Mem) (Q : Option Value → Mem → Prop), Wp d 172 59 L [.int a] M Q ↔ Q (some (.int a)) M) := by
  refine ⟨?_, ?_, ?_, ?_, ?_, ?_, ?_, ?_, ?_, ?_, ?_, ?_, ?_, ?_, ?_, ?_, ?_, ?_, ?_, ?_, ?_, ?_, ?_, ?_, ?_, ?_, ?_, ?_, ?_, ?_, ?_⟩
  · intro d v0 x L M Q; exact Wp_sim (by decide +kernel : decode (cd 172) 0 = .ok (.iload_n 1, 1)) rfl rfl
  · intro d a L M Q; exact Wp_sim (by decide +kernel : decode (cd 172) 1 = .ok (.i2l , 1)) rfl rfl
  · intro d a L M Q; exact Wp_sim (by decide +kernel : decode (cd 172) 2 = .ok (.lconst 0, 1)) rfl rfl
  · intro d a b L M Q; exact q_ldc2 (p := 1190) (by decide +kernel : decode (cd 172) 3 = .ok (.ldc2_w 283, 3)) (by decide +kernel)
  · intro d a b c L M Q; exact q_invS (pz := 937) (n := 3) (m := 6) (As := [.long c, .long b, .long a]) (rest := []) (by decide +kernel : decode (cd 172) 6 = .ok (.invokestatic 75, 3)) (by decide +kernel) (by decide +kernel) (by decide +kernel) rfl rfl (Nat.le_of_ble_eq_true rfl) (Nat.le_of_ble_eq_true rfl) rfl
  · intro d a L M Q; exact q_zeq (by decide +kernel : decode (cd 172) 9 = .ok (.ifCond .eq 15, 3)) (by decide)
  · intro d v0 v1 x L M Q; exact Wp_sim (by decide +kernel : decode (cd 172) 12 = .ok (.iload_n 2, 1)) rfl rfl
  · intro d a L M Q; exact Wp_sim (by decide +kernel : decode (cd 172) 13 = .ok (.i2l , 1)) rfl rfl
  · intro d a L M Q; exact Wp_sim (by decide +kernel : decode (cd 172) 14 = .ok (.lconst 0, 1)) rfl rfl
  · intro d a b L M Q; exact q_ldc2 (p := 1073) (by decide +kernel : decode (cd 172) 15 = .ok (.ldc2_w 189, 3)) (by decide +kernel)
  · intro d a b c L M Q; exact q_invS (pz := 937) (n := 3) (m := 6) (As := [.long c, .long b, .long a]) (rest := []) (by decide +kernel : decode (cd 172) 18 = .ok (.invokestatic 75, 3)) (by decide +kernel) (by decide +kernel) (by decide +kernel) rfl rfl (Nat.le_of_ble_eq_true rfl) (Nat.le_of_ble_eq_true rfl) rfl
  · intro d a L M Q; exact q_zne (by decide +kernel : decode (cd 172) 21 = .ok (.ifCond .ne 6, 3)) (by decide)
  · intro d L M Q; exact q_ldc (p := 940) (by decide +kernel : decode (cd 172) 24 = .ok (.ldc 79, 2)) (by decide +kernel)
  · intro d a L M Q; exact q_iret (by decide +kernel : decode (cd 172) 26 = .ok (.ireturn , 1)) (by decide +kernel)
  · intro d x L M Q; exact Wp_sim (by decide +kernel : decode (cd 172) 27 = .ok (.aload_n 0, 1)) rfl rfl
  · intro d a v0 x L M Q; exact Wp_sim (by decide +kernel : decode (cd 172) 28 = .ok (.iload_n 1, 1)) rfl rfl
  · intro d a b L M Q; exact q_invV (pz := 1191) (n := 1) (c := 12) (m := 6) (k := b) (As := [.int a]) (rest := []) (by decide +kernel : decode (cd 172) 29 = .ok (.invokevirtual 285, 3)) (by decide +kernel) (by decide +kernel) rfl rfl (Nat.le_of_ble_eq_true rfl) (Nat.le_of_ble_eq_true rfl) rfl
  · intro d v0 v1 x L M Q; exact Wp_sim (by decide +kernel : decode (cd 172) 32 = .ok (.iload_n 2, 1)) rfl rfl
  · intro d a L M Q; exact q_zne (by decide +kernel : decode (cd 172) 33 = .ok (.ifCond .ne 10, 3)) (by decide)
  · intro d x L M Q; exact Wp_sim (by decide +kernel : decode (cd 172) 36 = .ok (.aload_n 0, 1)) rfl rfl
  · intro d a L M Q; exact q_getI (p := 869) (by decide +kernel : decode (cd 172) 37 = .ok (.getfield 268, 3)) (by decide +kernel) (by decide +kernel)
  · intro d a L M Q; exact q_goto (by decide +kernel : decode (cd 172) 40 = .ok (.goto 19, 3)) (by decide)
  · intro d v0 v1 x L M Q; exact Wp_sim (by decide +kernel : decode (cd 172) 43 = .ok (.iload_n 2, 1)) rfl rfl
  · intro d a L M Q; exact Wp_sim (by decide +kernel : decode (cd 172) 44 = .ok (.iconst 1, 1)) rfl rfl
  · intro d a b L M Q; exact q_ine (by decide +kernel : decode (cd 172) 45 = .ok (.if_icmp .ne 10, 3)) (by decide)
  · intro d x L M Q; exact Wp_sim (by decide +kernel : decode (cd 172) 48 = .ok (.aload_n 0, 1)) rfl rfl
  · intro d a L M Q; exact q_getI (p := 870) (by decide +kernel : decode (cd 172) 49 = .ok (.getfield 271, 3)) (by decide +kernel) (by decide +kernel)
  · intro d a L M Q; exact q_goto (by decide +kernel : decode (cd 172) 52 = .ok (.goto 7, 3)) (by decide)
  · intro d x L M Q; exact Wp_sim (by decide +kernel : decode (cd 172) 55 = .ok (.aload_n 0, 1)) rfl rfl
  · intro d a L M Q; exact q_getI (p := 871) (by decide +kernel : decode (cd 172) 56 = .ok (.getfield 274, 3)) (by decide +kernel) (by decide +kernel)
  · intro d a L M Q; exact q_iret (by decide +kernel : decode (cd 172) 59 = .ok (.ireturn , 1)) (by decide +kernel)

/- 173: PalaceYardModel.goesOut -/
set_option maxRecDepth 10000 in
theorem e173_0 : (∀ (d : Nat) (x : Nat) (L : List Value) (M : Mem) (Q : Option Value → Mem → Prop), Wp d 173 0 (.ref x :: L) [] M Q ↔ Wp d 173 1 (.ref x :: L) [.ref x] M Q) ∧
    (∀ (d : Nat) (a : Nat) (L : List Value) (M : Mem) (Q : Option Value → Mem → Prop), Wp d 173 1 L [.ref a] M Q ↔ Wp d 173 2 L [.int 0, .ref a] M Q) ∧
    (∀ (d : Nat) (a : Int32) (b : Nat) (L : List Value) (M : Mem) (Q : Option Value → Mem → Prop), Wp d 173 2 L [.int a, .ref b] M Q ↔ (isK b 12 = true ∧ Wp d 173 5 L [] (up2 M b 26 a) Q)) ∧
    (∀ (d : Nat) (x : Nat) (L : List Value) (M : Mem) (Q : Option Value → Mem → Prop), Wp d 173 5 (.ref x :: L) [] M Q ↔ Wp d 173 6 (.ref x :: L) [.ref x] M Q) ∧
    (∀ (d : Nat) (a : Nat) (L : List Value) (M : Mem) (Q : Option Value → Mem → Prop), Wp d 173 6 L [.ref a] M Q ↔ Wp d 173 7 L [.int 0, .ref a] M Q) ∧
    (∀ (d : Nat) (a : Int32) (b : Nat) (L : List Value) (M : Mem) (Q : Option Value → Mem → Prop), Wp d 173 7 L [.int a, .ref b] M Q ↔ (isK b 12 = true ∧ Wp d 173 10 L [] (up2 M b 27 a) Q)) ∧
    (∀ (d : Nat) (x : Nat) (L : List Value) (M : Mem) (Q : Option Value → Mem → Prop), Wp d 173 10 (.ref x :: L) [] M Q ↔ Wp d 173 11 (.ref x :: L) [.ref x] M Q) ∧
    (∀ (d : Nat) (a : Nat) (L : List Value) (M : Mem) (Q : Option Value → Mem → Prop), Wp d 173 11 L [.ref a] M Q ↔ Wp d 173 12 L [.int 0, .ref a] M Q) ∧
    (∀ (d : Nat) (a : Int32) (b : Nat) (L : List Value) (M : Mem) (Q : Option Value → Mem → Prop), Wp d 173 12 L [.int a, .ref b] M Q ↔ (isK b 12 = true ∧ Wp d 173 15 L [] (up2 M b 28 a) Q)) ∧
    (∀ (d : Nat) (L : List Value) (M : Mem) (Q : Option Value → Mem → Prop), Wp d 173 15 L [] M Q ↔ Wp d 173 16 L [.int 0] M Q) ∧
    (∀ (d : Nat) (a : Int32) (v0 : Value) (v1 : Value) (x : Value) (L : List Value) (M : Mem) (Q : Option Value → Mem → Prop), Wp d 173 16 (v0 :: v1 :: x :: L) [.int a] M Q ↔ Wp d 173 17 (v0 :: clr v1 :: .int a :: L) [] M Q) ∧
    (∀ (d : Nat) (L : List Value) (M : Mem) (Q : Option Value → Mem → Prop), Wp d 173 17 L [] M Q ↔ Wp d 173 18 L [.int 0] M Q) ∧
    (∀ (d : Nat) (a : Int32) (v0 : Value) (v1 : Value) (v2 : Value) (x : Value) (L : List Value) (M : Mem) (Q : Option Value → Mem → Prop), Wp d 173 18 (v0 :: v1 :: v2 :: x :: L) [.int a] M Q ↔ Wp d 173 19 (v0 :: v1 :: clr v2 :: .int a :: L) [] M Q) ∧
    (∀ (d : Nat) (x : Nat) (L : List Value) (M : Mem) (Q : Option Value → Mem → Prop), Wp d 173 19 (.ref x :: L) [] M Q ↔ Wp d 173 20 (.ref x :: L) [.ref x] M Q) ∧
    (∀ (d : Nat) (a : Nat) (L : List Value) (M : Mem) (Q : Option Value → Mem → Prop), Wp d 173 20 L [.ref a] M Q ↔ (isK a 12 = true ∧ Wp d 173 23 L [.ref (rt a 22)] M Q)) ∧
    (∀ (d : Nat) (a : Nat) (L : List Value) (M : Mem) (Q : Option Value → Mem → Prop), Wp d 173 23 L [.ref a] M Q ↔ Wp d 173 24 L [.int 0, .ref a] M Q) ∧
    (∀ (d : Nat) (a : Int32) (b : Nat) (L : List Value) (M : Mem) (Q : Option Value → Mem → Prop), Wp d 173 24 L [.int a, .ref b] M Q ↔ Wp d 173 25 L [.int (-1), .int a, .ref b] M Q) ∧
    (∀ (d : Nat) (a : Int32) (b : Int32) (c : Nat) (L : List Value) (M : Mem) (Q : Option Value → Mem → Prop), Wp d 173 25 L [.int a, .int b, .ref c] M Q ↔ ((isK c 13 = true ∧ inr b (lnm M c)) ∧ Wp d 173 26 L [] (up2 M c b.toNatClampNeg a) Q)) ∧
    (∀ (d : Nat) (a : Int32) (L : List Value) (M : Mem) (Q : Option Value → Mem → Prop), Wp d 173 27 L [.int a] M Q ↔ (if a < 0 then Wp d 173 304 L [] M Q else Wp d 173 30 L [] M Q)) ∧
    (∀ (d : Nat) (v0 : Value) (v1 : Value) (x : Int32) (L : List Value) (M : Mem) (Q : Option Value → Mem → Prop), Wp d 173 30 (v0 :: v1 :: .int x :: L) [] M Q ↔ Wp d 173 31 (v0 :: v1 :: .int x :: L) [.int x] M Q) ∧
    (∀ (d : Nat) (a : Int32) (x : Nat) (L : List Value) (M : Mem) (Q : Option Value → Mem → Prop), Wp d 173 31 (.ref x :: L) [.int a] M Q ↔ Wp d 173 32 (.ref x :: L) [.ref x, .int a] M Q) ∧
    (∀ (d : Nat) (a : Nat) (b : Int32) (L : List Value) (M : Mem) (Q : Option Value → Mem → Prop), Wp d 173 32 L [.ref a, .int b] M Q ↔ (isK a 12 = true ∧ Wp d 173 35 L [.ref (rt a 22), .int b] M Q)) ∧
    (∀ (d : Nat) (a : Nat) (b : Int32) (v0 : Value) (v1 : Value) (v2 : Value) (x : Int32) (L : List Value) (M : Mem) (Q : Option Value → Mem → Prop), Wp d 173 35 (v0 :: v1 :: v2 :: .int x :: L) [.ref a, .int b] M Q ↔ Wp d 173 36 (v0 :: v1 :: v2 :: .int x :: L) [.int x, .ref a, .int b] M Q) ∧
    (∀ (d : Nat) (a : Int32) (b : Nat) (c : Int32) (L : List Value) (M : Mem) (Q : Option Value → Mem → Prop), Wp d 173 36 L [.int a, .ref b, .int c] M Q ↔ ((isR b = true ∧ inr a (lnm M b)) ∧ Wp d 173 37 L [.int (M b a.toNatClampNeg), .int c] M Q)) ∧
    (∀ (d : Nat) (a : Int32) (b : Int32) (L : List Value) (M : Mem) (Q : Option Value → Mem → Prop), Wp d 173 37 L [.int a, .int b] M Q ↔ (if a < 0 then Wp d 173 40 L [.int b] M Q else Wp d 173 44 L [.int b] M Q)) ∧
    (∀ (d : Nat) (a : Int32) (L : List Value) (M : Mem) (Q : Option Value → Mem → Prop), Wp d 173 40 L [.int a] M Q ↔ Wp d 173 41 L [.int (-1), .int a] M Q) ∧
    (∀ (d : Nat) (a : Int32) (b : Int32) (L : List Value) (M : Mem) (Q : Option Value → Mem → Prop), Wp d 173 41 L [.int a, .int b] M Q ↔ Wp d 173 54 L [.int a, .int b] M Q) ∧
    (∀ (d : Nat) (a : Int32) (L : List Value) (M : Mem) (Q : Option Value → Mem → Prop), Wp d 173 44 L [.int a] M Q ↔ Wp d 173 45 L [.int 1, .int a] M Q) ∧
    (∀ (d : Nat) (a : Int32) (b : Int32) (x : Nat) (L : List Value) (M : Mem) (Q : Option Value → Mem → Prop), Wp d 173 45 (.ref x :: L) [.int a, .int b] M Q ↔ Wp d 173 46 (.ref x :: L) [.ref x, .int a, .int b] M Q) ∧
    (∀ (d : Nat) (a : Nat) (b : Int32) (c : Int32) (L : List Value) (M : Mem) (Q : Option Value → Mem → Prop), Wp d 173 46 L [.ref a, .int b, .int c] M Q ↔ (isK a 12 = true ∧ Wp d 173 49 L [.ref (rt a 22), .int b, .int c] M Q)) ∧
    (∀ (d : Nat) (a : Nat) (b : Int32) (c : Int32) (v0 : Value) (v1 : Value) (v2 : Value) (x : Int32) (L : List Value) (M : Mem) (Q : Option Value → Mem → Prop), Wp d 173 49 (v0 :: v1 :: v2 :: .int x :: L) [.ref a, .int b, .int c] M Q ↔ Wp d 173 50 (v0 :: v1 :: v2 :: .int x :: L) [.int x, .ref a, .int b, .int c] M Q) ∧
    (∀ (d : Nat) (a : Int32) (b : Nat) (c : Int32) (d2 : Int32) (L : List Value) (M : Mem) (Q : Option Value → Mem → Prop), Wp d 173 50 L [.int a, .ref b, .int c, .int d2] M Q ↔ ((isR b = true ∧ inr a (lnm M b)) ∧ Wp d 173 51 L [.int (M b a.toNatClampNeg), .int c, .int d2] M Q)) ∧
    (∀ (d : Nat) (a : Int32) (b : Int32) (c : Int32) (L : List Value) (M : Mem) (Q : Option Value → Mem → Prop), Wp d 173 51 L [.int a, .int b, .int c] M Q ↔ Wp d 173 52 L [.int (b <<< (a &&& 31)), .int c] M Q) ∧
    (∀ (d : Nat) (a : Int32) (b : Int32) (L : List Value) (M : Mem) (Q : Option Value → Mem → Prop), Wp d 173 52 L [.int a, .int b] M Q ↔ Wp d 173 53 L [.int (-1), .int a, .int b] M Q) ∧
    (∀ (d : Nat) (a : Int32) (b : Int32) (c : Int32) (L : List Value) (M : Mem) (Q : Option Value → Mem → Prop), Wp d 173 53 L [.int a, .int b, .int c] M Q ↔ Wp d 173 54 L [.int (b ^^^ a), .int c] M Q) ∧
    (∀ (d : Nat) (a : Int32) (b : Int32) (L : List Value) (M : Mem) (Q : Option Value → Mem → Prop), Wp d 173 54 L [.int a, .int b] M Q ↔ Wp d 173 55 L [.int (b &&& a)] M Q) ∧
    (∀ (d : Nat) (a : Int32) (v0 : Value) (v1 : Value) (x : Value) (L : List Value) (M : Mem) (Q : Option Value → Mem → Prop), Wp d 173 55 (v0 :: v1 :: x :: L) [.int a] M Q ↔ Wp d 173 56 (v0 :: clr v1 :: .int a :: L) [] M Q) ∧
    (∀ (d : Nat) (x : Nat) (L : List Value) (M : Mem) (Q : Option Value → Mem → Prop), Wp d 173 56 (.ref x :: L) [] M Q ↔ Wp d 173 57 (.ref x :: L) [.ref x] M Q) ∧
    (∀ (d : Nat) (a : Nat) (L : List Value) (M : Mem) (Q : Option Value → Mem → Prop), Wp d 173 57 L [.ref a] M Q ↔ (isK a 12 = true ∧ Wp d 173 60 L [.ref (rt a 22)] M Q)) ∧
    (∀ (d : Nat) (a : Nat) (v0 : Value) (v1 : Value) (v2 : Value) (x : Int32) (L : List Value) (M : Mem) (Q : Option Value → Mem → Prop), Wp d 173 60 (v0 :: v1 :: v2 :: .int x :: L) [.ref a] M Q ↔ Wp d 173 61 (v0 :: v1 :: v2 :: .int x :: L) [.int x, .ref a] M Q) ∧
    (∀ (d : Nat) (a : Int32) (b : Nat) (L : List Value) (M : Mem) (Q : Option Value → Mem → Prop), Wp d 173 61 L [.int a, .ref b] M Q ↔ Wp d 173 62 L [.int a, .ref b, .int a, .ref b] M Q) ∧
    (∀ (d : Nat) (a : Int32) (b : Nat) (c : Int32) (d2 : Nat) (L : List Value) (M : Mem) (Q : Option Value → Mem → Prop), Wp d 173 62 L [.int a, .ref b, .int c, .ref d2] M Q ↔ ((isR b = true ∧ inr a (lnm M b)) ∧ Wp d 173 63 L [.int (M b a.toNatClampNeg), .int c, .ref d2] M Q)) ∧
    (∀ (d : Nat) (a : Int32) (b : Int32) (c : Nat) (L : List Value) (M : Mem) (Q : Option Value → Mem → Prop), Wp d 173 63 L [.int a, .int b, .ref c] M Q ↔ Wp d 173 64 L [.int 1, .int a, .int b, .ref c] M Q) ∧
    (∀ (d : Nat) (a : Int32) (b : Int32) (c : Int32) (d2 : Nat) (L : List Value) (M : Mem) (Q : Option Value → Mem → Prop), Wp d 173 64 L [.int a, .int b, .int c, .ref d2] M Q ↔ Wp d 173 65 L [.int (b + a), .int c, .ref d2] M Q) ∧
    (∀ (d : Nat) (a : Int32) (b : Int32) (c : Nat) (L : List Value) (M : Mem) (Q : Option Value → Mem → Prop), Wp d 173 65 L [.int a, .int b, .ref c] M Q ↔ ((isK c 13 = true ∧ inr b (lnm M c)) ∧ Wp d 173 66 L [] (up2 M c b.toNatClampNeg a) Q)) ∧
    (∀ (d : Nat) (a : Nat) (L : List Value) (M : Mem) (Q : Option Value → Mem → Prop), Wp d 173 67 L [.ref a] M Q ↔ (isK a 12 = true ∧ Wp d 173 70 L [.ref (rt a 22)] M Q)) ∧
    (∀ (d : Nat) (a : Nat) (v0 : Value) (v1 : Value) (v2 : Value) (x : Int32) (L : List Value) (M : Mem) (Q : Option Value → Mem → Prop), Wp d 173 70 (v0 :: v1 :: v2 :: .int x :: L) [.ref a] M Q ↔ Wp d 173 71 (v0 :: v1 :: v2 :: .int x :: L) [.int x, .ref a] M Q) ∧
    (∀ (d : Nat) (a : Int32) (b : Nat) (L : List Value) (M : Mem) (Q : Option Value → Mem → Prop), Wp d 173 71 L [.int a, .ref b] M Q ↔ ((isR b = true ∧ inr a (lnm M b)) ∧ Wp d 173 72 L [.int (M b a.toNatClampNeg)] M Q)) ∧
    (∀ (d : Nat) (a : Int32) (x : Nat) (L : List Value) (M : Mem) (Q : Option Value → Mem → Prop), Wp d 173 72 (.ref x :: L) [.int a] M Q ↔ Wp d 173 73 (.ref x :: L) [.ref x, .int a] M Q) ∧
    (∀ (d : Nat) (a : Nat) (b : Int32) (L : List Value) (M : Mem) (Q : Option Value → Mem → Prop), Wp d 173 73 L [.ref a, .int b] M Q ↔ (isK a 12 = true ∧ Wp d 173 76 L [.ref (rt a 0), .int b] M Q)) ∧
    (∀ (d : Nat) (a : Nat) (b : Int32) (L : List Value) (M : Mem) (Q : Option Value → Mem → Prop), Wp d 173 76 L [.ref a, .int b] M Q ↔ Wp d 173 77 L [.int 5, .ref a, .int b] M Q) ∧
    (∀ (d : Nat) (a : Int32) (b : Nat) (c : Int32) (L : List Value) (M : Mem) (Q : Option Value → Mem → Prop), Wp d 173 77 L [.int a, .ref b, .int c] M Q ↔ ((isR b = true ∧ inr a (lnm M b)) ∧ Wp d 173 78 L [.int (M b a.toNatClampNeg), .int c] M Q)) ∧
    (∀ (d : Nat) (a : Int32) (b : Int32) (L : List Value) (M : Mem) (Q : Option Value → Mem → Prop), Wp d 173 78 L [.int a, .int b] M Q ↔ (if b < a then Wp d 173 81 L [] M Q else Wp d 173 107 L [] M Q)) ∧
    (∀ (d : Nat) (v0 : Value) (v1 : Value) (x : Int32) (L : List Value) (M : Mem) (Q : Option Value → Mem → Prop), Wp d 173 81 (v0 :: v1 :: .int x :: L) [] M Q ↔ Wp d 173 82 (v0 :: v1 :: .int x :: L) [.int x] M Q) ∧
    (∀ (d : Nat) (a : Int32) (x : Nat) (L : List Value) (M : Mem) (Q : Option Value → Mem → Prop), Wp d 173 82 (.ref x :: L) [.int a] M Q ↔ Wp d 173 83 (.ref x :: L) [.ref x, .int a] M Q) ∧
    (∀ (d : Nat) (a : Nat) (b : Int32) (L : List Value) (M : Mem) (Q : Option Value → Mem → Prop), Wp d 173 83 L [.ref a, .int b] M Q ↔ (isK a 12 = true ∧ Wp d 173 86 L [.ref (rt a 22), .int b] M Q)) ∧
    (∀ (d : Nat) (a : Nat) (b : Int32) (v0 : Value) (v1 : Value) (v2 : Value) (x : Int32) (L : List Value) (M : Mem) (Q : Option Value → Mem → Prop), Wp d 173 86 (v0 :: v1 :: v2 :: .int x :: L) [.ref a, .int b] M Q ↔ Wp d 173 87 (v0 :: v1 :: v2 :: .int x :: L) [.int x, .ref a, .int b] M Q) ∧
    (∀ (d : Nat) (a : Int32) (b : Nat) (c : Int32) (L : List Value) (M : Mem) (Q : Option Value → Mem → Prop), Wp d 173 87 L [.int a, .ref b, .int c] M Q ↔ ((isR b = true ∧ inr a (lnm M b)) ∧ Wp d 173 88 L [.int (M b a.toNatClampNeg), .int c] M Q)) ∧
    (∀ (d : Nat) (a : Int32) (b : Int32) (L : List Value) (M : Mem) (Q : Option Value → Mem → Prop), Wp (d + 1) 173 88 L [.int a, .int b] M Q ↔ Wp d 129 0 [.int b, .int a] [] M (fun r M2 => Wp (d + 1) 173 91 L (r.toList ++ []) M2 Q)) ∧
    (∀ (d : Nat) (a : Int32) (L : List Value) (M : Mem) (Q : Option Value → Mem → Prop), Wp d 173 91 L [.int a] M Q ↔ (if a = 0 then Wp d 173 107 L [] M Q else Wp d 173 94 L [] M Q)) := by
  refine ⟨?_, ?_, ?_, ?_, ?_, ?_, ?_, ?_, ?_, ?_, ?_, ?_, ?_, ?_, ?_, ?_, ?_, ?_, ?_, ?_, ?_, ?_, ?_, ?_, ?_, ?_, ?_, ?_, ?_, ?_, ?_, ?_, ?_, ?_, ?_, ?_, ?_, ?_, ?_, ?_, ?_, ?_, ?_, ?_, ?_, ?_, ?_, ?_, ?_, ?_, ?_, ?_, ?_, ?_, ?_, ?_, ?_, ?_, ?_, ?_⟩
  · intro d x L M Q; exact Wp_sim (by decide +kernel : decode (cd 173) 0 = .ok (.aload_n 0, 1)) rfl rfl
  · intro d a L M Q; exact Wp_sim (by decide +kernel : decode (cd 173) 1 = .ok (.iconst 0, 1)) rfl rfl
  · intro d a b L M Q; exact q_putI (p := 869) (by decide +kernel : decode (cd 173) 2 = .ok (.putfield 268, 3)) (by decide +kernel) (by decide +kernel)
  · intro d x L M Q; exact Wp_sim (by decide +kernel : decode (cd 173) 5 = .ok (.aload_n 0, 1)) rfl rfl
  · intro d a L M Q; exact Wp_sim (by decide +kernel : decode (cd 173) 6 = .ok (.iconst 0, 1)) rfl rfl
  · intro d a b L M Q; exact q_putI (p := 870) (by decide +kernel : decode (cd 173) 7 = .ok (.putfield 271, 3)) (by decide +kernel) (by decide +kernel)
  · intro d x L M Q; exact Wp_sim (by decide +kernel : decode (cd 173) 10 = .ok (.aload_n 0, 1)) rfl rfl
  · intro d a L M Q; exact Wp_sim (by decide +kernel : decode (cd 173) 11 = .ok (.iconst 0, 1)) rfl rfl
  · intro d a b L M Q; exact q_putI (p := 871) (by decide +kernel : decode (cd 173) 12 = .ok (.putfield 274, 3)) (by decide +kernel) (by decide +kernel)
  · intro d L M Q; exact Wp_sim (by decide +kernel : decode (cd 173) 15 = .ok (.iconst 0, 1)) rfl rfl
  · intro d a v0 v1 x L M Q; exact Wp_sim (by decide +kernel : decode (cd 173) 16 = .ok (.istore_n 2, 1)) rfl rfl
  · intro d L M Q; exact Wp_sim (by decide +kernel : decode (cd 173) 17 = .ok (.iconst 0, 1)) rfl rfl
  · intro d a v0 v1 v2 x L M Q; exact Wp_sim (by decide +kernel : decode (cd 173) 18 = .ok (.istore_n 3, 1)) rfl rfl
  · intro d x L M Q; exact Wp_sim (by decide +kernel : decode (cd 173) 19 = .ok (.aload_n 0, 1)) rfl rfl
  · intro d a L M Q; exact q_getR (p := 865) (by decide +kernel : decode (cd 173) 20 = .ok (.getfield 45, 3)) (by decide +kernel) (by decide +kernel)
  · intro d a L M Q; exact Wp_sim (by decide +kernel : decode (cd 173) 23 = .ok (.iconst 0, 1)) rfl rfl
  · intro d a b L M Q; exact Wp_sim (by decide +kernel : decode (cd 173) 24 = .ok (.iconst (-1), 1)) rfl rfl
  · intro d a b c L M Q; exact q_ast (by decide +kernel : decode (cd 173) 25 = .ok (.iastore , 1))
  · intro d a L M Q; exact q_zlt (by decide +kernel : decode (cd 173) 27 = .ok (.ifCond .lt 277, 3)) (by decide)
  · intro d v0 v1 x L M Q; exact Wp_sim (by decide +kernel : decode (cd 173) 30 = .ok (.iload_n 2, 1)) rfl rfl
  · intro d a x L M Q; exact Wp_sim (by decide +kernel : decode (cd 173) 31 = .ok (.aload_n 0, 1)) rfl rfl
  · intro d a b L M Q; exact q_getR (p := 865) (by decide +kernel : decode (cd 173) 32 = .ok (.getfield 45, 3)) (by decide +kernel) (by decide +kernel)
  · intro d a b v0 v1 v2 x L M Q; exact Wp_sim (by decide +kernel : decode (cd 173) 35 = .ok (.iload_n 3, 1)) rfl rfl
  · intro d a b c L M Q; exact q_ald (by decide +kernel : decode (cd 173) 36 = .ok (.iaload , 1))
  · intro d a b L M Q; exact q_zge (by decide +kernel : decode (cd 173) 37 = .ok (.ifCond .ge 7, 3)) (by decide)
  · intro d a L M Q; exact Wp_sim (by decide +kernel : decode (cd 173) 40 = .ok (.iconst (-1), 1)) rfl rfl
  · intro d a b L M Q; exact q_goto (by decide +kernel : decode (cd 173) 41 = .ok (.goto 13, 3)) (by decide)
  · intro d a L M Q; exact Wp_sim (by decide +kernel : decode (cd 173) 44 = .ok (.iconst 1, 1)) rfl rfl
  · intro d a b x L M Q; exact Wp_sim (by decide +kernel : decode (cd 173) 45 = .ok (.aload_n 0, 1)) rfl rfl
  · intro d a b c L M Q; exact q_getR (p := 865) (by decide +kernel : decode (cd 173) 46 = .ok (.getfield 45, 3)) (by decide +kernel) (by decide +kernel)
  · intro d a b c v0 v1 v2 x L M Q; exact Wp_sim (by decide +kernel : decode (cd 173) 49 = .ok (.iload_n 3, 1)) rfl rfl
  · intro d a b c d2 L M Q; exact q_ald (by decide +kernel : decode (cd 173) 50 = .ok (.iaload , 1))
  · intro d a b c L M Q; exact Wp_sim (by decide +kernel : decode (cd 173) 51 = .ok (.ishl , 1)) rfl rfl
  · intro d a b L M Q; exact Wp_sim (by decide +kernel : decode (cd 173) 52 = .ok (.iconst (-1), 1)) rfl rfl
  · intro d a b c L M Q; exact Wp_sim (by decide +kernel : decode (cd 173) 53 = .ok (.ixor , 1)) rfl rfl
  · intro d a b L M Q; exact Wp_sim (by decide +kernel : decode (cd 173) 54 = .ok (.iand , 1)) rfl rfl
  · intro d a v0 v1 x L M Q; exact Wp_sim (by decide +kernel : decode (cd 173) 55 = .ok (.istore_n 2, 1)) rfl rfl
  · intro d x L M Q; exact Wp_sim (by decide +kernel : decode (cd 173) 56 = .ok (.aload_n 0, 1)) rfl rfl
  · intro d a L M Q; exact q_getR (p := 865) (by decide +kernel : decode (cd 173) 57 = .ok (.getfield 45, 3)) (by decide +kernel) (by decide +kernel)
  · intro d a v0 v1 v2 x L M Q; exact Wp_sim (by decide +kernel : decode (cd 173) 60 = .ok (.iload_n 3, 1)) rfl rfl
  · intro d a b L M Q; exact Wp_sim (by decide +kernel : decode (cd 173) 61 = .ok (.dup2 , 1)) rfl rfl
  · intro d a b c d2 L M Q; exact q_ald (by decide +kernel : decode (cd 173) 62 = .ok (.iaload , 1))
  · intro d a b c L M Q; exact Wp_sim (by decide +kernel : decode (cd 173) 63 = .ok (.iconst 1, 1)) rfl rfl
  · intro d a b c d2 L M Q; exact Wp_sim (by decide +kernel : decode (cd 173) 64 = .ok (.iadd , 1)) rfl rfl
  · intro d a b c L M Q; exact q_ast (by decide +kernel : decode (cd 173) 65 = .ok (.iastore , 1))
  · intro d a L M Q; exact q_getR (p := 865) (by decide +kernel : decode (cd 173) 67 = .ok (.getfield 45, 3)) (by decide +kernel) (by decide +kernel)
  · intro d a v0 v1 v2 x L M Q; exact Wp_sim (by decide +kernel : decode (cd 173) 70 = .ok (.iload_n 3, 1)) rfl rfl
  · intro d a b L M Q; exact q_ald (by decide +kernel : decode (cd 173) 71 = .ok (.iaload , 1))
  · intro d a x L M Q; exact Wp_sim (by decide +kernel : decode (cd 173) 72 = .ok (.aload_n 0, 1)) rfl rfl
  · intro d a b L M Q; exact q_getR (p := 843) (by decide +kernel : decode (cd 173) 73 = .ok (.getfield 7, 3)) (by decide +kernel) (by decide +kernel)
  · intro d a b L M Q; exact Wp_sim (by decide +kernel : decode (cd 173) 76 = .ok (.iconst 5, 1)) rfl rfl
  · intro d a b c L M Q; exact q_ald (by decide +kernel : decode (cd 173) 77 = .ok (.iaload , 1))
  · intro d a b L M Q; exact q_ige (by decide +kernel : decode (cd 173) 78 = .ok (.if_icmp .ge 29, 3)) (by decide)
  · intro d v0 v1 x L M Q; exact Wp_sim (by decide +kernel : decode (cd 173) 81 = .ok (.iload_n 2, 1)) rfl rfl
  · intro d a x L M Q; exact Wp_sim (by decide +kernel : decode (cd 173) 82 = .ok (.aload_n 0, 1)) rfl rfl
  · intro d a b L M Q; exact q_getR (p := 865) (by decide +kernel : decode (cd 173) 83 = .ok (.getfield 45, 3)) (by decide +kernel) (by decide +kernel)
  · intro d a b v0 v1 v2 x L M Q; exact Wp_sim (by decide +kernel : decode (cd 173) 86 = .ok (.iload_n 3, 1)) rfl rfl
  · intro d a b c L M Q; exact q_ald (by decide +kernel : decode (cd 173) 87 = .ok (.iaload , 1))
  · intro d a b L M Q; exact q_invS (pz := 1007) (n := 2) (m := 2) (As := [.int b, .int a]) (rest := []) (by decide +kernel : decode (cd 173) 88 = .ok (.invokestatic 154, 3)) (by decide +kernel) (by decide +kernel) (by decide +kernel) rfl rfl (Nat.le_of_ble_eq_true rfl) (Nat.le_of_ble_eq_true rfl) rfl
  · intro d a L M Q; exact q_zeq (by decide +kernel : decode (cd 173) 91 = .ok (.ifCond .eq 16, 3)) (by decide)
set_option maxRecDepth 10000 in
theorem e173_1 : (∀ (d : Nat) (x : Nat) (L : List Value) (M : Mem) (Q : Option Value → Mem → Prop), Wp d 173 94 (.ref x :: L) [] M Q ↔ Wp d 173 95 (.ref x :: L) [.ref x] M Q) ∧
    (∀ (d : Nat) (a : Nat) (L : List Value) (M : Mem) (Q : Option Value → Mem → Prop), Wp d 173 95 L [.ref a] M Q ↔ (isK a 12 = true ∧ Wp d 173 98 L [.ref (rt a 22)] M Q)) ∧
    (∀ (d : Nat) (a : Nat) (v0 : Value) (v1 : Value) (v2 : Value) (x : Int32) (L : List Value) (M : Mem) (Q : Option Value → Mem → Prop), Wp d 173 98 (v0 :: v1 :: v2 :: .int x :: L) [.ref a] M Q ↔ Wp d 173 99 (v0 :: v1 :: v2 :: .int x :: L) [.int x, .ref a] M Q) ∧
    (∀ (d : Nat) (a : Int32) (b : Nat) (L : List Value) (M : Mem) (Q : Option Value → Mem → Prop), Wp d 173 99 L [.int a, .ref b] M Q ↔ Wp d 173 100 L [.int a, .ref b, .int a, .ref b] M Q) ∧
    (∀ (d : Nat) (a : Int32) (b : Nat) (c : Int32) (d2 : Nat) (L : List Value) (M : Mem) (Q : Option Value → Mem → Prop), Wp d 173 100 L [.int a, .ref b, .int c, .ref d2] M Q ↔ ((isR b = true ∧ inr a (lnm M b)) ∧ Wp d 173 101 L [.int (M b a.toNatClampNeg), .int c, .ref d2] M Q)) ∧
    (∀ (d : Nat) (a : Int32) (b : Int32) (c : Nat) (L : List Value) (M : Mem) (Q : Option Value → Mem → Prop), Wp d 173 101 L [.int a, .int b, .ref c] M Q ↔ Wp d 173 102 L [.int 1, .int a, .int b, .ref c] M Q) ∧
    (∀ (d : Nat) (a : Int32) (b : Int32) (c : Int32) (d2 : Nat) (L : List Value) (M : Mem) (Q : Option Value → Mem → Prop), Wp d 173 102 L [.int a, .int b, .int c, .ref d2] M Q ↔ Wp d 173 103 L [.int (b + a), .int c, .ref d2] M Q) ∧
    (∀ (d : Nat) (a : Int32) (b : Int32) (c : Nat) (L : List Value) (M : Mem) (Q : Option Value → Mem → Prop), Wp d 173 103 L [.int a, .int b, .ref c] M Q ↔ ((isK c 13 = true ∧ inr b (lnm M c)) ∧ Wp d 173 104 L [] (up2 M c b.toNatClampNeg a) Q)) ∧
    (∀ (d : Nat) (L : List Value) (M : Mem) (Q : Option Value → Mem → Prop), Wp d 173 104 L [] M Q ↔ Wp d 173 66 L [] M Q) ∧
    (∀ (d : Nat) (x : Nat) (L : List Value) (M : Mem) (Q : Option Value → Mem → Prop), Wp d 173 107 (.ref x :: L) [] M Q ↔ Wp d 173 108 (.ref x :: L) [.ref x] M Q) ∧
    (∀ (d : Nat) (a : Nat) (L : List Value) (M : Mem) (Q : Option Value → Mem → Prop), Wp d 173 108 L [.ref a] M Q ↔ (isK a 12 = true ∧ Wp d 173 111 L [.ref (rt a 22)] M Q)) ∧
    (∀ (d : Nat) (a : Nat) (v0 : Value) (v1 : Value) (v2 : Value) (x : Int32) (L : List Value) (M : Mem) (Q : Option Value → Mem → Prop), Wp d 173 111 (v0 :: v1 :: v2 :: .int x :: L) [.ref a] M Q ↔ Wp d 173 112 (v0 :: v1 :: v2 :: .int x :: L) [.int x, .ref a] M Q) ∧
    (∀ (d : Nat) (a : Int32) (b : Nat) (L : List Value) (M : Mem) (Q : Option Value → Mem → Prop), Wp d 173 112 L [.int a, .ref b] M Q ↔ ((isR b = true ∧ inr a (lnm M b)) ∧ Wp d 173 113 L [.int (M b a.toNatClampNeg)] M Q)) ∧
    (∀ (d : Nat) (a : Int32) (v0 : Value) (v1 : Value) (v2 : Value) (v3 : Value) (x : Value) (L : List Value) (M : Mem) (Q : Option Value → Mem → Prop), Wp d 173 113 (v0 :: v1 :: v2 :: v3 :: x :: L) [.int a] M Q ↔ Wp d 173 115 (v0 :: v1 :: v2 :: clr v3 :: .int a :: L) [] M Q) ∧
    (∀ (d : Nat) (v0 : Value) (v1 : Value) (v2 : Value) (v3 : Value) (x : Int32) (L : List Value) (M : Mem) (Q : Option Value → Mem → Prop), Wp d 173 115 (v0 :: v1 :: v2 :: v3 :: .int x :: L) [] M Q ↔ Wp d 173 117 (v0 :: v1 :: v2 :: v3 :: .int x :: L) [.int x] M Q) ∧
    (∀ (d : Nat) (a : Int32) (x : Nat) (L : List Value) (M : Mem) (Q : Option Value → Mem → Prop), Wp d 173 117 (.ref x :: L) [.int a] M Q ↔ Wp d 173 118 (.ref x :: L) [.ref x, .int a] M Q) ∧
    (∀ (d : Nat) (a : Nat) (b : Int32) (L : List Value) (M : Mem) (Q : Option Value → Mem → Prop), Wp d 173 118 L [.ref a, .int b] M Q ↔ (isK a 12 = true ∧ Wp d 173 121 L [.ref (rt a 0), .int b] M Q)) ∧
    (∀ (d : Nat) (a : Nat) (b : Int32) (L : List Value) (M : Mem) (Q : Option Value → Mem → Prop), Wp d 173 121 L [.ref a, .int b] M Q ↔ Wp d 173 122 L [.int 5, .ref a, .int b] M Q) ∧
    (∀ (d : Nat) (a : Int32) (b : Nat) (c : Int32) (L : List Value) (M : Mem) (Q : Option Value → Mem → Prop), Wp d 173 122 L [.int a, .ref b, .int c] M Q ↔ ((isR b = true ∧ inr a (lnm M b)) ∧ Wp d 173 123 L [.int (M b a.toNatClampNeg), .int c] M Q)) ∧
    (∀ (d : Nat) (a : Int32) (b : Int32) (L : List Value) (M : Mem) (Q : Option Value → Mem → Prop), Wp d 173 123 L [.int a, .int b] M Q ↔ (if b < a then Wp d 173 132 L [] M Q else Wp d 173 126 L [] M Q)) ∧
    (∀ (d : Nat) (v0 : Value) (v1 : Value) (v2 : Value) (x : Int32) (L : List Value) (M : Mem) (Q : Option Value → Mem → Prop), Wp d 173 126 (v0 :: v1 :: v2 :: .int x :: L) [] M Q ↔ Wp d 173 129 (v0 :: v1 :: clr v2 :: .int (x + (-1)) :: L) [] M Q) ∧
    (∀ (d : Nat) (L : List Value) (M : Mem) (Q : Option Value → Mem → Prop), Wp d 173 129 L [] M Q ↔ Wp d 173 301 L [] M Q) ∧
    (∀ (d : Nat) (v0 : Value) (v1 : Value) (v2 : Value) (x : Int32) (L : List Value) (M : Mem) (Q : Option Value → Mem → Prop), Wp d 173 132 (v0 :: v1 :: v2 :: .int x :: L) [] M Q ↔ Wp d 173 133 (v0 :: v1 :: v2 :: .int x :: L) [.int x] M Q) ∧
    (∀ (d : Nat) (a : Int32) (L : List Value) (M : Mem) (Q : Option Value → Mem → Prop), Wp d 173 133 L [.int a] M Q ↔ (if a = 0 then Wp d 173 136 L [] M Q else Wp d 173 140 L [] M Q)) ∧
    (∀ (d : Nat) (L : List Value) (M : Mem) (Q : Option Value → Mem → Prop), Wp d 173 136 L [] M Q ↔ Wp d 173 137 L [.int 0] M Q) ∧
    (∀ (d : Nat) (a : Int32) (L : List Value) (M : Mem) (Q : Option Value → Mem → Prop), Wp d 173 137 L [.int a] M Q ↔ Wp d 173 148 L [.int a] M Q) ∧
    (∀ (d : Nat) (x : Nat) (L : List Value) (M : Mem) (Q : Option Value → Mem → Prop), Wp d 173 140 (.ref x :: L) [] M Q ↔ Wp d 173 141 (.ref x :: L) [.ref x] M Q) ∧
    (∀ (d : Nat) (a : Nat) (L : List Value) (M : Mem) (Q : Option Value → Mem → Prop), Wp d 173 141 L [.ref a] M Q ↔ (isK a 12 = true ∧ Wp d 173 144 L [.ref (rt a 23)] M Q)) ∧
    (∀ (d : Nat) (a : Nat) (v0 : Value) (v1 : Value) (v2 : Value) (x : Int32) (L : List Value) (M : Mem) (Q : Option Value → Mem → Prop), Wp d 173 144 (v0 :: v1 :: v2 :: .int x :: L) [.ref a] M Q ↔ Wp d 173 145 (v0 :: v1 :: v2 :: .int x :: L) [.int x, .ref a] M Q) ∧
    (∀ (d : Nat) (a : Int32) (b : Nat) (L : List Value) (M : Mem) (Q : Option Value → Mem → Prop), Wp d 173 145 L [.int a, .ref b] M Q ↔ Wp d 173 146 L [.int 1, .int a, .ref b] M Q) ∧
    (∀ (d : Nat) (a : Int32) (b : Int32) (c : Nat) (L : List Value) (M : Mem) (Q : Option Value → Mem → Prop), Wp d 173 146 L [.int a, .int b, .ref c] M Q ↔ Wp d 173 147 L [.int (b - a), .ref c] M Q) ∧
    (∀ (d : Nat) (a : Int32) (b : Nat) (L : List Value) (M : Mem) (Q : Option Value → Mem → Prop), Wp d 173 147 L [.int a, .ref b] M Q ↔ ((isR b = true ∧ inr a (lnm M b)) ∧ Wp d 173 148 L [.int (M b a.toNatClampNeg)] M Q)) ∧
    (∀ (d : Nat) (a : Int32) (x : Nat) (L : List Value) (M : Mem) (Q : Option Value → Mem → Prop), Wp d 173 148 (.ref x :: L) [.int a] M Q ↔ Wp d 173 149 (.ref x :: L) [.ref x, .int a] M Q) ∧
    (∀ (d : Nat) (a : Nat) (b : Int32) (v0 : Value) (v1 : Value) (v2 : Value) (x : Int32) (L : List Value) (M : Mem) (Q : Option Value → Mem → Prop), Wp d 173 149 (v0 :: v1 :: v2 :: .int x :: L) [.ref a, .int b] M Q ↔ Wp d 173 150 (v0 :: v1 :: v2 :: .int x :: L) [.int x, .ref a, .int b] M Q) ∧
    (∀ (d : Nat) (a : Int32) (b : Nat) (c : Int32) (L : List Value) (M : Mem) (Q : Option Value → Mem → Prop), Wp d 173 150 L [.int a, .ref b, .int c] M Q ↔ (if a = 0 then Wp d 173 153 L [.ref b, .int c] M Q else Wp d 173 157 L [.ref b, .int c] M Q)) ∧
    (∀ (d : Nat) (a : Nat) (b : Int32) (L : List Value) (M : Mem) (Q : Option Value → Mem → Prop), Wp d 173 153 L [.ref a, .int b] M Q ↔ Wp d 173 154 L [.int (-1), .ref a, .int b] M Q) ∧
    (∀ (d : Nat) (a : Int32) (b : Nat) (c : Int32) (L : List Value) (M : Mem) (Q : Option Value → Mem → Prop), Wp d 173 154 L [.int a, .ref b, .int c] M Q ↔ Wp d 173 165 L [.int a, .ref b, .int c] M Q) ∧
    (∀ (d : Nat) (a : Nat) (b : Int32) (x : Nat) (L : List Value) (M : Mem) (Q : Option Value → Mem → Prop), Wp d 173 157 (.ref x :: L) [.ref a, .int b] M Q ↔ Wp d 173 158 (.ref x :: L) [.ref x, .ref a, .int b] M Q) ∧
    (∀ (d : Nat) (a : Nat) (b : Nat) (c : Int32) (L : List Value) (M : Mem) (Q : Option Value → Mem → Prop), Wp d 173 158 L [.ref a, .ref b, .int c] M Q ↔ (isK a 12 = true ∧ Wp d 173 161 L [.ref (rt a 22), .ref b, .int c] M Q)) ∧
    (∀ (d : Nat) (a : Nat) (b : Nat) (c : Int32) (v0 : Value) (v1 : Value) (v2 : Value) (x : Int32) (L : List Value) (M : Mem) (Q : Option Value → Mem → Prop), Wp d 173 161 (v0 :: v1 :: v2 :: .int x :: L) [.ref a, .ref b, .int c] M Q ↔ Wp d 173 162 (v0 :: v1 :: v2 :: .int x :: L) [.int x, .ref a, .ref b, .int c] M Q) ∧
    (∀ (d : Nat) (a : Int32) (b : Nat) (c : Nat) (d2 : Int32) (L : List Value) (M : Mem) (Q : Option Value → Mem → Prop), Wp d 173 162 L [.int a, .ref b, .ref c, .int d2] M Q ↔ Wp d 173 163 L [.int 1, .int a, .ref b, .ref c, .int d2] M Q) ∧
    (∀ (d : Nat) (a : Int32) (b : Int32) (c : Nat) (d2 : Nat) (e : Int32) (L : List Value) (M : Mem) (Q : Option Value → Mem → Prop), Wp d 173 163 L [.int a, .int b, .ref c, .ref d2, .int e] M Q ↔ Wp d 173 164 L [.int (b - a), .ref c, .ref d2, .int e] M Q) ∧
    (∀ (d : Nat) (a : Int32) (b : Nat) (c : Nat) (d2 : Int32) (L : List Value) (M : Mem) (Q : Option Value → Mem → Prop), Wp d 173 164 L [.int a, .ref b, .ref c, .int d2] M Q ↔ ((isR b = true ∧ inr a (lnm M b)) ∧ Wp d 173 165 L [.int (M b a.toNatClampNeg), .ref c, .int d2] M Q)) ∧
    (∀ (d : Nat) (a : Int32) (b : Nat) (c : Int32) (v0 : Value) (v1 : Value) (v2 : Value) (v3 : Value) (x : Int32) (L : List Value) (M : Mem) (Q : Option Value → Mem → Prop), Wp d 173 165 (v0 :: v1 :: v2 :: v3 :: .int x :: L) [.int a, .ref b, .int c] M Q ↔ Wp d 173 167 (v0 :: v1 :: v2 :: v3 :: .int x :: L) [.int x, .int a, .ref b, .int c] M Q) ∧
    (∀ (d : Nat) (a : Int32) (b : Int32) (c : Nat) (d2 : Int32) (L : List Value) (M : Mem) (Q : Option Value → Mem → Prop), Wp (d + 1) 173 167 L [.int a, .int b, .ref c, .int d2] M Q ↔ (isK c 12 = true ∧ Wp d 174 0 [.ref c, .int b, .int a] [] M (fun r M2 => Wp (d + 1) 173 170 L (r.toList ++ [.int d2]) M2 Q))) ∧
    (∀ (d : Nat) (a : Int32) (b : Int32) (L : List Value) (M : Mem) (Q : Option Value → Mem → Prop), Wp d 173 170 L [.int a, .int b] M Q ↔ Wp d 173 171 L [.int (b + a)] M Q) ∧
    (∀ (d : Nat) (a : Int32) (v0 : Value) (v1 : Value) (v2 : Value) (v3 : Value) (v4 : Value) (x : Value) (L : List Value) (M : Mem) (Q : Option Value → Mem → Prop), Wp d 173 171 (v0 :: v1 :: v2 :: v3 :: v4 :: x :: L) [.int a] M Q ↔ Wp d 173 173 (v0 :: v1 :: v2 :: v3 :: clr v4 :: .int a :: L) [] M Q) ∧
    (∀ (d : Nat) (v0 : Value) (v1 : Value) (x : Int32) (L : List Value) (M : Mem) (Q : Option Value → Mem → Prop), Wp d 173 173 (v0 :: v1 :: .int x :: L) [] M Q ↔ Wp d 173 174 (v0 :: v1 :: .int x :: L) [.int x] M Q) ∧
    (∀ (d : Nat) (a : Int32) (L : List Value) (M : Mem) (Q : Option Value → Mem → Prop), Wp d 173 174 L [.int a] M Q ↔ Wp d 173 175 L [.int 1, .int a] M Q) ∧
    (∀ (d : Nat) (a : Int32) (b : Int32) (v0 : Value) (v1 : Value) (v2 : Value) (v3 : Value) (x : Int32) (L : List Value) (M : Mem) (Q : Option Value → Mem → Prop), Wp d 173 175 (v0 :: v1 :: v2 :: v3 :: .int x :: L) [.int a, .int b] M Q ↔ Wp d 173 177 (v0 :: v1 :: v2 :: v3 :: .int x :: L) [.int x, .int a, .int b] M Q) ∧
    (∀ (d : Nat) (a : Int32) (b : Int32) (c : Int32) (L : List Value) (M : Mem) (Q : Option Value → Mem → Prop), Wp d 173 177 L [.int a, .int b, .int c] M Q ↔ Wp d 173 178 L [.int (b <<< (a &&& 31)), .int c] M Q) ∧
    (∀ (d : Nat) (a : Int32) (b : Int32) (L : List Value) (M : Mem) (Q : Option Value → Mem → Prop), Wp d 173 178 L [.int a, .int b] M Q ↔ Wp d 173 179 L [.int (b ||| a)] M Q) ∧
    (∀ (d : Nat) (a : Int32) (v0 : Value) (v1 : Value) (x : Value) (L : List Value) (M : Mem) (Q : Option Value → Mem → Prop), Wp d 173 179 (v0 :: v1 :: x :: L) [.int a] M Q ↔ Wp d 173 180 (v0 :: clr v1 :: .int a :: L) [] M Q) ∧
    (∀ (d : Nat) (x : Nat) (L : List Value) (M : Mem) (Q : Option Value → Mem → Prop), Wp d 173 180 (.ref x :: L) [] M Q ↔ Wp d 173 181 (.ref x :: L) [.ref x] M Q) ∧
    (∀ (d : Nat) (a : Nat) (L : List Value) (M : Mem) (Q : Option Value → Mem → Prop), Wp d 173 181 L [.ref a] M Q ↔ (isK a 12 = true ∧ Wp d 173 184 L [.ref (rt a 23)] M Q)) ∧
    (∀ (d : Nat) (a : Nat) (v0 : Value) (v1 : Value) (v2 : Value) (x : Int32) (L : List Value) (M : Mem) (Q : Option Value → Mem → Prop), Wp d 173 184 (v0 :: v1 :: v2 :: .int x :: L) [.ref a] M Q ↔ Wp d 173 185 (v0 :: v1 :: v2 :: .int x :: L) [.int x, .ref a] M Q) ∧
    (∀ (d : Nat) (a : Int32) (b : Nat) (v0 : Value) (v1 : Value) (v2 : Value) (v3 : Value) (v4 : Value) (x : Int32) (L : List Value) (M : Mem) (Q : Option Value → Mem → Prop), Wp d 173 185 (v0 :: v1 :: v2 :: v3 :: v4 :: .int x :: L) [.int a, .ref b] M Q ↔ Wp d 173 187 (v0 :: v1 :: v2 :: v3 :: v4 :: .int x :: L) [.int x, .int a, .ref b] M Q) ∧
    (∀ (d : Nat) (a : Int32) (b : Int32) (c : Nat) (L : List Value) (M : Mem) (Q : Option Value → Mem → Prop), Wp d 173 187 L [.int a, .int b, .ref c] M Q ↔ ((isK c 13 = true ∧ inr b (lnm M c)) ∧ Wp d 173 188 L [] (up2 M c b.toNatClampNeg a) Q)) ∧
    (∀ (d : Nat) (x : Nat) (L : List Value) (M : Mem) (Q : Option Value → Mem → Prop), Wp d 173 188 (.ref x :: L) [] M Q ↔ Wp d 173 189 (.ref x :: L) [.ref x] M Q) ∧
    (∀ (d : Nat) (a : Nat) (L : List Value) (M : Mem) (Q : Option Value → Mem → Prop), Wp d 173 189 L [.ref a] M Q ↔ (isK a 12 = true ∧ Wp d 173 192 L [.ref (rt a 24)] M Q)) := by
  refine ⟨?_, ?_, ?_, ?_, ?_, ?_, ?_, ?_, ?_, ?_, ?_, ?_, ?_, ?_, ?_, ?_, ?_, ?_, ?_, ?_, ?_, ?_, ?_, ?_, ?_, ?_, ?_, ?_, ?_, ?_, ?_, ?_, ?_, ?_, ?_, ?_, ?_, ?_, ?_, ?_, ?_, ?_, ?_, ?_, ?_, ?_, ?_, ?_, ?_, ?_, ?_, ?_, ?_, ?_, ?_, ?_, ?_, ?_, ?_, ?_⟩
  · intro d x L M Q; exact Wp_sim (by decide +kernel : decode (cd 173) 94 = .ok (.aload_n 0, 1)) rfl rfl
  · intro d a L M Q; exact q_getR (p := 865) (by decide +kernel : decode (cd 173) 95 = .ok (.getfield 45, 3)) (by decide +kernel) (by decide +kernel)
  · intro d a v0 v1 v2 x L M Q; exact Wp_sim (by decide +kernel : decode (cd 173) 98 = .ok (.iload_n 3, 1)) rfl rfl
  · intro d a b L M Q; exact Wp_sim (by decide +kernel : decode (cd 173) 99 = .ok (.dup2 , 1)) rfl rfl
  · intro d a b c d2 L M Q; exact q_ald (by decide +kernel : decode (cd 173) 100 = .ok (.iaload , 1))
  · intro d a b c L M Q; exact Wp_sim (by decide +kernel : decode (cd 173) 101 = .ok (.iconst 1, 1)) rfl rfl
  · intro d a b c d2 L M Q; exact Wp_sim (by decide +kernel : decode (cd 173) 102 = .ok (.iadd , 1)) rfl rfl
  · intro d a b c L M Q; exact q_ast (by decide +kernel : decode (cd 173) 103 = .ok (.iastore , 1))
  · intro d L M Q; exact q_goto (by decide +kernel : decode (cd 173) 104 = .ok (.goto (-38), 3)) (by decide)
  · intro d x L M Q; exact Wp_sim (by decide +kernel : decode (cd 173) 107 = .ok (.aload_n 0, 1)) rfl rfl
  · intro d a L M Q; exact q_getR (p := 865) (by decide +kernel : decode (cd 173) 108 = .ok (.getfield 45, 3)) (by decide +kernel) (by decide +kernel)
  · intro d a v0 v1 v2 x L M Q; exact Wp_sim (by decide +kernel : decode (cd 173) 111 = .ok (.iload_n 3, 1)) rfl rfl
  · intro d a b L M Q; exact q_ald (by decide +kernel : decode (cd 173) 112 = .ok (.iaload , 1))
  · intro d a v0 v1 v2 v3 x L M Q; exact Wp_sim (by decide +kernel : decode (cd 173) 113 = .ok (.istore 4, 2)) rfl rfl
  · intro d v0 v1 v2 v3 x L M Q; exact Wp_sim (by decide +kernel : decode (cd 173) 115 = .ok (.iload 4, 2)) rfl rfl
  · intro d a x L M Q; exact Wp_sim (by decide +kernel : decode (cd 173) 117 = .ok (.aload_n 0, 1)) rfl rfl
  · intro d a b L M Q; exact q_getR (p := 843) (by decide +kernel : decode (cd 173) 118 = .ok (.getfield 7, 3)) (by decide +kernel) (by decide +kernel)
  · intro d a b L M Q; exact Wp_sim (by decide +kernel : decode (cd 173) 121 = .ok (.iconst 5, 1)) rfl rfl
  · intro d a b c L M Q; exact q_ald (by decide +kernel : decode (cd 173) 122 = .ok (.iaload , 1))
  · intro d a b L M Q; exact q_ilt (by decide +kernel : decode (cd 173) 123 = .ok (.if_icmp .lt 9, 3)) (by decide)
  · intro d v0 v1 v2 x L M Q; exact Wp_sim (by decide +kernel : decode (cd 173) 126 = .ok (.iinc 3 (-1), 3)) rfl rfl
  · intro d L M Q; exact q_goto (by decide +kernel : decode (cd 173) 129 = .ok (.goto 172, 3)) (by decide)
  · intro d v0 v1 v2 x L M Q; exact Wp_sim (by decide +kernel : decode (cd 173) 132 = .ok (.iload_n 3, 1)) rfl rfl
  · intro d a L M Q; exact q_zne (by decide +kernel : decode (cd 173) 133 = .ok (.ifCond .ne 7, 3)) (by decide)
  · intro d L M Q; exact Wp_sim (by decide +kernel : decode (cd 173) 136 = .ok (.iconst 0, 1)) rfl rfl
  · intro d a L M Q; exact q_goto (by decide +kernel : decode (cd 173) 137 = .ok (.goto 11, 3)) (by decide)
  · intro d x L M Q; exact Wp_sim (by decide +kernel : decode (cd 173) 140 = .ok (.aload_n 0, 1)) rfl rfl
  · intro d a L M Q; exact q_getR (p := 866) (by decide +kernel : decode (cd 173) 141 = .ok (.getfield 48, 3)) (by decide +kernel) (by decide +kernel)
  · intro d a v0 v1 v2 x L M Q; exact Wp_sim (by decide +kernel : decode (cd 173) 144 = .ok (.iload_n 3, 1)) rfl rfl
  · intro d a b L M Q; exact Wp_sim (by decide +kernel : decode (cd 173) 145 = .ok (.iconst 1, 1)) rfl rfl
  · intro d a b c L M Q; exact Wp_sim (by decide +kernel : decode (cd 173) 146 = .ok (.isub , 1)) rfl rfl
  · intro d a b L M Q; exact q_ald (by decide +kernel : decode (cd 173) 147 = .ok (.iaload , 1))
  · intro d a x L M Q; exact Wp_sim (by decide +kernel : decode (cd 173) 148 = .ok (.aload_n 0, 1)) rfl rfl
  · intro d a b v0 v1 v2 x L M Q; exact Wp_sim (by decide +kernel : decode (cd 173) 149 = .ok (.iload_n 3, 1)) rfl rfl
  · intro d a b c L M Q; exact q_zne (by decide +kernel : decode (cd 173) 150 = .ok (.ifCond .ne 7, 3)) (by decide)
  · intro d a b L M Q; exact Wp_sim (by decide +kernel : decode (cd 173) 153 = .ok (.iconst (-1), 1)) rfl rfl
  · intro d a b c L M Q; exact q_goto (by decide +kernel : decode (cd 173) 154 = .ok (.goto 11, 3)) (by decide)
  · intro d a b x L M Q; exact Wp_sim (by decide +kernel : decode (cd 173) 157 = .ok (.aload_n 0, 1)) rfl rfl
  · intro d a b c L M Q; exact q_getR (p := 865) (by decide +kernel : decode (cd 173) 158 = .ok (.getfield 45, 3)) (by decide +kernel) (by decide +kernel)
  · intro d a b c v0 v1 v2 x L M Q; exact Wp_sim (by decide +kernel : decode (cd 173) 161 = .ok (.iload_n 3, 1)) rfl rfl
  · intro d a b c d2 L M Q; exact Wp_sim (by decide +kernel : decode (cd 173) 162 = .ok (.iconst 1, 1)) rfl rfl
  · intro d a b c d2 e L M Q; exact Wp_sim (by decide +kernel : decode (cd 173) 163 = .ok (.isub , 1)) rfl rfl
  · intro d a b c d2 L M Q; exact q_ald (by decide +kernel : decode (cd 173) 164 = .ok (.iaload , 1))
  · intro d a b c v0 v1 v2 v3 x L M Q; exact Wp_sim (by decide +kernel : decode (cd 173) 165 = .ok (.iload 4, 2)) rfl rfl
  · intro d a b c d2 L M Q; exact q_invV (pz := 1195) (n := 2) (c := 12) (m := 3) (k := c) (As := [.int b, .int a]) (rest := [.int d2]) (by decide +kernel : decode (cd 173) 167 = .ok (.invokevirtual 277, 3)) (by decide +kernel) (by decide +kernel) rfl rfl (Nat.le_of_ble_eq_true rfl) (Nat.le_of_ble_eq_true rfl) rfl
  · intro d a b L M Q; exact Wp_sim (by decide +kernel : decode (cd 173) 170 = .ok (.iadd , 1)) rfl rfl
  · intro d a v0 v1 v2 v3 v4 x L M Q; exact Wp_sim (by decide +kernel : decode (cd 173) 171 = .ok (.istore 5, 2)) rfl rfl
  · intro d v0 v1 x L M Q; exact Wp_sim (by decide +kernel : decode (cd 173) 173 = .ok (.iload_n 2, 1)) rfl rfl
  · intro d a L M Q; exact Wp_sim (by decide +kernel : decode (cd 173) 174 = .ok (.iconst 1, 1)) rfl rfl
  · intro d a b v0 v1 v2 v3 x L M Q; exact Wp_sim (by decide +kernel : decode (cd 173) 175 = .ok (.iload 4, 2)) rfl rfl
  · intro d a b c L M Q; exact Wp_sim (by decide +kernel : decode (cd 173) 177 = .ok (.ishl , 1)) rfl rfl
  · intro d a b L M Q; exact Wp_sim (by decide +kernel : decode (cd 173) 178 = .ok (.ior , 1)) rfl rfl
  · intro d a v0 v1 x L M Q; exact Wp_sim (by decide +kernel : decode (cd 173) 179 = .ok (.istore_n 2, 1)) rfl rfl
  · intro d x L M Q; exact Wp_sim (by decide +kernel : decode (cd 173) 180 = .ok (.aload_n 0, 1)) rfl rfl
  · intro d a L M Q; exact q_getR (p := 866) (by decide +kernel : decode (cd 173) 181 = .ok (.getfield 48, 3)) (by decide +kernel) (by decide +kernel)
  · intro d a v0 v1 v2 x L M Q; exact Wp_sim (by decide +kernel : decode (cd 173) 184 = .ok (.iload_n 3, 1)) rfl rfl
  · intro d a b v0 v1 v2 v3 v4 x L M Q; exact Wp_sim (by decide +kernel : decode (cd 173) 185 = .ok (.iload 5, 2)) rfl rfl
  · intro d a b c L M Q; exact q_ast (by decide +kernel : decode (cd 173) 187 = .ok (.iastore , 1))
  · intro d x L M Q; exact Wp_sim (by decide +kernel : decode (cd 173) 188 = .ok (.aload_n 0, 1)) rfl rfl
  · intro d a L M Q; exact q_getR (p := 867) (by decide +kernel : decode (cd 173) 189 = .ok (.getfield 51, 3)) (by decide +kernel) (by decide +kernel)
set_option maxRecDepth 10000 in
theorem e173_2 : (∀ (d : Nat) (a : Nat) (v0 : Value) (v1 : Value) (v2 : Value) (x : Int32) (L : List Value) (M : Mem) (Q : Option Value → Mem → Prop), Wp d 173 192 (v0 :: v1 :: v2 :: .int x :: L) [.ref a] M Q ↔ Wp d 173 193 (v0 :: v1 :: v2 :: .int x :: L) [.int x, .ref a] M Q) ∧
    (∀ (d : Nat) (a : Int32) (b : Nat) (v0 : Value) (v1 : Value) (v2 : Value) (x : Int32) (L : List Value) (M : Mem) (Q : Option Value → Mem → Prop), Wp d 173 193 (v0 :: v1 :: v2 :: .int x :: L) [.int a, .ref b] M Q ↔ Wp d 173 194 (v0 :: v1 :: v2 :: .int x :: L) [.int x, .int a, .ref b] M Q) ∧
    (∀ (d : Nat) (a : Int32) (b : Int32) (c : Nat) (L : List Value) (M : Mem) (Q : Option Value → Mem → Prop), Wp d 173 194 L [.int a, .int b, .ref c] M Q ↔ (if a = 0 then Wp d 173 197 L [.int b, .ref c] M Q else Wp d 173 201 L [.int b, .ref c] M Q)) ∧
    (∀ (d : Nat) (a : Int32) (b : Nat) (L : List Value) (M : Mem) (Q : Option Value → Mem → Prop), Wp d 173 197 L [.int a, .ref b] M Q ↔ Wp d 173 198 L [.int 0, .int a, .ref b] M Q) ∧
    (∀ (d : Nat) (a : Int32) (b : Int32) (c : Nat) (L : List Value) (M : Mem) (Q : Option Value → Mem → Prop), Wp d 173 198 L [.int a, .int b, .ref c] M Q ↔ Wp d 173 209 L [.int a, .int b, .ref c] M Q) ∧
    (∀ (d : Nat) (a : Int32) (b : Nat) (x : Nat) (L : List Value) (M : Mem) (Q : Option Value → Mem → Prop), Wp d 173 201 (.ref x :: L) [.int a, .ref b] M Q ↔ Wp d 173 202 (.ref x :: L) [.ref x, .int a, .ref b] M Q) ∧
    (∀ (d : Nat) (a : Nat) (b : Int32) (c : Nat) (L : List Value) (M : Mem) (Q : Option Value → Mem → Prop), Wp d 173 202 L [.ref a, .int b, .ref c] M Q ↔ (isK a 12 = true ∧ Wp d 173 205 L [.ref (rt a 24), .int b, .ref c] M Q)) ∧
    (∀ (d : Nat) (a : Nat) (b : Int32) (c : Nat) (v0 : Value) (v1 : Value) (v2 : Value) (x : Int32) (L : List Value) (M : Mem) (Q : Option Value → Mem → Prop), Wp d 173 205 (v0 :: v1 :: v2 :: .int x :: L) [.ref a, .int b, .ref c] M Q ↔ Wp d 173 206 (v0 :: v1 :: v2 :: .int x :: L) [.int x, .ref a, .int b, .ref c] M Q) ∧
    (∀ (d : Nat) (a : Int32) (b : Nat) (c : Int32) (d2 : Nat) (L : List Value) (M : Mem) (Q : Option Value → Mem → Prop), Wp d 173 206 L [.int a, .ref b, .int c, .ref d2] M Q ↔ Wp d 173 207 L [.int 1, .int a, .ref b, .int c, .ref d2] M Q) ∧
    (∀ (d : Nat) (a : Int32) (b : Int32) (c : Nat) (d2 : Int32) (e : Nat) (L : List Value) (M : Mem) (Q : Option Value → Mem → Prop), Wp d 173 207 L [.int a, .int b, .ref c, .int d2, .ref e] M Q ↔ Wp d 173 208 L [.int (b - a), .ref c, .int d2, .ref e] M Q) ∧
    (∀ (d : Nat) (a : Int32) (b : Nat) (c : Int32) (d2 : Nat) (L : List Value) (M : Mem) (Q : Option Value → Mem → Prop), Wp d 173 208 L [.int a, .ref b, .int c, .ref d2] M Q ↔ ((isR b = true ∧ inr a (lnm M b)) ∧ Wp d 173 209 L [.int (M b a.toNatClampNeg), .int c, .ref d2] M Q)) ∧
    (∀ (d : Nat) (a : Int32) (b : Int32) (c : Nat) (x : Nat) (L : List Value) (M : Mem) (Q : Option Value → Mem → Prop), Wp d 173 209 (.ref x :: L) [.int a, .int b, .ref c] M Q ↔ Wp d 173 210 (.ref x :: L) [.ref x, .int a, .int b, .ref c] M Q) ∧
    (∀ (d : Nat) (a : Nat) (b : Int32) (c : Int32) (d2 : Nat) (L : List Value) (M : Mem) (Q : Option Value → Mem → Prop), Wp d 173 210 L [.ref a, .int b, .int c, .ref d2] M Q ↔ (isK a 12 = true ∧ Wp d 173 213 L [.ref (rt a 0), .int b, .int c, .ref d2] M Q)) ∧
    (∀ (d : Nat) (a : Nat) (b : Int32) (c : Int32) (d2 : Nat) (L : List Value) (M : Mem) (Q : Option Value → Mem → Prop), Wp d 173 213 L [.ref a, .int b, .int c, .ref d2] M Q ↔ Wp d 173 215 L [.int 44, .ref a, .int b, .int c, .ref d2] M Q) ∧
    (∀ (d : Nat) (a : Int32) (b : Nat) (c : Int32) (d2 : Int32) (e : Nat) (v0 : Value) (v1 : Value) (v2 : Value) (v3 : Value) (x : Int32) (L : List Value) (M : Mem) (Q : Option Value → Mem → Prop), Wp d 173 215 (v0 :: v1 :: v2 :: v3 :: .int x :: L) [.int a, .ref b, .int c, .int d2, .ref e] M Q ↔ Wp d 173 217 (v0 :: v1 :: v2 :: v3 :: .int x :: L) [.int x, .int a, .ref b, .int c, .int d2, .ref e] M Q) ∧
    (∀ (d : Nat) (a : Int32) (b : Int32) (c : Nat) (d2 : Int32) (e : Int32) (f : Nat) (L : List Value) (M : Mem) (Q : Option Value → Mem → Prop), Wp d 173 217 L [.int a, .int b, .ref c, .int d2, .int e, .ref f] M Q ↔ Wp d 173 218 L [.int (b + a), .ref c, .int d2, .int e, .ref f] M Q) ∧
    (∀ (d : Nat) (a : Int32) (b : Nat) (c : Int32) (d2 : Int32) (e : Nat) (L : List Value) (M : Mem) (Q : Option Value → Mem → Prop), Wp d 173 218 L [.int a, .ref b, .int c, .int d2, .ref e] M Q ↔ ((isR b = true ∧ inr a (lnm M b)) ∧ Wp d 173 219 L [.int (M b a.toNatClampNeg), .int c, .int d2, .ref e] M Q)) ∧
    (∀ (d : Nat) (a : Int32) (b : Int32) (c : Int32) (d2 : Nat) (L : List Value) (M : Mem) (Q : Option Value → Mem → Prop), Wp d 173 219 L [.int a, .int b, .int c, .ref d2] M Q ↔ Wp d 173 220 L [.int (b + a), .int c, .ref d2] M Q) ∧
    (∀ (d : Nat) (a : Int32) (b : Int32) (c : Nat) (L : List Value) (M : Mem) (Q : Option Value → Mem → Prop), Wp d 173 220 L [.int a, .int b, .ref c] M Q ↔ ((isK c 13 = true ∧ inr b (lnm M c)) ∧ Wp d 173 221 L [] (up2 M c b.toNatClampNeg a) Q)) ∧
    (∀ (d : Nat) (x : Nat) (L : List Value) (M : Mem) (Q : Option Value → Mem → Prop), Wp d 173 221 (.ref x :: L) [] M Q ↔ Wp d 173 222 (.ref x :: L) [.ref x] M Q) ∧
    (∀ (d : Nat) (a : Nat) (L : List Value) (M : Mem) (Q : Option Value → Mem → Prop), Wp d 173 222 L [.ref a] M Q ↔ (isK a 12 = true ∧ Wp d 173 225 L [.ref (rt a 25)] M Q)) ∧
    (∀ (d : Nat) (a : Nat) (v0 : Value) (v1 : Value) (v2 : Value) (x : Int32) (L : List Value) (M : Mem) (Q : Option Value → Mem → Prop), Wp d 173 225 (v0 :: v1 :: v2 :: .int x :: L) [.ref a] M Q ↔ Wp d 173 226 (v0 :: v1 :: v2 :: .int x :: L) [.int x, .ref a] M Q) ∧
    (∀ (d : Nat) (a : Int32) (b : Nat) (v0 : Value) (v1 : Value) (v2 : Value) (x : Int32) (L : List Value) (M : Mem) (Q : Option Value → Mem → Prop), Wp d 173 226 (v0 :: v1 :: v2 :: .int x :: L) [.int a, .ref b] M Q ↔ Wp d 173 227 (v0 :: v1 :: v2 :: .int x :: L) [.int x, .int a, .ref b] M Q) ∧
    (∀ (d : Nat) (a : Int32) (b : Int32) (c : Nat) (L : List Value) (M : Mem) (Q : Option Value → Mem → Prop), Wp d 173 227 L [.int a, .int b, .ref c] M Q ↔ (if a = 0 then Wp d 173 230 L [.int b, .ref c] M Q else Wp d 173 234 L [.int b, .ref c] M Q)) ∧
    (∀ (d : Nat) (a : Int32) (b : Nat) (L : List Value) (M : Mem) (Q : Option Value → Mem → Prop), Wp d 173 230 L [.int a, .ref b] M Q ↔ Wp d 173 231 L [.int 0, .int a, .ref b] M Q) ∧
    (∀ (d : Nat) (a : Int32) (b : Int32) (c : Nat) (L : List Value) (M : Mem) (Q : Option Value → Mem → Prop), Wp d 173 231 L [.int a, .int b, .ref c] M Q ↔ Wp d 173 245 L [.int a, .int b, .ref c] M Q) ∧
    (∀ (d : Nat) (a : Int32) (b : Nat) (L : List Value) (M : Mem) (Q : Option Value → Mem → Prop), Wp d 173 234 L [.int a, .ref b] M Q ↔ Wp d 173 236 L [.int 10, .int a, .ref b] M Q) ∧
    (∀ (d : Nat) (a : Int32) (b : Int32) (c : Nat) (x : Nat) (L : List Value) (M : Mem) (Q : Option Value → Mem → Prop), Wp d 173 236 (.ref x :: L) [.int a, .int b, .ref c] M Q ↔ Wp d 173 237 (.ref x :: L) [.ref x, .int a, .int b, .ref c] M Q) ∧
    (∀ (d : Nat) (a : Nat) (b : Int32) (c : Int32) (d2 : Nat) (L : List Value) (M : Mem) (Q : Option Value → Mem → Prop), Wp d 173 237 L [.ref a, .int b, .int c, .ref d2] M Q ↔ (isK a 12 = true ∧ Wp d 173 240 L [.ref (rt a 25), .int b, .int c, .ref d2] M Q)) ∧
    (∀ (d : Nat) (a : Nat) (b : Int32) (c : Int32) (d2 : Nat) (v0 : Value) (v1 : Value) (v2 : Value) (x : Int32) (L : List Value) (M : Mem) (Q : Option Value → Mem → Prop), Wp d 173 240 (v0 :: v1 :: v2 :: .int x :: L) [.ref a, .int b, .int c, .ref d2] M Q ↔ Wp d 173 241 (v0 :: v1 :: v2 :: .int x :: L) [.int x, .ref a, .int b, .int c, .ref d2] M Q) ∧
    (∀ (d : Nat) (a : Int32) (b : Nat) (c : Int32) (d2 : Int32) (e : Nat) (L : List Value) (M : Mem) (Q : Option Value → Mem → Prop), Wp d 173 241 L [.int a, .ref b, .int c, .int d2, .ref e] M Q ↔ Wp d 173 242 L [.int 1, .int a, .ref b, .int c, .int d2, .ref e] M Q) ∧
    (∀ (d : Nat) (a : Int32) (b : Int32) (c : Nat) (d2 : Int32) (e : Int32) (f : Nat) (L : List Value) (M : Mem) (Q : Option Value → Mem → Prop), Wp d 173 242 L [.int a, .int b, .ref c, .int d2, .int e, .ref f] M Q ↔ Wp d 173 243 L [.int (b - a), .ref c, .int d2, .int e, .ref f] M Q) ∧
    (∀ (d : Nat) (a : Int32) (b : Nat) (c : Int32) (d2 : Int32) (e : Nat) (L : List Value) (M : Mem) (Q : Option Value → Mem → Prop), Wp d 173 243 L [.int a, .ref b, .int c, .int d2, .ref e] M Q ↔ ((isR b = true ∧ inr a (lnm M b)) ∧ Wp d 173 244 L [.int (M b a.toNatClampNeg), .int c, .int d2, .ref e] M Q)) ∧
    (∀ (d : Nat) (a : Int32) (b : Int32) (c : Int32) (d2 : Nat) (L : List Value) (M : Mem) (Q : Option Value → Mem → Prop), Wp d 173 244 L [.int a, .int b, .int c, .ref d2] M Q ↔ Wp d 173 245 L [.int (b * a), .int c, .ref d2] M Q) ∧
    (∀ (d : Nat) (a : Int32) (b : Int32) (c : Nat) (v0 : Value) (v1 : Value) (v2 : Value) (v3 : Value) (x : Int32) (L : List Value) (M : Mem) (Q : Option Value → Mem → Prop), Wp d 173 245 (v0 :: v1 :: v2 :: v3 :: .int x :: L) [.int a, .int b, .ref c] M Q ↔ Wp d 173 247 (v0 :: v1 :: v2 :: v3 :: .int x :: L) [.int x, .int a, .int b, .ref c] M Q) ∧
    (∀ (d : Nat) (a : Int32) (b : Int32) (c : Int32) (d2 : Nat) (L : List Value) (M : Mem) (Q : Option Value → Mem → Prop), Wp d 173 247 L [.int a, .int b, .int c, .ref d2] M Q ↔ Wp d 173 248 L [.int (b + a), .int c, .ref d2] M Q) ∧
    (∀ (d : Nat) (a : Int32) (b : Int32) (c : Nat) (L : List Value) (M : Mem) (Q : Option Value → Mem → Prop), Wp d 173 248 L [.int a, .int b, .ref c] M Q ↔ Wp d 173 249 L [.int 1, .int a, .int b, .ref c] M Q) ∧
    (∀ (d : Nat) (a : Int32) (b : Int32) (c : Int32) (d2 : Nat) (L : List Value) (M : Mem) (Q : Option Value → Mem → Prop), Wp d 173 249 L [.int a, .int b, .int c, .ref d2] M Q ↔ Wp d 173 250 L [.int (b + a), .int c, .ref d2] M Q) ∧
    (∀ (d : Nat) (a : Int32) (b : Int32) (c : Nat) (L : List Value) (M : Mem) (Q : Option Value → Mem → Prop), Wp d 173 250 L [.int a, .int b, .ref c] M Q ↔ ((isK c 13 = true ∧ inr b (lnm M c)) ∧ Wp d 173 251 L [] (up2 M c b.toNatClampNeg a) Q)) ∧
    (∀ (d : Nat) (v0 : Value) (v1 : Value) (v2 : Value) (v3 : Value) (v4 : Value) (x : Int32) (L : List Value) (M : Mem) (Q : Option Value → Mem → Prop), Wp d 173 251 (v0 :: v1 :: v2 :: v3 :: v4 :: .int x :: L) [] M Q ↔ Wp d 173 253 (v0 :: v1 :: v2 :: v3 :: v4 :: .int x :: L) [.int x] M Q) ∧
    (∀ (d : Nat) (a : Int32) (x : Nat) (L : List Value) (M : Mem) (Q : Option Value → Mem → Prop), Wp d 173 253 (.ref x :: L) [.int a] M Q ↔ Wp d 173 254 (.ref x :: L) [.ref x, .int a] M Q) ∧
    (∀ (d : Nat) (a : Nat) (b : Int32) (v0 : Value) (v1 : Value) (v2 : Value) (v3 : Value) (x : Int32) (L : List Value) (M : Mem) (Q : Option Value → Mem → Prop), Wp d 173 254 (v0 :: v1 :: v2 :: v3 :: .int x :: L) [.ref a, .int b] M Q ↔ Wp d 173 256 (v0 :: v1 :: v2 :: v3 :: .int x :: L) [.int x, .ref a, .int b] M Q) ∧
    (∀ (d : Nat) (a : Int32) (b : Nat) (c : Int32) (L : List Value) (M : Mem) (Q : Option Value → Mem → Prop), Wp d 173 256 L [.int a, .ref b, .int c] M Q ↔ Wp d 173 257 L [.int (-1), .int a, .ref b, .int c] M Q) ∧
    (∀ (d : Nat) (a : Int32) (b : Int32) (c : Nat) (d2 : Int32) (L : List Value) (M : Mem) (Q : Option Value → Mem → Prop), Wp (d + 1) 173 257 L [.int a, .int b, .ref c, .int d2] M Q ↔ (isK c 12 = true ∧ Wp d 174 0 [.ref c, .int b, .int a] [] M (fun r M2 => Wp (d + 1) 173 260 L (r.toList ++ [.int d2]) M2 Q))) ∧
    (∀ (d : Nat) (a : Int32) (b : Int32) (L : List Value) (M : Mem) (Q : Option Value → Mem → Prop), Wp d 173 260 L [.int a, .int b] M Q ↔ Wp d 173 261 L [.int (b + a)] M Q) ∧
    (∀ (d : Nat) (a : Int32) (v0 : Value) (x : Int32) (L : List Value) (M : Mem) (Q : Option Value → Mem → Prop), Wp d 173 261 (v0 :: .int x :: L) [.int a] M Q ↔ Wp d 173 262 (v0 :: .int x :: L) [.int x, .int a] M Q) ∧
    (∀ (d : Nat) (a : Int32) (b : Int32) (L : List Value) (M : Mem) (Q : Option Value → Mem → Prop), Wp d 173 262 L [.int a, .int b] M Q ↔ (if a < b then Wp d 173 291 L [] M Q else Wp d 173 265 L [] M Q)) ∧
    (∀ (d : Nat) (x : Nat) (L : List Value) (M : Mem) (Q : Option Value → Mem → Prop), Wp d 173 265 (.ref x :: L) [] M Q ↔ Wp d 173 266 (.ref x :: L) [.ref x] M Q) ∧
    (∀ (d : Nat) (a : Nat) (x : Nat) (L : List Value) (M : Mem) (Q : Option Value → Mem → Prop), Wp d 173 266 (.ref x :: L) [.ref a] M Q ↔ Wp d 173 267 (.ref x :: L) [.ref x, .ref a] M Q) ∧
    (∀ (d : Nat) (a : Nat) (b : Nat) (L : List Value) (M : Mem) (Q : Option Value → Mem → Prop), Wp d 173 267 L [.ref a, .ref b] M Q ↔ (isK a 12 = true ∧ Wp d 173 270 L [.ref (rt a 24), .ref b] M Q)) ∧
    (∀ (d : Nat) (a : Nat) (b : Nat) (v0 : Value) (v1 : Value) (v2 : Value) (x : Int32) (L : List Value) (M : Mem) (Q : Option Value → Mem → Prop), Wp d 173 270 (v0 :: v1 :: v2 :: .int x :: L) [.ref a, .ref b] M Q ↔ Wp d 173 271 (v0 :: v1 :: v2 :: .int x :: L) [.int x, .ref a, .ref b] M Q) ∧
    (∀ (d : Nat) (a : Int32) (b : Nat) (c : Nat) (L : List Value) (M : Mem) (Q : Option Value → Mem → Prop), Wp d 173 271 L [.int a, .ref b, .ref c] M Q ↔ ((isR b = true ∧ inr a (lnm M b)) ∧ Wp d 173 272 L [.int (M b a.toNatClampNeg), .ref c] M Q)) ∧
    (∀ (d : Nat) (a : Int32) (b : Nat) (v0 : Value) (v1 : Value) (v2 : Value) (v3 : Value) (v4 : Value) (x : Int32) (L : List Value) (M : Mem) (Q : Option Value → Mem → Prop), Wp d 173 272 (v0 :: v1 :: v2 :: v3 :: v4 :: .int x :: L) [.int a, .ref b] M Q ↔ Wp d 173 274 (v0 :: v1 :: v2 :: v3 :: v4 :: .int x :: L) [.int x, .int a, .ref b] M Q) ∧
    (∀ (d : Nat) (a : Int32) (b : Int32) (c : Nat) (x : Nat) (L : List Value) (M : Mem) (Q : Option Value → Mem → Prop), Wp d 173 274 (.ref x :: L) [.int a, .int b, .ref c] M Q ↔ Wp d 173 275 (.ref x :: L) [.ref x, .int a, .int b, .ref c] M Q) ∧
    (∀ (d : Nat) (a : Nat) (b : Int32) (c : Int32) (d2 : Nat) (v0 : Value) (v1 : Value) (v2 : Value) (v3 : Value) (x : Int32) (L : List Value) (M : Mem) (Q : Option Value → Mem → Prop), Wp d 173 275 (v0 :: v1 :: v2 :: v3 :: .int x :: L) [.ref a, .int b, .int c, .ref d2] M Q ↔ Wp d 173 277 (v0 :: v1 :: v2 :: v3 :: .int x :: L) [.int x, .ref a, .int b, .int c, .ref d2] M Q) ∧
    (∀ (d : Nat) (a : Int32) (b : Nat) (c : Int32) (d2 : Int32) (e : Nat) (L : List Value) (M : Mem) (Q : Option Value → Mem → Prop), Wp d 173 277 L [.int a, .ref b, .int c, .int d2, .ref e] M Q ↔ Wp d 173 278 L [.int (-1), .int a, .ref b, .int c, .int d2, .ref e] M Q) ∧
    (∀ (d : Nat) (a : Int32) (b : Int32) (c : Nat) (d2 : Int32) (e : Int32) (f : Nat) (L : List Value) (M : Mem) (Q : Option Value → Mem → Prop), Wp (d + 1) 173 278 L [.int a, .int b, .ref c, .int d2, .int e, .ref f] M Q ↔ (isK c 12 = true ∧ Wp d 174 0 [.ref c, .int b, .int a] [] M (fun r M2 => Wp (d + 1) 173 281 L (r.toList ++ [.int d2, .int e, .ref f]) M2 Q))) ∧
    (∀ (d : Nat) (a : Int32) (b : Int32) (c : Int32) (d2 : Nat) (L : List Value) (M : Mem) (Q : Option Value → Mem → Prop), Wp d 173 281 L [.int a, .int b, .int c, .ref d2] M Q ↔ Wp d 173 282 L [.int (b + a), .int c, .ref d2] M Q) ∧
    (∀ (d : Nat) (a : Int32) (b : Int32) (c : Nat) (x : Nat) (L : List Value) (M : Mem) (Q : Option Value → Mem → Prop), Wp d 173 282 (.ref x :: L) [.int a, .int b, .ref c] M Q ↔ Wp d 173 283 (.ref x :: L) [.ref x, .int a, .int b, .ref c] M Q) ∧
    (∀ (d : Nat) (a : Nat) (b : Int32) (c : Int32) (d2 : Nat) (L : List Value) (M : Mem) (Q : Option Value → Mem → Prop), Wp d 173 283 L [.ref a, .int b, .int c, .ref d2] M Q ↔ (isK a 12 = true ∧ Wp d 173 286 L [.ref (rt a 25), .int b, .int c, .ref d2] M Q)) := by
  refine ⟨?_, ?_, ?_, ?_, ?_, ?_, ?_, ?_, ?_, ?_, ?_, ?_, ?_, ?_, ?_, ?_, ?_, ?_, ?_, ?_, ?_, ?_, ?_, ?_, ?_, ?_, ?_, ?_, ?_, ?_, ?_, ?_, ?_, ?_, ?_, ?_, ?_, ?_, ?_, ?_, ?_, ?_, ?_, ?_, ?_, ?_, ?_, ?_, ?_, ?_, ?_, ?_, ?_, ?_, ?_, ?_, ?_, ?_, ?_, ?_⟩
  · intro d a v0 v1 v2 x L M Q; exact Wp_sim (by decide +kernel : decode (cd 173) 192 = .ok (.iload_n 3, 1)) rfl rfl
  · intro d a b v0 v1 v2 x L M Q; exact Wp_sim (by decide +kernel : decode (cd 173) 193 = .ok (.iload_n 3, 1)) rfl rfl
  · intro d a b c L M Q; exact q_zne (by decide +kernel : decode (cd 173) 194 = .ok (.ifCond .ne 7, 3)) (by decide)
  · intro d a b L M Q; exact Wp_sim (by decide +kernel : decode (cd 173) 197 = .ok (.iconst 0, 1)) rfl rfl
  · intro d a b c L M Q; exact q_goto (by decide +kernel : decode (cd 173) 198 = .ok (.goto 11, 3)) (by decide)
  · intro d a b x L M Q; exact Wp_sim (by decide +kernel : decode (cd 173) 201 = .ok (.aload_n 0, 1)) rfl rfl
  · intro d a b c L M Q; exact q_getR (p := 867) (by decide +kernel : decode (cd 173) 202 = .ok (.getfield 51, 3)) (by decide +kernel) (by decide +kernel)
  · intro d a b c v0 v1 v2 x L M Q; exact Wp_sim (by decide +kernel : decode (cd 173) 205 = .ok (.iload_n 3, 1)) rfl rfl
  · intro d a b c d2 L M Q; exact Wp_sim (by decide +kernel : decode (cd 173) 206 = .ok (.iconst 1, 1)) rfl rfl
  · intro d a b c d2 e L M Q; exact Wp_sim (by decide +kernel : decode (cd 173) 207 = .ok (.isub , 1)) rfl rfl
  · intro d a b c d2 L M Q; exact q_ald (by decide +kernel : decode (cd 173) 208 = .ok (.iaload , 1))
  · intro d a b c x L M Q; exact Wp_sim (by decide +kernel : decode (cd 173) 209 = .ok (.aload_n 0, 1)) rfl rfl
  · intro d a b c d2 L M Q; exact q_getR (p := 843) (by decide +kernel : decode (cd 173) 210 = .ok (.getfield 7, 3)) (by decide +kernel) (by decide +kernel)
  · intro d a b c d2 L M Q; exact Wp_sim (by decide +kernel : decode (cd 173) 213 = .ok (.bipush 44, 2)) rfl rfl
  · intro d a b c d2 e v0 v1 v2 v3 x L M Q; exact Wp_sim (by decide +kernel : decode (cd 173) 215 = .ok (.iload 4, 2)) rfl rfl
  · intro d a b c d2 e f L M Q; exact Wp_sim (by decide +kernel : decode (cd 173) 217 = .ok (.iadd , 1)) rfl rfl
  · intro d a b c d2 e L M Q; exact q_ald (by decide +kernel : decode (cd 173) 218 = .ok (.iaload , 1))
  · intro d a b c d2 L M Q; exact Wp_sim (by decide +kernel : decode (cd 173) 219 = .ok (.iadd , 1)) rfl rfl
  · intro d a b c L M Q; exact q_ast (by decide +kernel : decode (cd 173) 220 = .ok (.iastore , 1))
  · intro d x L M Q; exact Wp_sim (by decide +kernel : decode (cd 173) 221 = .ok (.aload_n 0, 1)) rfl rfl
  · intro d a L M Q; exact q_getR (p := 868) (by decide +kernel : decode (cd 173) 222 = .ok (.getfield 54, 3)) (by decide +kernel) (by decide +kernel)
  · intro d a v0 v1 v2 x L M Q; exact Wp_sim (by decide +kernel : decode (cd 173) 225 = .ok (.iload_n 3, 1)) rfl rfl
  · intro d a b v0 v1 v2 x L M Q; exact Wp_sim (by decide +kernel : decode (cd 173) 226 = .ok (.iload_n 3, 1)) rfl rfl
  · intro d a b c L M Q; exact q_zne (by decide +kernel : decode (cd 173) 227 = .ok (.ifCond .ne 7, 3)) (by decide)
  · intro d a b L M Q; exact Wp_sim (by decide +kernel : decode (cd 173) 230 = .ok (.iconst 0, 1)) rfl rfl
  · intro d a b c L M Q; exact q_goto (by decide +kernel : decode (cd 173) 231 = .ok (.goto 14, 3)) (by decide)
  · intro d a b L M Q; exact Wp_sim (by decide +kernel : decode (cd 173) 234 = .ok (.bipush 10, 2)) rfl rfl
  · intro d a b c x L M Q; exact Wp_sim (by decide +kernel : decode (cd 173) 236 = .ok (.aload_n 0, 1)) rfl rfl
  · intro d a b c d2 L M Q; exact q_getR (p := 868) (by decide +kernel : decode (cd 173) 237 = .ok (.getfield 54, 3)) (by decide +kernel) (by decide +kernel)
  · intro d a b c d2 v0 v1 v2 x L M Q; exact Wp_sim (by decide +kernel : decode (cd 173) 240 = .ok (.iload_n 3, 1)) rfl rfl
  · intro d a b c d2 e L M Q; exact Wp_sim (by decide +kernel : decode (cd 173) 241 = .ok (.iconst 1, 1)) rfl rfl
  · intro d a b c d2 e f L M Q; exact Wp_sim (by decide +kernel : decode (cd 173) 242 = .ok (.isub , 1)) rfl rfl
  · intro d a b c d2 e L M Q; exact q_ald (by decide +kernel : decode (cd 173) 243 = .ok (.iaload , 1))
  · intro d a b c d2 L M Q; exact Wp_sim (by decide +kernel : decode (cd 173) 244 = .ok (.imul , 1)) rfl rfl
  · intro d a b c v0 v1 v2 v3 x L M Q; exact Wp_sim (by decide +kernel : decode (cd 173) 245 = .ok (.iload 4, 2)) rfl rfl
  · intro d a b c d2 L M Q; exact Wp_sim (by decide +kernel : decode (cd 173) 247 = .ok (.iadd , 1)) rfl rfl
  · intro d a b c L M Q; exact Wp_sim (by decide +kernel : decode (cd 173) 248 = .ok (.iconst 1, 1)) rfl rfl
  · intro d a b c d2 L M Q; exact Wp_sim (by decide +kernel : decode (cd 173) 249 = .ok (.iadd , 1)) rfl rfl
  · intro d a b c L M Q; exact q_ast (by decide +kernel : decode (cd 173) 250 = .ok (.iastore , 1))
  · intro d v0 v1 v2 v3 v4 x L M Q; exact Wp_sim (by decide +kernel : decode (cd 173) 251 = .ok (.iload 5, 2)) rfl rfl
  · intro d a x L M Q; exact Wp_sim (by decide +kernel : decode (cd 173) 253 = .ok (.aload_n 0, 1)) rfl rfl
  · intro d a b v0 v1 v2 v3 x L M Q; exact Wp_sim (by decide +kernel : decode (cd 173) 254 = .ok (.iload 4, 2)) rfl rfl
  · intro d a b c L M Q; exact Wp_sim (by decide +kernel : decode (cd 173) 256 = .ok (.iconst (-1), 1)) rfl rfl
  · intro d a b c d2 L M Q; exact q_invV (pz := 1195) (n := 2) (c := 12) (m := 3) (k := c) (As := [.int b, .int a]) (rest := [.int d2]) (by decide +kernel : decode (cd 173) 257 = .ok (.invokevirtual 277, 3)) (by decide +kernel) (by decide +kernel) rfl rfl (Nat.le_of_ble_eq_true rfl) (Nat.le_of_ble_eq_true rfl) rfl
  · intro d a b L M Q; exact Wp_sim (by decide +kernel : decode (cd 173) 260 = .ok (.iadd , 1)) rfl rfl
  · intro d a v0 x L M Q; exact Wp_sim (by decide +kernel : decode (cd 173) 261 = .ok (.iload_n 1, 1)) rfl rfl
  · intro d a b L M Q; exact q_igt (by decide +kernel : decode (cd 173) 262 = .ok (.if_icmp .gt 29, 3)) (by decide)
  · intro d x L M Q; exact Wp_sim (by decide +kernel : decode (cd 173) 265 = .ok (.aload_n 0, 1)) rfl rfl
  · intro d a x L M Q; exact Wp_sim (by decide +kernel : decode (cd 173) 266 = .ok (.aload_n 0, 1)) rfl rfl
  · intro d a b L M Q; exact q_getR (p := 867) (by decide +kernel : decode (cd 173) 267 = .ok (.getfield 51, 3)) (by decide +kernel) (by decide +kernel)
  · intro d a b v0 v1 v2 x L M Q; exact Wp_sim (by decide +kernel : decode (cd 173) 270 = .ok (.iload_n 3, 1)) rfl rfl
  · intro d a b c L M Q; exact q_ald (by decide +kernel : decode (cd 173) 271 = .ok (.iaload , 1))
  · intro d a b v0 v1 v2 v3 v4 x L M Q; exact Wp_sim (by decide +kernel : decode (cd 173) 272 = .ok (.iload 5, 2)) rfl rfl
  · intro d a b c x L M Q; exact Wp_sim (by decide +kernel : decode (cd 173) 274 = .ok (.aload_n 0, 1)) rfl rfl
  · intro d a b c d2 v0 v1 v2 v3 x L M Q; exact Wp_sim (by decide +kernel : decode (cd 173) 275 = .ok (.iload 4, 2)) rfl rfl
  · intro d a b c d2 e L M Q; exact Wp_sim (by decide +kernel : decode (cd 173) 277 = .ok (.iconst (-1), 1)) rfl rfl
  · intro d a b c d2 e f L M Q; exact q_invV (pz := 1195) (n := 2) (c := 12) (m := 3) (k := c) (As := [.int b, .int a]) (rest := [.int d2, .int e, .ref f]) (by decide +kernel : decode (cd 173) 278 = .ok (.invokevirtual 277, 3)) (by decide +kernel) (by decide +kernel) rfl rfl (Nat.le_of_ble_eq_true rfl) (Nat.le_of_ble_eq_true rfl) rfl
  · intro d a b c d2 L M Q; exact Wp_sim (by decide +kernel : decode (cd 173) 281 = .ok (.iadd , 1)) rfl rfl
  · intro d a b c x L M Q; exact Wp_sim (by decide +kernel : decode (cd 173) 282 = .ok (.aload_n 0, 1)) rfl rfl
  · intro d a b c d2 L M Q; exact q_getR (p := 868) (by decide +kernel : decode (cd 173) 283 = .ok (.getfield 54, 3)) (by decide +kernel) (by decide +kernel)
set_option maxRecDepth 10000 in
theorem e173_3 : (∀ (d : Nat) (a : Nat) (b : Int32) (c : Int32) (d2 : Nat) (v0 : Value) (v1 : Value) (v2 : Value) (x : Int32) (L : List Value) (M : Mem) (Q : Option Value → Mem → Prop), Wp d 173 286 (v0 :: v1 :: v2 :: .int x :: L) [.ref a, .int b, .int c, .ref d2] M Q ↔ Wp d 173 287 (v0 :: v1 :: v2 :: .int x :: L) [.int x, .ref a, .int b, .int c, .ref d2] M Q) ∧
    (∀ (d : Nat) (a : Int32) (b : Nat) (c : Int32) (d2 : Int32) (e : Nat) (L : List Value) (M : Mem) (Q : Option Value → Mem → Prop), Wp d 173 287 L [.int a, .ref b, .int c, .int d2, .ref e] M Q ↔ ((isR b = true ∧ inr a (lnm M b)) ∧ Wp d 173 288 L [.int (M b a.toNatClampNeg), .int c, .int d2, .ref e] M Q)) ∧
    (∀ (d : Nat) (a : Int32) (b : Int32) (c : Int32) (d2 : Nat) (L : List Value) (M : Mem) (Q : Option Value → Mem → Prop), Wp (d + 1) 173 288 L [.int a, .int b, .int c, .ref d2] M Q ↔ (isK d2 12 = true ∧ Wp d 178 0 [.ref d2, .int c, .int b, .int a, .null] [] M (fun r M2 => Wp (d + 1) 173 291 L (r.toList ++ []) M2 Q))) ∧
    (∀ (d : Nat) (v0 : Value) (v1 : Value) (v2 : Value) (x : Int32) (L : List Value) (M : Mem) (Q : Option Value → Mem → Prop), Wp d 173 291 (v0 :: v1 :: v2 :: .int x :: L) [] M Q ↔ Wp d 173 294 (v0 :: v1 :: clr v2 :: .int (x + 1) :: L) [] M Q) ∧
    (∀ (d : Nat) (x : Nat) (L : List Value) (M : Mem) (Q : Option Value → Mem → Prop), Wp d 173 294 (.ref x :: L) [] M Q ↔ Wp d 173 295 (.ref x :: L) [.ref x] M Q) ∧
    (∀ (d : Nat) (a : Nat) (L : List Value) (M : Mem) (Q : Option Value → Mem → Prop), Wp d 173 295 L [.ref a] M Q ↔ (isK a 12 = true ∧ Wp d 173 298 L [.ref (rt a 22)] M Q)) ∧
    (∀ (d : Nat) (a : Nat) (v0 : Value) (v1 : Value) (v2 : Value) (x : Int32) (L : List Value) (M : Mem) (Q : Option Value → Mem → Prop), Wp d 173 298 (v0 :: v1 :: v2 :: .int x :: L) [.ref a] M Q ↔ Wp d 173 299 (v0 :: v1 :: v2 :: .int x :: L) [.int x, .ref a] M Q) ∧
    (∀ (d : Nat) (a : Int32) (b : Nat) (L : List Value) (M : Mem) (Q : Option Value → Mem → Prop), Wp d 173 299 L [.int a, .ref b] M Q ↔ Wp d 173 300 L [.int (-1), .int a, .ref b] M Q) ∧
    (∀ (d : Nat) (a : Int32) (b : Int32) (c : Nat) (L : List Value) (M : Mem) (Q : Option Value → Mem → Prop), Wp d 173 300 L [.int a, .int b, .ref c] M Q ↔ ((isK c 13 = true ∧ inr b (lnm M c)) ∧ Wp d 173 301 L [] (up2 M c b.toNatClampNeg a) Q)) ∧
    (∀ (d : Nat) (L : List Value) (M : Mem) (Q : Option Value → Mem → Prop), Wp d 173 301 L [] M Q ↔ Wp d 173 26 L [] M Q) ∧
    (∀ (d : Nat) (L : List Value) (M : Mem) (Q : Option Value → Mem → Prop), Wp d 173 304 L [] M Q ↔ Q none M) := by
  refine ⟨?_, ?_, ?_, ?_, ?_, ?_, ?_, ?_, ?_, ?_, ?_⟩
  · intro d a b c d2 v0 v1 v2 x L M Q; exact Wp_sim (by decide +kernel : decode (cd 173) 286 = .ok (.iload_n 3, 1)) rfl rfl
  · intro d a b c d2 e L M Q; exact q_ald (by decide +kernel : decode (cd 173) 287 = .ok (.iaload , 1))
  · intro d a b c d2 L M Q; exact q_invV (pz := 1210) (n := 3) (c := 12) (m := 5) (k := d2) (As := [.int c, .int b, .int a]) (rest := []) (by decide +kernel : decode (cd 173) 288 = .ok (.invokevirtual 280, 3)) (by decide +kernel) (by decide +kernel) rfl rfl (Nat.le_of_ble_eq_true rfl) (Nat.le_of_ble_eq_true rfl) rfl
  · intro d v0 v1 v2 x L M Q; exact Wp_sim (by decide +kernel : decode (cd 173) 291 = .ok (.iinc 3 1, 3)) rfl rfl
  · intro d x L M Q; exact Wp_sim (by decide +kernel : decode (cd 173) 294 = .ok (.aload_n 0, 1)) rfl rfl
  · intro d a L M Q; exact q_getR (p := 865) (by decide +kernel : decode (cd 173) 295 = .ok (.getfield 45, 3)) (by decide +kernel) (by decide +kernel)
  · intro d a v0 v1 v2 x L M Q; exact Wp_sim (by decide +kernel : decode (cd 173) 298 = .ok (.iload_n 3, 1)) rfl rfl
  · intro d a b L M Q; exact Wp_sim (by decide +kernel : decode (cd 173) 299 = .ok (.iconst (-1), 1)) rfl rfl
  · intro d a b c L M Q; exact q_ast (by decide +kernel : decode (cd 173) 300 = .ok (.iastore , 1))
  · intro d L M Q; exact q_goto (by decide +kernel : decode (cd 173) 301 = .ok (.goto (-275), 3)) (by decide)
  · intro d L M Q; exact q_vret (by decide +kernel : decode (cd 173) 304 = .ok (.return_ , 1)) (by decide +kernel)
theorem h173_26 : (∀ (d : Nat) (v0 : Value) (v1 : Value) (v2 : Value) (x : Int32) (L : List Value) (M : Mem) (Q : Option Value → Mem → Prop), Wp d 173 26 (v0 :: v1 :: v2 :: .int x :: L) [] M Q ↔ Wp d 173 27 (v0 :: v1 :: v2 :: .int x :: L) [.int x] M Q) := by
  intro d v0 v1 v2 x L M Q; exact Wp_sim (by decide +kernel : decode (cd 173) 26 = .ok (.iload_n 3, 1)) rfl rfl
theorem h173_66 : (∀ (d : Nat) (x : Nat) (L : List Value) (M : Mem) (Q : Option Value → Mem → Prop), Wp d 173 66 (.ref x :: L) [] M Q ↔ Wp d 173 67 (.ref x :: L) [.ref x] M Q) := by
  intro d x L M Q; exact Wp_sim (by decide +kernel : decode (cd 173) 66 = .ok (.aload_n 0, 1)) rfl rfl

/- 174: PalaceYardModel.stepsTo -/
set_option maxRecDepth 10000 in
theorem e174 : (∀ (d : Nat) (x : Nat) (L : List Value) (M : Mem) (Q : Option Value → Mem → Prop), Wp d 174 0 (.ref x :: L) [] M Q ↔ Wp d 174 1 (.ref x :: L) [.ref x] M Q) ∧
    (∀ (d : Nat) (a : Nat) (v0 : Value) (x : Int32) (L : List Value) (M : Mem) (Q : Option Value → Mem → Prop), Wp d 174 1 (v0 :: .int x :: L) [.ref a] M Q ↔ Wp d 174 2 (v0 :: .int x :: L) [.int x, .ref a] M Q) ∧
    (∀ (d : Nat) (a : Int32) (b : Nat) (L : List Value) (M : Mem) (Q : Option Value → Mem → Prop), Wp (d + 1) 174 2 L [.int a, .ref b] M Q ↔ (isK b 12 = true ∧ Wp d 175 0 [.ref b, .int a] [] M (fun r M2 => Wp (d + 1) 174 5 L (r.toList ++ []) M2 Q))) ∧
    (∀ (d : Nat) (a : Int32) (x : Nat) (L : List Value) (M : Mem) (Q : Option Value → Mem → Prop), Wp d 174 5 (.ref x :: L) [.int a] M Q ↔ Wp d 174 6 (.ref x :: L) [.ref x, .int a] M Q) ∧
    (∀ (d : Nat) (a : Nat) (b : Int32) (v0 : Value) (v1 : Value) (x : Int32) (L : List Value) (M : Mem) (Q : Option Value → Mem → Prop), Wp d 174 6 (v0 :: v1 :: .int x :: L) [.ref a, .int b] M Q ↔ Wp d 174 7 (v0 :: v1 :: .int x :: L) [.int x, .ref a, .int b] M Q) ∧
    (∀ (d : Nat) (a : Int32) (b : Nat) (c : Int32) (L : List Value) (M : Mem) (Q : Option Value → Mem → Prop), Wp (d + 1) 174 7 L [.int a, .ref b, .int c] M Q ↔ (isK b 12 = true ∧ Wp d 175 0 [.ref b, .int a] [] M (fun r M2 => Wp (d + 1) 174 10 L (r.toList ++ [.int c]) M2 Q))) ∧
    (∀ (d : Nat) (a : Int32) (b : Int32) (L : List Value) (M : Mem) (Q : Option Value → Mem → Prop), Wp d 174 10 L [.int a, .int b] M Q ↔ Wp d 174 11 L [.int (b - a)] M Q) ∧
    (∀ (d : Nat) (a : Int32) (L : List Value) (M : Mem) (Q : Option Value → Mem → Prop), Wp (d + 1) 174 11 L [.int a] M Q ↔ Wp d 176 0 [.int a] [] M (fun r M2 => Wp (d + 1) 174 14 L (r.toList ++ []) M2 Q)) ∧
    (∀ (d : Nat) (a : Int32) (x : Nat) (L : List Value) (M : Mem) (Q : Option Value → Mem → Prop), Wp d 174 14 (.ref x :: L) [.int a] M Q ↔ Wp d 174 15 (.ref x :: L) [.ref x, .int a] M Q) ∧
    (∀ (d : Nat) (a : Nat) (b : Int32) (v0 : Value) (x : Int32) (L : List Value) (M : Mem) (Q : Option Value → Mem → Prop), Wp d 174 15 (v0 :: .int x :: L) [.ref a, .int b] M Q ↔ Wp d 174 16 (v0 :: .int x :: L) [.int x, .ref a, .int b] M Q) ∧
    (∀ (d : Nat) (a : Int32) (b : Nat) (c : Int32) (L : List Value) (M : Mem) (Q : Option Value → Mem → Prop), Wp (d + 1) 174 16 L [.int a, .ref b, .int c] M Q ↔ (isK b 12 = true ∧ Wp d 177 0 [.ref b, .int a] [] M (fun r M2 => Wp (d + 1) 174 19 L (r.toList ++ [.int c]) M2 Q))) ∧
    (∀ (d : Nat) (a : Int32) (b : Int32) (x : Nat) (L : List Value) (M : Mem) (Q : Option Value → Mem → Prop), Wp d 174 19 (.ref x :: L) [.int a, .int b] M Q ↔ Wp d 174 20 (.ref x :: L) [.ref x, .int a, .int b] M Q) ∧
    (∀ (d : Nat) (a : Nat) (b : Int32) (c : Int32) (v0 : Value) (v1 : Value) (x : Int32) (L : List Value) (M : Mem) (Q : Option Value → Mem → Prop), Wp d 174 20 (v0 :: v1 :: .int x :: L) [.ref a, .int b, .int c] M Q ↔ Wp d 174 21 (v0 :: v1 :: .int x :: L) [.int x, .ref a, .int b, .int c] M Q) ∧
    (∀ (d : Nat) (a : Int32) (b : Nat) (c : Int32) (d2 : Int32) (L : List Value) (M : Mem) (Q : Option Value → Mem → Prop), Wp (d + 1) 174 21 L [.int a, .ref b, .int c, .int d2] M Q ↔ (isK b 12 = true ∧ Wp d 177 0 [.ref b, .int a] [] M (fun r M2 => Wp (d + 1) 174 24 L (r.toList ++ [.int c, .int d2]) M2 Q))) ∧
    (∀ (d : Nat) (a : Int32) (b : Int32) (c : Int32) (L : List Value) (M : Mem) (Q : Option Value → Mem → Prop), Wp d 174 24 L [.int a, .int b, .int c] M Q ↔ Wp d 174 25 L [.int (b - a), .int c] M Q) ∧
    (∀ (d : Nat) (a : Int32) (b : Int32) (L : List Value) (M : Mem) (Q : Option Value → Mem → Prop), Wp (d + 1) 174 25 L [.int a, .int b] M Q ↔ Wp d 176 0 [.int a] [] M (fun r M2 => Wp (d + 1) 174 28 L (r.toList ++ [.int b]) M2 Q)) ∧
    (∀ (d : Nat) (a : Int32) (b : Int32) (L : List Value) (M : Mem) (Q : Option Value → Mem → Prop), Wp d 174 28 L [.int a, .int b] M Q ↔ Wp d 174 29 L [.int (b + a)] M Q) ∧
    (∀ (d : Nat) (a : Int32) (L : List Value) (M : Mem) (Q : Option Value → Mem → Prop), Wp d 174 29 L [.int a] M Q ↔ Q (some (.int a)) M) := by
  refine ⟨?_, ?_, ?_, ?_, ?_, ?_, ?_, ?_, ?_, ?_, ?_, ?_, ?_, ?_, ?_, ?_, ?_, ?_⟩
  · intro d x L M Q; exact Wp_sim (by decide +kernel : decode (cd 174) 0 = .ok (.aload_n 0, 1)) rfl rfl
  · intro d a v0 x L M Q; exact Wp_sim (by decide +kernel : decode (cd 174) 1 = .ok (.iload_n 1, 1)) rfl rfl
  · intro d a b L M Q; exact q_invV (pz := 1199) (n := 1) (c := 12) (m := 2) (k := b) (As := [.int a]) (rest := []) (by decide +kernel : decode (cd 174) 2 = .ok (.invokevirtual 259, 3)) (by decide +kernel) (by decide +kernel) rfl rfl (Nat.le_of_ble_eq_true rfl) (Nat.le_of_ble_eq_true rfl) rfl
  · intro d a x L M Q; exact Wp_sim (by decide +kernel : decode (cd 174) 5 = .ok (.aload_n 0, 1)) rfl rfl
  · intro d a b v0 v1 x L M Q; exact Wp_sim (by decide +kernel : decode (cd 174) 6 = .ok (.iload_n 2, 1)) rfl rfl
  · intro d a b c L M Q; exact q_invV (pz := 1199) (n := 1) (c := 12) (m := 2) (k := b) (As := [.int a]) (rest := [.int c]) (by decide +kernel : decode (cd 174) 7 = .ok (.invokevirtual 259, 3)) (by decide +kernel) (by decide +kernel) rfl rfl (Nat.le_of_ble_eq_true rfl) (Nat.le_of_ble_eq_true rfl) rfl
  · intro d a b L M Q; exact Wp_sim (by decide +kernel : decode (cd 174) 10 = .ok (.isub , 1)) rfl rfl
  · intro d a L M Q; exact q_invS (pz := 1203) (n := 1) (m := 1) (As := [.int a]) (rest := []) (by decide +kernel : decode (cd 174) 11 = .ok (.invokestatic 262, 3)) (by decide +kernel) (by decide +kernel) (by decide +kernel) rfl rfl (Nat.le_of_ble_eq_true rfl) (Nat.le_of_ble_eq_true rfl) rfl
  · intro d a x L M Q; exact Wp_sim (by decide +kernel : decode (cd 174) 14 = .ok (.aload_n 0, 1)) rfl rfl
  · intro d a b v0 x L M Q; exact Wp_sim (by decide +kernel : decode (cd 174) 15 = .ok (.iload_n 1, 1)) rfl rfl
  · intro d a b c L M Q; exact q_invV (pz := 1206) (n := 1) (c := 12) (m := 2) (k := b) (As := [.int a]) (rest := [.int c]) (by decide +kernel : decode (cd 174) 16 = .ok (.invokevirtual 265, 3)) (by decide +kernel) (by decide +kernel) rfl rfl (Nat.le_of_ble_eq_true rfl) (Nat.le_of_ble_eq_true rfl) rfl
  · intro d a b x L M Q; exact Wp_sim (by decide +kernel : decode (cd 174) 19 = .ok (.aload_n 0, 1)) rfl rfl
  · intro d a b c v0 v1 x L M Q; exact Wp_sim (by decide +kernel : decode (cd 174) 20 = .ok (.iload_n 2, 1)) rfl rfl
  · intro d a b c d2 L M Q; exact q_invV (pz := 1206) (n := 1) (c := 12) (m := 2) (k := b) (As := [.int a]) (rest := [.int c, .int d2]) (by decide +kernel : decode (cd 174) 21 = .ok (.invokevirtual 265, 3)) (by decide +kernel) (by decide +kernel) rfl rfl (Nat.le_of_ble_eq_true rfl) (Nat.le_of_ble_eq_true rfl) rfl
  · intro d a b c L M Q; exact Wp_sim (by decide +kernel : decode (cd 174) 24 = .ok (.isub , 1)) rfl rfl
  · intro d a b L M Q; exact q_invS (pz := 1203) (n := 1) (m := 1) (As := [.int a]) (rest := [.int b]) (by decide +kernel : decode (cd 174) 25 = .ok (.invokestatic 262, 3)) (by decide +kernel) (by decide +kernel) (by decide +kernel) rfl rfl (Nat.le_of_ble_eq_true rfl) (Nat.le_of_ble_eq_true rfl) rfl
  · intro d a b L M Q; exact Wp_sim (by decide +kernel : decode (cd 174) 28 = .ok (.iadd , 1)) rfl rfl
  · intro d a L M Q; exact q_iret (by decide +kernel : decode (cd 174) 29 = .ok (.ireturn , 1)) (by decide +kernel)

/- 175: PalaceYardModel.acrossOf -/
set_option maxRecDepth 10000 in
theorem e175 : (∀ (d : Nat) (v0 : Value) (x : Int32) (L : List Value) (M : Mem) (Q : Option Value → Mem → Prop), Wp d 175 0 (v0 :: .int x :: L) [] M Q ↔ Wp d 175 1 (v0 :: .int x :: L) [.int x] M Q) ∧
    (∀ (d : Nat) (a : Int32) (L : List Value) (M : Mem) (Q : Option Value → Mem → Prop), Wp d 175 1 L [.int a] M Q ↔ (if a < 0 then Wp d 175 4 L [] M Q else Wp d 175 8 L [] M Q)) ∧
    (∀ (d : Nat) (L : List Value) (M : Mem) (Q : Option Value → Mem → Prop), Wp d 175 4 L [] M Q ↔ Wp d 175 5 L [.int 0] M Q) ∧
    (∀ (d : Nat) (a : Int32) (L : List Value) (M : Mem) (Q : Option Value → Mem → Prop), Wp d 175 5 L [.int a] M Q ↔ Wp d 175 17 L [.int a] M Q) ∧
    (∀ (d : Nat) (x : Nat) (L : List Value) (M : Mem) (Q : Option Value → Mem → Prop), Wp d 175 8 (.ref x :: L) [] M Q ↔ Wp d 175 9 (.ref x :: L) [.ref x] M Q) ∧
    (∀ (d : Nat) (a : Nat) (L : List Value) (M : Mem) (Q : Option Value → Mem → Prop), Wp d 175 9 L [.ref a] M Q ↔ (isK a 12 = true ∧ Wp d 175 12 L [.ref (rt a 0)] M Q)) ∧
    (∀ (d : Nat) (a : Nat) (L : List Value) (M : Mem) (Q : Option Value → Mem → Prop), Wp d 175 12 L [.ref a] M Q ↔ Wp d 175 14 L [.int 32, .ref a] M Q) ∧
    (∀ (d : Nat) (a : Int32) (b : Nat) (v0 : Value) (x : Int32) (L : List Value) (M : Mem) (Q : Option Value → Mem → Prop), Wp d 175 14 (v0 :: .int x :: L) [.int a, .ref b] M Q ↔ Wp d 175 15 (v0 :: .int x :: L) [.int x, .int a, .ref b] M Q) ∧
    (∀ (d : Nat) (a : Int32) (b : Int32) (c : Nat) (L : List Value) (M : Mem) (Q : Option Value → Mem → Prop), Wp d 175 15 L [.int a, .int b, .ref c] M Q ↔ Wp d 175 16 L [.int (b + a), .ref c] M Q) ∧
    (∀ (d : Nat) (a : Int32) (b : Nat) (L : List Value) (M : Mem) (Q : Option Value → Mem → Prop), Wp d 175 16 L [.int a, .ref b] M Q ↔ ((isR b = true ∧ inr a (lnm M b)) ∧ Wp d 175 17 L [.int (M b a.toNatClampNeg)] M Q)) ∧
    (∀ (d : Nat) (a : Int32) (L : List Value) (M : Mem) (Q : Option Value → Mem → Prop), Wp d 175 17 L [.int a] M Q ↔ Q (some (.int a)) M) := by
  refine ⟨?_, ?_, ?_, ?_, ?_, ?_, ?_, ?_, ?_, ?_, ?_⟩
  · intro d v0 x L M Q; exact Wp_sim (by decide +kernel : decode (cd 175) 0 = .ok (.iload_n 1, 1)) rfl rfl
  · intro d a L M Q; exact q_zge (by decide +kernel : decode (cd 175) 1 = .ok (.ifCond .ge 7, 3)) (by decide)
  · intro d L M Q; exact Wp_sim (by decide +kernel : decode (cd 175) 4 = .ok (.iconst 0, 1)) rfl rfl
  · intro d a L M Q; exact q_goto (by decide +kernel : decode (cd 175) 5 = .ok (.goto 12, 3)) (by decide)
  · intro d x L M Q; exact Wp_sim (by decide +kernel : decode (cd 175) 8 = .ok (.aload_n 0, 1)) rfl rfl
  · intro d a L M Q; exact q_getR (p := 843) (by decide +kernel : decode (cd 175) 9 = .ok (.getfield 7, 3)) (by decide +kernel) (by decide +kernel)
  · intro d a L M Q; exact Wp_sim (by decide +kernel : decode (cd 175) 12 = .ok (.bipush 32, 2)) rfl rfl
  · intro d a b v0 x L M Q; exact Wp_sim (by decide +kernel : decode (cd 175) 14 = .ok (.iload_n 1, 1)) rfl rfl
  · intro d a b c L M Q; exact Wp_sim (by decide +kernel : decode (cd 175) 15 = .ok (.iadd , 1)) rfl rfl
  · intro d a b L M Q; exact q_ald (by decide +kernel : decode (cd 175) 16 = .ok (.iaload , 1))
  · intro d a L M Q; exact q_iret (by decide +kernel : decode (cd 175) 17 = .ok (.ireturn , 1)) (by decide +kernel)

/- 176: PalaceYardModel.abs -/
set_option maxRecDepth 10000 in
theorem e176 : (∀ (d : Nat) (x : Int32) (L : List Value) (M : Mem) (Q : Option Value → Mem → Prop), Wp d 176 0 (.int x :: L) [] M Q ↔ Wp d 176 1 (.int x :: L) [.int x] M Q) ∧
    (∀ (d : Nat) (a : Int32) (L : List Value) (M : Mem) (Q : Option Value → Mem → Prop), Wp d 176 1 L [.int a] M Q ↔ (if a < 0 then Wp d 176 4 L [] M Q else Wp d 176 9 L [] M Q)) ∧
    (∀ (d : Nat) (x : Int32) (L : List Value) (M : Mem) (Q : Option Value → Mem → Prop), Wp d 176 4 (.int x :: L) [] M Q ↔ Wp d 176 5 (.int x :: L) [.int x] M Q) ∧
    (∀ (d : Nat) (a : Int32) (L : List Value) (M : Mem) (Q : Option Value → Mem → Prop), Wp d 176 5 L [.int a] M Q ↔ Wp d 176 6 L [.int (-a)] M Q) ∧
    (∀ (d : Nat) (a : Int32) (L : List Value) (M : Mem) (Q : Option Value → Mem → Prop), Wp d 176 6 L [.int a] M Q ↔ Wp d 176 10 L [.int a] M Q) ∧
    (∀ (d : Nat) (x : Int32) (L : List Value) (M : Mem) (Q : Option Value → Mem → Prop), Wp d 176 9 (.int x :: L) [] M Q ↔ Wp d 176 10 (.int x :: L) [.int x] M Q) ∧
    (∀ (d : Nat) (a : Int32) (L : List Value) (M : Mem) (Q : Option Value → Mem → Prop), Wp d 176 10 L [.int a] M Q ↔ Q (some (.int a)) M) := by
  refine ⟨?_, ?_, ?_, ?_, ?_, ?_, ?_⟩
  · intro d x L M Q; exact Wp_sim (by decide +kernel : decode (cd 176) 0 = .ok (.iload_n 0, 1)) rfl rfl
  · intro d a L M Q; exact q_zge (by decide +kernel : decode (cd 176) 1 = .ok (.ifCond .ge 8, 3)) (by decide)
  · intro d x L M Q; exact Wp_sim (by decide +kernel : decode (cd 176) 4 = .ok (.iload_n 0, 1)) rfl rfl
  · intro d a L M Q; exact Wp_sim (by decide +kernel : decode (cd 176) 5 = .ok (.ineg , 1)) rfl rfl
  · intro d a L M Q; exact q_goto (by decide +kernel : decode (cd 176) 6 = .ok (.goto 4, 3)) (by decide)
  · intro d x L M Q; exact Wp_sim (by decide +kernel : decode (cd 176) 9 = .ok (.iload_n 0, 1)) rfl rfl
  · intro d a L M Q; exact q_iret (by decide +kernel : decode (cd 176) 10 = .ok (.ireturn , 1)) (by decide +kernel)

/- 177: PalaceYardModel.alongOf -/
set_option maxRecDepth 10000 in
theorem e177 : (∀ (d : Nat) (v0 : Value) (x : Int32) (L : List Value) (M : Mem) (Q : Option Value → Mem → Prop), Wp d 177 0 (v0 :: .int x :: L) [] M Q ↔ Wp d 177 1 (v0 :: .int x :: L) [.int x] M Q) ∧
    (∀ (d : Nat) (a : Int32) (L : List Value) (M : Mem) (Q : Option Value → Mem → Prop), Wp d 177 1 L [.int a] M Q ↔ (if a < 0 then Wp d 177 4 L [] M Q else Wp d 177 8 L [] M Q)) ∧
    (∀ (d : Nat) (L : List Value) (M : Mem) (Q : Option Value → Mem → Prop), Wp d 177 4 L [] M Q ↔ Wp d 177 5 L [.int 0] M Q) ∧
    (∀ (d : Nat) (a : Int32) (L : List Value) (M : Mem) (Q : Option Value → Mem → Prop), Wp d 177 5 L [.int a] M Q ↔ Wp d 177 17 L [.int a] M Q) ∧
    (∀ (d : Nat) (x : Nat) (L : List Value) (M : Mem) (Q : Option Value → Mem → Prop), Wp d 177 8 (.ref x :: L) [] M Q ↔ Wp d 177 9 (.ref x :: L) [.ref x] M Q) ∧
    (∀ (d : Nat) (a : Nat) (L : List Value) (M : Mem) (Q : Option Value → Mem → Prop), Wp d 177 9 L [.ref a] M Q ↔ (isK a 12 = true ∧ Wp d 177 12 L [.ref (rt a 0)] M Q)) ∧
    (∀ (d : Nat) (a : Nat) (L : List Value) (M : Mem) (Q : Option Value → Mem → Prop), Wp d 177 12 L [.ref a] M Q ↔ Wp d 177 14 L [.int 38, .ref a] M Q) ∧
    (∀ (d : Nat) (a : Int32) (b : Nat) (v0 : Value) (x : Int32) (L : List Value) (M : Mem) (Q : Option Value → Mem → Prop), Wp d 177 14 (v0 :: .int x :: L) [.int a, .ref b] M Q ↔ Wp d 177 15 (v0 :: .int x :: L) [.int x, .int a, .ref b] M Q) ∧
    (∀ (d : Nat) (a : Int32) (b : Int32) (c : Nat) (L : List Value) (M : Mem) (Q : Option Value → Mem → Prop), Wp d 177 15 L [.int a, .int b, .ref c] M Q ↔ Wp d 177 16 L [.int (b + a), .ref c] M Q) ∧
    (∀ (d : Nat) (a : Int32) (b : Nat) (L : List Value) (M : Mem) (Q : Option Value → Mem → Prop), Wp d 177 16 L [.int a, .ref b] M Q ↔ ((isR b = true ∧ inr a (lnm M b)) ∧ Wp d 177 17 L [.int (M b a.toNatClampNeg)] M Q)) ∧
    (∀ (d : Nat) (a : Int32) (L : List Value) (M : Mem) (Q : Option Value → Mem → Prop), Wp d 177 17 L [.int a] M Q ↔ Q (some (.int a)) M) := by
  refine ⟨?_, ?_, ?_, ?_, ?_, ?_, ?_, ?_, ?_, ?_, ?_⟩
  · intro d v0 x L M Q; exact Wp_sim (by decide +kernel : decode (cd 177) 0 = .ok (.iload_n 1, 1)) rfl rfl
  · intro d a L M Q; exact q_zge (by decide +kernel : decode (cd 177) 1 = .ok (.ifCond .ge 7, 3)) (by decide)
  · intro d L M Q; exact Wp_sim (by decide +kernel : decode (cd 177) 4 = .ok (.iconst 0, 1)) rfl rfl
  · intro d a L M Q; exact q_goto (by decide +kernel : decode (cd 177) 5 = .ok (.goto 12, 3)) (by decide)
  · intro d x L M Q; exact Wp_sim (by decide +kernel : decode (cd 177) 8 = .ok (.aload_n 0, 1)) rfl rfl
  · intro d a L M Q; exact q_getR (p := 843) (by decide +kernel : decode (cd 177) 9 = .ok (.getfield 7, 3)) (by decide +kernel) (by decide +kernel)
  · intro d a L M Q; exact Wp_sim (by decide +kernel : decode (cd 177) 12 = .ok (.bipush 38, 2)) rfl rfl
  · intro d a b v0 x L M Q; exact Wp_sim (by decide +kernel : decode (cd 177) 14 = .ok (.iload_n 1, 1)) rfl rfl
  · intro d a b c L M Q; exact Wp_sim (by decide +kernel : decode (cd 177) 15 = .ok (.iadd , 1)) rfl rfl
  · intro d a b L M Q; exact q_ald (by decide +kernel : decode (cd 177) 16 = .ok (.iaload , 1))
  · intro d a L M Q; exact q_iret (by decide +kernel : decode (cd 177) 17 = .ok (.ireturn , 1)) (by decide +kernel)

/- 178: PalaceYardModel.meets -/
set_option maxRecDepth 10000 in
theorem e178 : (∀ (d : Nat) (v0 : Value) (x : Int32) (L : List Value) (M : Mem) (Q : Option Value → Mem → Prop), Wp d 178 0 (v0 :: .int x :: L) [] M Q ↔ Wp d 178 1 (v0 :: .int x :: L) [.int x] M Q) ∧
    (∀ (d : Nat) (a : Int32) (x : Nat) (L : List Value) (M : Mem) (Q : Option Value → Mem → Prop), Wp d 178 1 (.ref x :: L) [.int a] M Q ↔ Wp d 178 2 (.ref x :: L) [.ref x, .int a] M Q) ∧
    (∀ (d : Nat) (a : Nat) (b : Int32) (L : List Value) (M : Mem) (Q : Option Value → Mem → Prop), Wp d 178 2 L [.ref a, .int b] M Q ↔ (isK a 12 = true ∧ Wp d 178 5 L [.int (M a 26), .int b] M Q)) ∧
    (∀ (d : Nat) (a : Int32) (b : Int32) (L : List Value) (M : Mem) (Q : Option Value → Mem → Prop), Wp d 178 5 L [.int a, .int b] M Q ↔ (if a < b then Wp d 178 40 L [] M Q else Wp d 178 8 L [] M Q)) ∧
    (∀ (d : Nat) (v0 : Value) (x : Int32) (L : List Value) (M : Mem) (Q : Option Value → Mem → Prop), Wp d 178 8 (v0 :: .int x :: L) [] M Q ↔ Wp d 178 9 (v0 :: .int x :: L) [.int x] M Q) ∧
    (∀ (d : Nat) (a : Int32) (x : Nat) (L : List Value) (M : Mem) (Q : Option Value → Mem → Prop), Wp d 178 9 (.ref x :: L) [.int a] M Q ↔ Wp d 178 10 (.ref x :: L) [.ref x, .int a] M Q) ∧
    (∀ (d : Nat) (a : Nat) (b : Int32) (L : List Value) (M : Mem) (Q : Option Value → Mem → Prop), Wp d 178 10 L [.ref a, .int b] M Q ↔ (isK a 12 = true ∧ Wp d 178 13 L [.int (M a 26), .int b] M Q)) ∧
    (∀ (d : Nat) (a : Int32) (b : Int32) (L : List Value) (M : Mem) (Q : Option Value → Mem → Prop), Wp d 178 13 L [.int a, .int b] M Q ↔ (if b = a then Wp d 178 16 L [] M Q else Wp d 178 44 L [] M Q)) ∧
    (∀ (d : Nat) (v0 : Value) (v1 : Value) (x : Int32) (L : List Value) (M : Mem) (Q : Option Value → Mem → Prop), Wp d 178 16 (v0 :: v1 :: .int x :: L) [] M Q ↔ Wp d 178 17 (v0 :: v1 :: .int x :: L) [.int x] M Q) ∧
    (∀ (d : Nat) (a : Int32) (x : Nat) (L : List Value) (M : Mem) (Q : Option Value → Mem → Prop), Wp d 178 17 (.ref x :: L) [.int a] M Q ↔ Wp d 178 18 (.ref x :: L) [.ref x, .int a] M Q) ∧
    (∀ (d : Nat) (a : Nat) (b : Int32) (L : List Value) (M : Mem) (Q : Option Value → Mem → Prop), Wp d 178 18 L [.ref a, .int b] M Q ↔ (isK a 12 = true ∧ Wp d 178 21 L [.int (M a 27), .int b] M Q)) ∧
    (∀ (d : Nat) (a : Int32) (b : Int32) (L : List Value) (M : Mem) (Q : Option Value → Mem → Prop), Wp d 178 21 L [.int a, .int b] M Q ↔ (if b < a then Wp d 178 40 L [] M Q else Wp d 178 24 L [] M Q)) ∧
    (∀ (d : Nat) (v0 : Value) (v1 : Value) (x : Int32) (L : List Value) (M : Mem) (Q : Option Value → Mem → Prop), Wp d 178 24 (v0 :: v1 :: .int x :: L) [] M Q ↔ Wp d 178 25 (v0 :: v1 :: .int x :: L) [.int x] M Q) ∧
    (∀ (d : Nat) (a : Int32) (x : Nat) (L : List Value) (M : Mem) (Q : Option Value → Mem → Prop), Wp d 178 25 (.ref x :: L) [.int a] M Q ↔ Wp d 178 26 (.ref x :: L) [.ref x, .int a] M Q) ∧
    (∀ (d : Nat) (a : Nat) (b : Int32) (L : List Value) (M : Mem) (Q : Option Value → Mem → Prop), Wp d 178 26 L [.ref a, .int b] M Q ↔ (isK a 12 = true ∧ Wp d 178 29 L [.int (M a 27), .int b] M Q)) ∧
    (∀ (d : Nat) (a : Int32) (b : Int32) (L : List Value) (M : Mem) (Q : Option Value → Mem → Prop), Wp d 178 29 L [.int a, .int b] M Q ↔ (if b = a then Wp d 178 32 L [] M Q else Wp d 178 44 L [] M Q)) ∧
    (∀ (d : Nat) (v0 : Value) (v1 : Value) (v2 : Value) (x : Int32) (L : List Value) (M : Mem) (Q : Option Value → Mem → Prop), Wp d 178 32 (v0 :: v1 :: v2 :: .int x :: L) [] M Q ↔ Wp d 178 33 (v0 :: v1 :: v2 :: .int x :: L) [.int x] M Q) ∧
    (∀ (d : Nat) (a : Int32) (x : Nat) (L : List Value) (M : Mem) (Q : Option Value → Mem → Prop), Wp d 178 33 (.ref x :: L) [.int a] M Q ↔ Wp d 178 34 (.ref x :: L) [.ref x, .int a] M Q) ∧
    (∀ (d : Nat) (a : Nat) (b : Int32) (L : List Value) (M : Mem) (Q : Option Value → Mem → Prop), Wp d 178 34 L [.ref a, .int b] M Q ↔ (isK a 12 = true ∧ Wp d 178 37 L [.int (M a 28), .int b] M Q)) ∧
    (∀ (d : Nat) (a : Int32) (b : Int32) (L : List Value) (M : Mem) (Q : Option Value → Mem → Prop), Wp d 178 37 L [.int a, .int b] M Q ↔ (if b < a then Wp d 178 40 L [] M Q else Wp d 178 44 L [] M Q)) ∧
    (∀ (d : Nat) (L : List Value) (M : Mem) (Q : Option Value → Mem → Prop), Wp d 178 40 L [] M Q ↔ Wp d 178 41 L [.int 1] M Q) ∧
    (∀ (d : Nat) (a : Int32) (L : List Value) (M : Mem) (Q : Option Value → Mem → Prop), Wp d 178 41 L [.int a] M Q ↔ Wp d 178 45 L [.int a] M Q) ∧
    (∀ (d : Nat) (L : List Value) (M : Mem) (Q : Option Value → Mem → Prop), Wp d 178 44 L [] M Q ↔ Wp d 178 45 L [.int 0] M Q) ∧
    (∀ (d : Nat) (a : Int32) (v0 : Value) (v1 : Value) (v2 : Value) (v3 : Value) (x : Value) (L : List Value) (M : Mem) (Q : Option Value → Mem → Prop), Wp d 178 45 (v0 :: v1 :: v2 :: v3 :: x :: L) [.int a] M Q ↔ Wp d 178 47 (v0 :: v1 :: v2 :: clr v3 :: .int a :: L) [] M Q) ∧
    (∀ (d : Nat) (x : Nat) (L : List Value) (M : Mem) (Q : Option Value → Mem → Prop), Wp d 178 47 (.ref x :: L) [] M Q ↔ Wp d 178 48 (.ref x :: L) [.ref x] M Q) ∧
    (∀ (d : Nat) (a : Nat) (v0 : Value) (v1 : Value) (v2 : Value) (v3 : Value) (x : Int32) (L : List Value) (M : Mem) (Q : Option Value → Mem → Prop), Wp d 178 48 (v0 :: v1 :: v2 :: v3 :: .int x :: L) [.ref a] M Q ↔ Wp d 178 50 (v0 :: v1 :: v2 :: v3 :: .int x :: L) [.int x, .ref a] M Q) ∧
    (∀ (d : Nat) (a : Int32) (b : Nat) (L : List Value) (M : Mem) (Q : Option Value → Mem → Prop), Wp d 178 50 L [.int a, .ref b] M Q ↔ (if a = 0 then Wp d 178 57 L [.ref b] M Q else Wp d 178 53 L [.ref b] M Q)) ∧
    (∀ (d : Nat) (a : Nat) (v0 : Value) (x : Int32) (L : List Value) (M : Mem) (Q : Option Value → Mem → Prop), Wp d 178 53 (v0 :: .int x :: L) [.ref a] M Q ↔ Wp d 178 54 (v0 :: .int x :: L) [.int x, .ref a] M Q) ∧
    (∀ (d : Nat) (a : Int32) (b : Nat) (L : List Value) (M : Mem) (Q : Option Value → Mem → Prop), Wp d 178 54 L [.int a, .ref b] M Q ↔ Wp d 178 61 L [.int a, .ref b] M Q) ∧
    (∀ (d : Nat) (a : Nat) (x : Nat) (L : List Value) (M : Mem) (Q : Option Value → Mem → Prop), Wp d 178 57 (.ref x :: L) [.ref a] M Q ↔ Wp d 178 58 (.ref x :: L) [.ref x, .ref a] M Q) ∧
    (∀ (d : Nat) (a : Nat) (b : Nat) (L : List Value) (M : Mem) (Q : Option Value → Mem → Prop), Wp d 178 58 L [.ref a, .ref b] M Q ↔ (isK a 12 = true ∧ Wp d 178 61 L [.int (M a 26), .ref b] M Q)) ∧
    (∀ (d : Nat) (a : Int32) (b : Nat) (L : List Value) (M : Mem) (Q : Option Value → Mem → Prop), Wp d 178 61 L [.int a, .ref b] M Q ↔ (isK b 12 = true ∧ Wp d 178 64 L [] (up2 M b 26 a) Q)) ∧
    (∀ (d : Nat) (x : Nat) (L : List Value) (M : Mem) (Q : Option Value → Mem → Prop), Wp d 178 64 (.ref x :: L) [] M Q ↔ Wp d 178 65 (.ref x :: L) [.ref x] M Q) ∧
    (∀ (d : Nat) (a : Nat) (v0 : Value) (v1 : Value) (v2 : Value) (v3 : Value) (x : Int32) (L : List Value) (M : Mem) (Q : Option Value → Mem → Prop), Wp d 178 65 (v0 :: v1 :: v2 :: v3 :: .int x :: L) [.ref a] M Q ↔ Wp d 178 67 (v0 :: v1 :: v2 :: v3 :: .int x :: L) [.int x, .ref a] M Q) ∧
    (∀ (d : Nat) (a : Int32) (b : Nat) (L : List Value) (M : Mem) (Q : Option Value → Mem → Prop), Wp d 178 67 L [.int a, .ref b] M Q ↔ (if a = 0 then Wp d 178 74 L [.ref b] M Q else Wp d 178 70 L [.ref b] M Q)) ∧
    (∀ (d : Nat) (a : Nat) (v0 : Value) (v1 : Value) (x : Int32) (L : List Value) (M : Mem) (Q : Option Value → Mem → Prop), Wp d 178 70 (v0 :: v1 :: .int x :: L) [.ref a] M Q ↔ Wp d 178 71 (v0 :: v1 :: .int x :: L) [.int x, .ref a] M Q) ∧
    (∀ (d : Nat) (a : Int32) (b : Nat) (L : List Value) (M : Mem) (Q : Option Value → Mem → Prop), Wp d 178 71 L [.int a, .ref b] M Q ↔ Wp d 178 78 L [.int a, .ref b] M Q) ∧
    (∀ (d : Nat) (a : Nat) (x : Nat) (L : List Value) (M : Mem) (Q : Option Value → Mem → Prop), Wp d 178 74 (.ref x :: L) [.ref a] M Q ↔ Wp d 178 75 (.ref x :: L) [.ref x, .ref a] M Q) ∧
    (∀ (d : Nat) (a : Nat) (b : Nat) (L : List Value) (M : Mem) (Q : Option Value → Mem → Prop), Wp d 178 75 L [.ref a, .ref b] M Q ↔ (isK a 12 = true ∧ Wp d 178 78 L [.int (M a 27), .ref b] M Q)) ∧
    (∀ (d : Nat) (a : Int32) (b : Nat) (L : List Value) (M : Mem) (Q : Option Value → Mem → Prop), Wp d 178 78 L [.int a, .ref b] M Q ↔ (isK b 12 = true ∧ Wp d 178 81 L [] (up2 M b 27 a) Q)) ∧
    (∀ (d : Nat) (x : Nat) (L : List Value) (M : Mem) (Q : Option Value → Mem → Prop), Wp d 178 81 (.ref x :: L) [] M Q ↔ Wp d 178 82 (.ref x :: L) [.ref x] M Q) ∧
    (∀ (d : Nat) (a : Nat) (v0 : Value) (v1 : Value) (v2 : Value) (v3 : Value) (x : Int32) (L : List Value) (M : Mem) (Q : Option Value → Mem → Prop), Wp d 178 82 (v0 :: v1 :: v2 :: v3 :: .int x :: L) [.ref a] M Q ↔ Wp d 178 84 (v0 :: v1 :: v2 :: v3 :: .int x :: L) [.int x, .ref a] M Q) ∧
    (∀ (d : Nat) (a : Int32) (b : Nat) (L : List Value) (M : Mem) (Q : Option Value → Mem → Prop), Wp d 178 84 L [.int a, .ref b] M Q ↔ (if a = 0 then Wp d 178 91 L [.ref b] M Q else Wp d 178 87 L [.ref b] M Q)) ∧
    (∀ (d : Nat) (a : Nat) (v0 : Value) (v1 : Value) (v2 : Value) (x : Int32) (L : List Value) (M : Mem) (Q : Option Value → Mem → Prop), Wp d 178 87 (v0 :: v1 :: v2 :: .int x :: L) [.ref a] M Q ↔ Wp d 178 88 (v0 :: v1 :: v2 :: .int x :: L) [.int x, .ref a] M Q) ∧
    (∀ (d : Nat) (a : Int32) (b : Nat) (L : List Value) (M : Mem) (Q : Option Value → Mem → Prop), Wp d 178 88 L [.int a, .ref b] M Q ↔ Wp d 178 95 L [.int a, .ref b] M Q) ∧
    (∀ (d : Nat) (a : Nat) (x : Nat) (L : List Value) (M : Mem) (Q : Option Value → Mem → Prop), Wp d 178 91 (.ref x :: L) [.ref a] M Q ↔ Wp d 178 92 (.ref x :: L) [.ref x, .ref a] M Q) ∧
    (∀ (d : Nat) (a : Nat) (b : Nat) (L : List Value) (M : Mem) (Q : Option Value → Mem → Prop), Wp d 178 92 L [.ref a, .ref b] M Q ↔ (isK a 12 = true ∧ Wp d 178 95 L [.int (M a 28), .ref b] M Q)) ∧
    (∀ (d : Nat) (a : Int32) (b : Nat) (L : List Value) (M : Mem) (Q : Option Value → Mem → Prop), Wp d 178 95 L [.int a, .ref b] M Q ↔ (isK b 12 = true ∧ Wp d 178 98 L [] (up2 M b 28 a) Q)) ∧
    (∀ (d : Nat) (L : List Value) (M : Mem) (Q : Option Value → Mem → Prop), Wp d 178 98 L [] M Q ↔ Q none M) := by
  refine ⟨?_, ?_, ?_, ?_, ?_, ?_, ?_, ?_, ?_, ?_, ?_, ?_, ?_, ?_, ?_, ?_, ?_, ?_, ?_, ?_, ?_, ?_, ?_, ?_, ?_, ?_, ?_, ?_, ?_, ?_, ?_, ?_, ?_, ?_, ?_, ?_, ?_, ?_, ?_, ?_, ?_, ?_, ?_, ?_, ?_, ?_, ?_, ?_, ?_⟩
  · intro d v0 x L M Q; exact Wp_sim (by decide +kernel : decode (cd 178) 0 = .ok (.iload_n 1, 1)) rfl rfl
  · intro d a x L M Q; exact Wp_sim (by decide +kernel : decode (cd 178) 1 = .ok (.aload_n 0, 1)) rfl rfl
  · intro d a b L M Q; exact q_getI (p := 869) (by decide +kernel : decode (cd 178) 2 = .ok (.getfield 268, 3)) (by decide +kernel) (by decide +kernel)
  · intro d a b L M Q; exact q_igt (by decide +kernel : decode (cd 178) 5 = .ok (.if_icmp .gt 35, 3)) (by decide)
  · intro d v0 x L M Q; exact Wp_sim (by decide +kernel : decode (cd 178) 8 = .ok (.iload_n 1, 1)) rfl rfl
  · intro d a x L M Q; exact Wp_sim (by decide +kernel : decode (cd 178) 9 = .ok (.aload_n 0, 1)) rfl rfl
  · intro d a b L M Q; exact q_getI (p := 869) (by decide +kernel : decode (cd 178) 10 = .ok (.getfield 268, 3)) (by decide +kernel) (by decide +kernel)
  · intro d a b L M Q; exact q_ine (by decide +kernel : decode (cd 178) 13 = .ok (.if_icmp .ne 31, 3)) (by decide)
  · intro d v0 v1 x L M Q; exact Wp_sim (by decide +kernel : decode (cd 178) 16 = .ok (.iload_n 2, 1)) rfl rfl
  · intro d a x L M Q; exact Wp_sim (by decide +kernel : decode (cd 178) 17 = .ok (.aload_n 0, 1)) rfl rfl
  · intro d a b L M Q; exact q_getI (p := 870) (by decide +kernel : decode (cd 178) 18 = .ok (.getfield 271, 3)) (by decide +kernel) (by decide +kernel)
  · intro d a b L M Q; exact q_ilt (by decide +kernel : decode (cd 178) 21 = .ok (.if_icmp .lt 19, 3)) (by decide)
  · intro d v0 v1 x L M Q; exact Wp_sim (by decide +kernel : decode (cd 178) 24 = .ok (.iload_n 2, 1)) rfl rfl
  · intro d a x L M Q; exact Wp_sim (by decide +kernel : decode (cd 178) 25 = .ok (.aload_n 0, 1)) rfl rfl
  · intro d a b L M Q; exact q_getI (p := 870) (by decide +kernel : decode (cd 178) 26 = .ok (.getfield 271, 3)) (by decide +kernel) (by decide +kernel)
  · intro d a b L M Q; exact q_ine (by decide +kernel : decode (cd 178) 29 = .ok (.if_icmp .ne 15, 3)) (by decide)
  · intro d v0 v1 v2 x L M Q; exact Wp_sim (by decide +kernel : decode (cd 178) 32 = .ok (.iload_n 3, 1)) rfl rfl
  · intro d a x L M Q; exact Wp_sim (by decide +kernel : decode (cd 178) 33 = .ok (.aload_n 0, 1)) rfl rfl
  · intro d a b L M Q; exact q_getI (p := 871) (by decide +kernel : decode (cd 178) 34 = .ok (.getfield 274, 3)) (by decide +kernel) (by decide +kernel)
  · intro d a b L M Q; exact q_ige (by decide +kernel : decode (cd 178) 37 = .ok (.if_icmp .ge 7, 3)) (by decide)
  · intro d L M Q; exact Wp_sim (by decide +kernel : decode (cd 178) 40 = .ok (.iconst 1, 1)) rfl rfl
  · intro d a L M Q; exact q_goto (by decide +kernel : decode (cd 178) 41 = .ok (.goto 4, 3)) (by decide)
  · intro d L M Q; exact Wp_sim (by decide +kernel : decode (cd 178) 44 = .ok (.iconst 0, 1)) rfl rfl
  · intro d a v0 v1 v2 v3 x L M Q; exact Wp_sim (by decide +kernel : decode (cd 178) 45 = .ok (.istore 4, 2)) rfl rfl
  · intro d x L M Q; exact Wp_sim (by decide +kernel : decode (cd 178) 47 = .ok (.aload_n 0, 1)) rfl rfl
  · intro d a v0 v1 v2 v3 x L M Q; exact Wp_sim (by decide +kernel : decode (cd 178) 48 = .ok (.iload 4, 2)) rfl rfl
  · intro d a b L M Q; exact q_zeq (by decide +kernel : decode (cd 178) 50 = .ok (.ifCond .eq 7, 3)) (by decide)
  · intro d a v0 x L M Q; exact Wp_sim (by decide +kernel : decode (cd 178) 53 = .ok (.iload_n 1, 1)) rfl rfl
  · intro d a b L M Q; exact q_goto (by decide +kernel : decode (cd 178) 54 = .ok (.goto 7, 3)) (by decide)
  · intro d a x L M Q; exact Wp_sim (by decide +kernel : decode (cd 178) 57 = .ok (.aload_n 0, 1)) rfl rfl
  · intro d a b L M Q; exact q_getI (p := 869) (by decide +kernel : decode (cd 178) 58 = .ok (.getfield 268, 3)) (by decide +kernel) (by decide +kernel)
  · intro d a b L M Q; exact q_putI (p := 869) (by decide +kernel : decode (cd 178) 61 = .ok (.putfield 268, 3)) (by decide +kernel) (by decide +kernel)
  · intro d x L M Q; exact Wp_sim (by decide +kernel : decode (cd 178) 64 = .ok (.aload_n 0, 1)) rfl rfl
  · intro d a v0 v1 v2 v3 x L M Q; exact Wp_sim (by decide +kernel : decode (cd 178) 65 = .ok (.iload 4, 2)) rfl rfl
  · intro d a b L M Q; exact q_zeq (by decide +kernel : decode (cd 178) 67 = .ok (.ifCond .eq 7, 3)) (by decide)
  · intro d a v0 v1 x L M Q; exact Wp_sim (by decide +kernel : decode (cd 178) 70 = .ok (.iload_n 2, 1)) rfl rfl
  · intro d a b L M Q; exact q_goto (by decide +kernel : decode (cd 178) 71 = .ok (.goto 7, 3)) (by decide)
  · intro d a x L M Q; exact Wp_sim (by decide +kernel : decode (cd 178) 74 = .ok (.aload_n 0, 1)) rfl rfl
  · intro d a b L M Q; exact q_getI (p := 870) (by decide +kernel : decode (cd 178) 75 = .ok (.getfield 271, 3)) (by decide +kernel) (by decide +kernel)
  · intro d a b L M Q; exact q_putI (p := 870) (by decide +kernel : decode (cd 178) 78 = .ok (.putfield 271, 3)) (by decide +kernel) (by decide +kernel)
  · intro d x L M Q; exact Wp_sim (by decide +kernel : decode (cd 178) 81 = .ok (.aload_n 0, 1)) rfl rfl
  · intro d a v0 v1 v2 v3 x L M Q; exact Wp_sim (by decide +kernel : decode (cd 178) 82 = .ok (.iload 4, 2)) rfl rfl
  · intro d a b L M Q; exact q_zeq (by decide +kernel : decode (cd 178) 84 = .ok (.ifCond .eq 7, 3)) (by decide)
  · intro d a v0 v1 v2 x L M Q; exact Wp_sim (by decide +kernel : decode (cd 178) 87 = .ok (.iload_n 3, 1)) rfl rfl
  · intro d a b L M Q; exact q_goto (by decide +kernel : decode (cd 178) 88 = .ok (.goto 7, 3)) (by decide)
  · intro d a x L M Q; exact Wp_sim (by decide +kernel : decode (cd 178) 91 = .ok (.aload_n 0, 1)) rfl rfl
  · intro d a b L M Q; exact q_getI (p := 871) (by decide +kernel : decode (cd 178) 92 = .ok (.getfield 274, 3)) (by decide +kernel) (by decide +kernel)
  · intro d a b L M Q; exact q_putI (p := 871) (by decide +kernel : decode (cd 178) 95 = .ok (.putfield 274, 3)) (by decide +kernel) (by decide +kernel)
  · intro d L M Q; exact q_vret (by decide +kernel : decode (cd 178) 98 = .ok (.return_ , 1)) (by decide +kernel)

/- 179: PalaceYardModel.composition -/
set_option maxRecDepth 10000 in
theorem e179_0 : (∀ (d : Nat) (v0 : Value) (x : Int32) (L : List Value) (M : Mem) (Q : Option Value → Mem → Prop), Wp d 179 0 (v0 :: .int x :: L) [] M Q ↔ Wp d 179 1 (v0 :: .int x :: L) [.int x] M Q) ∧
    (∀ (d : Nat) (a : Int32) (L : List Value) (M : Mem) (Q : Option Value → Mem → Prop), Wp d 179 1 L [.int a] M Q ↔ Wp d 179 2 L [.long a.toInt64] M Q) ∧
    (∀ (d : Nat) (a : Int64) (L : List Value) (M : Mem) (Q : Option Value → Mem → Prop), Wp d 179 2 L [.long a] M Q ↔ Wp d 179 3 L [.long 0, .long a] M Q) ∧
    (∀ (d : Nat) (a : Int64) (b : Int64) (L : List Value) (M : Mem) (Q : Option Value → Mem → Prop), Wp d 179 3 L [.long a, .long b] M Q ↔ Wp d 179 6 L [.long 100, .long a, .long b] M Q) ∧
    (∀ (d : Nat) (a : Int64) (b : Int64) (c : Int64) (L : List Value) (M : Mem) (Q : Option Value → Mem → Prop), Wp (d + 1) 179 6 L [.long a, .long b, .long c] M Q ↔ Wp d 112 0 [.long c, .null, .long b, .null, .long a, .null] [] M (fun r M2 => Wp (d + 1) 179 9 L (r.toList ++ []) M2 Q)) ∧
    (∀ (d : Nat) (a : Int32) (L : List Value) (M : Mem) (Q : Option Value → Mem → Prop), Wp d 179 9 L [.int a] M Q ↔ (if a = 0 then Wp d 179 22 L [] M Q else Wp d 179 12 L [] M Q)) ∧
    (∀ (d : Nat) (v0 : Value) (v1 : Value) (x : Int32) (L : List Value) (M : Mem) (Q : Option Value → Mem → Prop), Wp d 179 12 (v0 :: v1 :: .int x :: L) [] M Q ↔ Wp d 179 13 (v0 :: v1 :: .int x :: L) [.int x] M Q) ∧
    (∀ (d : Nat) (a : Int32) (L : List Value) (M : Mem) (Q : Option Value → Mem → Prop), Wp d 179 13 L [.int a] M Q ↔ Wp d 179 14 L [.long a.toInt64] M Q) ∧
    (∀ (d : Nat) (a : Int64) (L : List Value) (M : Mem) (Q : Option Value → Mem → Prop), Wp d 179 14 L [.long a] M Q ↔ Wp d 179 15 L [.long 0, .long a] M Q) ∧
    (∀ (d : Nat) (a : Int64) (b : Int64) (L : List Value) (M : Mem) (Q : Option Value → Mem → Prop), Wp d 179 15 L [.long a, .long b] M Q ↔ Wp d 179 16 L [.long 1, .long a, .long b] M Q) ∧
    (∀ (d : Nat) (a : Int64) (b : Int64) (c : Int64) (L : List Value) (M : Mem) (Q : Option Value → Mem → Prop), Wp (d + 1) 179 16 L [.long a, .long b, .long c] M Q ↔ Wp d 112 0 [.long c, .null, .long b, .null, .long a, .null] [] M (fun r M2 => Wp (d + 1) 179 19 L (r.toList ++ []) M2 Q)) ∧
    (∀ (d : Nat) (a : Int32) (L : List Value) (M : Mem) (Q : Option Value → Mem → Prop), Wp d 179 19 L [.int a] M Q ↔ (if a = 0 then Wp d 179 22 L [] M Q else Wp d 179 25 L [] M Q)) ∧
    (∀ (d : Nat) (L : List Value) (M : Mem) (Q : Option Value → Mem → Prop), Wp d 179 22 L [] M Q ↔ Wp d 179 24 L [.int (-1000000002)] M Q) ∧
    (∀ (d : Nat) (a : Int32) (L : List Value) (M : Mem) (Q : Option Value → Mem → Prop), Wp d 179 24 L [.int a] M Q ↔ Q (some (.int a)) M) ∧
    (∀ (d : Nat) (L : List Value) (M : Mem) (Q : Option Value → Mem → Prop), Wp d 179 25 L [] M Q ↔ Wp d 179 26 L [.int 0] M Q) ∧
    (∀ (d : Nat) (a : Int32) (v0 : Value) (v1 : Value) (v2 : Value) (x : Value) (L : List Value) (M : Mem) (Q : Option Value → Mem → Prop), Wp d 179 26 (v0 :: v1 :: v2 :: x :: L) [.int a] M Q ↔ Wp d 179 27 (v0 :: v1 :: clr v2 :: .int a :: L) [] M Q) ∧
    (∀ (d : Nat) (L : List Value) (M : Mem) (Q : Option Value → Mem → Prop), Wp d 179 27 L [] M Q ↔ Wp d 179 28 L [.int 0] M Q) ∧
    (∀ (d : Nat) (a : Int32) (v0 : Value) (v1 : Value) (v2 : Value) (v3 : Value) (x : Value) (L : List Value) (M : Mem) (Q : Option Value → Mem → Prop), Wp d 179 28 (v0 :: v1 :: v2 :: v3 :: x :: L) [.int a] M Q ↔ Wp d 179 30 (v0 :: v1 :: v2 :: clr v3 :: .int a :: L) [] M Q) ∧
    (∀ (d : Nat) (a : Int32) (x : Nat) (L : List Value) (M : Mem) (Q : Option Value → Mem → Prop), Wp d 179 32 (.ref x :: L) [.int a] M Q ↔ Wp d 179 33 (.ref x :: L) [.ref x, .int a] M Q) ∧
    (∀ (d : Nat) (a : Nat) (b : Int32) (L : List Value) (M : Mem) (Q : Option Value → Mem → Prop), Wp d 179 33 L [.ref a, .int b] M Q ↔ (isK a 12 = true ∧ Wp d 179 36 L [.ref (rt a 0), .int b] M Q)) ∧
    (∀ (d : Nat) (a : Nat) (b : Int32) (L : List Value) (M : Mem) (Q : Option Value → Mem → Prop), Wp d 179 36 L [.ref a, .int b] M Q ↔ Wp d 179 37 L [.int 3, .ref a, .int b] M Q) ∧
    (∀ (d : Nat) (a : Int32) (b : Nat) (c : Int32) (L : List Value) (M : Mem) (Q : Option Value → Mem → Prop), Wp d 179 37 L [.int a, .ref b, .int c] M Q ↔ ((isR b = true ∧ inr a (lnm M b)) ∧ Wp d 179 38 L [.int (M b a.toNatClampNeg), .int c] M Q)) ∧
    (∀ (d : Nat) (a : Int32) (b : Int32) (L : List Value) (M : Mem) (Q : Option Value → Mem → Prop), Wp d 179 38 L [.int a, .int b] M Q ↔ (if b < a then Wp d 179 41 L [] M Q else Wp d 179 75 L [] M Q)) ∧
    (∀ (d : Nat) (v0 : Value) (v1 : Value) (v2 : Value) (x : Int32) (L : List Value) (M : Mem) (Q : Option Value → Mem → Prop), Wp d 179 41 (v0 :: v1 :: v2 :: .int x :: L) [] M Q ↔ Wp d 179 42 (v0 :: v1 :: v2 :: .int x :: L) [.int x] M Q) ∧
    (∀ (d : Nat) (a : Int32) (x : Nat) (L : List Value) (M : Mem) (Q : Option Value → Mem → Prop), Wp d 179 42 (.ref x :: L) [.int a] M Q ↔ Wp d 179 43 (.ref x :: L) [.ref x, .int a] M Q) ∧
    (∀ (d : Nat) (a : Nat) (b : Int32) (v0 : Value) (v1 : Value) (v2 : Value) (v3 : Value) (x : Int32) (L : List Value) (M : Mem) (Q : Option Value → Mem → Prop), Wp d 179 43 (v0 :: v1 :: v2 :: v3 :: .int x :: L) [.ref a, .int b] M Q ↔ Wp d 179 45 (v0 :: v1 :: v2 :: v3 :: .int x :: L) [.int x, .ref a, .int b] M Q) ∧
    (∀ (d : Nat) (a : Int32) (b : Nat) (c : Int32) (x : Nat) (L : List Value) (M : Mem) (Q : Option Value → Mem → Prop), Wp d 179 45 (.ref x :: L) [.int a, .ref b, .int c] M Q ↔ Wp d 179 46 (.ref x :: L) [.ref x, .int a, .ref b, .int c] M Q) ∧
    (∀ (d : Nat) (a : Nat) (b : Int32) (c : Nat) (d2 : Int32) (L : List Value) (M : Mem) (Q : Option Value → Mem → Prop), Wp d 179 46 L [.ref a, .int b, .ref c, .int d2] M Q ↔ (isK a 12 = true ∧ Wp d 179 49 L [.ref (rt a 2), .int b, .ref c, .int d2] M Q)) ∧
    (∀ (d : Nat) (a : Nat) (b : Int32) (c : Nat) (d2 : Int32) (L : List Value) (M : Mem) (Q : Option Value → Mem → Prop), Wp d 179 49 L [.ref a, .int b, .ref c, .int d2] M Q ↔ Wp d 179 51 L [.int 48, .ref a, .int b, .ref c, .int d2] M Q) ∧
    (∀ (d : Nat) (a : Int32) (b : Nat) (c : Int32) (d2 : Nat) (e : Int32) (L : List Value) (M : Mem) (Q : Option Value → Mem → Prop), Wp d 179 51 L [.int a, .ref b, .int c, .ref d2, .int e] M Q ↔ ((isR b = true ∧ inr a (lnm M b)) ∧ Wp d 179 52 L [.int (M b a.toNatClampNeg), .int c, .ref d2, .int e] M Q)) ∧
    (∀ (d : Nat) (a : Int32) (b : Int32) (c : Nat) (d2 : Int32) (L : List Value) (M : Mem) (Q : Option Value → Mem → Prop), Wp (d + 1) 179 52 L [.int a, .int b, .ref c, .int d2] M Q ↔ (isK c 12 = true ∧ Wp d 139 0 [.ref c, .int b, .int a] [] M (fun r M2 => Wp (d + 1) 179 55 L (r.toList ++ [.int d2]) M2 Q))) ∧
    (∀ (d : Nat) (a : Int32) (b : Int32) (v0 : Value) (x : Int32) (L : List Value) (M : Mem) (Q : Option Value → Mem → Prop), Wp d 179 55 (v0 :: .int x :: L) [.int a, .int b] M Q ↔ Wp d 179 56 (v0 :: .int x :: L) [.int x, .int a, .int b] M Q) ∧
    (∀ (d : Nat) (a : Int32) (b : Int32) (c : Int32) (L : List Value) (M : Mem) (Q : Option Value → Mem → Prop), Wp d 179 56 L [.int a, .int b, .int c] M Q ↔ (if a < b then Wp d 179 66 L [.int c] M Q else Wp d 179 59 L [.int c] M Q)) ∧
    (∀ (d : Nat) (a : Int32) (L : List Value) (M : Mem) (Q : Option Value → Mem → Prop), Wp d 179 59 L [.int a] M Q ↔ Wp d 179 60 L [.int 1, .int a] M Q) ∧
    (∀ (d : Nat) (a : Int32) (b : Int32) (v0 : Value) (v1 : Value) (v2 : Value) (v3 : Value) (x : Int32) (L : List Value) (M : Mem) (Q : Option Value → Mem → Prop), Wp d 179 60 (v0 :: v1 :: v2 :: v3 :: .int x :: L) [.int a, .int b] M Q ↔ Wp d 179 62 (v0 :: v1 :: v2 :: v3 :: .int x :: L) [.int x, .int a, .int b] M Q) ∧
    (∀ (d : Nat) (a : Int32) (b : Int32) (c : Int32) (L : List Value) (M : Mem) (Q : Option Value → Mem → Prop), Wp d 179 62 L [.int a, .int b, .int c] M Q ↔ Wp d 179 63 L [.int (b <<< (a &&& 31)), .int c] M Q) ∧
    (∀ (d : Nat) (a : Int32) (b : Int32) (L : List Value) (M : Mem) (Q : Option Value → Mem → Prop), Wp d 179 63 L [.int a, .int b] M Q ↔ Wp d 179 67 L [.int a, .int b] M Q) ∧
    (∀ (d : Nat) (a : Int32) (L : List Value) (M : Mem) (Q : Option Value → Mem → Prop), Wp d 179 66 L [.int a] M Q ↔ Wp d 179 67 L [.int 0, .int a] M Q) ∧
    (∀ (d : Nat) (a : Int32) (b : Int32) (L : List Value) (M : Mem) (Q : Option Value → Mem → Prop), Wp d 179 67 L [.int a, .int b] M Q ↔ Wp d 179 68 L [.int (b ||| a)] M Q) ∧
    (∀ (d : Nat) (a : Int32) (v0 : Value) (v1 : Value) (v2 : Value) (x : Value) (L : List Value) (M : Mem) (Q : Option Value → Mem → Prop), Wp d 179 68 (v0 :: v1 :: v2 :: x :: L) [.int a] M Q ↔ Wp d 179 69 (v0 :: v1 :: clr v2 :: .int a :: L) [] M Q) ∧
    (∀ (d : Nat) (v0 : Value) (v1 : Value) (v2 : Value) (v3 : Value) (x : Int32) (L : List Value) (M : Mem) (Q : Option Value → Mem → Prop), Wp d 179 69 (v0 :: v1 :: v2 :: v3 :: .int x :: L) [] M Q ↔ Wp d 179 72 (v0 :: v1 :: v2 :: clr v3 :: .int (x + 1) :: L) [] M Q) ∧
    (∀ (d : Nat) (L : List Value) (M : Mem) (Q : Option Value → Mem → Prop), Wp d 179 72 L [] M Q ↔ Wp d 179 30 L [] M Q) ∧
    (∀ (d : Nat) (L : List Value) (M : Mem) (Q : Option Value → Mem → Prop), Wp d 179 75 L [] M Q ↔ Wp d 179 76 L [.int 0] M Q) ∧
    (∀ (d : Nat) (a : Int32) (v0 : Value) (v1 : Value) (v2 : Value) (v3 : Value) (x : Value) (L : List Value) (M : Mem) (Q : Option Value → Mem → Prop), Wp d 179 76 (v0 :: v1 :: v2 :: v3 :: x :: L) [.int a] M Q ↔ Wp d 179 78 (v0 :: v1 :: v2 :: clr v3 :: .int a :: L) [] M Q) ∧
    (∀ (d : Nat) (L : List Value) (M : Mem) (Q : Option Value → Mem → Prop), Wp d 179 78 L [] M Q ↔ Wp d 179 79 L [.int 0] M Q) ∧
    (∀ (d : Nat) (a : Int32) (v0 : Value) (v1 : Value) (v2 : Value) (v3 : Value) (v4 : Value) (x : Value) (L : List Value) (M : Mem) (Q : Option Value → Mem → Prop), Wp d 179 79 (v0 :: v1 :: v2 :: v3 :: v4 :: x :: L) [.int a] M Q ↔ Wp d 179 81 (v0 :: v1 :: v2 :: v3 :: clr v4 :: .int a :: L) [] M Q) ∧
    (∀ (d : Nat) (L : List Value) (M : Mem) (Q : Option Value → Mem → Prop), Wp d 179 81 L [] M Q ↔ Wp d 179 82 L [.int 0] M Q) ∧
    (∀ (d : Nat) (a : Int32) (v0 : Value) (v1 : Value) (v2 : Value) (v3 : Value) (v4 : Value) (v5 : Value) (x : Value) (L : List Value) (M : Mem) (Q : Option Value → Mem → Prop), Wp d 179 82 (v0 :: v1 :: v2 :: v3 :: v4 :: v5 :: x :: L) [.int a] M Q ↔ Wp d 179 84 (v0 :: v1 :: v2 :: v3 :: v4 :: clr v5 :: .int a :: L) [] M Q) ∧
    (∀ (d : Nat) (a : Int32) (x : Nat) (L : List Value) (M : Mem) (Q : Option Value → Mem → Prop), Wp d 179 86 (.ref x :: L) [.int a] M Q ↔ Wp d 179 87 (.ref x :: L) [.ref x, .int a] M Q) ∧
    (∀ (d : Nat) (a : Nat) (b : Int32) (L : List Value) (M : Mem) (Q : Option Value → Mem → Prop), Wp d 179 87 L [.ref a, .int b] M Q ↔ (isK a 12 = true ∧ Wp d 179 90 L [.ref (rt a 0), .int b] M Q)) ∧
    (∀ (d : Nat) (a : Nat) (b : Int32) (L : List Value) (M : Mem) (Q : Option Value → Mem → Prop), Wp d 179 90 L [.ref a, .int b] M Q ↔ Wp d 179 91 L [.int 4, .ref a, .int b] M Q) ∧
    (∀ (d : Nat) (a : Int32) (b : Nat) (c : Int32) (L : List Value) (M : Mem) (Q : Option Value → Mem → Prop), Wp d 179 91 L [.int a, .ref b, .int c] M Q ↔ ((isR b = true ∧ inr a (lnm M b)) ∧ Wp d 179 92 L [.int (M b a.toNatClampNeg), .int c] M Q)) ∧
    (∀ (d : Nat) (a : Int32) (b : Int32) (L : List Value) (M : Mem) (Q : Option Value → Mem → Prop), Wp d 179 92 L [.int a, .int b] M Q ↔ (if b < a then Wp d 179 95 L [] M Q else Wp d 179 165 L [] M Q)) ∧
    (∀ (d : Nat) (x : Nat) (L : List Value) (M : Mem) (Q : Option Value → Mem → Prop), Wp d 179 95 (.ref x :: L) [] M Q ↔ Wp d 179 96 (.ref x :: L) [.ref x] M Q) ∧
    (∀ (d : Nat) (a : Nat) (L : List Value) (M : Mem) (Q : Option Value → Mem → Prop), Wp d 179 96 L [.ref a] M Q ↔ (isK a 12 = true ∧ Wp d 179 99 L [.ref (rt a 2)] M Q)) ∧
    (∀ (d : Nat) (a : Nat) (L : List Value) (M : Mem) (Q : Option Value → Mem → Prop), Wp d 179 99 L [.ref a] M Q ↔ Wp d 179 100 L [.int 0, .ref a] M Q) ∧
    (∀ (d : Nat) (a : Int32) (b : Nat) (v0 : Value) (v1 : Value) (v2 : Value) (v3 : Value) (v4 : Value) (v5 : Value) (x : Int32) (L : List Value) (M : Mem) (Q : Option Value → Mem → Prop), Wp d 179 100 (v0 :: v1 :: v2 :: v3 :: v4 :: v5 :: .int x :: L) [.int a, .ref b] M Q ↔ Wp d 179 102 (v0 :: v1 :: v2 :: v3 :: v4 :: v5 :: .int x :: L) [.int x, .int a, .ref b] M Q) ∧
    (∀ (d : Nat) (a : Int32) (b : Int32) (c : Nat) (L : List Value) (M : Mem) (Q : Option Value → Mem → Prop), Wp d 179 102 L [.int a, .int b, .ref c] M Q ↔ Wp d 179 103 L [.int (b + a), .ref c] M Q) ∧
    (∀ (d : Nat) (a : Int32) (b : Nat) (L : List Value) (M : Mem) (Q : Option Value → Mem → Prop), Wp d 179 103 L [.int a, .ref b] M Q ↔ ((isR b = true ∧ inr a (lnm M b)) ∧ Wp d 179 104 L [.int (M b a.toNatClampNeg)] M Q)) ∧
    (∀ (d : Nat) (a : Int32) (L : List Value) (M : Mem) (Q : Option Value → Mem → Prop), Wp d 179 104 L [.int a] M Q ↔ Wp d 179 105 L [.int 3, .int a] M Q) := by
  refine ⟨?_, ?_, ?_, ?_, ?_, ?_, ?_, ?_, ?_, ?_, ?_, ?_, ?_, ?_, ?_, ?_, ?_, ?_, ?_, ?_, ?_, ?_, ?_, ?_, ?_, ?_, ?_, ?_, ?_, ?_, ?_, ?_, ?_, ?_, ?_, ?_, ?_, ?_, ?_, ?_, ?_, ?_, ?_, ?_, ?_, ?_, ?_, ?_, ?_, ?_, ?_, ?_, ?_, ?_, ?_, ?_, ?_, ?_, ?_, ?_⟩
  · intro d v0 x L M Q; exact Wp_sim (by decide +kernel : decode (cd 179) 0 = .ok (.iload_n 1, 1)) rfl rfl
  · intro d a L M Q; exact Wp_sim (by decide +kernel : decode (cd 179) 1 = .ok (.i2l , 1)) rfl rfl
  · intro d a L M Q; exact Wp_sim (by decide +kernel : decode (cd 179) 2 = .ok (.lconst 0, 1)) rfl rfl
  · intro d a b L M Q; exact q_ldc2 (p := 1218) (by decide +kernel : decode (cd 179) 3 = .ok (.ldc2_w 289, 3)) (by decide +kernel)
  · intro d a b c L M Q; exact q_invS (pz := 937) (n := 3) (m := 6) (As := [.long c, .long b, .long a]) (rest := []) (by decide +kernel : decode (cd 179) 6 = .ok (.invokestatic 75, 3)) (by decide +kernel) (by decide +kernel) (by decide +kernel) rfl rfl (Nat.le_of_ble_eq_true rfl) (Nat.le_of_ble_eq_true rfl) rfl
  · intro d a L M Q; exact q_zeq (by decide +kernel : decode (cd 179) 9 = .ok (.ifCond .eq 13, 3)) (by decide)
  · intro d v0 v1 x L M Q; exact Wp_sim (by decide +kernel : decode (cd 179) 12 = .ok (.iload_n 2, 1)) rfl rfl
  · intro d a L M Q; exact Wp_sim (by decide +kernel : decode (cd 179) 13 = .ok (.i2l , 1)) rfl rfl
  · intro d a L M Q; exact Wp_sim (by decide +kernel : decode (cd 179) 14 = .ok (.lconst 0, 1)) rfl rfl
  · intro d a b L M Q; exact Wp_sim (by decide +kernel : decode (cd 179) 15 = .ok (.lconst 1, 1)) rfl rfl
  · intro d a b c L M Q; exact q_invS (pz := 937) (n := 3) (m := 6) (As := [.long c, .long b, .long a]) (rest := []) (by decide +kernel : decode (cd 179) 16 = .ok (.invokestatic 75, 3)) (by decide +kernel) (by decide +kernel) (by decide +kernel) rfl rfl (Nat.le_of_ble_eq_true rfl) (Nat.le_of_ble_eq_true rfl) rfl
  · intro d a L M Q; exact q_zne (by decide +kernel : decode (cd 179) 19 = .ok (.ifCond .ne 6, 3)) (by decide)
  · intro d L M Q; exact q_ldc (p := 940) (by decide +kernel : decode (cd 179) 22 = .ok (.ldc 79, 2)) (by decide +kernel)
  · intro d a L M Q; exact q_iret (by decide +kernel : decode (cd 179) 24 = .ok (.ireturn , 1)) (by decide +kernel)
  · intro d L M Q; exact Wp_sim (by decide +kernel : decode (cd 179) 25 = .ok (.iconst 0, 1)) rfl rfl
  · intro d a v0 v1 v2 x L M Q; exact Wp_sim (by decide +kernel : decode (cd 179) 26 = .ok (.istore_n 3, 1)) rfl rfl
  · intro d L M Q; exact Wp_sim (by decide +kernel : decode (cd 179) 27 = .ok (.iconst 0, 1)) rfl rfl
  · intro d a v0 v1 v2 v3 x L M Q; exact Wp_sim (by decide +kernel : decode (cd 179) 28 = .ok (.istore 4, 2)) rfl rfl
  · intro d a x L M Q; exact Wp_sim (by decide +kernel : decode (cd 179) 32 = .ok (.aload_n 0, 1)) rfl rfl
  · intro d a b L M Q; exact q_getR (p := 843) (by decide +kernel : decode (cd 179) 33 = .ok (.getfield 7, 3)) (by decide +kernel) (by decide +kernel)
  · intro d a b L M Q; exact Wp_sim (by decide +kernel : decode (cd 179) 36 = .ok (.iconst 3, 1)) rfl rfl
  · intro d a b c L M Q; exact q_ald (by decide +kernel : decode (cd 179) 37 = .ok (.iaload , 1))
  · intro d a b L M Q; exact q_ige (by decide +kernel : decode (cd 179) 38 = .ok (.if_icmp .ge 37, 3)) (by decide)
  · intro d v0 v1 v2 x L M Q; exact Wp_sim (by decide +kernel : decode (cd 179) 41 = .ok (.iload_n 3, 1)) rfl rfl
  · intro d a x L M Q; exact Wp_sim (by decide +kernel : decode (cd 179) 42 = .ok (.aload_n 0, 1)) rfl rfl
  · intro d a b v0 v1 v2 v3 x L M Q; exact Wp_sim (by decide +kernel : decode (cd 179) 43 = .ok (.iload 4, 2)) rfl rfl
  · intro d a b c x L M Q; exact Wp_sim (by decide +kernel : decode (cd 179) 45 = .ok (.aload_n 0, 1)) rfl rfl
  · intro d a b c d2 L M Q; exact q_getR (p := 845) (by decide +kernel : decode (cd 179) 46 = .ok (.getfield 16, 3)) (by decide +kernel) (by decide +kernel)
  · intro d a b c d2 L M Q; exact Wp_sim (by decide +kernel : decode (cd 179) 49 = .ok (.bipush 48, 2)) rfl rfl
  · intro d a b c d2 e L M Q; exact q_ald (by decide +kernel : decode (cd 179) 51 = .ok (.iaload , 1))
  · intro d a b c d2 L M Q; exact q_invV (pz := 1045) (n := 2) (c := 12) (m := 3) (k := c) (As := [.int b, .int a]) (rest := [.int d2]) (by decide +kernel : decode (cd 179) 52 = .ok (.invokevirtual 144, 3)) (by decide +kernel) (by decide +kernel) rfl rfl (Nat.le_of_ble_eq_true rfl) (Nat.le_of_ble_eq_true rfl) rfl
  · intro d a b v0 x L M Q; exact Wp_sim (by decide +kernel : decode (cd 179) 55 = .ok (.iload_n 1, 1)) rfl rfl
  · intro d a b c L M Q; exact q_igt (by decide +kernel : decode (cd 179) 56 = .ok (.if_icmp .gt 10, 3)) (by decide)
  · intro d a L M Q; exact Wp_sim (by decide +kernel : decode (cd 179) 59 = .ok (.iconst 1, 1)) rfl rfl
  · intro d a b v0 v1 v2 v3 x L M Q; exact Wp_sim (by decide +kernel : decode (cd 179) 60 = .ok (.iload 4, 2)) rfl rfl
  · intro d a b c L M Q; exact Wp_sim (by decide +kernel : decode (cd 179) 62 = .ok (.ishl , 1)) rfl rfl
  · intro d a b L M Q; exact q_goto (by decide +kernel : decode (cd 179) 63 = .ok (.goto 4, 3)) (by decide)
  · intro d a L M Q; exact Wp_sim (by decide +kernel : decode (cd 179) 66 = .ok (.iconst 0, 1)) rfl rfl
  · intro d a b L M Q; exact Wp_sim (by decide +kernel : decode (cd 179) 67 = .ok (.ior , 1)) rfl rfl
  · intro d a v0 v1 v2 x L M Q; exact Wp_sim (by decide +kernel : decode (cd 179) 68 = .ok (.istore_n 3, 1)) rfl rfl
  · intro d v0 v1 v2 v3 x L M Q; exact Wp_sim (by decide +kernel : decode (cd 179) 69 = .ok (.iinc 4 1, 3)) rfl rfl
  · intro d L M Q; exact q_goto (by decide +kernel : decode (cd 179) 72 = .ok (.goto (-42), 3)) (by decide)
  · intro d L M Q; exact Wp_sim (by decide +kernel : decode (cd 179) 75 = .ok (.iconst 0, 1)) rfl rfl
  · intro d a v0 v1 v2 v3 x L M Q; exact Wp_sim (by decide +kernel : decode (cd 179) 76 = .ok (.istore 4, 2)) rfl rfl
  · intro d L M Q; exact Wp_sim (by decide +kernel : decode (cd 179) 78 = .ok (.iconst 0, 1)) rfl rfl
  · intro d a v0 v1 v2 v3 v4 x L M Q; exact Wp_sim (by decide +kernel : decode (cd 179) 79 = .ok (.istore 5, 2)) rfl rfl
  · intro d L M Q; exact Wp_sim (by decide +kernel : decode (cd 179) 81 = .ok (.iconst 0, 1)) rfl rfl
  · intro d a v0 v1 v2 v3 v4 v5 x L M Q; exact Wp_sim (by decide +kernel : decode (cd 179) 82 = .ok (.istore 6, 2)) rfl rfl
  · intro d a x L M Q; exact Wp_sim (by decide +kernel : decode (cd 179) 86 = .ok (.aload_n 0, 1)) rfl rfl
  · intro d a b L M Q; exact q_getR (p := 843) (by decide +kernel : decode (cd 179) 87 = .ok (.getfield 7, 3)) (by decide +kernel) (by decide +kernel)
  · intro d a b L M Q; exact Wp_sim (by decide +kernel : decode (cd 179) 90 = .ok (.iconst 4, 1)) rfl rfl
  · intro d a b c L M Q; exact q_ald (by decide +kernel : decode (cd 179) 91 = .ok (.iaload , 1))
  · intro d a b L M Q; exact q_ige (by decide +kernel : decode (cd 179) 92 = .ok (.if_icmp .ge 73, 3)) (by decide)
  · intro d x L M Q; exact Wp_sim (by decide +kernel : decode (cd 179) 95 = .ok (.aload_n 0, 1)) rfl rfl
  · intro d a L M Q; exact q_getR (p := 845) (by decide +kernel : decode (cd 179) 96 = .ok (.getfield 16, 3)) (by decide +kernel) (by decide +kernel)
  · intro d a L M Q; exact Wp_sim (by decide +kernel : decode (cd 179) 99 = .ok (.iconst 0, 1)) rfl rfl
  · intro d a b v0 v1 v2 v3 v4 v5 x L M Q; exact Wp_sim (by decide +kernel : decode (cd 179) 100 = .ok (.iload 6, 2)) rfl rfl
  · intro d a b c L M Q; exact Wp_sim (by decide +kernel : decode (cd 179) 102 = .ok (.iadd , 1)) rfl rfl
  · intro d a b L M Q; exact q_ald (by decide +kernel : decode (cd 179) 103 = .ok (.iaload , 1))
  · intro d a L M Q; exact Wp_sim (by decide +kernel : decode (cd 179) 104 = .ok (.iconst 3, 1)) rfl rfl
set_option maxRecDepth 10000 in
theorem e179_1 : (∀ (d : Nat) (a : Int32) (b : Int32) (L : List Value) (M : Mem) (Q : Option Value → Mem → Prop), Wp d 179 105 L [.int a, .int b] M Q ↔ (if b = a then Wp d 179 108 L [] M Q else Wp d 179 112 L [] M Q)) ∧
    (∀ (d : Nat) (L : List Value) (M : Mem) (Q : Option Value → Mem → Prop), Wp d 179 108 L [] M Q ↔ Wp d 179 109 L [.int 0] M Q) ∧
    (∀ (d : Nat) (a : Int32) (L : List Value) (M : Mem) (Q : Option Value → Mem → Prop), Wp d 179 109 L [.int a] M Q ↔ Wp d 179 122 L [.int a] M Q) ∧
    (∀ (d : Nat) (x : Nat) (L : List Value) (M : Mem) (Q : Option Value → Mem → Prop), Wp d 179 112 (.ref x :: L) [] M Q ↔ Wp d 179 113 (.ref x :: L) [.ref x] M Q) ∧
    (∀ (d : Nat) (a : Nat) (L : List Value) (M : Mem) (Q : Option Value → Mem → Prop), Wp d 179 113 L [.ref a] M Q ↔ (isK a 12 = true ∧ Wp d 179 116 L [.ref (rt a 0)] M Q)) ∧
    (∀ (d : Nat) (a : Nat) (L : List Value) (M : Mem) (Q : Option Value → Mem → Prop), Wp d 179 116 L [.ref a] M Q ↔ Wp d 179 118 L [.int 20, .ref a] M Q) ∧
    (∀ (d : Nat) (a : Int32) (b : Nat) (v0 : Value) (v1 : Value) (v2 : Value) (v3 : Value) (v4 : Value) (v5 : Value) (x : Int32) (L : List Value) (M : Mem) (Q : Option Value → Mem → Prop), Wp d 179 118 (v0 :: v1 :: v2 :: v3 :: v4 :: v5 :: .int x :: L) [.int a, .ref b] M Q ↔ Wp d 179 120 (v0 :: v1 :: v2 :: v3 :: v4 :: v5 :: .int x :: L) [.int x, .int a, .ref b] M Q) ∧
    (∀ (d : Nat) (a : Int32) (b : Int32) (c : Nat) (L : List Value) (M : Mem) (Q : Option Value → Mem → Prop), Wp d 179 120 L [.int a, .int b, .ref c] M Q ↔ Wp d 179 121 L [.int (b + a), .ref c] M Q) ∧
    (∀ (d : Nat) (a : Int32) (b : Nat) (L : List Value) (M : Mem) (Q : Option Value → Mem → Prop), Wp d 179 121 L [.int a, .ref b] M Q ↔ ((isR b = true ∧ inr a (lnm M b)) ∧ Wp d 179 122 L [.int (M b a.toNatClampNeg)] M Q)) ∧
    (∀ (d : Nat) (a : Int32) (v0 : Value) (v1 : Value) (v2 : Value) (v3 : Value) (v4 : Value) (v5 : Value) (v6 : Value) (x : Value) (L : List Value) (M : Mem) (Q : Option Value → Mem → Prop), Wp d 179 122 (v0 :: v1 :: v2 :: v3 :: v4 :: v5 :: v6 :: x :: L) [.int a] M Q ↔ Wp d 179 124 (v0 :: v1 :: v2 :: v3 :: v4 :: v5 :: clr v6 :: .int a :: L) [] M Q) ∧
    (∀ (d : Nat) (v0 : Value) (v1 : Value) (v2 : Value) (v3 : Value) (x : Int32) (L : List Value) (M : Mem) (Q : Option Value → Mem → Prop), Wp d 179 124 (v0 :: v1 :: v2 :: v3 :: .int x :: L) [] M Q ↔ Wp d 179 126 (v0 :: v1 :: v2 :: v3 :: .int x :: L) [.int x] M Q) ∧
    (∀ (d : Nat) (a : Int32) (v0 : Value) (v1 : Value) (v2 : Value) (v3 : Value) (v4 : Value) (v5 : Value) (v6 : Value) (x : Int32) (L : List Value) (M : Mem) (Q : Option Value → Mem → Prop), Wp d 179 126 (v0 :: v1 :: v2 :: v3 :: v4 :: v5 :: v6 :: .int x :: L) [.int a] M Q ↔ Wp d 179 128 (v0 :: v1 :: v2 :: v3 :: v4 :: v5 :: v6 :: .int x :: L) [.int x, .int a] M Q) ∧
    (∀ (d : Nat) (a : Int32) (b : Int32) (L : List Value) (M : Mem) (Q : Option Value → Mem → Prop), Wp d 179 128 L [.int a, .int b] M Q ↔ Wp d 179 129 L [.int (b + a)] M Q) ∧
    (∀ (d : Nat) (a : Int32) (v0 : Value) (v1 : Value) (v2 : Value) (v3 : Value) (x : Value) (L : List Value) (M : Mem) (Q : Option Value → Mem → Prop), Wp d 179 129 (v0 :: v1 :: v2 :: v3 :: x :: L) [.int a] M Q ↔ Wp d 179 131 (v0 :: v1 :: v2 :: clr v3 :: .int a :: L) [] M Q) ∧
    (∀ (d : Nat) (v0 : Value) (v1 : Value) (v2 : Value) (v3 : Value) (v4 : Value) (x : Int32) (L : List Value) (M : Mem) (Q : Option Value → Mem → Prop), Wp d 179 131 (v0 :: v1 :: v2 :: v3 :: v4 :: .int x :: L) [] M Q ↔ Wp d 179 133 (v0 :: v1 :: v2 :: v3 :: v4 :: .int x :: L) [.int x] M Q) ∧
    (∀ (d : Nat) (a : Int32) (v0 : Value) (v1 : Value) (v2 : Value) (x : Int32) (L : List Value) (M : Mem) (Q : Option Value → Mem → Prop), Wp d 179 133 (v0 :: v1 :: v2 :: .int x :: L) [.int a] M Q ↔ Wp d 179 134 (v0 :: v1 :: v2 :: .int x :: L) [.int x, .int a] M Q) ∧
    (∀ (d : Nat) (a : Int32) (b : Int32) (x : Nat) (L : List Value) (M : Mem) (Q : Option Value → Mem → Prop), Wp d 179 134 (.ref x :: L) [.int a, .int b] M Q ↔ Wp d 179 135 (.ref x :: L) [.ref x, .int a, .int b] M Q) ∧
    (∀ (d : Nat) (a : Nat) (b : Int32) (c : Int32) (L : List Value) (M : Mem) (Q : Option Value → Mem → Prop), Wp d 179 135 L [.ref a, .int b, .int c] M Q ↔ (isK a 12 = true ∧ Wp d 179 138 L [.ref (rt a 0), .int b, .int c] M Q)) ∧
    (∀ (d : Nat) (a : Nat) (b : Int32) (c : Int32) (L : List Value) (M : Mem) (Q : Option Value → Mem → Prop), Wp d 179 138 L [.ref a, .int b, .int c] M Q ↔ Wp d 179 140 L [.int 14, .ref a, .int b, .int c] M Q) ∧
    (∀ (d : Nat) (a : Int32) (b : Nat) (c : Int32) (d2 : Int32) (v0 : Value) (v1 : Value) (v2 : Value) (v3 : Value) (v4 : Value) (v5 : Value) (x : Int32) (L : List Value) (M : Mem) (Q : Option Value → Mem → Prop), Wp d 179 140 (v0 :: v1 :: v2 :: v3 :: v4 :: v5 :: .int x :: L) [.int a, .ref b, .int c, .int d2] M Q ↔ Wp d 179 142 (v0 :: v1 :: v2 :: v3 :: v4 :: v5 :: .int x :: L) [.int x, .int a, .ref b, .int c, .int d2] M Q) ∧
    (∀ (d : Nat) (a : Int32) (b : Int32) (c : Nat) (d2 : Int32) (e : Int32) (L : List Value) (M : Mem) (Q : Option Value → Mem → Prop), Wp d 179 142 L [.int a, .int b, .ref c, .int d2, .int e] M Q ↔ Wp d 179 143 L [.int (b + a), .ref c, .int d2, .int e] M Q) ∧
    (∀ (d : Nat) (a : Int32) (b : Nat) (c : Int32) (d2 : Int32) (L : List Value) (M : Mem) (Q : Option Value → Mem → Prop), Wp d 179 143 L [.int a, .ref b, .int c, .int d2] M Q ↔ ((isR b = true ∧ inr a (lnm M b)) ∧ Wp d 179 144 L [.int (M b a.toNatClampNeg), .int c, .int d2] M Q)) ∧
    (∀ (d : Nat) (a : Int32) (b : Int32) (c : Int32) (L : List Value) (M : Mem) (Q : Option Value → Mem → Prop), Wp (d + 1) 179 144 L [.int a, .int b, .int c] M Q ↔ Wp d 129 0 [.int b, .int a] [] M (fun r M2 => Wp (d + 1) 179 147 L (r.toList ++ [.int c]) M2 Q)) ∧
    (∀ (d : Nat) (a : Int32) (b : Int32) (L : List Value) (M : Mem) (Q : Option Value → Mem → Prop), Wp d 179 147 L [.int a, .int b] M Q ↔ (if a = 0 then Wp d 179 155 L [.int b] M Q else Wp d 179 150 L [.int b] M Q)) ∧
    (∀ (d : Nat) (a : Int32) (v0 : Value) (v1 : Value) (v2 : Value) (v3 : Value) (v4 : Value) (v5 : Value) (v6 : Value) (x : Int32) (L : List Value) (M : Mem) (Q : Option Value → Mem → Prop), Wp d 179 150 (v0 :: v1 :: v2 :: v3 :: v4 :: v5 :: v6 :: .int x :: L) [.int a] M Q ↔ Wp d 179 152 (v0 :: v1 :: v2 :: v3 :: v4 :: v5 :: v6 :: .int x :: L) [.int x, .int a] M Q) ∧
    (∀ (d : Nat) (a : Int32) (b : Int32) (L : List Value) (M : Mem) (Q : Option Value → Mem → Prop), Wp d 179 152 L [.int a, .int b] M Q ↔ Wp d 179 156 L [.int a, .int b] M Q) ∧
    (∀ (d : Nat) (a : Int32) (L : List Value) (M : Mem) (Q : Option Value → Mem → Prop), Wp d 179 155 L [.int a] M Q ↔ Wp d 179 156 L [.int 0, .int a] M Q) ∧
    (∀ (d : Nat) (a : Int32) (b : Int32) (L : List Value) (M : Mem) (Q : Option Value → Mem → Prop), Wp d 179 156 L [.int a, .int b] M Q ↔ Wp d 179 157 L [.int (b + a)] M Q) ∧
    (∀ (d : Nat) (a : Int32) (v0 : Value) (v1 : Value) (v2 : Value) (v3 : Value) (v4 : Value) (x : Value) (L : List Value) (M : Mem) (Q : Option Value → Mem → Prop), Wp d 179 157 (v0 :: v1 :: v2 :: v3 :: v4 :: x :: L) [.int a] M Q ↔ Wp d 179 159 (v0 :: v1 :: v2 :: v3 :: clr v4 :: .int a :: L) [] M Q) ∧
    (∀ (d : Nat) (v0 : Value) (v1 : Value) (v2 : Value) (v3 : Value) (v4 : Value) (v5 : Value) (x : Int32) (L : List Value) (M : Mem) (Q : Option Value → Mem → Prop), Wp d 179 159 (v0 :: v1 :: v2 :: v3 :: v4 :: v5 :: .int x :: L) [] M Q ↔ Wp d 179 162 (v0 :: v1 :: v2 :: v3 :: v4 :: clr v5 :: .int (x + 1) :: L) [] M Q) ∧
    (∀ (d : Nat) (L : List Value) (M : Mem) (Q : Option Value → Mem → Prop), Wp d 179 162 L [] M Q ↔ Wp d 179 84 L [] M Q) ∧
    (∀ (d : Nat) (v0 : Value) (v1 : Value) (x : Int32) (L : List Value) (M : Mem) (Q : Option Value → Mem → Prop), Wp d 179 165 (v0 :: v1 :: .int x :: L) [] M Q ↔ Wp d 179 166 (v0 :: v1 :: .int x :: L) [.int x] M Q) ∧
    (∀ (d : Nat) (a : Int32) (L : List Value) (M : Mem) (Q : Option Value → Mem → Prop), Wp d 179 166 L [.int a] M Q ↔ (if a = 0 then Wp d 179 169 L [] M Q else Wp d 179 173 L [] M Q)) ∧
    (∀ (d : Nat) (v0 : Value) (v1 : Value) (v2 : Value) (x : Int32) (L : List Value) (M : Mem) (Q : Option Value → Mem → Prop), Wp d 179 169 (v0 :: v1 :: v2 :: .int x :: L) [] M Q ↔ Wp d 179 170 (v0 :: v1 :: v2 :: .int x :: L) [.int x] M Q) ∧
    (∀ (d : Nat) (a : Int32) (L : List Value) (M : Mem) (Q : Option Value → Mem → Prop), Wp d 179 170 L [.int a] M Q ↔ Wp d 179 187 L [.int a] M Q) ∧
    (∀ (d : Nat) (L : List Value) (M : Mem) (Q : Option Value → Mem → Prop), Wp d 179 173 L [] M Q ↔ Wp d 179 174 L [.int 2] M Q) ∧
    (∀ (d : Nat) (a : Int32) (v0 : Value) (v1 : Value) (v2 : Value) (v3 : Value) (v4 : Value) (x : Int32) (L : List Value) (M : Mem) (Q : Option Value → Mem → Prop), Wp d 179 174 (v0 :: v1 :: v2 :: v3 :: v4 :: .int x :: L) [.int a] M Q ↔ Wp d 179 176 (v0 :: v1 :: v2 :: v3 :: v4 :: .int x :: L) [.int x, .int a] M Q) ∧
    (∀ (d : Nat) (a : Int32) (b : Int32) (L : List Value) (M : Mem) (Q : Option Value → Mem → Prop), Wp d 179 176 L [.int a, .int b] M Q ↔ Wp d 179 177 L [.int (b * a)] M Q) ∧
    (∀ (d : Nat) (a : Int32) (v0 : Value) (v1 : Value) (v2 : Value) (v3 : Value) (x : Int32) (L : List Value) (M : Mem) (Q : Option Value → Mem → Prop), Wp d 179 177 (v0 :: v1 :: v2 :: v3 :: .int x :: L) [.int a] M Q ↔ Wp d 179 179 (v0 :: v1 :: v2 :: v3 :: .int x :: L) [.int x, .int a] M Q) ∧
    (∀ (d : Nat) (a : Int32) (b : Int32) (L : List Value) (M : Mem) (Q : Option Value → Mem → Prop), Wp d 179 179 L [.int a, .int b] M Q ↔ (if a < b then Wp d 179 182 L [] M Q else Wp d 179 186 L [] M Q)) ∧
    (∀ (d : Nat) (L : List Value) (M : Mem) (Q : Option Value → Mem → Prop), Wp d 179 182 L [] M Q ↔ Wp d 179 183 L [.int 1] M Q) ∧
    (∀ (d : Nat) (a : Int32) (L : List Value) (M : Mem) (Q : Option Value → Mem → Prop), Wp d 179 183 L [.int a] M Q ↔ Wp d 179 187 L [.int a] M Q) ∧
    (∀ (d : Nat) (L : List Value) (M : Mem) (Q : Option Value → Mem → Prop), Wp d 179 186 L [] M Q ↔ Wp d 179 187 L [.int 0] M Q) ∧
    (∀ (d : Nat) (a : Int32) (L : List Value) (M : Mem) (Q : Option Value → Mem → Prop), Wp d 179 187 L [.int a] M Q ↔ Q (some (.int a)) M) := by
  refine ⟨?_, ?_, ?_, ?_, ?_, ?_, ?_, ?_, ?_, ?_, ?_, ?_, ?_, ?_, ?_, ?_, ?_, ?_, ?_, ?_, ?_, ?_, ?_, ?_, ?_, ?_, ?_, ?_, ?_, ?_, ?_, ?_, ?_, ?_, ?_, ?_, ?_, ?_, ?_, ?_, ?_, ?_, ?_, ?_⟩
  · intro d a b L M Q; exact q_ine (by decide +kernel : decode (cd 179) 105 = .ok (.if_icmp .ne 7, 3)) (by decide)
  · intro d L M Q; exact Wp_sim (by decide +kernel : decode (cd 179) 108 = .ok (.iconst 0, 1)) rfl rfl
  · intro d a L M Q; exact q_goto (by decide +kernel : decode (cd 179) 109 = .ok (.goto 13, 3)) (by decide)
  · intro d x L M Q; exact Wp_sim (by decide +kernel : decode (cd 179) 112 = .ok (.aload_n 0, 1)) rfl rfl
  · intro d a L M Q; exact q_getR (p := 843) (by decide +kernel : decode (cd 179) 113 = .ok (.getfield 7, 3)) (by decide +kernel) (by decide +kernel)
  · intro d a L M Q; exact Wp_sim (by decide +kernel : decode (cd 179) 116 = .ok (.bipush 20, 2)) rfl rfl
  · intro d a b v0 v1 v2 v3 v4 v5 x L M Q; exact Wp_sim (by decide +kernel : decode (cd 179) 118 = .ok (.iload 6, 2)) rfl rfl
  · intro d a b c L M Q; exact Wp_sim (by decide +kernel : decode (cd 179) 120 = .ok (.iadd , 1)) rfl rfl
  · intro d a b L M Q; exact q_ald (by decide +kernel : decode (cd 179) 121 = .ok (.iaload , 1))
  · intro d a v0 v1 v2 v3 v4 v5 v6 x L M Q; exact Wp_sim (by decide +kernel : decode (cd 179) 122 = .ok (.istore 7, 2)) rfl rfl
  · intro d v0 v1 v2 v3 x L M Q; exact Wp_sim (by decide +kernel : decode (cd 179) 124 = .ok (.iload 4, 2)) rfl rfl
  · intro d a v0 v1 v2 v3 v4 v5 v6 x L M Q; exact Wp_sim (by decide +kernel : decode (cd 179) 126 = .ok (.iload 7, 2)) rfl rfl
  · intro d a b L M Q; exact Wp_sim (by decide +kernel : decode (cd 179) 128 = .ok (.iadd , 1)) rfl rfl
  · intro d a v0 v1 v2 v3 x L M Q; exact Wp_sim (by decide +kernel : decode (cd 179) 129 = .ok (.istore 4, 2)) rfl rfl
  · intro d v0 v1 v2 v3 v4 x L M Q; exact Wp_sim (by decide +kernel : decode (cd 179) 131 = .ok (.iload 5, 2)) rfl rfl
  · intro d a v0 v1 v2 x L M Q; exact Wp_sim (by decide +kernel : decode (cd 179) 133 = .ok (.iload_n 3, 1)) rfl rfl
  · intro d a b x L M Q; exact Wp_sim (by decide +kernel : decode (cd 179) 134 = .ok (.aload_n 0, 1)) rfl rfl
  · intro d a b c L M Q; exact q_getR (p := 843) (by decide +kernel : decode (cd 179) 135 = .ok (.getfield 7, 3)) (by decide +kernel) (by decide +kernel)
  · intro d a b c L M Q; exact Wp_sim (by decide +kernel : decode (cd 179) 138 = .ok (.bipush 14, 2)) rfl rfl
  · intro d a b c d2 v0 v1 v2 v3 v4 v5 x L M Q; exact Wp_sim (by decide +kernel : decode (cd 179) 140 = .ok (.iload 6, 2)) rfl rfl
  · intro d a b c d2 e L M Q; exact Wp_sim (by decide +kernel : decode (cd 179) 142 = .ok (.iadd , 1)) rfl rfl
  · intro d a b c d2 L M Q; exact q_ald (by decide +kernel : decode (cd 179) 143 = .ok (.iaload , 1))
  · intro d a b c L M Q; exact q_invS (pz := 1007) (n := 2) (m := 2) (As := [.int b, .int a]) (rest := [.int c]) (by decide +kernel : decode (cd 179) 144 = .ok (.invokestatic 154, 3)) (by decide +kernel) (by decide +kernel) (by decide +kernel) rfl rfl (Nat.le_of_ble_eq_true rfl) (Nat.le_of_ble_eq_true rfl) rfl
  · intro d a b L M Q; exact q_zeq (by decide +kernel : decode (cd 179) 147 = .ok (.ifCond .eq 8, 3)) (by decide)
  · intro d a v0 v1 v2 v3 v4 v5 v6 x L M Q; exact Wp_sim (by decide +kernel : decode (cd 179) 150 = .ok (.iload 7, 2)) rfl rfl
  · intro d a b L M Q; exact q_goto (by decide +kernel : decode (cd 179) 152 = .ok (.goto 4, 3)) (by decide)
  · intro d a L M Q; exact Wp_sim (by decide +kernel : decode (cd 179) 155 = .ok (.iconst 0, 1)) rfl rfl
  · intro d a b L M Q; exact Wp_sim (by decide +kernel : decode (cd 179) 156 = .ok (.iadd , 1)) rfl rfl
  · intro d a v0 v1 v2 v3 v4 x L M Q; exact Wp_sim (by decide +kernel : decode (cd 179) 157 = .ok (.istore 5, 2)) rfl rfl
  · intro d v0 v1 v2 v3 v4 v5 x L M Q; exact Wp_sim (by decide +kernel : decode (cd 179) 159 = .ok (.iinc 6 1, 3)) rfl rfl
  · intro d L M Q; exact q_goto (by decide +kernel : decode (cd 179) 162 = .ok (.goto (-78), 3)) (by decide)
  · intro d v0 v1 x L M Q; exact Wp_sim (by decide +kernel : decode (cd 179) 165 = .ok (.iload_n 2, 1)) rfl rfl
  · intro d a L M Q; exact q_zne (by decide +kernel : decode (cd 179) 166 = .ok (.ifCond .ne 7, 3)) (by decide)
  · intro d v0 v1 v2 x L M Q; exact Wp_sim (by decide +kernel : decode (cd 179) 169 = .ok (.iload_n 3, 1)) rfl rfl
  · intro d a L M Q; exact q_goto (by decide +kernel : decode (cd 179) 170 = .ok (.goto 17, 3)) (by decide)
  · intro d L M Q; exact Wp_sim (by decide +kernel : decode (cd 179) 173 = .ok (.iconst 2, 1)) rfl rfl
  · intro d a v0 v1 v2 v3 v4 x L M Q; exact Wp_sim (by decide +kernel : decode (cd 179) 174 = .ok (.iload 5, 2)) rfl rfl
  · intro d a b L M Q; exact Wp_sim (by decide +kernel : decode (cd 179) 176 = .ok (.imul , 1)) rfl rfl
  · intro d a v0 v1 v2 v3 x L M Q; exact Wp_sim (by decide +kernel : decode (cd 179) 177 = .ok (.iload 4, 2)) rfl rfl
  · intro d a b L M Q; exact q_ile (by decide +kernel : decode (cd 179) 179 = .ok (.if_icmp .le 7, 3)) (by decide)
  · intro d L M Q; exact Wp_sim (by decide +kernel : decode (cd 179) 182 = .ok (.iconst 1, 1)) rfl rfl
  · intro d a L M Q; exact q_goto (by decide +kernel : decode (cd 179) 183 = .ok (.goto 4, 3)) (by decide)
  · intro d L M Q; exact Wp_sim (by decide +kernel : decode (cd 179) 186 = .ok (.iconst 0, 1)) rfl rfl
  · intro d a L M Q; exact q_iret (by decide +kernel : decode (cd 179) 187 = .ok (.ireturn , 1)) (by decide +kernel)
theorem h179_30 : (∀ (d : Nat) (v0 : Value) (v1 : Value) (v2 : Value) (v3 : Value) (x : Int32) (L : List Value) (M : Mem) (Q : Option Value → Mem → Prop), Wp d 179 30 (v0 :: v1 :: v2 :: v3 :: .int x :: L) [] M Q ↔ Wp d 179 32 (v0 :: v1 :: v2 :: v3 :: .int x :: L) [.int x] M Q) := by
  intro d v0 v1 v2 v3 x L M Q; exact Wp_sim (by decide +kernel : decode (cd 179) 30 = .ok (.iload 4, 2)) rfl rfl
theorem h179_84 : (∀ (d : Nat) (v0 : Value) (v1 : Value) (v2 : Value) (v3 : Value) (v4 : Value) (v5 : Value) (x : Int32) (L : List Value) (M : Mem) (Q : Option Value → Mem → Prop), Wp d 179 84 (v0 :: v1 :: v2 :: v3 :: v4 :: v5 :: .int x :: L) [] M Q ↔ Wp d 179 86 (v0 :: v1 :: v2 :: v3 :: v4 :: v5 :: .int x :: L) [.int x] M Q) := by
  intro d v0 v1 v2 v3 v4 v5 x L M Q; exact Wp_sim (by decide +kernel : decode (cd 179) 84 = .ok (.iload 6, 2)) rfl rfl

/- 180: PalaceYardModel.year -/
set_option maxRecDepth 10000 in
theorem e180 : (∀ (d : Nat) (x : Nat) (L : List Value) (M : Mem) (Q : Option Value → Mem → Prop), Wp d 180 0 (.ref x :: L) [] M Q ↔ Wp d 180 1 (.ref x :: L) [.ref x] M Q) ∧
    (∀ (d : Nat) (a : Nat) (v0 : Value) (x : Int32) (L : List Value) (M : Mem) (Q : Option Value → Mem → Prop), Wp d 180 1 (v0 :: .int x :: L) [.ref a] M Q ↔ Wp d 180 2 (v0 :: .int x :: L) [.int x, .ref a] M Q) ∧
    (∀ (d : Nat) (a : Int32) (b : Nat) (L : List Value) (M : Mem) (Q : Option Value → Mem → Prop), Wp (d + 1) 180 2 L [.int a, .ref b] M Q ↔ (isK b 12 = true ∧ Wp d 141 0 [.ref b, .int a] [] M (fun r M2 => Wp (d + 1) 180 5 L (r.toList ++ []) M2 Q))) ∧
    (∀ (d : Nat) (a : Int32) (L : List Value) (M : Mem) (Q : Option Value → Mem → Prop), Wp d 180 5 L [.int a] M Q ↔ (if a = 0 then Wp d 180 8 L [] M Q else Wp d 180 11 L [] M Q)) ∧
    (∀ (d : Nat) (L : List Value) (M : Mem) (Q : Option Value → Mem → Prop), Wp d 180 8 L [] M Q ↔ Wp d 180 10 L [.int (-1000000001)] M Q) ∧
    (∀ (d : Nat) (a : Int32) (L : List Value) (M : Mem) (Q : Option Value → Mem → Prop), Wp d 180 10 L [.int a] M Q ↔ Q (some (.int a)) M) ∧
    (∀ (d : Nat) (v0 : Value) (v1 : Value) (x : Int32) (L : List Value) (M : Mem) (Q : Option Value → Mem → Prop), Wp d 180 11 (v0 :: v1 :: .int x :: L) [] M Q ↔ Wp d 180 12 (v0 :: v1 :: .int x :: L) [.int x] M Q) ∧
    (∀ (d : Nat) (a : Int32) (L : List Value) (M : Mem) (Q : Option Value → Mem → Prop), Wp d 180 12 L [.int a] M Q ↔ Wp d 180 13 L [.long a.toInt64] M Q) ∧
    (∀ (d : Nat) (a : Int64) (L : List Value) (M : Mem) (Q : Option Value → Mem → Prop), Wp d 180 13 L [.long a] M Q ↔ Wp d 180 14 L [.long 0, .long a] M Q) ∧
    (∀ (d : Nat) (a : Int64) (b : Int64) (L : List Value) (M : Mem) (Q : Option Value → Mem → Prop), Wp d 180 14 L [.long a, .long b] M Q ↔ Wp d 180 17 L [.long 60, .long a, .long b] M Q) ∧
    (∀ (d : Nat) (a : Int64) (b : Int64) (c : Int64) (L : List Value) (M : Mem) (Q : Option Value → Mem → Prop), Wp (d + 1) 180 17 L [.long a, .long b, .long c] M Q ↔ Wp d 112 0 [.long c, .null, .long b, .null, .long a, .null] [] M (fun r M2 => Wp (d + 1) 180 20 L (r.toList ++ []) M2 Q)) ∧
    (∀ (d : Nat) (a : Int32) (L : List Value) (M : Mem) (Q : Option Value → Mem → Prop), Wp d 180 20 L [.int a] M Q ↔ (if a = 0 then Wp d 180 23 L [] M Q else Wp d 180 26 L [] M Q)) ∧
    (∀ (d : Nat) (L : List Value) (M : Mem) (Q : Option Value → Mem → Prop), Wp d 180 23 L [] M Q ↔ Wp d 180 25 L [.int (-1000000002)] M Q) ∧
    (∀ (d : Nat) (a : Int32) (L : List Value) (M : Mem) (Q : Option Value → Mem → Prop), Wp d 180 25 L [.int a] M Q ↔ Q (some (.int a)) M) ∧
    (∀ (d : Nat) (x : Nat) (L : List Value) (M : Mem) (Q : Option Value → Mem → Prop), Wp d 180 26 (.ref x :: L) [] M Q ↔ Wp d 180 27 (.ref x :: L) [.ref x] M Q) ∧
    (∀ (d : Nat) (a : Nat) (L : List Value) (M : Mem) (Q : Option Value → Mem → Prop), Wp d 180 27 L [.ref a] M Q ↔ (isK a 12 = true ∧ Wp d 180 30 L [.ref (rt a 2)] M Q)) ∧
    (∀ (d : Nat) (a : Nat) (L : List Value) (M : Mem) (Q : Option Value → Mem → Prop), Wp d 180 30 L [.ref a] M Q ↔ Wp d 180 32 L [.int 6, .ref a] M Q) ∧
    (∀ (d : Nat) (a : Int32) (b : Nat) (v0 : Value) (x : Int32) (L : List Value) (M : Mem) (Q : Option Value → Mem → Prop), Wp d 180 32 (v0 :: .int x :: L) [.int a, .ref b] M Q ↔ Wp d 180 33 (v0 :: .int x :: L) [.int x, .int a, .ref b] M Q) ∧
    (∀ (d : Nat) (a : Int32) (b : Int32) (c : Nat) (L : List Value) (M : Mem) (Q : Option Value → Mem → Prop), Wp d 180 33 L [.int a, .int b, .ref c] M Q ↔ Wp d 180 34 L [.int (b + a), .ref c] M Q) ∧
    (∀ (d : Nat) (a : Int32) (b : Nat) (L : List Value) (M : Mem) (Q : Option Value → Mem → Prop), Wp d 180 34 L [.int a, .ref b] M Q ↔ ((isR b = true ∧ inr a (lnm M b)) ∧ Wp d 180 35 L [.int (M b a.toNatClampNeg)] M Q)) ∧
    (∀ (d : Nat) (a : Int32) (v0 : Value) (v1 : Value) (v2 : Value) (x : Value) (L : List Value) (M : Mem) (Q : Option Value → Mem → Prop), Wp d 180 35 (v0 :: v1 :: v2 :: x :: L) [.int a] M Q ↔ Wp d 180 36 (v0 :: v1 :: clr v2 :: .int a :: L) [] M Q) ∧
    (∀ (d : Nat) (L : List Value) (M : Mem) (Q : Option Value → Mem → Prop), Wp d 180 36 L [] M Q ↔ Wp d 180 37 L [.int 0] M Q) ∧
    (∀ (d : Nat) (a : Int32) (v0 : Value) (v1 : Value) (v2 : Value) (v3 : Value) (x : Value) (L : List Value) (M : Mem) (Q : Option Value → Mem → Prop), Wp d 180 37 (v0 :: v1 :: v2 :: v3 :: x :: L) [.int a] M Q ↔ Wp d 180 39 (v0 :: v1 :: v2 :: clr v3 :: .int a :: L) [] M Q) ∧
    (∀ (d : Nat) (a : Int32) (v0 : Value) (v1 : Value) (x : Int32) (L : List Value) (M : Mem) (Q : Option Value → Mem → Prop), Wp d 180 41 (v0 :: v1 :: .int x :: L) [.int a] M Q ↔ Wp d 180 42 (v0 :: v1 :: .int x :: L) [.int x, .int a] M Q) ∧
    (∀ (d : Nat) (a : Int32) (b : Int32) (L : List Value) (M : Mem) (Q : Option Value → Mem → Prop), Wp d 180 42 L [.int a, .int b] M Q ↔ (if b < a then Wp d 180 45 L [] M Q else Wp d 180 59 L [] M Q)) ∧
    (∀ (d : Nat) (x : Nat) (L : List Value) (M : Mem) (Q : Option Value → Mem → Prop), Wp d 180 45 (.ref x :: L) [] M Q ↔ Wp d 180 46 (.ref x :: L) [.ref x] M Q) ∧
    (∀ (d : Nat) (a : Nat) (v0 : Value) (x : Int32) (L : List Value) (M : Mem) (Q : Option Value → Mem → Prop), Wp d 180 46 (v0 :: .int x :: L) [.ref a] M Q ↔ Wp d 180 47 (v0 :: .int x :: L) [.int x, .ref a] M Q) ∧
    (∀ (d : Nat) (a : Int32) (b : Nat) (v0 : Value) (v1 : Value) (v2 : Value) (x : Int32) (L : List Value) (M : Mem) (Q : Option Value → Mem → Prop), Wp d 180 47 (v0 :: v1 :: v2 :: .int x :: L) [.int a, .ref b] M Q ↔ Wp d 180 48 (v0 :: v1 :: v2 :: .int x :: L) [.int x, .int a, .ref b] M Q) ∧
    (∀ (d : Nat) (a : Int32) (b : Int32) (c : Nat) (L : List Value) (M : Mem) (Q : Option Value → Mem → Prop), Wp d 180 48 L [.int a, .int b, .ref c] M Q ↔ Wp d 180 49 L [.int 1, .int a, .int b, .ref c] M Q) ∧
    (∀ (d : Nat) (a : Int32) (b : Int32) (c : Int32) (d2 : Nat) (L : List Value) (M : Mem) (Q : Option Value → Mem → Prop), Wp (d + 1) 180 49 L [.int a, .int b, .int c, .ref d2] M Q ↔ (isK d2 12 = true ∧ Wp d 131 0 [.ref d2, .int c, .int b, .int a] [] M (fun r M2 => Wp (d + 1) 180 52 L (r.toList ++ []) M2 Q))) ∧
    (∀ (d : Nat) (a : Int32) (v0 : Value) (v1 : Value) (v2 : Value) (x : Value) (L : List Value) (M : Mem) (Q : Option Value → Mem → Prop), Wp d 180 52 (v0 :: v1 :: v2 :: x :: L) [.int a] M Q ↔ Wp d 180 53 (v0 :: v1 :: clr v2 :: .int a :: L) [] M Q) ∧
    (∀ (d : Nat) (v0 : Value) (v1 : Value) (v2 : Value) (v3 : Value) (x : Int32) (L : List Value) (M : Mem) (Q : Option Value → Mem → Prop), Wp d 180 53 (v0 :: v1 :: v2 :: v3 :: .int x :: L) [] M Q ↔ Wp d 180 56 (v0 :: v1 :: v2 :: clr v3 :: .int (x + 1) :: L) [] M Q) ∧
    (∀ (d : Nat) (L : List Value) (M : Mem) (Q : Option Value → Mem → Prop), Wp d 180 56 L [] M Q ↔ Wp d 180 39 L [] M Q) ∧
    (∀ (d : Nat) (v0 : Value) (v1 : Value) (v2 : Value) (x : Int32) (L : List Value) (M : Mem) (Q : Option Value → Mem → Prop), Wp d 180 59 (v0 :: v1 :: v2 :: .int x :: L) [] M Q ↔ Wp d 180 60 (v0 :: v1 :: v2 :: .int x :: L) [.int x] M Q) ∧
    (∀ (d : Nat) (a : Int32) (L : List Value) (M : Mem) (Q : Option Value → Mem → Prop), Wp d 180 60 L [.int a] M Q ↔ Wp d 180 63 L [.int 10000, .int a] M Q) ∧
    (∀ (d : Nat) (a : Int32) (b : Int32) (L : List Value) (M : Mem) (Q : Option Value → Mem → Prop), Wp d 180 63 L [.int a, .int b] M Q ↔ Wp d 180 64 L [.int (b + a)] M Q) ∧
    (∀ (d : Nat) (a : Int32) (L : List Value) (M : Mem) (Q : Option Value → Mem → Prop), Wp d 180 64 L [.int a] M Q ↔ Q (some (.int a)) M) := by
  refine ⟨?_, ?_, ?_, ?_, ?_, ?_, ?_, ?_, ?_, ?_, ?_, ?_, ?_, ?_, ?_, ?_, ?_, ?_, ?_, ?_, ?_, ?_, ?_, ?_, ?_, ?_, ?_, ?_, ?_, ?_, ?_, ?_, ?_, ?_, ?_, ?_, ?_⟩
  · intro d x L M Q; exact Wp_sim (by decide +kernel : decode (cd 180) 0 = .ok (.aload_n 0, 1)) rfl rfl
  · intro d a v0 x L M Q; exact Wp_sim (by decide +kernel : decode (cd 180) 1 = .ok (.iload_n 1, 1)) rfl rfl
  · intro d a b L M Q; exact q_invV (pz := 1053) (n := 1) (c := 12) (m := 2) (k := b) (As := [.int a]) (rest := []) (by decide +kernel : decode (cd 180) 2 = .ok (.invokevirtual 183, 3)) (by decide +kernel) (by decide +kernel) rfl rfl (Nat.le_of_ble_eq_true rfl) (Nat.le_of_ble_eq_true rfl) rfl
  · intro d a L M Q; exact q_zne (by decide +kernel : decode (cd 180) 5 = .ok (.ifCond .ne 6, 3)) (by decide)
  · intro d L M Q; exact q_ldc (p := 1043) (by decide +kernel : decode (cd 180) 8 = .ok (.ldc 180, 2)) (by decide +kernel)
  · intro d a L M Q; exact q_iret (by decide +kernel : decode (cd 180) 10 = .ok (.ireturn , 1)) (by decide +kernel)
  · intro d v0 v1 x L M Q; exact Wp_sim (by decide +kernel : decode (cd 180) 11 = .ok (.iload_n 2, 1)) rfl rfl
  · intro d a L M Q; exact Wp_sim (by decide +kernel : decode (cd 180) 12 = .ok (.i2l , 1)) rfl rfl
  · intro d a L M Q; exact Wp_sim (by decide +kernel : decode (cd 180) 13 = .ok (.lconst 0, 1)) rfl rfl
  · intro d a b L M Q; exact q_ldc2 (p := 1082) (by decide +kernel : decode (cd 180) 14 = .ok (.ldc2_w 198, 3)) (by decide +kernel)
  · intro d a b c L M Q; exact q_invS (pz := 937) (n := 3) (m := 6) (As := [.long c, .long b, .long a]) (rest := []) (by decide +kernel : decode (cd 180) 17 = .ok (.invokestatic 75, 3)) (by decide +kernel) (by decide +kernel) (by decide +kernel) rfl rfl (Nat.le_of_ble_eq_true rfl) (Nat.le_of_ble_eq_true rfl) rfl
  · intro d a L M Q; exact q_zne (by decide +kernel : decode (cd 180) 20 = .ok (.ifCond .ne 6, 3)) (by decide)
  · intro d L M Q; exact q_ldc (p := 940) (by decide +kernel : decode (cd 180) 23 = .ok (.ldc 79, 2)) (by decide +kernel)
  · intro d a L M Q; exact q_iret (by decide +kernel : decode (cd 180) 25 = .ok (.ireturn , 1)) (by decide +kernel)
  · intro d x L M Q; exact Wp_sim (by decide +kernel : decode (cd 180) 26 = .ok (.aload_n 0, 1)) rfl rfl
  · intro d a L M Q; exact q_getR (p := 845) (by decide +kernel : decode (cd 180) 27 = .ok (.getfield 16, 3)) (by decide +kernel) (by decide +kernel)
  · intro d a L M Q; exact Wp_sim (by decide +kernel : decode (cd 180) 30 = .ok (.bipush 6, 2)) rfl rfl
  · intro d a b v0 x L M Q; exact Wp_sim (by decide +kernel : decode (cd 180) 32 = .ok (.iload_n 1, 1)) rfl rfl
  · intro d a b c L M Q; exact Wp_sim (by decide +kernel : decode (cd 180) 33 = .ok (.iadd , 1)) rfl rfl
  · intro d a b L M Q; exact q_ald (by decide +kernel : decode (cd 180) 34 = .ok (.iaload , 1))
  · intro d a v0 v1 v2 x L M Q; exact Wp_sim (by decide +kernel : decode (cd 180) 35 = .ok (.istore_n 3, 1)) rfl rfl
  · intro d L M Q; exact Wp_sim (by decide +kernel : decode (cd 180) 36 = .ok (.iconst 0, 1)) rfl rfl
  · intro d a v0 v1 v2 v3 x L M Q; exact Wp_sim (by decide +kernel : decode (cd 180) 37 = .ok (.istore 4, 2)) rfl rfl
  · intro d a v0 v1 x L M Q; exact Wp_sim (by decide +kernel : decode (cd 180) 41 = .ok (.iload_n 2, 1)) rfl rfl
  · intro d a b L M Q; exact q_ige (by decide +kernel : decode (cd 180) 42 = .ok (.if_icmp .ge 17, 3)) (by decide)
  · intro d x L M Q; exact Wp_sim (by decide +kernel : decode (cd 180) 45 = .ok (.aload_n 0, 1)) rfl rfl
  · intro d a v0 x L M Q; exact Wp_sim (by decide +kernel : decode (cd 180) 46 = .ok (.iload_n 1, 1)) rfl rfl
  · intro d a b v0 v1 v2 x L M Q; exact Wp_sim (by decide +kernel : decode (cd 180) 47 = .ok (.iload_n 3, 1)) rfl rfl
  · intro d a b c L M Q; exact Wp_sim (by decide +kernel : decode (cd 180) 48 = .ok (.iconst 1, 1)) rfl rfl
  · intro d a b c d2 L M Q; exact q_invV (pz := 1014) (n := 3) (c := 12) (m := 4) (k := d2) (As := [.int c, .int b, .int a]) (rest := []) (by decide +kernel : decode (cd 180) 49 = .ok (.invokevirtual 161, 3)) (by decide +kernel) (by decide +kernel) rfl rfl (Nat.le_of_ble_eq_true rfl) (Nat.le_of_ble_eq_true rfl) rfl
  · intro d a v0 v1 v2 x L M Q; exact Wp_sim (by decide +kernel : decode (cd 180) 52 = .ok (.istore_n 3, 1)) rfl rfl
  · intro d v0 v1 v2 v3 x L M Q; exact Wp_sim (by decide +kernel : decode (cd 180) 53 = .ok (.iinc 4 1, 3)) rfl rfl
  · intro d L M Q; exact q_goto (by decide +kernel : decode (cd 180) 56 = .ok (.goto (-17), 3)) (by decide)
  · intro d v0 v1 v2 x L M Q; exact Wp_sim (by decide +kernel : decode (cd 180) 59 = .ok (.iload_n 3, 1)) rfl rfl
  · intro d a L M Q; exact Wp_sim (by decide +kernel : decode (cd 180) 60 = .ok (.sipush 10000, 3)) rfl rfl
  · intro d a b L M Q; exact Wp_sim (by decide +kernel : decode (cd 180) 63 = .ok (.iadd , 1)) rfl rfl
  · intro d a L M Q; exact q_iret (by decide +kernel : decode (cd 180) 64 = .ok (.ireturn , 1)) (by decide +kernel)
theorem h180_39 : (∀ (d : Nat) (v0 : Value) (v1 : Value) (v2 : Value) (v3 : Value) (x : Int32) (L : List Value) (M : Mem) (Q : Option Value → Mem → Prop), Wp d 180 39 (v0 :: v1 :: v2 :: v3 :: .int x :: L) [] M Q ↔ Wp d 180 41 (v0 :: v1 :: v2 :: v3 :: .int x :: L) [.int x] M Q) := by
  intro d v0 v1 v2 v3 x L M Q; exact Wp_sim (by decide +kernel : decode (cd 180) 39 = .ok (.iload 4, 2)) rfl rfl

/- 181: PalaceYardModel.chain -/
set_option maxRecDepth 10000 in
theorem e181 : (∀ (d : Nat) (x : Nat) (L : List Value) (M : Mem) (Q : Option Value → Mem → Prop), Wp d 181 0 (.ref x :: L) [] M Q ↔ Wp d 181 1 (.ref x :: L) [.ref x] M Q) ∧
    (∀ (d : Nat) (a : Nat) (v0 : Value) (x : Int32) (L : List Value) (M : Mem) (Q : Option Value → Mem → Prop), Wp d 181 1 (v0 :: .int x :: L) [.ref a] M Q ↔ Wp d 181 2 (v0 :: .int x :: L) [.int x, .ref a] M Q) ∧
    (∀ (d : Nat) (a : Int32) (b : Nat) (L : List Value) (M : Mem) (Q : Option Value → Mem → Prop), Wp (d + 1) 181 2 L [.int a, .ref b] M Q ↔ (isK b 12 = true ∧ Wp d 141 0 [.ref b, .int a] [] M (fun r M2 => Wp (d + 1) 181 5 L (r.toList ++ []) M2 Q))) ∧
    (∀ (d : Nat) (a : Int32) (L : List Value) (M : Mem) (Q : Option Value → Mem → Prop), Wp d 181 5 L [.int a] M Q ↔ (if a = 0 then Wp d 181 8 L [] M Q else Wp d 181 11 L [] M Q)) ∧
    (∀ (d : Nat) (L : List Value) (M : Mem) (Q : Option Value → Mem → Prop), Wp d 181 8 L [] M Q ↔ Wp d 181 10 L [.int (-1000000001)] M Q) ∧
    (∀ (d : Nat) (a : Int32) (L : List Value) (M : Mem) (Q : Option Value → Mem → Prop), Wp d 181 10 L [.int a] M Q ↔ Q (some (.int a)) M) ∧
    (∀ (d : Nat) (v0 : Value) (v1 : Value) (x : Int32) (L : List Value) (M : Mem) (Q : Option Value → Mem → Prop), Wp d 181 11 (v0 :: v1 :: .int x :: L) [] M Q ↔ Wp d 181 12 (v0 :: v1 :: .int x :: L) [.int x] M Q) ∧
    (∀ (d : Nat) (a : Int32) (L : List Value) (M : Mem) (Q : Option Value → Mem → Prop), Wp d 181 12 L [.int a] M Q ↔ Wp d 181 13 L [.long a.toInt64] M Q) ∧
    (∀ (d : Nat) (a : Int64) (L : List Value) (M : Mem) (Q : Option Value → Mem → Prop), Wp d 181 13 L [.long a] M Q ↔ Wp d 181 14 L [.long 0, .long a] M Q) ∧
    (∀ (d : Nat) (a : Int64) (b : Int64) (L : List Value) (M : Mem) (Q : Option Value → Mem → Prop), Wp d 181 14 L [.long a, .long b] M Q ↔ Wp d 181 15 L [.long 1, .long a, .long b] M Q) ∧
    (∀ (d : Nat) (a : Int64) (b : Int64) (c : Int64) (L : List Value) (M : Mem) (Q : Option Value → Mem → Prop), Wp (d + 1) 181 15 L [.long a, .long b, .long c] M Q ↔ Wp d 112 0 [.long c, .null, .long b, .null, .long a, .null] [] M (fun r M2 => Wp (d + 1) 181 18 L (r.toList ++ []) M2 Q)) ∧
    (∀ (d : Nat) (a : Int32) (L : List Value) (M : Mem) (Q : Option Value → Mem → Prop), Wp d 181 18 L [.int a] M Q ↔ (if a = 0 then Wp d 181 21 L [] M Q else Wp d 181 24 L [] M Q)) ∧
    (∀ (d : Nat) (L : List Value) (M : Mem) (Q : Option Value → Mem → Prop), Wp d 181 21 L [] M Q ↔ Wp d 181 23 L [.int (-1000000002)] M Q) ∧
    (∀ (d : Nat) (a : Int32) (L : List Value) (M : Mem) (Q : Option Value → Mem → Prop), Wp d 181 23 L [.int a] M Q ↔ Q (some (.int a)) M) ∧
    (∀ (d : Nat) (L : List Value) (M : Mem) (Q : Option Value → Mem → Prop), Wp d 181 24 L [] M Q ↔ Wp d 181 25 L [.int 1] M Q) ∧
    (∀ (d : Nat) (a : Int32) (v0 : Value) (x : Int32) (L : List Value) (M : Mem) (Q : Option Value → Mem → Prop), Wp d 181 25 (v0 :: .int x :: L) [.int a] M Q ↔ Wp d 181 26 (v0 :: .int x :: L) [.int x, .int a] M Q) ∧
    (∀ (d : Nat) (a : Int32) (b : Int32) (L : List Value) (M : Mem) (Q : Option Value → Mem → Prop), Wp d 181 26 L [.int a, .int b] M Q ↔ Wp d 181 27 L [.int (b <<< (a &&& 31))] M Q) ∧
    (∀ (d : Nat) (a : Int32) (v0 : Value) (v1 : Value) (v2 : Value) (x : Value) (L : List Value) (M : Mem) (Q : Option Value → Mem → Prop), Wp d 181 27 (v0 :: v1 :: v2 :: x :: L) [.int a] M Q ↔ Wp d 181 28 (v0 :: v1 :: clr v2 :: .int a :: L) [] M Q) ∧
    (∀ (d : Nat) (v0 : Value) (x : Int32) (L : List Value) (M : Mem) (Q : Option Value → Mem → Prop), Wp d 181 28 (v0 :: .int x :: L) [] M Q ↔ Wp d 181 29 (v0 :: .int x :: L) [.int x] M Q) ∧
    (∀ (d : Nat) (a : Int32) (v0 : Value) (v1 : Value) (v2 : Value) (v3 : Value) (x : Value) (L : List Value) (M : Mem) (Q : Option Value → Mem → Prop), Wp d 181 29 (v0 :: v1 :: v2 :: v3 :: x :: L) [.int a] M Q ↔ Wp d 181 31 (v0 :: v1 :: v2 :: clr v3 :: .int a :: L) [] M Q) ∧
    (∀ (d : Nat) (x : Nat) (L : List Value) (M : Mem) (Q : Option Value → Mem → Prop), Wp d 181 31 (.ref x :: L) [] M Q ↔ Wp d 181 32 (.ref x :: L) [.ref x] M Q) ∧
    (∀ (d : Nat) (a : Nat) (v0 : Value) (x : Int32) (L : List Value) (M : Mem) (Q : Option Value → Mem → Prop), Wp d 181 32 (v0 :: .int x :: L) [.ref a] M Q ↔ Wp d 181 33 (v0 :: .int x :: L) [.int x, .ref a] M Q) ∧
    (∀ (d : Nat) (a : Int32) (b : Nat) (L : List Value) (M : Mem) (Q : Option Value → Mem → Prop), Wp (d + 1) 181 33 L [.int a, .ref b] M Q ↔ (isK b 12 = true ∧ Wp d 182 0 [.ref b, .int a, .null, .null, .null, .null] [] M (fun r M2 => Wp (d + 1) 181 36 L (r.toList ++ []) M2 Q))) ∧
    (∀ (d : Nat) (a : Int32) (v0 : Value) (v1 : Value) (v2 : Value) (v3 : Value) (v4 : Value) (x : Value) (L : List Value) (M : Mem) (Q : Option Value → Mem → Prop), Wp d 181 36 (v0 :: v1 :: v2 :: v3 :: v4 :: x :: L) [.int a] M Q ↔ Wp d 181 38 (v0 :: v1 :: v2 :: v3 :: clr v4 :: .int a :: L) [] M Q) ∧
    (∀ (d : Nat) (a : Int32) (L : List Value) (M : Mem) (Q : Option Value → Mem → Prop), Wp d 181 40 L [.int a] M Q ↔ Wp d 181 41 L [.int (-1), .int a] M Q) ∧
    (∀ (d : Nat) (a : Int32) (b : Int32) (L : List Value) (M : Mem) (Q : Option Value → Mem → Prop), Wp d 181 41 L [.int a, .int b] M Q ↔ (if b = a then Wp d 181 75 L [] M Q else Wp d 181 44 L [] M Q)) ∧
    (∀ (d : Nat) (v0 : Value) (v1 : Value) (v2 : Value) (x : Int32) (L : List Value) (M : Mem) (Q : Option Value → Mem → Prop), Wp d 181 44 (v0 :: v1 :: v2 :: .int x :: L) [] M Q ↔ Wp d 181 45 (v0 :: v1 :: v2 :: .int x :: L) [.int x] M Q) ∧
    (∀ (d : Nat) (a : Int32) (v0 : Value) (v1 : Value) (v2 : Value) (v3 : Value) (v4 : Value) (x : Int32) (L : List Value) (M : Mem) (Q : Option Value → Mem → Prop), Wp d 181 45 (v0 :: v1 :: v2 :: v3 :: v4 :: .int x :: L) [.int a] M Q ↔ Wp d 181 47 (v0 :: v1 :: v2 :: v3 :: v4 :: .int x :: L) [.int x, .int a] M Q) ∧
    (∀ (d : Nat) (a : Int32) (b : Int32) (L : List Value) (M : Mem) (Q : Option Value → Mem → Prop), Wp (d + 1) 181 47 L [.int a, .int b] M Q ↔ Wp d 129 0 [.int b, .int a] [] M (fun r M2 => Wp (d + 1) 181 50 L (r.toList ++ []) M2 Q)) ∧
    (∀ (d : Nat) (a : Int32) (L : List Value) (M : Mem) (Q : Option Value → Mem → Prop), Wp d 181 50 L [.int a] M Q ↔ (if a = 0 then Wp d 181 53 L [] M Q else Wp d 181 75 L [] M Q)) ∧
    (∀ (d : Nat) (v0 : Value) (v1 : Value) (v2 : Value) (x : Int32) (L : List Value) (M : Mem) (Q : Option Value → Mem → Prop), Wp d 181 53 (v0 :: v1 :: v2 :: .int x :: L) [] M Q ↔ Wp d 181 54 (v0 :: v1 :: v2 :: .int x :: L) [.int x] M Q) ∧
    (∀ (d : Nat) (a : Int32) (L : List Value) (M : Mem) (Q : Option Value → Mem → Prop), Wp d 181 54 L [.int a] M Q ↔ Wp d 181 55 L [.int 1, .int a] M Q) ∧
    (∀ (d : Nat) (a : Int32) (b : Int32) (v0 : Value) (v1 : Value) (v2 : Value) (v3 : Value) (v4 : Value) (x : Int32) (L : List Value) (M : Mem) (Q : Option Value → Mem → Prop), Wp d 181 55 (v0 :: v1 :: v2 :: v3 :: v4 :: .int x :: L) [.int a, .int b] M Q ↔ Wp d 181 57 (v0 :: v1 :: v2 :: v3 :: v4 :: .int x :: L) [.int x, .int a, .int b] M Q) ∧
    (∀ (d : Nat) (a : Int32) (b : Int32) (c : Int32) (L : List Value) (M : Mem) (Q : Option Value → Mem → Prop), Wp d 181 57 L [.int a, .int b, .int c] M Q ↔ Wp d 181 58 L [.int (b <<< (a &&& 31)), .int c] M Q) ∧
    (∀ (d : Nat) (a : Int32) (b : Int32) (L : List Value) (M : Mem) (Q : Option Value → Mem → Prop), Wp d 181 58 L [.int a, .int b] M Q ↔ Wp d 181 59 L [.int (b ||| a)] M Q) ∧
    (∀ (d : Nat) (a : Int32) (v0 : Value) (v1 : Value) (v2 : Value) (x : Value) (L : List Value) (M : Mem) (Q : Option Value → Mem → Prop), Wp d 181 59 (v0 :: v1 :: v2 :: x :: L) [.int a] M Q ↔ Wp d 181 60 (v0 :: v1 :: clr v2 :: .int a :: L) [] M Q) ∧
    (∀ (d : Nat) (v0 : Value) (v1 : Value) (v2 : Value) (v3 : Value) (v4 : Value) (x : Int32) (L : List Value) (M : Mem) (Q : Option Value → Mem → Prop), Wp d 181 60 (v0 :: v1 :: v2 :: v3 :: v4 :: .int x :: L) [] M Q ↔ Wp d 181 62 (v0 :: v1 :: v2 :: v3 :: v4 :: .int x :: L) [.int x] M Q) ∧
    (∀ (d : Nat) (a : Int32) (v0 : Value) (v1 : Value) (v2 : Value) (v3 : Value) (x : Value) (L : List Value) (M : Mem) (Q : Option Value → Mem → Prop), Wp d 181 62 (v0 :: v1 :: v2 :: v3 :: x :: L) [.int a] M Q ↔ Wp d 181 64 (v0 :: v1 :: v2 :: clr v3 :: .int a :: L) [] M Q) ∧
    (∀ (d : Nat) (x : Nat) (L : List Value) (M : Mem) (Q : Option Value → Mem → Prop), Wp d 181 64 (.ref x :: L) [] M Q ↔ Wp d 181 65 (.ref x :: L) [.ref x] M Q) ∧
    (∀ (d : Nat) (a : Nat) (v0 : Value) (v1 : Value) (v2 : Value) (v3 : Value) (v4 : Value) (x : Int32) (L : List Value) (M : Mem) (Q : Option Value → Mem → Prop), Wp d 181 65 (v0 :: v1 :: v2 :: v3 :: v4 :: .int x :: L) [.ref a] M Q ↔ Wp d 181 67 (v0 :: v1 :: v2 :: v3 :: v4 :: .int x :: L) [.int x, .ref a] M Q) ∧
    (∀ (d : Nat) (a : Int32) (b : Nat) (L : List Value) (M : Mem) (Q : Option Value → Mem → Prop), Wp (d + 1) 181 67 L [.int a, .ref b] M Q ↔ (isK b 12 = true ∧ Wp d 182 0 [.ref b, .int a, .null, .null, .null, .null] [] M (fun r M2 => Wp (d + 1) 181 70 L (r.toList ++ []) M2 Q))) ∧
    (∀ (d : Nat) (a : Int32) (v0 : Value) (v1 : Value) (v2 : Value) (v3 : Value) (v4 : Value) (x : Value) (L : List Value) (M : Mem) (Q : Option Value → Mem → Prop), Wp d 181 70 (v0 :: v1 :: v2 :: v3 :: v4 :: x :: L) [.int a] M Q ↔ Wp d 181 72 (v0 :: v1 :: v2 :: v3 :: clr v4 :: .int a :: L) [] M Q) ∧
    (∀ (d : Nat) (L : List Value) (M : Mem) (Q : Option Value → Mem → Prop), Wp d 181 72 L [] M Q ↔ Wp d 181 38 L [] M Q) ∧
    (∀ (d : Nat) (v0 : Value) (v1 : Value) (x : Int32) (L : List Value) (M : Mem) (Q : Option Value → Mem → Prop), Wp d 181 75 (v0 :: v1 :: .int x :: L) [] M Q ↔ Wp d 181 76 (v0 :: v1 :: .int x :: L) [.int x] M Q) ∧
    (∀ (d : Nat) (a : Int32) (L : List Value) (M : Mem) (Q : Option Value → Mem → Prop), Wp d 181 76 L [.int a] M Q ↔ (if a = 0 then Wp d 181 79 L [] M Q else Wp d 181 86 L [] M Q)) ∧
    (∀ (d : Nat) (v0 : Value) (v1 : Value) (v2 : Value) (x : Int32) (L : List Value) (M : Mem) (Q : Option Value → Mem → Prop), Wp d 181 79 (v0 :: v1 :: v2 :: .int x :: L) [] M Q ↔ Wp d 181 80 (v0 :: v1 :: v2 :: .int x :: L) [.int x] M Q) ∧
    (∀ (d : Nat) (a : Int32) (L : List Value) (M : Mem) (Q : Option Value → Mem → Prop), Wp (d + 1) 181 80 L [.int a] M Q ↔ Wp d 151 0 [.int a, .null, .null] [] M (fun r M2 => Wp (d + 1) 181 83 L (r.toList ++ []) M2 Q)) ∧
    (∀ (d : Nat) (a : Int32) (L : List Value) (M : Mem) (Q : Option Value → Mem → Prop), Wp d 181 83 L [.int a] M Q ↔ Wp d 181 88 L [.int a] M Q) ∧
    (∀ (d : Nat) (v0 : Value) (v1 : Value) (v2 : Value) (v3 : Value) (x : Int32) (L : List Value) (M : Mem) (Q : Option Value → Mem → Prop), Wp d 181 86 (v0 :: v1 :: v2 :: v3 :: .int x :: L) [] M Q ↔ Wp d 181 88 (v0 :: v1 :: v2 :: v3 :: .int x :: L) [.int x] M Q) ∧
    (∀ (d : Nat) (a : Int32) (L : List Value) (M : Mem) (Q : Option Value → Mem → Prop), Wp d 181 88 L [.int a] M Q ↔ Q (some (.int a)) M) := by
  refine ⟨?_, ?_, ?_, ?_, ?_, ?_, ?_, ?_, ?_, ?_, ?_, ?_, ?_, ?_, ?_, ?_, ?_, ?_, ?_, ?_, ?_, ?_, ?_, ?_, ?_, ?_, ?_, ?_, ?_, ?_, ?_, ?_, ?_, ?_, ?_, ?_, ?_, ?_, ?_, ?_, ?_, ?_, ?_, ?_, ?_, ?_, ?_, ?_, ?_, ?_⟩
  · intro d x L M Q; exact Wp_sim (by decide +kernel : decode (cd 181) 0 = .ok (.aload_n 0, 1)) rfl rfl
  · intro d a v0 x L M Q; exact Wp_sim (by decide +kernel : decode (cd 181) 1 = .ok (.iload_n 1, 1)) rfl rfl
  · intro d a b L M Q; exact q_invV (pz := 1053) (n := 1) (c := 12) (m := 2) (k := b) (As := [.int a]) (rest := []) (by decide +kernel : decode (cd 181) 2 = .ok (.invokevirtual 183, 3)) (by decide +kernel) (by decide +kernel) rfl rfl (Nat.le_of_ble_eq_true rfl) (Nat.le_of_ble_eq_true rfl) rfl
  · intro d a L M Q; exact q_zne (by decide +kernel : decode (cd 181) 5 = .ok (.ifCond .ne 6, 3)) (by decide)
  · intro d L M Q; exact q_ldc (p := 1043) (by decide +kernel : decode (cd 181) 8 = .ok (.ldc 180, 2)) (by decide +kernel)
  · intro d a L M Q; exact q_iret (by decide +kernel : decode (cd 181) 10 = .ok (.ireturn , 1)) (by decide +kernel)
  · intro d v0 v1 x L M Q; exact Wp_sim (by decide +kernel : decode (cd 181) 11 = .ok (.iload_n 2, 1)) rfl rfl
  · intro d a L M Q; exact Wp_sim (by decide +kernel : decode (cd 181) 12 = .ok (.i2l , 1)) rfl rfl
  · intro d a L M Q; exact Wp_sim (by decide +kernel : decode (cd 181) 13 = .ok (.lconst 0, 1)) rfl rfl
  · intro d a b L M Q; exact Wp_sim (by decide +kernel : decode (cd 181) 14 = .ok (.lconst 1, 1)) rfl rfl
  · intro d a b c L M Q; exact q_invS (pz := 937) (n := 3) (m := 6) (As := [.long c, .long b, .long a]) (rest := []) (by decide +kernel : decode (cd 181) 15 = .ok (.invokestatic 75, 3)) (by decide +kernel) (by decide +kernel) (by decide +kernel) rfl rfl (Nat.le_of_ble_eq_true rfl) (Nat.le_of_ble_eq_true rfl) rfl
  · intro d a L M Q; exact q_zne (by decide +kernel : decode (cd 181) 18 = .ok (.ifCond .ne 6, 3)) (by decide)
  · intro d L M Q; exact q_ldc (p := 940) (by decide +kernel : decode (cd 181) 21 = .ok (.ldc 79, 2)) (by decide +kernel)
  · intro d a L M Q; exact q_iret (by decide +kernel : decode (cd 181) 23 = .ok (.ireturn , 1)) (by decide +kernel)
  · intro d L M Q; exact Wp_sim (by decide +kernel : decode (cd 181) 24 = .ok (.iconst 1, 1)) rfl rfl
  · intro d a v0 x L M Q; exact Wp_sim (by decide +kernel : decode (cd 181) 25 = .ok (.iload_n 1, 1)) rfl rfl
  · intro d a b L M Q; exact Wp_sim (by decide +kernel : decode (cd 181) 26 = .ok (.ishl , 1)) rfl rfl
  · intro d a v0 v1 v2 x L M Q; exact Wp_sim (by decide +kernel : decode (cd 181) 27 = .ok (.istore_n 3, 1)) rfl rfl
  · intro d v0 x L M Q; exact Wp_sim (by decide +kernel : decode (cd 181) 28 = .ok (.iload_n 1, 1)) rfl rfl
  · intro d a v0 v1 v2 v3 x L M Q; exact Wp_sim (by decide +kernel : decode (cd 181) 29 = .ok (.istore 4, 2)) rfl rfl
  · intro d x L M Q; exact Wp_sim (by decide +kernel : decode (cd 181) 31 = .ok (.aload_n 0, 1)) rfl rfl
  · intro d a v0 x L M Q; exact Wp_sim (by decide +kernel : decode (cd 181) 32 = .ok (.iload_n 1, 1)) rfl rfl
  · intro d a b L M Q; exact q_invV (pz := 1227) (n := 1) (c := 12) (m := 6) (k := b) (As := [.int a]) (rest := []) (by decide +kernel : decode (cd 181) 33 = .ok (.invokevirtual 291, 3)) (by decide +kernel) (by decide +kernel) rfl rfl (Nat.le_of_ble_eq_true rfl) (Nat.le_of_ble_eq_true rfl) rfl
  · intro d a v0 v1 v2 v3 v4 x L M Q; exact Wp_sim (by decide +kernel : decode (cd 181) 36 = .ok (.istore 5, 2)) rfl rfl
  · intro d a L M Q; exact Wp_sim (by decide +kernel : decode (cd 181) 40 = .ok (.iconst (-1), 1)) rfl rfl
  · intro d a b L M Q; exact q_ieq (by decide +kernel : decode (cd 181) 41 = .ok (.if_icmp .eq 34, 3)) (by decide)
  · intro d v0 v1 v2 x L M Q; exact Wp_sim (by decide +kernel : decode (cd 181) 44 = .ok (.iload_n 3, 1)) rfl rfl
  · intro d a v0 v1 v2 v3 v4 x L M Q; exact Wp_sim (by decide +kernel : decode (cd 181) 45 = .ok (.iload 5, 2)) rfl rfl
  · intro d a b L M Q; exact q_invS (pz := 1007) (n := 2) (m := 2) (As := [.int b, .int a]) (rest := []) (by decide +kernel : decode (cd 181) 47 = .ok (.invokestatic 154, 3)) (by decide +kernel) (by decide +kernel) (by decide +kernel) rfl rfl (Nat.le_of_ble_eq_true rfl) (Nat.le_of_ble_eq_true rfl) rfl
  · intro d a L M Q; exact q_zne (by decide +kernel : decode (cd 181) 50 = .ok (.ifCond .ne 25, 3)) (by decide)
  · intro d v0 v1 v2 x L M Q; exact Wp_sim (by decide +kernel : decode (cd 181) 53 = .ok (.iload_n 3, 1)) rfl rfl
  · intro d a L M Q; exact Wp_sim (by decide +kernel : decode (cd 181) 54 = .ok (.iconst 1, 1)) rfl rfl
  · intro d a b v0 v1 v2 v3 v4 x L M Q; exact Wp_sim (by decide +kernel : decode (cd 181) 55 = .ok (.iload 5, 2)) rfl rfl
  · intro d a b c L M Q; exact Wp_sim (by decide +kernel : decode (cd 181) 57 = .ok (.ishl , 1)) rfl rfl
  · intro d a b L M Q; exact Wp_sim (by decide +kernel : decode (cd 181) 58 = .ok (.ior , 1)) rfl rfl
  · intro d a v0 v1 v2 x L M Q; exact Wp_sim (by decide +kernel : decode (cd 181) 59 = .ok (.istore_n 3, 1)) rfl rfl
  · intro d v0 v1 v2 v3 v4 x L M Q; exact Wp_sim (by decide +kernel : decode (cd 181) 60 = .ok (.iload 5, 2)) rfl rfl
  · intro d a v0 v1 v2 v3 x L M Q; exact Wp_sim (by decide +kernel : decode (cd 181) 62 = .ok (.istore 4, 2)) rfl rfl
  · intro d x L M Q; exact Wp_sim (by decide +kernel : decode (cd 181) 64 = .ok (.aload_n 0, 1)) rfl rfl
  · intro d a v0 v1 v2 v3 v4 x L M Q; exact Wp_sim (by decide +kernel : decode (cd 181) 65 = .ok (.iload 5, 2)) rfl rfl
  · intro d a b L M Q; exact q_invV (pz := 1227) (n := 1) (c := 12) (m := 6) (k := b) (As := [.int a]) (rest := []) (by decide +kernel : decode (cd 181) 67 = .ok (.invokevirtual 291, 3)) (by decide +kernel) (by decide +kernel) rfl rfl (Nat.le_of_ble_eq_true rfl) (Nat.le_of_ble_eq_true rfl) rfl
  · intro d a v0 v1 v2 v3 v4 x L M Q; exact Wp_sim (by decide +kernel : decode (cd 181) 70 = .ok (.istore 5, 2)) rfl rfl
  · intro d L M Q; exact q_goto (by decide +kernel : decode (cd 181) 72 = .ok (.goto (-34), 3)) (by decide)
  · intro d v0 v1 x L M Q; exact Wp_sim (by decide +kernel : decode (cd 181) 75 = .ok (.iload_n 2, 1)) rfl rfl
  · intro d a L M Q; exact q_zne (by decide +kernel : decode (cd 181) 76 = .ok (.ifCond .ne 10, 3)) (by decide)
  · intro d v0 v1 v2 x L M Q; exact Wp_sim (by decide +kernel : decode (cd 181) 79 = .ok (.iload_n 3, 1)) rfl rfl
  · intro d a L M Q; exact q_invS (pz := 1097) (n := 1) (m := 3) (As := [.int a]) (rest := []) (by decide +kernel : decode (cd 181) 80 = .ok (.invokestatic 195, 3)) (by decide +kernel) (by decide +kernel) (by decide +kernel) rfl rfl (Nat.le_of_ble_eq_true rfl) (Nat.le_of_ble_eq_true rfl) rfl
  · intro d a L M Q; exact q_goto (by decide +kernel : decode (cd 181) 83 = .ok (.goto 5, 3)) (by decide)
  · intro d v0 v1 v2 v3 x L M Q; exact Wp_sim (by decide +kernel : decode (cd 181) 86 = .ok (.iload 4, 2)) rfl rfl
  · intro d a L M Q; exact q_iret (by decide +kernel : decode (cd 181) 88 = .ok (.ireturn , 1)) (by decide +kernel)
theorem h181_38 : (∀ (d : Nat) (v0 : Value) (v1 : Value) (v2 : Value) (v3 : Value) (v4 : Value) (x : Int32) (L : List Value) (M : Mem) (Q : Option Value → Mem → Prop), Wp d 181 38 (v0 :: v1 :: v2 :: v3 :: v4 :: .int x :: L) [] M Q ↔ Wp d 181 40 (v0 :: v1 :: v2 :: v3 :: v4 :: .int x :: L) [.int x] M Q) := by
  intro d v0 v1 v2 v3 v4 x L M Q; exact Wp_sim (by decide +kernel : decode (cd 181) 38 = .ok (.iload 5, 2)) rfl rfl

/- 182: PalaceYardModel.nextOf -/
set_option maxRecDepth 10000 in
theorem e182 : (∀ (d : Nat) (L : List Value) (M : Mem) (Q : Option Value → Mem → Prop), Wp d 182 0 L [] M Q ↔ Wp d 182 1 L [.int (-1)] M Q) ∧
    (∀ (d : Nat) (a : Int32) (v0 : Value) (v1 : Value) (x : Value) (L : List Value) (M : Mem) (Q : Option Value → Mem → Prop), Wp d 182 1 (v0 :: v1 :: x :: L) [.int a] M Q ↔ Wp d 182 2 (v0 :: clr v1 :: .int a :: L) [] M Q) ∧
    (∀ (d : Nat) (L : List Value) (M : Mem) (Q : Option Value → Mem → Prop), Wp d 182 2 L [] M Q ↔ Wp d 182 3 L [.int 0] M Q) ∧
    (∀ (d : Nat) (a : Int32) (v0 : Value) (v1 : Value) (v2 : Value) (x : Value) (L : List Value) (M : Mem) (Q : Option Value → Mem → Prop), Wp d 182 3 (v0 :: v1 :: v2 :: x :: L) [.int a] M Q ↔ Wp d 182 4 (v0 :: v1 :: clr v2 :: .int a :: L) [] M Q) ∧
    (∀ (d : Nat) (L : List Value) (M : Mem) (Q : Option Value → Mem → Prop), Wp d 182 4 L [] M Q ↔ Wp d 182 5 L [.int 0] M Q) ∧
    (∀ (d : Nat) (a : Int32) (v0 : Value) (v1 : Value) (v2 : Value) (v3 : Value) (x : Value) (L : List Value) (M : Mem) (Q : Option Value → Mem → Prop), Wp d 182 5 (v0 :: v1 :: v2 :: v3 :: x :: L) [.int a] M Q ↔ Wp d 182 7 (v0 :: v1 :: v2 :: clr v3 :: .int a :: L) [] M Q) ∧
    (∀ (d : Nat) (a : Int32) (x : Nat) (L : List Value) (M : Mem) (Q : Option Value → Mem → Prop), Wp d 182 9 (.ref x :: L) [.int a] M Q ↔ Wp d 182 10 (.ref x :: L) [.ref x, .int a] M Q) ∧
    (∀ (d : Nat) (a : Nat) (b : Int32) (L : List Value) (M : Mem) (Q : Option Value → Mem → Prop), Wp d 182 10 L [.ref a, .int b] M Q ↔ (isK a 12 = true ∧ Wp d 182 13 L [.ref (rt a 0), .int b] M Q)) ∧
    (∀ (d : Nat) (a : Nat) (b : Int32) (L : List Value) (M : Mem) (Q : Option Value → Mem → Prop), Wp d 182 13 L [.ref a, .int b] M Q ↔ Wp d 182 14 L [.int 4, .ref a, .int b] M Q) ∧
    (∀ (d : Nat) (a : Int32) (b : Nat) (c : Int32) (L : List Value) (M : Mem) (Q : Option Value → Mem → Prop), Wp d 182 14 L [.int a, .ref b, .int c] M Q ↔ ((isR b = true ∧ inr a (lnm M b)) ∧ Wp d 182 15 L [.int (M b a.toNatClampNeg), .int c] M Q)) ∧
    (∀ (d : Nat) (a : Int32) (b : Int32) (L : List Value) (M : Mem) (Q : Option Value → Mem → Prop), Wp d 182 15 L [.int a, .int b] M Q ↔ (if b < a then Wp d 182 18 L [] M Q else Wp d 182 61 L [] M Q)) ∧
    (∀ (d : Nat) (x : Nat) (L : List Value) (M : Mem) (Q : Option Value → Mem → Prop), Wp d 182 18 (.ref x :: L) [] M Q ↔ Wp d 182 19 (.ref x :: L) [.ref x] M Q) ∧
    (∀ (d : Nat) (a : Nat) (L : List Value) (M : Mem) (Q : Option Value → Mem → Prop), Wp d 182 19 L [.ref a] M Q ↔ (isK a 12 = true ∧ Wp d 182 22 L [.ref (rt a 2)] M Q)) ∧
    (∀ (d : Nat) (a : Nat) (L : List Value) (M : Mem) (Q : Option Value → Mem → Prop), Wp d 182 22 L [.ref a] M Q ↔ Wp d 182 24 L [.int 12, .ref a] M Q) ∧
    (∀ (d : Nat) (a : Int32) (b : Nat) (L : List Value) (M : Mem) (Q : Option Value → Mem → Prop), Wp d 182 24 L [.int a, .ref b] M Q ↔ Wp d 182 26 L [.int 6, .int a, .ref b] M Q) ∧
    (∀ (d : Nat) (a : Int32) (b : Int32) (c : Nat) (v0 : Value) (v1 : Value) (v2 : Value) (v3 : Value) (x : Int32) (L : List Value) (M : Mem) (Q : Option Value → Mem → Prop), Wp d 182 26 (v0 :: v1 :: v2 :: v3 :: .int x :: L) [.int a, .int b, .ref c] M Q ↔ Wp d 182 28 (v0 :: v1 :: v2 :: v3 :: .int x :: L) [.int x, .int a, .int b, .ref c] M Q) ∧
    (∀ (d : Nat) (a : Int32) (b : Int32) (c : Int32) (d2 : Nat) (L : List Value) (M : Mem) (Q : Option Value → Mem → Prop), Wp d 182 28 L [.int a, .int b, .int c, .ref d2] M Q ↔ Wp d 182 29 L [.int (b * a), .int c, .ref d2] M Q) ∧
    (∀ (d : Nat) (a : Int32) (b : Int32) (c : Nat) (L : List Value) (M : Mem) (Q : Option Value → Mem → Prop), Wp d 182 29 L [.int a, .int b, .ref c] M Q ↔ Wp d 182 30 L [.int (b + a), .ref c] M Q) ∧
    (∀ (d : Nat) (a : Int32) (b : Nat) (v0 : Value) (x : Int32) (L : List Value) (M : Mem) (Q : Option Value → Mem → Prop), Wp d 182 30 (v0 :: .int x :: L) [.int a, .ref b] M Q ↔ Wp d 182 31 (v0 :: .int x :: L) [.int x, .int a, .ref b] M Q) ∧
    (∀ (d : Nat) (a : Int32) (b : Int32) (c : Nat) (L : List Value) (M : Mem) (Q : Option Value → Mem → Prop), Wp d 182 31 L [.int a, .int b, .ref c] M Q ↔ Wp d 182 32 L [.int (b + a), .ref c] M Q) ∧
    (∀ (d : Nat) (a : Int32) (b : Nat) (L : List Value) (M : Mem) (Q : Option Value → Mem → Prop), Wp d 182 32 L [.int a, .ref b] M Q ↔ ((isR b = true ∧ inr a (lnm M b)) ∧ Wp d 182 33 L [.int (M b a.toNatClampNeg)] M Q)) ∧
    (∀ (d : Nat) (a : Int32) (v0 : Value) (v1 : Value) (v2 : Value) (v3 : Value) (v4 : Value) (x : Value) (L : List Value) (M : Mem) (Q : Option Value → Mem → Prop), Wp d 182 33 (v0 :: v1 :: v2 :: v3 :: v4 :: x :: L) [.int a] M Q ↔ Wp d 182 35 (v0 :: v1 :: v2 :: v3 :: clr v4 :: .int a :: L) [] M Q) ∧
    (∀ (d : Nat) (v0 : Value) (v1 : Value) (v2 : Value) (v3 : Value) (v4 : Value) (x : Int32) (L : List Value) (M : Mem) (Q : Option Value → Mem → Prop), Wp d 182 35 (v0 :: v1 :: v2 :: v3 :: v4 :: .int x :: L) [] M Q ↔ Wp d 182 37 (v0 :: v1 :: v2 :: v3 :: v4 :: .int x :: L) [.int x] M Q) ∧
    (∀ (d : Nat) (a : Int32) (v0 : Value) (v1 : Value) (v2 : Value) (x : Int32) (L : List Value) (M : Mem) (Q : Option Value → Mem → Prop), Wp d 182 37 (v0 :: v1 :: v2 :: .int x :: L) [.int a] M Q ↔ Wp d 182 38 (v0 :: v1 :: v2 :: .int x :: L) [.int x, .int a] M Q) ∧
    (∀ (d : Nat) (a : Int32) (b : Int32) (L : List Value) (M : Mem) (Q : Option Value → Mem → Prop), Wp d 182 38 L [.int a, .int b] M Q ↔ (if a < b then Wp d 182 41 L [] M Q else Wp d 182 46 L [] M Q)) ∧
    (∀ (d : Nat) (v0 : Value) (v1 : Value) (v2 : Value) (v3 : Value) (x : Int32) (L : List Value) (M : Mem) (Q : Option Value → Mem → Prop), Wp d 182 41 (v0 :: v1 :: v2 :: v3 :: .int x :: L) [] M Q ↔ Wp d 182 43 (v0 :: v1 :: v2 :: v3 :: .int x :: L) [.int x] M Q) ∧
    (∀ (d : Nat) (a : Int32) (L : List Value) (M : Mem) (Q : Option Value → Mem → Prop), Wp d 182 43 L [.int a] M Q ↔ Wp d 182 47 L [.int a] M Q) ∧
    (∀ (d : Nat) (v0 : Value) (v1 : Value) (x : Int32) (L : List Value) (M : Mem) (Q : Option Value → Mem → Prop), Wp d 182 46 (v0 :: v1 :: .int x :: L) [] M Q ↔ Wp d 182 47 (v0 :: v1 :: .int x :: L) [.int x] M Q) ∧
    (∀ (d : Nat) (a : Int32) (v0 : Value) (v1 : Value) (x : Value) (L : List Value) (M : Mem) (Q : Option Value → Mem → Prop), Wp d 182 47 (v0 :: v1 :: x :: L) [.int a] M Q ↔ Wp d 182 48 (v0 :: clr v1 :: .int a :: L) [] M Q) ∧
    (∀ (d : Nat) (v0 : Value) (v1 : Value) (v2 : Value) (v3 : Value) (v4 : Value) (x : Int32) (L : List Value) (M : Mem) (Q : Option Value → Mem → Prop), Wp d 182 48 (v0 :: v1 :: v2 :: v3 :: v4 :: .int x :: L) [] M Q ↔ Wp d 182 50 (v0 :: v1 :: v2 :: v3 :: v4 :: .int x :: L) [.int x] M Q) ∧
    (∀ (d : Nat) (a : Int32) (v0 : Value) (v1 : Value) (v2 : Value) (x : Int32) (L : List Value) (M : Mem) (Q : Option Value → Mem → Prop), Wp d 182 50 (v0 :: v1 :: v2 :: .int x :: L) [.int a] M Q ↔ Wp d 182 51 (v0 :: v1 :: v2 :: .int x :: L) [.int x, .int a] M Q) ∧
    (∀ (d : Nat) (a : Int32) (b : Int32) (L : List Value) (M : Mem) (Q : Option Value → Mem → Prop), Wp (d + 1) 182 51 L [.int a, .int b] M Q ↔ Wp d 134 0 [.int b, .int a] [] M (fun r M2 => Wp (d + 1) 182 54 L (r.toList ++ []) M2 Q)) ∧
    (∀ (d : Nat) (a : Int32) (v0 : Value) (v1 : Value) (v2 : Value) (x : Value) (L : List Value) (M : Mem) (Q : Option Value → Mem → Prop), Wp d 182 54 (v0 :: v1 :: v2 :: x :: L) [.int a] M Q ↔ Wp d 182 55 (v0 :: v1 :: clr v2 :: .int a :: L) [] M Q) ∧
    (∀ (d : Nat) (v0 : Value) (v1 : Value) (v2 : Value) (v3 : Value) (x : Int32) (L : List Value) (M : Mem) (Q : Option Value → Mem → Prop), Wp d 182 55 (v0 :: v1 :: v2 :: v3 :: .int x :: L) [] M Q ↔ Wp d 182 58 (v0 :: v1 :: v2 :: clr v3 :: .int (x + 1) :: L) [] M Q) ∧
    (∀ (d : Nat) (L : List Value) (M : Mem) (Q : Option Value → Mem → Prop), Wp d 182 58 L [] M Q ↔ Wp d 182 7 L [] M Q) ∧
    (∀ (d : Nat) (v0 : Value) (v1 : Value) (x : Int32) (L : List Value) (M : Mem) (Q : Option Value → Mem → Prop), Wp d 182 61 (v0 :: v1 :: .int x :: L) [] M Q ↔ Wp d 182 62 (v0 :: v1 :: .int x :: L) [.int x] M Q) ∧
    (∀ (d : Nat) (a : Int32) (L : List Value) (M : Mem) (Q : Option Value → Mem → Prop), Wp d 182 62 L [.int a] M Q ↔ Q (some (.int a)) M) := by
  refine ⟨?_, ?_, ?_, ?_, ?_, ?_, ?_, ?_, ?_, ?_, ?_, ?_, ?_, ?_, ?_, ?_, ?_, ?_, ?_, ?_, ?_, ?_, ?_, ?_, ?_, ?_, ?_, ?_, ?_, ?_, ?_, ?_, ?_, ?_, ?_, ?_, ?_⟩
  · intro d L M Q; exact Wp_sim (by decide +kernel : decode (cd 182) 0 = .ok (.iconst (-1), 1)) rfl rfl
  · intro d a v0 v1 x L M Q; exact Wp_sim (by decide +kernel : decode (cd 182) 1 = .ok (.istore_n 2, 1)) rfl rfl
  · intro d L M Q; exact Wp_sim (by decide +kernel : decode (cd 182) 2 = .ok (.iconst 0, 1)) rfl rfl
  · intro d a v0 v1 v2 x L M Q; exact Wp_sim (by decide +kernel : decode (cd 182) 3 = .ok (.istore_n 3, 1)) rfl rfl
  · intro d L M Q; exact Wp_sim (by decide +kernel : decode (cd 182) 4 = .ok (.iconst 0, 1)) rfl rfl
  · intro d a v0 v1 v2 v3 x L M Q; exact Wp_sim (by decide +kernel : decode (cd 182) 5 = .ok (.istore 4, 2)) rfl rfl
  · intro d a x L M Q; exact Wp_sim (by decide +kernel : decode (cd 182) 9 = .ok (.aload_n 0, 1)) rfl rfl
  · intro d a b L M Q; exact q_getR (p := 843) (by decide +kernel : decode (cd 182) 10 = .ok (.getfield 7, 3)) (by decide +kernel) (by decide +kernel)
  · intro d a b L M Q; exact Wp_sim (by decide +kernel : decode (cd 182) 13 = .ok (.iconst 4, 1)) rfl rfl
  · intro d a b c L M Q; exact q_ald (by decide +kernel : decode (cd 182) 14 = .ok (.iaload , 1))
  · intro d a b L M Q; exact q_ige (by decide +kernel : decode (cd 182) 15 = .ok (.if_icmp .ge 46, 3)) (by decide)
  · intro d x L M Q; exact Wp_sim (by decide +kernel : decode (cd 182) 18 = .ok (.aload_n 0, 1)) rfl rfl
  · intro d a L M Q; exact q_getR (p := 845) (by decide +kernel : decode (cd 182) 19 = .ok (.getfield 16, 3)) (by decide +kernel) (by decide +kernel)
  · intro d a L M Q; exact Wp_sim (by decide +kernel : decode (cd 182) 22 = .ok (.bipush 12, 2)) rfl rfl
  · intro d a b L M Q; exact Wp_sim (by decide +kernel : decode (cd 182) 24 = .ok (.bipush 6, 2)) rfl rfl
  · intro d a b c v0 v1 v2 v3 x L M Q; exact Wp_sim (by decide +kernel : decode (cd 182) 26 = .ok (.iload 4, 2)) rfl rfl
  · intro d a b c d2 L M Q; exact Wp_sim (by decide +kernel : decode (cd 182) 28 = .ok (.imul , 1)) rfl rfl
  · intro d a b c L M Q; exact Wp_sim (by decide +kernel : decode (cd 182) 29 = .ok (.iadd , 1)) rfl rfl
  · intro d a b v0 x L M Q; exact Wp_sim (by decide +kernel : decode (cd 182) 30 = .ok (.iload_n 1, 1)) rfl rfl
  · intro d a b c L M Q; exact Wp_sim (by decide +kernel : decode (cd 182) 31 = .ok (.iadd , 1)) rfl rfl
  · intro d a b L M Q; exact q_ald (by decide +kernel : decode (cd 182) 32 = .ok (.iaload , 1))
  · intro d a v0 v1 v2 v3 v4 x L M Q; exact Wp_sim (by decide +kernel : decode (cd 182) 33 = .ok (.istore 5, 2)) rfl rfl
  · intro d v0 v1 v2 v3 v4 x L M Q; exact Wp_sim (by decide +kernel : decode (cd 182) 35 = .ok (.iload 5, 2)) rfl rfl
  · intro d a v0 v1 v2 x L M Q; exact Wp_sim (by decide +kernel : decode (cd 182) 37 = .ok (.iload_n 3, 1)) rfl rfl
  · intro d a b L M Q; exact q_ile (by decide +kernel : decode (cd 182) 38 = .ok (.if_icmp .le 8, 3)) (by decide)
  · intro d v0 v1 v2 v3 x L M Q; exact Wp_sim (by decide +kernel : decode (cd 182) 41 = .ok (.iload 4, 2)) rfl rfl
  · intro d a L M Q; exact q_goto (by decide +kernel : decode (cd 182) 43 = .ok (.goto 4, 3)) (by decide)
  · intro d v0 v1 x L M Q; exact Wp_sim (by decide +kernel : decode (cd 182) 46 = .ok (.iload_n 2, 1)) rfl rfl
  · intro d a v0 v1 x L M Q; exact Wp_sim (by decide +kernel : decode (cd 182) 47 = .ok (.istore_n 2, 1)) rfl rfl
  · intro d v0 v1 v2 v3 v4 x L M Q; exact Wp_sim (by decide +kernel : decode (cd 182) 48 = .ok (.iload 5, 2)) rfl rfl
  · intro d a v0 v1 v2 x L M Q; exact Wp_sim (by decide +kernel : decode (cd 182) 50 = .ok (.iload_n 3, 1)) rfl rfl
  · intro d a b L M Q; exact q_invS (pz := 1024) (n := 2) (m := 2) (As := [.int b, .int a]) (rest := []) (by decide +kernel : decode (cd 182) 51 = .ok (.invokestatic 61, 3)) (by decide +kernel) (by decide +kernel) (by decide +kernel) rfl rfl (Nat.le_of_ble_eq_true rfl) (Nat.le_of_ble_eq_true rfl) rfl
  · intro d a v0 v1 v2 x L M Q; exact Wp_sim (by decide +kernel : decode (cd 182) 54 = .ok (.istore_n 3, 1)) rfl rfl
  · intro d v0 v1 v2 v3 x L M Q; exact Wp_sim (by decide +kernel : decode (cd 182) 55 = .ok (.iinc 4 1, 3)) rfl rfl
  · intro d L M Q; exact q_goto (by decide +kernel : decode (cd 182) 58 = .ok (.goto (-51), 3)) (by decide)
  · intro d v0 v1 x L M Q; exact Wp_sim (by decide +kernel : decode (cd 182) 61 = .ok (.iload_n 2, 1)) rfl rfl
  · intro d a L M Q; exact q_iret (by decide +kernel : decode (cd 182) 62 = .ok (.ireturn , 1)) (by decide +kernel)
theorem h182_7 : (∀ (d : Nat) (v0 : Value) (v1 : Value) (v2 : Value) (v3 : Value) (x : Int32) (L : List Value) (M : Mem) (Q : Option Value → Mem → Prop), Wp d 182 7 (v0 :: v1 :: v2 :: v3 :: .int x :: L) [] M Q ↔ Wp d 182 9 (v0 :: v1 :: v2 :: v3 :: .int x :: L) [.int x] M Q) := by
  intro d v0 v1 v2 v3 x L M Q; exact Wp_sim (by decide +kernel : decode (cd 182) 7 = .ok (.iload 4, 2)) rfl rfl

/- 183: PalaceYardModel.quiet -/
set_option maxRecDepth 10000 in
theorem e183 : (∀ (d : Nat) (v0 : Value) (x : Int32) (L : List Value) (M : Mem) (Q : Option Value → Mem → Prop), Wp d 183 0 (v0 :: .int x :: L) [] M Q ↔ Wp d 183 1 (v0 :: .int x :: L) [.int x] M Q) ∧
    (∀ (d : Nat) (a : Int32) (L : List Value) (M : Mem) (Q : Option Value → Mem → Prop), Wp d 183 1 L [.int a] M Q ↔ Wp d 183 2 L [.long a.toInt64] M Q) ∧
    (∀ (d : Nat) (a : Int64) (L : List Value) (M : Mem) (Q : Option Value → Mem → Prop), Wp d 183 2 L [.long a] M Q ↔ Wp d 183 3 L [.long 0, .long a] M Q) ∧
    (∀ (d : Nat) (a : Int64) (b : Int64) (L : List Value) (M : Mem) (Q : Option Value → Mem → Prop), Wp d 183 3 L [.long a, .long b] M Q ↔ Wp d 183 6 L [.long 60, .long a, .long b] M Q) ∧
    (∀ (d : Nat) (a : Int64) (b : Int64) (c : Int64) (L : List Value) (M : Mem) (Q : Option Value → Mem → Prop), Wp (d + 1) 183 6 L [.long a, .long b, .long c] M Q ↔ Wp d 112 0 [.long c, .null, .long b, .null, .long a, .null] [] M (fun r M2 => Wp (d + 1) 183 9 L (r.toList ++ []) M2 Q)) ∧
    (∀ (d : Nat) (a : Int32) (L : List Value) (M : Mem) (Q : Option Value → Mem → Prop), Wp d 183 9 L [.int a] M Q ↔ (if a = 0 then Wp d 183 24 L [] M Q else Wp d 183 12 L [] M Q)) ∧
    (∀ (d : Nat) (v0 : Value) (v1 : Value) (x : Int32) (L : List Value) (M : Mem) (Q : Option Value → Mem → Prop), Wp d 183 12 (v0 :: v1 :: .int x :: L) [] M Q ↔ Wp d 183 13 (v0 :: v1 :: .int x :: L) [.int x] M Q) ∧
    (∀ (d : Nat) (a : Int32) (L : List Value) (M : Mem) (Q : Option Value → Mem → Prop), Wp d 183 13 L [.int a] M Q ↔ Wp d 183 14 L [.long a.toInt64] M Q) ∧
    (∀ (d : Nat) (a : Int64) (L : List Value) (M : Mem) (Q : Option Value → Mem → Prop), Wp d 183 14 L [.long a] M Q ↔ Wp d 183 15 L [.long 0, .long a] M Q) ∧
    (∀ (d : Nat) (a : Int64) (b : Int64) (L : List Value) (M : Mem) (Q : Option Value → Mem → Prop), Wp d 183 15 L [.long a, .long b] M Q ↔ Wp d 183 18 L [.long 100, .long a, .long b] M Q) ∧
    (∀ (d : Nat) (a : Int64) (b : Int64) (c : Int64) (L : List Value) (M : Mem) (Q : Option Value → Mem → Prop), Wp (d + 1) 183 18 L [.long a, .long b, .long c] M Q ↔ Wp d 112 0 [.long c, .null, .long b, .null, .long a, .null] [] M (fun r M2 => Wp (d + 1) 183 21 L (r.toList ++ []) M2 Q)) ∧
    (∀ (d : Nat) (a : Int32) (L : List Value) (M : Mem) (Q : Option Value → Mem → Prop), Wp d 183 21 L [.int a] M Q ↔ (if a = 0 then Wp d 183 24 L [] M Q else Wp d 183 27 L [] M Q)) ∧
    (∀ (d : Nat) (L : List Value) (M : Mem) (Q : Option Value → Mem → Prop), Wp d 183 24 L [] M Q ↔ Wp d 183 26 L [.int (-1000000002)] M Q) ∧
    (∀ (d : Nat) (a : Int32) (L : List Value) (M : Mem) (Q : Option Value → Mem → Prop), Wp d 183 26 L [.int a] M Q ↔ Q (some (.int a)) M) ∧
    (∀ (d : Nat) (L : List Value) (M : Mem) (Q : Option Value → Mem → Prop), Wp d 183 27 L [] M Q ↔ Wp d 183 30 L [.long 1000000000] M Q) ∧
    (∀ (d : Nat) (a : Int64) (v0 : Value) (v1 : Value) (v2 : Value) (x x2 : Value) (L : List Value) (M : Mem) (Q : Option Value → Mem → Prop), Wp d 183 30 (v0 :: v1 :: v2 :: x :: x2 :: L) [.long a] M Q ↔ Wp d 183 31 (v0 :: v1 :: clr v2 :: .long a :: .null :: L) [] M Q) ∧
    (∀ (d : Nat) (L : List Value) (M : Mem) (Q : Option Value → Mem → Prop), Wp d 183 31 L [] M Q ↔ Wp d 183 32 L [.int 0] M Q) ∧
    (∀ (d : Nat) (a : Int32) (v0 : Value) (v1 : Value) (v2 : Value) (v3 : Value) (v4 : Value) (x : Value) (L : List Value) (M : Mem) (Q : Option Value → Mem → Prop), Wp d 183 32 (v0 :: v1 :: v2 :: v3 :: v4 :: x :: L) [.int a] M Q ↔ Wp d 183 34 (v0 :: v1 :: v2 :: v3 :: clr v4 :: .int a :: L) [] M Q) ∧
    (∀ (d : Nat) (a : Int32) (v0 : Value) (x : Int32) (L : List Value) (M : Mem) (Q : Option Value → Mem → Prop), Wp d 183 36 (v0 :: .int x :: L) [.int a] M Q ↔ Wp d 183 37 (v0 :: .int x :: L) [.int x, .int a] M Q) ∧
    (∀ (d : Nat) (a : Int32) (b : Int32) (L : List Value) (M : Mem) (Q : Option Value → Mem → Prop), Wp d 183 37 L [.int a, .int b] M Q ↔ (if b < a then Wp d 183 40 L [] M Q else Wp d 183 58 L [] M Q)) ∧
    (∀ (d : Nat) (v0 : Value) (v1 : Value) (v2 : Value) (x : Int64) (L : List Value) (M : Mem) (Q : Option Value → Mem → Prop), Wp d 183 40 (v0 :: v1 :: v2 :: .long x :: L) [] M Q ↔ Wp d 183 41 (v0 :: v1 :: v2 :: .long x :: L) [.long x] M Q) ∧
    (∀ (d : Nat) (a : Int64) (L : List Value) (M : Mem) (Q : Option Value → Mem → Prop), Wp d 183 41 L [.long a] M Q ↔ Wp d 183 43 L [.int 100, .long a] M Q) ∧
    (∀ (d : Nat) (a : Int32) (b : Int64) (v0 : Value) (v1 : Value) (x : Int32) (L : List Value) (M : Mem) (Q : Option Value → Mem → Prop), Wp d 183 43 (v0 :: v1 :: .int x :: L) [.int a, .long b] M Q ↔ Wp d 183 44 (v0 :: v1 :: .int x :: L) [.int x, .int a, .long b] M Q) ∧
    (∀ (d : Nat) (a : Int32) (b : Int32) (c : Int64) (L : List Value) (M : Mem) (Q : Option Value → Mem → Prop), Wp d 183 44 L [.int a, .int b, .long c] M Q ↔ Wp d 183 45 L [.int (b - a), .long c] M Q) ∧
    (∀ (d : Nat) (a : Int32) (b : Int64) (L : List Value) (M : Mem) (Q : Option Value → Mem → Prop), Wp d 183 45 L [.int a, .long b] M Q ↔ Wp d 183 46 L [.long a.toInt64, .long b] M Q) ∧
    (∀ (d : Nat) (a : Int64) (b : Int64) (L : List Value) (M : Mem) (Q : Option Value → Mem → Prop), Wp d 183 46 L [.long a, .long b] M Q ↔ Wp d 183 47 L [.long (b * a)] M Q) ∧
    (∀ (d : Nat) (a : Int64) (L : List Value) (M : Mem) (Q : Option Value → Mem → Prop), Wp d 183 47 L [.long a] M Q ↔ Wp d 183 50 L [.long 100, .long a] M Q) ∧
    (∀ (d : Nat) (a : Int64) (b : Int64) (L : List Value) (M : Mem) (Q : Option Value → Mem → Prop), Wp d 183 50 L [.long a, .long b] M Q ↔ (¬ a = 0 ∧ Wp d 183 51 L [.long (b / a)] M Q)) ∧
    (∀ (d : Nat) (a : Int64) (v0 : Value) (v1 : Value) (v2 : Value) (x x2 : Value) (L : List Value) (M : Mem) (Q : Option Value → Mem → Prop), Wp d 183 51 (v0 :: v1 :: v2 :: x :: x2 :: L) [.long a] M Q ↔ Wp d 183 52 (v0 :: v1 :: clr v2 :: .long a :: .null :: L) [] M Q) ∧
    (∀ (d : Nat) (v0 : Value) (v1 : Value) (v2 : Value) (v3 : Value) (v4 : Value) (x : Int32) (L : List Value) (M : Mem) (Q : Option Value → Mem → Prop), Wp d 183 52 (v0 :: v1 :: v2 :: v3 :: v4 :: .int x :: L) [] M Q ↔ Wp d 183 55 (v0 :: v1 :: v2 :: v3 :: clr v4 :: .int (x + 1) :: L) [] M Q) ∧
    (∀ (d : Nat) (L : List Value) (M : Mem) (Q : Option Value → Mem → Prop), Wp d 183 55 L [] M Q ↔ Wp d 183 34 L [] M Q) ∧
    (∀ (d : Nat) (v0 : Value) (v1 : Value) (v2 : Value) (x : Int64) (L : List Value) (M : Mem) (Q : Option Value → Mem → Prop), Wp d 183 58 (v0 :: v1 :: v2 :: .long x :: L) [] M Q ↔ Wp d 183 59 (v0 :: v1 :: v2 :: .long x :: L) [.long x] M Q) ∧
    (∀ (d : Nat) (a : Int64) (L : List Value) (M : Mem) (Q : Option Value → Mem → Prop), Wp d 183 59 L [.long a] M Q ↔ Wp d 183 60 L [.int a.toInt32] M Q) ∧
    (∀ (d : Nat) (a : Int32) (L : List Value) (M : Mem) (Q : Option Value → Mem → Prop), Wp d 183 60 L [.int a] M Q ↔ Q (some (.int a)) M) := by
  refine ⟨?_, ?_, ?_, ?_, ?_, ?_, ?_, ?_, ?_, ?_, ?_, ?_, ?_, ?_, ?_, ?_, ?_, ?_, ?_, ?_, ?_, ?_, ?_, ?_, ?_, ?_, ?_, ?_, ?_, ?_, ?_, ?_, ?_, ?_⟩
  · intro d v0 x L M Q; exact Wp_sim (by decide +kernel : decode (cd 183) 0 = .ok (.iload_n 1, 1)) rfl rfl
  · intro d a L M Q; exact Wp_sim (by decide +kernel : decode (cd 183) 1 = .ok (.i2l , 1)) rfl rfl
  · intro d a L M Q; exact Wp_sim (by decide +kernel : decode (cd 183) 2 = .ok (.lconst 0, 1)) rfl rfl
  · intro d a b L M Q; exact q_ldc2 (p := 1082) (by decide +kernel : decode (cd 183) 3 = .ok (.ldc2_w 198, 3)) (by decide +kernel)
  · intro d a b c L M Q; exact q_invS (pz := 937) (n := 3) (m := 6) (As := [.long c, .long b, .long a]) (rest := []) (by decide +kernel : decode (cd 183) 6 = .ok (.invokestatic 75, 3)) (by decide +kernel) (by decide +kernel) (by decide +kernel) rfl rfl (Nat.le_of_ble_eq_true rfl) (Nat.le_of_ble_eq_true rfl) rfl
  · intro d a L M Q; exact q_zeq (by decide +kernel : decode (cd 183) 9 = .ok (.ifCond .eq 15, 3)) (by decide)
  · intro d v0 v1 x L M Q; exact Wp_sim (by decide +kernel : decode (cd 183) 12 = .ok (.iload_n 2, 1)) rfl rfl
  · intro d a L M Q; exact Wp_sim (by decide +kernel : decode (cd 183) 13 = .ok (.i2l , 1)) rfl rfl
  · intro d a L M Q; exact Wp_sim (by decide +kernel : decode (cd 183) 14 = .ok (.lconst 0, 1)) rfl rfl
  · intro d a b L M Q; exact q_ldc2 (p := 1218) (by decide +kernel : decode (cd 183) 15 = .ok (.ldc2_w 289, 3)) (by decide +kernel)
  · intro d a b c L M Q; exact q_invS (pz := 937) (n := 3) (m := 6) (As := [.long c, .long b, .long a]) (rest := []) (by decide +kernel : decode (cd 183) 18 = .ok (.invokestatic 75, 3)) (by decide +kernel) (by decide +kernel) (by decide +kernel) rfl rfl (Nat.le_of_ble_eq_true rfl) (Nat.le_of_ble_eq_true rfl) rfl
  · intro d a L M Q; exact q_zne (by decide +kernel : decode (cd 183) 21 = .ok (.ifCond .ne 6, 3)) (by decide)
  · intro d L M Q; exact q_ldc (p := 940) (by decide +kernel : decode (cd 183) 24 = .ok (.ldc 79, 2)) (by decide +kernel)
  · intro d a L M Q; exact q_iret (by decide +kernel : decode (cd 183) 26 = .ok (.ireturn , 1)) (by decide +kernel)
  · intro d L M Q; exact q_ldc2 (p := 1235) (by decide +kernel : decode (cd 183) 27 = .ok (.ldc2_w 294, 3)) (by decide +kernel)
  · intro d a v0 v1 v2 x x2 L M Q; exact Wp_sim (by decide +kernel : decode (cd 183) 30 = .ok (.lstore_n 3, 1)) rfl rfl
  · intro d L M Q; exact Wp_sim (by decide +kernel : decode (cd 183) 31 = .ok (.iconst 0, 1)) rfl rfl
  · intro d a v0 v1 v2 v3 v4 x L M Q; exact Wp_sim (by decide +kernel : decode (cd 183) 32 = .ok (.istore 5, 2)) rfl rfl
  · intro d a v0 x L M Q; exact Wp_sim (by decide +kernel : decode (cd 183) 36 = .ok (.iload_n 1, 1)) rfl rfl
  · intro d a b L M Q; exact q_ige (by decide +kernel : decode (cd 183) 37 = .ok (.if_icmp .ge 21, 3)) (by decide)
  · intro d v0 v1 v2 x L M Q; exact Wp_sim (by decide +kernel : decode (cd 183) 40 = .ok (.lload_n 3, 1)) rfl rfl
  · intro d a L M Q; exact Wp_sim (by decide +kernel : decode (cd 183) 41 = .ok (.bipush 100, 2)) rfl rfl
  · intro d a b v0 v1 x L M Q; exact Wp_sim (by decide +kernel : decode (cd 183) 43 = .ok (.iload_n 2, 1)) rfl rfl
  · intro d a b c L M Q; exact Wp_sim (by decide +kernel : decode (cd 183) 44 = .ok (.isub , 1)) rfl rfl
  · intro d a b L M Q; exact Wp_sim (by decide +kernel : decode (cd 183) 45 = .ok (.i2l , 1)) rfl rfl
  · intro d a b L M Q; exact Wp_sim (by decide +kernel : decode (cd 183) 46 = .ok (.lmul , 1)) rfl rfl
  · intro d a L M Q; exact q_ldc2 (p := 1218) (by decide +kernel : decode (cd 183) 47 = .ok (.ldc2_w 289, 3)) (by decide +kernel)
  · intro d a b L M Q; exact q_ldiv (by decide +kernel : decode (cd 183) 50 = .ok (.ldiv , 1))
  · intro d a v0 v1 v2 x x2 L M Q; exact Wp_sim (by decide +kernel : decode (cd 183) 51 = .ok (.lstore_n 3, 1)) rfl rfl
  · intro d v0 v1 v2 v3 v4 x L M Q; exact Wp_sim (by decide +kernel : decode (cd 183) 52 = .ok (.iinc 5 1, 3)) rfl rfl
  · intro d L M Q; exact q_goto (by decide +kernel : decode (cd 183) 55 = .ok (.goto (-21), 3)) (by decide)
  · intro d v0 v1 v2 x L M Q; exact Wp_sim (by decide +kernel : decode (cd 183) 58 = .ok (.lload_n 3, 1)) rfl rfl
  · intro d a L M Q; exact Wp_sim (by decide +kernel : decode (cd 183) 59 = .ok (.l2i , 1)) rfl rfl
  · intro d a L M Q; exact q_iret (by decide +kernel : decode (cd 183) 60 = .ok (.ireturn , 1)) (by decide +kernel)
theorem h183_34 : (∀ (d : Nat) (v0 : Value) (v1 : Value) (v2 : Value) (v3 : Value) (v4 : Value) (x : Int32) (L : List Value) (M : Mem) (Q : Option Value → Mem → Prop), Wp d 183 34 (v0 :: v1 :: v2 :: v3 :: v4 :: .int x :: L) [] M Q ↔ Wp d 183 36 (v0 :: v1 :: v2 :: v3 :: v4 :: .int x :: L) [.int x] M Q) := by
  intro d v0 v1 v2 v3 v4 x L M Q; exact Wp_sim (by decide +kernel : decode (cd 183) 34 = .ok (.iload 5, 2)) rfl rfl

/- 184: PalaceYardModel.hat -/
set_option maxRecDepth 10000 in
theorem e184 : (∀ (d : Nat) (v0 : Value) (x : Int32) (L : List Value) (M : Mem) (Q : Option Value → Mem → Prop), Wp d 184 0 (v0 :: .int x :: L) [] M Q ↔ Wp d 184 1 (v0 :: .int x :: L) [.int x] M Q) ∧
    (∀ (d : Nat) (a : Int32) (L : List Value) (M : Mem) (Q : Option Value → Mem → Prop), Wp d 184 1 L [.int a] M Q ↔ Wp d 184 2 L [.long a.toInt64] M Q) ∧
    (∀ (d : Nat) (a : Int64) (L : List Value) (M : Mem) (Q : Option Value → Mem → Prop), Wp d 184 2 L [.long a] M Q ↔ Wp d 184 3 L [.long 0, .long a] M Q) ∧
    (∀ (d : Nat) (a : Int64) (b : Int64) (L : List Value) (M : Mem) (Q : Option Value → Mem → Prop), Wp d 184 3 L [.long a, .long b] M Q ↔ Wp d 184 6 L [.long 60, .long a, .long b] M Q) ∧
    (∀ (d : Nat) (a : Int64) (b : Int64) (c : Int64) (L : List Value) (M : Mem) (Q : Option Value → Mem → Prop), Wp (d + 1) 184 6 L [.long a, .long b, .long c] M Q ↔ Wp d 112 0 [.long c, .null, .long b, .null, .long a, .null] [] M (fun r M2 => Wp (d + 1) 184 9 L (r.toList ++ []) M2 Q)) ∧
    (∀ (d : Nat) (a : Int32) (L : List Value) (M : Mem) (Q : Option Value → Mem → Prop), Wp d 184 9 L [.int a] M Q ↔ (if a = 0 then Wp d 184 12 L [] M Q else Wp d 184 15 L [] M Q)) ∧
    (∀ (d : Nat) (L : List Value) (M : Mem) (Q : Option Value → Mem → Prop), Wp d 184 12 L [] M Q ↔ Wp d 184 14 L [.int (-1000000002)] M Q) ∧
    (∀ (d : Nat) (a : Int32) (L : List Value) (M : Mem) (Q : Option Value → Mem → Prop), Wp d 184 14 L [.int a] M Q ↔ Q (some (.int a)) M) ∧
    (∀ (d : Nat) (x : Nat) (L : List Value) (M : Mem) (Q : Option Value → Mem → Prop), Wp d 184 15 (.ref x :: L) [] M Q ↔ Wp d 184 16 (.ref x :: L) [.ref x] M Q) ∧
    (∀ (d : Nat) (a : Nat) (L : List Value) (M : Mem) (Q : Option Value → Mem → Prop), Wp d 184 16 L [.ref a] M Q ↔ (isK a 12 = true ∧ Wp d 184 19 L [.int (M a 13)] M Q)) ∧
    (∀ (d : Nat) (a : Int32) (L : List Value) (M : Mem) (Q : Option Value → Mem → Prop), Wp d 184 19 L [.int a] M Q ↔ Wp d 184 21 L [.int 6, .int a] M Q) ∧
    (∀ (d : Nat) (a : Int32) (b : Int32) (L : List Value) (M : Mem) (Q : Option Value → Mem → Prop), Wp d 184 21 L [.int a, .int b] M Q ↔ (if b = a then Wp d 184 24 L [] M Q else Wp d 184 27 L [] M Q)) ∧
    (∀ (d : Nat) (L : List Value) (M : Mem) (Q : Option Value → Mem → Prop), Wp d 184 24 L [] M Q ↔ Wp d 184 26 L [.int (-1000000004)] M Q) ∧
    (∀ (d : Nat) (a : Int32) (L : List Value) (M : Mem) (Q : Option Value → Mem → Prop), Wp d 184 26 L [.int a] M Q ↔ Q (some (.int a)) M) ∧
    (∀ (d : Nat) (x : Nat) (L : List Value) (M : Mem) (Q : Option Value → Mem → Prop), Wp d 184 27 (.ref x :: L) [] M Q ↔ Wp d 184 28 (.ref x :: L) [.ref x] M Q) ∧
    (∀ (d : Nat) (a : Nat) (L : List Value) (M : Mem) (Q : Option Value → Mem → Prop), Wp d 184 28 L [.ref a] M Q ↔ (isK a 12 = true ∧ Wp d 184 31 L [.ref (rt a 12)] M Q)) ∧
    (∀ (d : Nat) (a : Nat) (L : List Value) (M : Mem) (Q : Option Value → Mem → Prop), Wp d 184 31 L [.ref a] M Q ↔ Wp d 184 32 L [.int 2, .ref a] M Q) ∧
    (∀ (d : Nat) (a : Int32) (b : Nat) (x : Nat) (L : List Value) (M : Mem) (Q : Option Value → Mem → Prop), Wp d 184 32 (.ref x :: L) [.int a, .ref b] M Q ↔ Wp d 184 33 (.ref x :: L) [.ref x, .int a, .ref b] M Q) ∧
    (∀ (d : Nat) (a : Nat) (b : Int32) (c : Nat) (L : List Value) (M : Mem) (Q : Option Value → Mem → Prop), Wp d 184 33 L [.ref a, .int b, .ref c] M Q ↔ (isK a 12 = true ∧ Wp d 184 36 L [.int (M a 13), .int b, .ref c] M Q)) ∧
    (∀ (d : Nat) (a : Int32) (b : Int32) (c : Nat) (L : List Value) (M : Mem) (Q : Option Value → Mem → Prop), Wp d 184 36 L [.int a, .int b, .ref c] M Q ↔ Wp d 184 37 L [.int (b * a), .ref c] M Q) ∧
    (∀ (d : Nat) (a : Int32) (b : Nat) (v0 : Value) (x : Int32) (L : List Value) (M : Mem) (Q : Option Value → Mem → Prop), Wp d 184 37 (v0 :: .int x :: L) [.int a, .ref b] M Q ↔ Wp d 184 38 (v0 :: .int x :: L) [.int x, .int a, .ref b] M Q) ∧
    (∀ (d : Nat) (a : Int32) (b : Int32) (c : Nat) (L : List Value) (M : Mem) (Q : Option Value → Mem → Prop), Wp d 184 38 L [.int a, .int b, .ref c] M Q ↔ ((isK c 13 = true ∧ inr b (lnm M c)) ∧ Wp d 184 39 L [] (up2 M c b.toNatClampNeg a) Q)) ∧
    (∀ (d : Nat) (x : Nat) (L : List Value) (M : Mem) (Q : Option Value → Mem → Prop), Wp d 184 39 (.ref x :: L) [] M Q ↔ Wp d 184 40 (.ref x :: L) [.ref x] M Q) ∧
    (∀ (d : Nat) (a : Nat) (L : List Value) (M : Mem) (Q : Option Value → Mem → Prop), Wp d 184 40 L [.ref a] M Q ↔ (isK a 12 = true ∧ Wp d 184 43 L [.ref (rt a 12)] M Q)) ∧
    (∀ (d : Nat) (a : Nat) (L : List Value) (M : Mem) (Q : Option Value → Mem → Prop), Wp d 184 43 L [.ref a] M Q ↔ Wp d 184 44 L [.int 2, .ref a] M Q) ∧
    (∀ (d : Nat) (a : Int32) (b : Nat) (x : Nat) (L : List Value) (M : Mem) (Q : Option Value → Mem → Prop), Wp d 184 44 (.ref x :: L) [.int a, .ref b] M Q ↔ Wp d 184 45 (.ref x :: L) [.ref x, .int a, .ref b] M Q) ∧
    (∀ (d : Nat) (a : Nat) (b : Int32) (c : Nat) (L : List Value) (M : Mem) (Q : Option Value → Mem → Prop), Wp d 184 45 L [.ref a, .int b, .ref c] M Q ↔ (isK a 12 = true ∧ Wp d 184 48 L [.int (M a 13), .int b, .ref c] M Q)) ∧
    (∀ (d : Nat) (a : Int32) (b : Int32) (c : Nat) (L : List Value) (M : Mem) (Q : Option Value → Mem → Prop), Wp d 184 48 L [.int a, .int b, .ref c] M Q ↔ Wp d 184 49 L [.int (b * a), .ref c] M Q) ∧
    (∀ (d : Nat) (a : Int32) (b : Nat) (L : List Value) (M : Mem) (Q : Option Value → Mem → Prop), Wp d 184 49 L [.int a, .ref b] M Q ↔ Wp d 184 50 L [.int 1, .int a, .ref b] M Q) ∧
    (∀ (d : Nat) (a : Int32) (b : Int32) (c : Nat) (L : List Value) (M : Mem) (Q : Option Value → Mem → Prop), Wp d 184 50 L [.int a, .int b, .ref c] M Q ↔ Wp d 184 51 L [.int (b + a), .ref c] M Q) ∧
    (∀ (d : Nat) (a : Int32) (b : Nat) (v0 : Value) (v1 : Value) (x : Int32) (L : List Value) (M : Mem) (Q : Option Value → Mem → Prop), Wp d 184 51 (v0 :: v1 :: .int x :: L) [.int a, .ref b] M Q ↔ Wp d 184 52 (v0 :: v1 :: .int x :: L) [.int x, .int a, .ref b] M Q) ∧
    (∀ (d : Nat) (a : Int32) (b : Int32) (c : Nat) (L : List Value) (M : Mem) (Q : Option Value → Mem → Prop), Wp d 184 52 L [.int a, .int b, .ref c] M Q ↔ (if a = 0 then Wp d 184 59 L [.int b, .ref c] M Q else Wp d 184 55 L [.int b, .ref c] M Q)) ∧
    (∀ (d : Nat) (a : Int32) (b : Nat) (L : List Value) (M : Mem) (Q : Option Value → Mem → Prop), Wp d 184 55 L [.int a, .ref b] M Q ↔ Wp d 184 56 L [.int 1, .int a, .ref b] M Q) ∧
    (∀ (d : Nat) (a : Int32) (b : Int32) (c : Nat) (L : List Value) (M : Mem) (Q : Option Value → Mem → Prop), Wp d 184 56 L [.int a, .int b, .ref c] M Q ↔ Wp d 184 60 L [.int a, .int b, .ref c] M Q) ∧
    (∀ (d : Nat) (a : Int32) (b : Nat) (L : List Value) (M : Mem) (Q : Option Value → Mem → Prop), Wp d 184 59 L [.int a, .ref b] M Q ↔ Wp d 184 60 L [.int 0, .int a, .ref b] M Q) ∧
    (∀ (d : Nat) (a : Int32) (b : Int32) (c : Nat) (L : List Value) (M : Mem) (Q : Option Value → Mem → Prop), Wp d 184 60 L [.int a, .int b, .ref c] M Q ↔ ((isK c 13 = true ∧ inr b (lnm M c)) ∧ Wp d 184 61 L [] (up2 M c b.toNatClampNeg a) Q)) ∧
    (∀ (d : Nat) (x : Nat) (L : List Value) (M : Mem) (Q : Option Value → Mem → Prop), Wp d 184 61 (.ref x :: L) [] M Q ↔ Wp d 184 62 (.ref x :: L) [.ref x] M Q) ∧
    (∀ (d : Nat) (a : Nat) (L : List Value) (M : Mem) (Q : Option Value → Mem → Prop), Wp d 184 62 L [.ref a] M Q ↔ Wp d 184 63 L [.ref a, .ref a] M Q) ∧
    (∀ (d : Nat) (a : Nat) (b : Nat) (L : List Value) (M : Mem) (Q : Option Value → Mem → Prop), Wp d 184 63 L [.ref a, .ref b] M Q ↔ (isK a 12 = true ∧ Wp d 184 66 L [.int (M a 13), .ref b] M Q)) ∧
    (∀ (d : Nat) (a : Int32) (b : Nat) (L : List Value) (M : Mem) (Q : Option Value → Mem → Prop), Wp d 184 66 L [.int a, .ref b] M Q ↔ Wp d 184 67 L [.int 1, .int a, .ref b] M Q) ∧
    (∀ (d : Nat) (a : Int32) (b : Int32) (c : Nat) (L : List Value) (M : Mem) (Q : Option Value → Mem → Prop), Wp d 184 67 L [.int a, .int b, .ref c] M Q ↔ Wp d 184 68 L [.int (b + a), .ref c] M Q) ∧
    (∀ (d : Nat) (a : Int32) (b : Nat) (L : List Value) (M : Mem) (Q : Option Value → Mem → Prop), Wp d 184 68 L [.int a, .ref b] M Q ↔ (isK b 12 = true ∧ Wp d 184 71 L [] (up2 M b 13 a) Q)) ∧
    (∀ (d : Nat) (x : Nat) (L : List Value) (M : Mem) (Q : Option Value → Mem → Prop), Wp d 184 71 (.ref x :: L) [] M Q ↔ Wp d 184 72 (.ref x :: L) [.ref x] M Q) ∧
    (∀ (d : Nat) (a : Nat) (L : List Value) (M : Mem) (Q : Option Value → Mem → Prop), Wp d 184 72 L [.ref a] M Q ↔ (isK a 12 = true ∧ Wp d 184 75 L [.int (M a 13)] M Q)) ∧
    (∀ (d : Nat) (a : Int32) (L : List Value) (M : Mem) (Q : Option Value → Mem → Prop), Wp d 184 75 L [.int a] M Q ↔ Q (some (.int a)) M) := by
  refine ⟨?_, ?_, ?_, ?_, ?_, ?_, ?_, ?_, ?_, ?_, ?_, ?_, ?_, ?_, ?_, ?_, ?_, ?_, ?_, ?_, ?_, ?_, ?_, ?_, ?_, ?_, ?_, ?_, ?_, ?_, ?_, ?_, ?_, ?_, ?_, ?_, ?_, ?_, ?_, ?_, ?_, ?_, ?_, ?_, ?_⟩
  · intro d v0 x L M Q; exact Wp_sim (by decide +kernel : decode (cd 184) 0 = .ok (.iload_n 1, 1)) rfl rfl
  · intro d a L M Q; exact Wp_sim (by decide +kernel : decode (cd 184) 1 = .ok (.i2l , 1)) rfl rfl
  · intro d a L M Q; exact Wp_sim (by decide +kernel : decode (cd 184) 2 = .ok (.lconst 0, 1)) rfl rfl
  · intro d a b L M Q; exact q_ldc2 (p := 1082) (by decide +kernel : decode (cd 184) 3 = .ok (.ldc2_w 198, 3)) (by decide +kernel)
  · intro d a b c L M Q; exact q_invS (pz := 937) (n := 3) (m := 6) (As := [.long c, .long b, .long a]) (rest := []) (by decide +kernel : decode (cd 184) 6 = .ok (.invokestatic 75, 3)) (by decide +kernel) (by decide +kernel) (by decide +kernel) rfl rfl (Nat.le_of_ble_eq_true rfl) (Nat.le_of_ble_eq_true rfl) rfl
  · intro d a L M Q; exact q_zne (by decide +kernel : decode (cd 184) 9 = .ok (.ifCond .ne 6, 3)) (by decide)
  · intro d L M Q; exact q_ldc (p := 940) (by decide +kernel : decode (cd 184) 12 = .ok (.ldc 79, 2)) (by decide +kernel)
  · intro d a L M Q; exact q_iret (by decide +kernel : decode (cd 184) 14 = .ok (.ireturn , 1)) (by decide +kernel)
  · intro d x L M Q; exact Wp_sim (by decide +kernel : decode (cd 184) 15 = .ok (.aload_n 0, 1)) rfl rfl
  · intro d a L M Q; exact q_getI (p := 856) (by decide +kernel : decode (cd 184) 16 = .ok (.getfield 67, 3)) (by decide +kernel) (by decide +kernel)
  · intro d a L M Q; exact Wp_sim (by decide +kernel : decode (cd 184) 19 = .ok (.bipush 6, 2)) rfl rfl
  · intro d a b L M Q; exact q_ine (by decide +kernel : decode (cd 184) 21 = .ok (.if_icmp .ne 6, 3)) (by decide)
  · intro d L M Q; exact q_ldc (p := 941) (by decide +kernel : decode (cd 184) 24 = .ok (.ldc 83, 2)) (by decide +kernel)
  · intro d a L M Q; exact q_iret (by decide +kernel : decode (cd 184) 26 = .ok (.ireturn , 1)) (by decide +kernel)
  · intro d x L M Q; exact Wp_sim (by decide +kernel : decode (cd 184) 27 = .ok (.aload_n 0, 1)) rfl rfl
  · intro d a L M Q; exact q_getR (p := 855) (by decide +kernel : decode (cd 184) 28 = .ok (.getfield 39, 3)) (by decide +kernel) (by decide +kernel)
  · intro d a L M Q; exact Wp_sim (by decide +kernel : decode (cd 184) 31 = .ok (.iconst 2, 1)) rfl rfl
  · intro d a b x L M Q; exact Wp_sim (by decide +kernel : decode (cd 184) 32 = .ok (.aload_n 0, 1)) rfl rfl
  · intro d a b c L M Q; exact q_getI (p := 856) (by decide +kernel : decode (cd 184) 33 = .ok (.getfield 67, 3)) (by decide +kernel) (by decide +kernel)
  · intro d a b c L M Q; exact Wp_sim (by decide +kernel : decode (cd 184) 36 = .ok (.imul , 1)) rfl rfl
  · intro d a b v0 x L M Q; exact Wp_sim (by decide +kernel : decode (cd 184) 37 = .ok (.iload_n 1, 1)) rfl rfl
  · intro d a b c L M Q; exact q_ast (by decide +kernel : decode (cd 184) 38 = .ok (.iastore , 1))
  · intro d x L M Q; exact Wp_sim (by decide +kernel : decode (cd 184) 39 = .ok (.aload_n 0, 1)) rfl rfl
  · intro d a L M Q; exact q_getR (p := 855) (by decide +kernel : decode (cd 184) 40 = .ok (.getfield 39, 3)) (by decide +kernel) (by decide +kernel)
  · intro d a L M Q; exact Wp_sim (by decide +kernel : decode (cd 184) 43 = .ok (.iconst 2, 1)) rfl rfl
  · intro d a b x L M Q; exact Wp_sim (by decide +kernel : decode (cd 184) 44 = .ok (.aload_n 0, 1)) rfl rfl
  · intro d a b c L M Q; exact q_getI (p := 856) (by decide +kernel : decode (cd 184) 45 = .ok (.getfield 67, 3)) (by decide +kernel) (by decide +kernel)
  · intro d a b c L M Q; exact Wp_sim (by decide +kernel : decode (cd 184) 48 = .ok (.imul , 1)) rfl rfl
  · intro d a b L M Q; exact Wp_sim (by decide +kernel : decode (cd 184) 49 = .ok (.iconst 1, 1)) rfl rfl
  · intro d a b c L M Q; exact Wp_sim (by decide +kernel : decode (cd 184) 50 = .ok (.iadd , 1)) rfl rfl
  · intro d a b v0 v1 x L M Q; exact Wp_sim (by decide +kernel : decode (cd 184) 51 = .ok (.iload_n 2, 1)) rfl rfl
  · intro d a b c L M Q; exact q_zeq (by decide +kernel : decode (cd 184) 52 = .ok (.ifCond .eq 7, 3)) (by decide)
  · intro d a b L M Q; exact Wp_sim (by decide +kernel : decode (cd 184) 55 = .ok (.iconst 1, 1)) rfl rfl
  · intro d a b c L M Q; exact q_goto (by decide +kernel : decode (cd 184) 56 = .ok (.goto 4, 3)) (by decide)
  · intro d a b L M Q; exact Wp_sim (by decide +kernel : decode (cd 184) 59 = .ok (.iconst 0, 1)) rfl rfl
  · intro d a b c L M Q; exact q_ast (by decide +kernel : decode (cd 184) 60 = .ok (.iastore , 1))
  · intro d x L M Q; exact Wp_sim (by decide +kernel : decode (cd 184) 61 = .ok (.aload_n 0, 1)) rfl rfl
  · intro d a L M Q; exact Wp_sim (by decide +kernel : decode (cd 184) 62 = .ok (.dup , 1)) rfl rfl
  · intro d a b L M Q; exact q_getI (p := 856) (by decide +kernel : decode (cd 184) 63 = .ok (.getfield 67, 3)) (by decide +kernel) (by decide +kernel)
  · intro d a b L M Q; exact Wp_sim (by decide +kernel : decode (cd 184) 66 = .ok (.iconst 1, 1)) rfl rfl
  · intro d a b c L M Q; exact Wp_sim (by decide +kernel : decode (cd 184) 67 = .ok (.iadd , 1)) rfl rfl
  · intro d a b L M Q; exact q_putI (p := 856) (by decide +kernel : decode (cd 184) 68 = .ok (.putfield 67, 3)) (by decide +kernel) (by decide +kernel)
  · intro d x L M Q; exact Wp_sim (by decide +kernel : decode (cd 184) 71 = .ok (.aload_n 0, 1)) rfl rfl
  · intro d a L M Q; exact q_getI (p := 856) (by decide +kernel : decode (cd 184) 72 = .ok (.getfield 67, 3)) (by decide +kernel) (by decide +kernel)
  · intro d a L M Q; exact q_iret (by decide +kernel : decode (cd 184) 75 = .ok (.ireturn , 1)) (by decide +kernel)

/- 185: PalaceYardModel.over -/
set_option maxRecDepth 10000 in
theorem e185 : (∀ (d : Nat) (v0 : Value) (x : Int32) (L : List Value) (M : Mem) (Q : Option Value → Mem → Prop), Wp d 185 0 (v0 :: .int x :: L) [] M Q ↔ Wp d 185 1 (v0 :: .int x :: L) [.int x] M Q) ∧
    (∀ (d : Nat) (a : Int32) (L : List Value) (M : Mem) (Q : Option Value → Mem → Prop), Wp d 185 1 L [.int a] M Q ↔ Wp d 185 2 L [.long a.toInt64] M Q) ∧
    (∀ (d : Nat) (a : Int64) (L : List Value) (M : Mem) (Q : Option Value → Mem → Prop), Wp d 185 2 L [.long a] M Q ↔ Wp d 185 3 L [.long 0, .long a] M Q) ∧
    (∀ (d : Nat) (a : Int64) (b : Int64) (L : List Value) (M : Mem) (Q : Option Value → Mem → Prop), Wp d 185 3 L [.long a, .long b] M Q ↔ Wp d 185 6 L [.long 2, .long a, .long b] M Q) ∧
    (∀ (d : Nat) (a : Int64) (b : Int64) (c : Int64) (L : List Value) (M : Mem) (Q : Option Value → Mem → Prop), Wp (d + 1) 185 6 L [.long a, .long b, .long c] M Q ↔ Wp d 112 0 [.long c, .null, .long b, .null, .long a, .null] [] M (fun r M2 => Wp (d + 1) 185 9 L (r.toList ++ []) M2 Q)) ∧
    (∀ (d : Nat) (a : Int32) (L : List Value) (M : Mem) (Q : Option Value → Mem → Prop), Wp d 185 9 L [.int a] M Q ↔ (if a = 0 then Wp d 185 12 L [] M Q else Wp d 185 15 L [] M Q)) ∧
    (∀ (d : Nat) (L : List Value) (M : Mem) (Q : Option Value → Mem → Prop), Wp d 185 12 L [] M Q ↔ Wp d 185 14 L [.int (-1000000002)] M Q) ∧
    (∀ (d : Nat) (a : Int32) (L : List Value) (M : Mem) (Q : Option Value → Mem → Prop), Wp d 185 14 L [.int a] M Q ↔ Q (some (.int a)) M) ∧
    (∀ (d : Nat) (L : List Value) (M : Mem) (Q : Option Value → Mem → Prop), Wp d 185 15 L [] M Q ↔ Wp d 185 16 L [.int (-1)] M Q) ∧
    (∀ (d : Nat) (a : Int32) (v0 : Value) (v1 : Value) (x : Value) (L : List Value) (M : Mem) (Q : Option Value → Mem → Prop), Wp d 185 16 (v0 :: v1 :: x :: L) [.int a] M Q ↔ Wp d 185 17 (v0 :: clr v1 :: .int a :: L) [] M Q) ∧
    (∀ (d : Nat) (L : List Value) (M : Mem) (Q : Option Value → Mem → Prop), Wp d 185 17 L [] M Q ↔ Wp d 185 18 L [.int (-1)] M Q) ∧
    (∀ (d : Nat) (a : Int32) (v0 : Value) (v1 : Value) (v2 : Value) (x : Value) (L : List Value) (M : Mem) (Q : Option Value → Mem → Prop), Wp d 185 18 (v0 :: v1 :: v2 :: x :: L) [.int a] M Q ↔ Wp d 185 19 (v0 :: v1 :: clr v2 :: .int a :: L) [] M Q) ∧
    (∀ (d : Nat) (L : List Value) (M : Mem) (Q : Option Value → Mem → Prop), Wp d 185 19 L [] M Q ↔ Wp d 185 20 L [.int 0] M Q) ∧
    (∀ (d : Nat) (a : Int32) (v0 : Value) (v1 : Value) (v2 : Value) (v3 : Value) (x : Value) (L : List Value) (M : Mem) (Q : Option Value → Mem → Prop), Wp d 185 20 (v0 :: v1 :: v2 :: v3 :: x :: L) [.int a] M Q ↔ Wp d 185 22 (v0 :: v1 :: v2 :: clr v3 :: .int a :: L) [] M Q) ∧
    (∀ (d : Nat) (a : Int32) (L : List Value) (M : Mem) (Q : Option Value → Mem → Prop), Wp d 185 24 L [.int a] M Q ↔ Wp d 185 26 L [.int 61, .int a] M Q) ∧
    (∀ (d : Nat) (a : Int32) (b : Int32) (L : List Value) (M : Mem) (Q : Option Value → Mem → Prop), Wp d 185 26 L [.int a, .int b] M Q ↔ (if b < a then Wp d 185 29 L [] M Q else Wp d 185 72 L [] M Q)) ∧
    (∀ (d : Nat) (v0 : Value) (v1 : Value) (x : Int32) (L : List Value) (M : Mem) (Q : Option Value → Mem → Prop), Wp d 185 29 (v0 :: v1 :: .int x :: L) [] M Q ↔ Wp d 185 30 (v0 :: v1 :: .int x :: L) [.int x] M Q) ∧
    (∀ (d : Nat) (a : Int32) (L : List Value) (M : Mem) (Q : Option Value → Mem → Prop), Wp d 185 30 L [.int a] M Q ↔ Wp d 185 31 L [.int (-1), .int a] M Q) ∧
    (∀ (d : Nat) (a : Int32) (b : Int32) (L : List Value) (M : Mem) (Q : Option Value → Mem → Prop), Wp d 185 31 L [.int a, .int b] M Q ↔ (if b = a then Wp d 185 34 L [] M Q else Wp d 185 48 L [] M Q)) ∧
    (∀ (d : Nat) (x : Nat) (L : List Value) (M : Mem) (Q : Option Value → Mem → Prop), Wp d 185 34 (.ref x :: L) [] M Q ↔ Wp d 185 35 (.ref x :: L) [.ref x] M Q) ∧
    (∀ (d : Nat) (a : Nat) (v0 : Value) (v1 : Value) (v2 : Value) (v3 : Value) (x : Int32) (L : List Value) (M : Mem) (Q : Option Value → Mem → Prop), Wp d 185 35 (v0 :: v1 :: v2 :: v3 :: .int x :: L) [.ref a] M Q ↔ Wp d 185 37 (v0 :: v1 :: v2 :: v3 :: .int x :: L) [.int x, .ref a] M Q) ∧
    (∀ (d : Nat) (a : Int32) (b : Nat) (L : List Value) (M : Mem) (Q : Option Value → Mem → Prop), Wp (d + 1) 185 37 L [.int a, .ref b] M Q ↔ (isK b 12 = true ∧ Wp d 186 0 [.ref b, .int a, .null, .null] [] M (fun r M2 => Wp (d + 1) 185 40 L (r.toList ++ []) M2 Q))) ∧
    (∀ (d : Nat) (a : Int32) (L : List Value) (M : Mem) (Q : Option Value → Mem → Prop), Wp d 185 40 L [.int a] M Q ↔ (if a = 0 then Wp d 185 48 L [] M Q else Wp d 185 43 L [] M Q)) ∧
    (∀ (d : Nat) (v0 : Value) (v1 : Value) (v2 : Value) (v3 : Value) (x : Int32) (L : List Value) (M : Mem) (Q : Option Value → Mem → Prop), Wp d 185 43 (v0 :: v1 :: v2 :: v3 :: .int x :: L) [] M Q ↔ Wp d 185 45 (v0 :: v1 :: v2 :: v3 :: .int x :: L) [.int x] M Q) ∧
    (∀ (d : Nat) (a : Int32) (L : List Value) (M : Mem) (Q : Option Value → Mem → Prop), Wp d 185 45 L [.int a] M Q ↔ Wp d 185 49 L [.int a] M Q) ∧
    (∀ (d : Nat) (v0 : Value) (v1 : Value) (x : Int32) (L : List Value) (M : Mem) (Q : Option Value → Mem → Prop), Wp d 185 48 (v0 :: v1 :: .int x :: L) [] M Q ↔ Wp d 185 49 (v0 :: v1 :: .int x :: L) [.int x] M Q) ∧
    (∀ (d : Nat) (a : Int32) (v0 : Value) (v1 : Value) (x : Value) (L : List Value) (M : Mem) (Q : Option Value → Mem → Prop), Wp d 185 49 (v0 :: v1 :: x :: L) [.int a] M Q ↔ Wp d 185 50 (v0 :: clr v1 :: .int a :: L) [] M Q) ∧
    (∀ (d : Nat) (x : Nat) (L : List Value) (M : Mem) (Q : Option Value → Mem → Prop), Wp d 185 50 (.ref x :: L) [] M Q ↔ Wp d 185 51 (.ref x :: L) [.ref x] M Q) ∧
    (∀ (d : Nat) (a : Nat) (v0 : Value) (v1 : Value) (v2 : Value) (v3 : Value) (x : Int32) (L : List Value) (M : Mem) (Q : Option Value → Mem → Prop), Wp d 185 51 (v0 :: v1 :: v2 :: v3 :: .int x :: L) [.ref a] M Q ↔ Wp d 185 53 (v0 :: v1 :: v2 :: v3 :: .int x :: L) [.int x, .ref a] M Q) ∧
    (∀ (d : Nat) (a : Int32) (b : Nat) (L : List Value) (M : Mem) (Q : Option Value → Mem → Prop), Wp (d + 1) 185 53 L [.int a, .ref b] M Q ↔ (isK b 12 = true ∧ Wp d 186 0 [.ref b, .int a, .null, .null] [] M (fun r M2 => Wp (d + 1) 185 56 L (r.toList ++ []) M2 Q))) ∧
    (∀ (d : Nat) (a : Int32) (L : List Value) (M : Mem) (Q : Option Value → Mem → Prop), Wp d 185 56 L [.int a] M Q ↔ (if a = 0 then Wp d 185 64 L [] M Q else Wp d 185 59 L [] M Q)) ∧
    (∀ (d : Nat) (v0 : Value) (v1 : Value) (v2 : Value) (v3 : Value) (x : Int32) (L : List Value) (M : Mem) (Q : Option Value → Mem → Prop), Wp d 185 59 (v0 :: v1 :: v2 :: v3 :: .int x :: L) [] M Q ↔ Wp d 185 61 (v0 :: v1 :: v2 :: v3 :: .int x :: L) [.int x] M Q) ∧
    (∀ (d : Nat) (a : Int32) (L : List Value) (M : Mem) (Q : Option Value → Mem → Prop), Wp d 185 61 L [.int a] M Q ↔ Wp d 185 65 L [.int a] M Q) ∧
    (∀ (d : Nat) (v0 : Value) (v1 : Value) (v2 : Value) (x : Int32) (L : List Value) (M : Mem) (Q : Option Value → Mem → Prop), Wp d 185 64 (v0 :: v1 :: v2 :: .int x :: L) [] M Q ↔ Wp d 185 65 (v0 :: v1 :: v2 :: .int x :: L) [.int x] M Q) ∧
    (∀ (d : Nat) (a : Int32) (v0 : Value) (v1 : Value) (v2 : Value) (x : Value) (L : List Value) (M : Mem) (Q : Option Value → Mem → Prop), Wp d 185 65 (v0 :: v1 :: v2 :: x :: L) [.int a] M Q ↔ Wp d 185 66 (v0 :: v1 :: clr v2 :: .int a :: L) [] M Q) ∧
    (∀ (d : Nat) (v0 : Value) (v1 : Value) (v2 : Value) (v3 : Value) (x : Int32) (L : List Value) (M : Mem) (Q : Option Value → Mem → Prop), Wp d 185 66 (v0 :: v1 :: v2 :: v3 :: .int x :: L) [] M Q ↔ Wp d 185 69 (v0 :: v1 :: v2 :: clr v3 :: .int (x + 1) :: L) [] M Q) ∧
    (∀ (d : Nat) (L : List Value) (M : Mem) (Q : Option Value → Mem → Prop), Wp d 185 69 L [] M Q ↔ Wp d 185 22 L [] M Q) ∧
    (∀ (d : Nat) (v0 : Value) (x : Int32) (L : List Value) (M : Mem) (Q : Option Value → Mem → Prop), Wp d 185 72 (v0 :: .int x :: L) [] M Q ↔ Wp d 185 73 (v0 :: .int x :: L) [.int x] M Q) ∧
    (∀ (d : Nat) (a : Int32) (L : List Value) (M : Mem) (Q : Option Value → Mem → Prop), Wp d 185 73 L [.int a] M Q ↔ (if a = 0 then Wp d 185 76 L [] M Q else Wp d 185 84 L [] M Q)) ∧
    (∀ (d : Nat) (x : Nat) (L : List Value) (M : Mem) (Q : Option Value → Mem → Prop), Wp d 185 76 (.ref x :: L) [] M Q ↔ Wp d 185 77 (.ref x :: L) [.ref x] M Q) ∧
    (∀ (d : Nat) (a : Nat) (L : List Value) (M : Mem) (Q : Option Value → Mem → Prop), Wp d 185 77 L [.ref a] M Q ↔ Wp d 185 78 L [.int (-1), .ref a] M Q) ∧
    (∀ (d : Nat) (a : Int32) (b : Nat) (L : List Value) (M : Mem) (Q : Option Value → Mem → Prop), Wp (d + 1) 185 78 L [.int a, .ref b] M Q ↔ (isK b 12 = true ∧ Wp d 187 0 [.ref b, .int a, .null, .null] [] M (fun r M2 => Wp (d + 1) 185 81 L (r.toList ++ []) M2 Q))) ∧
    (∀ (d : Nat) (a : Int32) (L : List Value) (M : Mem) (Q : Option Value → Mem → Prop), Wp d 185 81 L [.int a] M Q ↔ Wp d 185 94 L [.int a] M Q) ∧
    (∀ (d : Nat) (v0 : Value) (x : Int32) (L : List Value) (M : Mem) (Q : Option Value → Mem → Prop), Wp d 185 84 (v0 :: .int x :: L) [] M Q ↔ Wp d 185 85 (v0 :: .int x :: L) [.int x] M Q) ∧
    (∀ (d : Nat) (a : Int32) (L : List Value) (M : Mem) (Q : Option Value → Mem → Prop), Wp d 185 85 L [.int a] M Q ↔ Wp d 185 86 L [.int 1, .int a] M Q) ∧
    (∀ (d : Nat) (a : Int32) (b : Int32) (L : List Value) (M : Mem) (Q : Option Value → Mem → Prop), Wp d 185 86 L [.int a, .int b] M Q ↔ (if b = a then Wp d 185 89 L [] M Q else Wp d 185 93 L [] M Q)) ∧
    (∀ (d : Nat) (v0 : Value) (v1 : Value) (x : Int32) (L : List Value) (M : Mem) (Q : Option Value → Mem → Prop), Wp d 185 89 (v0 :: v1 :: .int x :: L) [] M Q ↔ Wp d 185 90 (v0 :: v1 :: .int x :: L) [.int x] M Q) ∧
    (∀ (d : Nat) (a : Int32) (L : List Value) (M : Mem) (Q : Option Value → Mem → Prop), Wp d 185 90 L [.int a] M Q ↔ Wp d 185 94 L [.int a] M Q) ∧
    (∀ (d : Nat) (v0 : Value) (v1 : Value) (v2 : Value) (x : Int32) (L : List Value) (M : Mem) (Q : Option Value → Mem → Prop), Wp d 185 93 (v0 :: v1 :: v2 :: .int x :: L) [] M Q ↔ Wp d 185 94 (v0 :: v1 :: v2 :: .int x :: L) [.int x] M Q) ∧
    (∀ (d : Nat) (a : Int32) (L : List Value) (M : Mem) (Q : Option Value → Mem → Prop), Wp d 185 94 L [.int a] M Q ↔ Q (some (.int a)) M) := by
  refine ⟨?_, ?_, ?_, ?_, ?_, ?_, ?_, ?_, ?_, ?_, ?_, ?_, ?_, ?_, ?_, ?_, ?_, ?_, ?_, ?_, ?_, ?_, ?_, ?_, ?_, ?_, ?_, ?_, ?_, ?_, ?_, ?_, ?_, ?_, ?_, ?_, ?_, ?_, ?_, ?_, ?_, ?_, ?_, ?_, ?_, ?_, ?_, ?_, ?_, ?_⟩
  · intro d v0 x L M Q; exact Wp_sim (by decide +kernel : decode (cd 185) 0 = .ok (.iload_n 1, 1)) rfl rfl
  · intro d a L M Q; exact Wp_sim (by decide +kernel : decode (cd 185) 1 = .ok (.i2l , 1)) rfl rfl
  · intro d a L M Q; exact Wp_sim (by decide +kernel : decode (cd 185) 2 = .ok (.lconst 0, 1)) rfl rfl
  · intro d a b L M Q; exact q_ldc2 (p := 1073) (by decide +kernel : decode (cd 185) 3 = .ok (.ldc2_w 189, 3)) (by decide +kernel)
  · intro d a b c L M Q; exact q_invS (pz := 937) (n := 3) (m := 6) (As := [.long c, .long b, .long a]) (rest := []) (by decide +kernel : decode (cd 185) 6 = .ok (.invokestatic 75, 3)) (by decide +kernel) (by decide +kernel) (by decide +kernel) rfl rfl (Nat.le_of_ble_eq_true rfl) (Nat.le_of_ble_eq_true rfl) rfl
  · intro d a L M Q; exact q_zne (by decide +kernel : decode (cd 185) 9 = .ok (.ifCond .ne 6, 3)) (by decide)
  · intro d L M Q; exact q_ldc (p := 940) (by decide +kernel : decode (cd 185) 12 = .ok (.ldc 79, 2)) (by decide +kernel)
  · intro d a L M Q; exact q_iret (by decide +kernel : decode (cd 185) 14 = .ok (.ireturn , 1)) (by decide +kernel)
  · intro d L M Q; exact Wp_sim (by decide +kernel : decode (cd 185) 15 = .ok (.iconst (-1), 1)) rfl rfl
  · intro d a v0 v1 x L M Q; exact Wp_sim (by decide +kernel : decode (cd 185) 16 = .ok (.istore_n 2, 1)) rfl rfl
  · intro d L M Q; exact Wp_sim (by decide +kernel : decode (cd 185) 17 = .ok (.iconst (-1), 1)) rfl rfl
  · intro d a v0 v1 v2 x L M Q; exact Wp_sim (by decide +kernel : decode (cd 185) 18 = .ok (.istore_n 3, 1)) rfl rfl
  · intro d L M Q; exact Wp_sim (by decide +kernel : decode (cd 185) 19 = .ok (.iconst 0, 1)) rfl rfl
  · intro d a v0 v1 v2 v3 x L M Q; exact Wp_sim (by decide +kernel : decode (cd 185) 20 = .ok (.istore 4, 2)) rfl rfl
  · intro d a L M Q; exact Wp_sim (by decide +kernel : decode (cd 185) 24 = .ok (.bipush 61, 2)) rfl rfl
  · intro d a b L M Q; exact q_ige (by decide +kernel : decode (cd 185) 26 = .ok (.if_icmp .ge 46, 3)) (by decide)
  · intro d v0 v1 x L M Q; exact Wp_sim (by decide +kernel : decode (cd 185) 29 = .ok (.iload_n 2, 1)) rfl rfl
  · intro d a L M Q; exact Wp_sim (by decide +kernel : decode (cd 185) 30 = .ok (.iconst (-1), 1)) rfl rfl
  · intro d a b L M Q; exact q_ine (by decide +kernel : decode (cd 185) 31 = .ok (.if_icmp .ne 17, 3)) (by decide)
  · intro d x L M Q; exact Wp_sim (by decide +kernel : decode (cd 185) 34 = .ok (.aload_n 0, 1)) rfl rfl
  · intro d a v0 v1 v2 v3 x L M Q; exact Wp_sim (by decide +kernel : decode (cd 185) 35 = .ok (.iload 4, 2)) rfl rfl
  · intro d a b L M Q; exact q_invV (pz := 1244) (n := 1) (c := 12) (m := 4) (k := b) (As := [.int a]) (rest := []) (by decide +kernel : decode (cd 185) 37 = .ok (.invokevirtual 296, 3)) (by decide +kernel) (by decide +kernel) rfl rfl (Nat.le_of_ble_eq_true rfl) (Nat.le_of_ble_eq_true rfl) rfl
  · intro d a L M Q; exact q_zeq (by decide +kernel : decode (cd 185) 40 = .ok (.ifCond .eq 8, 3)) (by decide)
  · intro d v0 v1 v2 v3 x L M Q; exact Wp_sim (by decide +kernel : decode (cd 185) 43 = .ok (.iload 4, 2)) rfl rfl
  · intro d a L M Q; exact q_goto (by decide +kernel : decode (cd 185) 45 = .ok (.goto 4, 3)) (by decide)
  · intro d v0 v1 x L M Q; exact Wp_sim (by decide +kernel : decode (cd 185) 48 = .ok (.iload_n 2, 1)) rfl rfl
  · intro d a v0 v1 x L M Q; exact Wp_sim (by decide +kernel : decode (cd 185) 49 = .ok (.istore_n 2, 1)) rfl rfl
  · intro d x L M Q; exact Wp_sim (by decide +kernel : decode (cd 185) 50 = .ok (.aload_n 0, 1)) rfl rfl
  · intro d a v0 v1 v2 v3 x L M Q; exact Wp_sim (by decide +kernel : decode (cd 185) 51 = .ok (.iload 4, 2)) rfl rfl
  · intro d a b L M Q; exact q_invV (pz := 1244) (n := 1) (c := 12) (m := 4) (k := b) (As := [.int a]) (rest := []) (by decide +kernel : decode (cd 185) 53 = .ok (.invokevirtual 296, 3)) (by decide +kernel) (by decide +kernel) rfl rfl (Nat.le_of_ble_eq_true rfl) (Nat.le_of_ble_eq_true rfl) rfl
  · intro d a L M Q; exact q_zeq (by decide +kernel : decode (cd 185) 56 = .ok (.ifCond .eq 8, 3)) (by decide)
  · intro d v0 v1 v2 v3 x L M Q; exact Wp_sim (by decide +kernel : decode (cd 185) 59 = .ok (.iload 4, 2)) rfl rfl
  · intro d a L M Q; exact q_goto (by decide +kernel : decode (cd 185) 61 = .ok (.goto 4, 3)) (by decide)
  · intro d v0 v1 v2 x L M Q; exact Wp_sim (by decide +kernel : decode (cd 185) 64 = .ok (.iload_n 3, 1)) rfl rfl
  · intro d a v0 v1 v2 x L M Q; exact Wp_sim (by decide +kernel : decode (cd 185) 65 = .ok (.istore_n 3, 1)) rfl rfl
  · intro d v0 v1 v2 v3 x L M Q; exact Wp_sim (by decide +kernel : decode (cd 185) 66 = .ok (.iinc 4 1, 3)) rfl rfl
  · intro d L M Q; exact q_goto (by decide +kernel : decode (cd 185) 69 = .ok (.goto (-47), 3)) (by decide)
  · intro d v0 x L M Q; exact Wp_sim (by decide +kernel : decode (cd 185) 72 = .ok (.iload_n 1, 1)) rfl rfl
  · intro d a L M Q; exact q_zne (by decide +kernel : decode (cd 185) 73 = .ok (.ifCond .ne 11, 3)) (by decide)
  · intro d x L M Q; exact Wp_sim (by decide +kernel : decode (cd 185) 76 = .ok (.aload_n 0, 1)) rfl rfl
  · intro d a L M Q; exact Wp_sim (by decide +kernel : decode (cd 185) 77 = .ok (.iconst (-1), 1)) rfl rfl
  · intro d a b L M Q; exact q_invV (pz := 1248) (n := 1) (c := 12) (m := 4) (k := b) (As := [.int a]) (rest := []) (by decide +kernel : decode (cd 185) 78 = .ok (.invokevirtual 299, 3)) (by decide +kernel) (by decide +kernel) rfl rfl (Nat.le_of_ble_eq_true rfl) (Nat.le_of_ble_eq_true rfl) rfl
  · intro d a L M Q; exact q_goto (by decide +kernel : decode (cd 185) 81 = .ok (.goto 13, 3)) (by decide)
  · intro d v0 x L M Q; exact Wp_sim (by decide +kernel : decode (cd 185) 84 = .ok (.iload_n 1, 1)) rfl rfl
  · intro d a L M Q; exact Wp_sim (by decide +kernel : decode (cd 185) 85 = .ok (.iconst 1, 1)) rfl rfl
  · intro d a b L M Q; exact q_ine (by decide +kernel : decode (cd 185) 86 = .ok (.if_icmp .ne 7, 3)) (by decide)
  · intro d v0 v1 x L M Q; exact Wp_sim (by decide +kernel : decode (cd 185) 89 = .ok (.iload_n 2, 1)) rfl rfl
  · intro d a L M Q; exact q_goto (by decide +kernel : decode (cd 185) 90 = .ok (.goto 4, 3)) (by decide)
  · intro d v0 v1 v2 x L M Q; exact Wp_sim (by decide +kernel : decode (cd 185) 93 = .ok (.iload_n 3, 1)) rfl rfl
  · intro d a L M Q; exact q_iret (by decide +kernel : decode (cd 185) 94 = .ok (.ireturn , 1)) (by decide +kernel)
theorem h185_22 : (∀ (d : Nat) (v0 : Value) (v1 : Value) (v2 : Value) (v3 : Value) (x : Int32) (L : List Value) (M : Mem) (Q : Option Value → Mem → Prop), Wp d 185 22 (v0 :: v1 :: v2 :: v3 :: .int x :: L) [] M Q ↔ Wp d 185 24 (v0 :: v1 :: v2 :: v3 :: .int x :: L) [.int x] M Q) := by
  intro d v0 v1 v2 v3 x L M Q; exact Wp_sim (by decide +kernel : decode (cd 185) 22 = .ok (.iload 4, 2)) rfl rfl

/- 186: PalaceYardModel.isSo -/
set_option maxRecDepth 10000 in
theorem e186 : (∀ (d : Nat) (L : List Value) (M : Mem) (Q : Option Value → Mem → Prop), Wp d 186 0 L [] M Q ↔ Wp d 186 1 L [.int 1] M Q) ∧
    (∀ (d : Nat) (a : Int32) (v0 : Value) (v1 : Value) (x : Value) (L : List Value) (M : Mem) (Q : Option Value → Mem → Prop), Wp d 186 1 (v0 :: v1 :: x :: L) [.int a] M Q ↔ Wp d 186 2 (v0 :: clr v1 :: .int a :: L) [] M Q) ∧
    (∀ (d : Nat) (L : List Value) (M : Mem) (Q : Option Value → Mem → Prop), Wp d 186 2 L [] M Q ↔ Wp d 186 3 L [.int 0] M Q) ∧
    (∀ (d : Nat) (a : Int32) (v0 : Value) (v1 : Value) (v2 : Value) (x : Value) (L : List Value) (M : Mem) (Q : Option Value → Mem → Prop), Wp d 186 3 (v0 :: v1 :: v2 :: x :: L) [.int a] M Q ↔ Wp d 186 4 (v0 :: v1 :: clr v2 :: .int a :: L) [] M Q) ∧
    (∀ (d : Nat) (a : Int32) (x : Nat) (L : List Value) (M : Mem) (Q : Option Value → Mem → Prop), Wp d 186 5 (.ref x :: L) [.int a] M Q ↔ Wp d 186 6 (.ref x :: L) [.ref x, .int a] M Q) ∧
    (∀ (d : Nat) (a : Nat) (b : Int32) (L : List Value) (M : Mem) (Q : Option Value → Mem → Prop), Wp d 186 6 L [.ref a, .int b] M Q ↔ (isK a 12 = true ∧ Wp d 186 9 L [.int (M a 13), .int b] M Q)) ∧
    (∀ (d : Nat) (a : Int32) (b : Int32) (L : List Value) (M : Mem) (Q : Option Value → Mem → Prop), Wp d 186 9 L [.int a, .int b] M Q ↔ (if b < a then Wp d 186 12 L [] M Q else Wp d 186 67 L [] M Q)) ∧
    (∀ (d : Nat) (v0 : Value) (v1 : Value) (x : Int32) (L : List Value) (M : Mem) (Q : Option Value → Mem → Prop), Wp d 186 12 (v0 :: v1 :: .int x :: L) [] M Q ↔ Wp d 186 13 (v0 :: v1 :: .int x :: L) [.int x] M Q) ∧
    (∀ (d : Nat) (a : Int32) (L : List Value) (M : Mem) (Q : Option Value → Mem → Prop), Wp d 186 13 L [.int a] M Q ↔ (if a = 0 then Wp d 186 59 L [] M Q else Wp d 186 16 L [] M Q)) ∧
    (∀ (d : Nat) (v0 : Value) (x : Int32) (L : List Value) (M : Mem) (Q : Option Value → Mem → Prop), Wp d 186 16 (v0 :: .int x :: L) [] M Q ↔ Wp d 186 17 (v0 :: .int x :: L) [.int x] M Q) ∧
    (∀ (d : Nat) (a : Int32) (x : Nat) (L : List Value) (M : Mem) (Q : Option Value → Mem → Prop), Wp d 186 17 (.ref x :: L) [.int a] M Q ↔ Wp d 186 18 (.ref x :: L) [.ref x, .int a] M Q) ∧
    (∀ (d : Nat) (a : Nat) (b : Int32) (L : List Value) (M : Mem) (Q : Option Value → Mem → Prop), Wp d 186 18 L [.ref a, .int b] M Q ↔ (isK a 12 = true ∧ Wp d 186 21 L [.ref (rt a 12), .int b] M Q)) ∧
    (∀ (d : Nat) (a : Nat) (b : Int32) (L : List Value) (M : Mem) (Q : Option Value → Mem → Prop), Wp d 186 21 L [.ref a, .int b] M Q ↔ Wp d 186 22 L [.int 2, .ref a, .int b] M Q) ∧
    (∀ (d : Nat) (a : Int32) (b : Nat) (c : Int32) (v0 : Value) (v1 : Value) (v2 : Value) (x : Int32) (L : List Value) (M : Mem) (Q : Option Value → Mem → Prop), Wp d 186 22 (v0 :: v1 :: v2 :: .int x :: L) [.int a, .ref b, .int c] M Q ↔ Wp d 186 23 (v0 :: v1 :: v2 :: .int x :: L) [.int x, .int a, .ref b, .int c] M Q) ∧
    (∀ (d : Nat) (a : Int32) (b : Int32) (c : Nat) (d2 : Int32) (L : List Value) (M : Mem) (Q : Option Value → Mem → Prop), Wp d 186 23 L [.int a, .int b, .ref c, .int d2] M Q ↔ Wp d 186 24 L [.int (b * a), .ref c, .int d2] M Q) ∧
    (∀ (d : Nat) (a : Int32) (b : Nat) (c : Int32) (L : List Value) (M : Mem) (Q : Option Value → Mem → Prop), Wp d 186 24 L [.int a, .ref b, .int c] M Q ↔ ((isR b = true ∧ inr a (lnm M b)) ∧ Wp d 186 25 L [.int (M b a.toNatClampNeg), .int c] M Q)) ∧
    (∀ (d : Nat) (a : Int32) (b : Int32) (L : List Value) (M : Mem) (Q : Option Value → Mem → Prop), Wp d 186 25 L [.int a, .int b] M Q ↔ (if a < b then Wp d 186 28 L [] M Q else Wp d 186 32 L [] M Q)) ∧
    (∀ (d : Nat) (L : List Value) (M : Mem) (Q : Option Value → Mem → Prop), Wp d 186 28 L [] M Q ↔ Wp d 186 29 L [.int 1] M Q) ∧
    (∀ (d : Nat) (a : Int32) (L : List Value) (M : Mem) (Q : Option Value → Mem → Prop), Wp d 186 29 L [.int a] M Q ↔ Wp d 186 33 L [.int a] M Q) ∧
    (∀ (d : Nat) (L : List Value) (M : Mem) (Q : Option Value → Mem → Prop), Wp d 186 32 L [] M Q ↔ Wp d 186 33 L [.int 0] M Q) ∧
    (∀ (d : Nat) (a : Int32) (x : Nat) (L : List Value) (M : Mem) (Q : Option Value → Mem → Prop), Wp d 186 33 (.ref x :: L) [.int a] M Q ↔ Wp d 186 34 (.ref x :: L) [.ref x, .int a] M Q) ∧
    (∀ (d : Nat) (a : Nat) (b : Int32) (L : List Value) (M : Mem) (Q : Option Value → Mem → Prop), Wp d 186 34 L [.ref a, .int b] M Q ↔ (isK a 12 = true ∧ Wp d 186 37 L [.ref (rt a 12), .int b] M Q)) ∧
    (∀ (d : Nat) (a : Nat) (b : Int32) (L : List Value) (M : Mem) (Q : Option Value → Mem → Prop), Wp d 186 37 L [.ref a, .int b] M Q ↔ Wp d 186 38 L [.int 2, .ref a, .int b] M Q) ∧
    (∀ (d : Nat) (a : Int32) (b : Nat) (c : Int32) (v0 : Value) (v1 : Value) (v2 : Value) (x : Int32) (L : List Value) (M : Mem) (Q : Option Value → Mem → Prop), Wp d 186 38 (v0 :: v1 :: v2 :: .int x :: L) [.int a, .ref b, .int c] M Q ↔ Wp d 186 39 (v0 :: v1 :: v2 :: .int x :: L) [.int x, .int a, .ref b, .int c] M Q) ∧
    (∀ (d : Nat) (a : Int32) (b : Int32) (c : Nat) (d2 : Int32) (L : List Value) (M : Mem) (Q : Option Value → Mem → Prop), Wp d 186 39 L [.int a, .int b, .ref c, .int d2] M Q ↔ Wp d 186 40 L [.int (b * a), .ref c, .int d2] M Q) ∧
    (∀ (d : Nat) (a : Int32) (b : Nat) (c : Int32) (L : List Value) (M : Mem) (Q : Option Value → Mem → Prop), Wp d 186 40 L [.int a, .ref b, .int c] M Q ↔ Wp d 186 41 L [.int 1, .int a, .ref b, .int c] M Q) ∧
    (∀ (d : Nat) (a : Int32) (b : Int32) (c : Nat) (d2 : Int32) (L : List Value) (M : Mem) (Q : Option Value → Mem → Prop), Wp d 186 41 L [.int a, .int b, .ref c, .int d2] M Q ↔ Wp d 186 42 L [.int (b + a), .ref c, .int d2] M Q) ∧
    (∀ (d : Nat) (a : Int32) (b : Nat) (c : Int32) (L : List Value) (M : Mem) (Q : Option Value → Mem → Prop), Wp d 186 42 L [.int a, .ref b, .int c] M Q ↔ ((isR b = true ∧ inr a (lnm M b)) ∧ Wp d 186 43 L [.int (M b a.toNatClampNeg), .int c] M Q)) ∧
    (∀ (d : Nat) (a : Int32) (b : Int32) (L : List Value) (M : Mem) (Q : Option Value → Mem → Prop), Wp d 186 43 L [.int a, .int b] M Q ↔ Wp d 186 44 L [.int 1, .int a, .int b] M Q) ∧
    (∀ (d : Nat) (a : Int32) (b : Int32) (c : Int32) (L : List Value) (M : Mem) (Q : Option Value → Mem → Prop), Wp d 186 44 L [.int a, .int b, .int c] M Q ↔ (if b = a then Wp d 186 47 L [.int c] M Q else Wp d 186 51 L [.int c] M Q)) ∧
    (∀ (d : Nat) (a : Int32) (L : List Value) (M : Mem) (Q : Option Value → Mem → Prop), Wp d 186 47 L [.int a] M Q ↔ Wp d 186 48 L [.int 1, .int a] M Q) ∧
    (∀ (d : Nat) (a : Int32) (b : Int32) (L : List Value) (M : Mem) (Q : Option Value → Mem → Prop), Wp d 186 48 L [.int a, .int b] M Q ↔ Wp d 186 52 L [.int a, .int b] M Q) ∧
    (∀ (d : Nat) (a : Int32) (L : List Value) (M : Mem) (Q : Option Value → Mem → Prop), Wp d 186 51 L [.int a] M Q ↔ Wp d 186 52 L [.int 0, .int a] M Q) ∧
    (∀ (d : Nat) (a : Int32) (b : Int32) (L : List Value) (M : Mem) (Q : Option Value → Mem → Prop), Wp d 186 52 L [.int a, .int b] M Q ↔ (if b = a then Wp d 186 55 L [] M Q else Wp d 186 59 L [] M Q)) ∧
    (∀ (d : Nat) (L : List Value) (M : Mem) (Q : Option Value → Mem → Prop), Wp d 186 55 L [] M Q ↔ Wp d 186 56 L [.int 1] M Q) ∧
    (∀ (d : Nat) (a : Int32) (L : List Value) (M : Mem) (Q : Option Value → Mem → Prop), Wp d 186 56 L [.int a] M Q ↔ Wp d 186 60 L [.int a] M Q) ∧
    (∀ (d : Nat) (L : List Value) (M : Mem) (Q : Option Value → Mem → Prop), Wp d 186 59 L [] M Q ↔ Wp d 186 60 L [.int 0] M Q) ∧
    (∀ (d : Nat) (a : Int32) (v0 : Value) (v1 : Value) (x : Value) (L : List Value) (M : Mem) (Q : Option Value → Mem → Prop), Wp d 186 60 (v0 :: v1 :: x :: L) [.int a] M Q ↔ Wp d 186 61 (v0 :: clr v1 :: .int a :: L) [] M Q) ∧
    (∀ (d : Nat) (v0 : Value) (v1 : Value) (v2 : Value) (x : Int32) (L : List Value) (M : Mem) (Q : Option Value → Mem → Prop), Wp d 186 61 (v0 :: v1 :: v2 :: .int x :: L) [] M Q ↔ Wp d 186 64 (v0 :: v1 :: clr v2 :: .int (x + 1) :: L) [] M Q) ∧
    (∀ (d : Nat) (L : List Value) (M : Mem) (Q : Option Value → Mem → Prop), Wp d 186 64 L [] M Q ↔ Wp d 186 4 L [] M Q) ∧
    (∀ (d : Nat) (v0 : Value) (v1 : Value) (x : Int32) (L : List Value) (M : Mem) (Q : Option Value → Mem → Prop), Wp d 186 67 (v0 :: v1 :: .int x :: L) [] M Q ↔ Wp d 186 68 (v0 :: v1 :: .int x :: L) [.int x] M Q) ∧
    (∀ (d : Nat) (a : Int32) (L : List Value) (M : Mem) (Q : Option Value → Mem → Prop), Wp d 186 68 L [.int a] M Q ↔ ((a = 0 ∨ a = 1) ∧ Q (some (.int a)) M)) := by
  refine ⟨?_, ?_, ?_, ?_, ?_, ?_, ?_, ?_, ?_, ?_, ?_, ?_, ?_, ?_, ?_, ?_, ?_, ?_, ?_, ?_, ?_, ?_, ?_, ?_, ?_, ?_, ?_, ?_, ?_, ?_, ?_, ?_, ?_, ?_, ?_, ?_, ?_, ?_, ?_, ?_, ?_, ?_⟩
  · intro d L M Q; exact Wp_sim (by decide +kernel : decode (cd 186) 0 = .ok (.iconst 1, 1)) rfl rfl
  · intro d a v0 v1 x L M Q; exact Wp_sim (by decide +kernel : decode (cd 186) 1 = .ok (.istore_n 2, 1)) rfl rfl
  · intro d L M Q; exact Wp_sim (by decide +kernel : decode (cd 186) 2 = .ok (.iconst 0, 1)) rfl rfl
  · intro d a v0 v1 v2 x L M Q; exact Wp_sim (by decide +kernel : decode (cd 186) 3 = .ok (.istore_n 3, 1)) rfl rfl
  · intro d a x L M Q; exact Wp_sim (by decide +kernel : decode (cd 186) 5 = .ok (.aload_n 0, 1)) rfl rfl
  · intro d a b L M Q; exact q_getI (p := 856) (by decide +kernel : decode (cd 186) 6 = .ok (.getfield 67, 3)) (by decide +kernel) (by decide +kernel)
  · intro d a b L M Q; exact q_ige (by decide +kernel : decode (cd 186) 9 = .ok (.if_icmp .ge 58, 3)) (by decide)
  · intro d v0 v1 x L M Q; exact Wp_sim (by decide +kernel : decode (cd 186) 12 = .ok (.iload_n 2, 1)) rfl rfl
  · intro d a L M Q; exact q_zeq (by decide +kernel : decode (cd 186) 13 = .ok (.ifCond .eq 46, 3)) (by decide)
  · intro d v0 x L M Q; exact Wp_sim (by decide +kernel : decode (cd 186) 16 = .ok (.iload_n 1, 1)) rfl rfl
  · intro d a x L M Q; exact Wp_sim (by decide +kernel : decode (cd 186) 17 = .ok (.aload_n 0, 1)) rfl rfl
  · intro d a b L M Q; exact q_getR (p := 855) (by decide +kernel : decode (cd 186) 18 = .ok (.getfield 39, 3)) (by decide +kernel) (by decide +kernel)
  · intro d a b L M Q; exact Wp_sim (by decide +kernel : decode (cd 186) 21 = .ok (.iconst 2, 1)) rfl rfl
  · intro d a b c v0 v1 v2 x L M Q; exact Wp_sim (by decide +kernel : decode (cd 186) 22 = .ok (.iload_n 3, 1)) rfl rfl
  · intro d a b c d2 L M Q; exact Wp_sim (by decide +kernel : decode (cd 186) 23 = .ok (.imul , 1)) rfl rfl
  · intro d a b c L M Q; exact q_ald (by decide +kernel : decode (cd 186) 24 = .ok (.iaload , 1))
  · intro d a b L M Q; exact q_ile (by decide +kernel : decode (cd 186) 25 = .ok (.if_icmp .le 7, 3)) (by decide)
  · intro d L M Q; exact Wp_sim (by decide +kernel : decode (cd 186) 28 = .ok (.iconst 1, 1)) rfl rfl
  · intro d a L M Q; exact q_goto (by decide +kernel : decode (cd 186) 29 = .ok (.goto 4, 3)) (by decide)
  · intro d L M Q; exact Wp_sim (by decide +kernel : decode (cd 186) 32 = .ok (.iconst 0, 1)) rfl rfl
  · intro d a x L M Q; exact Wp_sim (by decide +kernel : decode (cd 186) 33 = .ok (.aload_n 0, 1)) rfl rfl
  · intro d a b L M Q; exact q_getR (p := 855) (by decide +kernel : decode (cd 186) 34 = .ok (.getfield 39, 3)) (by decide +kernel) (by decide +kernel)
  · intro d a b L M Q; exact Wp_sim (by decide +kernel : decode (cd 186) 37 = .ok (.iconst 2, 1)) rfl rfl
  · intro d a b c v0 v1 v2 x L M Q; exact Wp_sim (by decide +kernel : decode (cd 186) 38 = .ok (.iload_n 3, 1)) rfl rfl
  · intro d a b c d2 L M Q; exact Wp_sim (by decide +kernel : decode (cd 186) 39 = .ok (.imul , 1)) rfl rfl
  · intro d a b c L M Q; exact Wp_sim (by decide +kernel : decode (cd 186) 40 = .ok (.iconst 1, 1)) rfl rfl
  · intro d a b c d2 L M Q; exact Wp_sim (by decide +kernel : decode (cd 186) 41 = .ok (.iadd , 1)) rfl rfl
  · intro d a b c L M Q; exact q_ald (by decide +kernel : decode (cd 186) 42 = .ok (.iaload , 1))
  · intro d a b L M Q; exact Wp_sim (by decide +kernel : decode (cd 186) 43 = .ok (.iconst 1, 1)) rfl rfl
  · intro d a b c L M Q; exact q_ine (by decide +kernel : decode (cd 186) 44 = .ok (.if_icmp .ne 7, 3)) (by decide)
  · intro d a L M Q; exact Wp_sim (by decide +kernel : decode (cd 186) 47 = .ok (.iconst 1, 1)) rfl rfl
  · intro d a b L M Q; exact q_goto (by decide +kernel : decode (cd 186) 48 = .ok (.goto 4, 3)) (by decide)
  · intro d a L M Q; exact Wp_sim (by decide +kernel : decode (cd 186) 51 = .ok (.iconst 0, 1)) rfl rfl
  · intro d a b L M Q; exact q_ine (by decide +kernel : decode (cd 186) 52 = .ok (.if_icmp .ne 7, 3)) (by decide)
  · intro d L M Q; exact Wp_sim (by decide +kernel : decode (cd 186) 55 = .ok (.iconst 1, 1)) rfl rfl
  · intro d a L M Q; exact q_goto (by decide +kernel : decode (cd 186) 56 = .ok (.goto 4, 3)) (by decide)
  · intro d L M Q; exact Wp_sim (by decide +kernel : decode (cd 186) 59 = .ok (.iconst 0, 1)) rfl rfl
  · intro d a v0 v1 x L M Q; exact Wp_sim (by decide +kernel : decode (cd 186) 60 = .ok (.istore_n 2, 1)) rfl rfl
  · intro d v0 v1 v2 x L M Q; exact Wp_sim (by decide +kernel : decode (cd 186) 61 = .ok (.iinc 3 1, 3)) rfl rfl
  · intro d L M Q; exact q_goto (by decide +kernel : decode (cd 186) 64 = .ok (.goto (-60), 3)) (by decide)
  · intro d v0 v1 x L M Q; exact Wp_sim (by decide +kernel : decode (cd 186) 67 = .ok (.iload_n 2, 1)) rfl rfl
  · intro d a L M Q; exact q_zret (by decide +kernel : decode (cd 186) 68 = .ok (.ireturn , 1)) (by decide +kernel)
theorem h186_4 : (∀ (d : Nat) (v0 : Value) (v1 : Value) (v2 : Value) (x : Int32) (L : List Value) (M : Mem) (Q : Option Value → Mem → Prop), Wp d 186 4 (v0 :: v1 :: v2 :: .int x :: L) [] M Q ↔ Wp d 186 5 (v0 :: v1 :: v2 :: .int x :: L) [.int x] M Q) := by
  intro d v0 v1 v2 x L M Q; exact Wp_sim (by decide +kernel : decode (cd 186) 4 = .ok (.iload_n 3, 1)) rfl rfl

/- 187: PalaceYardModel.manyAbove -/
set_option maxRecDepth 10000 in
theorem e187 : (∀ (d : Nat) (L : List Value) (M : Mem) (Q : Option Value → Mem → Prop), Wp d 187 0 L [] M Q ↔ Wp d 187 1 L [.int 0] M Q) ∧
    (∀ (d : Nat) (a : Int32) (v0 : Value) (v1 : Value) (x : Value) (L : List Value) (M : Mem) (Q : Option Value → Mem → Prop), Wp d 187 1 (v0 :: v1 :: x :: L) [.int a] M Q ↔ Wp d 187 2 (v0 :: clr v1 :: .int a :: L) [] M Q) ∧
    (∀ (d : Nat) (v0 : Value) (x : Int32) (L : List Value) (M : Mem) (Q : Option Value → Mem → Prop), Wp d 187 2 (v0 :: .int x :: L) [] M Q ↔ Wp d 187 3 (v0 :: .int x :: L) [.int x] M Q) ∧
    (∀ (d : Nat) (a : Int32) (L : List Value) (M : Mem) (Q : Option Value → Mem → Prop), Wp d 187 3 L [.int a] M Q ↔ Wp d 187 4 L [.int 1, .int a] M Q) ∧
    (∀ (d : Nat) (a : Int32) (b : Int32) (L : List Value) (M : Mem) (Q : Option Value → Mem → Prop), Wp d 187 4 L [.int a, .int b] M Q ↔ Wp d 187 5 L [.int (b + a)] M Q) ∧
    (∀ (d : Nat) (a : Int32) (v0 : Value) (v1 : Value) (v2 : Value) (x : Value) (L : List Value) (M : Mem) (Q : Option Value → Mem → Prop), Wp d 187 5 (v0 :: v1 :: v2 :: x :: L) [.int a] M Q ↔ Wp d 187 6 (v0 :: v1 :: clr v2 :: .int a :: L) [] M Q) ∧
    (∀ (d : Nat) (a : Int32) (L : List Value) (M : Mem) (Q : Option Value → Mem → Prop), Wp d 187 7 L [.int a] M Q ↔ Wp d 187 9 L [.int 61, .int a] M Q) ∧
    (∀ (d : Nat) (a : Int32) (b : Int32) (L : List Value) (M : Mem) (Q : Option Value → Mem → Prop), Wp d 187 9 L [.int a, .int b] M Q ↔ (if b < a then Wp d 187 12 L [] M Q else Wp d 187 34 L [] M Q)) ∧
    (∀ (d : Nat) (v0 : Value) (v1 : Value) (x : Int32) (L : List Value) (M : Mem) (Q : Option Value → Mem → Prop), Wp d 187 12 (v0 :: v1 :: .int x :: L) [] M Q ↔ Wp d 187 13 (v0 :: v1 :: .int x :: L) [.int x] M Q) ∧
    (∀ (d : Nat) (a : Int32) (x : Nat) (L : List Value) (M : Mem) (Q : Option Value → Mem → Prop), Wp d 187 13 (.ref x :: L) [.int a] M Q ↔ Wp d 187 14 (.ref x :: L) [.ref x, .int a] M Q) ∧
    (∀ (d : Nat) (a : Nat) (b : Int32) (v0 : Value) (v1 : Value) (v2 : Value) (x : Int32) (L : List Value) (M : Mem) (Q : Option Value → Mem → Prop), Wp d 187 14 (v0 :: v1 :: v2 :: .int x :: L) [.ref a, .int b] M Q ↔ Wp d 187 15 (v0 :: v1 :: v2 :: .int x :: L) [.int x, .ref a, .int b] M Q) ∧
    (∀ (d : Nat) (a : Int32) (b : Nat) (c : Int32) (L : List Value) (M : Mem) (Q : Option Value → Mem → Prop), Wp (d + 1) 187 15 L [.int a, .ref b, .int c] M Q ↔ (isK b 12 = true ∧ Wp d 186 0 [.ref b, .int a, .null, .null] [] M (fun r M2 => Wp (d + 1) 187 18 L (r.toList ++ [.int c]) M2 Q))) ∧
    (∀ (d : Nat) (a : Int32) (b : Int32) (L : List Value) (M : Mem) (Q : Option Value → Mem → Prop), Wp d 187 18 L [.int a, .int b] M Q ↔ (if a = 0 then Wp d 187 25 L [.int b] M Q else Wp d 187 21 L [.int b] M Q)) ∧
    (∀ (d : Nat) (a : Int32) (L : List Value) (M : Mem) (Q : Option Value → Mem → Prop), Wp d 187 21 L [.int a] M Q ↔ Wp d 187 22 L [.int 1, .int a] M Q) ∧
    (∀ (d : Nat) (a : Int32) (b : Int32) (L : List Value) (M : Mem) (Q : Option Value → Mem → Prop), Wp d 187 22 L [.int a, .int b] M Q ↔ Wp d 187 26 L [.int a, .int b] M Q) ∧
    (∀ (d : Nat) (a : Int32) (L : List Value) (M : Mem) (Q : Option Value → Mem → Prop), Wp d 187 25 L [.int a] M Q ↔ Wp d 187 26 L [.int 0, .int a] M Q) ∧
    (∀ (d : Nat) (a : Int32) (b : Int32) (L : List Value) (M : Mem) (Q : Option Value → Mem → Prop), Wp d 187 26 L [.int a, .int b] M Q ↔ Wp d 187 27 L [.int (b + a)] M Q) ∧
    (∀ (d : Nat) (a : Int32) (v0 : Value) (v1 : Value) (x : Value) (L : List Value) (M : Mem) (Q : Option Value → Mem → Prop), Wp d 187 27 (v0 :: v1 :: x :: L) [.int a] M Q ↔ Wp d 187 28 (v0 :: clr v1 :: .int a :: L) [] M Q) ∧
    (∀ (d : Nat) (v0 : Value) (v1 : Value) (v2 : Value) (x : Int32) (L : List Value) (M : Mem) (Q : Option Value → Mem → Prop), Wp d 187 28 (v0 :: v1 :: v2 :: .int x :: L) [] M Q ↔ Wp d 187 31 (v0 :: v1 :: clr v2 :: .int (x + 1) :: L) [] M Q) ∧
    (∀ (d : Nat) (L : List Value) (M : Mem) (Q : Option Value → Mem → Prop), Wp d 187 31 L [] M Q ↔ Wp d 187 6 L [] M Q) ∧
    (∀ (d : Nat) (v0 : Value) (v1 : Value) (x : Int32) (L : List Value) (M : Mem) (Q : Option Value → Mem → Prop), Wp d 187 34 (v0 :: v1 :: .int x :: L) [] M Q ↔ Wp d 187 35 (v0 :: v1 :: .int x :: L) [.int x] M Q) ∧
    (∀ (d : Nat) (a : Int32) (L : List Value) (M : Mem) (Q : Option Value → Mem → Prop), Wp d 187 35 L [.int a] M Q ↔ Q (some (.int a)) M) := by
  refine ⟨?_, ?_, ?_, ?_, ?_, ?_, ?_, ?_, ?_, ?_, ?_, ?_, ?_, ?_, ?_, ?_, ?_, ?_, ?_, ?_, ?_, ?_⟩
  · intro d L M Q; exact Wp_sim (by decide +kernel : decode (cd 187) 0 = .ok (.iconst 0, 1)) rfl rfl
  · intro d a v0 v1 x L M Q; exact Wp_sim (by decide +kernel : decode (cd 187) 1 = .ok (.istore_n 2, 1)) rfl rfl
  · intro d v0 x L M Q; exact Wp_sim (by decide +kernel : decode (cd 187) 2 = .ok (.iload_n 1, 1)) rfl rfl
  · intro d a L M Q; exact Wp_sim (by decide +kernel : decode (cd 187) 3 = .ok (.iconst 1, 1)) rfl rfl
  · intro d a b L M Q; exact Wp_sim (by decide +kernel : decode (cd 187) 4 = .ok (.iadd , 1)) rfl rfl
  · intro d a v0 v1 v2 x L M Q; exact Wp_sim (by decide +kernel : decode (cd 187) 5 = .ok (.istore_n 3, 1)) rfl rfl
  · intro d a L M Q; exact Wp_sim (by decide +kernel : decode (cd 187) 7 = .ok (.bipush 61, 2)) rfl rfl
  · intro d a b L M Q; exact q_ige (by decide +kernel : decode (cd 187) 9 = .ok (.if_icmp .ge 25, 3)) (by decide)
  · intro d v0 v1 x L M Q; exact Wp_sim (by decide +kernel : decode (cd 187) 12 = .ok (.iload_n 2, 1)) rfl rfl
  · intro d a x L M Q; exact Wp_sim (by decide +kernel : decode (cd 187) 13 = .ok (.aload_n 0, 1)) rfl rfl
  · intro d a b v0 v1 v2 x L M Q; exact Wp_sim (by decide +kernel : decode (cd 187) 14 = .ok (.iload_n 3, 1)) rfl rfl
  · intro d a b c L M Q; exact q_invV (pz := 1244) (n := 1) (c := 12) (m := 4) (k := b) (As := [.int a]) (rest := [.int c]) (by decide +kernel : decode (cd 187) 15 = .ok (.invokevirtual 296, 3)) (by decide +kernel) (by decide +kernel) rfl rfl (Nat.le_of_ble_eq_true rfl) (Nat.le_of_ble_eq_true rfl) rfl
  · intro d a b L M Q; exact q_zeq (by decide +kernel : decode (cd 187) 18 = .ok (.ifCond .eq 7, 3)) (by decide)
  · intro d a L M Q; exact Wp_sim (by decide +kernel : decode (cd 187) 21 = .ok (.iconst 1, 1)) rfl rfl
  · intro d a b L M Q; exact q_goto (by decide +kernel : decode (cd 187) 22 = .ok (.goto 4, 3)) (by decide)
  · intro d a L M Q; exact Wp_sim (by decide +kernel : decode (cd 187) 25 = .ok (.iconst 0, 1)) rfl rfl
  · intro d a b L M Q; exact Wp_sim (by decide +kernel : decode (cd 187) 26 = .ok (.iadd , 1)) rfl rfl
  · intro d a v0 v1 x L M Q; exact Wp_sim (by decide +kernel : decode (cd 187) 27 = .ok (.istore_n 2, 1)) rfl rfl
  · intro d v0 v1 v2 x L M Q; exact Wp_sim (by decide +kernel : decode (cd 187) 28 = .ok (.iinc 3 1, 3)) rfl rfl
  · intro d L M Q; exact q_goto (by decide +kernel : decode (cd 187) 31 = .ok (.goto (-25), 3)) (by decide)
  · intro d v0 v1 x L M Q; exact Wp_sim (by decide +kernel : decode (cd 187) 34 = .ok (.iload_n 2, 1)) rfl rfl
  · intro d a L M Q; exact q_iret (by decide +kernel : decode (cd 187) 35 = .ok (.ireturn , 1)) (by decide +kernel)
theorem h187_6 : (∀ (d : Nat) (v0 : Value) (v1 : Value) (v2 : Value) (x : Int32) (L : List Value) (M : Mem) (Q : Option Value → Mem → Prop), Wp d 187 6 (v0 :: v1 :: v2 :: .int x :: L) [] M Q ↔ Wp d 187 7 (v0 :: v1 :: v2 :: .int x :: L) [.int x] M Q) := by
  intro d v0 v1 v2 x L M Q; exact Wp_sim (by decide +kernel : decode (cd 187) 6 = .ok (.iload_n 3, 1)) rfl rfl

/- 188: PalaceYardModel.look -/
set_option maxRecDepth 10000 in
theorem e188 : (∀ (d : Nat) (x : Nat) (L : List Value) (M : Mem) (Q : Option Value → Mem → Prop), Wp d 188 0 (.ref x :: L) [] M Q ↔ Wp d 188 1 (.ref x :: L) [.ref x] M Q) ∧
    (∀ (d : Nat) (a : Nat) (L : List Value) (M : Mem) (Q : Option Value → Mem → Prop), Wp d 188 1 L [.ref a] M Q ↔ Wp d 188 2 L [.int (-1), .ref a] M Q) ∧
    (∀ (d : Nat) (a : Int32) (b : Nat) (L : List Value) (M : Mem) (Q : Option Value → Mem → Prop), Wp (d + 1) 188 2 L [.int a, .ref b] M Q ↔ (isK b 12 = true ∧ Wp d 187 0 [.ref b, .int a, .null, .null] [] M (fun r M2 => Wp (d + 1) 188 5 L (r.toList ++ []) M2 Q))) ∧
    (∀ (d : Nat) (a : Int32) (v0 : Value) (x : Value) (L : List Value) (M : Mem) (Q : Option Value → Mem → Prop), Wp d 188 5 (v0 :: x :: L) [.int a] M Q ↔ Wp d 188 6 (clr v0 :: .int a :: L) [] M Q) ∧
    (∀ (d : Nat) (v0 : Value) (x : Int32) (L : List Value) (M : Mem) (Q : Option Value → Mem → Prop), Wp d 188 6 (v0 :: .int x :: L) [] M Q ↔ Wp d 188 7 (v0 :: .int x :: L) [.int x] M Q) ∧
    (∀ (d : Nat) (a : Int32) (v0 : Value) (v1 : Value) (x : Value) (L : List Value) (M : Mem) (Q : Option Value → Mem → Prop), Wp d 188 7 (v0 :: v1 :: x :: L) [.int a] M Q ↔ Wp d 188 8 (v0 :: clr v1 :: .int a :: L) [] M Q) ∧
    (∀ (d : Nat) (L : List Value) (M : Mem) (Q : Option Value → Mem → Prop), Wp d 188 8 L [] M Q ↔ Wp d 188 9 L [.int (-1)] M Q) ∧
    (∀ (d : Nat) (a : Int32) (v0 : Value) (v1 : Value) (v2 : Value) (x : Value) (L : List Value) (M : Mem) (Q : Option Value → Mem → Prop), Wp d 188 9 (v0 :: v1 :: v2 :: x :: L) [.int a] M Q ↔ Wp d 188 10 (v0 :: v1 :: clr v2 :: .int a :: L) [] M Q) ∧
    (∀ (d : Nat) (L : List Value) (M : Mem) (Q : Option Value → Mem → Prop), Wp d 188 10 L [] M Q ↔ Wp d 188 11 L [.int 0] M Q) ∧
    (∀ (d : Nat) (a : Int32) (v0 : Value) (v1 : Value) (v2 : Value) (v3 : Value) (x : Value) (L : List Value) (M : Mem) (Q : Option Value → Mem → Prop), Wp d 188 11 (v0 :: v1 :: v2 :: v3 :: x :: L) [.int a] M Q ↔ Wp d 188 13 (v0 :: v1 :: v2 :: clr v3 :: .int a :: L) [] M Q) ∧
    (∀ (d : Nat) (a : Int32) (L : List Value) (M : Mem) (Q : Option Value → Mem → Prop), Wp d 188 15 L [.int a] M Q ↔ Wp d 188 17 L [.int 61, .int a] M Q) ∧
    (∀ (d : Nat) (a : Int32) (b : Int32) (L : List Value) (M : Mem) (Q : Option Value → Mem → Prop), Wp d 188 17 L [.int a, .int b] M Q ↔ (if b < a then Wp d 188 20 L [] M Q else Wp d 188 65 L [] M Q)) ∧
    (∀ (d : Nat) (x : Nat) (L : List Value) (M : Mem) (Q : Option Value → Mem → Prop), Wp d 188 20 (.ref x :: L) [] M Q ↔ Wp d 188 21 (.ref x :: L) [.ref x] M Q) ∧
    (∀ (d : Nat) (a : Nat) (v0 : Value) (v1 : Value) (v2 : Value) (v3 : Value) (x : Int32) (L : List Value) (M : Mem) (Q : Option Value → Mem → Prop), Wp d 188 21 (v0 :: v1 :: v2 :: v3 :: .int x :: L) [.ref a] M Q ↔ Wp d 188 23 (v0 :: v1 :: v2 :: v3 :: .int x :: L) [.int x, .ref a] M Q) ∧
    (∀ (d : Nat) (a : Int32) (b : Nat) (L : List Value) (M : Mem) (Q : Option Value → Mem → Prop), Wp (d + 1) 188 23 L [.int a, .ref b] M Q ↔ (isK b 12 = true ∧ Wp d 187 0 [.ref b, .int a, .null, .null] [] M (fun r M2 => Wp (d + 1) 188 26 L (r.toList ++ []) M2 Q))) ∧
    (∀ (d : Nat) (a : Int32) (v0 : Value) (v1 : Value) (v2 : Value) (v3 : Value) (v4 : Value) (x : Value) (L : List Value) (M : Mem) (Q : Option Value → Mem → Prop), Wp d 188 26 (v0 :: v1 :: v2 :: v3 :: v4 :: x :: L) [.int a] M Q ↔ Wp d 188 28 (v0 :: v1 :: v2 :: v3 :: clr v4 :: .int a :: L) [] M Q) ∧
    (∀ (d : Nat) (v0 : Value) (v1 : Value) (v2 : Value) (v3 : Value) (v4 : Value) (x : Int32) (L : List Value) (M : Mem) (Q : Option Value → Mem → Prop), Wp d 188 28 (v0 :: v1 :: v2 :: v3 :: v4 :: .int x :: L) [] M Q ↔ Wp d 188 30 (v0 :: v1 :: v2 :: v3 :: v4 :: .int x :: L) [.int x] M Q) ∧
    (∀ (d : Nat) (a : Int32) (v0 : Value) (x : Int32) (L : List Value) (M : Mem) (Q : Option Value → Mem → Prop), Wp d 188 30 (v0 :: .int x :: L) [.int a] M Q ↔ Wp d 188 31 (v0 :: .int x :: L) [.int x, .int a] M Q) ∧
    (∀ (d : Nat) (a : Int32) (b : Int32) (v0 : Value) (v1 : Value) (v2 : Value) (v3 : Value) (v4 : Value) (x : Int32) (L : List Value) (M : Mem) (Q : Option Value → Mem → Prop), Wp d 188 31 (v0 :: v1 :: v2 :: v3 :: v4 :: .int x :: L) [.int a, .int b] M Q ↔ Wp d 188 33 (v0 :: v1 :: v2 :: v3 :: v4 :: .int x :: L) [.int x, .int a, .int b] M Q) ∧
    (∀ (d : Nat) (a : Int32) (b : Int32) (c : Int32) (L : List Value) (M : Mem) (Q : Option Value → Mem → Prop), Wp d 188 33 L [.int a, .int b, .int c] M Q ↔ Wp d 188 34 L [.int (b - a), .int c] M Q) ∧
    (∀ (d : Nat) (a : Int32) (b : Int32) (L : List Value) (M : Mem) (Q : Option Value → Mem → Prop), Wp (d + 1) 188 34 L [.int a, .int b] M Q ↔ Wp d 134 0 [.int b, .int a] [] M (fun r M2 => Wp (d + 1) 188 37 L (r.toList ++ []) M2 Q)) ∧
    (∀ (d : Nat) (a : Int32) (v0 : Value) (v1 : Value) (v2 : Value) (v3 : Value) (v4 : Value) (v5 : Value) (x : Value) (L : List Value) (M : Mem) (Q : Option Value → Mem → Prop), Wp d 188 37 (v0 :: v1 :: v2 :: v3 :: v4 :: v5 :: x :: L) [.int a] M Q ↔ Wp d 188 39 (v0 :: v1 :: v2 :: v3 :: v4 :: clr v5 :: .int a :: L) [] M Q) ∧
    (∀ (d : Nat) (v0 : Value) (v1 : Value) (v2 : Value) (v3 : Value) (v4 : Value) (v5 : Value) (x : Int32) (L : List Value) (M : Mem) (Q : Option Value → Mem → Prop), Wp d 188 39 (v0 :: v1 :: v2 :: v3 :: v4 :: v5 :: .int x :: L) [] M Q ↔ Wp d 188 41 (v0 :: v1 :: v2 :: v3 :: v4 :: v5 :: .int x :: L) [.int x] M Q) ∧
    (∀ (d : Nat) (a : Int32) (v0 : Value) (v1 : Value) (x : Int32) (L : List Value) (M : Mem) (Q : Option Value → Mem → Prop), Wp d 188 41 (v0 :: v1 :: .int x :: L) [.int a] M Q ↔ Wp d 188 42 (v0 :: v1 :: .int x :: L) [.int x, .int a] M Q) ∧
    (∀ (d : Nat) (a : Int32) (b : Int32) (L : List Value) (M : Mem) (Q : Option Value → Mem → Prop), Wp d 188 42 L [.int a, .int b] M Q ↔ (if b < a then Wp d 188 45 L [] M Q else Wp d 188 50 L [] M Q)) ∧
    (∀ (d : Nat) (v0 : Value) (v1 : Value) (v2 : Value) (v3 : Value) (x : Int32) (L : List Value) (M : Mem) (Q : Option Value → Mem → Prop), Wp d 188 45 (v0 :: v1 :: v2 :: v3 :: .int x :: L) [] M Q ↔ Wp d 188 47 (v0 :: v1 :: v2 :: v3 :: .int x :: L) [.int x] M Q) ∧
    (∀ (d : Nat) (a : Int32) (L : List Value) (M : Mem) (Q : Option Value → Mem → Prop), Wp d 188 47 L [.int a] M Q ↔ Wp d 188 51 L [.int a] M Q) ∧
    (∀ (d : Nat) (v0 : Value) (v1 : Value) (v2 : Value) (x : Int32) (L : List Value) (M : Mem) (Q : Option Value → Mem → Prop), Wp d 188 50 (v0 :: v1 :: v2 :: .int x :: L) [] M Q ↔ Wp d 188 51 (v0 :: v1 :: v2 :: .int x :: L) [.int x] M Q) ∧
    (∀ (d : Nat) (a : Int32) (v0 : Value) (v1 : Value) (v2 : Value) (x : Value) (L : List Value) (M : Mem) (Q : Option Value → Mem → Prop), Wp d 188 51 (v0 :: v1 :: v2 :: x :: L) [.int a] M Q ↔ Wp d 188 52 (v0 :: v1 :: clr v2 :: .int a :: L) [] M Q) ∧
    (∀ (d : Nat) (v0 : Value) (v1 : Value) (v2 : Value) (v3 : Value) (v4 : Value) (v5 : Value) (x : Int32) (L : List Value) (M : Mem) (Q : Option Value → Mem → Prop), Wp d 188 52 (v0 :: v1 :: v2 :: v3 :: v4 :: v5 :: .int x :: L) [] M Q ↔ Wp d 188 54 (v0 :: v1 :: v2 :: v3 :: v4 :: v5 :: .int x :: L) [.int x] M Q) ∧
    (∀ (d : Nat) (a : Int32) (v0 : Value) (v1 : Value) (x : Int32) (L : List Value) (M : Mem) (Q : Option Value → Mem → Prop), Wp d 188 54 (v0 :: v1 :: .int x :: L) [.int a] M Q ↔ Wp d 188 55 (v0 :: v1 :: .int x :: L) [.int x, .int a] M Q) ∧
    (∀ (d : Nat) (a : Int32) (b : Int32) (L : List Value) (M : Mem) (Q : Option Value → Mem → Prop), Wp (d + 1) 188 55 L [.int a, .int b] M Q ↔ Wp d 133 0 [.int b, .int a] [] M (fun r M2 => Wp (d + 1) 188 58 L (r.toList ++ []) M2 Q)) ∧
    (∀ (d : Nat) (a : Int32) (v0 : Value) (v1 : Value) (x : Value) (L : List Value) (M : Mem) (Q : Option Value → Mem → Prop), Wp d 188 58 (v0 :: v1 :: x :: L) [.int a] M Q ↔ Wp d 188 59 (v0 :: clr v1 :: .int a :: L) [] M Q) ∧
    (∀ (d : Nat) (v0 : Value) (v1 : Value) (v2 : Value) (v3 : Value) (x : Int32) (L : List Value) (M : Mem) (Q : Option Value → Mem → Prop), Wp d 188 59 (v0 :: v1 :: v2 :: v3 :: .int x :: L) [] M Q ↔ Wp d 188 62 (v0 :: v1 :: v2 :: clr v3 :: .int (x + 1) :: L) [] M Q) ∧
    (∀ (d : Nat) (L : List Value) (M : Mem) (Q : Option Value → Mem → Prop), Wp d 188 62 L [] M Q ↔ Wp d 188 13 L [] M Q) ∧
    (∀ (d : Nat) (v0 : Value) (v1 : Value) (v2 : Value) (x : Int32) (L : List Value) (M : Mem) (Q : Option Value → Mem → Prop), Wp d 188 65 (v0 :: v1 :: v2 :: .int x :: L) [] M Q ↔ Wp d 188 66 (v0 :: v1 :: v2 :: .int x :: L) [.int x] M Q) ∧
    (∀ (d : Nat) (a : Int32) (L : List Value) (M : Mem) (Q : Option Value → Mem → Prop), Wp d 188 66 L [.int a] M Q ↔ Q (some (.int a)) M) := by
  refine ⟨?_, ?_, ?_, ?_, ?_, ?_, ?_, ?_, ?_, ?_, ?_, ?_, ?_, ?_, ?_, ?_, ?_, ?_, ?_, ?_, ?_, ?_, ?_, ?_, ?_, ?_, ?_, ?_, ?_, ?_, ?_, ?_, ?_, ?_, ?_, ?_, ?_⟩
  · intro d x L M Q; exact Wp_sim (by decide +kernel : decode (cd 188) 0 = .ok (.aload_n 0, 1)) rfl rfl
  · intro d a L M Q; exact Wp_sim (by decide +kernel : decode (cd 188) 1 = .ok (.iconst (-1), 1)) rfl rfl
  · intro d a b L M Q; exact q_invV (pz := 1248) (n := 1) (c := 12) (m := 4) (k := b) (As := [.int a]) (rest := []) (by decide +kernel : decode (cd 188) 2 = .ok (.invokevirtual 299, 3)) (by decide +kernel) (by decide +kernel) rfl rfl (Nat.le_of_ble_eq_true rfl) (Nat.le_of_ble_eq_true rfl) rfl
  · intro d a v0 x L M Q; exact Wp_sim (by decide +kernel : decode (cd 188) 5 = .ok (.istore_n 1, 1)) rfl rfl
  · intro d v0 x L M Q; exact Wp_sim (by decide +kernel : decode (cd 188) 6 = .ok (.iload_n 1, 1)) rfl rfl
  · intro d a v0 v1 x L M Q; exact Wp_sim (by decide +kernel : decode (cd 188) 7 = .ok (.istore_n 2, 1)) rfl rfl
  · intro d L M Q; exact Wp_sim (by decide +kernel : decode (cd 188) 8 = .ok (.iconst (-1), 1)) rfl rfl
  · intro d a v0 v1 v2 x L M Q; exact Wp_sim (by decide +kernel : decode (cd 188) 9 = .ok (.istore_n 3, 1)) rfl rfl
  · intro d L M Q; exact Wp_sim (by decide +kernel : decode (cd 188) 10 = .ok (.iconst 0, 1)) rfl rfl
  · intro d a v0 v1 v2 v3 x L M Q; exact Wp_sim (by decide +kernel : decode (cd 188) 11 = .ok (.istore 4, 2)) rfl rfl
  · intro d a L M Q; exact Wp_sim (by decide +kernel : decode (cd 188) 15 = .ok (.bipush 61, 2)) rfl rfl
  · intro d a b L M Q; exact q_ige (by decide +kernel : decode (cd 188) 17 = .ok (.if_icmp .ge 48, 3)) (by decide)
  · intro d x L M Q; exact Wp_sim (by decide +kernel : decode (cd 188) 20 = .ok (.aload_n 0, 1)) rfl rfl
  · intro d a v0 v1 v2 v3 x L M Q; exact Wp_sim (by decide +kernel : decode (cd 188) 21 = .ok (.iload 4, 2)) rfl rfl
  · intro d a b L M Q; exact q_invV (pz := 1248) (n := 1) (c := 12) (m := 4) (k := b) (As := [.int a]) (rest := []) (by decide +kernel : decode (cd 188) 23 = .ok (.invokevirtual 299, 3)) (by decide +kernel) (by decide +kernel) rfl rfl (Nat.le_of_ble_eq_true rfl) (Nat.le_of_ble_eq_true rfl) rfl
  · intro d a v0 v1 v2 v3 v4 x L M Q; exact Wp_sim (by decide +kernel : decode (cd 188) 26 = .ok (.istore 5, 2)) rfl rfl
  · intro d v0 v1 v2 v3 v4 x L M Q; exact Wp_sim (by decide +kernel : decode (cd 188) 28 = .ok (.iload 5, 2)) rfl rfl
  · intro d a v0 x L M Q; exact Wp_sim (by decide +kernel : decode (cd 188) 30 = .ok (.iload_n 1, 1)) rfl rfl
  · intro d a b v0 v1 v2 v3 v4 x L M Q; exact Wp_sim (by decide +kernel : decode (cd 188) 31 = .ok (.iload 5, 2)) rfl rfl
  · intro d a b c L M Q; exact Wp_sim (by decide +kernel : decode (cd 188) 33 = .ok (.isub , 1)) rfl rfl
  · intro d a b L M Q; exact q_invS (pz := 1024) (n := 2) (m := 2) (As := [.int b, .int a]) (rest := []) (by decide +kernel : decode (cd 188) 34 = .ok (.invokestatic 61, 3)) (by decide +kernel) (by decide +kernel) (by decide +kernel) rfl rfl (Nat.le_of_ble_eq_true rfl) (Nat.le_of_ble_eq_true rfl) rfl
  · intro d a v0 v1 v2 v3 v4 v5 x L M Q; exact Wp_sim (by decide +kernel : decode (cd 188) 37 = .ok (.istore 6, 2)) rfl rfl
  · intro d v0 v1 v2 v3 v4 v5 x L M Q; exact Wp_sim (by decide +kernel : decode (cd 188) 39 = .ok (.iload 6, 2)) rfl rfl
  · intro d a v0 v1 x L M Q; exact Wp_sim (by decide +kernel : decode (cd 188) 41 = .ok (.iload_n 2, 1)) rfl rfl
  · intro d a b L M Q; exact q_ige (by decide +kernel : decode (cd 188) 42 = .ok (.if_icmp .ge 8, 3)) (by decide)
  · intro d v0 v1 v2 v3 x L M Q; exact Wp_sim (by decide +kernel : decode (cd 188) 45 = .ok (.iload 4, 2)) rfl rfl
  · intro d a L M Q; exact q_goto (by decide +kernel : decode (cd 188) 47 = .ok (.goto 4, 3)) (by decide)
  · intro d v0 v1 v2 x L M Q; exact Wp_sim (by decide +kernel : decode (cd 188) 50 = .ok (.iload_n 3, 1)) rfl rfl
  · intro d a v0 v1 v2 x L M Q; exact Wp_sim (by decide +kernel : decode (cd 188) 51 = .ok (.istore_n 3, 1)) rfl rfl
  · intro d v0 v1 v2 v3 v4 v5 x L M Q; exact Wp_sim (by decide +kernel : decode (cd 188) 52 = .ok (.iload 6, 2)) rfl rfl
  · intro d a v0 v1 x L M Q; exact Wp_sim (by decide +kernel : decode (cd 188) 54 = .ok (.iload_n 2, 1)) rfl rfl
  · intro d a b L M Q; exact q_invS (pz := 1021) (n := 2) (m := 2) (As := [.int b, .int a]) (rest := []) (by decide +kernel : decode (cd 188) 55 = .ok (.invokestatic 57, 3)) (by decide +kernel) (by decide +kernel) (by decide +kernel) rfl rfl (Nat.le_of_ble_eq_true rfl) (Nat.le_of_ble_eq_true rfl) rfl
  · intro d a v0 v1 x L M Q; exact Wp_sim (by decide +kernel : decode (cd 188) 58 = .ok (.istore_n 2, 1)) rfl rfl
  · intro d v0 v1 v2 v3 x L M Q; exact Wp_sim (by decide +kernel : decode (cd 188) 59 = .ok (.iinc 4 1, 3)) rfl rfl
  · intro d L M Q; exact q_goto (by decide +kernel : decode (cd 188) 62 = .ok (.goto (-49), 3)) (by decide)
  · intro d v0 v1 v2 x L M Q; exact Wp_sim (by decide +kernel : decode (cd 188) 65 = .ok (.iload_n 3, 1)) rfl rfl
  · intro d a L M Q; exact q_iret (by decide +kernel : decode (cd 188) 66 = .ok (.ireturn , 1)) (by decide +kernel)
theorem h188_13 : (∀ (d : Nat) (v0 : Value) (v1 : Value) (v2 : Value) (v3 : Value) (x : Int32) (L : List Value) (M : Mem) (Q : Option Value → Mem → Prop), Wp d 188 13 (v0 :: v1 :: v2 :: v3 :: .int x :: L) [] M Q ↔ Wp d 188 15 (v0 :: v1 :: v2 :: v3 :: .int x :: L) [.int x] M Q) := by
  intro d v0 v1 v2 v3 x L M Q; exact Wp_sim (by decide +kernel : decode (cd 188) 13 = .ok (.iload 4, 2)) rfl rfl

/- 189: PalaceYardModel.write -/
set_option maxRecDepth 10000 in
theorem e189 : (∀ (d : Nat) (x : Nat) (L : List Value) (M : Mem) (Q : Option Value → Mem → Prop), Wp d 189 0 (.ref x :: L) [] M Q ↔ Wp d 189 1 (.ref x :: L) [.ref x] M Q) ∧
    (∀ (d : Nat) (a : Nat) (v0 : Value) (x : Int32) (L : List Value) (M : Mem) (Q : Option Value → Mem → Prop), Wp d 189 1 (v0 :: .int x :: L) [.ref a] M Q ↔ Wp d 189 2 (v0 :: .int x :: L) [.int x, .ref a] M Q) ∧
    (∀ (d : Nat) (a : Int32) (b : Nat) (L : List Value) (M : Mem) (Q : Option Value → Mem → Prop), Wp (d + 1) 189 2 L [.int a, .ref b] M Q ↔ (isK b 12 = true ∧ Wp d 141 0 [.ref b, .int a] [] M (fun r M2 => Wp (d + 1) 189 5 L (r.toList ++ []) M2 Q))) ∧
    (∀ (d : Nat) (a : Int32) (L : List Value) (M : Mem) (Q : Option Value → Mem → Prop), Wp d 189 5 L [.int a] M Q ↔ (if a = 0 then Wp d 189 8 L [] M Q else Wp d 189 11 L [] M Q)) ∧
    (∀ (d : Nat) (L : List Value) (M : Mem) (Q : Option Value → Mem → Prop), Wp d 189 8 L [] M Q ↔ Wp d 189 10 L [.int (-1000000001)] M Q) ∧
    (∀ (d : Nat) (a : Int32) (L : List Value) (M : Mem) (Q : Option Value → Mem → Prop), Wp d 189 10 L [.int a] M Q ↔ Q (some (.int a)) M) ∧
    (∀ (d : Nat) (v0 : Value) (v1 : Value) (x : Int32) (L : List Value) (M : Mem) (Q : Option Value → Mem → Prop), Wp d 189 11 (v0 :: v1 :: .int x :: L) [] M Q ↔ Wp d 189 12 (v0 :: v1 :: .int x :: L) [.int x] M Q) ∧
    (∀ (d : Nat) (a : Int32) (L : List Value) (M : Mem) (Q : Option Value → Mem → Prop), Wp d 189 12 L [.int a] M Q ↔ Wp d 189 13 L [.long a.toInt64] M Q) ∧
    (∀ (d : Nat) (a : Int64) (L : List Value) (M : Mem) (Q : Option Value → Mem → Prop), Wp d 189 13 L [.long a] M Q ↔ Wp d 189 14 L [.long 0, .long a] M Q) ∧
    (∀ (d : Nat) (a : Int64) (b : Int64) (L : List Value) (M : Mem) (Q : Option Value → Mem → Prop), Wp d 189 14 L [.long a, .long b] M Q ↔ Wp d 189 17 L [.long 4, .long a, .long b] M Q) ∧
    (∀ (d : Nat) (a : Int64) (b : Int64) (c : Int64) (L : List Value) (M : Mem) (Q : Option Value → Mem → Prop), Wp (d + 1) 189 17 L [.long a, .long b, .long c] M Q ↔ Wp d 112 0 [.long c, .null, .long b, .null, .long a, .null] [] M (fun r M2 => Wp (d + 1) 189 20 L (r.toList ++ []) M2 Q)) ∧
    (∀ (d : Nat) (a : Int32) (L : List Value) (M : Mem) (Q : Option Value → Mem → Prop), Wp d 189 20 L [.int a] M Q ↔ (if a = 0 then Wp d 189 23 L [] M Q else Wp d 189 26 L [] M Q)) ∧
    (∀ (d : Nat) (L : List Value) (M : Mem) (Q : Option Value → Mem → Prop), Wp d 189 23 L [] M Q ↔ Wp d 189 25 L [.int (-1000000002)] M Q) ∧
    (∀ (d : Nat) (a : Int32) (L : List Value) (M : Mem) (Q : Option Value → Mem → Prop), Wp d 189 25 L [.int a] M Q ↔ Q (some (.int a)) M) ∧
    (∀ (d : Nat) (x : Nat) (L : List Value) (M : Mem) (Q : Option Value → Mem → Prop), Wp d 189 26 (.ref x :: L) [] M Q ↔ Wp d 189 27 (.ref x :: L) [.ref x] M Q) ∧
    (∀ (d : Nat) (a : Nat) (L : List Value) (M : Mem) (Q : Option Value → Mem → Prop), Wp d 189 27 L [.ref a] M Q ↔ (isK a 12 = true ∧ Wp d 189 30 L [.int (M a 15)] M Q)) ∧
    (∀ (d : Nat) (a : Int32) (L : List Value) (M : Mem) (Q : Option Value → Mem → Prop), Wp d 189 30 L [.int a] M Q ↔ Wp d 189 32 L [.int 15, .int a] M Q) ∧
    (∀ (d : Nat) (a : Int32) (b : Int32) (L : List Value) (M : Mem) (Q : Option Value → Mem → Prop), Wp d 189 32 L [.int a, .int b] M Q ↔ (if b = a then Wp d 189 35 L [] M Q else Wp d 189 38 L [] M Q)) ∧
    (∀ (d : Nat) (L : List Value) (M : Mem) (Q : Option Value → Mem → Prop), Wp d 189 35 L [] M Q ↔ Wp d 189 37 L [.int (-1000000004)] M Q) ∧
    (∀ (d : Nat) (a : Int32) (L : List Value) (M : Mem) (Q : Option Value → Mem → Prop), Wp d 189 37 L [.int a] M Q ↔ Q (some (.int a)) M) ∧
    (∀ (d : Nat) (x : Nat) (L : List Value) (M : Mem) (Q : Option Value → Mem → Prop), Wp d 189 38 (.ref x :: L) [] M Q ↔ Wp d 189 39 (.ref x :: L) [.ref x] M Q) ∧
    (∀ (d : Nat) (a : Nat) (L : List Value) (M : Mem) (Q : Option Value → Mem → Prop), Wp d 189 39 L [.ref a] M Q ↔ (isK a 12 = true ∧ Wp d 189 42 L [.ref (rt a 14)] M Q)) ∧
    (∀ (d : Nat) (a : Nat) (L : List Value) (M : Mem) (Q : Option Value → Mem → Prop), Wp d 189 42 L [.ref a] M Q ↔ Wp d 189 43 L [.int 2, .ref a] M Q) ∧
    (∀ (d : Nat) (a : Int32) (b : Nat) (x : Nat) (L : List Value) (M : Mem) (Q : Option Value → Mem → Prop), Wp d 189 43 (.ref x :: L) [.int a, .ref b] M Q ↔ Wp d 189 44 (.ref x :: L) [.ref x, .int a, .ref b] M Q) ∧
    (∀ (d : Nat) (a : Nat) (b : Int32) (c : Nat) (L : List Value) (M : Mem) (Q : Option Value → Mem → Prop), Wp d 189 44 L [.ref a, .int b, .ref c] M Q ↔ (isK a 12 = true ∧ Wp d 189 47 L [.int (M a 15), .int b, .ref c] M Q)) ∧
    (∀ (d : Nat) (a : Int32) (b : Int32) (c : Nat) (L : List Value) (M : Mem) (Q : Option Value → Mem → Prop), Wp d 189 47 L [.int a, .int b, .ref c] M Q ↔ Wp d 189 48 L [.int (b * a), .ref c] M Q) ∧
    (∀ (d : Nat) (a : Int32) (b : Nat) (v0 : Value) (x : Int32) (L : List Value) (M : Mem) (Q : Option Value → Mem → Prop), Wp d 189 48 (v0 :: .int x :: L) [.int a, .ref b] M Q ↔ Wp d 189 49 (v0 :: .int x :: L) [.int x, .int a, .ref b] M Q) ∧
    (∀ (d : Nat) (a : Int32) (b : Int32) (c : Nat) (L : List Value) (M : Mem) (Q : Option Value → Mem → Prop), Wp d 189 49 L [.int a, .int b, .ref c] M Q ↔ ((isK c 13 = true ∧ inr b (lnm M c)) ∧ Wp d 189 50 L [] (up2 M c b.toNatClampNeg a) Q)) ∧
    (∀ (d : Nat) (x : Nat) (L : List Value) (M : Mem) (Q : Option Value → Mem → Prop), Wp d 189 50 (.ref x :: L) [] M Q ↔ Wp d 189 51 (.ref x :: L) [.ref x] M Q) ∧
    (∀ (d : Nat) (a : Nat) (L : List Value) (M : Mem) (Q : Option Value → Mem → Prop), Wp d 189 51 L [.ref a] M Q ↔ (isK a 12 = true ∧ Wp d 189 54 L [.ref (rt a 14)] M Q)) ∧
    (∀ (d : Nat) (a : Nat) (L : List Value) (M : Mem) (Q : Option Value → Mem → Prop), Wp d 189 54 L [.ref a] M Q ↔ Wp d 189 55 L [.int 2, .ref a] M Q) ∧
    (∀ (d : Nat) (a : Int32) (b : Nat) (x : Nat) (L : List Value) (M : Mem) (Q : Option Value → Mem → Prop), Wp d 189 55 (.ref x :: L) [.int a, .ref b] M Q ↔ Wp d 189 56 (.ref x :: L) [.ref x, .int a, .ref b] M Q) ∧
    (∀ (d : Nat) (a : Nat) (b : Int32) (c : Nat) (L : List Value) (M : Mem) (Q : Option Value → Mem → Prop), Wp d 189 56 L [.ref a, .int b, .ref c] M Q ↔ (isK a 12 = true ∧ Wp d 189 59 L [.int (M a 15), .int b, .ref c] M Q)) ∧
    (∀ (d : Nat) (a : Int32) (b : Int32) (c : Nat) (L : List Value) (M : Mem) (Q : Option Value → Mem → Prop), Wp d 189 59 L [.int a, .int b, .ref c] M Q ↔ Wp d 189 60 L [.int (b * a), .ref c] M Q) ∧
    (∀ (d : Nat) (a : Int32) (b : Nat) (L : List Value) (M : Mem) (Q : Option Value → Mem → Prop), Wp d 189 60 L [.int a, .ref b] M Q ↔ Wp d 189 61 L [.int 1, .int a, .ref b] M Q) ∧
    (∀ (d : Nat) (a : Int32) (b : Int32) (c : Nat) (L : List Value) (M : Mem) (Q : Option Value → Mem → Prop), Wp d 189 61 L [.int a, .int b, .ref c] M Q ↔ Wp d 189 62 L [.int (b + a), .ref c] M Q) ∧
    (∀ (d : Nat) (a : Int32) (b : Nat) (v0 : Value) (v1 : Value) (x : Int32) (L : List Value) (M : Mem) (Q : Option Value → Mem → Prop), Wp d 189 62 (v0 :: v1 :: .int x :: L) [.int a, .ref b] M Q ↔ Wp d 189 63 (v0 :: v1 :: .int x :: L) [.int x, .int a, .ref b] M Q) ∧
    (∀ (d : Nat) (a : Int32) (b : Int32) (c : Nat) (L : List Value) (M : Mem) (Q : Option Value → Mem → Prop), Wp d 189 63 L [.int a, .int b, .ref c] M Q ↔ ((isK c 13 = true ∧ inr b (lnm M c)) ∧ Wp d 189 64 L [] (up2 M c b.toNatClampNeg a) Q)) ∧
    (∀ (d : Nat) (x : Nat) (L : List Value) (M : Mem) (Q : Option Value → Mem → Prop), Wp d 189 64 (.ref x :: L) [] M Q ↔ Wp d 189 65 (.ref x :: L) [.ref x] M Q) ∧
    (∀ (d : Nat) (a : Nat) (L : List Value) (M : Mem) (Q : Option Value → Mem → Prop), Wp d 189 65 L [.ref a] M Q ↔ Wp d 189 66 L [.ref a, .ref a] M Q) ∧
    (∀ (d : Nat) (a : Nat) (b : Nat) (L : List Value) (M : Mem) (Q : Option Value → Mem → Prop), Wp d 189 66 L [.ref a, .ref b] M Q ↔ (isK a 12 = true ∧ Wp d 189 69 L [.int (M a 15), .ref b] M Q)) ∧
    (∀ (d : Nat) (a : Int32) (b : Nat) (L : List Value) (M : Mem) (Q : Option Value → Mem → Prop), Wp d 189 69 L [.int a, .ref b] M Q ↔ Wp d 189 70 L [.int 1, .int a, .ref b] M Q) ∧
    (∀ (d : Nat) (a : Int32) (b : Int32) (c : Nat) (L : List Value) (M : Mem) (Q : Option Value → Mem → Prop), Wp d 189 70 L [.int a, .int b, .ref c] M Q ↔ Wp d 189 71 L [.int (b + a), .ref c] M Q) ∧
    (∀ (d : Nat) (a : Int32) (b : Nat) (L : List Value) (M : Mem) (Q : Option Value → Mem → Prop), Wp d 189 71 L [.int a, .ref b] M Q ↔ (isK b 12 = true ∧ Wp d 189 74 L [] (up2 M b 15 a) Q)) ∧
    (∀ (d : Nat) (x : Nat) (L : List Value) (M : Mem) (Q : Option Value → Mem → Prop), Wp d 189 74 (.ref x :: L) [] M Q ↔ Wp d 189 75 (.ref x :: L) [.ref x] M Q) ∧
    (∀ (d : Nat) (a : Nat) (L : List Value) (M : Mem) (Q : Option Value → Mem → Prop), Wp d 189 75 L [.ref a] M Q ↔ (isK a 12 = true ∧ Wp d 189 78 L [.int (M a 15)] M Q)) ∧
    (∀ (d : Nat) (a : Int32) (L : List Value) (M : Mem) (Q : Option Value → Mem → Prop), Wp d 189 78 L [.int a] M Q ↔ Q (some (.int a)) M) := by
  refine ⟨?_, ?_, ?_, ?_, ?_, ?_, ?_, ?_, ?_, ?_, ?_, ?_, ?_, ?_, ?_, ?_, ?_, ?_, ?_, ?_, ?_, ?_, ?_, ?_, ?_, ?_, ?_, ?_, ?_, ?_, ?_, ?_, ?_, ?_, ?_, ?_, ?_, ?_, ?_, ?_, ?_, ?_, ?_, ?_, ?_, ?_, ?_⟩
  · intro d x L M Q; exact Wp_sim (by decide +kernel : decode (cd 189) 0 = .ok (.aload_n 0, 1)) rfl rfl
  · intro d a v0 x L M Q; exact Wp_sim (by decide +kernel : decode (cd 189) 1 = .ok (.iload_n 1, 1)) rfl rfl
  · intro d a b L M Q; exact q_invV (pz := 1053) (n := 1) (c := 12) (m := 2) (k := b) (As := [.int a]) (rest := []) (by decide +kernel : decode (cd 189) 2 = .ok (.invokevirtual 183, 3)) (by decide +kernel) (by decide +kernel) rfl rfl (Nat.le_of_ble_eq_true rfl) (Nat.le_of_ble_eq_true rfl) rfl
  · intro d a L M Q; exact q_zne (by decide +kernel : decode (cd 189) 5 = .ok (.ifCond .ne 6, 3)) (by decide)
  · intro d L M Q; exact q_ldc (p := 1043) (by decide +kernel : decode (cd 189) 8 = .ok (.ldc 180, 2)) (by decide +kernel)
  · intro d a L M Q; exact q_iret (by decide +kernel : decode (cd 189) 10 = .ok (.ireturn , 1)) (by decide +kernel)
  · intro d v0 v1 x L M Q; exact Wp_sim (by decide +kernel : decode (cd 189) 11 = .ok (.iload_n 2, 1)) rfl rfl
  · intro d a L M Q; exact Wp_sim (by decide +kernel : decode (cd 189) 12 = .ok (.i2l , 1)) rfl rfl
  · intro d a L M Q; exact Wp_sim (by decide +kernel : decode (cd 189) 13 = .ok (.lconst 0, 1)) rfl rfl
  · intro d a b L M Q; exact q_ldc2 (p := 1260) (by decide +kernel : decode (cd 189) 14 = .ok (.ldc2_w 302, 3)) (by decide +kernel)
  · intro d a b c L M Q; exact q_invS (pz := 937) (n := 3) (m := 6) (As := [.long c, .long b, .long a]) (rest := []) (by decide +kernel : decode (cd 189) 17 = .ok (.invokestatic 75, 3)) (by decide +kernel) (by decide +kernel) (by decide +kernel) rfl rfl (Nat.le_of_ble_eq_true rfl) (Nat.le_of_ble_eq_true rfl) rfl
  · intro d a L M Q; exact q_zne (by decide +kernel : decode (cd 189) 20 = .ok (.ifCond .ne 6, 3)) (by decide)
  · intro d L M Q; exact q_ldc (p := 940) (by decide +kernel : decode (cd 189) 23 = .ok (.ldc 79, 2)) (by decide +kernel)
  · intro d a L M Q; exact q_iret (by decide +kernel : decode (cd 189) 25 = .ok (.ireturn , 1)) (by decide +kernel)
  · intro d x L M Q; exact Wp_sim (by decide +kernel : decode (cd 189) 26 = .ok (.aload_n 0, 1)) rfl rfl
  · intro d a L M Q; exact q_getI (p := 858) (by decide +kernel : decode (cd 189) 27 = .ok (.getfield 70, 3)) (by decide +kernel) (by decide +kernel)
  · intro d a L M Q; exact Wp_sim (by decide +kernel : decode (cd 189) 30 = .ok (.bipush 15, 2)) rfl rfl
  · intro d a b L M Q; exact q_ine (by decide +kernel : decode (cd 189) 32 = .ok (.if_icmp .ne 6, 3)) (by decide)
  · intro d L M Q; exact q_ldc (p := 941) (by decide +kernel : decode (cd 189) 35 = .ok (.ldc 83, 2)) (by decide +kernel)
  · intro d a L M Q; exact q_iret (by decide +kernel : decode (cd 189) 37 = .ok (.ireturn , 1)) (by decide +kernel)
  · intro d x L M Q; exact Wp_sim (by decide +kernel : decode (cd 189) 38 = .ok (.aload_n 0, 1)) rfl rfl
  · intro d a L M Q; exact q_getR (p := 857) (by decide +kernel : decode (cd 189) 39 = .ok (.getfield 42, 3)) (by decide +kernel) (by decide +kernel)
  · intro d a L M Q; exact Wp_sim (by decide +kernel : decode (cd 189) 42 = .ok (.iconst 2, 1)) rfl rfl
  · intro d a b x L M Q; exact Wp_sim (by decide +kernel : decode (cd 189) 43 = .ok (.aload_n 0, 1)) rfl rfl
  · intro d a b c L M Q; exact q_getI (p := 858) (by decide +kernel : decode (cd 189) 44 = .ok (.getfield 70, 3)) (by decide +kernel) (by decide +kernel)
  · intro d a b c L M Q; exact Wp_sim (by decide +kernel : decode (cd 189) 47 = .ok (.imul , 1)) rfl rfl
  · intro d a b v0 x L M Q; exact Wp_sim (by decide +kernel : decode (cd 189) 48 = .ok (.iload_n 1, 1)) rfl rfl
  · intro d a b c L M Q; exact q_ast (by decide +kernel : decode (cd 189) 49 = .ok (.iastore , 1))
  · intro d x L M Q; exact Wp_sim (by decide +kernel : decode (cd 189) 50 = .ok (.aload_n 0, 1)) rfl rfl
  · intro d a L M Q; exact q_getR (p := 857) (by decide +kernel : decode (cd 189) 51 = .ok (.getfield 42, 3)) (by decide +kernel) (by decide +kernel)
  · intro d a L M Q; exact Wp_sim (by decide +kernel : decode (cd 189) 54 = .ok (.iconst 2, 1)) rfl rfl
  · intro d a b x L M Q; exact Wp_sim (by decide +kernel : decode (cd 189) 55 = .ok (.aload_n 0, 1)) rfl rfl
  · intro d a b c L M Q; exact q_getI (p := 858) (by decide +kernel : decode (cd 189) 56 = .ok (.getfield 70, 3)) (by decide +kernel) (by decide +kernel)
  · intro d a b c L M Q; exact Wp_sim (by decide +kernel : decode (cd 189) 59 = .ok (.imul , 1)) rfl rfl
  · intro d a b L M Q; exact Wp_sim (by decide +kernel : decode (cd 189) 60 = .ok (.iconst 1, 1)) rfl rfl
  · intro d a b c L M Q; exact Wp_sim (by decide +kernel : decode (cd 189) 61 = .ok (.iadd , 1)) rfl rfl
  · intro d a b v0 v1 x L M Q; exact Wp_sim (by decide +kernel : decode (cd 189) 62 = .ok (.iload_n 2, 1)) rfl rfl
  · intro d a b c L M Q; exact q_ast (by decide +kernel : decode (cd 189) 63 = .ok (.iastore , 1))
  · intro d x L M Q; exact Wp_sim (by decide +kernel : decode (cd 189) 64 = .ok (.aload_n 0, 1)) rfl rfl
  · intro d a L M Q; exact Wp_sim (by decide +kernel : decode (cd 189) 65 = .ok (.dup , 1)) rfl rfl
  · intro d a b L M Q; exact q_getI (p := 858) (by decide +kernel : decode (cd 189) 66 = .ok (.getfield 70, 3)) (by decide +kernel) (by decide +kernel)
  · intro d a b L M Q; exact Wp_sim (by decide +kernel : decode (cd 189) 69 = .ok (.iconst 1, 1)) rfl rfl
  · intro d a b c L M Q; exact Wp_sim (by decide +kernel : decode (cd 189) 70 = .ok (.iadd , 1)) rfl rfl
  · intro d a b L M Q; exact q_putI (p := 858) (by decide +kernel : decode (cd 189) 71 = .ok (.putfield 70, 3)) (by decide +kernel) (by decide +kernel)
  · intro d x L M Q; exact Wp_sim (by decide +kernel : decode (cd 189) 74 = .ok (.aload_n 0, 1)) rfl rfl
  · intro d a L M Q; exact q_getI (p := 858) (by decide +kernel : decode (cd 189) 75 = .ok (.getfield 70, 3)) (by decide +kernel) (by decide +kernel)
  · intro d a L M Q; exact q_iret (by decide +kernel : decode (cd 189) 78 = .ok (.ireturn , 1)) (by decide +kernel)

/- 190: PalaceYardModel.tear -/
set_option maxRecDepth 10000 in
theorem e190 : (∀ (d : Nat) (x : Nat) (L : List Value) (M : Mem) (Q : Option Value → Mem → Prop), Wp d 190 0 (.ref x :: L) [] M Q ↔ Wp d 190 1 (.ref x :: L) [.ref x] M Q) ∧
    (∀ (d : Nat) (a : Nat) (L : List Value) (M : Mem) (Q : Option Value → Mem → Prop), Wp d 190 1 L [.ref a] M Q ↔ (isK a 12 = true ∧ Wp d 190 4 L [.int (M a 13)] M Q)) ∧
    (∀ (d : Nat) (a : Int32) (x : Nat) (L : List Value) (M : Mem) (Q : Option Value → Mem → Prop), Wp d 190 4 (.ref x :: L) [.int a] M Q ↔ Wp d 190 5 (.ref x :: L) [.ref x, .int a] M Q) ∧
    (∀ (d : Nat) (a : Nat) (b : Int32) (L : List Value) (M : Mem) (Q : Option Value → Mem → Prop), Wp d 190 5 L [.ref a, .int b] M Q ↔ (isK a 12 = true ∧ Wp d 190 8 L [.int (M a 15), .int b] M Q)) ∧
    (∀ (d : Nat) (a : Int32) (b : Int32) (L : List Value) (M : Mem) (Q : Option Value → Mem → Prop), Wp d 190 8 L [.int a, .int b] M Q ↔ Wp d 190 9 L [.int (b + a)] M Q) ∧
    (∀ (d : Nat) (a : Int32) (v0 : Value) (x : Value) (L : List Value) (M : Mem) (Q : Option Value → Mem → Prop), Wp d 190 9 (v0 :: x :: L) [.int a] M Q ↔ Wp d 190 10 (clr v0 :: .int a :: L) [] M Q) ∧
    (∀ (d : Nat) (x : Nat) (L : List Value) (M : Mem) (Q : Option Value → Mem → Prop), Wp d 190 10 (.ref x :: L) [] M Q ↔ Wp d 190 11 (.ref x :: L) [.ref x] M Q) ∧
    (∀ (d : Nat) (a : Nat) (L : List Value) (M : Mem) (Q : Option Value → Mem → Prop), Wp d 190 11 L [.ref a] M Q ↔ Wp d 190 12 L [.int 0, .ref a] M Q) ∧
    (∀ (d : Nat) (a : Int32) (b : Nat) (L : List Value) (M : Mem) (Q : Option Value → Mem → Prop), Wp d 190 12 L [.int a, .ref b] M Q ↔ (isK b 12 = true ∧ Wp d 190 15 L [] (up2 M b 13 a) Q)) ∧
    (∀ (d : Nat) (x : Nat) (L : List Value) (M : Mem) (Q : Option Value → Mem → Prop), Wp d 190 15 (.ref x :: L) [] M Q ↔ Wp d 190 16 (.ref x :: L) [.ref x] M Q) ∧
    (∀ (d : Nat) (a : Nat) (L : List Value) (M : Mem) (Q : Option Value → Mem → Prop), Wp d 190 16 L [.ref a] M Q ↔ Wp d 190 17 L [.int 0, .ref a] M Q) ∧
    (∀ (d : Nat) (a : Int32) (b : Nat) (L : List Value) (M : Mem) (Q : Option Value → Mem → Prop), Wp d 190 17 L [.int a, .ref b] M Q ↔ (isK b 12 = true ∧ Wp d 190 20 L [] (up2 M b 15 a) Q)) ∧
    (∀ (d : Nat) (v0 : Value) (x : Int32) (L : List Value) (M : Mem) (Q : Option Value → Mem → Prop), Wp d 190 20 (v0 :: .int x :: L) [] M Q ↔ Wp d 190 21 (v0 :: .int x :: L) [.int x] M Q) ∧
    (∀ (d : Nat) (a : Int32) (L : List Value) (M : Mem) (Q : Option Value → Mem → Prop), Wp d 190 21 L [.int a] M Q ↔ Q (some (.int a)) M) := by
  refine ⟨?_, ?_, ?_, ?_, ?_, ?_, ?_, ?_, ?_, ?_, ?_, ?_, ?_, ?_⟩
  · intro d x L M Q; exact Wp_sim (by decide +kernel : decode (cd 190) 0 = .ok (.aload_n 0, 1)) rfl rfl
  · intro d a L M Q; exact q_getI (p := 856) (by decide +kernel : decode (cd 190) 1 = .ok (.getfield 67, 3)) (by decide +kernel) (by decide +kernel)
  · intro d a x L M Q; exact Wp_sim (by decide +kernel : decode (cd 190) 4 = .ok (.aload_n 0, 1)) rfl rfl
  · intro d a b L M Q; exact q_getI (p := 858) (by decide +kernel : decode (cd 190) 5 = .ok (.getfield 70, 3)) (by decide +kernel) (by decide +kernel)
  · intro d a b L M Q; exact Wp_sim (by decide +kernel : decode (cd 190) 8 = .ok (.iadd , 1)) rfl rfl
  · intro d a v0 x L M Q; exact Wp_sim (by decide +kernel : decode (cd 190) 9 = .ok (.istore_n 1, 1)) rfl rfl
  · intro d x L M Q; exact Wp_sim (by decide +kernel : decode (cd 190) 10 = .ok (.aload_n 0, 1)) rfl rfl
  · intro d a L M Q; exact Wp_sim (by decide +kernel : decode (cd 190) 11 = .ok (.iconst 0, 1)) rfl rfl
  · intro d a b L M Q; exact q_putI (p := 856) (by decide +kernel : decode (cd 190) 12 = .ok (.putfield 67, 3)) (by decide +kernel) (by decide +kernel)
  · intro d x L M Q; exact Wp_sim (by decide +kernel : decode (cd 190) 15 = .ok (.aload_n 0, 1)) rfl rfl
  · intro d a L M Q; exact Wp_sim (by decide +kernel : decode (cd 190) 16 = .ok (.iconst 0, 1)) rfl rfl
  · intro d a b L M Q; exact q_putI (p := 858) (by decide +kernel : decode (cd 190) 17 = .ok (.putfield 70, 3)) (by decide +kernel) (by decide +kernel)
  · intro d v0 x L M Q; exact Wp_sim (by decide +kernel : decode (cd 190) 20 = .ok (.iload_n 1, 1)) rfl rfl
  · intro d a L M Q; exact q_iret (by decide +kernel : decode (cd 190) 21 = .ok (.ireturn , 1)) (by decide +kernel)

/- 191: PalaceYardModel.judge -/
set_option maxRecDepth 10000 in
theorem e191 : (∀ (d : Nat) (L : List Value) (M : Mem) (Q : Option Value → Mem → Prop), Wp d 191 0 L [] M Q ↔ Wp d 191 1 L [.int 0] M Q) ∧
    (∀ (d : Nat) (a : Int32) (v0 : Value) (x : Value) (L : List Value) (M : Mem) (Q : Option Value → Mem → Prop), Wp d 191 1 (v0 :: x :: L) [.int a] M Q ↔ Wp d 191 2 (clr v0 :: .int a :: L) [] M Q) ∧
    (∀ (d : Nat) (a : Int32) (x : Nat) (L : List Value) (M : Mem) (Q : Option Value → Mem → Prop), Wp d 191 3 (.ref x :: L) [.int a] M Q ↔ Wp d 191 4 (.ref x :: L) [.ref x, .int a] M Q) ∧
    (∀ (d : Nat) (a : Nat) (b : Int32) (L : List Value) (M : Mem) (Q : Option Value → Mem → Prop), Wp d 191 4 L [.ref a, .int b] M Q ↔ (isK a 12 = true ∧ Wp d 191 7 L [.int (M a 15), .int b] M Q)) ∧
    (∀ (d : Nat) (a : Int32) (b : Int32) (L : List Value) (M : Mem) (Q : Option Value → Mem → Prop), Wp d 191 7 L [.int a, .int b] M Q ↔ (if b < a then Wp d 191 10 L [] M Q else Wp d 191 46 L [] M Q)) ∧
    (∀ (d : Nat) (x : Nat) (L : List Value) (M : Mem) (Q : Option Value → Mem → Prop), Wp d 191 10 (.ref x :: L) [] M Q ↔ Wp d 191 11 (.ref x :: L) [.ref x] M Q) ∧
    (∀ (d : Nat) (a : Nat) (L : List Value) (M : Mem) (Q : Option Value → Mem → Prop), Wp d 191 11 L [.ref a] M Q ↔ (isK a 12 = true ∧ Wp d 191 14 L [.ref (rt a 2)] M Q)) ∧
    (∀ (d : Nat) (a : Nat) (L : List Value) (M : Mem) (Q : Option Value → Mem → Prop), Wp d 191 14 L [.ref a] M Q ↔ Wp d 191 15 L [.int 0, .ref a] M Q) ∧
    (∀ (d : Nat) (a : Int32) (b : Nat) (x : Nat) (L : List Value) (M : Mem) (Q : Option Value → Mem → Prop), Wp d 191 15 (.ref x :: L) [.int a, .ref b] M Q ↔ Wp d 191 16 (.ref x :: L) [.ref x, .int a, .ref b] M Q) ∧
    (∀ (d : Nat) (a : Nat) (b : Int32) (c : Nat) (L : List Value) (M : Mem) (Q : Option Value → Mem → Prop), Wp d 191 16 L [.ref a, .int b, .ref c] M Q ↔ (isK a 12 = true ∧ Wp d 191 19 L [.ref (rt a 14), .int b, .ref c] M Q)) ∧
    (∀ (d : Nat) (a : Nat) (b : Int32) (c : Nat) (L : List Value) (M : Mem) (Q : Option Value → Mem → Prop), Wp d 191 19 L [.ref a, .int b, .ref c] M Q ↔ Wp d 191 20 L [.int 2, .ref a, .int b, .ref c] M Q) ∧
    (∀ (d : Nat) (a : Int32) (b : Nat) (c : Int32) (d2 : Nat) (v0 : Value) (x : Int32) (L : List Value) (M : Mem) (Q : Option Value → Mem → Prop), Wp d 191 20 (v0 :: .int x :: L) [.int a, .ref b, .int c, .ref d2] M Q ↔ Wp d 191 21 (v0 :: .int x :: L) [.int x, .int a, .ref b, .int c, .ref d2] M Q) ∧
    (∀ (d : Nat) (a : Int32) (b : Int32) (c : Nat) (d2 : Int32) (e : Nat) (L : List Value) (M : Mem) (Q : Option Value → Mem → Prop), Wp d 191 21 L [.int a, .int b, .ref c, .int d2, .ref e] M Q ↔ Wp d 191 22 L [.int (b * a), .ref c, .int d2, .ref e] M Q) ∧
    (∀ (d : Nat) (a : Int32) (b : Nat) (c : Int32) (d2 : Nat) (L : List Value) (M : Mem) (Q : Option Value → Mem → Prop), Wp d 191 22 L [.int a, .ref b, .int c, .ref d2] M Q ↔ ((isR b = true ∧ inr a (lnm M b)) ∧ Wp d 191 23 L [.int (M b a.toNatClampNeg), .int c, .ref d2] M Q)) ∧
    (∀ (d : Nat) (a : Int32) (b : Int32) (c : Nat) (L : List Value) (M : Mem) (Q : Option Value → Mem → Prop), Wp d 191 23 L [.int a, .int b, .ref c] M Q ↔ Wp d 191 24 L [.int (b + a), .ref c] M Q) ∧
    (∀ (d : Nat) (a : Int32) (b : Nat) (L : List Value) (M : Mem) (Q : Option Value → Mem → Prop), Wp d 191 24 L [.int a, .ref b] M Q ↔ ((isR b = true ∧ inr a (lnm M b)) ∧ Wp d 191 25 L [.int (M b a.toNatClampNeg)] M Q)) ∧
    (∀ (d : Nat) (a : Int32) (x : Nat) (L : List Value) (M : Mem) (Q : Option Value → Mem → Prop), Wp d 191 25 (.ref x :: L) [.int a] M Q ↔ Wp d 191 26 (.ref x :: L) [.ref x, .int a] M Q) ∧
    (∀ (d : Nat) (a : Nat) (b : Int32) (L : List Value) (M : Mem) (Q : Option Value → Mem → Prop), Wp d 191 26 L [.ref a, .int b] M Q ↔ (isK a 12 = true ∧ Wp d 191 29 L [.ref (rt a 14), .int b] M Q)) ∧
    (∀ (d : Nat) (a : Nat) (b : Int32) (L : List Value) (M : Mem) (Q : Option Value → Mem → Prop), Wp d 191 29 L [.ref a, .int b] M Q ↔ Wp d 191 30 L [.int 2, .ref a, .int b] M Q) ∧
    (∀ (d : Nat) (a : Int32) (b : Nat) (c : Int32) (v0 : Value) (x : Int32) (L : List Value) (M : Mem) (Q : Option Value → Mem → Prop), Wp d 191 30 (v0 :: .int x :: L) [.int a, .ref b, .int c] M Q ↔ Wp d 191 31 (v0 :: .int x :: L) [.int x, .int a, .ref b, .int c] M Q) ∧
    (∀ (d : Nat) (a : Int32) (b : Int32) (c : Nat) (d2 : Int32) (L : List Value) (M : Mem) (Q : Option Value → Mem → Prop), Wp d 191 31 L [.int a, .int b, .ref c, .int d2] M Q ↔ Wp d 191 32 L [.int (b * a), .ref c, .int d2] M Q) ∧
    (∀ (d : Nat) (a : Int32) (b : Nat) (c : Int32) (L : List Value) (M : Mem) (Q : Option Value → Mem → Prop), Wp d 191 32 L [.int a, .ref b, .int c] M Q ↔ Wp d 191 33 L [.int 1, .int a, .ref b, .int c] M Q) ∧
    (∀ (d : Nat) (a : Int32) (b : Int32) (c : Nat) (d2 : Int32) (L : List Value) (M : Mem) (Q : Option Value → Mem → Prop), Wp d 191 33 L [.int a, .int b, .ref c, .int d2] M Q ↔ Wp d 191 34 L [.int (b + a), .ref c, .int d2] M Q) ∧
    (∀ (d : Nat) (a : Int32) (b : Nat) (c : Int32) (L : List Value) (M : Mem) (Q : Option Value → Mem → Prop), Wp d 191 34 L [.int a, .ref b, .int c] M Q ↔ ((isR b = true ∧ inr a (lnm M b)) ∧ Wp d 191 35 L [.int (M b a.toNatClampNeg), .int c] M Q)) ∧
    (∀ (d : Nat) (a : Int32) (b : Int32) (L : List Value) (M : Mem) (Q : Option Value → Mem → Prop), Wp d 191 35 L [.int a, .int b] M Q ↔ (if b = a then Wp d 191 40 L [] M Q else Wp d 191 38 L [] M Q)) ∧
    (∀ (d : Nat) (v0 : Value) (x : Int32) (L : List Value) (M : Mem) (Q : Option Value → Mem → Prop), Wp d 191 38 (v0 :: .int x :: L) [] M Q ↔ Wp d 191 39 (v0 :: .int x :: L) [.int x] M Q) ∧
    (∀ (d : Nat) (a : Int32) (L : List Value) (M : Mem) (Q : Option Value → Mem → Prop), Wp d 191 39 L [.int a] M Q ↔ Q (some (.int a)) M) ∧
    (∀ (d : Nat) (v0 : Value) (x : Int32) (L : List Value) (M : Mem) (Q : Option Value → Mem → Prop), Wp d 191 40 (v0 :: .int x :: L) [] M Q ↔ Wp d 191 43 (clr v0 :: .int (x + 1) :: L) [] M Q) ∧
    (∀ (d : Nat) (L : List Value) (M : Mem) (Q : Option Value → Mem → Prop), Wp d 191 43 L [] M Q ↔ Wp d 191 2 L [] M Q) ∧
    (∀ (d : Nat) (L : List Value) (M : Mem) (Q : Option Value → Mem → Prop), Wp d 191 46 L [] M Q ↔ Wp d 191 47 L [.int (-1)] M Q) ∧
    (∀ (d : Nat) (a : Int32) (L : List Value) (M : Mem) (Q : Option Value → Mem → Prop), Wp d 191 47 L [.int a] M Q ↔ Q (some (.int a)) M) := by
  refine ⟨?_, ?_, ?_, ?_, ?_, ?_, ?_, ?_, ?_, ?_, ?_, ?_, ?_, ?_, ?_, ?_, ?_, ?_, ?_, ?_, ?_, ?_, ?_, ?_, ?_, ?_, ?_, ?_, ?_, ?_, ?_⟩
  · intro d L M Q; exact Wp_sim (by decide +kernel : decode (cd 191) 0 = .ok (.iconst 0, 1)) rfl rfl
  · intro d a v0 x L M Q; exact Wp_sim (by decide +kernel : decode (cd 191) 1 = .ok (.istore_n 1, 1)) rfl rfl
  · intro d a x L M Q; exact Wp_sim (by decide +kernel : decode (cd 191) 3 = .ok (.aload_n 0, 1)) rfl rfl
  · intro d a b L M Q; exact q_getI (p := 858) (by decide +kernel : decode (cd 191) 4 = .ok (.getfield 70, 3)) (by decide +kernel) (by decide +kernel)
  · intro d a b L M Q; exact q_ige (by decide +kernel : decode (cd 191) 7 = .ok (.if_icmp .ge 39, 3)) (by decide)
  · intro d x L M Q; exact Wp_sim (by decide +kernel : decode (cd 191) 10 = .ok (.aload_n 0, 1)) rfl rfl
  · intro d a L M Q; exact q_getR (p := 845) (by decide +kernel : decode (cd 191) 11 = .ok (.getfield 16, 3)) (by decide +kernel) (by decide +kernel)
  · intro d a L M Q; exact Wp_sim (by decide +kernel : decode (cd 191) 14 = .ok (.iconst 0, 1)) rfl rfl
  · intro d a b x L M Q; exact Wp_sim (by decide +kernel : decode (cd 191) 15 = .ok (.aload_n 0, 1)) rfl rfl
  · intro d a b c L M Q; exact q_getR (p := 857) (by decide +kernel : decode (cd 191) 16 = .ok (.getfield 42, 3)) (by decide +kernel) (by decide +kernel)
  · intro d a b c L M Q; exact Wp_sim (by decide +kernel : decode (cd 191) 19 = .ok (.iconst 2, 1)) rfl rfl
  · intro d a b c d2 v0 x L M Q; exact Wp_sim (by decide +kernel : decode (cd 191) 20 = .ok (.iload_n 1, 1)) rfl rfl
  · intro d a b c d2 e L M Q; exact Wp_sim (by decide +kernel : decode (cd 191) 21 = .ok (.imul , 1)) rfl rfl
  · intro d a b c d2 L M Q; exact q_ald (by decide +kernel : decode (cd 191) 22 = .ok (.iaload , 1))
  · intro d a b c L M Q; exact Wp_sim (by decide +kernel : decode (cd 191) 23 = .ok (.iadd , 1)) rfl rfl
  · intro d a b L M Q; exact q_ald (by decide +kernel : decode (cd 191) 24 = .ok (.iaload , 1))
  · intro d a x L M Q; exact Wp_sim (by decide +kernel : decode (cd 191) 25 = .ok (.aload_n 0, 1)) rfl rfl
  · intro d a b L M Q; exact q_getR (p := 857) (by decide +kernel : decode (cd 191) 26 = .ok (.getfield 42, 3)) (by decide +kernel) (by decide +kernel)
  · intro d a b L M Q; exact Wp_sim (by decide +kernel : decode (cd 191) 29 = .ok (.iconst 2, 1)) rfl rfl
  · intro d a b c v0 x L M Q; exact Wp_sim (by decide +kernel : decode (cd 191) 30 = .ok (.iload_n 1, 1)) rfl rfl
  · intro d a b c d2 L M Q; exact Wp_sim (by decide +kernel : decode (cd 191) 31 = .ok (.imul , 1)) rfl rfl
  · intro d a b c L M Q; exact Wp_sim (by decide +kernel : decode (cd 191) 32 = .ok (.iconst 1, 1)) rfl rfl
  · intro d a b c d2 L M Q; exact Wp_sim (by decide +kernel : decode (cd 191) 33 = .ok (.iadd , 1)) rfl rfl
  · intro d a b c L M Q; exact q_ald (by decide +kernel : decode (cd 191) 34 = .ok (.iaload , 1))
  · intro d a b L M Q; exact q_ieq (by decide +kernel : decode (cd 191) 35 = .ok (.if_icmp .eq 5, 3)) (by decide)
  · intro d v0 x L M Q; exact Wp_sim (by decide +kernel : decode (cd 191) 38 = .ok (.iload_n 1, 1)) rfl rfl
  · intro d a L M Q; exact q_iret (by decide +kernel : decode (cd 191) 39 = .ok (.ireturn , 1)) (by decide +kernel)
  · intro d v0 x L M Q; exact Wp_sim (by decide +kernel : decode (cd 191) 40 = .ok (.iinc 1 1, 3)) rfl rfl
  · intro d L M Q; exact q_goto (by decide +kernel : decode (cd 191) 43 = .ok (.goto (-41), 3)) (by decide)
  · intro d L M Q; exact Wp_sim (by decide +kernel : decode (cd 191) 46 = .ok (.iconst (-1), 1)) rfl rfl
  · intro d a L M Q; exact q_iret (by decide +kernel : decode (cd 191) 47 = .ok (.ireturn , 1)) (by decide +kernel)
theorem h191_2 : (∀ (d : Nat) (v0 : Value) (x : Int32) (L : List Value) (M : Mem) (Q : Option Value → Mem → Prop), Wp d 191 2 (v0 :: .int x :: L) [] M Q ↔ Wp d 191 3 (v0 :: .int x :: L) [.int x] M Q) := by
  intro d v0 x L M Q; exact Wp_sim (by decide +kernel : decode (cd 191) 2 = .ok (.iload_n 1, 1)) rfl rfl

/- 192: PalaceYardModel.seed -/
set_option maxRecDepth 10000 in
theorem e192 : (∀ (d : Nat) (v0 : Value) (x : Int32) (L : List Value) (M : Mem) (Q : Option Value → Mem → Prop), Wp d 192 0 (v0 :: .int x :: L) [] M Q ↔ Wp d 192 1 (v0 :: .int x :: L) [.int x] M Q) ∧
    (∀ (d : Nat) (a : Int32) (L : List Value) (M : Mem) (Q : Option Value → Mem → Prop), Wp d 192 1 L [.int a] M Q ↔ (if a < 0 then Wp d 192 4 L [] M Q else Wp d 192 7 L [] M Q)) ∧
    (∀ (d : Nat) (L : List Value) (M : Mem) (Q : Option Value → Mem → Prop), Wp d 192 4 L [] M Q ↔ Wp d 192 6 L [.int (-1000000002)] M Q) ∧
    (∀ (d : Nat) (a : Int32) (L : List Value) (M : Mem) (Q : Option Value → Mem → Prop), Wp d 192 6 L [.int a] M Q ↔ Q (some (.int a)) M) ∧
    (∀ (d : Nat) (x : Nat) (L : List Value) (M : Mem) (Q : Option Value → Mem → Prop), Wp d 192 7 (.ref x :: L) [] M Q ↔ Wp d 192 8 (.ref x :: L) [.ref x] M Q) ∧
    (∀ (d : Nat) (a : Nat) (L : List Value) (M : Mem) (Q : Option Value → Mem → Prop), Wp d 192 8 L [.ref a] M Q ↔ (isK a 12 = true ∧ Wp d 192 11 L [.long (M a 8).toInt64] M Q)) ∧
    (∀ (d : Nat) (a : Int64) (L : List Value) (M : Mem) (Q : Option Value → Mem → Prop), Wp d 192 11 L [.long a] M Q ↔ Wp d 192 12 L [.int a.toInt32] M Q) ∧
    (∀ (d : Nat) (a : Int32) (v0 : Value) (v1 : Value) (x : Value) (L : List Value) (M : Mem) (Q : Option Value → Mem → Prop), Wp d 192 12 (v0 :: v1 :: x :: L) [.int a] M Q ↔ Wp d 192 13 (v0 :: clr v1 :: .int a :: L) [] M Q) ∧
    (∀ (d : Nat) (x : Nat) (L : List Value) (M : Mem) (Q : Option Value → Mem → Prop), Wp d 192 13 (.ref x :: L) [] M Q ↔ Wp d 192 14 (.ref x :: L) [.ref x] M Q) ∧
    (∀ (d : Nat) (a : Nat) (v0 : Value) (x : Int32) (L : List Value) (M : Mem) (Q : Option Value → Mem → Prop), Wp d 192 14 (v0 :: .int x :: L) [.ref a] M Q ↔ Wp d 192 15 (v0 :: .int x :: L) [.int x, .ref a] M Q) ∧
    (∀ (d : Nat) (a : Int32) (b : Nat) (L : List Value) (M : Mem) (Q : Option Value → Mem → Prop), Wp d 192 15 L [.int a, .ref b] M Q ↔ Wp d 192 16 L [.long a.toInt64, .ref b] M Q) ∧
    (∀ (d : Nat) (a : Int64) (b : Nat) (L : List Value) (M : Mem) (Q : Option Value → Mem → Prop), Wp d 192 16 L [.long a, .ref b] M Q ↔ ((isK b 12 = true ∧ a.toInt32.toInt64 = a) ∧ Wp d 192 19 L [] (up2 M b 8 a.toInt32) Q)) ∧
    (∀ (d : Nat) (v0 : Value) (v1 : Value) (x : Int32) (L : List Value) (M : Mem) (Q : Option Value → Mem → Prop), Wp d 192 19 (v0 :: v1 :: .int x :: L) [] M Q ↔ Wp d 192 20 (v0 :: v1 :: .int x :: L) [.int x] M Q) ∧
    (∀ (d : Nat) (a : Int32) (L : List Value) (M : Mem) (Q : Option Value → Mem → Prop), Wp d 192 20 L [.int a] M Q ↔ Q (some (.int a)) M) := by
  refine ⟨?_, ?_, ?_, ?_, ?_, ?_, ?_, ?_, ?_, ?_, ?_, ?_, ?_, ?_⟩
  · intro d v0 x L M Q; exact Wp_sim (by decide +kernel : decode (cd 192) 0 = .ok (.iload_n 1, 1)) rfl rfl
  · intro d a L M Q; exact q_zge (by decide +kernel : decode (cd 192) 1 = .ok (.ifCond .ge 6, 3)) (by decide)
  · intro d L M Q; exact q_ldc (p := 940) (by decide +kernel : decode (cd 192) 4 = .ok (.ldc 79, 2)) (by decide +kernel)
  · intro d a L M Q; exact q_iret (by decide +kernel : decode (cd 192) 6 = .ok (.ireturn , 1)) (by decide +kernel)
  · intro d x L M Q; exact Wp_sim (by decide +kernel : decode (cd 192) 7 = .ok (.aload_n 0, 1)) rfl rfl
  · intro d a L M Q; exact q_getJ (p := 851) (by decide +kernel : decode (cd 192) 8 = .ok (.getfield 237, 3)) (by decide +kernel) (by decide +kernel)
  · intro d a L M Q; exact Wp_sim (by decide +kernel : decode (cd 192) 11 = .ok (.l2i , 1)) rfl rfl
  · intro d a v0 v1 x L M Q; exact Wp_sim (by decide +kernel : decode (cd 192) 12 = .ok (.istore_n 2, 1)) rfl rfl
  · intro d x L M Q; exact Wp_sim (by decide +kernel : decode (cd 192) 13 = .ok (.aload_n 0, 1)) rfl rfl
  · intro d a v0 x L M Q; exact Wp_sim (by decide +kernel : decode (cd 192) 14 = .ok (.iload_n 1, 1)) rfl rfl
  · intro d a b L M Q; exact Wp_sim (by decide +kernel : decode (cd 192) 15 = .ok (.i2l , 1)) rfl rfl
  · intro d a b L M Q; exact q_putJ (p := 851) (by decide +kernel : decode (cd 192) 16 = .ok (.putfield 237, 3)) (by decide +kernel) (by decide +kernel)
  · intro d v0 v1 x L M Q; exact Wp_sim (by decide +kernel : decode (cd 192) 19 = .ok (.iload_n 2, 1)) rfl rfl
  · intro d a L M Q; exact q_iret (by decide +kernel : decode (cd 192) 20 = .ok (.ireturn , 1)) (by decide +kernel)

/- 193: PalaceYardModel.keep -/
set_option maxRecDepth 10000 in
theorem e193 : (∀ (d : Nat) (v0 : Value) (x : Int32) (L : List Value) (M : Mem) (Q : Option Value → Mem → Prop), Wp d 193 0 (v0 :: .int x :: L) [] M Q ↔ Wp d 193 1 (v0 :: .int x :: L) [.int x] M Q) ∧
    (∀ (d : Nat) (a : Int32) (L : List Value) (M : Mem) (Q : Option Value → Mem → Prop), Wp d 193 1 L [.int a] M Q ↔ Wp d 193 2 L [.long a.toInt64] M Q) ∧
    (∀ (d : Nat) (a : Int64) (L : List Value) (M : Mem) (Q : Option Value → Mem → Prop), Wp d 193 2 L [.long a] M Q ↔ Wp d 193 3 L [.long 0, .long a] M Q) ∧
    (∀ (d : Nat) (a : Int64) (b : Int64) (L : List Value) (M : Mem) (Q : Option Value → Mem → Prop), Wp d 193 3 L [.long a, .long b] M Q ↔ Wp d 193 4 L [.long 1, .long a, .long b] M Q) ∧
    (∀ (d : Nat) (a : Int64) (b : Int64) (c : Int64) (L : List Value) (M : Mem) (Q : Option Value → Mem → Prop), Wp (d + 1) 193 4 L [.long a, .long b, .long c] M Q ↔ Wp d 112 0 [.long c, .null, .long b, .null, .long a, .null] [] M (fun r M2 => Wp (d + 1) 193 7 L (r.toList ++ []) M2 Q)) ∧
    (∀ (d : Nat) (a : Int32) (L : List Value) (M : Mem) (Q : Option Value → Mem → Prop), Wp d 193 7 L [.int a] M Q ↔ (if a = 0 then Wp d 193 10 L [] M Q else Wp d 193 13 L [] M Q)) ∧
    (∀ (d : Nat) (L : List Value) (M : Mem) (Q : Option Value → Mem → Prop), Wp d 193 10 L [] M Q ↔ Wp d 193 12 L [.int (-1000000001)] M Q) ∧
    (∀ (d : Nat) (a : Int32) (L : List Value) (M : Mem) (Q : Option Value → Mem → Prop), Wp d 193 12 L [.int a] M Q ↔ Q (some (.int a)) M) ∧
    (∀ (d : Nat) (x : Nat) (L : List Value) (M : Mem) (Q : Option Value → Mem → Prop), Wp d 193 13 (.ref x :: L) [] M Q ↔ Wp d 193 14 (.ref x :: L) [.ref x] M Q) ∧
    (∀ (d : Nat) (a : Nat) (L : List Value) (M : Mem) (Q : Option Value → Mem → Prop), Wp d 193 14 L [.ref a] M Q ↔ (isK a 12 = true ∧ Wp d 193 17 L [.ref (rt a 2)] M Q)) ∧
    (∀ (d : Nat) (a : Nat) (L : List Value) (M : Mem) (Q : Option Value → Mem → Prop), Wp d 193 17 L [.ref a] M Q ↔ Wp d 193 18 L [.int 0, .ref a] M Q) ∧
    (∀ (d : Nat) (a : Int32) (b : Nat) (x : Nat) (L : List Value) (M : Mem) (Q : Option Value → Mem → Prop), Wp d 193 18 (.ref x :: L) [.int a, .ref b] M Q ↔ Wp d 193 19 (.ref x :: L) [.ref x, .int a, .ref b] M Q) ∧
    (∀ (d : Nat) (a : Nat) (b : Int32) (c : Nat) (L : List Value) (M : Mem) (Q : Option Value → Mem → Prop), Wp d 193 19 L [.ref a, .int b, .ref c] M Q ↔ (isK a 12 = true ∧ Wp d 193 22 L [.ref (rt a 6), .int b, .ref c] M Q)) ∧
    (∀ (d : Nat) (a : Nat) (b : Int32) (c : Nat) (L : List Value) (M : Mem) (Q : Option Value → Mem → Prop), Wp d 193 22 L [.ref a, .int b, .ref c] M Q ↔ Wp d 193 24 L [.int 52, .ref a, .int b, .ref c] M Q) ∧
    (∀ (d : Nat) (a : Int32) (b : Nat) (c : Int32) (d2 : Nat) (v0 : Value) (x : Int32) (L : List Value) (M : Mem) (Q : Option Value → Mem → Prop), Wp d 193 24 (v0 :: .int x :: L) [.int a, .ref b, .int c, .ref d2] M Q ↔ Wp d 193 25 (v0 :: .int x :: L) [.int x, .int a, .ref b, .int c, .ref d2] M Q) ∧
    (∀ (d : Nat) (a : Int32) (b : Int32) (c : Nat) (d2 : Int32) (e : Nat) (L : List Value) (M : Mem) (Q : Option Value → Mem → Prop), Wp d 193 25 L [.int a, .int b, .ref c, .int d2, .ref e] M Q ↔ Wp d 193 26 L [.int (b * a), .ref c, .int d2, .ref e] M Q) ∧
    (∀ (d : Nat) (a : Int32) (b : Nat) (c : Int32) (d2 : Nat) (L : List Value) (M : Mem) (Q : Option Value → Mem → Prop), Wp d 193 26 L [.int a, .ref b, .int c, .ref d2] M Q ↔ Wp d 193 28 L [.int 51, .int a, .ref b, .int c, .ref d2] M Q) ∧
    (∀ (d : Nat) (a : Int32) (b : Int32) (c : Nat) (d2 : Int32) (e : Nat) (L : List Value) (M : Mem) (Q : Option Value → Mem → Prop), Wp (d + 1) 193 28 L [.int a, .int b, .ref c, .int d2, .ref e] M Q ↔ Wp d 123 0 [.ref e, .int d2, .ref c, .int b, .int a, .null] [] M (fun r M2 => Wp (d + 1) 193 31 L (r.toList ++ []) M2 Q)) ∧
    (∀ (d : Nat) (x : Nat) (L : List Value) (M : Mem) (Q : Option Value → Mem → Prop), Wp d 193 31 (.ref x :: L) [] M Q ↔ Wp d 193 32 (.ref x :: L) [.ref x] M Q) ∧
    (∀ (d : Nat) (a : Nat) (L : List Value) (M : Mem) (Q : Option Value → Mem → Prop), Wp d 193 32 L [.ref a] M Q ↔ (isK a 12 = true ∧ Wp d 193 35 L [.ref (rt a 6)] M Q)) ∧
    (∀ (d : Nat) (a : Nat) (L : List Value) (M : Mem) (Q : Option Value → Mem → Prop), Wp d 193 35 L [.ref a] M Q ↔ Wp d 193 37 L [.int 52, .ref a] M Q) ∧
    (∀ (d : Nat) (a : Int32) (b : Nat) (v0 : Value) (x : Int32) (L : List Value) (M : Mem) (Q : Option Value → Mem → Prop), Wp d 193 37 (v0 :: .int x :: L) [.int a, .ref b] M Q ↔ Wp d 193 38 (v0 :: .int x :: L) [.int x, .int a, .ref b] M Q) ∧
    (∀ (d : Nat) (a : Int32) (b : Int32) (c : Nat) (L : List Value) (M : Mem) (Q : Option Value → Mem → Prop), Wp d 193 38 L [.int a, .int b, .ref c] M Q ↔ Wp d 193 39 L [.int (b * a), .ref c] M Q) ∧
    (∀ (d : Nat) (a : Int32) (b : Nat) (L : List Value) (M : Mem) (Q : Option Value → Mem → Prop), Wp d 193 39 L [.int a, .ref b] M Q ↔ Wp d 193 41 L [.int 51, .int a, .ref b] M Q) ∧
    (∀ (d : Nat) (a : Int32) (b : Int32) (c : Nat) (L : List Value) (M : Mem) (Q : Option Value → Mem → Prop), Wp d 193 41 L [.int a, .int b, .ref c] M Q ↔ Wp d 193 42 L [.int (b + a), .ref c] M Q) ∧
    (∀ (d : Nat) (a : Int32) (b : Nat) (x : Nat) (L : List Value) (M : Mem) (Q : Option Value → Mem → Prop), Wp d 193 42 (.ref x :: L) [.int a, .ref b] M Q ↔ Wp d 193 43 (.ref x :: L) [.ref x, .int a, .ref b] M Q) ∧
    (∀ (d : Nat) (a : Nat) (b : Int32) (c : Nat) (L : List Value) (M : Mem) (Q : Option Value → Mem → Prop), Wp d 193 43 L [.ref a, .int b, .ref c] M Q ↔ (isK a 12 = true ∧ Wp d 193 46 L [.long (M a 8).toInt64, .int b, .ref c] M Q)) ∧
    (∀ (d : Nat) (a : Int64) (b : Int32) (c : Nat) (L : List Value) (M : Mem) (Q : Option Value → Mem → Prop), Wp d 193 46 L [.long a, .int b, .ref c] M Q ↔ Wp d 193 47 L [.int a.toInt32, .int b, .ref c] M Q) ∧
    (∀ (d : Nat) (a : Int32) (b : Int32) (c : Nat) (L : List Value) (M : Mem) (Q : Option Value → Mem → Prop), Wp d 193 47 L [.int a, .int b, .ref c] M Q ↔ ((isK c 13 = true ∧ inr b (lnm M c)) ∧ Wp d 193 48 L [] (up2 M c b.toNatClampNeg a) Q)) ∧
    (∀ (d : Nat) (x : Nat) (L : List Value) (M : Mem) (Q : Option Value → Mem → Prop), Wp d 193 48 (.ref x :: L) [] M Q ↔ Wp d 193 49 (.ref x :: L) [.ref x] M Q) ∧
    (∀ (d : Nat) (a : Nat) (L : List Value) (M : Mem) (Q : Option Value → Mem → Prop), Wp d 193 49 L [.ref a] M Q ↔ (isK a 12 = true ∧ Wp d 193 52 L [.ref (rt a 7)] M Q)) ∧
    (∀ (d : Nat) (a : Nat) (v0 : Value) (x : Int32) (L : List Value) (M : Mem) (Q : Option Value → Mem → Prop), Wp d 193 52 (v0 :: .int x :: L) [.ref a] M Q ↔ Wp d 193 53 (v0 :: .int x :: L) [.int x, .ref a] M Q) ∧
    (∀ (d : Nat) (a : Int32) (b : Nat) (L : List Value) (M : Mem) (Q : Option Value → Mem → Prop), Wp d 193 53 L [.int a, .ref b] M Q ↔ Wp d 193 54 L [.int 1, .int a, .ref b] M Q) ∧
    (∀ (d : Nat) (a : Int32) (b : Int32) (c : Nat) (L : List Value) (M : Mem) (Q : Option Value → Mem → Prop), Wp d 193 54 L [.int a, .int b, .ref c] M Q ↔ (((isK c 14 = true ∧ (a = 0 ∨ a = 1)) ∧ inr b (lnm M c)) ∧ Wp d 193 55 L [] (up2 M c b.toNatClampNeg a) Q)) ∧
    (∀ (d : Nat) (x : Nat) (L : List Value) (M : Mem) (Q : Option Value → Mem → Prop), Wp d 193 55 (.ref x :: L) [] M Q ↔ Wp d 193 56 (.ref x :: L) [.ref x] M Q) ∧
    (∀ (d : Nat) (a : Nat) (L : List Value) (M : Mem) (Q : Option Value → Mem → Prop), Wp d 193 56 L [.ref a] M Q ↔ Wp d 193 57 L [.int 0, .ref a] M Q) ∧
    (∀ (d : Nat) (a : Int32) (b : Nat) (L : List Value) (M : Mem) (Q : Option Value → Mem → Prop), Wp d 193 57 L [.int a, .ref b] M Q ↔ (isK b 12 = true ∧ Wp d 193 60 L [] (up2 M b 5 a) Q)) ∧
    (∀ (d : Nat) (L : List Value) (M : Mem) (Q : Option Value → Mem → Prop), Wp d 193 60 L [] M Q ↔ Wp d 193 61 L [.int 1] M Q) ∧
    (∀ (d : Nat) (a : Int32) (L : List Value) (M : Mem) (Q : Option Value → Mem → Prop), Wp d 193 61 L [.int a] M Q ↔ Q (some (.int a)) M) := by
  refine ⟨?_, ?_, ?_, ?_, ?_, ?_, ?_, ?_, ?_, ?_, ?_, ?_, ?_, ?_, ?_, ?_, ?_, ?_, ?_, ?_, ?_, ?_, ?_, ?_, ?_, ?_, ?_, ?_, ?_, ?_, ?_, ?_, ?_, ?_, ?_, ?_, ?_, ?_, ?_⟩
  · intro d v0 x L M Q; exact Wp_sim (by decide +kernel : decode (cd 193) 0 = .ok (.iload_n 1, 1)) rfl rfl
  · intro d a L M Q; exact Wp_sim (by decide +kernel : decode (cd 193) 1 = .ok (.i2l , 1)) rfl rfl
  · intro d a L M Q; exact Wp_sim (by decide +kernel : decode (cd 193) 2 = .ok (.lconst 0, 1)) rfl rfl
  · intro d a b L M Q; exact Wp_sim (by decide +kernel : decode (cd 193) 3 = .ok (.lconst 1, 1)) rfl rfl
  · intro d a b c L M Q; exact q_invS (pz := 937) (n := 3) (m := 6) (As := [.long c, .long b, .long a]) (rest := []) (by decide +kernel : decode (cd 193) 4 = .ok (.invokestatic 75, 3)) (by decide +kernel) (by decide +kernel) (by decide +kernel) rfl rfl (Nat.le_of_ble_eq_true rfl) (Nat.le_of_ble_eq_true rfl) rfl
  · intro d a L M Q; exact q_zne (by decide +kernel : decode (cd 193) 7 = .ok (.ifCond .ne 6, 3)) (by decide)
  · intro d L M Q; exact q_ldc (p := 1043) (by decide +kernel : decode (cd 193) 10 = .ok (.ldc 180, 2)) (by decide +kernel)
  · intro d a L M Q; exact q_iret (by decide +kernel : decode (cd 193) 12 = .ok (.ireturn , 1)) (by decide +kernel)
  · intro d x L M Q; exact Wp_sim (by decide +kernel : decode (cd 193) 13 = .ok (.aload_n 0, 1)) rfl rfl
  · intro d a L M Q; exact q_getR (p := 845) (by decide +kernel : decode (cd 193) 14 = .ok (.getfield 16, 3)) (by decide +kernel) (by decide +kernel)
  · intro d a L M Q; exact Wp_sim (by decide +kernel : decode (cd 193) 17 = .ok (.iconst 0, 1)) rfl rfl
  · intro d a b x L M Q; exact Wp_sim (by decide +kernel : decode (cd 193) 18 = .ok (.aload_n 0, 1)) rfl rfl
  · intro d a b c L M Q; exact q_getR (p := 849) (by decide +kernel : decode (cd 193) 19 = .ok (.getfield 25, 3)) (by decide +kernel) (by decide +kernel)
  · intro d a b c L M Q; exact Wp_sim (by decide +kernel : decode (cd 193) 22 = .ok (.bipush 52, 2)) rfl rfl
  · intro d a b c d2 v0 x L M Q; exact Wp_sim (by decide +kernel : decode (cd 193) 24 = .ok (.iload_n 1, 1)) rfl rfl
  · intro d a b c d2 e L M Q; exact Wp_sim (by decide +kernel : decode (cd 193) 25 = .ok (.imul , 1)) rfl rfl
  · intro d a b c d2 L M Q; exact Wp_sim (by decide +kernel : decode (cd 193) 26 = .ok (.bipush 51, 2)) rfl rfl
  · intro d a b c d2 e L M Q; exact q_invS (pz := 984) (n := 5) (m := 6) (As := [.ref e, .int d2, .ref c, .int b, .int a]) (rest := []) (by decide +kernel : decode (cd 193) 28 = .ok (.invokestatic 137, 3)) (by decide +kernel) (by decide +kernel) (by decide +kernel) rfl rfl (Nat.le_of_ble_eq_true rfl) (Nat.le_of_ble_eq_true rfl) rfl
  · intro d x L M Q; exact Wp_sim (by decide +kernel : decode (cd 193) 31 = .ok (.aload_n 0, 1)) rfl rfl
  · intro d a L M Q; exact q_getR (p := 849) (by decide +kernel : decode (cd 193) 32 = .ok (.getfield 25, 3)) (by decide +kernel) (by decide +kernel)
  · intro d a L M Q; exact Wp_sim (by decide +kernel : decode (cd 193) 35 = .ok (.bipush 52, 2)) rfl rfl
  · intro d a b v0 x L M Q; exact Wp_sim (by decide +kernel : decode (cd 193) 37 = .ok (.iload_n 1, 1)) rfl rfl
  · intro d a b c L M Q; exact Wp_sim (by decide +kernel : decode (cd 193) 38 = .ok (.imul , 1)) rfl rfl
  · intro d a b L M Q; exact Wp_sim (by decide +kernel : decode (cd 193) 39 = .ok (.bipush 51, 2)) rfl rfl
  · intro d a b c L M Q; exact Wp_sim (by decide +kernel : decode (cd 193) 41 = .ok (.iadd , 1)) rfl rfl
  · intro d a b x L M Q; exact Wp_sim (by decide +kernel : decode (cd 193) 42 = .ok (.aload_n 0, 1)) rfl rfl
  · intro d a b c L M Q; exact q_getJ (p := 851) (by decide +kernel : decode (cd 193) 43 = .ok (.getfield 237, 3)) (by decide +kernel) (by decide +kernel)
  · intro d a b c L M Q; exact Wp_sim (by decide +kernel : decode (cd 193) 46 = .ok (.l2i , 1)) rfl rfl
  · intro d a b c L M Q; exact q_ast (by decide +kernel : decode (cd 193) 47 = .ok (.iastore , 1))
  · intro d x L M Q; exact Wp_sim (by decide +kernel : decode (cd 193) 48 = .ok (.aload_n 0, 1)) rfl rfl
  · intro d a L M Q; exact q_getR (p := 850) (by decide +kernel : decode (cd 193) 49 = .ok (.getfield 28, 3)) (by decide +kernel) (by decide +kernel)
  · intro d a v0 x L M Q; exact Wp_sim (by decide +kernel : decode (cd 193) 52 = .ok (.iload_n 1, 1)) rfl rfl
  · intro d a b L M Q; exact Wp_sim (by decide +kernel : decode (cd 193) 53 = .ok (.iconst 1, 1)) rfl rfl
  · intro d a b c L M Q; exact q_zst (by decide +kernel : decode (cd 193) 54 = .ok (.bastore , 1))
  · intro d x L M Q; exact Wp_sim (by decide +kernel : decode (cd 193) 55 = .ok (.aload_n 0, 1)) rfl rfl
  · intro d a L M Q; exact Wp_sim (by decide +kernel : decode (cd 193) 56 = .ok (.iconst 0, 1)) rfl rfl
  · intro d a b L M Q; exact q_putI (p := 848) (by decide +kernel : decode (cd 193) 57 = .ok (.putfield 64, 3)) (by decide +kernel) (by decide +kernel)
  · intro d L M Q; exact Wp_sim (by decide +kernel : decode (cd 193) 60 = .ok (.iconst 1, 1)) rfl rfl
  · intro d a L M Q; exact q_iret (by decide +kernel : decode (cd 193) 61 = .ok (.ireturn , 1)) (by decide +kernel)

/- 194: PalaceYardModel.goBack -/
set_option maxRecDepth 10000 in
theorem e194 : (∀ (d : Nat) (v0 : Value) (x : Int32) (L : List Value) (M : Mem) (Q : Option Value → Mem → Prop), Wp d 194 0 (v0 :: .int x :: L) [] M Q ↔ Wp d 194 1 (v0 :: .int x :: L) [.int x] M Q) ∧
    (∀ (d : Nat) (a : Int32) (L : List Value) (M : Mem) (Q : Option Value → Mem → Prop), Wp d 194 1 L [.int a] M Q ↔ Wp d 194 2 L [.long a.toInt64] M Q) ∧
    (∀ (d : Nat) (a : Int64) (L : List Value) (M : Mem) (Q : Option Value → Mem → Prop), Wp d 194 2 L [.long a] M Q ↔ Wp d 194 3 L [.long 0, .long a] M Q) ∧
    (∀ (d : Nat) (a : Int64) (b : Int64) (L : List Value) (M : Mem) (Q : Option Value → Mem → Prop), Wp d 194 3 L [.long a, .long b] M Q ↔ Wp d 194 4 L [.long 1, .long a, .long b] M Q) ∧
    (∀ (d : Nat) (a : Int64) (b : Int64) (c : Int64) (L : List Value) (M : Mem) (Q : Option Value → Mem → Prop), Wp (d + 1) 194 4 L [.long a, .long b, .long c] M Q ↔ Wp d 112 0 [.long c, .null, .long b, .null, .long a, .null] [] M (fun r M2 => Wp (d + 1) 194 7 L (r.toList ++ []) M2 Q)) ∧
    (∀ (d : Nat) (a : Int32) (L : List Value) (M : Mem) (Q : Option Value → Mem → Prop), Wp d 194 7 L [.int a] M Q ↔ (if a = 0 then Wp d 194 10 L [] M Q else Wp d 194 13 L [] M Q)) ∧
    (∀ (d : Nat) (L : List Value) (M : Mem) (Q : Option Value → Mem → Prop), Wp d 194 10 L [] M Q ↔ Wp d 194 12 L [.int (-1000000001)] M Q) ∧
    (∀ (d : Nat) (a : Int32) (L : List Value) (M : Mem) (Q : Option Value → Mem → Prop), Wp d 194 12 L [.int a] M Q ↔ Q (some (.int a)) M) ∧
    (∀ (d : Nat) (x : Nat) (L : List Value) (M : Mem) (Q : Option Value → Mem → Prop), Wp d 194 13 (.ref x :: L) [] M Q ↔ Wp d 194 14 (.ref x :: L) [.ref x] M Q) ∧
    (∀ (d : Nat) (a : Nat) (L : List Value) (M : Mem) (Q : Option Value → Mem → Prop), Wp d 194 14 L [.ref a] M Q ↔ (isK a 12 = true ∧ Wp d 194 17 L [.ref (rt a 7)] M Q)) ∧
    (∀ (d : Nat) (a : Nat) (v0 : Value) (x : Int32) (L : List Value) (M : Mem) (Q : Option Value → Mem → Prop), Wp d 194 17 (v0 :: .int x :: L) [.ref a] M Q ↔ Wp d 194 18 (v0 :: .int x :: L) [.int x, .ref a] M Q) ∧
    (∀ (d : Nat) (a : Int32) (b : Nat) (L : List Value) (M : Mem) (Q : Option Value → Mem → Prop), Wp d 194 18 L [.int a, .ref b] M Q ↔ ((isK b 14 = true ∧ inr a (lnm M b)) ∧ Wp d 194 19 L [.int (M b a.toNatClampNeg)] M Q)) ∧
    (∀ (d : Nat) (a : Int32) (L : List Value) (M : Mem) (Q : Option Value → Mem → Prop), Wp d 194 19 L [.int a] M Q ↔ (if a = 0 then Wp d 194 22 L [] M Q else Wp d 194 25 L [] M Q)) ∧
    (∀ (d : Nat) (L : List Value) (M : Mem) (Q : Option Value → Mem → Prop), Wp d 194 22 L [] M Q ↔ Wp d 194 24 L [.int (-1000000003)] M Q) ∧
    (∀ (d : Nat) (a : Int32) (L : List Value) (M : Mem) (Q : Option Value → Mem → Prop), Wp d 194 24 L [.int a] M Q ↔ Q (some (.int a)) M) ∧
    (∀ (d : Nat) (x : Nat) (L : List Value) (M : Mem) (Q : Option Value → Mem → Prop), Wp d 194 25 (.ref x :: L) [] M Q ↔ Wp d 194 26 (.ref x :: L) [.ref x] M Q) ∧
    (∀ (d : Nat) (a : Nat) (L : List Value) (M : Mem) (Q : Option Value → Mem → Prop), Wp d 194 26 L [.ref a] M Q ↔ (isK a 12 = true ∧ Wp d 194 29 L [.ref (rt a 6)] M Q)) ∧
    (∀ (d : Nat) (a : Nat) (L : List Value) (M : Mem) (Q : Option Value → Mem → Prop), Wp d 194 29 L [.ref a] M Q ↔ Wp d 194 31 L [.int 52, .ref a] M Q) ∧
    (∀ (d : Nat) (a : Int32) (b : Nat) (v0 : Value) (x : Int32) (L : List Value) (M : Mem) (Q : Option Value → Mem → Prop), Wp d 194 31 (v0 :: .int x :: L) [.int a, .ref b] M Q ↔ Wp d 194 32 (v0 :: .int x :: L) [.int x, .int a, .ref b] M Q) ∧
    (∀ (d : Nat) (a : Int32) (b : Int32) (c : Nat) (L : List Value) (M : Mem) (Q : Option Value → Mem → Prop), Wp d 194 32 L [.int a, .int b, .ref c] M Q ↔ Wp d 194 33 L [.int (b * a), .ref c] M Q) ∧
    (∀ (d : Nat) (a : Int32) (b : Nat) (x : Nat) (L : List Value) (M : Mem) (Q : Option Value → Mem → Prop), Wp d 194 33 (.ref x :: L) [.int a, .ref b] M Q ↔ Wp d 194 34 (.ref x :: L) [.ref x, .int a, .ref b] M Q) ∧
    (∀ (d : Nat) (a : Nat) (b : Int32) (c : Nat) (L : List Value) (M : Mem) (Q : Option Value → Mem → Prop), Wp d 194 34 L [.ref a, .int b, .ref c] M Q ↔ (isK a 12 = true ∧ Wp d 194 37 L [.ref (rt a 2), .int b, .ref c] M Q)) ∧
    (∀ (d : Nat) (a : Nat) (b : Int32) (c : Nat) (L : List Value) (M : Mem) (Q : Option Value → Mem → Prop), Wp d 194 37 L [.ref a, .int b, .ref c] M Q ↔ Wp d 194 38 L [.int 0, .ref a, .int b, .ref c] M Q) ∧
    (∀ (d : Nat) (a : Int32) (b : Nat) (c : Int32) (d2 : Nat) (L : List Value) (M : Mem) (Q : Option Value → Mem → Prop), Wp d 194 38 L [.int a, .ref b, .int c, .ref d2] M Q ↔ Wp d 194 40 L [.int 51, .int a, .ref b, .int c, .ref d2] M Q) ∧
    (∀ (d : Nat) (a : Int32) (b : Int32) (c : Nat) (d2 : Int32) (e : Nat) (L : List Value) (M : Mem) (Q : Option Value → Mem → Prop), Wp (d + 1) 194 40 L [.int a, .int b, .ref c, .int d2, .ref e] M Q ↔ Wp d 123 0 [.ref e, .int d2, .ref c, .int b, .int a, .null] [] M (fun r M2 => Wp (d + 1) 194 43 L (r.toList ++ []) M2 Q)) ∧
    (∀ (d : Nat) (x : Nat) (L : List Value) (M : Mem) (Q : Option Value → Mem → Prop), Wp d 194 43 (.ref x :: L) [] M Q ↔ Wp d 194 44 (.ref x :: L) [.ref x] M Q) ∧
    (∀ (d : Nat) (a : Nat) (x : Nat) (L : List Value) (M : Mem) (Q : Option Value → Mem → Prop), Wp d 194 44 (.ref x :: L) [.ref a] M Q ↔ Wp d 194 45 (.ref x :: L) [.ref x, .ref a] M Q) ∧
    (∀ (d : Nat) (a : Nat) (b : Nat) (L : List Value) (M : Mem) (Q : Option Value → Mem → Prop), Wp d 194 45 L [.ref a, .ref b] M Q ↔ (isK a 12 = true ∧ Wp d 194 48 L [.ref (rt a 6), .ref b] M Q)) ∧
    (∀ (d : Nat) (a : Nat) (b : Nat) (L : List Value) (M : Mem) (Q : Option Value → Mem → Prop), Wp d 194 48 L [.ref a, .ref b] M Q ↔ Wp d 194 50 L [.int 52, .ref a, .ref b] M Q) ∧
    (∀ (d : Nat) (a : Int32) (b : Nat) (c : Nat) (v0 : Value) (x : Int32) (L : List Value) (M : Mem) (Q : Option Value → Mem → Prop), Wp d 194 50 (v0 :: .int x :: L) [.int a, .ref b, .ref c] M Q ↔ Wp d 194 51 (v0 :: .int x :: L) [.int x, .int a, .ref b, .ref c] M Q) ∧
    (∀ (d : Nat) (a : Int32) (b : Int32) (c : Nat) (d2 : Nat) (L : List Value) (M : Mem) (Q : Option Value → Mem → Prop), Wp d 194 51 L [.int a, .int b, .ref c, .ref d2] M Q ↔ Wp d 194 52 L [.int (b * a), .ref c, .ref d2] M Q) ∧
    (∀ (d : Nat) (a : Int32) (b : Nat) (c : Nat) (L : List Value) (M : Mem) (Q : Option Value → Mem → Prop), Wp d 194 52 L [.int a, .ref b, .ref c] M Q ↔ Wp d 194 54 L [.int 51, .int a, .ref b, .ref c] M Q) ∧
    (∀ (d : Nat) (a : Int32) (b : Int32) (c : Nat) (d2 : Nat) (L : List Value) (M : Mem) (Q : Option Value → Mem → Prop), Wp d 194 54 L [.int a, .int b, .ref c, .ref d2] M Q ↔ Wp d 194 55 L [.int (b + a), .ref c, .ref d2] M Q) ∧
    (∀ (d : Nat) (a : Int32) (b : Nat) (c : Nat) (L : List Value) (M : Mem) (Q : Option Value → Mem → Prop), Wp d 194 55 L [.int a, .ref b, .ref c] M Q ↔ ((isR b = true ∧ inr a (lnm M b)) ∧ Wp d 194 56 L [.int (M b a.toNatClampNeg), .ref c] M Q)) ∧
    (∀ (d : Nat) (a : Int32) (b : Nat) (L : List Value) (M : Mem) (Q : Option Value → Mem → Prop), Wp d 194 56 L [.int a, .ref b] M Q ↔ Wp d 194 57 L [.long a.toInt64, .ref b] M Q) ∧
    (∀ (d : Nat) (a : Int64) (b : Nat) (L : List Value) (M : Mem) (Q : Option Value → Mem → Prop), Wp d 194 57 L [.long a, .ref b] M Q ↔ ((isK b 12 = true ∧ a.toInt32.toInt64 = a) ∧ Wp d 194 60 L [] (up2 M b 8 a.toInt32) Q)) ∧
    (∀ (d : Nat) (x : Nat) (L : List Value) (M : Mem) (Q : Option Value → Mem → Prop), Wp d 194 60 (.ref x :: L) [] M Q ↔ Wp d 194 61 (.ref x :: L) [.ref x] M Q) ∧
    (∀ (d : Nat) (a : Nat) (L : List Value) (M : Mem) (Q : Option Value → Mem → Prop), Wp d 194 61 L [.ref a] M Q ↔ Wp d 194 62 L [.int 0, .ref a] M Q) ∧
    (∀ (d : Nat) (a : Int32) (b : Nat) (L : List Value) (M : Mem) (Q : Option Value → Mem → Prop), Wp d 194 62 L [.int a, .ref b] M Q ↔ (isK b 12 = true ∧ Wp d 194 65 L [] (up2 M b 5 a) Q)) ∧
    (∀ (d : Nat) (L : List Value) (M : Mem) (Q : Option Value → Mem → Prop), Wp d 194 65 L [] M Q ↔ Wp d 194 66 L [.int 1] M Q) ∧
    (∀ (d : Nat) (a : Int32) (L : List Value) (M : Mem) (Q : Option Value → Mem → Prop), Wp d 194 66 L [.int a] M Q ↔ Q (some (.int a)) M) := by
  refine ⟨?_, ?_, ?_, ?_, ?_, ?_, ?_, ?_, ?_, ?_, ?_, ?_, ?_, ?_, ?_, ?_, ?_, ?_, ?_, ?_, ?_, ?_, ?_, ?_, ?_, ?_, ?_, ?_, ?_, ?_, ?_, ?_, ?_, ?_, ?_, ?_, ?_, ?_, ?_, ?_, ?_⟩
  · intro d v0 x L M Q; exact Wp_sim (by decide +kernel : decode (cd 194) 0 = .ok (.iload_n 1, 1)) rfl rfl
  · intro d a L M Q; exact Wp_sim (by decide +kernel : decode (cd 194) 1 = .ok (.i2l , 1)) rfl rfl
  · intro d a L M Q; exact Wp_sim (by decide +kernel : decode (cd 194) 2 = .ok (.lconst 0, 1)) rfl rfl
  · intro d a b L M Q; exact Wp_sim (by decide +kernel : decode (cd 194) 3 = .ok (.lconst 1, 1)) rfl rfl
  · intro d a b c L M Q; exact q_invS (pz := 937) (n := 3) (m := 6) (As := [.long c, .long b, .long a]) (rest := []) (by decide +kernel : decode (cd 194) 4 = .ok (.invokestatic 75, 3)) (by decide +kernel) (by decide +kernel) (by decide +kernel) rfl rfl (Nat.le_of_ble_eq_true rfl) (Nat.le_of_ble_eq_true rfl) rfl
  · intro d a L M Q; exact q_zne (by decide +kernel : decode (cd 194) 7 = .ok (.ifCond .ne 6, 3)) (by decide)
  · intro d L M Q; exact q_ldc (p := 1043) (by decide +kernel : decode (cd 194) 10 = .ok (.ldc 180, 2)) (by decide +kernel)
  · intro d a L M Q; exact q_iret (by decide +kernel : decode (cd 194) 12 = .ok (.ireturn , 1)) (by decide +kernel)
  · intro d x L M Q; exact Wp_sim (by decide +kernel : decode (cd 194) 13 = .ok (.aload_n 0, 1)) rfl rfl
  · intro d a L M Q; exact q_getR (p := 850) (by decide +kernel : decode (cd 194) 14 = .ok (.getfield 28, 3)) (by decide +kernel) (by decide +kernel)
  · intro d a v0 x L M Q; exact Wp_sim (by decide +kernel : decode (cd 194) 17 = .ok (.iload_n 1, 1)) rfl rfl
  · intro d a b L M Q; exact q_zld (by decide +kernel : decode (cd 194) 18 = .ok (.baload , 1))
  · intro d a L M Q; exact q_zne (by decide +kernel : decode (cd 194) 19 = .ok (.ifCond .ne 6, 3)) (by decide)
  · intro d L M Q; exact q_ldc (p := 1083) (by decide +kernel : decode (cd 194) 22 = .ok (.ldc 200, 2)) (by decide +kernel)
  · intro d a L M Q; exact q_iret (by decide +kernel : decode (cd 194) 24 = .ok (.ireturn , 1)) (by decide +kernel)
  · intro d x L M Q; exact Wp_sim (by decide +kernel : decode (cd 194) 25 = .ok (.aload_n 0, 1)) rfl rfl
  · intro d a L M Q; exact q_getR (p := 849) (by decide +kernel : decode (cd 194) 26 = .ok (.getfield 25, 3)) (by decide +kernel) (by decide +kernel)
  · intro d a L M Q; exact Wp_sim (by decide +kernel : decode (cd 194) 29 = .ok (.bipush 52, 2)) rfl rfl
  · intro d a b v0 x L M Q; exact Wp_sim (by decide +kernel : decode (cd 194) 31 = .ok (.iload_n 1, 1)) rfl rfl
  · intro d a b c L M Q; exact Wp_sim (by decide +kernel : decode (cd 194) 32 = .ok (.imul , 1)) rfl rfl
  · intro d a b x L M Q; exact Wp_sim (by decide +kernel : decode (cd 194) 33 = .ok (.aload_n 0, 1)) rfl rfl
  · intro d a b c L M Q; exact q_getR (p := 845) (by decide +kernel : decode (cd 194) 34 = .ok (.getfield 16, 3)) (by decide +kernel) (by decide +kernel)
  · intro d a b c L M Q; exact Wp_sim (by decide +kernel : decode (cd 194) 37 = .ok (.iconst 0, 1)) rfl rfl
  · intro d a b c d2 L M Q; exact Wp_sim (by decide +kernel : decode (cd 194) 38 = .ok (.bipush 51, 2)) rfl rfl
  · intro d a b c d2 e L M Q; exact q_invS (pz := 984) (n := 5) (m := 6) (As := [.ref e, .int d2, .ref c, .int b, .int a]) (rest := []) (by decide +kernel : decode (cd 194) 40 = .ok (.invokestatic 137, 3)) (by decide +kernel) (by decide +kernel) (by decide +kernel) rfl rfl (Nat.le_of_ble_eq_true rfl) (Nat.le_of_ble_eq_true rfl) rfl
  · intro d x L M Q; exact Wp_sim (by decide +kernel : decode (cd 194) 43 = .ok (.aload_n 0, 1)) rfl rfl
  · intro d a x L M Q; exact Wp_sim (by decide +kernel : decode (cd 194) 44 = .ok (.aload_n 0, 1)) rfl rfl
  · intro d a b L M Q; exact q_getR (p := 849) (by decide +kernel : decode (cd 194) 45 = .ok (.getfield 25, 3)) (by decide +kernel) (by decide +kernel)
  · intro d a b L M Q; exact Wp_sim (by decide +kernel : decode (cd 194) 48 = .ok (.bipush 52, 2)) rfl rfl
  · intro d a b c v0 x L M Q; exact Wp_sim (by decide +kernel : decode (cd 194) 50 = .ok (.iload_n 1, 1)) rfl rfl
  · intro d a b c d2 L M Q; exact Wp_sim (by decide +kernel : decode (cd 194) 51 = .ok (.imul , 1)) rfl rfl
  · intro d a b c L M Q; exact Wp_sim (by decide +kernel : decode (cd 194) 52 = .ok (.bipush 51, 2)) rfl rfl
  · intro d a b c d2 L M Q; exact Wp_sim (by decide +kernel : decode (cd 194) 54 = .ok (.iadd , 1)) rfl rfl
  · intro d a b c L M Q; exact q_ald (by decide +kernel : decode (cd 194) 55 = .ok (.iaload , 1))
  · intro d a b L M Q; exact Wp_sim (by decide +kernel : decode (cd 194) 56 = .ok (.i2l , 1)) rfl rfl
  · intro d a b L M Q; exact q_putJ (p := 851) (by decide +kernel : decode (cd 194) 57 = .ok (.putfield 237, 3)) (by decide +kernel) (by decide +kernel)
  · intro d x L M Q; exact Wp_sim (by decide +kernel : decode (cd 194) 60 = .ok (.aload_n 0, 1)) rfl rfl
  · intro d a L M Q; exact Wp_sim (by decide +kernel : decode (cd 194) 61 = .ok (.iconst 0, 1)) rfl rfl
  · intro d a b L M Q; exact q_putI (p := 848) (by decide +kernel : decode (cd 194) 62 = .ok (.putfield 64, 3)) (by decide +kernel) (by decide +kernel)
  · intro d L M Q; exact Wp_sim (by decide +kernel : decode (cd 194) 65 = .ok (.iconst 1, 1)) rfl rfl
  · intro d a L M Q; exact q_iret (by decide +kernel : decode (cd 194) 66 = .ok (.ireturn , 1)) (by decide +kernel)

/- 195: java.lang.Integer.bitCount -/
set_option maxRecDepth 10000 in
theorem e195 : (∀ (d : Nat) (x : Int32) (L : List Value) (M : Mem) (Q : Option Value → Mem → Prop), Wp d 195 0 (.int x :: L) [] M Q ↔ Wp d 195 1 (.int x :: L) [.int x] M Q) ∧
    (∀ (d : Nat) (a : Int32) (x : Int32) (L : List Value) (M : Mem) (Q : Option Value → Mem → Prop), Wp d 195 1 (.int x :: L) [.int a] M Q ↔ Wp d 195 2 (.int x :: L) [.int x, .int a] M Q) ∧
    (∀ (d : Nat) (a : Int32) (b : Int32) (L : List Value) (M : Mem) (Q : Option Value → Mem → Prop), Wp d 195 2 L [.int a, .int b] M Q ↔ Wp d 195 3 L [.int 1, .int a, .int b] M Q) ∧
    (∀ (d : Nat) (a : Int32) (b : Int32) (c : Int32) (L : List Value) (M : Mem) (Q : Option Value → Mem → Prop), Wp d 195 3 L [.int a, .int b, .int c] M Q ↔ Wp d 195 4 L [.int ((b.toUInt32 >>> (a.toUInt32 &&& Int32.toUInt32 31)).toInt32), .int c] M Q) ∧
    (∀ (d : Nat) (a : Int32) (b : Int32) (L : List Value) (M : Mem) (Q : Option Value → Mem → Prop), Wp d 195 4 L [.int a, .int b] M Q ↔ Wp d 195 7 L [.int 1431655765, .int a, .int b] M Q) ∧
    (∀ (d : Nat) (a : Int32) (b : Int32) (c : Int32) (L : List Value) (M : Mem) (Q : Option Value → Mem → Prop), Wp d 195 7 L [.int a, .int b, .int c] M Q ↔ Wp d 195 8 L [.int (b &&& a), .int c] M Q) ∧
    (∀ (d : Nat) (a : Int32) (b : Int32) (L : List Value) (M : Mem) (Q : Option Value → Mem → Prop), Wp d 195 8 L [.int a, .int b] M Q ↔ Wp d 195 9 L [.int (b - a)] M Q) ∧
    (∀ (d : Nat) (a : Int32) (x : Value) (L : List Value) (M : Mem) (Q : Option Value → Mem → Prop), Wp d 195 9 (x :: L) [.int a] M Q ↔ Wp d 195 10 (.int a :: L) [] M Q) ∧
    (∀ (d : Nat) (x : Int32) (L : List Value) (M : Mem) (Q : Option Value → Mem → Prop), Wp d 195 10 (.int x :: L) [] M Q ↔ Wp d 195 11 (.int x :: L) [.int x] M Q) ∧
    (∀ (d : Nat) (a : Int32) (L : List Value) (M : Mem) (Q : Option Value → Mem → Prop), Wp d 195 11 L [.int a] M Q ↔ Wp d 195 14 L [.int 858993459, .int a] M Q) ∧
    (∀ (d : Nat) (a : Int32) (b : Int32) (L : List Value) (M : Mem) (Q : Option Value → Mem → Prop), Wp d 195 14 L [.int a, .int b] M Q ↔ Wp d 195 15 L [.int (b &&& a)] M Q) ∧
    (∀ (d : Nat) (a : Int32) (x : Int32) (L : List Value) (M : Mem) (Q : Option Value → Mem → Prop), Wp d 195 15 (.int x :: L) [.int a] M Q ↔ Wp d 195 16 (.int x :: L) [.int x, .int a] M Q) ∧
    (∀ (d : Nat) (a : Int32) (b : Int32) (L : List Value) (M : Mem) (Q : Option Value → Mem → Prop), Wp d 195 16 L [.int a, .int b] M Q ↔ Wp d 195 17 L [.int 2, .int a, .int b] M Q) ∧
    (∀ (d : Nat) (a : Int32) (b : Int32) (c : Int32) (L : List Value) (M : Mem) (Q : Option Value → Mem → Prop), Wp d 195 17 L [.int a, .int b, .int c] M Q ↔ Wp d 195 18 L [.int ((b.toUInt32 >>> (a.toUInt32 &&& Int32.toUInt32 31)).toInt32), .int c] M Q) ∧
    (∀ (d : Nat) (a : Int32) (b : Int32) (L : List Value) (M : Mem) (Q : Option Value → Mem → Prop), Wp d 195 18 L [.int a, .int b] M Q ↔ Wp d 195 21 L [.int 858993459, .int a, .int b] M Q) ∧
    (∀ (d : Nat) (a : Int32) (b : Int32) (c : Int32) (L : List Value) (M : Mem) (Q : Option Value → Mem → Prop), Wp d 195 21 L [.int a, .int b, .int c] M Q ↔ Wp d 195 22 L [.int (b &&& a), .int c] M Q) ∧
    (∀ (d : Nat) (a : Int32) (b : Int32) (L : List Value) (M : Mem) (Q : Option Value → Mem → Prop), Wp d 195 22 L [.int a, .int b] M Q ↔ Wp d 195 23 L [.int (b + a)] M Q) ∧
    (∀ (d : Nat) (a : Int32) (x : Value) (L : List Value) (M : Mem) (Q : Option Value → Mem → Prop), Wp d 195 23 (x :: L) [.int a] M Q ↔ Wp d 195 24 (.int a :: L) [] M Q) ∧
    (∀ (d : Nat) (x : Int32) (L : List Value) (M : Mem) (Q : Option Value → Mem → Prop), Wp d 195 24 (.int x :: L) [] M Q ↔ Wp d 195 25 (.int x :: L) [.int x] M Q) ∧
    (∀ (d : Nat) (a : Int32) (x : Int32) (L : List Value) (M : Mem) (Q : Option Value → Mem → Prop), Wp d 195 25 (.int x :: L) [.int a] M Q ↔ Wp d 195 26 (.int x :: L) [.int x, .int a] M Q) ∧
    (∀ (d : Nat) (a : Int32) (b : Int32) (L : List Value) (M : Mem) (Q : Option Value → Mem → Prop), Wp d 195 26 L [.int a, .int b] M Q ↔ Wp d 195 27 L [.int 4, .int a, .int b] M Q) ∧
    (∀ (d : Nat) (a : Int32) (b : Int32) (c : Int32) (L : List Value) (M : Mem) (Q : Option Value → Mem → Prop), Wp d 195 27 L [.int a, .int b, .int c] M Q ↔ Wp d 195 28 L [.int ((b.toUInt32 >>> (a.toUInt32 &&& Int32.toUInt32 31)).toInt32), .int c] M Q) ∧
    (∀ (d : Nat) (a : Int32) (b : Int32) (L : List Value) (M : Mem) (Q : Option Value → Mem → Prop), Wp d 195 28 L [.int a, .int b] M Q ↔ Wp d 195 29 L [.int (b + a)] M Q) ∧
    (∀ (d : Nat) (a : Int32) (L : List Value) (M : Mem) (Q : Option Value → Mem → Prop), Wp d 195 29 L [.int a] M Q ↔ Wp d 195 32 L [.int 252645135, .int a] M Q) ∧
    (∀ (d : Nat) (a : Int32) (b : Int32) (L : List Value) (M : Mem) (Q : Option Value → Mem → Prop), Wp d 195 32 L [.int a, .int b] M Q ↔ Wp d 195 33 L [.int (b &&& a)] M Q) ∧
    (∀ (d : Nat) (a : Int32) (x : Value) (L : List Value) (M : Mem) (Q : Option Value → Mem → Prop), Wp d 195 33 (x :: L) [.int a] M Q ↔ Wp d 195 34 (.int a :: L) [] M Q) ∧
    (∀ (d : Nat) (x : Int32) (L : List Value) (M : Mem) (Q : Option Value → Mem → Prop), Wp d 195 34 (.int x :: L) [] M Q ↔ Wp d 195 35 (.int x :: L) [.int x] M Q) ∧
    (∀ (d : Nat) (a : Int32) (x : Int32) (L : List Value) (M : Mem) (Q : Option Value → Mem → Prop), Wp d 195 35 (.int x :: L) [.int a] M Q ↔ Wp d 195 36 (.int x :: L) [.int x, .int a] M Q) ∧
    (∀ (d : Nat) (a : Int32) (b : Int32) (L : List Value) (M : Mem) (Q : Option Value → Mem → Prop), Wp d 195 36 L [.int a, .int b] M Q ↔ Wp d 195 38 L [.int 8, .int a, .int b] M Q) ∧
    (∀ (d : Nat) (a : Int32) (b : Int32) (c : Int32) (L : List Value) (M : Mem) (Q : Option Value → Mem → Prop), Wp d 195 38 L [.int a, .int b, .int c] M Q ↔ Wp d 195 39 L [.int ((b.toUInt32 >>> (a.toUInt32 &&& Int32.toUInt32 31)).toInt32), .int c] M Q) ∧
    (∀ (d : Nat) (a : Int32) (b : Int32) (L : List Value) (M : Mem) (Q : Option Value → Mem → Prop), Wp d 195 39 L [.int a, .int b] M Q ↔ Wp d 195 40 L [.int (b + a)] M Q) ∧
    (∀ (d : Nat) (a : Int32) (x : Value) (L : List Value) (M : Mem) (Q : Option Value → Mem → Prop), Wp d 195 40 (x :: L) [.int a] M Q ↔ Wp d 195 41 (.int a :: L) [] M Q) ∧
    (∀ (d : Nat) (x : Int32) (L : List Value) (M : Mem) (Q : Option Value → Mem → Prop), Wp d 195 41 (.int x :: L) [] M Q ↔ Wp d 195 42 (.int x :: L) [.int x] M Q) ∧
    (∀ (d : Nat) (a : Int32) (x : Int32) (L : List Value) (M : Mem) (Q : Option Value → Mem → Prop), Wp d 195 42 (.int x :: L) [.int a] M Q ↔ Wp d 195 43 (.int x :: L) [.int x, .int a] M Q) ∧
    (∀ (d : Nat) (a : Int32) (b : Int32) (L : List Value) (M : Mem) (Q : Option Value → Mem → Prop), Wp d 195 43 L [.int a, .int b] M Q ↔ Wp d 195 45 L [.int 16, .int a, .int b] M Q) ∧
    (∀ (d : Nat) (a : Int32) (b : Int32) (c : Int32) (L : List Value) (M : Mem) (Q : Option Value → Mem → Prop), Wp d 195 45 L [.int a, .int b, .int c] M Q ↔ Wp d 195 46 L [.int ((b.toUInt32 >>> (a.toUInt32 &&& Int32.toUInt32 31)).toInt32), .int c] M Q) ∧
    (∀ (d : Nat) (a : Int32) (b : Int32) (L : List Value) (M : Mem) (Q : Option Value → Mem → Prop), Wp d 195 46 L [.int a, .int b] M Q ↔ Wp d 195 47 L [.int (b + a)] M Q) ∧
    (∀ (d : Nat) (a : Int32) (x : Value) (L : List Value) (M : Mem) (Q : Option Value → Mem → Prop), Wp d 195 47 (x :: L) [.int a] M Q ↔ Wp d 195 48 (.int a :: L) [] M Q) ∧
    (∀ (d : Nat) (x : Int32) (L : List Value) (M : Mem) (Q : Option Value → Mem → Prop), Wp d 195 48 (.int x :: L) [] M Q ↔ Wp d 195 49 (.int x :: L) [.int x] M Q) ∧
    (∀ (d : Nat) (a : Int32) (L : List Value) (M : Mem) (Q : Option Value → Mem → Prop), Wp d 195 49 L [.int a] M Q ↔ Wp d 195 51 L [.int 63, .int a] M Q) ∧
    (∀ (d : Nat) (a : Int32) (b : Int32) (L : List Value) (M : Mem) (Q : Option Value → Mem → Prop), Wp d 195 51 L [.int a, .int b] M Q ↔ Wp d 195 52 L [.int (b &&& a)] M Q) ∧
    (∀ (d : Nat) (a : Int32) (L : List Value) (M : Mem) (Q : Option Value → Mem → Prop), Wp d 195 52 L [.int a] M Q ↔ Q (some (.int a)) M) := by
  refine ⟨?_, ?_, ?_, ?_, ?_, ?_, ?_, ?_, ?_, ?_, ?_, ?_, ?_, ?_, ?_, ?_, ?_, ?_, ?_, ?_, ?_, ?_, ?_, ?_, ?_, ?_, ?_, ?_, ?_, ?_, ?_, ?_, ?_, ?_, ?_, ?_, ?_, ?_, ?_, ?_, ?_, ?_⟩
  · intro d x L M Q; exact Wp_sim (by decide +kernel : decode (cd 195) 0 = .ok (.iload_n 0, 1)) rfl rfl
  · intro d a x L M Q; exact Wp_sim (by decide +kernel : decode (cd 195) 1 = .ok (.iload_n 0, 1)) rfl rfl
  · intro d a b L M Q; exact Wp_sim (by decide +kernel : decode (cd 195) 2 = .ok (.iconst 1, 1)) rfl rfl
  · intro d a b c L M Q; exact Wp_sim (by decide +kernel : decode (cd 195) 3 = .ok (.iushr , 1)) rfl rfl
  · intro d a b L M Q; exact q_ldcw (p := 587) (by decide +kernel : decode (cd 195) 4 = .ok (.ldc_w 265, 3)) (by decide +kernel)
  · intro d a b c L M Q; exact Wp_sim (by decide +kernel : decode (cd 195) 7 = .ok (.iand , 1)) rfl rfl
  · intro d a b L M Q; exact Wp_sim (by decide +kernel : decode (cd 195) 8 = .ok (.isub , 1)) rfl rfl
  · intro d a x L M Q; exact Wp_sim (by decide +kernel : decode (cd 195) 9 = .ok (.istore_n 0, 1)) rfl rfl
  · intro d x L M Q; exact Wp_sim (by decide +kernel : decode (cd 195) 10 = .ok (.iload_n 0, 1)) rfl rfl
  · intro d a L M Q; exact q_ldcw (p := 588) (by decide +kernel : decode (cd 195) 11 = .ok (.ldc_w 266, 3)) (by decide +kernel)
  · intro d a b L M Q; exact Wp_sim (by decide +kernel : decode (cd 195) 14 = .ok (.iand , 1)) rfl rfl
  · intro d a x L M Q; exact Wp_sim (by decide +kernel : decode (cd 195) 15 = .ok (.iload_n 0, 1)) rfl rfl
  · intro d a b L M Q; exact Wp_sim (by decide +kernel : decode (cd 195) 16 = .ok (.iconst 2, 1)) rfl rfl
  · intro d a b c L M Q; exact Wp_sim (by decide +kernel : decode (cd 195) 17 = .ok (.iushr , 1)) rfl rfl
  · intro d a b L M Q; exact q_ldcw (p := 588) (by decide +kernel : decode (cd 195) 18 = .ok (.ldc_w 266, 3)) (by decide +kernel)
  · intro d a b c L M Q; exact Wp_sim (by decide +kernel : decode (cd 195) 21 = .ok (.iand , 1)) rfl rfl
  · intro d a b L M Q; exact Wp_sim (by decide +kernel : decode (cd 195) 22 = .ok (.iadd , 1)) rfl rfl
  · intro d a x L M Q; exact Wp_sim (by decide +kernel : decode (cd 195) 23 = .ok (.istore_n 0, 1)) rfl rfl
  · intro d x L M Q; exact Wp_sim (by decide +kernel : decode (cd 195) 24 = .ok (.iload_n 0, 1)) rfl rfl
  · intro d a x L M Q; exact Wp_sim (by decide +kernel : decode (cd 195) 25 = .ok (.iload_n 0, 1)) rfl rfl
  · intro d a b L M Q; exact Wp_sim (by decide +kernel : decode (cd 195) 26 = .ok (.iconst 4, 1)) rfl rfl
  · intro d a b c L M Q; exact Wp_sim (by decide +kernel : decode (cd 195) 27 = .ok (.iushr , 1)) rfl rfl
  · intro d a b L M Q; exact Wp_sim (by decide +kernel : decode (cd 195) 28 = .ok (.iadd , 1)) rfl rfl
  · intro d a L M Q; exact q_ldcw (p := 589) (by decide +kernel : decode (cd 195) 29 = .ok (.ldc_w 267, 3)) (by decide +kernel)
  · intro d a b L M Q; exact Wp_sim (by decide +kernel : decode (cd 195) 32 = .ok (.iand , 1)) rfl rfl
  · intro d a x L M Q; exact Wp_sim (by decide +kernel : decode (cd 195) 33 = .ok (.istore_n 0, 1)) rfl rfl
  · intro d x L M Q; exact Wp_sim (by decide +kernel : decode (cd 195) 34 = .ok (.iload_n 0, 1)) rfl rfl
  · intro d a x L M Q; exact Wp_sim (by decide +kernel : decode (cd 195) 35 = .ok (.iload_n 0, 1)) rfl rfl
  · intro d a b L M Q; exact Wp_sim (by decide +kernel : decode (cd 195) 36 = .ok (.bipush 8, 2)) rfl rfl
  · intro d a b c L M Q; exact Wp_sim (by decide +kernel : decode (cd 195) 38 = .ok (.iushr , 1)) rfl rfl
  · intro d a b L M Q; exact Wp_sim (by decide +kernel : decode (cd 195) 39 = .ok (.iadd , 1)) rfl rfl
  · intro d a x L M Q; exact Wp_sim (by decide +kernel : decode (cd 195) 40 = .ok (.istore_n 0, 1)) rfl rfl
  · intro d x L M Q; exact Wp_sim (by decide +kernel : decode (cd 195) 41 = .ok (.iload_n 0, 1)) rfl rfl
  · intro d a x L M Q; exact Wp_sim (by decide +kernel : decode (cd 195) 42 = .ok (.iload_n 0, 1)) rfl rfl
  · intro d a b L M Q; exact Wp_sim (by decide +kernel : decode (cd 195) 43 = .ok (.bipush 16, 2)) rfl rfl
  · intro d a b c L M Q; exact Wp_sim (by decide +kernel : decode (cd 195) 45 = .ok (.iushr , 1)) rfl rfl
  · intro d a b L M Q; exact Wp_sim (by decide +kernel : decode (cd 195) 46 = .ok (.iadd , 1)) rfl rfl
  · intro d a x L M Q; exact Wp_sim (by decide +kernel : decode (cd 195) 47 = .ok (.istore_n 0, 1)) rfl rfl
  · intro d x L M Q; exact Wp_sim (by decide +kernel : decode (cd 195) 48 = .ok (.iload_n 0, 1)) rfl rfl
  · intro d a L M Q; exact Wp_sim (by decide +kernel : decode (cd 195) 49 = .ok (.bipush 63, 2)) rfl rfl
  · intro d a b L M Q; exact Wp_sim (by decide +kernel : decode (cd 195) 51 = .ok (.iand , 1)) rfl rfl
  · intro d a L M Q; exact q_iret (by decide +kernel : decode (cd 195) 52 = .ok (.ireturn , 1)) (by decide +kernel)

/- 196: java.util.Arrays.fill -/
set_option maxRecDepth 10000 in
theorem e196 : (∀ (d : Nat) (L : List Value) (M : Mem) (Q : Option Value → Mem → Prop), Wp d 196 0 L [] M Q ↔ Wp d 196 1 L [.int 0] M Q) ∧
    (∀ (d : Nat) (a : Int32) (v0 : Value) (v1 : Value) (x : Value) (L : List Value) (M : Mem) (Q : Option Value → Mem → Prop), Wp d 196 1 (v0 :: v1 :: x :: L) [.int a] M Q ↔ Wp d 196 2 (v0 :: clr v1 :: .int a :: L) [] M Q) ∧
    (∀ (d : Nat) (x : Nat) (L : List Value) (M : Mem) (Q : Option Value → Mem → Prop), Wp d 196 2 (.ref x :: L) [] M Q ↔ Wp d 196 3 (.ref x :: L) [.ref x] M Q) ∧
    (∀ (d : Nat) (a : Nat) (L : List Value) (M : Mem) (Q : Option Value → Mem → Prop), Wp d 196 3 L [.ref a] M Q ↔ ((isR a = true ∨ isK a 14 = true) ∧ Wp d 196 4 L [.int (nI (lnm M a))] M Q)) ∧
    (∀ (d : Nat) (a : Int32) (v0 : Value) (v1 : Value) (v2 : Value) (x : Value) (L : List Value) (M : Mem) (Q : Option Value → Mem → Prop), Wp d 196 4 (v0 :: v1 :: v2 :: x :: L) [.int a] M Q ↔ Wp d 196 5 (v0 :: v1 :: clr v2 :: .int a :: L) [] M Q) ∧
    (∀ (d : Nat) (a : Int32) (v0 : Value) (v1 : Value) (v2 : Value) (x : Int32) (L : List Value) (M : Mem) (Q : Option Value → Mem → Prop), Wp d 196 6 (v0 :: v1 :: v2 :: .int x :: L) [.int a] M Q ↔ Wp d 196 7 (v0 :: v1 :: v2 :: .int x :: L) [.int x, .int a] M Q) ∧
    (∀ (d : Nat) (a : Int32) (b : Int32) (L : List Value) (M : Mem) (Q : Option Value → Mem → Prop), Wp d 196 7 L [.int a, .int b] M Q ↔ (if b < a then Wp d 196 10 L [] M Q else Wp d 196 20 L [] M Q)) ∧
    (∀ (d : Nat) (x : Nat) (L : List Value) (M : Mem) (Q : Option Value → Mem → Prop), Wp d 196 10 (.ref x :: L) [] M Q ↔ Wp d 196 11 (.ref x :: L) [.ref x] M Q) ∧
    (∀ (d : Nat) (a : Nat) (v0 : Value) (v1 : Value) (x : Int32) (L : List Value) (M : Mem) (Q : Option Value → Mem → Prop), Wp d 196 11 (v0 :: v1 :: .int x :: L) [.ref a] M Q ↔ Wp d 196 12 (v0 :: v1 :: .int x :: L) [.int x, .ref a] M Q) ∧
    (∀ (d : Nat) (a : Int32) (b : Nat) (v0 : Value) (x : Int32) (L : List Value) (M : Mem) (Q : Option Value → Mem → Prop), Wp d 196 12 (v0 :: .int x :: L) [.int a, .ref b] M Q ↔ Wp d 196 13 (v0 :: .int x :: L) [.int x, .int a, .ref b] M Q) ∧
    (∀ (d : Nat) (a : Int32) (b : Int32) (c : Nat) (L : List Value) (M : Mem) (Q : Option Value → Mem → Prop), Wp d 196 13 L [.int a, .int b, .ref c] M Q ↔ ((isK c 13 = true ∧ inr b (lnm M c)) ∧ Wp d 196 14 L [] (up2 M c b.toNatClampNeg a) Q)) ∧
    (∀ (d : Nat) (v0 : Value) (v1 : Value) (x : Int32) (L : List Value) (M : Mem) (Q : Option Value → Mem → Prop), Wp d 196 14 (v0 :: v1 :: .int x :: L) [] M Q ↔ Wp d 196 17 (v0 :: clr v1 :: .int (x + 1) :: L) [] M Q) ∧
    (∀ (d : Nat) (L : List Value) (M : Mem) (Q : Option Value → Mem → Prop), Wp d 196 17 L [] M Q ↔ Wp d 196 5 L [] M Q) ∧
    (∀ (d : Nat) (L : List Value) (M : Mem) (Q : Option Value → Mem → Prop), Wp d 196 20 L [] M Q ↔ Q none M) := by
  refine ⟨?_, ?_, ?_, ?_, ?_, ?_, ?_, ?_, ?_, ?_, ?_, ?_, ?_, ?_⟩
  · intro d L M Q; exact Wp_sim (by decide +kernel : decode (cd 196) 0 = .ok (.iconst 0, 1)) rfl rfl
  · intro d a v0 v1 x L M Q; exact Wp_sim (by decide +kernel : decode (cd 196) 1 = .ok (.istore_n 2, 1)) rfl rfl
  · intro d x L M Q; exact Wp_sim (by decide +kernel : decode (cd 196) 2 = .ok (.aload_n 0, 1)) rfl rfl
  · intro d a L M Q; exact q_aln (by decide +kernel : decode (cd 196) 3 = .ok (.arraylength , 1))
  · intro d a v0 v1 v2 x L M Q; exact Wp_sim (by decide +kernel : decode (cd 196) 4 = .ok (.istore_n 3, 1)) rfl rfl
  · intro d a v0 v1 v2 x L M Q; exact Wp_sim (by decide +kernel : decode (cd 196) 6 = .ok (.iload_n 3, 1)) rfl rfl
  · intro d a b L M Q; exact q_ige (by decide +kernel : decode (cd 196) 7 = .ok (.if_icmp .ge 13, 3)) (by decide)
  · intro d x L M Q; exact Wp_sim (by decide +kernel : decode (cd 196) 10 = .ok (.aload_n 0, 1)) rfl rfl
  · intro d a v0 v1 x L M Q; exact Wp_sim (by decide +kernel : decode (cd 196) 11 = .ok (.iload_n 2, 1)) rfl rfl
  · intro d a b v0 x L M Q; exact Wp_sim (by decide +kernel : decode (cd 196) 12 = .ok (.iload_n 1, 1)) rfl rfl
  · intro d a b c L M Q; exact q_ast (by decide +kernel : decode (cd 196) 13 = .ok (.iastore , 1))
  · intro d v0 v1 x L M Q; exact Wp_sim (by decide +kernel : decode (cd 196) 14 = .ok (.iinc 2 1, 3)) rfl rfl
  · intro d L M Q; exact q_goto (by decide +kernel : decode (cd 196) 17 = .ok (.goto (-12), 3)) (by decide)
  · intro d L M Q; exact q_vret (by decide +kernel : decode (cd 196) 20 = .ok (.return_ , 1)) (by decide +kernel)
theorem h196_5 : (∀ (d : Nat) (v0 : Value) (v1 : Value) (x : Int32) (L : List Value) (M : Mem) (Q : Option Value → Mem → Prop), Wp d 196 5 (v0 :: v1 :: .int x :: L) [] M Q ↔ Wp d 196 6 (v0 :: v1 :: .int x :: L) [.int x] M Q) := by
  intro d v0 v1 x L M Q; exact Wp_sim (by decide +kernel : decode (cd 196) 5 = .ok (.iload_n 2, 1)) rfl rfl
