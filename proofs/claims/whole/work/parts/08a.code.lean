/-! part 08a: the instructions of the methods 0 to 30 -/
/- 0: Book.add -/
set_option maxRecDepth 10000 in
theorem e0 : (∀ (d : Nat) (x : Nat) (L : List Value) (M : Mem) (Q : Option Value → Mem → Prop), Wp d 0 0 (.ref x :: L) [] M Q ↔ Wp d 0 1 (.ref x :: L) [.ref x] M Q) ∧
    (∀ (d : Nat) (a : Nat) (L : List Value) (M : Mem) (Q : Option Value → Mem → Prop), Wp d 0 1 L [.ref a] M Q ↔ (isK a 0 = true ∧ Wp d 0 4 L [.int (M a 2)] M Q)) ∧
    (∀ (d : Nat) (a : Int32) (L : List Value) (M : Mem) (Q : Option Value → Mem → Prop), Wp d 0 4 L [.int a] M Q ↔ (if a < 0 then Wp d 0 16 L [] M Q else Wp d 0 7 L [] M Q)) ∧
    (∀ (d : Nat) (x : Nat) (L : List Value) (M : Mem) (Q : Option Value → Mem → Prop), Wp d 0 7 (.ref x :: L) [] M Q ↔ Wp d 0 8 (.ref x :: L) [.ref x] M Q) ∧
    (∀ (d : Nat) (a : Nat) (L : List Value) (M : Mem) (Q : Option Value → Mem → Prop), Wp d 0 8 L [.ref a] M Q ↔ (isK a 0 = true ∧ Wp d 0 11 L [.int (M a 2)] M Q)) ∧
    (∀ (d : Nat) (a : Int32) (L : List Value) (M : Mem) (Q : Option Value → Mem → Prop), Wp d 0 11 L [.int a] M Q ↔ Wp d 0 13 L [.int 15, .int a] M Q) ∧
    (∀ (d : Nat) (a : Int32) (b : Int32) (L : List Value) (M : Mem) (Q : Option Value → Mem → Prop), Wp d 0 13 L [.int a, .int b] M Q ↔ (if b < a then Wp d 0 17 L [] M Q else Wp d 0 16 L [] M Q)) ∧
    (∀ (d : Nat) (L : List Value) (M : Mem) (Q : Option Value → Mem → Prop), Wp d 0 16 L [] M Q ↔ Q none M) ∧
    (∀ (d : Nat) (x : Nat) (L : List Value) (M : Mem) (Q : Option Value → Mem → Prop), Wp d 0 17 (.ref x :: L) [] M Q ↔ Wp d 0 18 (.ref x :: L) [.ref x] M Q) ∧
    (∀ (d : Nat) (a : Nat) (L : List Value) (M : Mem) (Q : Option Value → Mem → Prop), Wp d 0 18 L [.ref a] M Q ↔ (isK a 0 = true ∧ Wp d 0 21 L [.ref (rt a 0)] M Q)) ∧
    (∀ (d : Nat) (a : Nat) (x : Nat) (L : List Value) (M : Mem) (Q : Option Value → Mem → Prop), Wp d 0 21 (.ref x :: L) [.ref a] M Q ↔ Wp d 0 22 (.ref x :: L) [.ref x, .ref a] M Q) ∧
    (∀ (d : Nat) (a : Nat) (b : Nat) (L : List Value) (M : Mem) (Q : Option Value → Mem → Prop), Wp d 0 22 L [.ref a, .ref b] M Q ↔ (isK a 0 = true ∧ Wp d 0 25 L [.int (M a 2), .ref b] M Q)) ∧
    (∀ (d : Nat) (a : Int32) (b : Nat) (v0 : Value) (x : Int32) (L : List Value) (M : Mem) (Q : Option Value → Mem → Prop), Wp d 0 25 (v0 :: .int x :: L) [.int a, .ref b] M Q ↔ Wp d 0 26 (v0 :: .int x :: L) [.int x, .int a, .ref b] M Q) ∧
    (∀ (d : Nat) (a : Int32) (b : Int32) (c : Nat) (L : List Value) (M : Mem) (Q : Option Value → Mem → Prop), Wp d 0 26 L [.int a, .int b, .ref c] M Q ↔ ((isK c 13 = true ∧ inr b (lnm M c)) ∧ Wp d 0 27 L [] (up2 M c b.toNatClampNeg a) Q)) ∧
    (∀ (d : Nat) (x : Nat) (L : List Value) (M : Mem) (Q : Option Value → Mem → Prop), Wp d 0 27 (.ref x :: L) [] M Q ↔ Wp d 0 28 (.ref x :: L) [.ref x] M Q) ∧
    (∀ (d : Nat) (a : Nat) (L : List Value) (M : Mem) (Q : Option Value → Mem → Prop), Wp d 0 28 L [.ref a] M Q ↔ (isK a 0 = true ∧ Wp d 0 31 L [.ref (rt a 1)] M Q)) ∧
    (∀ (d : Nat) (a : Nat) (x : Nat) (L : List Value) (M : Mem) (Q : Option Value → Mem → Prop), Wp d 0 31 (.ref x :: L) [.ref a] M Q ↔ Wp d 0 32 (.ref x :: L) [.ref x, .ref a] M Q) ∧
    (∀ (d : Nat) (a : Nat) (b : Nat) (L : List Value) (M : Mem) (Q : Option Value → Mem → Prop), Wp d 0 32 L [.ref a, .ref b] M Q ↔ (isK a 0 = true ∧ Wp d 0 35 L [.int (M a 2), .ref b] M Q)) ∧
    (∀ (d : Nat) (a : Int32) (b : Nat) (v0 : Value) (v1 : Value) (x : Int32) (L : List Value) (M : Mem) (Q : Option Value → Mem → Prop), Wp d 0 35 (v0 :: v1 :: .int x :: L) [.int a, .ref b] M Q ↔ Wp d 0 36 (v0 :: v1 :: .int x :: L) [.int x, .int a, .ref b] M Q) ∧
    (∀ (d : Nat) (a : Int32) (b : Int32) (c : Nat) (L : List Value) (M : Mem) (Q : Option Value → Mem → Prop), Wp d 0 36 L [.int a, .int b, .ref c] M Q ↔ ((isK c 13 = true ∧ inr b (lnm M c)) ∧ Wp d 0 37 L [] (up2 M c b.toNatClampNeg a) Q)) ∧
    (∀ (d : Nat) (x : Nat) (L : List Value) (M : Mem) (Q : Option Value → Mem → Prop), Wp d 0 37 (.ref x :: L) [] M Q ↔ Wp d 0 38 (.ref x :: L) [.ref x] M Q) ∧
    (∀ (d : Nat) (a : Nat) (L : List Value) (M : Mem) (Q : Option Value → Mem → Prop), Wp d 0 38 L [.ref a] M Q ↔ Wp d 0 39 L [.ref a, .ref a] M Q) ∧
    (∀ (d : Nat) (a : Nat) (b : Nat) (L : List Value) (M : Mem) (Q : Option Value → Mem → Prop), Wp d 0 39 L [.ref a, .ref b] M Q ↔ (isK a 0 = true ∧ Wp d 0 42 L [.int (M a 2), .ref b] M Q)) ∧
    (∀ (d : Nat) (a : Int32) (b : Nat) (L : List Value) (M : Mem) (Q : Option Value → Mem → Prop), Wp d 0 42 L [.int a, .ref b] M Q ↔ Wp d 0 43 L [.int 1, .int a, .ref b] M Q) ∧
    (∀ (d : Nat) (a : Int32) (b : Int32) (c : Nat) (L : List Value) (M : Mem) (Q : Option Value → Mem → Prop), Wp d 0 43 L [.int a, .int b, .ref c] M Q ↔ Wp d 0 44 L [.int (b + a), .ref c] M Q) ∧
    (∀ (d : Nat) (a : Int32) (b : Nat) (L : List Value) (M : Mem) (Q : Option Value → Mem → Prop), Wp d 0 44 L [.int a, .ref b] M Q ↔ (isK b 0 = true ∧ Wp d 0 47 L [] (up2 M b 2 a) Q)) ∧
    (∀ (d : Nat) (L : List Value) (M : Mem) (Q : Option Value → Mem → Prop), Wp d 0 47 L [] M Q ↔ Q none M) := by
  refine ⟨?_, ?_, ?_, ?_, ?_, ?_, ?_, ?_, ?_, ?_, ?_, ?_, ?_, ?_, ?_, ?_, ?_, ?_, ?_, ?_, ?_, ?_, ?_, ?_, ?_, ?_, ?_⟩
  · intro d x L M Q; exact Wp_sim (by decide +kernel : decode (cd 0) 0 = .ok (.aload_n 0, 1)) rfl rfl
  · intro d a L M Q; exact q_getI (p := 289) (by decide +kernel : decode (cd 0) 1 = .ok (.getfield 18, 3)) (by decide +kernel) (by decide +kernel)
  · intro d a L M Q; exact q_zlt (by decide +kernel : decode (cd 0) 4 = .ok (.ifCond .lt 12, 3)) (by decide)
  · intro d x L M Q; exact Wp_sim (by decide +kernel : decode (cd 0) 7 = .ok (.aload_n 0, 1)) rfl rfl
  · intro d a L M Q; exact q_getI (p := 289) (by decide +kernel : decode (cd 0) 8 = .ok (.getfield 18, 3)) (by decide +kernel) (by decide +kernel)
  · intro d a L M Q; exact Wp_sim (by decide +kernel : decode (cd 0) 11 = .ok (.bipush 15, 2)) rfl rfl
  · intro d a b L M Q; exact q_ilt (by decide +kernel : decode (cd 0) 13 = .ok (.if_icmp .lt 4, 3)) (by decide)
  · intro d L M Q; exact q_vret (by decide +kernel : decode (cd 0) 16 = .ok (.return_ , 1)) (by decide +kernel)
  · intro d x L M Q; exact Wp_sim (by decide +kernel : decode (cd 0) 17 = .ok (.aload_n 0, 1)) rfl rfl
  · intro d a L M Q; exact q_getR (p := 287) (by decide +kernel : decode (cd 0) 18 = .ok (.getfield 9, 3)) (by decide +kernel) (by decide +kernel)
  · intro d a x L M Q; exact Wp_sim (by decide +kernel : decode (cd 0) 21 = .ok (.aload_n 0, 1)) rfl rfl
  · intro d a b L M Q; exact q_getI (p := 289) (by decide +kernel : decode (cd 0) 22 = .ok (.getfield 18, 3)) (by decide +kernel) (by decide +kernel)
  · intro d a b v0 x L M Q; exact Wp_sim (by decide +kernel : decode (cd 0) 25 = .ok (.iload_n 1, 1)) rfl rfl
  · intro d a b c L M Q; exact q_ast (by decide +kernel : decode (cd 0) 26 = .ok (.iastore , 1))
  · intro d x L M Q; exact Wp_sim (by decide +kernel : decode (cd 0) 27 = .ok (.aload_n 0, 1)) rfl rfl
  · intro d a L M Q; exact q_getR (p := 288) (by decide +kernel : decode (cd 0) 28 = .ok (.getfield 15, 3)) (by decide +kernel) (by decide +kernel)
  · intro d a x L M Q; exact Wp_sim (by decide +kernel : decode (cd 0) 31 = .ok (.aload_n 0, 1)) rfl rfl
  · intro d a b L M Q; exact q_getI (p := 289) (by decide +kernel : decode (cd 0) 32 = .ok (.getfield 18, 3)) (by decide +kernel) (by decide +kernel)
  · intro d a b v0 v1 x L M Q; exact Wp_sim (by decide +kernel : decode (cd 0) 35 = .ok (.iload_n 2, 1)) rfl rfl
  · intro d a b c L M Q; exact q_ast (by decide +kernel : decode (cd 0) 36 = .ok (.iastore , 1))
  · intro d x L M Q; exact Wp_sim (by decide +kernel : decode (cd 0) 37 = .ok (.aload_n 0, 1)) rfl rfl
  · intro d a L M Q; exact Wp_sim (by decide +kernel : decode (cd 0) 38 = .ok (.dup , 1)) rfl rfl
  · intro d a b L M Q; exact q_getI (p := 289) (by decide +kernel : decode (cd 0) 39 = .ok (.getfield 18, 3)) (by decide +kernel) (by decide +kernel)
  · intro d a b L M Q; exact Wp_sim (by decide +kernel : decode (cd 0) 42 = .ok (.iconst 1, 1)) rfl rfl
  · intro d a b c L M Q; exact Wp_sim (by decide +kernel : decode (cd 0) 43 = .ok (.iadd , 1)) rfl rfl
  · intro d a b L M Q; exact q_putI (p := 289) (by decide +kernel : decode (cd 0) 44 = .ok (.putfield 18, 3)) (by decide +kernel) (by decide +kernel)
  · intro d L M Q; exact q_vret (by decide +kernel : decode (cd 0) 47 = .ok (.return_ , 1)) (by decide +kernel)

/- 1: Book.firstWrong -/
set_option maxRecDepth 10000 in
theorem e1 : (∀ (d : Nat) (L : List Value) (M : Mem) (Q : Option Value → Mem → Prop), Wp d 1 0 L [] M Q ↔ Wp d 1 1 L [.int 0] M Q) ∧
    (∀ (d : Nat) (a : Int32) (v0 : Value) (v1 : Value) (x : Value) (L : List Value) (M : Mem) (Q : Option Value → Mem → Prop), Wp d 1 1 (v0 :: v1 :: x :: L) [.int a] M Q ↔ Wp d 1 2 (v0 :: clr v1 :: .int a :: L) [] M Q) ∧
    (∀ (d : Nat) (a : Int32) (x : Nat) (L : List Value) (M : Mem) (Q : Option Value → Mem → Prop), Wp d 1 3 (.ref x :: L) [.int a] M Q ↔ Wp d 1 4 (.ref x :: L) [.ref x, .int a] M Q) ∧
    (∀ (d : Nat) (a : Nat) (b : Int32) (L : List Value) (M : Mem) (Q : Option Value → Mem → Prop), Wp d 1 4 L [.ref a, .int b] M Q ↔ (isK a 0 = true ∧ Wp d 1 7 L [.int (M a 2), .int b] M Q)) ∧
    (∀ (d : Nat) (a : Int32) (b : Int32) (L : List Value) (M : Mem) (Q : Option Value → Mem → Prop), Wp d 1 7 L [.int a, .int b] M Q ↔ (if b < a then Wp d 1 10 L [] M Q else Wp d 1 59 L [] M Q)) ∧
    (∀ (d : Nat) (v0 : Value) (v1 : Value) (x : Int32) (L : List Value) (M : Mem) (Q : Option Value → Mem → Prop), Wp d 1 10 (v0 :: v1 :: .int x :: L) [] M Q ↔ Wp d 1 11 (v0 :: v1 :: .int x :: L) [.int x] M Q) ∧
    (∀ (d : Nat) (a : Int32) (L : List Value) (M : Mem) (Q : Option Value → Mem → Prop), Wp d 1 11 L [.int a] M Q ↔ Wp d 1 13 L [.int 15, .int a] M Q) ∧
    (∀ (d : Nat) (a : Int32) (b : Int32) (L : List Value) (M : Mem) (Q : Option Value → Mem → Prop), Wp d 1 13 L [.int a, .int b] M Q ↔ (if b < a then Wp d 1 16 L [] M Q else Wp d 1 59 L [] M Q)) ∧
    (∀ (d : Nat) (x : Nat) (L : List Value) (M : Mem) (Q : Option Value → Mem → Prop), Wp d 1 16 (.ref x :: L) [] M Q ↔ Wp d 1 17 (.ref x :: L) [.ref x] M Q) ∧
    (∀ (d : Nat) (a : Nat) (L : List Value) (M : Mem) (Q : Option Value → Mem → Prop), Wp d 1 17 L [.ref a] M Q ↔ (isK a 0 = true ∧ Wp d 1 20 L [.ref (rt a 0)] M Q)) ∧
    (∀ (d : Nat) (a : Nat) (v0 : Value) (v1 : Value) (x : Int32) (L : List Value) (M : Mem) (Q : Option Value → Mem → Prop), Wp d 1 20 (v0 :: v1 :: .int x :: L) [.ref a] M Q ↔ Wp d 1 21 (v0 :: v1 :: .int x :: L) [.int x, .ref a] M Q) ∧
    (∀ (d : Nat) (a : Int32) (b : Nat) (L : List Value) (M : Mem) (Q : Option Value → Mem → Prop), Wp d 1 21 L [.int a, .ref b] M Q ↔ ((isR b = true ∧ inr a (lnm M b)) ∧ Wp d 1 22 L [.int (M b a.toNatClampNeg)] M Q)) ∧
    (∀ (d : Nat) (a : Int32) (v0 : Value) (v1 : Value) (v2 : Value) (x : Value) (L : List Value) (M : Mem) (Q : Option Value → Mem → Prop), Wp d 1 22 (v0 :: v1 :: v2 :: x :: L) [.int a] M Q ↔ Wp d 1 23 (v0 :: v1 :: clr v2 :: .int a :: L) [] M Q) ∧
    (∀ (d : Nat) (v0 : Value) (v1 : Value) (v2 : Value) (x : Int32) (L : List Value) (M : Mem) (Q : Option Value → Mem → Prop), Wp d 1 23 (v0 :: v1 :: v2 :: .int x :: L) [] M Q ↔ Wp d 1 24 (v0 :: v1 :: v2 :: .int x :: L) [.int x] M Q) ∧
    (∀ (d : Nat) (a : Int32) (L : List Value) (M : Mem) (Q : Option Value → Mem → Prop), Wp d 1 24 L [.int a] M Q ↔ (if a < 0 then Wp d 1 53 L [] M Q else Wp d 1 27 L [] M Q)) ∧
    (∀ (d : Nat) (v0 : Value) (v1 : Value) (v2 : Value) (x : Int32) (L : List Value) (M : Mem) (Q : Option Value → Mem → Prop), Wp d 1 27 (v0 :: v1 :: v2 :: .int x :: L) [] M Q ↔ Wp d 1 28 (v0 :: v1 :: v2 :: .int x :: L) [.int x] M Q) ∧
    (∀ (d : Nat) (a : Int32) (v0 : Value) (x : Nat) (L : List Value) (M : Mem) (Q : Option Value → Mem → Prop), Wp d 1 28 (v0 :: .ref x :: L) [.int a] M Q ↔ Wp d 1 29 (v0 :: .ref x :: L) [.ref x, .int a] M Q) ∧
    (∀ (d : Nat) (a : Nat) (b : Int32) (L : List Value) (M : Mem) (Q : Option Value → Mem → Prop), Wp d 1 29 L [.ref a, .int b] M Q ↔ (isK a 6 = true ∧ Wp d 1 32 L [.ref (rt a 0), .int b] M Q)) ∧
    (∀ (d : Nat) (a : Nat) (b : Int32) (L : List Value) (M : Mem) (Q : Option Value → Mem → Prop), Wp d 1 32 L [.ref a, .int b] M Q ↔ ((isR a = true ∨ isK a 14 = true) ∧ Wp d 1 33 L [.int (nI (lnm M a)), .int b] M Q)) ∧
    (∀ (d : Nat) (a : Int32) (b : Int32) (L : List Value) (M : Mem) (Q : Option Value → Mem → Prop), Wp d 1 33 L [.int a, .int b] M Q ↔ (if b < a then Wp d 1 36 L [] M Q else Wp d 1 53 L [] M Q)) ∧
    (∀ (d : Nat) (v0 : Value) (x : Nat) (L : List Value) (M : Mem) (Q : Option Value → Mem → Prop), Wp d 1 36 (v0 :: .ref x :: L) [] M Q ↔ Wp d 1 37 (v0 :: .ref x :: L) [.ref x] M Q) ∧
    (∀ (d : Nat) (a : Nat) (L : List Value) (M : Mem) (Q : Option Value → Mem → Prop), Wp d 1 37 L [.ref a] M Q ↔ (isK a 6 = true ∧ Wp d 1 40 L [.ref (rt a 0)] M Q)) ∧
    (∀ (d : Nat) (a : Nat) (v0 : Value) (v1 : Value) (v2 : Value) (x : Int32) (L : List Value) (M : Mem) (Q : Option Value → Mem → Prop), Wp d 1 40 (v0 :: v1 :: v2 :: .int x :: L) [.ref a] M Q ↔ Wp d 1 41 (v0 :: v1 :: v2 :: .int x :: L) [.int x, .ref a] M Q) ∧
    (∀ (d : Nat) (a : Int32) (b : Nat) (L : List Value) (M : Mem) (Q : Option Value → Mem → Prop), Wp d 1 41 L [.int a, .ref b] M Q ↔ ((isR b = true ∧ inr a (lnm M b)) ∧ Wp d 1 42 L [.int (M b a.toNatClampNeg)] M Q)) ∧
    (∀ (d : Nat) (a : Int32) (x : Nat) (L : List Value) (M : Mem) (Q : Option Value → Mem → Prop), Wp d 1 42 (.ref x :: L) [.int a] M Q ↔ Wp d 1 43 (.ref x :: L) [.ref x, .int a] M Q) ∧
    (∀ (d : Nat) (a : Nat) (b : Int32) (L : List Value) (M : Mem) (Q : Option Value → Mem → Prop), Wp d 1 43 L [.ref a, .int b] M Q ↔ (isK a 0 = true ∧ Wp d 1 46 L [.ref (rt a 1), .int b] M Q)) ∧
    (∀ (d : Nat) (a : Nat) (b : Int32) (v0 : Value) (v1 : Value) (x : Int32) (L : List Value) (M : Mem) (Q : Option Value → Mem → Prop), Wp d 1 46 (v0 :: v1 :: .int x :: L) [.ref a, .int b] M Q ↔ Wp d 1 47 (v0 :: v1 :: .int x :: L) [.int x, .ref a, .int b] M Q) ∧
    (∀ (d : Nat) (a : Int32) (b : Nat) (c : Int32) (L : List Value) (M : Mem) (Q : Option Value → Mem → Prop), Wp d 1 47 L [.int a, .ref b, .int c] M Q ↔ ((isR b = true ∧ inr a (lnm M b)) ∧ Wp d 1 48 L [.int (M b a.toNatClampNeg), .int c] M Q)) ∧
    (∀ (d : Nat) (a : Int32) (b : Int32) (L : List Value) (M : Mem) (Q : Option Value → Mem → Prop), Wp d 1 48 L [.int a, .int b] M Q ↔ (if b = a then Wp d 1 53 L [] M Q else Wp d 1 51 L [] M Q)) ∧
    (∀ (d : Nat) (v0 : Value) (v1 : Value) (x : Int32) (L : List Value) (M : Mem) (Q : Option Value → Mem → Prop), Wp d 1 51 (v0 :: v1 :: .int x :: L) [] M Q ↔ Wp d 1 52 (v0 :: v1 :: .int x :: L) [.int x] M Q) ∧
    (∀ (d : Nat) (a : Int32) (L : List Value) (M : Mem) (Q : Option Value → Mem → Prop), Wp d 1 52 L [.int a] M Q ↔ Q (some (.int a)) M) ∧
    (∀ (d : Nat) (v0 : Value) (v1 : Value) (x : Int32) (L : List Value) (M : Mem) (Q : Option Value → Mem → Prop), Wp d 1 53 (v0 :: v1 :: .int x :: L) [] M Q ↔ Wp d 1 56 (v0 :: clr v1 :: .int (x + 1) :: L) [] M Q) ∧
    (∀ (d : Nat) (L : List Value) (M : Mem) (Q : Option Value → Mem → Prop), Wp d 1 56 L [] M Q ↔ Wp d 1 2 L [] M Q) ∧
    (∀ (d : Nat) (L : List Value) (M : Mem) (Q : Option Value → Mem → Prop), Wp d 1 59 L [] M Q ↔ Wp d 1 60 L [.int (-1)] M Q) ∧
    (∀ (d : Nat) (a : Int32) (L : List Value) (M : Mem) (Q : Option Value → Mem → Prop), Wp d 1 60 L [.int a] M Q ↔ Q (some (.int a)) M) := by
  refine ⟨?_, ?_, ?_, ?_, ?_, ?_, ?_, ?_, ?_, ?_, ?_, ?_, ?_, ?_, ?_, ?_, ?_, ?_, ?_, ?_, ?_, ?_, ?_, ?_, ?_, ?_, ?_, ?_, ?_, ?_, ?_, ?_, ?_, ?_, ?_⟩
  · intro d L M Q; exact Wp_sim (by decide +kernel : decode (cd 1) 0 = .ok (.iconst 0, 1)) rfl rfl
  · intro d a v0 v1 x L M Q; exact Wp_sim (by decide +kernel : decode (cd 1) 1 = .ok (.istore_n 2, 1)) rfl rfl
  · intro d a x L M Q; exact Wp_sim (by decide +kernel : decode (cd 1) 3 = .ok (.aload_n 0, 1)) rfl rfl
  · intro d a b L M Q; exact q_getI (p := 289) (by decide +kernel : decode (cd 1) 4 = .ok (.getfield 18, 3)) (by decide +kernel) (by decide +kernel)
  · intro d a b L M Q; exact q_ige (by decide +kernel : decode (cd 1) 7 = .ok (.if_icmp .ge 52, 3)) (by decide)
  · intro d v0 v1 x L M Q; exact Wp_sim (by decide +kernel : decode (cd 1) 10 = .ok (.iload_n 2, 1)) rfl rfl
  · intro d a L M Q; exact Wp_sim (by decide +kernel : decode (cd 1) 11 = .ok (.bipush 15, 2)) rfl rfl
  · intro d a b L M Q; exact q_ige (by decide +kernel : decode (cd 1) 13 = .ok (.if_icmp .ge 46, 3)) (by decide)
  · intro d x L M Q; exact Wp_sim (by decide +kernel : decode (cd 1) 16 = .ok (.aload_n 0, 1)) rfl rfl
  · intro d a L M Q; exact q_getR (p := 287) (by decide +kernel : decode (cd 1) 17 = .ok (.getfield 9, 3)) (by decide +kernel) (by decide +kernel)
  · intro d a v0 v1 x L M Q; exact Wp_sim (by decide +kernel : decode (cd 1) 20 = .ok (.iload_n 2, 1)) rfl rfl
  · intro d a b L M Q; exact q_ald (by decide +kernel : decode (cd 1) 21 = .ok (.iaload , 1))
  · intro d a v0 v1 v2 x L M Q; exact Wp_sim (by decide +kernel : decode (cd 1) 22 = .ok (.istore_n 3, 1)) rfl rfl
  · intro d v0 v1 v2 x L M Q; exact Wp_sim (by decide +kernel : decode (cd 1) 23 = .ok (.iload_n 3, 1)) rfl rfl
  · intro d a L M Q; exact q_zlt (by decide +kernel : decode (cd 1) 24 = .ok (.ifCond .lt 29, 3)) (by decide)
  · intro d v0 v1 v2 x L M Q; exact Wp_sim (by decide +kernel : decode (cd 1) 27 = .ok (.iload_n 3, 1)) rfl rfl
  · intro d a v0 x L M Q; exact Wp_sim (by decide +kernel : decode (cd 1) 28 = .ok (.aload_n 1, 1)) rfl rfl
  · intro d a b L M Q; exact q_getR (p := 166) (by decide +kernel : decode (cd 1) 29 = .ok (.getfield 22, 3)) (by decide +kernel) (by decide +kernel)
  · intro d a b L M Q; exact q_aln (by decide +kernel : decode (cd 1) 32 = .ok (.arraylength , 1))
  · intro d a b L M Q; exact q_ige (by decide +kernel : decode (cd 1) 33 = .ok (.if_icmp .ge 20, 3)) (by decide)
  · intro d v0 x L M Q; exact Wp_sim (by decide +kernel : decode (cd 1) 36 = .ok (.aload_n 1, 1)) rfl rfl
  · intro d a L M Q; exact q_getR (p := 166) (by decide +kernel : decode (cd 1) 37 = .ok (.getfield 22, 3)) (by decide +kernel) (by decide +kernel)
  · intro d a v0 v1 v2 x L M Q; exact Wp_sim (by decide +kernel : decode (cd 1) 40 = .ok (.iload_n 3, 1)) rfl rfl
  · intro d a b L M Q; exact q_ald (by decide +kernel : decode (cd 1) 41 = .ok (.iaload , 1))
  · intro d a x L M Q; exact Wp_sim (by decide +kernel : decode (cd 1) 42 = .ok (.aload_n 0, 1)) rfl rfl
  · intro d a b L M Q; exact q_getR (p := 288) (by decide +kernel : decode (cd 1) 43 = .ok (.getfield 15, 3)) (by decide +kernel) (by decide +kernel)
  · intro d a b v0 v1 x L M Q; exact Wp_sim (by decide +kernel : decode (cd 1) 46 = .ok (.iload_n 2, 1)) rfl rfl
  · intro d a b c L M Q; exact q_ald (by decide +kernel : decode (cd 1) 47 = .ok (.iaload , 1))
  · intro d a b L M Q; exact q_ieq (by decide +kernel : decode (cd 1) 48 = .ok (.if_icmp .eq 5, 3)) (by decide)
  · intro d v0 v1 x L M Q; exact Wp_sim (by decide +kernel : decode (cd 1) 51 = .ok (.iload_n 2, 1)) rfl rfl
  · intro d a L M Q; exact q_iret (by decide +kernel : decode (cd 1) 52 = .ok (.ireturn , 1)) (by decide +kernel)
  · intro d v0 v1 x L M Q; exact Wp_sim (by decide +kernel : decode (cd 1) 53 = .ok (.iinc 2 1, 3)) rfl rfl
  · intro d L M Q; exact q_goto (by decide +kernel : decode (cd 1) 56 = .ok (.goto (-54), 3)) (by decide)
  · intro d L M Q; exact Wp_sim (by decide +kernel : decode (cd 1) 59 = .ok (.iconst (-1), 1)) rfl rfl
  · intro d a L M Q; exact q_iret (by decide +kernel : decode (cd 1) 60 = .ok (.ireturn , 1)) (by decide +kernel)
theorem h1_2 : (∀ (d : Nat) (v0 : Value) (v1 : Value) (x : Int32) (L : List Value) (M : Mem) (Q : Option Value → Mem → Prop), Wp d 1 2 (v0 :: v1 :: .int x :: L) [] M Q ↔ Wp d 1 3 (v0 :: v1 :: .int x :: L) [.int x] M Q) := by
  intro d v0 v1 x L M Q; exact Wp_sim (by decide +kernel : decode (cd 1) 2 = .ok (.iload_n 2, 1)) rfl rfl

/- 2: Close.clear -/
set_option maxRecDepth 10000 in
theorem e2 : (∀ (d : Nat) (x : Nat) (L : List Value) (M : Mem) (Q : Option Value → Mem → Prop), Wp d 2 0 (.ref x :: L) [] M Q ↔ Wp d 2 1 (.ref x :: L) [.ref x] M Q) ∧
    (∀ (d : Nat) (a : Nat) (L : List Value) (M : Mem) (Q : Option Value → Mem → Prop), Wp d 2 1 L [.ref a] M Q ↔ Wp d 2 2 L [.int 0, .ref a] M Q) ∧
    (∀ (d : Nat) (a : Int32) (b : Nat) (L : List Value) (M : Mem) (Q : Option Value → Mem → Prop), Wp d 2 2 L [.int a, .ref b] M Q ↔ ((isK b 1 = true ∧ (a = 0 ∨ a = 1)) ∧ Wp d 2 5 L [] (up2 M b 8 a) Q)) ∧
    (∀ (d : Nat) (x : Nat) (L : List Value) (M : Mem) (Q : Option Value → Mem → Prop), Wp d 2 5 (.ref x :: L) [] M Q ↔ Wp d 2 6 (.ref x :: L) [.ref x] M Q) ∧
    (∀ (d : Nat) (a : Nat) (L : List Value) (M : Mem) (Q : Option Value → Mem → Prop), Wp d 2 6 L [.ref a] M Q ↔ Wp d 2 7 L [.int 0, .ref a] M Q) ∧
    (∀ (d : Nat) (a : Int32) (b : Nat) (L : List Value) (M : Mem) (Q : Option Value → Mem → Prop), Wp d 2 7 L [.int a, .ref b] M Q ↔ (isK b 1 = true ∧ Wp d 2 10 L [] (up2 M b 9 a) Q)) ∧
    (∀ (d : Nat) (x : Nat) (L : List Value) (M : Mem) (Q : Option Value → Mem → Prop), Wp d 2 10 (.ref x :: L) [] M Q ↔ Wp d 2 11 (.ref x :: L) [.ref x] M Q) ∧
    (∀ (d : Nat) (a : Nat) (L : List Value) (M : Mem) (Q : Option Value → Mem → Prop), Wp d 2 11 L [.ref a] M Q ↔ Wp d 2 12 L [.int 0, .ref a] M Q) ∧
    (∀ (d : Nat) (a : Int32) (b : Nat) (L : List Value) (M : Mem) (Q : Option Value → Mem → Prop), Wp d 2 12 L [.int a, .ref b] M Q ↔ (isK b 1 = true ∧ Wp d 2 15 L [] (up2 M b 10 a) Q)) ∧
    (∀ (d : Nat) (x : Nat) (L : List Value) (M : Mem) (Q : Option Value → Mem → Prop), Wp d 2 15 (.ref x :: L) [] M Q ↔ Wp d 2 16 (.ref x :: L) [.ref x] M Q) ∧
    (∀ (d : Nat) (a : Nat) (L : List Value) (M : Mem) (Q : Option Value → Mem → Prop), Wp d 2 16 L [.ref a] M Q ↔ Wp d 2 17 L [.int 0, .ref a] M Q) ∧
    (∀ (d : Nat) (a : Int32) (b : Nat) (L : List Value) (M : Mem) (Q : Option Value → Mem → Prop), Wp d 2 17 L [.int a, .ref b] M Q ↔ (isK b 1 = true ∧ Wp d 2 20 L [] (up2 M b 11 a) Q)) ∧
    (∀ (d : Nat) (x : Nat) (L : List Value) (M : Mem) (Q : Option Value → Mem → Prop), Wp d 2 20 (.ref x :: L) [] M Q ↔ Wp d 2 21 (.ref x :: L) [.ref x] M Q) ∧
    (∀ (d : Nat) (a : Nat) (L : List Value) (M : Mem) (Q : Option Value → Mem → Prop), Wp d 2 21 L [.ref a] M Q ↔ Wp d 2 22 L [.int 0, .ref a] M Q) ∧
    (∀ (d : Nat) (a : Int32) (b : Nat) (L : List Value) (M : Mem) (Q : Option Value → Mem → Prop), Wp d 2 22 L [.int a, .ref b] M Q ↔ (isK b 1 = true ∧ Wp d 2 25 L [] (up2 M b 12 a) Q)) ∧
    (∀ (d : Nat) (x : Nat) (L : List Value) (M : Mem) (Q : Option Value → Mem → Prop), Wp d 2 25 (.ref x :: L) [] M Q ↔ Wp d 2 26 (.ref x :: L) [.ref x] M Q) ∧
    (∀ (d : Nat) (a : Nat) (L : List Value) (M : Mem) (Q : Option Value → Mem → Prop), Wp d 2 26 L [.ref a] M Q ↔ Wp d 2 27 L [.int 0, .ref a] M Q) ∧
    (∀ (d : Nat) (a : Int32) (b : Nat) (L : List Value) (M : Mem) (Q : Option Value → Mem → Prop), Wp d 2 27 L [.int a, .ref b] M Q ↔ (isK b 1 = true ∧ Wp d 2 30 L [] (up2 M b 13 a) Q)) ∧
    (∀ (d : Nat) (x : Nat) (L : List Value) (M : Mem) (Q : Option Value → Mem → Prop), Wp d 2 30 (.ref x :: L) [] M Q ↔ Wp d 2 31 (.ref x :: L) [.ref x] M Q) ∧
    (∀ (d : Nat) (a : Nat) (L : List Value) (M : Mem) (Q : Option Value → Mem → Prop), Wp d 2 31 L [.ref a] M Q ↔ Wp d 2 32 L [.int 0, .ref a] M Q) ∧
    (∀ (d : Nat) (a : Int32) (b : Nat) (L : List Value) (M : Mem) (Q : Option Value → Mem → Prop), Wp d 2 32 L [.int a, .ref b] M Q ↔ (isK b 1 = true ∧ Wp d 2 35 L [] (up2 M b 14 a) Q)) ∧
    (∀ (d : Nat) (L : List Value) (M : Mem) (Q : Option Value → Mem → Prop), Wp d 2 35 L [] M Q ↔ Q none M) := by
  refine ⟨?_, ?_, ?_, ?_, ?_, ?_, ?_, ?_, ?_, ?_, ?_, ?_, ?_, ?_, ?_, ?_, ?_, ?_, ?_, ?_, ?_, ?_⟩
  · intro d x L M Q; exact Wp_sim (by decide +kernel : decode (cd 2) 0 = .ok (.aload_n 0, 1)) rfl rfl
  · intro d a L M Q; exact Wp_sim (by decide +kernel : decode (cd 2) 1 = .ok (.iconst 0, 1)) rfl rfl
  · intro d a b L M Q; exact q_putZ (p := 86) (by decide +kernel : decode (cd 2) 2 = .ok (.putfield 36, 3)) (by decide +kernel) (by decide +kernel)
  · intro d x L M Q; exact Wp_sim (by decide +kernel : decode (cd 2) 5 = .ok (.aload_n 0, 1)) rfl rfl
  · intro d a L M Q; exact Wp_sim (by decide +kernel : decode (cd 2) 6 = .ok (.iconst 0, 1)) rfl rfl
  · intro d a b L M Q; exact q_putI (p := 89) (by decide +kernel : decode (cd 2) 7 = .ok (.putfield 40, 3)) (by decide +kernel) (by decide +kernel)
  · intro d x L M Q; exact Wp_sim (by decide +kernel : decode (cd 2) 10 = .ok (.aload_n 0, 1)) rfl rfl
  · intro d a L M Q; exact Wp_sim (by decide +kernel : decode (cd 2) 11 = .ok (.iconst 0, 1)) rfl rfl
  · intro d a b L M Q; exact q_putI (p := 92) (by decide +kernel : decode (cd 2) 12 = .ok (.putfield 44, 3)) (by decide +kernel) (by decide +kernel)
  · intro d x L M Q; exact Wp_sim (by decide +kernel : decode (cd 2) 15 = .ok (.aload_n 0, 1)) rfl rfl
  · intro d a L M Q; exact Wp_sim (by decide +kernel : decode (cd 2) 16 = .ok (.iconst 0, 1)) rfl rfl
  · intro d a b L M Q; exact q_putI (p := 95) (by decide +kernel : decode (cd 2) 17 = .ok (.putfield 47, 3)) (by decide +kernel) (by decide +kernel)
  · intro d x L M Q; exact Wp_sim (by decide +kernel : decode (cd 2) 20 = .ok (.aload_n 0, 1)) rfl rfl
  · intro d a L M Q; exact Wp_sim (by decide +kernel : decode (cd 2) 21 = .ok (.iconst 0, 1)) rfl rfl
  · intro d a b L M Q; exact q_putI (p := 98) (by decide +kernel : decode (cd 2) 22 = .ok (.putfield 50, 3)) (by decide +kernel) (by decide +kernel)
  · intro d x L M Q; exact Wp_sim (by decide +kernel : decode (cd 2) 25 = .ok (.aload_n 0, 1)) rfl rfl
  · intro d a L M Q; exact Wp_sim (by decide +kernel : decode (cd 2) 26 = .ok (.iconst 0, 1)) rfl rfl
  · intro d a b L M Q; exact q_putI (p := 102) (by decide +kernel : decode (cd 2) 27 = .ok (.putfield 53, 3)) (by decide +kernel) (by decide +kernel)
  · intro d x L M Q; exact Wp_sim (by decide +kernel : decode (cd 2) 30 = .ok (.aload_n 0, 1)) rfl rfl
  · intro d a L M Q; exact Wp_sim (by decide +kernel : decode (cd 2) 31 = .ok (.iconst 0, 1)) rfl rfl
  · intro d a b L M Q; exact q_putI (p := 105) (by decide +kernel : decode (cd 2) 32 = .ok (.putfield 56, 3)) (by decide +kernel) (by decide +kernel)
  · intro d L M Q; exact q_vret (by decide +kernel : decode (cd 2) 35 = .ok (.return_ , 1)) (by decide +kernel)

/- 3: Close.hasAllOf -/
set_option maxRecDepth 10000 in
theorem e3 : (∀ (d : Nat) (v0 : Value) (x : Int32) (L : List Value) (M : Mem) (Q : Option Value → Mem → Prop), Wp d 3 0 (v0 :: .int x :: L) [] M Q ↔ Wp d 3 1 (v0 :: .int x :: L) [.int x] M Q) ∧
    (∀ (d : Nat) (a : Int32) (L : List Value) (M : Mem) (Q : Option Value → Mem → Prop), Wp d 3 1 L [.int a] M Q ↔ (if a = 0 then Wp d 3 28 L [] M Q else (if a = 1 then Wp d 3 33 L [] M Q else (if a = 2 then Wp d 3 47 L [] M Q else Wp d 3 62 L [] M Q)))) ∧
    (∀ (d : Nat) (x : Nat) (L : List Value) (M : Mem) (Q : Option Value → Mem → Prop), Wp d 3 28 (.ref x :: L) [] M Q ↔ Wp d 3 29 (.ref x :: L) [.ref x] M Q) ∧
    (∀ (d : Nat) (a : Nat) (L : List Value) (M : Mem) (Q : Option Value → Mem → Prop), Wp d 3 29 L [.ref a] M Q ↔ (isK a 1 = true ∧ Wp d 3 32 L [.int (M a 8)] M Q)) ∧
    (∀ (d : Nat) (a : Int32) (L : List Value) (M : Mem) (Q : Option Value → Mem → Prop), Wp d 3 32 L [.int a] M Q ↔ ((a = 0 ∨ a = 1) ∧ Q (some (.int a)) M)) ∧
    (∀ (d : Nat) (x : Nat) (L : List Value) (M : Mem) (Q : Option Value → Mem → Prop), Wp d 3 33 (.ref x :: L) [] M Q ↔ Wp d 3 34 (.ref x :: L) [.ref x] M Q) ∧
    (∀ (d : Nat) (a : Nat) (L : List Value) (M : Mem) (Q : Option Value → Mem → Prop), Wp d 3 34 L [.ref a] M Q ↔ (isK a 1 = true ∧ Wp d 3 37 L [.int (M a 12)] M Q)) ∧
    (∀ (d : Nat) (a : Int32) (L : List Value) (M : Mem) (Q : Option Value → Mem → Prop), Wp d 3 37 L [.int a] M Q ↔ Wp d 3 38 L [.int 4, .int a] M Q) ∧
    (∀ (d : Nat) (a : Int32) (b : Int32) (L : List Value) (M : Mem) (Q : Option Value → Mem → Prop), Wp d 3 38 L [.int a, .int b] M Q ↔ (if b < a then Wp d 3 45 L [] M Q else Wp d 3 41 L [] M Q)) ∧
    (∀ (d : Nat) (L : List Value) (M : Mem) (Q : Option Value → Mem → Prop), Wp d 3 41 L [] M Q ↔ Wp d 3 42 L [.int 1] M Q) ∧
    (∀ (d : Nat) (a : Int32) (L : List Value) (M : Mem) (Q : Option Value → Mem → Prop), Wp d 3 42 L [.int a] M Q ↔ Wp d 3 46 L [.int a] M Q) ∧
    (∀ (d : Nat) (L : List Value) (M : Mem) (Q : Option Value → Mem → Prop), Wp d 3 45 L [] M Q ↔ Wp d 3 46 L [.int 0] M Q) ∧
    (∀ (d : Nat) (a : Int32) (L : List Value) (M : Mem) (Q : Option Value → Mem → Prop), Wp d 3 46 L [.int a] M Q ↔ ((a = 0 ∨ a = 1) ∧ Q (some (.int a)) M)) ∧
    (∀ (d : Nat) (x : Nat) (L : List Value) (M : Mem) (Q : Option Value → Mem → Prop), Wp d 3 47 (.ref x :: L) [] M Q ↔ Wp d 3 48 (.ref x :: L) [.ref x] M Q) ∧
    (∀ (d : Nat) (a : Nat) (L : List Value) (M : Mem) (Q : Option Value → Mem → Prop), Wp d 3 48 L [.ref a] M Q ↔ (isK a 1 = true ∧ Wp d 3 51 L [.int (M a 13)] M Q)) ∧
    (∀ (d : Nat) (a : Int32) (L : List Value) (M : Mem) (Q : Option Value → Mem → Prop), Wp d 3 51 L [.int a] M Q ↔ Wp d 3 53 L [.int 6, .int a] M Q) ∧
    (∀ (d : Nat) (a : Int32) (b : Int32) (L : List Value) (M : Mem) (Q : Option Value → Mem → Prop), Wp d 3 53 L [.int a, .int b] M Q ↔ (if b < a then Wp d 3 60 L [] M Q else Wp d 3 56 L [] M Q)) ∧
    (∀ (d : Nat) (L : List Value) (M : Mem) (Q : Option Value → Mem → Prop), Wp d 3 56 L [] M Q ↔ Wp d 3 57 L [.int 1] M Q) ∧
    (∀ (d : Nat) (a : Int32) (L : List Value) (M : Mem) (Q : Option Value → Mem → Prop), Wp d 3 57 L [.int a] M Q ↔ Wp d 3 61 L [.int a] M Q) ∧
    (∀ (d : Nat) (L : List Value) (M : Mem) (Q : Option Value → Mem → Prop), Wp d 3 60 L [] M Q ↔ Wp d 3 61 L [.int 0] M Q) ∧
    (∀ (d : Nat) (a : Int32) (L : List Value) (M : Mem) (Q : Option Value → Mem → Prop), Wp d 3 61 L [.int a] M Q ↔ ((a = 0 ∨ a = 1) ∧ Q (some (.int a)) M)) ∧
    (∀ (d : Nat) (x : Nat) (L : List Value) (M : Mem) (Q : Option Value → Mem → Prop), Wp d 3 62 (.ref x :: L) [] M Q ↔ Wp d 3 63 (.ref x :: L) [.ref x] M Q) ∧
    (∀ (d : Nat) (a : Nat) (L : List Value) (M : Mem) (Q : Option Value → Mem → Prop), Wp d 3 63 L [.ref a] M Q ↔ (isK a 1 = true ∧ Wp d 3 66 L [.int (M a 14)] M Q)) ∧
    (∀ (d : Nat) (a : Int32) (L : List Value) (M : Mem) (Q : Option Value → Mem → Prop), Wp d 3 66 L [.int a] M Q ↔ Wp d 3 68 L [.int 6, .int a] M Q) ∧
    (∀ (d : Nat) (a : Int32) (b : Int32) (L : List Value) (M : Mem) (Q : Option Value → Mem → Prop), Wp d 3 68 L [.int a, .int b] M Q ↔ (if b < a then Wp d 3 75 L [] M Q else Wp d 3 71 L [] M Q)) ∧
    (∀ (d : Nat) (L : List Value) (M : Mem) (Q : Option Value → Mem → Prop), Wp d 3 71 L [] M Q ↔ Wp d 3 72 L [.int 1] M Q) ∧
    (∀ (d : Nat) (a : Int32) (L : List Value) (M : Mem) (Q : Option Value → Mem → Prop), Wp d 3 72 L [.int a] M Q ↔ Wp d 3 76 L [.int a] M Q) ∧
    (∀ (d : Nat) (L : List Value) (M : Mem) (Q : Option Value → Mem → Prop), Wp d 3 75 L [] M Q ↔ Wp d 3 76 L [.int 0] M Q) ∧
    (∀ (d : Nat) (a : Int32) (L : List Value) (M : Mem) (Q : Option Value → Mem → Prop), Wp d 3 76 L [.int a] M Q ↔ ((a = 0 ∨ a = 1) ∧ Q (some (.int a)) M)) := by
  refine ⟨?_, ?_, ?_, ?_, ?_, ?_, ?_, ?_, ?_, ?_, ?_, ?_, ?_, ?_, ?_, ?_, ?_, ?_, ?_, ?_, ?_, ?_, ?_, ?_, ?_, ?_, ?_, ?_, ?_⟩
  · intro d v0 x L M Q; exact Wp_sim (by decide +kernel : decode (cd 3) 0 = .ok (.iload_n 1, 1)) rfl rfl
  · intro d a L M Q
    by_cases h0 : a = 0
    · subst h0; rw [if_pos rfl]; exact q_tsw (by decide +kernel : decode (cd 3) 1 = .ok (.tableswitch 61 0 2 #[27, 32, 46], 27)) (by decide) (by decide +kernel)
    rw [if_neg h0]
    by_cases h1 : a = 1
    · subst h1; rw [if_pos rfl]; exact q_tsw (by decide +kernel : decode (cd 3) 1 = .ok (.tableswitch 61 0 2 #[27, 32, 46], 27)) (by decide) (by decide +kernel)
    rw [if_neg h1]
    by_cases h2 : a = 2
    · subst h2; rw [if_pos rfl]; exact q_tsw (by decide +kernel : decode (cd 3) 1 = .ok (.tableswitch 61 0 2 #[27, 32, 46], 27)) (by decide) (by decide +kernel)
    rw [if_neg h2]
    refine q_tsw (by decide +kernel : decode (cd 3) 1 = .ok (.tableswitch 61 0 2 #[27, 32, 46], 27)) (by decide) ?_
    rw [tsw_out ?_]
    · decide
    have g0 := lv_neT h0 (a := 0) (by decide)
    have g1 := lv_neT h1 (a := 1) (by decide)
    have g2 := lv_neT h2 (a := 2) (by decide)
    omega
  · intro d x L M Q; exact Wp_sim (by decide +kernel : decode (cd 3) 28 = .ok (.aload_n 0, 1)) rfl rfl
  · intro d a L M Q; exact q_getI (p := 86) (by decide +kernel : decode (cd 3) 29 = .ok (.getfield 36, 3)) (by decide +kernel) (by decide +kernel)
  · intro d a L M Q; exact q_zret (by decide +kernel : decode (cd 3) 32 = .ok (.ireturn , 1)) (by decide +kernel)
  · intro d x L M Q; exact Wp_sim (by decide +kernel : decode (cd 3) 33 = .ok (.aload_n 0, 1)) rfl rfl
  · intro d a L M Q; exact q_getI (p := 98) (by decide +kernel : decode (cd 3) 34 = .ok (.getfield 50, 3)) (by decide +kernel) (by decide +kernel)
  · intro d a L M Q; exact Wp_sim (by decide +kernel : decode (cd 3) 37 = .ok (.iconst 4, 1)) rfl rfl
  · intro d a b L M Q; exact q_ilt (by decide +kernel : decode (cd 3) 38 = .ok (.if_icmp .lt 7, 3)) (by decide)
  · intro d L M Q; exact Wp_sim (by decide +kernel : decode (cd 3) 41 = .ok (.iconst 1, 1)) rfl rfl
  · intro d a L M Q; exact q_goto (by decide +kernel : decode (cd 3) 42 = .ok (.goto 4, 3)) (by decide)
  · intro d L M Q; exact Wp_sim (by decide +kernel : decode (cd 3) 45 = .ok (.iconst 0, 1)) rfl rfl
  · intro d a L M Q; exact q_zret (by decide +kernel : decode (cd 3) 46 = .ok (.ireturn , 1)) (by decide +kernel)
  · intro d x L M Q; exact Wp_sim (by decide +kernel : decode (cd 3) 47 = .ok (.aload_n 0, 1)) rfl rfl
  · intro d a L M Q; exact q_getI (p := 102) (by decide +kernel : decode (cd 3) 48 = .ok (.getfield 53, 3)) (by decide +kernel) (by decide +kernel)
  · intro d a L M Q; exact Wp_sim (by decide +kernel : decode (cd 3) 51 = .ok (.bipush 6, 2)) rfl rfl
  · intro d a b L M Q; exact q_ilt (by decide +kernel : decode (cd 3) 53 = .ok (.if_icmp .lt 7, 3)) (by decide)
  · intro d L M Q; exact Wp_sim (by decide +kernel : decode (cd 3) 56 = .ok (.iconst 1, 1)) rfl rfl
  · intro d a L M Q; exact q_goto (by decide +kernel : decode (cd 3) 57 = .ok (.goto 4, 3)) (by decide)
  · intro d L M Q; exact Wp_sim (by decide +kernel : decode (cd 3) 60 = .ok (.iconst 0, 1)) rfl rfl
  · intro d a L M Q; exact q_zret (by decide +kernel : decode (cd 3) 61 = .ok (.ireturn , 1)) (by decide +kernel)
  · intro d x L M Q; exact Wp_sim (by decide +kernel : decode (cd 3) 62 = .ok (.aload_n 0, 1)) rfl rfl
  · intro d a L M Q; exact q_getI (p := 105) (by decide +kernel : decode (cd 3) 63 = .ok (.getfield 56, 3)) (by decide +kernel) (by decide +kernel)
  · intro d a L M Q; exact Wp_sim (by decide +kernel : decode (cd 3) 66 = .ok (.bipush 6, 2)) rfl rfl
  · intro d a b L M Q; exact q_ilt (by decide +kernel : decode (cd 3) 68 = .ok (.if_icmp .lt 7, 3)) (by decide)
  · intro d L M Q; exact Wp_sim (by decide +kernel : decode (cd 3) 71 = .ok (.iconst 1, 1)) rfl rfl
  · intro d a L M Q; exact q_goto (by decide +kernel : decode (cd 3) 72 = .ok (.goto 4, 3)) (by decide)
  · intro d L M Q; exact Wp_sim (by decide +kernel : decode (cd 3) 75 = .ok (.iconst 0, 1)) rfl rfl
  · intro d a L M Q; exact q_zret (by decide +kernel : decode (cd 3) 76 = .ok (.ireturn , 1)) (by decide +kernel)

/- 4: Close.add -/
set_option maxRecDepth 10000 in
theorem e4_0 : (∀ (d : Nat) (x : Nat) (L : List Value) (M : Mem) (Q : Option Value → Mem → Prop), Wp d 4 0 (.ref x :: L) [] M Q ↔ Wp d 4 1 (.ref x :: L) [.ref x] M Q) ∧
    (∀ (d : Nat) (a : Nat) (v0 : Value) (x : Int32) (L : List Value) (M : Mem) (Q : Option Value → Mem → Prop), Wp d 4 1 (v0 :: .int x :: L) [.ref a] M Q ↔ Wp d 4 2 (v0 :: .int x :: L) [.int x, .ref a] M Q) ∧
    (∀ (d : Nat) (a : Int32) (b : Nat) (L : List Value) (M : Mem) (Q : Option Value → Mem → Prop), Wp (d + 1) 4 2 L [.int a, .ref b] M Q ↔ (isK b 1 = true ∧ Wp d 3 0 [.ref b, .int a] [] M (fun r M2 => Wp (d + 1) 4 5 L (r.toList ++ []) M2 Q))) ∧
    (∀ (d : Nat) (a : Int32) (L : List Value) (M : Mem) (Q : Option Value → Mem → Prop), Wp d 4 5 L [.int a] M Q ↔ (if a = 0 then Wp d 4 9 L [] M Q else Wp d 4 8 L [] M Q)) ∧
    (∀ (d : Nat) (L : List Value) (M : Mem) (Q : Option Value → Mem → Prop), Wp d 4 8 L [] M Q ↔ Q none M) ∧
    (∀ (d : Nat) (v0 : Value) (x : Int32) (L : List Value) (M : Mem) (Q : Option Value → Mem → Prop), Wp d 4 9 (v0 :: .int x :: L) [] M Q ↔ Wp d 4 10 (v0 :: .int x :: L) [.int x] M Q) ∧
    (∀ (d : Nat) (a : Int32) (L : List Value) (M : Mem) (Q : Option Value → Mem → Prop), Wp d 4 10 L [.int a] M Q ↔ (if a = 0 then Wp d 4 36 L [] M Q else (if a = 1 then Wp d 4 60 L [] M Q else (if a = 2 then Wp d 4 93 L [] M Q else Wp d 4 137 L [] M Q)))) ∧
    (∀ (d : Nat) (x : Nat) (L : List Value) (M : Mem) (Q : Option Value → Mem → Prop), Wp d 4 36 (.ref x :: L) [] M Q ↔ Wp d 4 37 (.ref x :: L) [.ref x] M Q) ∧
    (∀ (d : Nat) (a : Nat) (L : List Value) (M : Mem) (Q : Option Value → Mem → Prop), Wp d 4 37 L [.ref a] M Q ↔ Wp d 4 38 L [.int 1, .ref a] M Q) ∧
    (∀ (d : Nat) (a : Int32) (b : Nat) (L : List Value) (M : Mem) (Q : Option Value → Mem → Prop), Wp d 4 38 L [.int a, .ref b] M Q ↔ ((isK b 1 = true ∧ (a = 0 ∨ a = 1)) ∧ Wp d 4 41 L [] (up2 M b 8 a) Q)) ∧
    (∀ (d : Nat) (x : Nat) (L : List Value) (M : Mem) (Q : Option Value → Mem → Prop), Wp d 4 41 (.ref x :: L) [] M Q ↔ Wp d 4 42 (.ref x :: L) [.ref x] M Q) ∧
    (∀ (d : Nat) (a : Nat) (v0 : Value) (v1 : Value) (x : Int32) (L : List Value) (M : Mem) (Q : Option Value → Mem → Prop), Wp d 4 42 (v0 :: v1 :: .int x :: L) [.ref a] M Q ↔ Wp d 4 43 (v0 :: v1 :: .int x :: L) [.int x, .ref a] M Q) ∧
    (∀ (d : Nat) (a : Int32) (b : Nat) (L : List Value) (M : Mem) (Q : Option Value → Mem → Prop), Wp d 4 43 L [.int a, .ref b] M Q ↔ (isK b 1 = true ∧ Wp d 4 46 L [] (up2 M b 9 a) Q)) ∧
    (∀ (d : Nat) (x : Nat) (L : List Value) (M : Mem) (Q : Option Value → Mem → Prop), Wp d 4 46 (.ref x :: L) [] M Q ↔ Wp d 4 47 (.ref x :: L) [.ref x] M Q) ∧
    (∀ (d : Nat) (a : Nat) (v0 : Value) (v1 : Value) (v2 : Value) (x : Int32) (L : List Value) (M : Mem) (Q : Option Value → Mem → Prop), Wp d 4 47 (v0 :: v1 :: v2 :: .int x :: L) [.ref a] M Q ↔ Wp d 4 48 (v0 :: v1 :: v2 :: .int x :: L) [.int x, .ref a] M Q) ∧
    (∀ (d : Nat) (a : Int32) (b : Nat) (L : List Value) (M : Mem) (Q : Option Value → Mem → Prop), Wp d 4 48 L [.int a, .ref b] M Q ↔ (isK b 1 = true ∧ Wp d 4 51 L [] (up2 M b 10 a) Q)) ∧
    (∀ (d : Nat) (x : Nat) (L : List Value) (M : Mem) (Q : Option Value → Mem → Prop), Wp d 4 51 (.ref x :: L) [] M Q ↔ Wp d 4 52 (.ref x :: L) [.ref x] M Q) ∧
    (∀ (d : Nat) (a : Nat) (v0 : Value) (v1 : Value) (v2 : Value) (v3 : Value) (x : Int32) (L : List Value) (M : Mem) (Q : Option Value → Mem → Prop), Wp d 4 52 (v0 :: v1 :: v2 :: v3 :: .int x :: L) [.ref a] M Q ↔ Wp d 4 54 (v0 :: v1 :: v2 :: v3 :: .int x :: L) [.int x, .ref a] M Q) ∧
    (∀ (d : Nat) (a : Int32) (b : Nat) (L : List Value) (M : Mem) (Q : Option Value → Mem → Prop), Wp d 4 54 L [.int a, .ref b] M Q ↔ (isK b 1 = true ∧ Wp d 4 57 L [] (up2 M b 11 a) Q)) ∧
    (∀ (d : Nat) (L : List Value) (M : Mem) (Q : Option Value → Mem → Prop), Wp d 4 57 L [] M Q ↔ Wp d 4 178 L [] M Q) ∧
    (∀ (d : Nat) (x : Nat) (L : List Value) (M : Mem) (Q : Option Value → Mem → Prop), Wp d 4 60 (.ref x :: L) [] M Q ↔ Wp d 4 61 (.ref x :: L) [.ref x] M Q) ∧
    (∀ (d : Nat) (a : Nat) (L : List Value) (M : Mem) (Q : Option Value → Mem → Prop), Wp d 4 61 L [.ref a] M Q ↔ (isK a 1 = true ∧ Wp d 4 64 L [.ref (rt a 0)] M Q)) ∧
    (∀ (d : Nat) (a : Nat) (x : Nat) (L : List Value) (M : Mem) (Q : Option Value → Mem → Prop), Wp d 4 64 (.ref x :: L) [.ref a] M Q ↔ Wp d 4 65 (.ref x :: L) [.ref x, .ref a] M Q) ∧
    (∀ (d : Nat) (a : Nat) (b : Nat) (L : List Value) (M : Mem) (Q : Option Value → Mem → Prop), Wp d 4 65 L [.ref a, .ref b] M Q ↔ (isK a 1 = true ∧ Wp d 4 68 L [.int (M a 12), .ref b] M Q)) ∧
    (∀ (d : Nat) (a : Int32) (b : Nat) (v0 : Value) (v1 : Value) (x : Int32) (L : List Value) (M : Mem) (Q : Option Value → Mem → Prop), Wp d 4 68 (v0 :: v1 :: .int x :: L) [.int a, .ref b] M Q ↔ Wp d 4 69 (v0 :: v1 :: .int x :: L) [.int x, .int a, .ref b] M Q) ∧
    (∀ (d : Nat) (a : Int32) (b : Int32) (c : Nat) (L : List Value) (M : Mem) (Q : Option Value → Mem → Prop), Wp d 4 69 L [.int a, .int b, .ref c] M Q ↔ ((isK c 13 = true ∧ inr b (lnm M c)) ∧ Wp d 4 70 L [] (up2 M c b.toNatClampNeg a) Q)) ∧
    (∀ (d : Nat) (x : Nat) (L : List Value) (M : Mem) (Q : Option Value → Mem → Prop), Wp d 4 70 (.ref x :: L) [] M Q ↔ Wp d 4 71 (.ref x :: L) [.ref x] M Q) ∧
    (∀ (d : Nat) (a : Nat) (L : List Value) (M : Mem) (Q : Option Value → Mem → Prop), Wp d 4 71 L [.ref a] M Q ↔ (isK a 1 = true ∧ Wp d 4 74 L [.ref (rt a 1)] M Q)) ∧
    (∀ (d : Nat) (a : Nat) (x : Nat) (L : List Value) (M : Mem) (Q : Option Value → Mem → Prop), Wp d 4 74 (.ref x :: L) [.ref a] M Q ↔ Wp d 4 75 (.ref x :: L) [.ref x, .ref a] M Q) ∧
    (∀ (d : Nat) (a : Nat) (b : Nat) (L : List Value) (M : Mem) (Q : Option Value → Mem → Prop), Wp d 4 75 L [.ref a, .ref b] M Q ↔ (isK a 1 = true ∧ Wp d 4 78 L [.int (M a 12), .ref b] M Q)) ∧
    (∀ (d : Nat) (a : Int32) (b : Nat) (v0 : Value) (v1 : Value) (v2 : Value) (x : Int32) (L : List Value) (M : Mem) (Q : Option Value → Mem → Prop), Wp d 4 78 (v0 :: v1 :: v2 :: .int x :: L) [.int a, .ref b] M Q ↔ Wp d 4 79 (v0 :: v1 :: v2 :: .int x :: L) [.int x, .int a, .ref b] M Q) ∧
    (∀ (d : Nat) (a : Int32) (b : Int32) (c : Nat) (L : List Value) (M : Mem) (Q : Option Value → Mem → Prop), Wp d 4 79 L [.int a, .int b, .ref c] M Q ↔ ((isK c 13 = true ∧ inr b (lnm M c)) ∧ Wp d 4 80 L [] (up2 M c b.toNatClampNeg a) Q)) ∧
    (∀ (d : Nat) (x : Nat) (L : List Value) (M : Mem) (Q : Option Value → Mem → Prop), Wp d 4 80 (.ref x :: L) [] M Q ↔ Wp d 4 81 (.ref x :: L) [.ref x] M Q) ∧
    (∀ (d : Nat) (a : Nat) (L : List Value) (M : Mem) (Q : Option Value → Mem → Prop), Wp d 4 81 L [.ref a] M Q ↔ Wp d 4 82 L [.ref a, .ref a] M Q) ∧
    (∀ (d : Nat) (a : Nat) (b : Nat) (L : List Value) (M : Mem) (Q : Option Value → Mem → Prop), Wp d 4 82 L [.ref a, .ref b] M Q ↔ (isK a 1 = true ∧ Wp d 4 85 L [.int (M a 12), .ref b] M Q)) ∧
    (∀ (d : Nat) (a : Int32) (b : Nat) (L : List Value) (M : Mem) (Q : Option Value → Mem → Prop), Wp d 4 85 L [.int a, .ref b] M Q ↔ Wp d 4 86 L [.int 1, .int a, .ref b] M Q) ∧
    (∀ (d : Nat) (a : Int32) (b : Int32) (c : Nat) (L : List Value) (M : Mem) (Q : Option Value → Mem → Prop), Wp d 4 86 L [.int a, .int b, .ref c] M Q ↔ Wp d 4 87 L [.int (b + a), .ref c] M Q) ∧
    (∀ (d : Nat) (a : Int32) (b : Nat) (L : List Value) (M : Mem) (Q : Option Value → Mem → Prop), Wp d 4 87 L [.int a, .ref b] M Q ↔ (isK b 1 = true ∧ Wp d 4 90 L [] (up2 M b 12 a) Q)) ∧
    (∀ (d : Nat) (L : List Value) (M : Mem) (Q : Option Value → Mem → Prop), Wp d 4 90 L [] M Q ↔ Wp d 4 178 L [] M Q) ∧
    (∀ (d : Nat) (x : Nat) (L : List Value) (M : Mem) (Q : Option Value → Mem → Prop), Wp d 4 93 (.ref x :: L) [] M Q ↔ Wp d 4 94 (.ref x :: L) [.ref x] M Q) ∧
    (∀ (d : Nat) (a : Nat) (L : List Value) (M : Mem) (Q : Option Value → Mem → Prop), Wp d 4 94 L [.ref a] M Q ↔ (isK a 1 = true ∧ Wp d 4 97 L [.ref (rt a 2)] M Q)) ∧
    (∀ (d : Nat) (a : Nat) (x : Nat) (L : List Value) (M : Mem) (Q : Option Value → Mem → Prop), Wp d 4 97 (.ref x :: L) [.ref a] M Q ↔ Wp d 4 98 (.ref x :: L) [.ref x, .ref a] M Q) ∧
    (∀ (d : Nat) (a : Nat) (b : Nat) (L : List Value) (M : Mem) (Q : Option Value → Mem → Prop), Wp d 4 98 L [.ref a, .ref b] M Q ↔ (isK a 1 = true ∧ Wp d 4 101 L [.int (M a 13), .ref b] M Q)) ∧
    (∀ (d : Nat) (a : Int32) (b : Nat) (v0 : Value) (v1 : Value) (x : Int32) (L : List Value) (M : Mem) (Q : Option Value → Mem → Prop), Wp d 4 101 (v0 :: v1 :: .int x :: L) [.int a, .ref b] M Q ↔ Wp d 4 102 (v0 :: v1 :: .int x :: L) [.int x, .int a, .ref b] M Q) ∧
    (∀ (d : Nat) (a : Int32) (b : Int32) (c : Nat) (L : List Value) (M : Mem) (Q : Option Value → Mem → Prop), Wp d 4 102 L [.int a, .int b, .ref c] M Q ↔ ((isK c 13 = true ∧ inr b (lnm M c)) ∧ Wp d 4 103 L [] (up2 M c b.toNatClampNeg a) Q)) ∧
    (∀ (d : Nat) (x : Nat) (L : List Value) (M : Mem) (Q : Option Value → Mem → Prop), Wp d 4 103 (.ref x :: L) [] M Q ↔ Wp d 4 104 (.ref x :: L) [.ref x] M Q) ∧
    (∀ (d : Nat) (a : Nat) (L : List Value) (M : Mem) (Q : Option Value → Mem → Prop), Wp d 4 104 L [.ref a] M Q ↔ (isK a 1 = true ∧ Wp d 4 107 L [.ref (rt a 3)] M Q)) ∧
    (∀ (d : Nat) (a : Nat) (x : Nat) (L : List Value) (M : Mem) (Q : Option Value → Mem → Prop), Wp d 4 107 (.ref x :: L) [.ref a] M Q ↔ Wp d 4 108 (.ref x :: L) [.ref x, .ref a] M Q) ∧
    (∀ (d : Nat) (a : Nat) (b : Nat) (L : List Value) (M : Mem) (Q : Option Value → Mem → Prop), Wp d 4 108 L [.ref a, .ref b] M Q ↔ (isK a 1 = true ∧ Wp d 4 111 L [.int (M a 13), .ref b] M Q)) ∧
    (∀ (d : Nat) (a : Int32) (b : Nat) (v0 : Value) (v1 : Value) (v2 : Value) (x : Int32) (L : List Value) (M : Mem) (Q : Option Value → Mem → Prop), Wp d 4 111 (v0 :: v1 :: v2 :: .int x :: L) [.int a, .ref b] M Q ↔ Wp d 4 112 (v0 :: v1 :: v2 :: .int x :: L) [.int x, .int a, .ref b] M Q) ∧
    (∀ (d : Nat) (a : Int32) (b : Int32) (c : Nat) (L : List Value) (M : Mem) (Q : Option Value → Mem → Prop), Wp d 4 112 L [.int a, .int b, .ref c] M Q ↔ ((isK c 13 = true ∧ inr b (lnm M c)) ∧ Wp d 4 113 L [] (up2 M c b.toNatClampNeg a) Q)) ∧
    (∀ (d : Nat) (x : Nat) (L : List Value) (M : Mem) (Q : Option Value → Mem → Prop), Wp d 4 113 (.ref x :: L) [] M Q ↔ Wp d 4 114 (.ref x :: L) [.ref x] M Q) ∧
    (∀ (d : Nat) (a : Nat) (L : List Value) (M : Mem) (Q : Option Value → Mem → Prop), Wp d 4 114 L [.ref a] M Q ↔ (isK a 1 = true ∧ Wp d 4 117 L [.ref (rt a 4)] M Q)) ∧
    (∀ (d : Nat) (a : Nat) (x : Nat) (L : List Value) (M : Mem) (Q : Option Value → Mem → Prop), Wp d 4 117 (.ref x :: L) [.ref a] M Q ↔ Wp d 4 118 (.ref x :: L) [.ref x, .ref a] M Q) ∧
    (∀ (d : Nat) (a : Nat) (b : Nat) (L : List Value) (M : Mem) (Q : Option Value → Mem → Prop), Wp d 4 118 L [.ref a, .ref b] M Q ↔ (isK a 1 = true ∧ Wp d 4 121 L [.int (M a 13), .ref b] M Q)) ∧
    (∀ (d : Nat) (a : Int32) (b : Nat) (v0 : Value) (v1 : Value) (v2 : Value) (v3 : Value) (x : Int32) (L : List Value) (M : Mem) (Q : Option Value → Mem → Prop), Wp d 4 121 (v0 :: v1 :: v2 :: v3 :: .int x :: L) [.int a, .ref b] M Q ↔ Wp d 4 123 (v0 :: v1 :: v2 :: v3 :: .int x :: L) [.int x, .int a, .ref b] M Q) ∧
    (∀ (d : Nat) (a : Int32) (b : Int32) (c : Nat) (L : List Value) (M : Mem) (Q : Option Value → Mem → Prop), Wp d 4 123 L [.int a, .int b, .ref c] M Q ↔ ((isK c 13 = true ∧ inr b (lnm M c)) ∧ Wp d 4 124 L [] (up2 M c b.toNatClampNeg a) Q)) ∧
    (∀ (d : Nat) (x : Nat) (L : List Value) (M : Mem) (Q : Option Value → Mem → Prop), Wp d 4 124 (.ref x :: L) [] M Q ↔ Wp d 4 125 (.ref x :: L) [.ref x] M Q) ∧
    (∀ (d : Nat) (a : Nat) (L : List Value) (M : Mem) (Q : Option Value → Mem → Prop), Wp d 4 125 L [.ref a] M Q ↔ Wp d 4 126 L [.ref a, .ref a] M Q) ∧
    (∀ (d : Nat) (a : Nat) (b : Nat) (L : List Value) (M : Mem) (Q : Option Value → Mem → Prop), Wp d 4 126 L [.ref a, .ref b] M Q ↔ (isK a 1 = true ∧ Wp d 4 129 L [.int (M a 13), .ref b] M Q)) := by
  refine ⟨?_, ?_, ?_, ?_, ?_, ?_, ?_, ?_, ?_, ?_, ?_, ?_, ?_, ?_, ?_, ?_, ?_, ?_, ?_, ?_, ?_, ?_, ?_, ?_, ?_, ?_, ?_, ?_, ?_, ?_, ?_, ?_, ?_, ?_, ?_, ?_, ?_, ?_, ?_, ?_, ?_, ?_, ?_, ?_, ?_, ?_, ?_, ?_, ?_, ?_, ?_, ?_, ?_, ?_, ?_, ?_, ?_, ?_, ?_, ?_⟩
  · intro d x L M Q; exact Wp_sim (by decide +kernel : decode (cd 4) 0 = .ok (.aload_n 0, 1)) rfl rfl
  · intro d a v0 x L M Q; exact Wp_sim (by decide +kernel : decode (cd 4) 1 = .ok (.iload_n 1, 1)) rfl rfl
  · intro d a b L M Q; exact q_invV (pz := 408) (n := 1) (c := 1) (m := 2) (k := b) (As := [.int a]) (rest := []) (by decide +kernel : decode (cd 4) 2 = .ok (.invokevirtual 65, 3)) (by decide +kernel) (by decide +kernel) rfl rfl (Nat.le_of_ble_eq_true rfl) (Nat.le_of_ble_eq_true rfl) rfl
  · intro d a L M Q; exact q_zeq (by decide +kernel : decode (cd 4) 5 = .ok (.ifCond .eq 4, 3)) (by decide)
  · intro d L M Q; exact q_vret (by decide +kernel : decode (cd 4) 8 = .ok (.return_ , 1)) (by decide +kernel)
  · intro d v0 x L M Q; exact Wp_sim (by decide +kernel : decode (cd 4) 9 = .ok (.iload_n 1, 1)) rfl rfl
  · intro d a L M Q
    by_cases h0 : a = 0
    · subst h0; rw [if_pos rfl]; exact q_tsw (by decide +kernel : decode (cd 4) 10 = .ok (.tableswitch 127 0 2 #[26, 50, 83], 26)) (by decide) (by decide +kernel)
    rw [if_neg h0]
    by_cases h1 : a = 1
    · subst h1; rw [if_pos rfl]; exact q_tsw (by decide +kernel : decode (cd 4) 10 = .ok (.tableswitch 127 0 2 #[26, 50, 83], 26)) (by decide) (by decide +kernel)
    rw [if_neg h1]
    by_cases h2 : a = 2
    · subst h2; rw [if_pos rfl]; exact q_tsw (by decide +kernel : decode (cd 4) 10 = .ok (.tableswitch 127 0 2 #[26, 50, 83], 26)) (by decide) (by decide +kernel)
    rw [if_neg h2]
    refine q_tsw (by decide +kernel : decode (cd 4) 10 = .ok (.tableswitch 127 0 2 #[26, 50, 83], 26)) (by decide) ?_
    rw [tsw_out ?_]
    · decide
    have g0 := lv_neT h0 (a := 0) (by decide)
    have g1 := lv_neT h1 (a := 1) (by decide)
    have g2 := lv_neT h2 (a := 2) (by decide)
    omega
  · intro d x L M Q; exact Wp_sim (by decide +kernel : decode (cd 4) 36 = .ok (.aload_n 0, 1)) rfl rfl
  · intro d a L M Q; exact Wp_sim (by decide +kernel : decode (cd 4) 37 = .ok (.iconst 1, 1)) rfl rfl
  · intro d a b L M Q; exact q_putZ (p := 86) (by decide +kernel : decode (cd 4) 38 = .ok (.putfield 36, 3)) (by decide +kernel) (by decide +kernel)
  · intro d x L M Q; exact Wp_sim (by decide +kernel : decode (cd 4) 41 = .ok (.aload_n 0, 1)) rfl rfl
  · intro d a v0 v1 x L M Q; exact Wp_sim (by decide +kernel : decode (cd 4) 42 = .ok (.iload_n 2, 1)) rfl rfl
  · intro d a b L M Q; exact q_putI (p := 89) (by decide +kernel : decode (cd 4) 43 = .ok (.putfield 40, 3)) (by decide +kernel) (by decide +kernel)
  · intro d x L M Q; exact Wp_sim (by decide +kernel : decode (cd 4) 46 = .ok (.aload_n 0, 1)) rfl rfl
  · intro d a v0 v1 v2 x L M Q; exact Wp_sim (by decide +kernel : decode (cd 4) 47 = .ok (.iload_n 3, 1)) rfl rfl
  · intro d a b L M Q; exact q_putI (p := 92) (by decide +kernel : decode (cd 4) 48 = .ok (.putfield 44, 3)) (by decide +kernel) (by decide +kernel)
  · intro d x L M Q; exact Wp_sim (by decide +kernel : decode (cd 4) 51 = .ok (.aload_n 0, 1)) rfl rfl
  · intro d a v0 v1 v2 v3 x L M Q; exact Wp_sim (by decide +kernel : decode (cd 4) 52 = .ok (.iload 4, 2)) rfl rfl
  · intro d a b L M Q; exact q_putI (p := 95) (by decide +kernel : decode (cd 4) 54 = .ok (.putfield 47, 3)) (by decide +kernel) (by decide +kernel)
  · intro d L M Q; exact q_goto (by decide +kernel : decode (cd 4) 57 = .ok (.goto 121, 3)) (by decide)
  · intro d x L M Q; exact Wp_sim (by decide +kernel : decode (cd 4) 60 = .ok (.aload_n 0, 1)) rfl rfl
  · intro d a L M Q; exact q_getR (p := 68) (by decide +kernel : decode (cd 4) 61 = .ok (.getfield 9, 3)) (by decide +kernel) (by decide +kernel)
  · intro d a x L M Q; exact Wp_sim (by decide +kernel : decode (cd 4) 64 = .ok (.aload_n 0, 1)) rfl rfl
  · intro d a b L M Q; exact q_getI (p := 98) (by decide +kernel : decode (cd 4) 65 = .ok (.getfield 50, 3)) (by decide +kernel) (by decide +kernel)
  · intro d a b v0 v1 x L M Q; exact Wp_sim (by decide +kernel : decode (cd 4) 68 = .ok (.iload_n 2, 1)) rfl rfl
  · intro d a b c L M Q; exact q_ast (by decide +kernel : decode (cd 4) 69 = .ok (.iastore , 1))
  · intro d x L M Q; exact Wp_sim (by decide +kernel : decode (cd 4) 70 = .ok (.aload_n 0, 1)) rfl rfl
  · intro d a L M Q; exact q_getR (p := 69) (by decide +kernel : decode (cd 4) 71 = .ok (.getfield 15, 3)) (by decide +kernel) (by decide +kernel)
  · intro d a x L M Q; exact Wp_sim (by decide +kernel : decode (cd 4) 74 = .ok (.aload_n 0, 1)) rfl rfl
  · intro d a b L M Q; exact q_getI (p := 98) (by decide +kernel : decode (cd 4) 75 = .ok (.getfield 50, 3)) (by decide +kernel) (by decide +kernel)
  · intro d a b v0 v1 v2 x L M Q; exact Wp_sim (by decide +kernel : decode (cd 4) 78 = .ok (.iload_n 3, 1)) rfl rfl
  · intro d a b c L M Q; exact q_ast (by decide +kernel : decode (cd 4) 79 = .ok (.iastore , 1))
  · intro d x L M Q; exact Wp_sim (by decide +kernel : decode (cd 4) 80 = .ok (.aload_n 0, 1)) rfl rfl
  · intro d a L M Q; exact Wp_sim (by decide +kernel : decode (cd 4) 81 = .ok (.dup , 1)) rfl rfl
  · intro d a b L M Q; exact q_getI (p := 98) (by decide +kernel : decode (cd 4) 82 = .ok (.getfield 50, 3)) (by decide +kernel) (by decide +kernel)
  · intro d a b L M Q; exact Wp_sim (by decide +kernel : decode (cd 4) 85 = .ok (.iconst 1, 1)) rfl rfl
  · intro d a b c L M Q; exact Wp_sim (by decide +kernel : decode (cd 4) 86 = .ok (.iadd , 1)) rfl rfl
  · intro d a b L M Q; exact q_putI (p := 98) (by decide +kernel : decode (cd 4) 87 = .ok (.putfield 50, 3)) (by decide +kernel) (by decide +kernel)
  · intro d L M Q; exact q_goto (by decide +kernel : decode (cd 4) 90 = .ok (.goto 88, 3)) (by decide)
  · intro d x L M Q; exact Wp_sim (by decide +kernel : decode (cd 4) 93 = .ok (.aload_n 0, 1)) rfl rfl
  · intro d a L M Q; exact q_getR (p := 70) (by decide +kernel : decode (cd 4) 94 = .ok (.getfield 18, 3)) (by decide +kernel) (by decide +kernel)
  · intro d a x L M Q; exact Wp_sim (by decide +kernel : decode (cd 4) 97 = .ok (.aload_n 0, 1)) rfl rfl
  · intro d a b L M Q; exact q_getI (p := 102) (by decide +kernel : decode (cd 4) 98 = .ok (.getfield 53, 3)) (by decide +kernel) (by decide +kernel)
  · intro d a b v0 v1 x L M Q; exact Wp_sim (by decide +kernel : decode (cd 4) 101 = .ok (.iload_n 2, 1)) rfl rfl
  · intro d a b c L M Q; exact q_ast (by decide +kernel : decode (cd 4) 102 = .ok (.iastore , 1))
  · intro d x L M Q; exact Wp_sim (by decide +kernel : decode (cd 4) 103 = .ok (.aload_n 0, 1)) rfl rfl
  · intro d a L M Q; exact q_getR (p := 73) (by decide +kernel : decode (cd 4) 104 = .ok (.getfield 21, 3)) (by decide +kernel) (by decide +kernel)
  · intro d a x L M Q; exact Wp_sim (by decide +kernel : decode (cd 4) 107 = .ok (.aload_n 0, 1)) rfl rfl
  · intro d a b L M Q; exact q_getI (p := 102) (by decide +kernel : decode (cd 4) 108 = .ok (.getfield 53, 3)) (by decide +kernel) (by decide +kernel)
  · intro d a b v0 v1 v2 x L M Q; exact Wp_sim (by decide +kernel : decode (cd 4) 111 = .ok (.iload_n 3, 1)) rfl rfl
  · intro d a b c L M Q; exact q_ast (by decide +kernel : decode (cd 4) 112 = .ok (.iastore , 1))
  · intro d x L M Q; exact Wp_sim (by decide +kernel : decode (cd 4) 113 = .ok (.aload_n 0, 1)) rfl rfl
  · intro d a L M Q; exact q_getR (p := 76) (by decide +kernel : decode (cd 4) 114 = .ok (.getfield 24, 3)) (by decide +kernel) (by decide +kernel)
  · intro d a x L M Q; exact Wp_sim (by decide +kernel : decode (cd 4) 117 = .ok (.aload_n 0, 1)) rfl rfl
  · intro d a b L M Q; exact q_getI (p := 102) (by decide +kernel : decode (cd 4) 118 = .ok (.getfield 53, 3)) (by decide +kernel) (by decide +kernel)
  · intro d a b v0 v1 v2 v3 x L M Q; exact Wp_sim (by decide +kernel : decode (cd 4) 121 = .ok (.iload 4, 2)) rfl rfl
  · intro d a b c L M Q; exact q_ast (by decide +kernel : decode (cd 4) 123 = .ok (.iastore , 1))
  · intro d x L M Q; exact Wp_sim (by decide +kernel : decode (cd 4) 124 = .ok (.aload_n 0, 1)) rfl rfl
  · intro d a L M Q; exact Wp_sim (by decide +kernel : decode (cd 4) 125 = .ok (.dup , 1)) rfl rfl
  · intro d a b L M Q; exact q_getI (p := 102) (by decide +kernel : decode (cd 4) 126 = .ok (.getfield 53, 3)) (by decide +kernel) (by decide +kernel)
set_option maxRecDepth 10000 in
theorem e4_1 : (∀ (d : Nat) (a : Int32) (b : Nat) (L : List Value) (M : Mem) (Q : Option Value → Mem → Prop), Wp d 4 129 L [.int a, .ref b] M Q ↔ Wp d 4 130 L [.int 1, .int a, .ref b] M Q) ∧
    (∀ (d : Nat) (a : Int32) (b : Int32) (c : Nat) (L : List Value) (M : Mem) (Q : Option Value → Mem → Prop), Wp d 4 130 L [.int a, .int b, .ref c] M Q ↔ Wp d 4 131 L [.int (b + a), .ref c] M Q) ∧
    (∀ (d : Nat) (a : Int32) (b : Nat) (L : List Value) (M : Mem) (Q : Option Value → Mem → Prop), Wp d 4 131 L [.int a, .ref b] M Q ↔ (isK b 1 = true ∧ Wp d 4 134 L [] (up2 M b 13 a) Q)) ∧
    (∀ (d : Nat) (L : List Value) (M : Mem) (Q : Option Value → Mem → Prop), Wp d 4 134 L [] M Q ↔ Wp d 4 178 L [] M Q) ∧
    (∀ (d : Nat) (x : Nat) (L : List Value) (M : Mem) (Q : Option Value → Mem → Prop), Wp d 4 137 (.ref x :: L) [] M Q ↔ Wp d 4 138 (.ref x :: L) [.ref x] M Q) ∧
    (∀ (d : Nat) (a : Nat) (L : List Value) (M : Mem) (Q : Option Value → Mem → Prop), Wp d 4 138 L [.ref a] M Q ↔ (isK a 1 = true ∧ Wp d 4 141 L [.ref (rt a 5)] M Q)) ∧
    (∀ (d : Nat) (a : Nat) (x : Nat) (L : List Value) (M : Mem) (Q : Option Value → Mem → Prop), Wp d 4 141 (.ref x :: L) [.ref a] M Q ↔ Wp d 4 142 (.ref x :: L) [.ref x, .ref a] M Q) ∧
    (∀ (d : Nat) (a : Nat) (b : Nat) (L : List Value) (M : Mem) (Q : Option Value → Mem → Prop), Wp d 4 142 L [.ref a, .ref b] M Q ↔ (isK a 1 = true ∧ Wp d 4 145 L [.int (M a 14), .ref b] M Q)) ∧
    (∀ (d : Nat) (a : Int32) (b : Nat) (v0 : Value) (v1 : Value) (x : Int32) (L : List Value) (M : Mem) (Q : Option Value → Mem → Prop), Wp d 4 145 (v0 :: v1 :: .int x :: L) [.int a, .ref b] M Q ↔ Wp d 4 146 (v0 :: v1 :: .int x :: L) [.int x, .int a, .ref b] M Q) ∧
    (∀ (d : Nat) (a : Int32) (b : Int32) (c : Nat) (L : List Value) (M : Mem) (Q : Option Value → Mem → Prop), Wp d 4 146 L [.int a, .int b, .ref c] M Q ↔ ((isK c 13 = true ∧ inr b (lnm M c)) ∧ Wp d 4 147 L [] (up2 M c b.toNatClampNeg a) Q)) ∧
    (∀ (d : Nat) (x : Nat) (L : List Value) (M : Mem) (Q : Option Value → Mem → Prop), Wp d 4 147 (.ref x :: L) [] M Q ↔ Wp d 4 148 (.ref x :: L) [.ref x] M Q) ∧
    (∀ (d : Nat) (a : Nat) (L : List Value) (M : Mem) (Q : Option Value → Mem → Prop), Wp d 4 148 L [.ref a] M Q ↔ (isK a 1 = true ∧ Wp d 4 151 L [.ref (rt a 6)] M Q)) ∧
    (∀ (d : Nat) (a : Nat) (x : Nat) (L : List Value) (M : Mem) (Q : Option Value → Mem → Prop), Wp d 4 151 (.ref x :: L) [.ref a] M Q ↔ Wp d 4 152 (.ref x :: L) [.ref x, .ref a] M Q) ∧
    (∀ (d : Nat) (a : Nat) (b : Nat) (L : List Value) (M : Mem) (Q : Option Value → Mem → Prop), Wp d 4 152 L [.ref a, .ref b] M Q ↔ (isK a 1 = true ∧ Wp d 4 155 L [.int (M a 14), .ref b] M Q)) ∧
    (∀ (d : Nat) (a : Int32) (b : Nat) (v0 : Value) (v1 : Value) (v2 : Value) (x : Int32) (L : List Value) (M : Mem) (Q : Option Value → Mem → Prop), Wp d 4 155 (v0 :: v1 :: v2 :: .int x :: L) [.int a, .ref b] M Q ↔ Wp d 4 156 (v0 :: v1 :: v2 :: .int x :: L) [.int x, .int a, .ref b] M Q) ∧
    (∀ (d : Nat) (a : Int32) (b : Int32) (c : Nat) (L : List Value) (M : Mem) (Q : Option Value → Mem → Prop), Wp d 4 156 L [.int a, .int b, .ref c] M Q ↔ ((isK c 13 = true ∧ inr b (lnm M c)) ∧ Wp d 4 157 L [] (up2 M c b.toNatClampNeg a) Q)) ∧
    (∀ (d : Nat) (x : Nat) (L : List Value) (M : Mem) (Q : Option Value → Mem → Prop), Wp d 4 157 (.ref x :: L) [] M Q ↔ Wp d 4 158 (.ref x :: L) [.ref x] M Q) ∧
    (∀ (d : Nat) (a : Nat) (L : List Value) (M : Mem) (Q : Option Value → Mem → Prop), Wp d 4 158 L [.ref a] M Q ↔ (isK a 1 = true ∧ Wp d 4 161 L [.ref (rt a 7)] M Q)) ∧
    (∀ (d : Nat) (a : Nat) (x : Nat) (L : List Value) (M : Mem) (Q : Option Value → Mem → Prop), Wp d 4 161 (.ref x :: L) [.ref a] M Q ↔ Wp d 4 162 (.ref x :: L) [.ref x, .ref a] M Q) ∧
    (∀ (d : Nat) (a : Nat) (b : Nat) (L : List Value) (M : Mem) (Q : Option Value → Mem → Prop), Wp d 4 162 L [.ref a, .ref b] M Q ↔ (isK a 1 = true ∧ Wp d 4 165 L [.int (M a 14), .ref b] M Q)) ∧
    (∀ (d : Nat) (a : Int32) (b : Nat) (v0 : Value) (v1 : Value) (v2 : Value) (v3 : Value) (x : Int32) (L : List Value) (M : Mem) (Q : Option Value → Mem → Prop), Wp d 4 165 (v0 :: v1 :: v2 :: v3 :: .int x :: L) [.int a, .ref b] M Q ↔ Wp d 4 167 (v0 :: v1 :: v2 :: v3 :: .int x :: L) [.int x, .int a, .ref b] M Q) ∧
    (∀ (d : Nat) (a : Int32) (b : Int32) (c : Nat) (L : List Value) (M : Mem) (Q : Option Value → Mem → Prop), Wp d 4 167 L [.int a, .int b, .ref c] M Q ↔ ((isK c 13 = true ∧ inr b (lnm M c)) ∧ Wp d 4 168 L [] (up2 M c b.toNatClampNeg a) Q)) ∧
    (∀ (d : Nat) (x : Nat) (L : List Value) (M : Mem) (Q : Option Value → Mem → Prop), Wp d 4 168 (.ref x :: L) [] M Q ↔ Wp d 4 169 (.ref x :: L) [.ref x] M Q) ∧
    (∀ (d : Nat) (a : Nat) (L : List Value) (M : Mem) (Q : Option Value → Mem → Prop), Wp d 4 169 L [.ref a] M Q ↔ Wp d 4 170 L [.ref a, .ref a] M Q) ∧
    (∀ (d : Nat) (a : Nat) (b : Nat) (L : List Value) (M : Mem) (Q : Option Value → Mem → Prop), Wp d 4 170 L [.ref a, .ref b] M Q ↔ (isK a 1 = true ∧ Wp d 4 173 L [.int (M a 14), .ref b] M Q)) ∧
    (∀ (d : Nat) (a : Int32) (b : Nat) (L : List Value) (M : Mem) (Q : Option Value → Mem → Prop), Wp d 4 173 L [.int a, .ref b] M Q ↔ Wp d 4 174 L [.int 1, .int a, .ref b] M Q) ∧
    (∀ (d : Nat) (a : Int32) (b : Int32) (c : Nat) (L : List Value) (M : Mem) (Q : Option Value → Mem → Prop), Wp d 4 174 L [.int a, .int b, .ref c] M Q ↔ Wp d 4 175 L [.int (b + a), .ref c] M Q) ∧
    (∀ (d : Nat) (a : Int32) (b : Nat) (L : List Value) (M : Mem) (Q : Option Value → Mem → Prop), Wp d 4 175 L [.int a, .ref b] M Q ↔ (isK b 1 = true ∧ Wp d 4 178 L [] (up2 M b 14 a) Q)) ∧
    (∀ (d : Nat) (L : List Value) (M : Mem) (Q : Option Value → Mem → Prop), Wp d 4 178 L [] M Q ↔ Q none M) := by
  refine ⟨?_, ?_, ?_, ?_, ?_, ?_, ?_, ?_, ?_, ?_, ?_, ?_, ?_, ?_, ?_, ?_, ?_, ?_, ?_, ?_, ?_, ?_, ?_, ?_, ?_, ?_, ?_, ?_, ?_⟩
  · intro d a b L M Q; exact Wp_sim (by decide +kernel : decode (cd 4) 129 = .ok (.iconst 1, 1)) rfl rfl
  · intro d a b c L M Q; exact Wp_sim (by decide +kernel : decode (cd 4) 130 = .ok (.iadd , 1)) rfl rfl
  · intro d a b L M Q; exact q_putI (p := 102) (by decide +kernel : decode (cd 4) 131 = .ok (.putfield 53, 3)) (by decide +kernel) (by decide +kernel)
  · intro d L M Q; exact q_goto (by decide +kernel : decode (cd 4) 134 = .ok (.goto 44, 3)) (by decide)
  · intro d x L M Q; exact Wp_sim (by decide +kernel : decode (cd 4) 137 = .ok (.aload_n 0, 1)) rfl rfl
  · intro d a L M Q; exact q_getR (p := 79) (by decide +kernel : decode (cd 4) 138 = .ok (.getfield 27, 3)) (by decide +kernel) (by decide +kernel)
  · intro d a x L M Q; exact Wp_sim (by decide +kernel : decode (cd 4) 141 = .ok (.aload_n 0, 1)) rfl rfl
  · intro d a b L M Q; exact q_getI (p := 105) (by decide +kernel : decode (cd 4) 142 = .ok (.getfield 56, 3)) (by decide +kernel) (by decide +kernel)
  · intro d a b v0 v1 x L M Q; exact Wp_sim (by decide +kernel : decode (cd 4) 145 = .ok (.iload_n 2, 1)) rfl rfl
  · intro d a b c L M Q; exact q_ast (by decide +kernel : decode (cd 4) 146 = .ok (.iastore , 1))
  · intro d x L M Q; exact Wp_sim (by decide +kernel : decode (cd 4) 147 = .ok (.aload_n 0, 1)) rfl rfl
  · intro d a L M Q; exact q_getR (p := 81) (by decide +kernel : decode (cd 4) 148 = .ok (.getfield 30, 3)) (by decide +kernel) (by decide +kernel)
  · intro d a x L M Q; exact Wp_sim (by decide +kernel : decode (cd 4) 151 = .ok (.aload_n 0, 1)) rfl rfl
  · intro d a b L M Q; exact q_getI (p := 105) (by decide +kernel : decode (cd 4) 152 = .ok (.getfield 56, 3)) (by decide +kernel) (by decide +kernel)
  · intro d a b v0 v1 v2 x L M Q; exact Wp_sim (by decide +kernel : decode (cd 4) 155 = .ok (.iload_n 3, 1)) rfl rfl
  · intro d a b c L M Q; exact q_ast (by decide +kernel : decode (cd 4) 156 = .ok (.iastore , 1))
  · intro d x L M Q; exact Wp_sim (by decide +kernel : decode (cd 4) 157 = .ok (.aload_n 0, 1)) rfl rfl
  · intro d a L M Q; exact q_getR (p := 83) (by decide +kernel : decode (cd 4) 158 = .ok (.getfield 33, 3)) (by decide +kernel) (by decide +kernel)
  · intro d a x L M Q; exact Wp_sim (by decide +kernel : decode (cd 4) 161 = .ok (.aload_n 0, 1)) rfl rfl
  · intro d a b L M Q; exact q_getI (p := 105) (by decide +kernel : decode (cd 4) 162 = .ok (.getfield 56, 3)) (by decide +kernel) (by decide +kernel)
  · intro d a b v0 v1 v2 v3 x L M Q; exact Wp_sim (by decide +kernel : decode (cd 4) 165 = .ok (.iload 4, 2)) rfl rfl
  · intro d a b c L M Q; exact q_ast (by decide +kernel : decode (cd 4) 167 = .ok (.iastore , 1))
  · intro d x L M Q; exact Wp_sim (by decide +kernel : decode (cd 4) 168 = .ok (.aload_n 0, 1)) rfl rfl
  · intro d a L M Q; exact Wp_sim (by decide +kernel : decode (cd 4) 169 = .ok (.dup , 1)) rfl rfl
  · intro d a b L M Q; exact q_getI (p := 105) (by decide +kernel : decode (cd 4) 170 = .ok (.getfield 56, 3)) (by decide +kernel) (by decide +kernel)
  · intro d a b L M Q; exact Wp_sim (by decide +kernel : decode (cd 4) 173 = .ok (.iconst 1, 1)) rfl rfl
  · intro d a b c L M Q; exact Wp_sim (by decide +kernel : decode (cd 4) 174 = .ok (.iadd , 1)) rfl rfl
  · intro d a b L M Q; exact q_putI (p := 105) (by decide +kernel : decode (cd 4) 175 = .ok (.putfield 56, 3)) (by decide +kernel) (by decide +kernel)
  · intro d L M Q; exact q_vret (by decide +kernel : decode (cd 4) 178 = .ok (.return_ , 1)) (by decide +kernel)

/- 5: Close.take -/
set_option maxRecDepth 10000 in
theorem e5_0 : (∀ (d : Nat) (x : Nat) (L : List Value) (M : Mem) (Q : Option Value → Mem → Prop), Wp d 5 0 (.ref x :: L) [] M Q ↔ Wp d 5 1 (.ref x :: L) [.ref x] M Q) ∧
    (∀ (d : Nat) (a : Nat) (v0 : Value) (x : Nat) (L : List Value) (M : Mem) (Q : Option Value → Mem → Prop), Wp d 5 1 (v0 :: .ref x :: L) [.ref a] M Q ↔ Wp d 5 2 (v0 :: .ref x :: L) [.ref x, .ref a] M Q) ∧
    (∀ (d : Nat) (a : Nat) (b : Nat) (L : List Value) (M : Mem) (Q : Option Value → Mem → Prop), Wp d 5 2 L [.ref a, .ref b] M Q ↔ (isK a 1 = true ∧ Wp d 5 5 L [.int (M a 8), .ref b] M Q)) ∧
    (∀ (d : Nat) (a : Int32) (b : Nat) (L : List Value) (M : Mem) (Q : Option Value → Mem → Prop), Wp d 5 5 L [.int a, .ref b] M Q ↔ ((isK b 1 = true ∧ (a = 0 ∨ a = 1)) ∧ Wp d 5 8 L [] (up2 M b 8 a) Q)) ∧
    (∀ (d : Nat) (x : Nat) (L : List Value) (M : Mem) (Q : Option Value → Mem → Prop), Wp d 5 8 (.ref x :: L) [] M Q ↔ Wp d 5 9 (.ref x :: L) [.ref x] M Q) ∧
    (∀ (d : Nat) (a : Nat) (v0 : Value) (x : Nat) (L : List Value) (M : Mem) (Q : Option Value → Mem → Prop), Wp d 5 9 (v0 :: .ref x :: L) [.ref a] M Q ↔ Wp d 5 10 (v0 :: .ref x :: L) [.ref x, .ref a] M Q) ∧
    (∀ (d : Nat) (a : Nat) (b : Nat) (L : List Value) (M : Mem) (Q : Option Value → Mem → Prop), Wp d 5 10 L [.ref a, .ref b] M Q ↔ (isK a 1 = true ∧ Wp d 5 13 L [.int (M a 9), .ref b] M Q)) ∧
    (∀ (d : Nat) (a : Int32) (b : Nat) (L : List Value) (M : Mem) (Q : Option Value → Mem → Prop), Wp d 5 13 L [.int a, .ref b] M Q ↔ (isK b 1 = true ∧ Wp d 5 16 L [] (up2 M b 9 a) Q)) ∧
    (∀ (d : Nat) (x : Nat) (L : List Value) (M : Mem) (Q : Option Value → Mem → Prop), Wp d 5 16 (.ref x :: L) [] M Q ↔ Wp d 5 17 (.ref x :: L) [.ref x] M Q) ∧
    (∀ (d : Nat) (a : Nat) (v0 : Value) (x : Nat) (L : List Value) (M : Mem) (Q : Option Value → Mem → Prop), Wp d 5 17 (v0 :: .ref x :: L) [.ref a] M Q ↔ Wp d 5 18 (v0 :: .ref x :: L) [.ref x, .ref a] M Q) ∧
    (∀ (d : Nat) (a : Nat) (b : Nat) (L : List Value) (M : Mem) (Q : Option Value → Mem → Prop), Wp d 5 18 L [.ref a, .ref b] M Q ↔ (isK a 1 = true ∧ Wp d 5 21 L [.int (M a 10), .ref b] M Q)) ∧
    (∀ (d : Nat) (a : Int32) (b : Nat) (L : List Value) (M : Mem) (Q : Option Value → Mem → Prop), Wp d 5 21 L [.int a, .ref b] M Q ↔ (isK b 1 = true ∧ Wp d 5 24 L [] (up2 M b 10 a) Q)) ∧
    (∀ (d : Nat) (x : Nat) (L : List Value) (M : Mem) (Q : Option Value → Mem → Prop), Wp d 5 24 (.ref x :: L) [] M Q ↔ Wp d 5 25 (.ref x :: L) [.ref x] M Q) ∧
    (∀ (d : Nat) (a : Nat) (v0 : Value) (x : Nat) (L : List Value) (M : Mem) (Q : Option Value → Mem → Prop), Wp d 5 25 (v0 :: .ref x :: L) [.ref a] M Q ↔ Wp d 5 26 (v0 :: .ref x :: L) [.ref x, .ref a] M Q) ∧
    (∀ (d : Nat) (a : Nat) (b : Nat) (L : List Value) (M : Mem) (Q : Option Value → Mem → Prop), Wp d 5 26 L [.ref a, .ref b] M Q ↔ (isK a 1 = true ∧ Wp d 5 29 L [.int (M a 11), .ref b] M Q)) ∧
    (∀ (d : Nat) (a : Int32) (b : Nat) (L : List Value) (M : Mem) (Q : Option Value → Mem → Prop), Wp d 5 29 L [.int a, .ref b] M Q ↔ (isK b 1 = true ∧ Wp d 5 32 L [] (up2 M b 11 a) Q)) ∧
    (∀ (d : Nat) (x : Nat) (L : List Value) (M : Mem) (Q : Option Value → Mem → Prop), Wp d 5 32 (.ref x :: L) [] M Q ↔ Wp d 5 33 (.ref x :: L) [.ref x] M Q) ∧
    (∀ (d : Nat) (a : Nat) (v0 : Value) (x : Nat) (L : List Value) (M : Mem) (Q : Option Value → Mem → Prop), Wp d 5 33 (v0 :: .ref x :: L) [.ref a] M Q ↔ Wp d 5 34 (v0 :: .ref x :: L) [.ref x, .ref a] M Q) ∧
    (∀ (d : Nat) (a : Nat) (b : Nat) (L : List Value) (M : Mem) (Q : Option Value → Mem → Prop), Wp d 5 34 L [.ref a, .ref b] M Q ↔ (isK a 1 = true ∧ Wp d 5 37 L [.int (M a 12), .ref b] M Q)) ∧
    (∀ (d : Nat) (a : Int32) (b : Nat) (L : List Value) (M : Mem) (Q : Option Value → Mem → Prop), Wp d 5 37 L [.int a, .ref b] M Q ↔ (isK b 1 = true ∧ Wp d 5 40 L [] (up2 M b 12 a) Q)) ∧
    (∀ (d : Nat) (x : Nat) (L : List Value) (M : Mem) (Q : Option Value → Mem → Prop), Wp d 5 40 (.ref x :: L) [] M Q ↔ Wp d 5 41 (.ref x :: L) [.ref x] M Q) ∧
    (∀ (d : Nat) (a : Nat) (v0 : Value) (x : Nat) (L : List Value) (M : Mem) (Q : Option Value → Mem → Prop), Wp d 5 41 (v0 :: .ref x :: L) [.ref a] M Q ↔ Wp d 5 42 (v0 :: .ref x :: L) [.ref x, .ref a] M Q) ∧
    (∀ (d : Nat) (a : Nat) (b : Nat) (L : List Value) (M : Mem) (Q : Option Value → Mem → Prop), Wp d 5 42 L [.ref a, .ref b] M Q ↔ (isK a 1 = true ∧ Wp d 5 45 L [.int (M a 13), .ref b] M Q)) ∧
    (∀ (d : Nat) (a : Int32) (b : Nat) (L : List Value) (M : Mem) (Q : Option Value → Mem → Prop), Wp d 5 45 L [.int a, .ref b] M Q ↔ (isK b 1 = true ∧ Wp d 5 48 L [] (up2 M b 13 a) Q)) ∧
    (∀ (d : Nat) (x : Nat) (L : List Value) (M : Mem) (Q : Option Value → Mem → Prop), Wp d 5 48 (.ref x :: L) [] M Q ↔ Wp d 5 49 (.ref x :: L) [.ref x] M Q) ∧
    (∀ (d : Nat) (a : Nat) (v0 : Value) (x : Nat) (L : List Value) (M : Mem) (Q : Option Value → Mem → Prop), Wp d 5 49 (v0 :: .ref x :: L) [.ref a] M Q ↔ Wp d 5 50 (v0 :: .ref x :: L) [.ref x, .ref a] M Q) ∧
    (∀ (d : Nat) (a : Nat) (b : Nat) (L : List Value) (M : Mem) (Q : Option Value → Mem → Prop), Wp d 5 50 L [.ref a, .ref b] M Q ↔ (isK a 1 = true ∧ Wp d 5 53 L [.int (M a 14), .ref b] M Q)) ∧
    (∀ (d : Nat) (a : Int32) (b : Nat) (L : List Value) (M : Mem) (Q : Option Value → Mem → Prop), Wp d 5 53 L [.int a, .ref b] M Q ↔ (isK b 1 = true ∧ Wp d 5 56 L [] (up2 M b 14 a) Q)) ∧
    (∀ (d : Nat) (v0 : Value) (x : Nat) (L : List Value) (M : Mem) (Q : Option Value → Mem → Prop), Wp d 5 56 (v0 :: .ref x :: L) [] M Q ↔ Wp d 5 57 (v0 :: .ref x :: L) [.ref x] M Q) ∧
    (∀ (d : Nat) (a : Nat) (L : List Value) (M : Mem) (Q : Option Value → Mem → Prop), Wp d 5 57 L [.ref a] M Q ↔ (isK a 1 = true ∧ Wp d 5 60 L [.ref (rt a 0)] M Q)) ∧
    (∀ (d : Nat) (a : Nat) (L : List Value) (M : Mem) (Q : Option Value → Mem → Prop), Wp d 5 60 L [.ref a] M Q ↔ Wp d 5 61 L [.int 0, .ref a] M Q) ∧
    (∀ (d : Nat) (a : Int32) (b : Nat) (x : Nat) (L : List Value) (M : Mem) (Q : Option Value → Mem → Prop), Wp d 5 61 (.ref x :: L) [.int a, .ref b] M Q ↔ Wp d 5 62 (.ref x :: L) [.ref x, .int a, .ref b] M Q) ∧
    (∀ (d : Nat) (a : Nat) (b : Int32) (c : Nat) (L : List Value) (M : Mem) (Q : Option Value → Mem → Prop), Wp d 5 62 L [.ref a, .int b, .ref c] M Q ↔ (isK a 1 = true ∧ Wp d 5 65 L [.ref (rt a 0), .int b, .ref c] M Q)) ∧
    (∀ (d : Nat) (a : Nat) (b : Int32) (c : Nat) (L : List Value) (M : Mem) (Q : Option Value → Mem → Prop), Wp d 5 65 L [.ref a, .int b, .ref c] M Q ↔ Wp d 5 66 L [.int 0, .ref a, .int b, .ref c] M Q) ∧
    (∀ (d : Nat) (a : Int32) (b : Nat) (c : Int32) (d2 : Nat) (L : List Value) (M : Mem) (Q : Option Value → Mem → Prop), Wp d 5 66 L [.int a, .ref b, .int c, .ref d2] M Q ↔ Wp d 5 67 L [.int 4, .int a, .ref b, .int c, .ref d2] M Q) ∧
    (∀ (d : Nat) (a : Int32) (b : Int32) (c : Nat) (d2 : Int32) (e : Nat) (L : List Value) (M : Mem) (Q : Option Value → Mem → Prop), Wp (d + 1) 5 67 L [.int a, .int b, .ref c, .int d2, .ref e] M Q ↔ (((isK e 13 = true ∧ isK c 13 = true) ∧ ((¬ d2 < 0 ∧ ¬ b < 0 ∧ ¬ a < 0) ∧ d2.toNatClampNeg + a.toNatClampNeg ≤ ln0 e ∧ b.toNatClampNeg + a.toNatClampNeg ≤ ln0 c)) ∧ Wp (d + 1) 5 70 L [] (upr M c (va_cpy (M e) (M c) d2.toNatClampNeg b.toNatClampNeg a.toNatClampNeg)) Q)) ∧
    (∀ (d : Nat) (v0 : Value) (x : Nat) (L : List Value) (M : Mem) (Q : Option Value → Mem → Prop), Wp d 5 70 (v0 :: .ref x :: L) [] M Q ↔ Wp d 5 71 (v0 :: .ref x :: L) [.ref x] M Q) ∧
    (∀ (d : Nat) (a : Nat) (L : List Value) (M : Mem) (Q : Option Value → Mem → Prop), Wp d 5 71 L [.ref a] M Q ↔ (isK a 1 = true ∧ Wp d 5 74 L [.ref (rt a 1)] M Q)) ∧
    (∀ (d : Nat) (a : Nat) (L : List Value) (M : Mem) (Q : Option Value → Mem → Prop), Wp d 5 74 L [.ref a] M Q ↔ Wp d 5 75 L [.int 0, .ref a] M Q) ∧
    (∀ (d : Nat) (a : Int32) (b : Nat) (x : Nat) (L : List Value) (M : Mem) (Q : Option Value → Mem → Prop), Wp d 5 75 (.ref x :: L) [.int a, .ref b] M Q ↔ Wp d 5 76 (.ref x :: L) [.ref x, .int a, .ref b] M Q) ∧
    (∀ (d : Nat) (a : Nat) (b : Int32) (c : Nat) (L : List Value) (M : Mem) (Q : Option Value → Mem → Prop), Wp d 5 76 L [.ref a, .int b, .ref c] M Q ↔ (isK a 1 = true ∧ Wp d 5 79 L [.ref (rt a 1), .int b, .ref c] M Q)) ∧
    (∀ (d : Nat) (a : Nat) (b : Int32) (c : Nat) (L : List Value) (M : Mem) (Q : Option Value → Mem → Prop), Wp d 5 79 L [.ref a, .int b, .ref c] M Q ↔ Wp d 5 80 L [.int 0, .ref a, .int b, .ref c] M Q) ∧
    (∀ (d : Nat) (a : Int32) (b : Nat) (c : Int32) (d2 : Nat) (L : List Value) (M : Mem) (Q : Option Value → Mem → Prop), Wp d 5 80 L [.int a, .ref b, .int c, .ref d2] M Q ↔ Wp d 5 81 L [.int 4, .int a, .ref b, .int c, .ref d2] M Q) ∧
    (∀ (d : Nat) (a : Int32) (b : Int32) (c : Nat) (d2 : Int32) (e : Nat) (L : List Value) (M : Mem) (Q : Option Value → Mem → Prop), Wp (d + 1) 5 81 L [.int a, .int b, .ref c, .int d2, .ref e] M Q ↔ (((isK e 13 = true ∧ isK c 13 = true) ∧ ((¬ d2 < 0 ∧ ¬ b < 0 ∧ ¬ a < 0) ∧ d2.toNatClampNeg + a.toNatClampNeg ≤ ln0 e ∧ b.toNatClampNeg + a.toNatClampNeg ≤ ln0 c)) ∧ Wp (d + 1) 5 84 L [] (upr M c (va_cpy (M e) (M c) d2.toNatClampNeg b.toNatClampNeg a.toNatClampNeg)) Q)) ∧
    (∀ (d : Nat) (v0 : Value) (x : Nat) (L : List Value) (M : Mem) (Q : Option Value → Mem → Prop), Wp d 5 84 (v0 :: .ref x :: L) [] M Q ↔ Wp d 5 85 (v0 :: .ref x :: L) [.ref x] M Q) ∧
    (∀ (d : Nat) (a : Nat) (L : List Value) (M : Mem) (Q : Option Value → Mem → Prop), Wp d 5 85 L [.ref a] M Q ↔ (isK a 1 = true ∧ Wp d 5 88 L [.ref (rt a 2)] M Q)) ∧
    (∀ (d : Nat) (a : Nat) (L : List Value) (M : Mem) (Q : Option Value → Mem → Prop), Wp d 5 88 L [.ref a] M Q ↔ Wp d 5 89 L [.int 0, .ref a] M Q) ∧
    (∀ (d : Nat) (a : Int32) (b : Nat) (x : Nat) (L : List Value) (M : Mem) (Q : Option Value → Mem → Prop), Wp d 5 89 (.ref x :: L) [.int a, .ref b] M Q ↔ Wp d 5 90 (.ref x :: L) [.ref x, .int a, .ref b] M Q) ∧
    (∀ (d : Nat) (a : Nat) (b : Int32) (c : Nat) (L : List Value) (M : Mem) (Q : Option Value → Mem → Prop), Wp d 5 90 L [.ref a, .int b, .ref c] M Q ↔ (isK a 1 = true ∧ Wp d 5 93 L [.ref (rt a 2), .int b, .ref c] M Q)) ∧
    (∀ (d : Nat) (a : Nat) (b : Int32) (c : Nat) (L : List Value) (M : Mem) (Q : Option Value → Mem → Prop), Wp d 5 93 L [.ref a, .int b, .ref c] M Q ↔ Wp d 5 94 L [.int 0, .ref a, .int b, .ref c] M Q) ∧
    (∀ (d : Nat) (a : Int32) (b : Nat) (c : Int32) (d2 : Nat) (L : List Value) (M : Mem) (Q : Option Value → Mem → Prop), Wp d 5 94 L [.int a, .ref b, .int c, .ref d2] M Q ↔ Wp d 5 96 L [.int 6, .int a, .ref b, .int c, .ref d2] M Q) ∧
    (∀ (d : Nat) (a : Int32) (b : Int32) (c : Nat) (d2 : Int32) (e : Nat) (L : List Value) (M : Mem) (Q : Option Value → Mem → Prop), Wp (d + 1) 5 96 L [.int a, .int b, .ref c, .int d2, .ref e] M Q ↔ (((isK e 13 = true ∧ isK c 13 = true) ∧ ((¬ d2 < 0 ∧ ¬ b < 0 ∧ ¬ a < 0) ∧ d2.toNatClampNeg + a.toNatClampNeg ≤ ln0 e ∧ b.toNatClampNeg + a.toNatClampNeg ≤ ln0 c)) ∧ Wp (d + 1) 5 99 L [] (upr M c (va_cpy (M e) (M c) d2.toNatClampNeg b.toNatClampNeg a.toNatClampNeg)) Q)) ∧
    (∀ (d : Nat) (v0 : Value) (x : Nat) (L : List Value) (M : Mem) (Q : Option Value → Mem → Prop), Wp d 5 99 (v0 :: .ref x :: L) [] M Q ↔ Wp d 5 100 (v0 :: .ref x :: L) [.ref x] M Q) ∧
    (∀ (d : Nat) (a : Nat) (L : List Value) (M : Mem) (Q : Option Value → Mem → Prop), Wp d 5 100 L [.ref a] M Q ↔ (isK a 1 = true ∧ Wp d 5 103 L [.ref (rt a 3)] M Q)) ∧
    (∀ (d : Nat) (a : Nat) (L : List Value) (M : Mem) (Q : Option Value → Mem → Prop), Wp d 5 103 L [.ref a] M Q ↔ Wp d 5 104 L [.int 0, .ref a] M Q) ∧
    (∀ (d : Nat) (a : Int32) (b : Nat) (x : Nat) (L : List Value) (M : Mem) (Q : Option Value → Mem → Prop), Wp d 5 104 (.ref x :: L) [.int a, .ref b] M Q ↔ Wp d 5 105 (.ref x :: L) [.ref x, .int a, .ref b] M Q) ∧
    (∀ (d : Nat) (a : Nat) (b : Int32) (c : Nat) (L : List Value) (M : Mem) (Q : Option Value → Mem → Prop), Wp d 5 105 L [.ref a, .int b, .ref c] M Q ↔ (isK a 1 = true ∧ Wp d 5 108 L [.ref (rt a 3), .int b, .ref c] M Q)) ∧
    (∀ (d : Nat) (a : Nat) (b : Int32) (c : Nat) (L : List Value) (M : Mem) (Q : Option Value → Mem → Prop), Wp d 5 108 L [.ref a, .int b, .ref c] M Q ↔ Wp d 5 109 L [.int 0, .ref a, .int b, .ref c] M Q) ∧
    (∀ (d : Nat) (a : Int32) (b : Nat) (c : Int32) (d2 : Nat) (L : List Value) (M : Mem) (Q : Option Value → Mem → Prop), Wp d 5 109 L [.int a, .ref b, .int c, .ref d2] M Q ↔ Wp d 5 111 L [.int 6, .int a, .ref b, .int c, .ref d2] M Q) ∧
    (∀ (d : Nat) (a : Int32) (b : Int32) (c : Nat) (d2 : Int32) (e : Nat) (L : List Value) (M : Mem) (Q : Option Value → Mem → Prop), Wp (d + 1) 5 111 L [.int a, .int b, .ref c, .int d2, .ref e] M Q ↔ (((isK e 13 = true ∧ isK c 13 = true) ∧ ((¬ d2 < 0 ∧ ¬ b < 0 ∧ ¬ a < 0) ∧ d2.toNatClampNeg + a.toNatClampNeg ≤ ln0 e ∧ b.toNatClampNeg + a.toNatClampNeg ≤ ln0 c)) ∧ Wp (d + 1) 5 114 L [] (upr M c (va_cpy (M e) (M c) d2.toNatClampNeg b.toNatClampNeg a.toNatClampNeg)) Q)) := by
  refine ⟨?_, ?_, ?_, ?_, ?_, ?_, ?_, ?_, ?_, ?_, ?_, ?_, ?_, ?_, ?_, ?_, ?_, ?_, ?_, ?_, ?_, ?_, ?_, ?_, ?_, ?_, ?_, ?_, ?_, ?_, ?_, ?_, ?_, ?_, ?_, ?_, ?_, ?_, ?_, ?_, ?_, ?_, ?_, ?_, ?_, ?_, ?_, ?_, ?_, ?_, ?_, ?_, ?_, ?_, ?_, ?_, ?_, ?_, ?_, ?_⟩
  · intro d x L M Q; exact Wp_sim (by decide +kernel : decode (cd 5) 0 = .ok (.aload_n 0, 1)) rfl rfl
  · intro d a v0 x L M Q; exact Wp_sim (by decide +kernel : decode (cd 5) 1 = .ok (.aload_n 1, 1)) rfl rfl
  · intro d a b L M Q; exact q_getI (p := 86) (by decide +kernel : decode (cd 5) 2 = .ok (.getfield 36, 3)) (by decide +kernel) (by decide +kernel)
  · intro d a b L M Q; exact q_putZ (p := 86) (by decide +kernel : decode (cd 5) 5 = .ok (.putfield 36, 3)) (by decide +kernel) (by decide +kernel)
  · intro d x L M Q; exact Wp_sim (by decide +kernel : decode (cd 5) 8 = .ok (.aload_n 0, 1)) rfl rfl
  · intro d a v0 x L M Q; exact Wp_sim (by decide +kernel : decode (cd 5) 9 = .ok (.aload_n 1, 1)) rfl rfl
  · intro d a b L M Q; exact q_getI (p := 89) (by decide +kernel : decode (cd 5) 10 = .ok (.getfield 40, 3)) (by decide +kernel) (by decide +kernel)
  · intro d a b L M Q; exact q_putI (p := 89) (by decide +kernel : decode (cd 5) 13 = .ok (.putfield 40, 3)) (by decide +kernel) (by decide +kernel)
  · intro d x L M Q; exact Wp_sim (by decide +kernel : decode (cd 5) 16 = .ok (.aload_n 0, 1)) rfl rfl
  · intro d a v0 x L M Q; exact Wp_sim (by decide +kernel : decode (cd 5) 17 = .ok (.aload_n 1, 1)) rfl rfl
  · intro d a b L M Q; exact q_getI (p := 92) (by decide +kernel : decode (cd 5) 18 = .ok (.getfield 44, 3)) (by decide +kernel) (by decide +kernel)
  · intro d a b L M Q; exact q_putI (p := 92) (by decide +kernel : decode (cd 5) 21 = .ok (.putfield 44, 3)) (by decide +kernel) (by decide +kernel)
  · intro d x L M Q; exact Wp_sim (by decide +kernel : decode (cd 5) 24 = .ok (.aload_n 0, 1)) rfl rfl
  · intro d a v0 x L M Q; exact Wp_sim (by decide +kernel : decode (cd 5) 25 = .ok (.aload_n 1, 1)) rfl rfl
  · intro d a b L M Q; exact q_getI (p := 95) (by decide +kernel : decode (cd 5) 26 = .ok (.getfield 47, 3)) (by decide +kernel) (by decide +kernel)
  · intro d a b L M Q; exact q_putI (p := 95) (by decide +kernel : decode (cd 5) 29 = .ok (.putfield 47, 3)) (by decide +kernel) (by decide +kernel)
  · intro d x L M Q; exact Wp_sim (by decide +kernel : decode (cd 5) 32 = .ok (.aload_n 0, 1)) rfl rfl
  · intro d a v0 x L M Q; exact Wp_sim (by decide +kernel : decode (cd 5) 33 = .ok (.aload_n 1, 1)) rfl rfl
  · intro d a b L M Q; exact q_getI (p := 98) (by decide +kernel : decode (cd 5) 34 = .ok (.getfield 50, 3)) (by decide +kernel) (by decide +kernel)
  · intro d a b L M Q; exact q_putI (p := 98) (by decide +kernel : decode (cd 5) 37 = .ok (.putfield 50, 3)) (by decide +kernel) (by decide +kernel)
  · intro d x L M Q; exact Wp_sim (by decide +kernel : decode (cd 5) 40 = .ok (.aload_n 0, 1)) rfl rfl
  · intro d a v0 x L M Q; exact Wp_sim (by decide +kernel : decode (cd 5) 41 = .ok (.aload_n 1, 1)) rfl rfl
  · intro d a b L M Q; exact q_getI (p := 102) (by decide +kernel : decode (cd 5) 42 = .ok (.getfield 53, 3)) (by decide +kernel) (by decide +kernel)
  · intro d a b L M Q; exact q_putI (p := 102) (by decide +kernel : decode (cd 5) 45 = .ok (.putfield 53, 3)) (by decide +kernel) (by decide +kernel)
  · intro d x L M Q; exact Wp_sim (by decide +kernel : decode (cd 5) 48 = .ok (.aload_n 0, 1)) rfl rfl
  · intro d a v0 x L M Q; exact Wp_sim (by decide +kernel : decode (cd 5) 49 = .ok (.aload_n 1, 1)) rfl rfl
  · intro d a b L M Q; exact q_getI (p := 105) (by decide +kernel : decode (cd 5) 50 = .ok (.getfield 56, 3)) (by decide +kernel) (by decide +kernel)
  · intro d a b L M Q; exact q_putI (p := 105) (by decide +kernel : decode (cd 5) 53 = .ok (.putfield 56, 3)) (by decide +kernel) (by decide +kernel)
  · intro d v0 x L M Q; exact Wp_sim (by decide +kernel : decode (cd 5) 56 = .ok (.aload_n 1, 1)) rfl rfl
  · intro d a L M Q; exact q_getR (p := 68) (by decide +kernel : decode (cd 5) 57 = .ok (.getfield 9, 3)) (by decide +kernel) (by decide +kernel)
  · intro d a L M Q; exact Wp_sim (by decide +kernel : decode (cd 5) 60 = .ok (.iconst 0, 1)) rfl rfl
  · intro d a b x L M Q; exact Wp_sim (by decide +kernel : decode (cd 5) 61 = .ok (.aload_n 0, 1)) rfl rfl
  · intro d a b c L M Q; exact q_getR (p := 68) (by decide +kernel : decode (cd 5) 62 = .ok (.getfield 9, 3)) (by decide +kernel) (by decide +kernel)
  · intro d a b c L M Q; exact Wp_sim (by decide +kernel : decode (cd 5) 65 = .ok (.iconst 0, 1)) rfl rfl
  · intro d a b c d2 L M Q; exact Wp_sim (by decide +kernel : decode (cd 5) 66 = .ok (.iconst 4, 1)) rfl rfl
  · intro d a b c d2 e L M Q; exact q_cpy (p := 417) (by decide +kernel : decode (cd 5) 67 = .ok (.invokestatic 59, 3)) (by decide +kernel) (by decide +kernel) (by decide +kernel) (Nat.le_of_ble_eq_true rfl)
  · intro d v0 x L M Q; exact Wp_sim (by decide +kernel : decode (cd 5) 70 = .ok (.aload_n 1, 1)) rfl rfl
  · intro d a L M Q; exact q_getR (p := 69) (by decide +kernel : decode (cd 5) 71 = .ok (.getfield 15, 3)) (by decide +kernel) (by decide +kernel)
  · intro d a L M Q; exact Wp_sim (by decide +kernel : decode (cd 5) 74 = .ok (.iconst 0, 1)) rfl rfl
  · intro d a b x L M Q; exact Wp_sim (by decide +kernel : decode (cd 5) 75 = .ok (.aload_n 0, 1)) rfl rfl
  · intro d a b c L M Q; exact q_getR (p := 69) (by decide +kernel : decode (cd 5) 76 = .ok (.getfield 15, 3)) (by decide +kernel) (by decide +kernel)
  · intro d a b c L M Q; exact Wp_sim (by decide +kernel : decode (cd 5) 79 = .ok (.iconst 0, 1)) rfl rfl
  · intro d a b c d2 L M Q; exact Wp_sim (by decide +kernel : decode (cd 5) 80 = .ok (.iconst 4, 1)) rfl rfl
  · intro d a b c d2 e L M Q; exact q_cpy (p := 417) (by decide +kernel : decode (cd 5) 81 = .ok (.invokestatic 59, 3)) (by decide +kernel) (by decide +kernel) (by decide +kernel) (Nat.le_of_ble_eq_true rfl)
  · intro d v0 x L M Q; exact Wp_sim (by decide +kernel : decode (cd 5) 84 = .ok (.aload_n 1, 1)) rfl rfl
  · intro d a L M Q; exact q_getR (p := 70) (by decide +kernel : decode (cd 5) 85 = .ok (.getfield 18, 3)) (by decide +kernel) (by decide +kernel)
  · intro d a L M Q; exact Wp_sim (by decide +kernel : decode (cd 5) 88 = .ok (.iconst 0, 1)) rfl rfl
  · intro d a b x L M Q; exact Wp_sim (by decide +kernel : decode (cd 5) 89 = .ok (.aload_n 0, 1)) rfl rfl
  · intro d a b c L M Q; exact q_getR (p := 70) (by decide +kernel : decode (cd 5) 90 = .ok (.getfield 18, 3)) (by decide +kernel) (by decide +kernel)
  · intro d a b c L M Q; exact Wp_sim (by decide +kernel : decode (cd 5) 93 = .ok (.iconst 0, 1)) rfl rfl
  · intro d a b c d2 L M Q; exact Wp_sim (by decide +kernel : decode (cd 5) 94 = .ok (.bipush 6, 2)) rfl rfl
  · intro d a b c d2 e L M Q; exact q_cpy (p := 417) (by decide +kernel : decode (cd 5) 96 = .ok (.invokestatic 59, 3)) (by decide +kernel) (by decide +kernel) (by decide +kernel) (Nat.le_of_ble_eq_true rfl)
  · intro d v0 x L M Q; exact Wp_sim (by decide +kernel : decode (cd 5) 99 = .ok (.aload_n 1, 1)) rfl rfl
  · intro d a L M Q; exact q_getR (p := 73) (by decide +kernel : decode (cd 5) 100 = .ok (.getfield 21, 3)) (by decide +kernel) (by decide +kernel)
  · intro d a L M Q; exact Wp_sim (by decide +kernel : decode (cd 5) 103 = .ok (.iconst 0, 1)) rfl rfl
  · intro d a b x L M Q; exact Wp_sim (by decide +kernel : decode (cd 5) 104 = .ok (.aload_n 0, 1)) rfl rfl
  · intro d a b c L M Q; exact q_getR (p := 73) (by decide +kernel : decode (cd 5) 105 = .ok (.getfield 21, 3)) (by decide +kernel) (by decide +kernel)
  · intro d a b c L M Q; exact Wp_sim (by decide +kernel : decode (cd 5) 108 = .ok (.iconst 0, 1)) rfl rfl
  · intro d a b c d2 L M Q; exact Wp_sim (by decide +kernel : decode (cd 5) 109 = .ok (.bipush 6, 2)) rfl rfl
  · intro d a b c d2 e L M Q; exact q_cpy (p := 417) (by decide +kernel : decode (cd 5) 111 = .ok (.invokestatic 59, 3)) (by decide +kernel) (by decide +kernel) (by decide +kernel) (Nat.le_of_ble_eq_true rfl)
set_option maxRecDepth 10000 in
theorem e5_1 : (∀ (d : Nat) (v0 : Value) (x : Nat) (L : List Value) (M : Mem) (Q : Option Value → Mem → Prop), Wp d 5 114 (v0 :: .ref x :: L) [] M Q ↔ Wp d 5 115 (v0 :: .ref x :: L) [.ref x] M Q) ∧
    (∀ (d : Nat) (a : Nat) (L : List Value) (M : Mem) (Q : Option Value → Mem → Prop), Wp d 5 115 L [.ref a] M Q ↔ (isK a 1 = true ∧ Wp d 5 118 L [.ref (rt a 4)] M Q)) ∧
    (∀ (d : Nat) (a : Nat) (L : List Value) (M : Mem) (Q : Option Value → Mem → Prop), Wp d 5 118 L [.ref a] M Q ↔ Wp d 5 119 L [.int 0, .ref a] M Q) ∧
    (∀ (d : Nat) (a : Int32) (b : Nat) (x : Nat) (L : List Value) (M : Mem) (Q : Option Value → Mem → Prop), Wp d 5 119 (.ref x :: L) [.int a, .ref b] M Q ↔ Wp d 5 120 (.ref x :: L) [.ref x, .int a, .ref b] M Q) ∧
    (∀ (d : Nat) (a : Nat) (b : Int32) (c : Nat) (L : List Value) (M : Mem) (Q : Option Value → Mem → Prop), Wp d 5 120 L [.ref a, .int b, .ref c] M Q ↔ (isK a 1 = true ∧ Wp d 5 123 L [.ref (rt a 4), .int b, .ref c] M Q)) ∧
    (∀ (d : Nat) (a : Nat) (b : Int32) (c : Nat) (L : List Value) (M : Mem) (Q : Option Value → Mem → Prop), Wp d 5 123 L [.ref a, .int b, .ref c] M Q ↔ Wp d 5 124 L [.int 0, .ref a, .int b, .ref c] M Q) ∧
    (∀ (d : Nat) (a : Int32) (b : Nat) (c : Int32) (d2 : Nat) (L : List Value) (M : Mem) (Q : Option Value → Mem → Prop), Wp d 5 124 L [.int a, .ref b, .int c, .ref d2] M Q ↔ Wp d 5 126 L [.int 6, .int a, .ref b, .int c, .ref d2] M Q) ∧
    (∀ (d : Nat) (a : Int32) (b : Int32) (c : Nat) (d2 : Int32) (e : Nat) (L : List Value) (M : Mem) (Q : Option Value → Mem → Prop), Wp (d + 1) 5 126 L [.int a, .int b, .ref c, .int d2, .ref e] M Q ↔ (((isK e 13 = true ∧ isK c 13 = true) ∧ ((¬ d2 < 0 ∧ ¬ b < 0 ∧ ¬ a < 0) ∧ d2.toNatClampNeg + a.toNatClampNeg ≤ ln0 e ∧ b.toNatClampNeg + a.toNatClampNeg ≤ ln0 c)) ∧ Wp (d + 1) 5 129 L [] (upr M c (va_cpy (M e) (M c) d2.toNatClampNeg b.toNatClampNeg a.toNatClampNeg)) Q)) ∧
    (∀ (d : Nat) (v0 : Value) (x : Nat) (L : List Value) (M : Mem) (Q : Option Value → Mem → Prop), Wp d 5 129 (v0 :: .ref x :: L) [] M Q ↔ Wp d 5 130 (v0 :: .ref x :: L) [.ref x] M Q) ∧
    (∀ (d : Nat) (a : Nat) (L : List Value) (M : Mem) (Q : Option Value → Mem → Prop), Wp d 5 130 L [.ref a] M Q ↔ (isK a 1 = true ∧ Wp d 5 133 L [.ref (rt a 5)] M Q)) ∧
    (∀ (d : Nat) (a : Nat) (L : List Value) (M : Mem) (Q : Option Value → Mem → Prop), Wp d 5 133 L [.ref a] M Q ↔ Wp d 5 134 L [.int 0, .ref a] M Q) ∧
    (∀ (d : Nat) (a : Int32) (b : Nat) (x : Nat) (L : List Value) (M : Mem) (Q : Option Value → Mem → Prop), Wp d 5 134 (.ref x :: L) [.int a, .ref b] M Q ↔ Wp d 5 135 (.ref x :: L) [.ref x, .int a, .ref b] M Q) ∧
    (∀ (d : Nat) (a : Nat) (b : Int32) (c : Nat) (L : List Value) (M : Mem) (Q : Option Value → Mem → Prop), Wp d 5 135 L [.ref a, .int b, .ref c] M Q ↔ (isK a 1 = true ∧ Wp d 5 138 L [.ref (rt a 5), .int b, .ref c] M Q)) ∧
    (∀ (d : Nat) (a : Nat) (b : Int32) (c : Nat) (L : List Value) (M : Mem) (Q : Option Value → Mem → Prop), Wp d 5 138 L [.ref a, .int b, .ref c] M Q ↔ Wp d 5 139 L [.int 0, .ref a, .int b, .ref c] M Q) ∧
    (∀ (d : Nat) (a : Int32) (b : Nat) (c : Int32) (d2 : Nat) (L : List Value) (M : Mem) (Q : Option Value → Mem → Prop), Wp d 5 139 L [.int a, .ref b, .int c, .ref d2] M Q ↔ Wp d 5 141 L [.int 6, .int a, .ref b, .int c, .ref d2] M Q) ∧
    (∀ (d : Nat) (a : Int32) (b : Int32) (c : Nat) (d2 : Int32) (e : Nat) (L : List Value) (M : Mem) (Q : Option Value → Mem → Prop), Wp (d + 1) 5 141 L [.int a, .int b, .ref c, .int d2, .ref e] M Q ↔ (((isK e 13 = true ∧ isK c 13 = true) ∧ ((¬ d2 < 0 ∧ ¬ b < 0 ∧ ¬ a < 0) ∧ d2.toNatClampNeg + a.toNatClampNeg ≤ ln0 e ∧ b.toNatClampNeg + a.toNatClampNeg ≤ ln0 c)) ∧ Wp (d + 1) 5 144 L [] (upr M c (va_cpy (M e) (M c) d2.toNatClampNeg b.toNatClampNeg a.toNatClampNeg)) Q)) ∧
    (∀ (d : Nat) (v0 : Value) (x : Nat) (L : List Value) (M : Mem) (Q : Option Value → Mem → Prop), Wp d 5 144 (v0 :: .ref x :: L) [] M Q ↔ Wp d 5 145 (v0 :: .ref x :: L) [.ref x] M Q) ∧
    (∀ (d : Nat) (a : Nat) (L : List Value) (M : Mem) (Q : Option Value → Mem → Prop), Wp d 5 145 L [.ref a] M Q ↔ (isK a 1 = true ∧ Wp d 5 148 L [.ref (rt a 6)] M Q)) ∧
    (∀ (d : Nat) (a : Nat) (L : List Value) (M : Mem) (Q : Option Value → Mem → Prop), Wp d 5 148 L [.ref a] M Q ↔ Wp d 5 149 L [.int 0, .ref a] M Q) ∧
    (∀ (d : Nat) (a : Int32) (b : Nat) (x : Nat) (L : List Value) (M : Mem) (Q : Option Value → Mem → Prop), Wp d 5 149 (.ref x :: L) [.int a, .ref b] M Q ↔ Wp d 5 150 (.ref x :: L) [.ref x, .int a, .ref b] M Q) ∧
    (∀ (d : Nat) (a : Nat) (b : Int32) (c : Nat) (L : List Value) (M : Mem) (Q : Option Value → Mem → Prop), Wp d 5 150 L [.ref a, .int b, .ref c] M Q ↔ (isK a 1 = true ∧ Wp d 5 153 L [.ref (rt a 6), .int b, .ref c] M Q)) ∧
    (∀ (d : Nat) (a : Nat) (b : Int32) (c : Nat) (L : List Value) (M : Mem) (Q : Option Value → Mem → Prop), Wp d 5 153 L [.ref a, .int b, .ref c] M Q ↔ Wp d 5 154 L [.int 0, .ref a, .int b, .ref c] M Q) ∧
    (∀ (d : Nat) (a : Int32) (b : Nat) (c : Int32) (d2 : Nat) (L : List Value) (M : Mem) (Q : Option Value → Mem → Prop), Wp d 5 154 L [.int a, .ref b, .int c, .ref d2] M Q ↔ Wp d 5 156 L [.int 6, .int a, .ref b, .int c, .ref d2] M Q) ∧
    (∀ (d : Nat) (a : Int32) (b : Int32) (c : Nat) (d2 : Int32) (e : Nat) (L : List Value) (M : Mem) (Q : Option Value → Mem → Prop), Wp (d + 1) 5 156 L [.int a, .int b, .ref c, .int d2, .ref e] M Q ↔ (((isK e 13 = true ∧ isK c 13 = true) ∧ ((¬ d2 < 0 ∧ ¬ b < 0 ∧ ¬ a < 0) ∧ d2.toNatClampNeg + a.toNatClampNeg ≤ ln0 e ∧ b.toNatClampNeg + a.toNatClampNeg ≤ ln0 c)) ∧ Wp (d + 1) 5 159 L [] (upr M c (va_cpy (M e) (M c) d2.toNatClampNeg b.toNatClampNeg a.toNatClampNeg)) Q)) ∧
    (∀ (d : Nat) (v0 : Value) (x : Nat) (L : List Value) (M : Mem) (Q : Option Value → Mem → Prop), Wp d 5 159 (v0 :: .ref x :: L) [] M Q ↔ Wp d 5 160 (v0 :: .ref x :: L) [.ref x] M Q) ∧
    (∀ (d : Nat) (a : Nat) (L : List Value) (M : Mem) (Q : Option Value → Mem → Prop), Wp d 5 160 L [.ref a] M Q ↔ (isK a 1 = true ∧ Wp d 5 163 L [.ref (rt a 7)] M Q)) ∧
    (∀ (d : Nat) (a : Nat) (L : List Value) (M : Mem) (Q : Option Value → Mem → Prop), Wp d 5 163 L [.ref a] M Q ↔ Wp d 5 164 L [.int 0, .ref a] M Q) ∧
    (∀ (d : Nat) (a : Int32) (b : Nat) (x : Nat) (L : List Value) (M : Mem) (Q : Option Value → Mem → Prop), Wp d 5 164 (.ref x :: L) [.int a, .ref b] M Q ↔ Wp d 5 165 (.ref x :: L) [.ref x, .int a, .ref b] M Q) ∧
    (∀ (d : Nat) (a : Nat) (b : Int32) (c : Nat) (L : List Value) (M : Mem) (Q : Option Value → Mem → Prop), Wp d 5 165 L [.ref a, .int b, .ref c] M Q ↔ (isK a 1 = true ∧ Wp d 5 168 L [.ref (rt a 7), .int b, .ref c] M Q)) ∧
    (∀ (d : Nat) (a : Nat) (b : Int32) (c : Nat) (L : List Value) (M : Mem) (Q : Option Value → Mem → Prop), Wp d 5 168 L [.ref a, .int b, .ref c] M Q ↔ Wp d 5 169 L [.int 0, .ref a, .int b, .ref c] M Q) ∧
    (∀ (d : Nat) (a : Int32) (b : Nat) (c : Int32) (d2 : Nat) (L : List Value) (M : Mem) (Q : Option Value → Mem → Prop), Wp d 5 169 L [.int a, .ref b, .int c, .ref d2] M Q ↔ Wp d 5 171 L [.int 6, .int a, .ref b, .int c, .ref d2] M Q) ∧
    (∀ (d : Nat) (a : Int32) (b : Int32) (c : Nat) (d2 : Int32) (e : Nat) (L : List Value) (M : Mem) (Q : Option Value → Mem → Prop), Wp (d + 1) 5 171 L [.int a, .int b, .ref c, .int d2, .ref e] M Q ↔ (((isK e 13 = true ∧ isK c 13 = true) ∧ ((¬ d2 < 0 ∧ ¬ b < 0 ∧ ¬ a < 0) ∧ d2.toNatClampNeg + a.toNatClampNeg ≤ ln0 e ∧ b.toNatClampNeg + a.toNatClampNeg ≤ ln0 c)) ∧ Wp (d + 1) 5 174 L [] (upr M c (va_cpy (M e) (M c) d2.toNatClampNeg b.toNatClampNeg a.toNatClampNeg)) Q)) ∧
    (∀ (d : Nat) (L : List Value) (M : Mem) (Q : Option Value → Mem → Prop), Wp d 5 174 L [] M Q ↔ Q none M) := by
  refine ⟨?_, ?_, ?_, ?_, ?_, ?_, ?_, ?_, ?_, ?_, ?_, ?_, ?_, ?_, ?_, ?_, ?_, ?_, ?_, ?_, ?_, ?_, ?_, ?_, ?_, ?_, ?_, ?_, ?_, ?_, ?_, ?_, ?_⟩
  · intro d v0 x L M Q; exact Wp_sim (by decide +kernel : decode (cd 5) 114 = .ok (.aload_n 1, 1)) rfl rfl
  · intro d a L M Q; exact q_getR (p := 76) (by decide +kernel : decode (cd 5) 115 = .ok (.getfield 24, 3)) (by decide +kernel) (by decide +kernel)
  · intro d a L M Q; exact Wp_sim (by decide +kernel : decode (cd 5) 118 = .ok (.iconst 0, 1)) rfl rfl
  · intro d a b x L M Q; exact Wp_sim (by decide +kernel : decode (cd 5) 119 = .ok (.aload_n 0, 1)) rfl rfl
  · intro d a b c L M Q; exact q_getR (p := 76) (by decide +kernel : decode (cd 5) 120 = .ok (.getfield 24, 3)) (by decide +kernel) (by decide +kernel)
  · intro d a b c L M Q; exact Wp_sim (by decide +kernel : decode (cd 5) 123 = .ok (.iconst 0, 1)) rfl rfl
  · intro d a b c d2 L M Q; exact Wp_sim (by decide +kernel : decode (cd 5) 124 = .ok (.bipush 6, 2)) rfl rfl
  · intro d a b c d2 e L M Q; exact q_cpy (p := 417) (by decide +kernel : decode (cd 5) 126 = .ok (.invokestatic 59, 3)) (by decide +kernel) (by decide +kernel) (by decide +kernel) (Nat.le_of_ble_eq_true rfl)
  · intro d v0 x L M Q; exact Wp_sim (by decide +kernel : decode (cd 5) 129 = .ok (.aload_n 1, 1)) rfl rfl
  · intro d a L M Q; exact q_getR (p := 79) (by decide +kernel : decode (cd 5) 130 = .ok (.getfield 27, 3)) (by decide +kernel) (by decide +kernel)
  · intro d a L M Q; exact Wp_sim (by decide +kernel : decode (cd 5) 133 = .ok (.iconst 0, 1)) rfl rfl
  · intro d a b x L M Q; exact Wp_sim (by decide +kernel : decode (cd 5) 134 = .ok (.aload_n 0, 1)) rfl rfl
  · intro d a b c L M Q; exact q_getR (p := 79) (by decide +kernel : decode (cd 5) 135 = .ok (.getfield 27, 3)) (by decide +kernel) (by decide +kernel)
  · intro d a b c L M Q; exact Wp_sim (by decide +kernel : decode (cd 5) 138 = .ok (.iconst 0, 1)) rfl rfl
  · intro d a b c d2 L M Q; exact Wp_sim (by decide +kernel : decode (cd 5) 139 = .ok (.bipush 6, 2)) rfl rfl
  · intro d a b c d2 e L M Q; exact q_cpy (p := 417) (by decide +kernel : decode (cd 5) 141 = .ok (.invokestatic 59, 3)) (by decide +kernel) (by decide +kernel) (by decide +kernel) (Nat.le_of_ble_eq_true rfl)
  · intro d v0 x L M Q; exact Wp_sim (by decide +kernel : decode (cd 5) 144 = .ok (.aload_n 1, 1)) rfl rfl
  · intro d a L M Q; exact q_getR (p := 81) (by decide +kernel : decode (cd 5) 145 = .ok (.getfield 30, 3)) (by decide +kernel) (by decide +kernel)
  · intro d a L M Q; exact Wp_sim (by decide +kernel : decode (cd 5) 148 = .ok (.iconst 0, 1)) rfl rfl
  · intro d a b x L M Q; exact Wp_sim (by decide +kernel : decode (cd 5) 149 = .ok (.aload_n 0, 1)) rfl rfl
  · intro d a b c L M Q; exact q_getR (p := 81) (by decide +kernel : decode (cd 5) 150 = .ok (.getfield 30, 3)) (by decide +kernel) (by decide +kernel)
  · intro d a b c L M Q; exact Wp_sim (by decide +kernel : decode (cd 5) 153 = .ok (.iconst 0, 1)) rfl rfl
  · intro d a b c d2 L M Q; exact Wp_sim (by decide +kernel : decode (cd 5) 154 = .ok (.bipush 6, 2)) rfl rfl
  · intro d a b c d2 e L M Q; exact q_cpy (p := 417) (by decide +kernel : decode (cd 5) 156 = .ok (.invokestatic 59, 3)) (by decide +kernel) (by decide +kernel) (by decide +kernel) (Nat.le_of_ble_eq_true rfl)
  · intro d v0 x L M Q; exact Wp_sim (by decide +kernel : decode (cd 5) 159 = .ok (.aload_n 1, 1)) rfl rfl
  · intro d a L M Q; exact q_getR (p := 83) (by decide +kernel : decode (cd 5) 160 = .ok (.getfield 33, 3)) (by decide +kernel) (by decide +kernel)
  · intro d a L M Q; exact Wp_sim (by decide +kernel : decode (cd 5) 163 = .ok (.iconst 0, 1)) rfl rfl
  · intro d a b x L M Q; exact Wp_sim (by decide +kernel : decode (cd 5) 164 = .ok (.aload_n 0, 1)) rfl rfl
  · intro d a b c L M Q; exact q_getR (p := 83) (by decide +kernel : decode (cd 5) 165 = .ok (.getfield 33, 3)) (by decide +kernel) (by decide +kernel)
  · intro d a b c L M Q; exact Wp_sim (by decide +kernel : decode (cd 5) 168 = .ok (.iconst 0, 1)) rfl rfl
  · intro d a b c d2 L M Q; exact Wp_sim (by decide +kernel : decode (cd 5) 169 = .ok (.bipush 6, 2)) rfl rfl
  · intro d a b c d2 e L M Q; exact q_cpy (p := 417) (by decide +kernel : decode (cd 5) 171 = .ok (.invokestatic 59, 3)) (by decide +kernel) (by decide +kernel) (by decide +kernel) (Nat.le_of_ble_eq_true rfl)
  · intro d L M Q; exact q_vret (by decide +kernel : decode (cd 5) 174 = .ok (.return_ , 1)) (by decide +kernel)

/- 6: Close.acceptedBy -/
set_option maxRecDepth 10000 in
theorem e6 : (∀ (d : Nat) (v0 : Value) (x : Int32) (L : List Value) (M : Mem) (Q : Option Value → Mem → Prop), Wp d 6 0 (v0 :: .int x :: L) [] M Q ↔ Wp d 6 1 (v0 :: .int x :: L) [.int x] M Q) ∧
    (∀ (d : Nat) (a : Int32) (L : List Value) (M : Mem) (Q : Option Value → Mem → Prop), Wp d 6 1 L [.int a] M Q ↔ (if a < 0 then Wp d 6 12 L [] M Q else Wp d 6 4 L [] M Q)) ∧
    (∀ (d : Nat) (v0 : Value) (x : Int32) (L : List Value) (M : Mem) (Q : Option Value → Mem → Prop), Wp d 6 4 (v0 :: .int x :: L) [] M Q ↔ Wp d 6 5 (v0 :: .int x :: L) [.int x] M Q) ∧
    (∀ (d : Nat) (a : Int32) (x : Nat) (L : List Value) (M : Mem) (Q : Option Value → Mem → Prop), Wp d 6 5 (.ref x :: L) [.int a] M Q ↔ Wp d 6 6 (.ref x :: L) [.ref x, .int a] M Q) ∧
    (∀ (d : Nat) (a : Nat) (b : Int32) (L : List Value) (M : Mem) (Q : Option Value → Mem → Prop), Wp d 6 6 L [.ref a, .int b] M Q ↔ (isK a 1 = true ∧ Wp d 6 9 L [.int (M a 12), .int b] M Q)) ∧
    (∀ (d : Nat) (a : Int32) (b : Int32) (L : List Value) (M : Mem) (Q : Option Value → Mem → Prop), Wp d 6 9 L [.int a, .int b] M Q ↔ (if b < a then Wp d 6 14 L [] M Q else Wp d 6 12 L [] M Q)) ∧
    (∀ (d : Nat) (L : List Value) (M : Mem) (Q : Option Value → Mem → Prop), Wp d 6 12 L [] M Q ↔ Wp d 6 13 L [.int 0] M Q) ∧
    (∀ (d : Nat) (a : Int32) (L : List Value) (M : Mem) (Q : Option Value → Mem → Prop), Wp d 6 13 L [.int a] M Q ↔ Q (some (.int a)) M) ∧
    (∀ (d : Nat) (x : Nat) (L : List Value) (M : Mem) (Q : Option Value → Mem → Prop), Wp d 6 14 (.ref x :: L) [] M Q ↔ Wp d 6 15 (.ref x :: L) [.ref x] M Q) ∧
    (∀ (d : Nat) (a : Nat) (L : List Value) (M : Mem) (Q : Option Value → Mem → Prop), Wp d 6 15 L [.ref a] M Q ↔ (isK a 1 = true ∧ Wp d 6 18 L [.ref (rt a 0)] M Q)) ∧
    (∀ (d : Nat) (a : Nat) (v0 : Value) (x : Int32) (L : List Value) (M : Mem) (Q : Option Value → Mem → Prop), Wp d 6 18 (v0 :: .int x :: L) [.ref a] M Q ↔ Wp d 6 19 (v0 :: .int x :: L) [.int x, .ref a] M Q) ∧
    (∀ (d : Nat) (a : Int32) (b : Nat) (L : List Value) (M : Mem) (Q : Option Value → Mem → Prop), Wp d 6 19 L [.int a, .ref b] M Q ↔ ((isR b = true ∧ inr a (lnm M b)) ∧ Wp d 6 20 L [.int (M b a.toNatClampNeg)] M Q)) ∧
    (∀ (d : Nat) (a : Int32) (L : List Value) (M : Mem) (Q : Option Value → Mem → Prop), Wp d 6 20 L [.int a] M Q ↔ Wp d 6 21 L [.int 5, .int a] M Q) ∧
    (∀ (d : Nat) (a : Int32) (b : Int32) (L : List Value) (M : Mem) (Q : Option Value → Mem → Prop), Wp (d + 1) 6 21 L [.int a, .int b] M Q ↔ Wp (d + 1) 6 24 L [.int (mn b a)] M Q) ∧
    (∀ (d : Nat) (a : Int32) (v0 : Value) (v1 : Value) (v2 : Value) (x : Value) (L : List Value) (M : Mem) (Q : Option Value → Mem → Prop), Wp d 6 24 (v0 :: v1 :: v2 :: x :: L) [.int a] M Q ↔ Wp d 6 25 (v0 :: v1 :: clr v2 :: .int a :: L) [] M Q) ∧
    (∀ (d : Nat) (x : Nat) (L : List Value) (M : Mem) (Q : Option Value → Mem → Prop), Wp d 6 25 (.ref x :: L) [] M Q ↔ Wp d 6 26 (.ref x :: L) [.ref x] M Q) ∧
    (∀ (d : Nat) (a : Nat) (L : List Value) (M : Mem) (Q : Option Value → Mem → Prop), Wp d 6 26 L [.ref a] M Q ↔ (isK a 1 = true ∧ Wp d 6 29 L [.ref (rt a 0)] M Q)) ∧
    (∀ (d : Nat) (a : Nat) (v0 : Value) (x : Int32) (L : List Value) (M : Mem) (Q : Option Value → Mem → Prop), Wp d 6 29 (v0 :: .int x :: L) [.ref a] M Q ↔ Wp d 6 30 (v0 :: .int x :: L) [.int x, .ref a] M Q) ∧
    (∀ (d : Nat) (a : Int32) (b : Nat) (L : List Value) (M : Mem) (Q : Option Value → Mem → Prop), Wp d 6 30 L [.int a, .ref b] M Q ↔ ((isR b = true ∧ inr a (lnm M b)) ∧ Wp d 6 31 L [.int (M b a.toNatClampNeg)] M Q)) ∧
    (∀ (d : Nat) (a : Int32) (x : Nat) (L : List Value) (M : Mem) (Q : Option Value → Mem → Prop), Wp d 6 31 (.ref x :: L) [.int a] M Q ↔ Wp d 6 32 (.ref x :: L) [.ref x, .int a] M Q) ∧
    (∀ (d : Nat) (a : Nat) (b : Int32) (L : List Value) (M : Mem) (Q : Option Value → Mem → Prop), Wp d 6 32 L [.ref a, .int b] M Q ↔ (isK a 1 = true ∧ Wp d 6 35 L [.ref (rt a 1), .int b] M Q)) ∧
    (∀ (d : Nat) (a : Nat) (b : Int32) (v0 : Value) (x : Int32) (L : List Value) (M : Mem) (Q : Option Value → Mem → Prop), Wp d 6 35 (v0 :: .int x :: L) [.ref a, .int b] M Q ↔ Wp d 6 36 (v0 :: .int x :: L) [.int x, .ref a, .int b] M Q) ∧
    (∀ (d : Nat) (a : Int32) (b : Nat) (c : Int32) (L : List Value) (M : Mem) (Q : Option Value → Mem → Prop), Wp d 6 36 L [.int a, .ref b, .int c] M Q ↔ ((isR b = true ∧ inr a (lnm M b)) ∧ Wp d 6 37 L [.int (M b a.toNatClampNeg), .int c] M Q)) ∧
    (∀ (d : Nat) (a : Int32) (b : Int32) (v0 : Value) (v1 : Value) (x : Int32) (L : List Value) (M : Mem) (Q : Option Value → Mem → Prop), Wp d 6 37 (v0 :: v1 :: .int x :: L) [.int a, .int b] M Q ↔ Wp d 6 38 (v0 :: v1 :: .int x :: L) [.int x, .int a, .int b] M Q) ∧
    (∀ (d : Nat) (a : Int32) (b : Int32) (c : Int32) (L : List Value) (M : Mem) (Q : Option Value → Mem → Prop), Wp d 6 38 L [.int a, .int b, .int c] M Q ↔ Wp d 6 39 L [.int (b * a), .int c] M Q) ∧
    (∀ (d : Nat) (a : Int32) (b : Int32) (L : List Value) (M : Mem) (Q : Option Value → Mem → Prop), Wp d 6 39 L [.int a, .int b] M Q ↔ Wp d 6 40 L [.int (b - a)] M Q) ∧
    (∀ (d : Nat) (a : Int32) (v0 : Value) (v1 : Value) (v2 : Value) (x : Int32) (L : List Value) (M : Mem) (Q : Option Value → Mem → Prop), Wp d 6 40 (v0 :: v1 :: v2 :: .int x :: L) [.int a] M Q ↔ Wp d 6 41 (v0 :: v1 :: v2 :: .int x :: L) [.int x, .int a] M Q) ∧
    (∀ (d : Nat) (a : Int32) (b : Int32) (L : List Value) (M : Mem) (Q : Option Value → Mem → Prop), Wp (d + 1) 6 41 L [.int a, .int b] M Q ↔ Wp (d + 1) 6 44 L [.int (mx b a)] M Q) ∧
    (∀ (d : Nat) (a : Int32) (L : List Value) (M : Mem) (Q : Option Value → Mem → Prop), Wp d 6 44 L [.int a] M Q ↔ Q (some (.int a)) M) := by
  refine ⟨?_, ?_, ?_, ?_, ?_, ?_, ?_, ?_, ?_, ?_, ?_, ?_, ?_, ?_, ?_, ?_, ?_, ?_, ?_, ?_, ?_, ?_, ?_, ?_, ?_, ?_, ?_, ?_, ?_⟩
  · intro d v0 x L M Q; exact Wp_sim (by decide +kernel : decode (cd 6) 0 = .ok (.iload_n 1, 1)) rfl rfl
  · intro d a L M Q; exact q_zlt (by decide +kernel : decode (cd 6) 1 = .ok (.ifCond .lt 11, 3)) (by decide)
  · intro d v0 x L M Q; exact Wp_sim (by decide +kernel : decode (cd 6) 4 = .ok (.iload_n 1, 1)) rfl rfl
  · intro d a x L M Q; exact Wp_sim (by decide +kernel : decode (cd 6) 5 = .ok (.aload_n 0, 1)) rfl rfl
  · intro d a b L M Q; exact q_getI (p := 98) (by decide +kernel : decode (cd 6) 6 = .ok (.getfield 50, 3)) (by decide +kernel) (by decide +kernel)
  · intro d a b L M Q; exact q_ilt (by decide +kernel : decode (cd 6) 9 = .ok (.if_icmp .lt 5, 3)) (by decide)
  · intro d L M Q; exact Wp_sim (by decide +kernel : decode (cd 6) 12 = .ok (.iconst 0, 1)) rfl rfl
  · intro d a L M Q; exact q_iret (by decide +kernel : decode (cd 6) 13 = .ok (.ireturn , 1)) (by decide +kernel)
  · intro d x L M Q; exact Wp_sim (by decide +kernel : decode (cd 6) 14 = .ok (.aload_n 0, 1)) rfl rfl
  · intro d a L M Q; exact q_getR (p := 68) (by decide +kernel : decode (cd 6) 15 = .ok (.getfield 9, 3)) (by decide +kernel) (by decide +kernel)
  · intro d a v0 x L M Q; exact Wp_sim (by decide +kernel : decode (cd 6) 18 = .ok (.iload_n 1, 1)) rfl rfl
  · intro d a b L M Q; exact q_ald (by decide +kernel : decode (cd 6) 19 = .ok (.iaload , 1))
  · intro d a L M Q; exact Wp_sim (by decide +kernel : decode (cd 6) 20 = .ok (.iconst 5, 1)) rfl rfl
  · intro d a b L M Q; exact q_min (p := 510) (by decide +kernel : decode (cd 6) 21 = .ok (.invokestatic 69, 3)) (by decide +kernel) (Nat.le_of_ble_eq_true rfl)
  · intro d a v0 v1 v2 x L M Q; exact Wp_sim (by decide +kernel : decode (cd 6) 24 = .ok (.istore_n 3, 1)) rfl rfl
  · intro d x L M Q; exact Wp_sim (by decide +kernel : decode (cd 6) 25 = .ok (.aload_n 0, 1)) rfl rfl
  · intro d a L M Q; exact q_getR (p := 68) (by decide +kernel : decode (cd 6) 26 = .ok (.getfield 9, 3)) (by decide +kernel) (by decide +kernel)
  · intro d a v0 x L M Q; exact Wp_sim (by decide +kernel : decode (cd 6) 29 = .ok (.iload_n 1, 1)) rfl rfl
  · intro d a b L M Q; exact q_ald (by decide +kernel : decode (cd 6) 30 = .ok (.iaload , 1))
  · intro d a x L M Q; exact Wp_sim (by decide +kernel : decode (cd 6) 31 = .ok (.aload_n 0, 1)) rfl rfl
  · intro d a b L M Q; exact q_getR (p := 69) (by decide +kernel : decode (cd 6) 32 = .ok (.getfield 15, 3)) (by decide +kernel) (by decide +kernel)
  · intro d a b v0 x L M Q; exact Wp_sim (by decide +kernel : decode (cd 6) 35 = .ok (.iload_n 1, 1)) rfl rfl
  · intro d a b c L M Q; exact q_ald (by decide +kernel : decode (cd 6) 36 = .ok (.iaload , 1))
  · intro d a b v0 v1 x L M Q; exact Wp_sim (by decide +kernel : decode (cd 6) 37 = .ok (.iload_n 2, 1)) rfl rfl
  · intro d a b c L M Q; exact Wp_sim (by decide +kernel : decode (cd 6) 38 = .ok (.imul , 1)) rfl rfl
  · intro d a b L M Q; exact Wp_sim (by decide +kernel : decode (cd 6) 39 = .ok (.isub , 1)) rfl rfl
  · intro d a v0 v1 v2 x L M Q; exact Wp_sim (by decide +kernel : decode (cd 6) 40 = .ok (.iload_n 3, 1)) rfl rfl
  · intro d a b L M Q; exact q_max (p := 511) (by decide +kernel : decode (cd 6) 41 = .ok (.invokestatic 75, 3)) (by decide +kernel) (Nat.le_of_ble_eq_true rfl)
  · intro d a L M Q; exact q_iret (by decide +kernel : decode (cd 6) 44 = .ok (.ireturn , 1)) (by decide +kernel)

/- 7: Close.stepsBetween -/
set_option maxRecDepth 10000 in
theorem e7_0 : (∀ (d : Nat) (v0 : Value) (x : Int32) (L : List Value) (M : Mem) (Q : Option Value → Mem → Prop), Wp d 7 0 (v0 :: .int x :: L) [] M Q ↔ Wp d 7 1 (v0 :: .int x :: L) [.int x] M Q) ∧
    (∀ (d : Nat) (a : Int32) (L : List Value) (M : Mem) (Q : Option Value → Mem → Prop), Wp d 7 1 L [.int a] M Q ↔ (if a < 0 then Wp d 7 16 L [] M Q else Wp d 7 4 L [] M Q)) ∧
    (∀ (d : Nat) (v0 : Value) (x : Int32) (L : List Value) (M : Mem) (Q : Option Value → Mem → Prop), Wp d 7 4 (v0 :: .int x :: L) [] M Q ↔ Wp d 7 5 (v0 :: .int x :: L) [.int x] M Q) ∧
    (∀ (d : Nat) (a : Int32) (x : Nat) (L : List Value) (M : Mem) (Q : Option Value → Mem → Prop), Wp d 7 5 (.ref x :: L) [.int a] M Q ↔ Wp d 7 6 (.ref x :: L) [.ref x, .int a] M Q) ∧
    (∀ (d : Nat) (a : Nat) (b : Int32) (L : List Value) (M : Mem) (Q : Option Value → Mem → Prop), Wp d 7 6 L [.ref a, .int b] M Q ↔ (isK a 1 = true ∧ Wp d 7 9 L [.int (M a 14), .int b] M Q)) ∧
    (∀ (d : Nat) (a : Int32) (b : Int32) (L : List Value) (M : Mem) (Q : Option Value → Mem → Prop), Wp d 7 9 L [.int a, .int b] M Q ↔ (if b < a then Wp d 7 12 L [] M Q else Wp d 7 16 L [] M Q)) ∧
    (∀ (d : Nat) (L : List Value) (M : Mem) (Q : Option Value → Mem → Prop), Wp d 7 12 L [] M Q ↔ Wp d 7 13 L [.int 1] M Q) ∧
    (∀ (d : Nat) (a : Int32) (L : List Value) (M : Mem) (Q : Option Value → Mem → Prop), Wp d 7 13 L [.int a] M Q ↔ Wp d 7 17 L [.int a] M Q) ∧
    (∀ (d : Nat) (L : List Value) (M : Mem) (Q : Option Value → Mem → Prop), Wp d 7 16 L [] M Q ↔ Wp d 7 17 L [.int 0] M Q) ∧
    (∀ (d : Nat) (a : Int32) (v0 : Value) (v1 : Value) (v2 : Value) (x : Value) (L : List Value) (M : Mem) (Q : Option Value → Mem → Prop), Wp d 7 17 (v0 :: v1 :: v2 :: x :: L) [.int a] M Q ↔ Wp d 7 18 (v0 :: v1 :: clr v2 :: .int a :: L) [] M Q) ∧
    (∀ (d : Nat) (v0 : Value) (v1 : Value) (x : Int32) (L : List Value) (M : Mem) (Q : Option Value → Mem → Prop), Wp d 7 18 (v0 :: v1 :: .int x :: L) [] M Q ↔ Wp d 7 19 (v0 :: v1 :: .int x :: L) [.int x] M Q) ∧
    (∀ (d : Nat) (a : Int32) (L : List Value) (M : Mem) (Q : Option Value → Mem → Prop), Wp d 7 19 L [.int a] M Q ↔ (if a < 0 then Wp d 7 34 L [] M Q else Wp d 7 22 L [] M Q)) ∧
    (∀ (d : Nat) (v0 : Value) (v1 : Value) (x : Int32) (L : List Value) (M : Mem) (Q : Option Value → Mem → Prop), Wp d 7 22 (v0 :: v1 :: .int x :: L) [] M Q ↔ Wp d 7 23 (v0 :: v1 :: .int x :: L) [.int x] M Q) ∧
    (∀ (d : Nat) (a : Int32) (x : Nat) (L : List Value) (M : Mem) (Q : Option Value → Mem → Prop), Wp d 7 23 (.ref x :: L) [.int a] M Q ↔ Wp d 7 24 (.ref x :: L) [.ref x, .int a] M Q) ∧
    (∀ (d : Nat) (a : Nat) (b : Int32) (L : List Value) (M : Mem) (Q : Option Value → Mem → Prop), Wp d 7 24 L [.ref a, .int b] M Q ↔ (isK a 1 = true ∧ Wp d 7 27 L [.int (M a 14), .int b] M Q)) ∧
    (∀ (d : Nat) (a : Int32) (b : Int32) (L : List Value) (M : Mem) (Q : Option Value → Mem → Prop), Wp d 7 27 L [.int a, .int b] M Q ↔ (if b < a then Wp d 7 30 L [] M Q else Wp d 7 34 L [] M Q)) ∧
    (∀ (d : Nat) (L : List Value) (M : Mem) (Q : Option Value → Mem → Prop), Wp d 7 30 L [] M Q ↔ Wp d 7 31 L [.int 1] M Q) ∧
    (∀ (d : Nat) (a : Int32) (L : List Value) (M : Mem) (Q : Option Value → Mem → Prop), Wp d 7 31 L [.int a] M Q ↔ Wp d 7 35 L [.int a] M Q) ∧
    (∀ (d : Nat) (L : List Value) (M : Mem) (Q : Option Value → Mem → Prop), Wp d 7 34 L [] M Q ↔ Wp d 7 35 L [.int 0] M Q) ∧
    (∀ (d : Nat) (a : Int32) (v0 : Value) (v1 : Value) (v2 : Value) (v3 : Value) (x : Value) (L : List Value) (M : Mem) (Q : Option Value → Mem → Prop), Wp d 7 35 (v0 :: v1 :: v2 :: v3 :: x :: L) [.int a] M Q ↔ Wp d 7 37 (v0 :: v1 :: v2 :: clr v3 :: .int a :: L) [] M Q) ∧
    (∀ (d : Nat) (v0 : Value) (v1 : Value) (v2 : Value) (x : Int32) (L : List Value) (M : Mem) (Q : Option Value → Mem → Prop), Wp d 7 37 (v0 :: v1 :: v2 :: .int x :: L) [] M Q ↔ Wp d 7 38 (v0 :: v1 :: v2 :: .int x :: L) [.int x] M Q) ∧
    (∀ (d : Nat) (a : Int32) (L : List Value) (M : Mem) (Q : Option Value → Mem → Prop), Wp d 7 38 L [.int a] M Q ↔ (if a = 0 then Wp d 7 50 L [] M Q else Wp d 7 41 L [] M Q)) ∧
    (∀ (d : Nat) (x : Nat) (L : List Value) (M : Mem) (Q : Option Value → Mem → Prop), Wp d 7 41 (.ref x :: L) [] M Q ↔ Wp d 7 42 (.ref x :: L) [.ref x] M Q) ∧
    (∀ (d : Nat) (a : Nat) (L : List Value) (M : Mem) (Q : Option Value → Mem → Prop), Wp d 7 42 L [.ref a] M Q ↔ (isK a 1 = true ∧ Wp d 7 45 L [.ref (rt a 5)] M Q)) ∧
    (∀ (d : Nat) (a : Nat) (v0 : Value) (x : Int32) (L : List Value) (M : Mem) (Q : Option Value → Mem → Prop), Wp d 7 45 (v0 :: .int x :: L) [.ref a] M Q ↔ Wp d 7 46 (v0 :: .int x :: L) [.int x, .ref a] M Q) ∧
    (∀ (d : Nat) (a : Int32) (b : Nat) (L : List Value) (M : Mem) (Q : Option Value → Mem → Prop), Wp d 7 46 L [.int a, .ref b] M Q ↔ ((isR b = true ∧ inr a (lnm M b)) ∧ Wp d 7 47 L [.int (M b a.toNatClampNeg)] M Q)) ∧
    (∀ (d : Nat) (a : Int32) (L : List Value) (M : Mem) (Q : Option Value → Mem → Prop), Wp d 7 47 L [.int a] M Q ↔ Wp d 7 51 L [.int a] M Q) ∧
    (∀ (d : Nat) (L : List Value) (M : Mem) (Q : Option Value → Mem → Prop), Wp d 7 50 L [] M Q ↔ Wp d 7 51 L [.int 0] M Q) ∧
    (∀ (d : Nat) (a : Int32) (v0 : Value) (v1 : Value) (v2 : Value) (v3 : Value) (x : Int32) (L : List Value) (M : Mem) (Q : Option Value → Mem → Prop), Wp d 7 51 (v0 :: v1 :: v2 :: v3 :: .int x :: L) [.int a] M Q ↔ Wp d 7 53 (v0 :: v1 :: v2 :: v3 :: .int x :: L) [.int x, .int a] M Q) ∧
    (∀ (d : Nat) (a : Int32) (b : Int32) (L : List Value) (M : Mem) (Q : Option Value → Mem → Prop), Wp d 7 53 L [.int a, .int b] M Q ↔ (if a = 0 then Wp d 7 65 L [.int b] M Q else Wp d 7 56 L [.int b] M Q)) ∧
    (∀ (d : Nat) (a : Int32) (x : Nat) (L : List Value) (M : Mem) (Q : Option Value → Mem → Prop), Wp d 7 56 (.ref x :: L) [.int a] M Q ↔ Wp d 7 57 (.ref x :: L) [.ref x, .int a] M Q) ∧
    (∀ (d : Nat) (a : Nat) (b : Int32) (L : List Value) (M : Mem) (Q : Option Value → Mem → Prop), Wp d 7 57 L [.ref a, .int b] M Q ↔ (isK a 1 = true ∧ Wp d 7 60 L [.ref (rt a 5), .int b] M Q)) ∧
    (∀ (d : Nat) (a : Nat) (b : Int32) (v0 : Value) (v1 : Value) (x : Int32) (L : List Value) (M : Mem) (Q : Option Value → Mem → Prop), Wp d 7 60 (v0 :: v1 :: .int x :: L) [.ref a, .int b] M Q ↔ Wp d 7 61 (v0 :: v1 :: .int x :: L) [.int x, .ref a, .int b] M Q) ∧
    (∀ (d : Nat) (a : Int32) (b : Nat) (c : Int32) (L : List Value) (M : Mem) (Q : Option Value → Mem → Prop), Wp d 7 61 L [.int a, .ref b, .int c] M Q ↔ ((isR b = true ∧ inr a (lnm M b)) ∧ Wp d 7 62 L [.int (M b a.toNatClampNeg), .int c] M Q)) ∧
    (∀ (d : Nat) (a : Int32) (b : Int32) (L : List Value) (M : Mem) (Q : Option Value → Mem → Prop), Wp d 7 62 L [.int a, .int b] M Q ↔ Wp d 7 66 L [.int a, .int b] M Q) ∧
    (∀ (d : Nat) (a : Int32) (L : List Value) (M : Mem) (Q : Option Value → Mem → Prop), Wp d 7 65 L [.int a] M Q ↔ Wp d 7 66 L [.int 0, .int a] M Q) ∧
    (∀ (d : Nat) (a : Int32) (b : Int32) (L : List Value) (M : Mem) (Q : Option Value → Mem → Prop), Wp d 7 66 L [.int a, .int b] M Q ↔ Wp d 7 67 L [.int (b - a)] M Q) ∧
    (∀ (d : Nat) (a : Int32) (v0 : Value) (v1 : Value) (v2 : Value) (v3 : Value) (v4 : Value) (x : Value) (L : List Value) (M : Mem) (Q : Option Value → Mem → Prop), Wp d 7 67 (v0 :: v1 :: v2 :: v3 :: v4 :: x :: L) [.int a] M Q ↔ Wp d 7 69 (v0 :: v1 :: v2 :: v3 :: clr v4 :: .int a :: L) [] M Q) ∧
    (∀ (d : Nat) (v0 : Value) (v1 : Value) (v2 : Value) (x : Int32) (L : List Value) (M : Mem) (Q : Option Value → Mem → Prop), Wp d 7 69 (v0 :: v1 :: v2 :: .int x :: L) [] M Q ↔ Wp d 7 70 (v0 :: v1 :: v2 :: .int x :: L) [.int x] M Q) ∧
    (∀ (d : Nat) (a : Int32) (L : List Value) (M : Mem) (Q : Option Value → Mem → Prop), Wp d 7 70 L [.int a] M Q ↔ (if a = 0 then Wp d 7 82 L [] M Q else Wp d 7 73 L [] M Q)) ∧
    (∀ (d : Nat) (x : Nat) (L : List Value) (M : Mem) (Q : Option Value → Mem → Prop), Wp d 7 73 (.ref x :: L) [] M Q ↔ Wp d 7 74 (.ref x :: L) [.ref x] M Q) ∧
    (∀ (d : Nat) (a : Nat) (L : List Value) (M : Mem) (Q : Option Value → Mem → Prop), Wp d 7 74 L [.ref a] M Q ↔ (isK a 1 = true ∧ Wp d 7 77 L [.ref (rt a 6)] M Q)) ∧
    (∀ (d : Nat) (a : Nat) (v0 : Value) (x : Int32) (L : List Value) (M : Mem) (Q : Option Value → Mem → Prop), Wp d 7 77 (v0 :: .int x :: L) [.ref a] M Q ↔ Wp d 7 78 (v0 :: .int x :: L) [.int x, .ref a] M Q) ∧
    (∀ (d : Nat) (a : Int32) (b : Nat) (L : List Value) (M : Mem) (Q : Option Value → Mem → Prop), Wp d 7 78 L [.int a, .ref b] M Q ↔ ((isR b = true ∧ inr a (lnm M b)) ∧ Wp d 7 79 L [.int (M b a.toNatClampNeg)] M Q)) ∧
    (∀ (d : Nat) (a : Int32) (L : List Value) (M : Mem) (Q : Option Value → Mem → Prop), Wp d 7 79 L [.int a] M Q ↔ Wp d 7 83 L [.int a] M Q) ∧
    (∀ (d : Nat) (L : List Value) (M : Mem) (Q : Option Value → Mem → Prop), Wp d 7 82 L [] M Q ↔ Wp d 7 83 L [.int 0] M Q) ∧
    (∀ (d : Nat) (a : Int32) (v0 : Value) (v1 : Value) (v2 : Value) (v3 : Value) (x : Int32) (L : List Value) (M : Mem) (Q : Option Value → Mem → Prop), Wp d 7 83 (v0 :: v1 :: v2 :: v3 :: .int x :: L) [.int a] M Q ↔ Wp d 7 85 (v0 :: v1 :: v2 :: v3 :: .int x :: L) [.int x, .int a] M Q) ∧
    (∀ (d : Nat) (a : Int32) (b : Int32) (L : List Value) (M : Mem) (Q : Option Value → Mem → Prop), Wp d 7 85 L [.int a, .int b] M Q ↔ (if a = 0 then Wp d 7 97 L [.int b] M Q else Wp d 7 88 L [.int b] M Q)) ∧
    (∀ (d : Nat) (a : Int32) (x : Nat) (L : List Value) (M : Mem) (Q : Option Value → Mem → Prop), Wp d 7 88 (.ref x :: L) [.int a] M Q ↔ Wp d 7 89 (.ref x :: L) [.ref x, .int a] M Q) ∧
    (∀ (d : Nat) (a : Nat) (b : Int32) (L : List Value) (M : Mem) (Q : Option Value → Mem → Prop), Wp d 7 89 L [.ref a, .int b] M Q ↔ (isK a 1 = true ∧ Wp d 7 92 L [.ref (rt a 6), .int b] M Q)) ∧
    (∀ (d : Nat) (a : Nat) (b : Int32) (v0 : Value) (v1 : Value) (x : Int32) (L : List Value) (M : Mem) (Q : Option Value → Mem → Prop), Wp d 7 92 (v0 :: v1 :: .int x :: L) [.ref a, .int b] M Q ↔ Wp d 7 93 (v0 :: v1 :: .int x :: L) [.int x, .ref a, .int b] M Q) ∧
    (∀ (d : Nat) (a : Int32) (b : Nat) (c : Int32) (L : List Value) (M : Mem) (Q : Option Value → Mem → Prop), Wp d 7 93 L [.int a, .ref b, .int c] M Q ↔ ((isR b = true ∧ inr a (lnm M b)) ∧ Wp d 7 94 L [.int (M b a.toNatClampNeg), .int c] M Q)) ∧
    (∀ (d : Nat) (a : Int32) (b : Int32) (L : List Value) (M : Mem) (Q : Option Value → Mem → Prop), Wp d 7 94 L [.int a, .int b] M Q ↔ Wp d 7 98 L [.int a, .int b] M Q) ∧
    (∀ (d : Nat) (a : Int32) (L : List Value) (M : Mem) (Q : Option Value → Mem → Prop), Wp d 7 97 L [.int a] M Q ↔ Wp d 7 98 L [.int 0, .int a] M Q) ∧
    (∀ (d : Nat) (a : Int32) (b : Int32) (L : List Value) (M : Mem) (Q : Option Value → Mem → Prop), Wp d 7 98 L [.int a, .int b] M Q ↔ Wp d 7 99 L [.int (b - a)] M Q) ∧
    (∀ (d : Nat) (a : Int32) (v0 : Value) (v1 : Value) (v2 : Value) (v3 : Value) (v4 : Value) (v5 : Value) (x : Value) (L : List Value) (M : Mem) (Q : Option Value → Mem → Prop), Wp d 7 99 (v0 :: v1 :: v2 :: v3 :: v4 :: v5 :: x :: L) [.int a] M Q ↔ Wp d 7 101 (v0 :: v1 :: v2 :: v3 :: v4 :: clr v5 :: .int a :: L) [] M Q) ∧
    (∀ (d : Nat) (v0 : Value) (v1 : Value) (v2 : Value) (v3 : Value) (v4 : Value) (x : Int32) (L : List Value) (M : Mem) (Q : Option Value → Mem → Prop), Wp d 7 101 (v0 :: v1 :: v2 :: v3 :: v4 :: .int x :: L) [] M Q ↔ Wp d 7 103 (v0 :: v1 :: v2 :: v3 :: v4 :: .int x :: L) [.int x] M Q) ∧
    (∀ (d : Nat) (a : Int32) (L : List Value) (M : Mem) (Q : Option Value → Mem → Prop), Wp (d + 1) 7 103 L [.int a] M Q ↔ Wp (d + 1) 7 106 L [.int (ab a)] M Q) ∧
    (∀ (d : Nat) (a : Int32) (v0 : Value) (v1 : Value) (v2 : Value) (v3 : Value) (v4 : Value) (v5 : Value) (x : Int32) (L : List Value) (M : Mem) (Q : Option Value → Mem → Prop), Wp d 7 106 (v0 :: v1 :: v2 :: v3 :: v4 :: v5 :: .int x :: L) [.int a] M Q ↔ Wp d 7 108 (v0 :: v1 :: v2 :: v3 :: v4 :: v5 :: .int x :: L) [.int x, .int a] M Q) ∧
    (∀ (d : Nat) (a : Int32) (b : Int32) (L : List Value) (M : Mem) (Q : Option Value → Mem → Prop), Wp (d + 1) 7 108 L [.int a, .int b] M Q ↔ Wp (d + 1) 7 111 L [.int (ab a), .int b] M Q) := by
  refine ⟨?_, ?_, ?_, ?_, ?_, ?_, ?_, ?_, ?_, ?_, ?_, ?_, ?_, ?_, ?_, ?_, ?_, ?_, ?_, ?_, ?_, ?_, ?_, ?_, ?_, ?_, ?_, ?_, ?_, ?_, ?_, ?_, ?_, ?_, ?_, ?_, ?_, ?_, ?_, ?_, ?_, ?_, ?_, ?_, ?_, ?_, ?_, ?_, ?_, ?_, ?_, ?_, ?_, ?_, ?_, ?_, ?_, ?_, ?_, ?_⟩
  · intro d v0 x L M Q; exact Wp_sim (by decide +kernel : decode (cd 7) 0 = .ok (.iload_n 1, 1)) rfl rfl
  · intro d a L M Q; exact q_zlt (by decide +kernel : decode (cd 7) 1 = .ok (.ifCond .lt 15, 3)) (by decide)
  · intro d v0 x L M Q; exact Wp_sim (by decide +kernel : decode (cd 7) 4 = .ok (.iload_n 1, 1)) rfl rfl
  · intro d a x L M Q; exact Wp_sim (by decide +kernel : decode (cd 7) 5 = .ok (.aload_n 0, 1)) rfl rfl
  · intro d a b L M Q; exact q_getI (p := 105) (by decide +kernel : decode (cd 7) 6 = .ok (.getfield 56, 3)) (by decide +kernel) (by decide +kernel)
  · intro d a b L M Q; exact q_ige (by decide +kernel : decode (cd 7) 9 = .ok (.if_icmp .ge 7, 3)) (by decide)
  · intro d L M Q; exact Wp_sim (by decide +kernel : decode (cd 7) 12 = .ok (.iconst 1, 1)) rfl rfl
  · intro d a L M Q; exact q_goto (by decide +kernel : decode (cd 7) 13 = .ok (.goto 4, 3)) (by decide)
  · intro d L M Q; exact Wp_sim (by decide +kernel : decode (cd 7) 16 = .ok (.iconst 0, 1)) rfl rfl
  · intro d a v0 v1 v2 x L M Q; exact Wp_sim (by decide +kernel : decode (cd 7) 17 = .ok (.istore_n 3, 1)) rfl rfl
  · intro d v0 v1 x L M Q; exact Wp_sim (by decide +kernel : decode (cd 7) 18 = .ok (.iload_n 2, 1)) rfl rfl
  · intro d a L M Q; exact q_zlt (by decide +kernel : decode (cd 7) 19 = .ok (.ifCond .lt 15, 3)) (by decide)
  · intro d v0 v1 x L M Q; exact Wp_sim (by decide +kernel : decode (cd 7) 22 = .ok (.iload_n 2, 1)) rfl rfl
  · intro d a x L M Q; exact Wp_sim (by decide +kernel : decode (cd 7) 23 = .ok (.aload_n 0, 1)) rfl rfl
  · intro d a b L M Q; exact q_getI (p := 105) (by decide +kernel : decode (cd 7) 24 = .ok (.getfield 56, 3)) (by decide +kernel) (by decide +kernel)
  · intro d a b L M Q; exact q_ige (by decide +kernel : decode (cd 7) 27 = .ok (.if_icmp .ge 7, 3)) (by decide)
  · intro d L M Q; exact Wp_sim (by decide +kernel : decode (cd 7) 30 = .ok (.iconst 1, 1)) rfl rfl
  · intro d a L M Q; exact q_goto (by decide +kernel : decode (cd 7) 31 = .ok (.goto 4, 3)) (by decide)
  · intro d L M Q; exact Wp_sim (by decide +kernel : decode (cd 7) 34 = .ok (.iconst 0, 1)) rfl rfl
  · intro d a v0 v1 v2 v3 x L M Q; exact Wp_sim (by decide +kernel : decode (cd 7) 35 = .ok (.istore 4, 2)) rfl rfl
  · intro d v0 v1 v2 x L M Q; exact Wp_sim (by decide +kernel : decode (cd 7) 37 = .ok (.iload_n 3, 1)) rfl rfl
  · intro d a L M Q; exact q_zeq (by decide +kernel : decode (cd 7) 38 = .ok (.ifCond .eq 12, 3)) (by decide)
  · intro d x L M Q; exact Wp_sim (by decide +kernel : decode (cd 7) 41 = .ok (.aload_n 0, 1)) rfl rfl
  · intro d a L M Q; exact q_getR (p := 79) (by decide +kernel : decode (cd 7) 42 = .ok (.getfield 27, 3)) (by decide +kernel) (by decide +kernel)
  · intro d a v0 x L M Q; exact Wp_sim (by decide +kernel : decode (cd 7) 45 = .ok (.iload_n 1, 1)) rfl rfl
  · intro d a b L M Q; exact q_ald (by decide +kernel : decode (cd 7) 46 = .ok (.iaload , 1))
  · intro d a L M Q; exact q_goto (by decide +kernel : decode (cd 7) 47 = .ok (.goto 4, 3)) (by decide)
  · intro d L M Q; exact Wp_sim (by decide +kernel : decode (cd 7) 50 = .ok (.iconst 0, 1)) rfl rfl
  · intro d a v0 v1 v2 v3 x L M Q; exact Wp_sim (by decide +kernel : decode (cd 7) 51 = .ok (.iload 4, 2)) rfl rfl
  · intro d a b L M Q; exact q_zeq (by decide +kernel : decode (cd 7) 53 = .ok (.ifCond .eq 12, 3)) (by decide)
  · intro d a x L M Q; exact Wp_sim (by decide +kernel : decode (cd 7) 56 = .ok (.aload_n 0, 1)) rfl rfl
  · intro d a b L M Q; exact q_getR (p := 79) (by decide +kernel : decode (cd 7) 57 = .ok (.getfield 27, 3)) (by decide +kernel) (by decide +kernel)
  · intro d a b v0 v1 x L M Q; exact Wp_sim (by decide +kernel : decode (cd 7) 60 = .ok (.iload_n 2, 1)) rfl rfl
  · intro d a b c L M Q; exact q_ald (by decide +kernel : decode (cd 7) 61 = .ok (.iaload , 1))
  · intro d a b L M Q; exact q_goto (by decide +kernel : decode (cd 7) 62 = .ok (.goto 4, 3)) (by decide)
  · intro d a L M Q; exact Wp_sim (by decide +kernel : decode (cd 7) 65 = .ok (.iconst 0, 1)) rfl rfl
  · intro d a b L M Q; exact Wp_sim (by decide +kernel : decode (cd 7) 66 = .ok (.isub , 1)) rfl rfl
  · intro d a v0 v1 v2 v3 v4 x L M Q; exact Wp_sim (by decide +kernel : decode (cd 7) 67 = .ok (.istore 5, 2)) rfl rfl
  · intro d v0 v1 v2 x L M Q; exact Wp_sim (by decide +kernel : decode (cd 7) 69 = .ok (.iload_n 3, 1)) rfl rfl
  · intro d a L M Q; exact q_zeq (by decide +kernel : decode (cd 7) 70 = .ok (.ifCond .eq 12, 3)) (by decide)
  · intro d x L M Q; exact Wp_sim (by decide +kernel : decode (cd 7) 73 = .ok (.aload_n 0, 1)) rfl rfl
  · intro d a L M Q; exact q_getR (p := 81) (by decide +kernel : decode (cd 7) 74 = .ok (.getfield 30, 3)) (by decide +kernel) (by decide +kernel)
  · intro d a v0 x L M Q; exact Wp_sim (by decide +kernel : decode (cd 7) 77 = .ok (.iload_n 1, 1)) rfl rfl
  · intro d a b L M Q; exact q_ald (by decide +kernel : decode (cd 7) 78 = .ok (.iaload , 1))
  · intro d a L M Q; exact q_goto (by decide +kernel : decode (cd 7) 79 = .ok (.goto 4, 3)) (by decide)
  · intro d L M Q; exact Wp_sim (by decide +kernel : decode (cd 7) 82 = .ok (.iconst 0, 1)) rfl rfl
  · intro d a v0 v1 v2 v3 x L M Q; exact Wp_sim (by decide +kernel : decode (cd 7) 83 = .ok (.iload 4, 2)) rfl rfl
  · intro d a b L M Q; exact q_zeq (by decide +kernel : decode (cd 7) 85 = .ok (.ifCond .eq 12, 3)) (by decide)
  · intro d a x L M Q; exact Wp_sim (by decide +kernel : decode (cd 7) 88 = .ok (.aload_n 0, 1)) rfl rfl
  · intro d a b L M Q; exact q_getR (p := 81) (by decide +kernel : decode (cd 7) 89 = .ok (.getfield 30, 3)) (by decide +kernel) (by decide +kernel)
  · intro d a b v0 v1 x L M Q; exact Wp_sim (by decide +kernel : decode (cd 7) 92 = .ok (.iload_n 2, 1)) rfl rfl
  · intro d a b c L M Q; exact q_ald (by decide +kernel : decode (cd 7) 93 = .ok (.iaload , 1))
  · intro d a b L M Q; exact q_goto (by decide +kernel : decode (cd 7) 94 = .ok (.goto 4, 3)) (by decide)
  · intro d a L M Q; exact Wp_sim (by decide +kernel : decode (cd 7) 97 = .ok (.iconst 0, 1)) rfl rfl
  · intro d a b L M Q; exact Wp_sim (by decide +kernel : decode (cd 7) 98 = .ok (.isub , 1)) rfl rfl
  · intro d a v0 v1 v2 v3 v4 v5 x L M Q; exact Wp_sim (by decide +kernel : decode (cd 7) 99 = .ok (.istore 6, 2)) rfl rfl
  · intro d v0 v1 v2 v3 v4 x L M Q; exact Wp_sim (by decide +kernel : decode (cd 7) 101 = .ok (.iload 5, 2)) rfl rfl
  · intro d a L M Q; exact q_abs (p := 721) (by decide +kernel : decode (cd 7) 103 = .ok (.invokestatic 78, 3)) (by decide +kernel) (Nat.le_of_ble_eq_true rfl)
  · intro d a v0 v1 v2 v3 v4 v5 x L M Q; exact Wp_sim (by decide +kernel : decode (cd 7) 106 = .ok (.iload 6, 2)) rfl rfl
  · intro d a b L M Q; exact q_abs (p := 721) (by decide +kernel : decode (cd 7) 108 = .ok (.invokestatic 78, 3)) (by decide +kernel) (Nat.le_of_ble_eq_true rfl)
set_option maxRecDepth 10000 in
theorem e7_1 : (∀ (d : Nat) (a : Int32) (b : Int32) (L : List Value) (M : Mem) (Q : Option Value → Mem → Prop), Wp d 7 111 L [.int a, .int b] M Q ↔ Wp d 7 112 L [.int (b + a)] M Q) ∧
    (∀ (d : Nat) (a : Int32) (L : List Value) (M : Mem) (Q : Option Value → Mem → Prop), Wp d 7 112 L [.int a] M Q ↔ Q (some (.int a)) M) := by
  refine ⟨?_, ?_⟩
  · intro d a b L M Q; exact Wp_sim (by decide +kernel : decode (cd 7) 111 = .ok (.iadd , 1)) rfl rfl
  · intro d a L M Q; exact q_iret (by decide +kernel : decode (cd 7) 112 = .ok (.ireturn , 1)) (by decide +kernel)

/- 8: Debts.cleared -/
set_option maxRecDepth 10000 in
theorem e8 : (∀ (d : Nat) (L : List Value) (M : Mem) (Q : Option Value → Mem → Prop), Wp d 8 0 L [] M Q ↔ Wp d 8 1 L [.int 0] M Q) ∧
    (∀ (d : Nat) (a : Int32) (v0 : Value) (x : Value) (L : List Value) (M : Mem) (Q : Option Value → Mem → Prop), Wp d 8 1 (v0 :: x :: L) [.int a] M Q ↔ Wp d 8 2 (clr v0 :: .int a :: L) [] M Q) ∧
    (∀ (d : Nat) (L : List Value) (M : Mem) (Q : Option Value → Mem → Prop), Wp d 8 2 L [] M Q ↔ Wp d 8 3 L [.int 0] M Q) ∧
    (∀ (d : Nat) (a : Int32) (v0 : Value) (v1 : Value) (x : Value) (L : List Value) (M : Mem) (Q : Option Value → Mem → Prop), Wp d 8 3 (v0 :: v1 :: x :: L) [.int a] M Q ↔ Wp d 8 4 (v0 :: clr v1 :: .int a :: L) [] M Q) ∧
    (∀ (d : Nat) (a : Int32) (L : List Value) (M : Mem) (Q : Option Value → Mem → Prop), Wp d 8 5 L [.int a] M Q ↔ Wp d 8 7 L [.int 6, .int a] M Q) ∧
    (∀ (d : Nat) (a : Int32) (b : Int32) (L : List Value) (M : Mem) (Q : Option Value → Mem → Prop), Wp d 8 7 L [.int a, .int b] M Q ↔ (if b < a then Wp d 8 10 L [] M Q else Wp d 8 51 L [] M Q)) ∧
    (∀ (d : Nat) (v0 : Value) (x : Int32) (L : List Value) (M : Mem) (Q : Option Value → Mem → Prop), Wp d 8 10 (v0 :: .int x :: L) [] M Q ↔ Wp d 8 11 (v0 :: .int x :: L) [.int x] M Q) ∧
    (∀ (d : Nat) (a : Int32) (L : List Value) (M : Mem) (Q : Option Value → Mem → Prop), Wp d 8 11 L [.int a] M Q ↔ Wp d 8 12 L [.int 0, .int a] M Q) ∧
    (∀ (d : Nat) (a : Int32) (b : Int32) (x : Nat) (L : List Value) (M : Mem) (Q : Option Value → Mem → Prop), Wp d 8 12 (.ref x :: L) [.int a, .int b] M Q ↔ Wp d 8 13 (.ref x :: L) [.ref x, .int a, .int b] M Q) ∧
    (∀ (d : Nat) (a : Nat) (b : Int32) (c : Int32) (v0 : Value) (v1 : Value) (x : Int32) (L : List Value) (M : Mem) (Q : Option Value → Mem → Prop), Wp d 8 13 (v0 :: v1 :: .int x :: L) [.ref a, .int b, .int c] M Q ↔ Wp d 8 14 (v0 :: v1 :: .int x :: L) [.int x, .ref a, .int b, .int c] M Q) ∧
    (∀ (d : Nat) (a : Int32) (b : Nat) (c : Int32) (d2 : Int32) (L : List Value) (M : Mem) (Q : Option Value → Mem → Prop), Wp (d + 1) 8 14 L [.int a, .ref b, .int c, .int d2] M Q ↔ (isK b 2 = true ∧ Wp d 9 0 [.ref b, .int a, .null, .null] [] M (fun r M2 => Wp (d + 1) 8 17 L (r.toList ++ [.int c, .int d2]) M2 Q))) ∧
    (∀ (d : Nat) (a : Int32) (b : Int32) (c : Int32) (L : List Value) (M : Mem) (Q : Option Value → Mem → Prop), Wp (d + 1) 8 17 L [.int a, .int b, .int c] M Q ↔ Wp (d + 1) 8 20 L [.int (mx b a), .int c] M Q) ∧
    (∀ (d : Nat) (a : Int32) (b : Int32) (L : List Value) (M : Mem) (Q : Option Value → Mem → Prop), Wp d 8 20 L [.int a, .int b] M Q ↔ Wp d 8 21 L [.int (b - a)] M Q) ∧
    (∀ (d : Nat) (a : Int32) (v0 : Value) (x : Value) (L : List Value) (M : Mem) (Q : Option Value → Mem → Prop), Wp d 8 21 (v0 :: x :: L) [.int a] M Q ↔ Wp d 8 22 (clr v0 :: .int a :: L) [] M Q) ∧
    (∀ (d : Nat) (L : List Value) (M : Mem) (Q : Option Value → Mem → Prop), Wp d 8 22 L [] M Q ↔ Wp d 8 23 L [.int 0] M Q) ∧
    (∀ (d : Nat) (a : Int32) (v0 : Value) (v1 : Value) (v2 : Value) (x : Value) (L : List Value) (M : Mem) (Q : Option Value → Mem → Prop), Wp d 8 23 (v0 :: v1 :: v2 :: x :: L) [.int a] M Q ↔ Wp d 8 24 (v0 :: v1 :: clr v2 :: .int a :: L) [] M Q) ∧
    (∀ (d : Nat) (a : Int32) (L : List Value) (M : Mem) (Q : Option Value → Mem → Prop), Wp d 8 25 L [.int a] M Q ↔ Wp d 8 27 L [.int 6, .int a] M Q) ∧
    (∀ (d : Nat) (a : Int32) (b : Int32) (L : List Value) (M : Mem) (Q : Option Value → Mem → Prop), Wp d 8 27 L [.int a, .int b] M Q ↔ (if b < a then Wp d 8 30 L [] M Q else Wp d 8 45 L [] M Q)) ∧
    (∀ (d : Nat) (v0 : Value) (x : Int32) (L : List Value) (M : Mem) (Q : Option Value → Mem → Prop), Wp d 8 30 (v0 :: .int x :: L) [] M Q ↔ Wp d 8 31 (v0 :: .int x :: L) [.int x] M Q) ∧
    (∀ (d : Nat) (a : Int32) (x : Nat) (L : List Value) (M : Mem) (Q : Option Value → Mem → Prop), Wp d 8 31 (.ref x :: L) [.int a] M Q ↔ Wp d 8 32 (.ref x :: L) [.ref x, .int a] M Q) ∧
    (∀ (d : Nat) (a : Nat) (b : Int32) (v0 : Value) (v1 : Value) (x : Int32) (L : List Value) (M : Mem) (Q : Option Value → Mem → Prop), Wp d 8 32 (v0 :: v1 :: .int x :: L) [.ref a, .int b] M Q ↔ Wp d 8 33 (v0 :: v1 :: .int x :: L) [.int x, .ref a, .int b] M Q) ∧
    (∀ (d : Nat) (a : Int32) (b : Nat) (c : Int32) (v0 : Value) (v1 : Value) (v2 : Value) (x : Int32) (L : List Value) (M : Mem) (Q : Option Value → Mem → Prop), Wp d 8 33 (v0 :: v1 :: v2 :: .int x :: L) [.int a, .ref b, .int c] M Q ↔ Wp d 8 34 (v0 :: v1 :: v2 :: .int x :: L) [.int x, .int a, .ref b, .int c] M Q) ∧
    (∀ (d : Nat) (a : Int32) (b : Int32) (c : Nat) (d2 : Int32) (L : List Value) (M : Mem) (Q : Option Value → Mem → Prop), Wp (d + 1) 8 34 L [.int a, .int b, .ref c, .int d2] M Q ↔ (isK c 2 = true ∧ Wp d 12 0 [.ref c, .int b, .int a] [] M (fun r M2 => Wp (d + 1) 8 37 L (r.toList ++ [.int d2]) M2 Q))) ∧
    (∀ (d : Nat) (a : Int32) (b : Int32) (L : List Value) (M : Mem) (Q : Option Value → Mem → Prop), Wp d 8 37 L [.int a, .int b] M Q ↔ Wp d 8 38 L [.int (b + a)] M Q) ∧
    (∀ (d : Nat) (a : Int32) (v0 : Value) (x : Value) (L : List Value) (M : Mem) (Q : Option Value → Mem → Prop), Wp d 8 38 (v0 :: x :: L) [.int a] M Q ↔ Wp d 8 39 (clr v0 :: .int a :: L) [] M Q) ∧
    (∀ (d : Nat) (v0 : Value) (v1 : Value) (v2 : Value) (x : Int32) (L : List Value) (M : Mem) (Q : Option Value → Mem → Prop), Wp d 8 39 (v0 :: v1 :: v2 :: .int x :: L) [] M Q ↔ Wp d 8 42 (v0 :: v1 :: clr v2 :: .int (x + 1) :: L) [] M Q) ∧
    (∀ (d : Nat) (L : List Value) (M : Mem) (Q : Option Value → Mem → Prop), Wp d 8 42 L [] M Q ↔ Wp d 8 24 L [] M Q) ∧
    (∀ (d : Nat) (v0 : Value) (v1 : Value) (x : Int32) (L : List Value) (M : Mem) (Q : Option Value → Mem → Prop), Wp d 8 45 (v0 :: v1 :: .int x :: L) [] M Q ↔ Wp d 8 48 (v0 :: clr v1 :: .int (x + 1) :: L) [] M Q) ∧
    (∀ (d : Nat) (L : List Value) (M : Mem) (Q : Option Value → Mem → Prop), Wp d 8 48 L [] M Q ↔ Wp d 8 4 L [] M Q) ∧
    (∀ (d : Nat) (v0 : Value) (x : Int32) (L : List Value) (M : Mem) (Q : Option Value → Mem → Prop), Wp d 8 51 (v0 :: .int x :: L) [] M Q ↔ Wp d 8 52 (v0 :: .int x :: L) [.int x] M Q) ∧
    (∀ (d : Nat) (a : Int32) (L : List Value) (M : Mem) (Q : Option Value → Mem → Prop), Wp d 8 52 L [.int a] M Q ↔ Q (some (.int a)) M) := by
  refine ⟨?_, ?_, ?_, ?_, ?_, ?_, ?_, ?_, ?_, ?_, ?_, ?_, ?_, ?_, ?_, ?_, ?_, ?_, ?_, ?_, ?_, ?_, ?_, ?_, ?_, ?_, ?_, ?_, ?_, ?_, ?_⟩
  · intro d L M Q; exact Wp_sim (by decide +kernel : decode (cd 8) 0 = .ok (.iconst 0, 1)) rfl rfl
  · intro d a v0 x L M Q; exact Wp_sim (by decide +kernel : decode (cd 8) 1 = .ok (.istore_n 1, 1)) rfl rfl
  · intro d L M Q; exact Wp_sim (by decide +kernel : decode (cd 8) 2 = .ok (.iconst 0, 1)) rfl rfl
  · intro d a v0 v1 x L M Q; exact Wp_sim (by decide +kernel : decode (cd 8) 3 = .ok (.istore_n 2, 1)) rfl rfl
  · intro d a L M Q; exact Wp_sim (by decide +kernel : decode (cd 8) 5 = .ok (.bipush 6, 2)) rfl rfl
  · intro d a b L M Q; exact q_ige (by decide +kernel : decode (cd 8) 7 = .ok (.if_icmp .ge 44, 3)) (by decide)
  · intro d v0 x L M Q; exact Wp_sim (by decide +kernel : decode (cd 8) 10 = .ok (.iload_n 1, 1)) rfl rfl
  · intro d a L M Q; exact Wp_sim (by decide +kernel : decode (cd 8) 11 = .ok (.iconst 0, 1)) rfl rfl
  · intro d a b x L M Q; exact Wp_sim (by decide +kernel : decode (cd 8) 12 = .ok (.aload_n 0, 1)) rfl rfl
  · intro d a b c v0 v1 x L M Q; exact Wp_sim (by decide +kernel : decode (cd 8) 13 = .ok (.iload_n 2, 1)) rfl rfl
  · intro d a b c d2 L M Q; exact q_invV (pz := 485) (n := 1) (c := 2) (m := 4) (k := b) (As := [.int a]) (rest := [.int c, .int d2]) (by decide +kernel : decode (cd 8) 14 = .ok (.invokevirtual 28, 3)) (by decide +kernel) (by decide +kernel) rfl rfl (Nat.le_of_ble_eq_true rfl) (Nat.le_of_ble_eq_true rfl) rfl
  · intro d a b c L M Q; exact q_max (p := 496) (by decide +kernel : decode (cd 8) 17 = .ok (.invokestatic 23, 3)) (by decide +kernel) (Nat.le_of_ble_eq_true rfl)
  · intro d a b L M Q; exact Wp_sim (by decide +kernel : decode (cd 8) 20 = .ok (.isub , 1)) rfl rfl
  · intro d a v0 x L M Q; exact Wp_sim (by decide +kernel : decode (cd 8) 21 = .ok (.istore_n 1, 1)) rfl rfl
  · intro d L M Q; exact Wp_sim (by decide +kernel : decode (cd 8) 22 = .ok (.iconst 0, 1)) rfl rfl
  · intro d a v0 v1 v2 x L M Q; exact Wp_sim (by decide +kernel : decode (cd 8) 23 = .ok (.istore_n 3, 1)) rfl rfl
  · intro d a L M Q; exact Wp_sim (by decide +kernel : decode (cd 8) 25 = .ok (.bipush 6, 2)) rfl rfl
  · intro d a b L M Q; exact q_ige (by decide +kernel : decode (cd 8) 27 = .ok (.if_icmp .ge 18, 3)) (by decide)
  · intro d v0 x L M Q; exact Wp_sim (by decide +kernel : decode (cd 8) 30 = .ok (.iload_n 1, 1)) rfl rfl
  · intro d a x L M Q; exact Wp_sim (by decide +kernel : decode (cd 8) 31 = .ok (.aload_n 0, 1)) rfl rfl
  · intro d a b v0 v1 x L M Q; exact Wp_sim (by decide +kernel : decode (cd 8) 32 = .ok (.iload_n 2, 1)) rfl rfl
  · intro d a b c v0 v1 v2 x L M Q; exact Wp_sim (by decide +kernel : decode (cd 8) 33 = .ok (.iload_n 3, 1)) rfl rfl
  · intro d a b c d2 L M Q; exact q_invV (pz := 497) (n := 2) (c := 2) (m := 3) (k := c) (As := [.int b, .int a]) (rest := [.int d2]) (by decide +kernel : decode (cd 8) 34 = .ok (.invokevirtual 32, 3)) (by decide +kernel) (by decide +kernel) rfl rfl (Nat.le_of_ble_eq_true rfl) (Nat.le_of_ble_eq_true rfl) rfl
  · intro d a b L M Q; exact Wp_sim (by decide +kernel : decode (cd 8) 37 = .ok (.iadd , 1)) rfl rfl
  · intro d a v0 x L M Q; exact Wp_sim (by decide +kernel : decode (cd 8) 38 = .ok (.istore_n 1, 1)) rfl rfl
  · intro d v0 v1 v2 x L M Q; exact Wp_sim (by decide +kernel : decode (cd 8) 39 = .ok (.iinc 3 1, 3)) rfl rfl
  · intro d L M Q; exact q_goto (by decide +kernel : decode (cd 8) 42 = .ok (.goto (-18), 3)) (by decide)
  · intro d v0 v1 x L M Q; exact Wp_sim (by decide +kernel : decode (cd 8) 45 = .ok (.iinc 2 1, 3)) rfl rfl
  · intro d L M Q; exact q_goto (by decide +kernel : decode (cd 8) 48 = .ok (.goto (-44), 3)) (by decide)
  · intro d v0 x L M Q; exact Wp_sim (by decide +kernel : decode (cd 8) 51 = .ok (.iload_n 1, 1)) rfl rfl
  · intro d a L M Q; exact q_iret (by decide +kernel : decode (cd 8) 52 = .ok (.ireturn , 1)) (by decide +kernel)
theorem h8_4 : (∀ (d : Nat) (v0 : Value) (v1 : Value) (x : Int32) (L : List Value) (M : Mem) (Q : Option Value → Mem → Prop), Wp d 8 4 (v0 :: v1 :: .int x :: L) [] M Q ↔ Wp d 8 5 (v0 :: v1 :: .int x :: L) [.int x] M Q) := by
  intro d v0 v1 x L M Q; exact Wp_sim (by decide +kernel : decode (cd 8) 4 = .ok (.iload_n 2, 1)) rfl rfl
theorem h8_24 : (∀ (d : Nat) (v0 : Value) (v1 : Value) (v2 : Value) (x : Int32) (L : List Value) (M : Mem) (Q : Option Value → Mem → Prop), Wp d 8 24 (v0 :: v1 :: v2 :: .int x :: L) [] M Q ↔ Wp d 8 25 (v0 :: v1 :: v2 :: .int x :: L) [.int x] M Q) := by
  intro d v0 v1 v2 x L M Q; exact Wp_sim (by decide +kernel : decode (cd 8) 24 = .ok (.iload_n 3, 1)) rfl rfl

/- 9: Debts.net -/
set_option maxRecDepth 10000 in
theorem e9 : (∀ (d : Nat) (L : List Value) (M : Mem) (Q : Option Value → Mem → Prop), Wp d 9 0 L [] M Q ↔ Wp d 9 1 L [.int 0] M Q) ∧
    (∀ (d : Nat) (a : Int32) (v0 : Value) (v1 : Value) (x : Value) (L : List Value) (M : Mem) (Q : Option Value → Mem → Prop), Wp d 9 1 (v0 :: v1 :: x :: L) [.int a] M Q ↔ Wp d 9 2 (v0 :: clr v1 :: .int a :: L) [] M Q) ∧
    (∀ (d : Nat) (L : List Value) (M : Mem) (Q : Option Value → Mem → Prop), Wp d 9 2 L [] M Q ↔ Wp d 9 3 L [.int 0] M Q) ∧
    (∀ (d : Nat) (a : Int32) (v0 : Value) (v1 : Value) (v2 : Value) (x : Value) (L : List Value) (M : Mem) (Q : Option Value → Mem → Prop), Wp d 9 3 (v0 :: v1 :: v2 :: x :: L) [.int a] M Q ↔ Wp d 9 4 (v0 :: v1 :: clr v2 :: .int a :: L) [] M Q) ∧
    (∀ (d : Nat) (a : Int32) (L : List Value) (M : Mem) (Q : Option Value → Mem → Prop), Wp d 9 5 L [.int a] M Q ↔ Wp d 9 7 L [.int 6, .int a] M Q) ∧
    (∀ (d : Nat) (a : Int32) (b : Int32) (L : List Value) (M : Mem) (Q : Option Value → Mem → Prop), Wp d 9 7 L [.int a, .int b] M Q ↔ (if b < a then Wp d 9 10 L [] M Q else Wp d 9 25 L [] M Q)) ∧
    (∀ (d : Nat) (v0 : Value) (v1 : Value) (x : Int32) (L : List Value) (M : Mem) (Q : Option Value → Mem → Prop), Wp d 9 10 (v0 :: v1 :: .int x :: L) [] M Q ↔ Wp d 9 11 (v0 :: v1 :: .int x :: L) [.int x] M Q) ∧
    (∀ (d : Nat) (a : Int32) (x : Nat) (L : List Value) (M : Mem) (Q : Option Value → Mem → Prop), Wp d 9 11 (.ref x :: L) [.int a] M Q ↔ Wp d 9 12 (.ref x :: L) [.ref x, .int a] M Q) ∧
    (∀ (d : Nat) (a : Nat) (b : Int32) (v0 : Value) (v1 : Value) (v2 : Value) (x : Int32) (L : List Value) (M : Mem) (Q : Option Value → Mem → Prop), Wp d 9 12 (v0 :: v1 :: v2 :: .int x :: L) [.ref a, .int b] M Q ↔ Wp d 9 13 (v0 :: v1 :: v2 :: .int x :: L) [.int x, .ref a, .int b] M Q) ∧
    (∀ (d : Nat) (a : Int32) (b : Nat) (c : Int32) (v0 : Value) (x : Int32) (L : List Value) (M : Mem) (Q : Option Value → Mem → Prop), Wp d 9 13 (v0 :: .int x :: L) [.int a, .ref b, .int c] M Q ↔ Wp d 9 14 (v0 :: .int x :: L) [.int x, .int a, .ref b, .int c] M Q) ∧
    (∀ (d : Nat) (a : Int32) (b : Int32) (c : Nat) (d2 : Int32) (L : List Value) (M : Mem) (Q : Option Value → Mem → Prop), Wp (d + 1) 9 14 L [.int a, .int b, .ref c, .int d2] M Q ↔ (isK c 2 = true ∧ Wp d 10 0 [.ref c, .int b, .int a] [] M (fun r M2 => Wp (d + 1) 9 17 L (r.toList ++ [.int d2]) M2 Q))) ∧
    (∀ (d : Nat) (a : Int32) (b : Int32) (L : List Value) (M : Mem) (Q : Option Value → Mem → Prop), Wp d 9 17 L [.int a, .int b] M Q ↔ Wp d 9 18 L [.int (b + a)] M Q) ∧
    (∀ (d : Nat) (a : Int32) (v0 : Value) (v1 : Value) (x : Value) (L : List Value) (M : Mem) (Q : Option Value → Mem → Prop), Wp d 9 18 (v0 :: v1 :: x :: L) [.int a] M Q ↔ Wp d 9 19 (v0 :: clr v1 :: .int a :: L) [] M Q) ∧
    (∀ (d : Nat) (v0 : Value) (v1 : Value) (v2 : Value) (x : Int32) (L : List Value) (M : Mem) (Q : Option Value → Mem → Prop), Wp d 9 19 (v0 :: v1 :: v2 :: .int x :: L) [] M Q ↔ Wp d 9 22 (v0 :: v1 :: clr v2 :: .int (x + 1) :: L) [] M Q) ∧
    (∀ (d : Nat) (L : List Value) (M : Mem) (Q : Option Value → Mem → Prop), Wp d 9 22 L [] M Q ↔ Wp d 9 4 L [] M Q) ∧
    (∀ (d : Nat) (v0 : Value) (v1 : Value) (x : Int32) (L : List Value) (M : Mem) (Q : Option Value → Mem → Prop), Wp d 9 25 (v0 :: v1 :: .int x :: L) [] M Q ↔ Wp d 9 26 (v0 :: v1 :: .int x :: L) [.int x] M Q) ∧
    (∀ (d : Nat) (a : Int32) (L : List Value) (M : Mem) (Q : Option Value → Mem → Prop), Wp d 9 26 L [.int a] M Q ↔ Q (some (.int a)) M) := by
  refine ⟨?_, ?_, ?_, ?_, ?_, ?_, ?_, ?_, ?_, ?_, ?_, ?_, ?_, ?_, ?_, ?_, ?_⟩
  · intro d L M Q; exact Wp_sim (by decide +kernel : decode (cd 9) 0 = .ok (.iconst 0, 1)) rfl rfl
  · intro d a v0 v1 x L M Q; exact Wp_sim (by decide +kernel : decode (cd 9) 1 = .ok (.istore_n 2, 1)) rfl rfl
  · intro d L M Q; exact Wp_sim (by decide +kernel : decode (cd 9) 2 = .ok (.iconst 0, 1)) rfl rfl
  · intro d a v0 v1 v2 x L M Q; exact Wp_sim (by decide +kernel : decode (cd 9) 3 = .ok (.istore_n 3, 1)) rfl rfl
  · intro d a L M Q; exact Wp_sim (by decide +kernel : decode (cd 9) 5 = .ok (.bipush 6, 2)) rfl rfl
  · intro d a b L M Q; exact q_ige (by decide +kernel : decode (cd 9) 7 = .ok (.if_icmp .ge 18, 3)) (by decide)
  · intro d v0 v1 x L M Q; exact Wp_sim (by decide +kernel : decode (cd 9) 10 = .ok (.iload_n 2, 1)) rfl rfl
  · intro d a x L M Q; exact Wp_sim (by decide +kernel : decode (cd 9) 11 = .ok (.aload_n 0, 1)) rfl rfl
  · intro d a b v0 v1 v2 x L M Q; exact Wp_sim (by decide +kernel : decode (cd 9) 12 = .ok (.iload_n 3, 1)) rfl rfl
  · intro d a b c v0 x L M Q; exact Wp_sim (by decide +kernel : decode (cd 9) 13 = .ok (.iload_n 1, 1)) rfl rfl
  · intro d a b c d2 L M Q; exact q_invV (pz := 489) (n := 2) (c := 2) (m := 3) (k := c) (As := [.int b, .int a]) (rest := [.int d2]) (by decide +kernel : decode (cd 9) 14 = .ok (.invokevirtual 19, 3)) (by decide +kernel) (by decide +kernel) rfl rfl (Nat.le_of_ble_eq_true rfl) (Nat.le_of_ble_eq_true rfl) rfl
  · intro d a b L M Q; exact Wp_sim (by decide +kernel : decode (cd 9) 17 = .ok (.iadd , 1)) rfl rfl
  · intro d a v0 v1 x L M Q; exact Wp_sim (by decide +kernel : decode (cd 9) 18 = .ok (.istore_n 2, 1)) rfl rfl
  · intro d v0 v1 v2 x L M Q; exact Wp_sim (by decide +kernel : decode (cd 9) 19 = .ok (.iinc 3 1, 3)) rfl rfl
  · intro d L M Q; exact q_goto (by decide +kernel : decode (cd 9) 22 = .ok (.goto (-18), 3)) (by decide)
  · intro d v0 v1 x L M Q; exact Wp_sim (by decide +kernel : decode (cd 9) 25 = .ok (.iload_n 2, 1)) rfl rfl
  · intro d a L M Q; exact q_iret (by decide +kernel : decode (cd 9) 26 = .ok (.ireturn , 1)) (by decide +kernel)
theorem h9_4 : (∀ (d : Nat) (v0 : Value) (v1 : Value) (v2 : Value) (x : Int32) (L : List Value) (M : Mem) (Q : Option Value → Mem → Prop), Wp d 9 4 (v0 :: v1 :: v2 :: .int x :: L) [] M Q ↔ Wp d 9 5 (v0 :: v1 :: v2 :: .int x :: L) [.int x] M Q) := by
  intro d v0 v1 v2 x L M Q; exact Wp_sim (by decide +kernel : decode (cd 9) 4 = .ok (.iload_n 3, 1)) rfl rfl

/- 10: Debts.balanceOf -/
set_option maxRecDepth 10000 in
theorem e10 : (∀ (d : Nat) (v0 : Value) (x : Int32) (L : List Value) (M : Mem) (Q : Option Value → Mem → Prop), Wp d 10 0 (v0 :: .int x :: L) [] M Q ↔ Wp d 10 1 (v0 :: .int x :: L) [.int x] M Q) ∧
    (∀ (d : Nat) (a : Int32) (v0 : Value) (v1 : Value) (x : Int32) (L : List Value) (M : Mem) (Q : Option Value → Mem → Prop), Wp d 10 1 (v0 :: v1 :: .int x :: L) [.int a] M Q ↔ Wp d 10 2 (v0 :: v1 :: .int x :: L) [.int x, .int a] M Q) ∧
    (∀ (d : Nat) (a : Int32) (b : Int32) (L : List Value) (M : Mem) (Q : Option Value → Mem → Prop), Wp (d + 1) 10 2 L [.int a, .int b] M Q ↔ Wp d 11 0 [.int b, .int a] [] M (fun r M2 => Wp (d + 1) 10 5 L (r.toList ++ []) M2 Q)) ∧
    (∀ (d : Nat) (a : Int32) (L : List Value) (M : Mem) (Q : Option Value → Mem → Prop), Wp d 10 5 L [.int a] M Q ↔ (if a = 0 then Wp d 10 22 L [] M Q else Wp d 10 8 L [] M Q)) ∧
    (∀ (d : Nat) (x : Nat) (L : List Value) (M : Mem) (Q : Option Value → Mem → Prop), Wp d 10 8 (.ref x :: L) [] M Q ↔ Wp d 10 9 (.ref x :: L) [.ref x] M Q) ∧
    (∀ (d : Nat) (a : Nat) (L : List Value) (M : Mem) (Q : Option Value → Mem → Prop), Wp d 10 9 L [.ref a] M Q ↔ (isK a 2 = true ∧ Wp d 10 12 L [.ref (rt a 0)] M Q)) ∧
    (∀ (d : Nat) (a : Nat) (v0 : Value) (x : Int32) (L : List Value) (M : Mem) (Q : Option Value → Mem → Prop), Wp d 10 12 (v0 :: .int x :: L) [.ref a] M Q ↔ Wp d 10 13 (v0 :: .int x :: L) [.int x, .ref a] M Q) ∧
    (∀ (d : Nat) (a : Int32) (b : Nat) (L : List Value) (M : Mem) (Q : Option Value → Mem → Prop), Wp d 10 13 L [.int a, .ref b] M Q ↔ Wp d 10 15 L [.int 6, .int a, .ref b] M Q) ∧
    (∀ (d : Nat) (a : Int32) (b : Int32) (c : Nat) (L : List Value) (M : Mem) (Q : Option Value → Mem → Prop), Wp d 10 15 L [.int a, .int b, .ref c] M Q ↔ Wp d 10 16 L [.int (b * a), .ref c] M Q) ∧
    (∀ (d : Nat) (a : Int32) (b : Nat) (v0 : Value) (v1 : Value) (x : Int32) (L : List Value) (M : Mem) (Q : Option Value → Mem → Prop), Wp d 10 16 (v0 :: v1 :: .int x :: L) [.int a, .ref b] M Q ↔ Wp d 10 17 (v0 :: v1 :: .int x :: L) [.int x, .int a, .ref b] M Q) ∧
    (∀ (d : Nat) (a : Int32) (b : Int32) (c : Nat) (L : List Value) (M : Mem) (Q : Option Value → Mem → Prop), Wp d 10 17 L [.int a, .int b, .ref c] M Q ↔ Wp d 10 18 L [.int (b + a), .ref c] M Q) ∧
    (∀ (d : Nat) (a : Int32) (b : Nat) (L : List Value) (M : Mem) (Q : Option Value → Mem → Prop), Wp d 10 18 L [.int a, .ref b] M Q ↔ ((isR b = true ∧ inr a (lnm M b)) ∧ Wp d 10 19 L [.int (M b a.toNatClampNeg)] M Q)) ∧
    (∀ (d : Nat) (a : Int32) (L : List Value) (M : Mem) (Q : Option Value → Mem → Prop), Wp d 10 19 L [.int a] M Q ↔ Wp d 10 23 L [.int a] M Q) ∧
    (∀ (d : Nat) (L : List Value) (M : Mem) (Q : Option Value → Mem → Prop), Wp d 10 22 L [] M Q ↔ Wp d 10 23 L [.int 0] M Q) ∧
    (∀ (d : Nat) (a : Int32) (L : List Value) (M : Mem) (Q : Option Value → Mem → Prop), Wp d 10 23 L [.int a] M Q ↔ Q (some (.int a)) M) := by
  refine ⟨?_, ?_, ?_, ?_, ?_, ?_, ?_, ?_, ?_, ?_, ?_, ?_, ?_, ?_, ?_⟩
  · intro d v0 x L M Q; exact Wp_sim (by decide +kernel : decode (cd 10) 0 = .ok (.iload_n 1, 1)) rfl rfl
  · intro d a v0 v1 x L M Q; exact Wp_sim (by decide +kernel : decode (cd 10) 1 = .ok (.iload_n 2, 1)) rfl rfl
  · intro d a b L M Q; exact q_invS (pz := 493) (n := 2) (m := 2) (As := [.int b, .int a]) (rest := []) (by decide +kernel : decode (cd 10) 2 = .ok (.invokestatic 15, 3)) (by decide +kernel) (by decide +kernel) (by decide +kernel) rfl rfl (Nat.le_of_ble_eq_true rfl) (Nat.le_of_ble_eq_true rfl) rfl
  · intro d a L M Q; exact q_zeq (by decide +kernel : decode (cd 10) 5 = .ok (.ifCond .eq 17, 3)) (by decide)
  · intro d x L M Q; exact Wp_sim (by decide +kernel : decode (cd 10) 8 = .ok (.aload_n 0, 1)) rfl rfl
  · intro d a L M Q; exact q_getR (p := 159) (by decide +kernel : decode (cd 10) 9 = .ok (.getfield 11, 3)) (by decide +kernel) (by decide +kernel)
  · intro d a v0 x L M Q; exact Wp_sim (by decide +kernel : decode (cd 10) 12 = .ok (.iload_n 1, 1)) rfl rfl
  · intro d a b L M Q; exact Wp_sim (by decide +kernel : decode (cd 10) 13 = .ok (.bipush 6, 2)) rfl rfl
  · intro d a b c L M Q; exact Wp_sim (by decide +kernel : decode (cd 10) 15 = .ok (.imul , 1)) rfl rfl
  · intro d a b v0 v1 x L M Q; exact Wp_sim (by decide +kernel : decode (cd 10) 16 = .ok (.iload_n 2, 1)) rfl rfl
  · intro d a b c L M Q; exact Wp_sim (by decide +kernel : decode (cd 10) 17 = .ok (.iadd , 1)) rfl rfl
  · intro d a b L M Q; exact q_ald (by decide +kernel : decode (cd 10) 18 = .ok (.iaload , 1))
  · intro d a L M Q; exact q_goto (by decide +kernel : decode (cd 10) 19 = .ok (.goto 4, 3)) (by decide)
  · intro d L M Q; exact Wp_sim (by decide +kernel : decode (cd 10) 22 = .ok (.iconst 0, 1)) rfl rfl
  · intro d a L M Q; exact q_iret (by decide +kernel : decode (cd 10) 23 = .ok (.ireturn , 1)) (by decide +kernel)

/- 11: Debts.isRow -/
set_option maxRecDepth 10000 in
theorem e11 : (∀ (d : Nat) (x : Int32) (L : List Value) (M : Mem) (Q : Option Value → Mem → Prop), Wp d 11 0 (.int x :: L) [] M Q ↔ Wp d 11 1 (.int x :: L) [.int x] M Q) ∧
    (∀ (d : Nat) (a : Int32) (L : List Value) (M : Mem) (Q : Option Value → Mem → Prop), Wp d 11 1 L [.int a] M Q ↔ (if a < 0 then Wp d 11 24 L [] M Q else Wp d 11 4 L [] M Q)) ∧
    (∀ (d : Nat) (x : Int32) (L : List Value) (M : Mem) (Q : Option Value → Mem → Prop), Wp d 11 4 (.int x :: L) [] M Q ↔ Wp d 11 5 (.int x :: L) [.int x] M Q) ∧
    (∀ (d : Nat) (a : Int32) (L : List Value) (M : Mem) (Q : Option Value → Mem → Prop), Wp d 11 5 L [.int a] M Q ↔ Wp d 11 7 L [.int 6, .int a] M Q) ∧
    (∀ (d : Nat) (a : Int32) (b : Int32) (L : List Value) (M : Mem) (Q : Option Value → Mem → Prop), Wp d 11 7 L [.int a, .int b] M Q ↔ (if b < a then Wp d 11 10 L [] M Q else Wp d 11 24 L [] M Q)) ∧
    (∀ (d : Nat) (v0 : Value) (x : Int32) (L : List Value) (M : Mem) (Q : Option Value → Mem → Prop), Wp d 11 10 (v0 :: .int x :: L) [] M Q ↔ Wp d 11 11 (v0 :: .int x :: L) [.int x] M Q) ∧
    (∀ (d : Nat) (a : Int32) (L : List Value) (M : Mem) (Q : Option Value → Mem → Prop), Wp d 11 11 L [.int a] M Q ↔ (if a < 0 then Wp d 11 24 L [] M Q else Wp d 11 14 L [] M Q)) ∧
    (∀ (d : Nat) (v0 : Value) (x : Int32) (L : List Value) (M : Mem) (Q : Option Value → Mem → Prop), Wp d 11 14 (v0 :: .int x :: L) [] M Q ↔ Wp d 11 15 (v0 :: .int x :: L) [.int x] M Q) ∧
    (∀ (d : Nat) (a : Int32) (L : List Value) (M : Mem) (Q : Option Value → Mem → Prop), Wp d 11 15 L [.int a] M Q ↔ Wp d 11 17 L [.int 6, .int a] M Q) ∧
    (∀ (d : Nat) (a : Int32) (b : Int32) (L : List Value) (M : Mem) (Q : Option Value → Mem → Prop), Wp d 11 17 L [.int a, .int b] M Q ↔ (if b < a then Wp d 11 20 L [] M Q else Wp d 11 24 L [] M Q)) ∧
    (∀ (d : Nat) (L : List Value) (M : Mem) (Q : Option Value → Mem → Prop), Wp d 11 20 L [] M Q ↔ Wp d 11 21 L [.int 1] M Q) ∧
    (∀ (d : Nat) (a : Int32) (L : List Value) (M : Mem) (Q : Option Value → Mem → Prop), Wp d 11 21 L [.int a] M Q ↔ Wp d 11 25 L [.int a] M Q) ∧
    (∀ (d : Nat) (L : List Value) (M : Mem) (Q : Option Value → Mem → Prop), Wp d 11 24 L [] M Q ↔ Wp d 11 25 L [.int 0] M Q) ∧
    (∀ (d : Nat) (a : Int32) (L : List Value) (M : Mem) (Q : Option Value → Mem → Prop), Wp d 11 25 L [.int a] M Q ↔ ((a = 0 ∨ a = 1) ∧ Q (some (.int a)) M)) := by
  refine ⟨?_, ?_, ?_, ?_, ?_, ?_, ?_, ?_, ?_, ?_, ?_, ?_, ?_, ?_⟩
  · intro d x L M Q; exact Wp_sim (by decide +kernel : decode (cd 11) 0 = .ok (.iload_n 0, 1)) rfl rfl
  · intro d a L M Q; exact q_zlt (by decide +kernel : decode (cd 11) 1 = .ok (.ifCond .lt 23, 3)) (by decide)
  · intro d x L M Q; exact Wp_sim (by decide +kernel : decode (cd 11) 4 = .ok (.iload_n 0, 1)) rfl rfl
  · intro d a L M Q; exact Wp_sim (by decide +kernel : decode (cd 11) 5 = .ok (.bipush 6, 2)) rfl rfl
  · intro d a b L M Q; exact q_ige (by decide +kernel : decode (cd 11) 7 = .ok (.if_icmp .ge 17, 3)) (by decide)
  · intro d v0 x L M Q; exact Wp_sim (by decide +kernel : decode (cd 11) 10 = .ok (.iload_n 1, 1)) rfl rfl
  · intro d a L M Q; exact q_zlt (by decide +kernel : decode (cd 11) 11 = .ok (.ifCond .lt 13, 3)) (by decide)
  · intro d v0 x L M Q; exact Wp_sim (by decide +kernel : decode (cd 11) 14 = .ok (.iload_n 1, 1)) rfl rfl
  · intro d a L M Q; exact Wp_sim (by decide +kernel : decode (cd 11) 15 = .ok (.bipush 6, 2)) rfl rfl
  · intro d a b L M Q; exact q_ige (by decide +kernel : decode (cd 11) 17 = .ok (.if_icmp .ge 7, 3)) (by decide)
  · intro d L M Q; exact Wp_sim (by decide +kernel : decode (cd 11) 20 = .ok (.iconst 1, 1)) rfl rfl
  · intro d a L M Q; exact q_goto (by decide +kernel : decode (cd 11) 21 = .ok (.goto 4, 3)) (by decide)
  · intro d L M Q; exact Wp_sim (by decide +kernel : decode (cd 11) 24 = .ok (.iconst 0, 1)) rfl rfl
  · intro d a L M Q; exact q_zret (by decide +kernel : decode (cd 11) 25 = .ok (.ireturn , 1)) (by decide +kernel)

/- 12: Debts.owed -/
set_option maxRecDepth 10000 in
theorem e12 : (∀ (d : Nat) (L : List Value) (M : Mem) (Q : Option Value → Mem → Prop), Wp d 12 0 L [] M Q ↔ Wp d 12 1 L [.int 0] M Q) ∧
    (∀ (d : Nat) (a : Int32) (x : Nat) (L : List Value) (M : Mem) (Q : Option Value → Mem → Prop), Wp d 12 1 (.ref x :: L) [.int a] M Q ↔ Wp d 12 2 (.ref x :: L) [.ref x, .int a] M Q) ∧
    (∀ (d : Nat) (a : Nat) (b : Int32) (v0 : Value) (x : Int32) (L : List Value) (M : Mem) (Q : Option Value → Mem → Prop), Wp d 12 2 (v0 :: .int x :: L) [.ref a, .int b] M Q ↔ Wp d 12 3 (v0 :: .int x :: L) [.int x, .ref a, .int b] M Q) ∧
    (∀ (d : Nat) (a : Int32) (b : Nat) (c : Int32) (v0 : Value) (v1 : Value) (x : Int32) (L : List Value) (M : Mem) (Q : Option Value → Mem → Prop), Wp d 12 3 (v0 :: v1 :: .int x :: L) [.int a, .ref b, .int c] M Q ↔ Wp d 12 4 (v0 :: v1 :: .int x :: L) [.int x, .int a, .ref b, .int c] M Q) ∧
    (∀ (d : Nat) (a : Int32) (b : Int32) (c : Nat) (d2 : Int32) (L : List Value) (M : Mem) (Q : Option Value → Mem → Prop), Wp (d + 1) 12 4 L [.int a, .int b, .ref c, .int d2] M Q ↔ (isK c 2 = true ∧ Wp d 10 0 [.ref c, .int b, .int a] [] M (fun r M2 => Wp (d + 1) 12 7 L (r.toList ++ [.int d2]) M2 Q))) ∧
    (∀ (d : Nat) (a : Int32) (b : Int32) (L : List Value) (M : Mem) (Q : Option Value → Mem → Prop), Wp (d + 1) 12 7 L [.int a, .int b] M Q ↔ Wp (d + 1) 12 10 L [.int (mx b a)] M Q) ∧
    (∀ (d : Nat) (a : Int32) (L : List Value) (M : Mem) (Q : Option Value → Mem → Prop), Wp d 12 10 L [.int a] M Q ↔ Q (some (.int a)) M) := by
  refine ⟨?_, ?_, ?_, ?_, ?_, ?_, ?_⟩
  · intro d L M Q; exact Wp_sim (by decide +kernel : decode (cd 12) 0 = .ok (.iconst 0, 1)) rfl rfl
  · intro d a x L M Q; exact Wp_sim (by decide +kernel : decode (cd 12) 1 = .ok (.aload_n 0, 1)) rfl rfl
  · intro d a b v0 x L M Q; exact Wp_sim (by decide +kernel : decode (cd 12) 2 = .ok (.iload_n 1, 1)) rfl rfl
  · intro d a b c v0 v1 x L M Q; exact Wp_sim (by decide +kernel : decode (cd 12) 3 = .ok (.iload_n 2, 1)) rfl rfl
  · intro d a b c d2 L M Q; exact q_invV (pz := 489) (n := 2) (c := 2) (m := 3) (k := c) (As := [.int b, .int a]) (rest := [.int d2]) (by decide +kernel : decode (cd 12) 4 = .ok (.invokevirtual 19, 3)) (by decide +kernel) (by decide +kernel) rfl rfl (Nat.le_of_ble_eq_true rfl) (Nat.le_of_ble_eq_true rfl) rfl
  · intro d a b L M Q; exact q_max (p := 496) (by decide +kernel : decode (cd 12) 7 = .ok (.invokestatic 23, 3)) (by decide +kernel) (Nat.le_of_ble_eq_true rfl)
  · intro d a L M Q; exact q_iret (by decide +kernel : decode (cd 12) 10 = .ok (.ireturn , 1)) (by decide +kernel)

/- 13: Debts.addTo -/
set_option maxRecDepth 10000 in
theorem e13 : (∀ (d : Nat) (v0 : Value) (x : Int32) (L : List Value) (M : Mem) (Q : Option Value → Mem → Prop), Wp d 13 0 (v0 :: .int x :: L) [] M Q ↔ Wp d 13 1 (v0 :: .int x :: L) [.int x] M Q) ∧
    (∀ (d : Nat) (a : Int32) (v0 : Value) (v1 : Value) (x : Int32) (L : List Value) (M : Mem) (Q : Option Value → Mem → Prop), Wp d 13 1 (v0 :: v1 :: .int x :: L) [.int a] M Q ↔ Wp d 13 2 (v0 :: v1 :: .int x :: L) [.int x, .int a] M Q) ∧
    (∀ (d : Nat) (a : Int32) (b : Int32) (L : List Value) (M : Mem) (Q : Option Value → Mem → Prop), Wp (d + 1) 13 2 L [.int a, .int b] M Q ↔ Wp d 11 0 [.int b, .int a] [] M (fun r M2 => Wp (d + 1) 13 5 L (r.toList ++ []) M2 Q)) ∧
    (∀ (d : Nat) (a : Int32) (L : List Value) (M : Mem) (Q : Option Value → Mem → Prop), Wp d 13 5 L [.int a] M Q ↔ (if a = 0 then Wp d 13 8 L [] M Q else Wp d 13 9 L [] M Q)) ∧
    (∀ (d : Nat) (L : List Value) (M : Mem) (Q : Option Value → Mem → Prop), Wp d 13 8 L [] M Q ↔ Q none M) ∧
    (∀ (d : Nat) (x : Nat) (L : List Value) (M : Mem) (Q : Option Value → Mem → Prop), Wp d 13 9 (.ref x :: L) [] M Q ↔ Wp d 13 10 (.ref x :: L) [.ref x] M Q) ∧
    (∀ (d : Nat) (a : Nat) (L : List Value) (M : Mem) (Q : Option Value → Mem → Prop), Wp d 13 10 L [.ref a] M Q ↔ (isK a 2 = true ∧ Wp d 13 13 L [.ref (rt a 0)] M Q)) ∧
    (∀ (d : Nat) (a : Nat) (v0 : Value) (x : Int32) (L : List Value) (M : Mem) (Q : Option Value → Mem → Prop), Wp d 13 13 (v0 :: .int x :: L) [.ref a] M Q ↔ Wp d 13 14 (v0 :: .int x :: L) [.int x, .ref a] M Q) ∧
    (∀ (d : Nat) (a : Int32) (b : Nat) (L : List Value) (M : Mem) (Q : Option Value → Mem → Prop), Wp d 13 14 L [.int a, .ref b] M Q ↔ Wp d 13 16 L [.int 6, .int a, .ref b] M Q) ∧
    (∀ (d : Nat) (a : Int32) (b : Int32) (c : Nat) (L : List Value) (M : Mem) (Q : Option Value → Mem → Prop), Wp d 13 16 L [.int a, .int b, .ref c] M Q ↔ Wp d 13 17 L [.int (b * a), .ref c] M Q) ∧
    (∀ (d : Nat) (a : Int32) (b : Nat) (v0 : Value) (v1 : Value) (x : Int32) (L : List Value) (M : Mem) (Q : Option Value → Mem → Prop), Wp d 13 17 (v0 :: v1 :: .int x :: L) [.int a, .ref b] M Q ↔ Wp d 13 18 (v0 :: v1 :: .int x :: L) [.int x, .int a, .ref b] M Q) ∧
    (∀ (d : Nat) (a : Int32) (b : Int32) (c : Nat) (L : List Value) (M : Mem) (Q : Option Value → Mem → Prop), Wp d 13 18 L [.int a, .int b, .ref c] M Q ↔ Wp d 13 19 L [.int (b + a), .ref c] M Q) ∧
    (∀ (d : Nat) (a : Int32) (b : Nat) (L : List Value) (M : Mem) (Q : Option Value → Mem → Prop), Wp d 13 19 L [.int a, .ref b] M Q ↔ Wp d 13 20 L [.int a, .ref b, .int a, .ref b] M Q) ∧
    (∀ (d : Nat) (a : Int32) (b : Nat) (c : Int32) (d2 : Nat) (L : List Value) (M : Mem) (Q : Option Value → Mem → Prop), Wp d 13 20 L [.int a, .ref b, .int c, .ref d2] M Q ↔ ((isR b = true ∧ inr a (lnm M b)) ∧ Wp d 13 21 L [.int (M b a.toNatClampNeg), .int c, .ref d2] M Q)) ∧
    (∀ (d : Nat) (a : Int32) (b : Int32) (c : Nat) (v0 : Value) (v1 : Value) (v2 : Value) (x : Int32) (L : List Value) (M : Mem) (Q : Option Value → Mem → Prop), Wp d 13 21 (v0 :: v1 :: v2 :: .int x :: L) [.int a, .int b, .ref c] M Q ↔ Wp d 13 22 (v0 :: v1 :: v2 :: .int x :: L) [.int x, .int a, .int b, .ref c] M Q) ∧
    (∀ (d : Nat) (a : Int32) (b : Int32) (c : Int32) (d2 : Nat) (L : List Value) (M : Mem) (Q : Option Value → Mem → Prop), Wp d 13 22 L [.int a, .int b, .int c, .ref d2] M Q ↔ Wp d 13 23 L [.int (b + a), .int c, .ref d2] M Q) ∧
    (∀ (d : Nat) (a : Int32) (b : Int32) (c : Nat) (L : List Value) (M : Mem) (Q : Option Value → Mem → Prop), Wp d 13 23 L [.int a, .int b, .ref c] M Q ↔ ((isK c 13 = true ∧ inr b (lnm M c)) ∧ Wp d 13 24 L [] (up2 M c b.toNatClampNeg a) Q)) ∧
    (∀ (d : Nat) (x : Nat) (L : List Value) (M : Mem) (Q : Option Value → Mem → Prop), Wp d 13 24 (.ref x :: L) [] M Q ↔ Wp d 13 25 (.ref x :: L) [.ref x] M Q) ∧
    (∀ (d : Nat) (a : Nat) (L : List Value) (M : Mem) (Q : Option Value → Mem → Prop), Wp d 13 25 L [.ref a] M Q ↔ (isK a 2 = true ∧ Wp d 13 28 L [.ref (rt a 0)] M Q)) ∧
    (∀ (d : Nat) (a : Nat) (v0 : Value) (v1 : Value) (x : Int32) (L : List Value) (M : Mem) (Q : Option Value → Mem → Prop), Wp d 13 28 (v0 :: v1 :: .int x :: L) [.ref a] M Q ↔ Wp d 13 29 (v0 :: v1 :: .int x :: L) [.int x, .ref a] M Q) ∧
    (∀ (d : Nat) (a : Int32) (b : Nat) (L : List Value) (M : Mem) (Q : Option Value → Mem → Prop), Wp d 13 29 L [.int a, .ref b] M Q ↔ Wp d 13 31 L [.int 6, .int a, .ref b] M Q) ∧
    (∀ (d : Nat) (a : Int32) (b : Int32) (c : Nat) (L : List Value) (M : Mem) (Q : Option Value → Mem → Prop), Wp d 13 31 L [.int a, .int b, .ref c] M Q ↔ Wp d 13 32 L [.int (b * a), .ref c] M Q) ∧
    (∀ (d : Nat) (a : Int32) (b : Nat) (v0 : Value) (x : Int32) (L : List Value) (M : Mem) (Q : Option Value → Mem → Prop), Wp d 13 32 (v0 :: .int x :: L) [.int a, .ref b] M Q ↔ Wp d 13 33 (v0 :: .int x :: L) [.int x, .int a, .ref b] M Q) ∧
    (∀ (d : Nat) (a : Int32) (b : Int32) (c : Nat) (L : List Value) (M : Mem) (Q : Option Value → Mem → Prop), Wp d 13 33 L [.int a, .int b, .ref c] M Q ↔ Wp d 13 34 L [.int (b + a), .ref c] M Q) ∧
    (∀ (d : Nat) (a : Int32) (b : Nat) (L : List Value) (M : Mem) (Q : Option Value → Mem → Prop), Wp d 13 34 L [.int a, .ref b] M Q ↔ Wp d 13 35 L [.int a, .ref b, .int a, .ref b] M Q) ∧
    (∀ (d : Nat) (a : Int32) (b : Nat) (c : Int32) (d2 : Nat) (L : List Value) (M : Mem) (Q : Option Value → Mem → Prop), Wp d 13 35 L [.int a, .ref b, .int c, .ref d2] M Q ↔ ((isR b = true ∧ inr a (lnm M b)) ∧ Wp d 13 36 L [.int (M b a.toNatClampNeg), .int c, .ref d2] M Q)) ∧
    (∀ (d : Nat) (a : Int32) (b : Int32) (c : Nat) (v0 : Value) (v1 : Value) (v2 : Value) (x : Int32) (L : List Value) (M : Mem) (Q : Option Value → Mem → Prop), Wp d 13 36 (v0 :: v1 :: v2 :: .int x :: L) [.int a, .int b, .ref c] M Q ↔ Wp d 13 37 (v0 :: v1 :: v2 :: .int x :: L) [.int x, .int a, .int b, .ref c] M Q) ∧
    (∀ (d : Nat) (a : Int32) (b : Int32) (c : Int32) (d2 : Nat) (L : List Value) (M : Mem) (Q : Option Value → Mem → Prop), Wp d 13 37 L [.int a, .int b, .int c, .ref d2] M Q ↔ Wp d 13 38 L [.int (b - a), .int c, .ref d2] M Q) ∧
    (∀ (d : Nat) (a : Int32) (b : Int32) (c : Nat) (L : List Value) (M : Mem) (Q : Option Value → Mem → Prop), Wp d 13 38 L [.int a, .int b, .ref c] M Q ↔ ((isK c 13 = true ∧ inr b (lnm M c)) ∧ Wp d 13 39 L [] (up2 M c b.toNatClampNeg a) Q)) ∧
    (∀ (d : Nat) (L : List Value) (M : Mem) (Q : Option Value → Mem → Prop), Wp d 13 39 L [] M Q ↔ Q none M) := by
  refine ⟨?_, ?_, ?_, ?_, ?_, ?_, ?_, ?_, ?_, ?_, ?_, ?_, ?_, ?_, ?_, ?_, ?_, ?_, ?_, ?_, ?_, ?_, ?_, ?_, ?_, ?_, ?_, ?_, ?_, ?_⟩
  · intro d v0 x L M Q; exact Wp_sim (by decide +kernel : decode (cd 13) 0 = .ok (.iload_n 1, 1)) rfl rfl
  · intro d a v0 v1 x L M Q; exact Wp_sim (by decide +kernel : decode (cd 13) 1 = .ok (.iload_n 2, 1)) rfl rfl
  · intro d a b L M Q; exact q_invS (pz := 493) (n := 2) (m := 2) (As := [.int b, .int a]) (rest := []) (by decide +kernel : decode (cd 13) 2 = .ok (.invokestatic 15, 3)) (by decide +kernel) (by decide +kernel) (by decide +kernel) rfl rfl (Nat.le_of_ble_eq_true rfl) (Nat.le_of_ble_eq_true rfl) rfl
  · intro d a L M Q; exact q_zne (by decide +kernel : decode (cd 13) 5 = .ok (.ifCond .ne 4, 3)) (by decide)
  · intro d L M Q; exact q_vret (by decide +kernel : decode (cd 13) 8 = .ok (.return_ , 1)) (by decide +kernel)
  · intro d x L M Q; exact Wp_sim (by decide +kernel : decode (cd 13) 9 = .ok (.aload_n 0, 1)) rfl rfl
  · intro d a L M Q; exact q_getR (p := 159) (by decide +kernel : decode (cd 13) 10 = .ok (.getfield 11, 3)) (by decide +kernel) (by decide +kernel)
  · intro d a v0 x L M Q; exact Wp_sim (by decide +kernel : decode (cd 13) 13 = .ok (.iload_n 1, 1)) rfl rfl
  · intro d a b L M Q; exact Wp_sim (by decide +kernel : decode (cd 13) 14 = .ok (.bipush 6, 2)) rfl rfl
  · intro d a b c L M Q; exact Wp_sim (by decide +kernel : decode (cd 13) 16 = .ok (.imul , 1)) rfl rfl
  · intro d a b v0 v1 x L M Q; exact Wp_sim (by decide +kernel : decode (cd 13) 17 = .ok (.iload_n 2, 1)) rfl rfl
  · intro d a b c L M Q; exact Wp_sim (by decide +kernel : decode (cd 13) 18 = .ok (.iadd , 1)) rfl rfl
  · intro d a b L M Q; exact Wp_sim (by decide +kernel : decode (cd 13) 19 = .ok (.dup2 , 1)) rfl rfl
  · intro d a b c d2 L M Q; exact q_ald (by decide +kernel : decode (cd 13) 20 = .ok (.iaload , 1))
  · intro d a b c v0 v1 v2 x L M Q; exact Wp_sim (by decide +kernel : decode (cd 13) 21 = .ok (.iload_n 3, 1)) rfl rfl
  · intro d a b c d2 L M Q; exact Wp_sim (by decide +kernel : decode (cd 13) 22 = .ok (.iadd , 1)) rfl rfl
  · intro d a b c L M Q; exact q_ast (by decide +kernel : decode (cd 13) 23 = .ok (.iastore , 1))
  · intro d x L M Q; exact Wp_sim (by decide +kernel : decode (cd 13) 24 = .ok (.aload_n 0, 1)) rfl rfl
  · intro d a L M Q; exact q_getR (p := 159) (by decide +kernel : decode (cd 13) 25 = .ok (.getfield 11, 3)) (by decide +kernel) (by decide +kernel)
  · intro d a v0 v1 x L M Q; exact Wp_sim (by decide +kernel : decode (cd 13) 28 = .ok (.iload_n 2, 1)) rfl rfl
  · intro d a b L M Q; exact Wp_sim (by decide +kernel : decode (cd 13) 29 = .ok (.bipush 6, 2)) rfl rfl
  · intro d a b c L M Q; exact Wp_sim (by decide +kernel : decode (cd 13) 31 = .ok (.imul , 1)) rfl rfl
  · intro d a b v0 x L M Q; exact Wp_sim (by decide +kernel : decode (cd 13) 32 = .ok (.iload_n 1, 1)) rfl rfl
  · intro d a b c L M Q; exact Wp_sim (by decide +kernel : decode (cd 13) 33 = .ok (.iadd , 1)) rfl rfl
  · intro d a b L M Q; exact Wp_sim (by decide +kernel : decode (cd 13) 34 = .ok (.dup2 , 1)) rfl rfl
  · intro d a b c d2 L M Q; exact q_ald (by decide +kernel : decode (cd 13) 35 = .ok (.iaload , 1))
  · intro d a b c v0 v1 v2 x L M Q; exact Wp_sim (by decide +kernel : decode (cd 13) 36 = .ok (.iload_n 3, 1)) rfl rfl
  · intro d a b c d2 L M Q; exact Wp_sim (by decide +kernel : decode (cd 13) 37 = .ok (.isub , 1)) rfl rfl
  · intro d a b c L M Q; exact q_ast (by decide +kernel : decode (cd 13) 38 = .ok (.iastore , 1))
  · intro d L M Q; exact q_vret (by decide +kernel : decode (cd 13) 39 = .ok (.return_ , 1)) (by decide +kernel)

/- 14: Debts.firstOwing -/
set_option maxRecDepth 10000 in
theorem e14 : (∀ (d : Nat) (L : List Value) (M : Mem) (Q : Option Value → Mem → Prop), Wp d 14 0 L [] M Q ↔ Wp d 14 1 L [.int 0] M Q) ∧
    (∀ (d : Nat) (a : Int32) (v0 : Value) (v1 : Value) (x : Value) (L : List Value) (M : Mem) (Q : Option Value → Mem → Prop), Wp d 14 1 (v0 :: v1 :: x :: L) [.int a] M Q ↔ Wp d 14 2 (v0 :: clr v1 :: .int a :: L) [] M Q) ∧
    (∀ (d : Nat) (a : Int32) (L : List Value) (M : Mem) (Q : Option Value → Mem → Prop), Wp d 14 3 L [.int a] M Q ↔ Wp d 14 5 L [.int 6, .int a] M Q) ∧
    (∀ (d : Nat) (a : Int32) (b : Int32) (L : List Value) (M : Mem) (Q : Option Value → Mem → Prop), Wp d 14 5 L [.int a, .int b] M Q ↔ (if b < a then Wp d 14 8 L [] M Q else Wp d 14 25 L [] M Q)) ∧
    (∀ (d : Nat) (x : Nat) (L : List Value) (M : Mem) (Q : Option Value → Mem → Prop), Wp d 14 8 (.ref x :: L) [] M Q ↔ Wp d 14 9 (.ref x :: L) [.ref x] M Q) ∧
    (∀ (d : Nat) (a : Nat) (v0 : Value) (v1 : Value) (x : Int32) (L : List Value) (M : Mem) (Q : Option Value → Mem → Prop), Wp d 14 9 (v0 :: v1 :: .int x :: L) [.ref a] M Q ↔ Wp d 14 10 (v0 :: v1 :: .int x :: L) [.int x, .ref a] M Q) ∧
    (∀ (d : Nat) (a : Int32) (b : Nat) (v0 : Value) (x : Int32) (L : List Value) (M : Mem) (Q : Option Value → Mem → Prop), Wp d 14 10 (v0 :: .int x :: L) [.int a, .ref b] M Q ↔ Wp d 14 11 (v0 :: .int x :: L) [.int x, .int a, .ref b] M Q) ∧
    (∀ (d : Nat) (a : Int32) (b : Int32) (c : Nat) (L : List Value) (M : Mem) (Q : Option Value → Mem → Prop), Wp (d + 1) 14 11 L [.int a, .int b, .ref c] M Q ↔ (isK c 2 = true ∧ Wp d 12 0 [.ref c, .int b, .int a] [] M (fun r M2 => Wp (d + 1) 14 14 L (r.toList ++ []) M2 Q))) ∧
    (∀ (d : Nat) (a : Int32) (L : List Value) (M : Mem) (Q : Option Value → Mem → Prop), Wp d 14 14 L [.int a] M Q ↔ (if 0 < a then Wp d 14 17 L [] M Q else Wp d 14 19 L [] M Q)) ∧
    (∀ (d : Nat) (v0 : Value) (v1 : Value) (x : Int32) (L : List Value) (M : Mem) (Q : Option Value → Mem → Prop), Wp d 14 17 (v0 :: v1 :: .int x :: L) [] M Q ↔ Wp d 14 18 (v0 :: v1 :: .int x :: L) [.int x] M Q) ∧
    (∀ (d : Nat) (a : Int32) (L : List Value) (M : Mem) (Q : Option Value → Mem → Prop), Wp d 14 18 L [.int a] M Q ↔ Q (some (.int a)) M) ∧
    (∀ (d : Nat) (v0 : Value) (v1 : Value) (x : Int32) (L : List Value) (M : Mem) (Q : Option Value → Mem → Prop), Wp d 14 19 (v0 :: v1 :: .int x :: L) [] M Q ↔ Wp d 14 22 (v0 :: clr v1 :: .int (x + 1) :: L) [] M Q) ∧
    (∀ (d : Nat) (L : List Value) (M : Mem) (Q : Option Value → Mem → Prop), Wp d 14 22 L [] M Q ↔ Wp d 14 2 L [] M Q) ∧
    (∀ (d : Nat) (L : List Value) (M : Mem) (Q : Option Value → Mem → Prop), Wp d 14 25 L [] M Q ↔ Wp d 14 26 L [.int (-1)] M Q) ∧
    (∀ (d : Nat) (a : Int32) (L : List Value) (M : Mem) (Q : Option Value → Mem → Prop), Wp d 14 26 L [.int a] M Q ↔ Q (some (.int a)) M) := by
  refine ⟨?_, ?_, ?_, ?_, ?_, ?_, ?_, ?_, ?_, ?_, ?_, ?_, ?_, ?_, ?_⟩
  · intro d L M Q; exact Wp_sim (by decide +kernel : decode (cd 14) 0 = .ok (.iconst 0, 1)) rfl rfl
  · intro d a v0 v1 x L M Q; exact Wp_sim (by decide +kernel : decode (cd 14) 1 = .ok (.istore_n 2, 1)) rfl rfl
  · intro d a L M Q; exact Wp_sim (by decide +kernel : decode (cd 14) 3 = .ok (.bipush 6, 2)) rfl rfl
  · intro d a b L M Q; exact q_ige (by decide +kernel : decode (cd 14) 5 = .ok (.if_icmp .ge 20, 3)) (by decide)
  · intro d x L M Q; exact Wp_sim (by decide +kernel : decode (cd 14) 8 = .ok (.aload_n 0, 1)) rfl rfl
  · intro d a v0 v1 x L M Q; exact Wp_sim (by decide +kernel : decode (cd 14) 9 = .ok (.iload_n 2, 1)) rfl rfl
  · intro d a b v0 x L M Q; exact Wp_sim (by decide +kernel : decode (cd 14) 10 = .ok (.iload_n 1, 1)) rfl rfl
  · intro d a b c L M Q; exact q_invV (pz := 497) (n := 2) (c := 2) (m := 3) (k := c) (As := [.int b, .int a]) (rest := []) (by decide +kernel : decode (cd 14) 11 = .ok (.invokevirtual 32, 3)) (by decide +kernel) (by decide +kernel) rfl rfl (Nat.le_of_ble_eq_true rfl) (Nat.le_of_ble_eq_true rfl) rfl
  · intro d a L M Q; exact q_zle (by decide +kernel : decode (cd 14) 14 = .ok (.ifCond .le 5, 3)) (by decide)
  · intro d v0 v1 x L M Q; exact Wp_sim (by decide +kernel : decode (cd 14) 17 = .ok (.iload_n 2, 1)) rfl rfl
  · intro d a L M Q; exact q_iret (by decide +kernel : decode (cd 14) 18 = .ok (.ireturn , 1)) (by decide +kernel)
  · intro d v0 v1 x L M Q; exact Wp_sim (by decide +kernel : decode (cd 14) 19 = .ok (.iinc 2 1, 3)) rfl rfl
  · intro d L M Q; exact q_goto (by decide +kernel : decode (cd 14) 22 = .ok (.goto (-20), 3)) (by decide)
  · intro d L M Q; exact Wp_sim (by decide +kernel : decode (cd 14) 25 = .ok (.iconst (-1), 1)) rfl rfl
  · intro d a L M Q; exact q_iret (by decide +kernel : decode (cd 14) 26 = .ok (.ireturn , 1)) (by decide +kernel)
theorem h14_2 : (∀ (d : Nat) (v0 : Value) (v1 : Value) (x : Int32) (L : List Value) (M : Mem) (Q : Option Value → Mem → Prop), Wp d 14 2 (v0 :: v1 :: .int x :: L) [] M Q ↔ Wp d 14 3 (v0 :: v1 :: .int x :: L) [.int x] M Q) := by
  intro d v0 v1 x L M Q; exact Wp_sim (by decide +kernel : decode (cd 14) 2 = .ok (.iload_n 2, 1)) rfl rfl

/- 15: Debts.chainFrom -/
set_option maxRecDepth 10000 in
theorem e15 : (∀ (d : Nat) (L : List Value) (M : Mem) (Q : Option Value → Mem → Prop), Wp d 15 0 L [] M Q ↔ Wp d 15 1 L [.int 1] M Q) ∧
    (∀ (d : Nat) (a : Int32) (v0 : Value) (x : Int32) (L : List Value) (M : Mem) (Q : Option Value → Mem → Prop), Wp d 15 1 (v0 :: .int x :: L) [.int a] M Q ↔ Wp d 15 2 (v0 :: .int x :: L) [.int x, .int a] M Q) ∧
    (∀ (d : Nat) (a : Int32) (b : Int32) (L : List Value) (M : Mem) (Q : Option Value → Mem → Prop), Wp d 15 2 L [.int a, .int b] M Q ↔ Wp d 15 3 L [.int (b <<< (a &&& 31))] M Q) ∧
    (∀ (d : Nat) (a : Int32) (v0 : Value) (v1 : Value) (v2 : Value) (x : Value) (L : List Value) (M : Mem) (Q : Option Value → Mem → Prop), Wp d 15 3 (v0 :: v1 :: v2 :: x :: L) [.int a] M Q ↔ Wp d 15 4 (v0 :: v1 :: clr v2 :: .int a :: L) [] M Q) ∧
    (∀ (d : Nat) (v0 : Value) (x : Int32) (L : List Value) (M : Mem) (Q : Option Value → Mem → Prop), Wp d 15 4 (v0 :: .int x :: L) [] M Q ↔ Wp d 15 5 (v0 :: .int x :: L) [.int x] M Q) ∧
    (∀ (d : Nat) (a : Int32) (v0 : Value) (v1 : Value) (v2 : Value) (v3 : Value) (x : Value) (L : List Value) (M : Mem) (Q : Option Value → Mem → Prop), Wp d 15 5 (v0 :: v1 :: v2 :: v3 :: x :: L) [.int a] M Q ↔ Wp d 15 7 (v0 :: v1 :: v2 :: clr v3 :: .int a :: L) [] M Q) ∧
    (∀ (d : Nat) (x : Nat) (L : List Value) (M : Mem) (Q : Option Value → Mem → Prop), Wp d 15 7 (.ref x :: L) [] M Q ↔ Wp d 15 8 (.ref x :: L) [.ref x] M Q) ∧
    (∀ (d : Nat) (a : Nat) (v0 : Value) (x : Int32) (L : List Value) (M : Mem) (Q : Option Value → Mem → Prop), Wp d 15 8 (v0 :: .int x :: L) [.ref a] M Q ↔ Wp d 15 9 (v0 :: .int x :: L) [.int x, .ref a] M Q) ∧
    (∀ (d : Nat) (a : Int32) (b : Nat) (L : List Value) (M : Mem) (Q : Option Value → Mem → Prop), Wp (d + 1) 15 9 L [.int a, .ref b] M Q ↔ (isK b 2 = true ∧ Wp d 16 0 [.ref b, .int a, .null, .null, .null] [] M (fun r M2 => Wp (d + 1) 15 12 L (r.toList ++ []) M2 Q))) ∧
    (∀ (d : Nat) (a : Int32) (v0 : Value) (v1 : Value) (v2 : Value) (v3 : Value) (v4 : Value) (x : Value) (L : List Value) (M : Mem) (Q : Option Value → Mem → Prop), Wp d 15 12 (v0 :: v1 :: v2 :: v3 :: v4 :: x :: L) [.int a] M Q ↔ Wp d 15 14 (v0 :: v1 :: v2 :: v3 :: clr v4 :: .int a :: L) [] M Q) ∧
    (∀ (d : Nat) (L : List Value) (M : Mem) (Q : Option Value → Mem → Prop), Wp d 15 14 L [] M Q ↔ Wp d 15 15 L [.int 0] M Q) ∧
    (∀ (d : Nat) (a : Int32) (v0 : Value) (v1 : Value) (v2 : Value) (v3 : Value) (v4 : Value) (v5 : Value) (x : Value) (L : List Value) (M : Mem) (Q : Option Value → Mem → Prop), Wp d 15 15 (v0 :: v1 :: v2 :: v3 :: v4 :: v5 :: x :: L) [.int a] M Q ↔ Wp d 15 17 (v0 :: v1 :: v2 :: v3 :: v4 :: clr v5 :: .int a :: L) [] M Q) ∧
    (∀ (d : Nat) (a : Int32) (L : List Value) (M : Mem) (Q : Option Value → Mem → Prop), Wp d 15 19 L [.int a] M Q ↔ Wp d 15 21 L [.int 6, .int a] M Q) ∧
    (∀ (d : Nat) (a : Int32) (b : Int32) (L : List Value) (M : Mem) (Q : Option Value → Mem → Prop), Wp d 15 21 L [.int a, .int b] M Q ↔ (if b < a then Wp d 15 24 L [] M Q else Wp d 15 64 L [] M Q)) ∧
    (∀ (d : Nat) (v0 : Value) (v1 : Value) (v2 : Value) (v3 : Value) (v4 : Value) (x : Int32) (L : List Value) (M : Mem) (Q : Option Value → Mem → Prop), Wp d 15 24 (v0 :: v1 :: v2 :: v3 :: v4 :: .int x :: L) [] M Q ↔ Wp d 15 26 (v0 :: v1 :: v2 :: v3 :: v4 :: .int x :: L) [.int x] M Q) ∧
    (∀ (d : Nat) (a : Int32) (L : List Value) (M : Mem) (Q : Option Value → Mem → Prop), Wp d 15 26 L [.int a] M Q ↔ Wp d 15 27 L [.int (-1), .int a] M Q) ∧
    (∀ (d : Nat) (a : Int32) (b : Int32) (L : List Value) (M : Mem) (Q : Option Value → Mem → Prop), Wp d 15 27 L [.int a, .int b] M Q ↔ (if b = a then Wp d 15 64 L [] M Q else Wp d 15 30 L [] M Q)) ∧
    (∀ (d : Nat) (v0 : Value) (v1 : Value) (v2 : Value) (x : Int32) (L : List Value) (M : Mem) (Q : Option Value → Mem → Prop), Wp d 15 30 (v0 :: v1 :: v2 :: .int x :: L) [] M Q ↔ Wp d 15 31 (v0 :: v1 :: v2 :: .int x :: L) [.int x] M Q) ∧
    (∀ (d : Nat) (a : Int32) (v0 : Value) (v1 : Value) (v2 : Value) (v3 : Value) (v4 : Value) (x : Int32) (L : List Value) (M : Mem) (Q : Option Value → Mem → Prop), Wp d 15 31 (v0 :: v1 :: v2 :: v3 :: v4 :: .int x :: L) [.int a] M Q ↔ Wp d 15 33 (v0 :: v1 :: v2 :: v3 :: v4 :: .int x :: L) [.int x, .int a] M Q) ∧
    (∀ (d : Nat) (a : Int32) (b : Int32) (L : List Value) (M : Mem) (Q : Option Value → Mem → Prop), Wp d 15 33 L [.int a, .int b] M Q ↔ Wp d 15 34 L [.int (b >>> (a &&& 31))] M Q) ∧
    (∀ (d : Nat) (a : Int32) (L : List Value) (M : Mem) (Q : Option Value → Mem → Prop), Wp d 15 34 L [.int a] M Q ↔ Wp d 15 35 L [.int 1, .int a] M Q) ∧
    (∀ (d : Nat) (a : Int32) (b : Int32) (L : List Value) (M : Mem) (Q : Option Value → Mem → Prop), Wp d 15 35 L [.int a, .int b] M Q ↔ Wp d 15 36 L [.int (b &&& a)] M Q) ∧
    (∀ (d : Nat) (a : Int32) (L : List Value) (M : Mem) (Q : Option Value → Mem → Prop), Wp d 15 36 L [.int a] M Q ↔ (if a = 0 then Wp d 15 39 L [] M Q else Wp d 15 64 L [] M Q)) ∧
    (∀ (d : Nat) (v0 : Value) (v1 : Value) (v2 : Value) (x : Int32) (L : List Value) (M : Mem) (Q : Option Value → Mem → Prop), Wp d 15 39 (v0 :: v1 :: v2 :: .int x :: L) [] M Q ↔ Wp d 15 40 (v0 :: v1 :: v2 :: .int x :: L) [.int x] M Q) ∧
    (∀ (d : Nat) (a : Int32) (L : List Value) (M : Mem) (Q : Option Value → Mem → Prop), Wp d 15 40 L [.int a] M Q ↔ Wp d 15 41 L [.int 1, .int a] M Q) ∧
    (∀ (d : Nat) (a : Int32) (b : Int32) (v0 : Value) (v1 : Value) (v2 : Value) (v3 : Value) (v4 : Value) (x : Int32) (L : List Value) (M : Mem) (Q : Option Value → Mem → Prop), Wp d 15 41 (v0 :: v1 :: v2 :: v3 :: v4 :: .int x :: L) [.int a, .int b] M Q ↔ Wp d 15 43 (v0 :: v1 :: v2 :: v3 :: v4 :: .int x :: L) [.int x, .int a, .int b] M Q) ∧
    (∀ (d : Nat) (a : Int32) (b : Int32) (c : Int32) (L : List Value) (M : Mem) (Q : Option Value → Mem → Prop), Wp d 15 43 L [.int a, .int b, .int c] M Q ↔ Wp d 15 44 L [.int (b <<< (a &&& 31)), .int c] M Q) ∧
    (∀ (d : Nat) (a : Int32) (b : Int32) (L : List Value) (M : Mem) (Q : Option Value → Mem → Prop), Wp d 15 44 L [.int a, .int b] M Q ↔ Wp d 15 45 L [.int (b ||| a)] M Q) ∧
    (∀ (d : Nat) (a : Int32) (v0 : Value) (v1 : Value) (v2 : Value) (x : Value) (L : List Value) (M : Mem) (Q : Option Value → Mem → Prop), Wp d 15 45 (v0 :: v1 :: v2 :: x :: L) [.int a] M Q ↔ Wp d 15 46 (v0 :: v1 :: clr v2 :: .int a :: L) [] M Q) ∧
    (∀ (d : Nat) (v0 : Value) (v1 : Value) (v2 : Value) (v3 : Value) (v4 : Value) (x : Int32) (L : List Value) (M : Mem) (Q : Option Value → Mem → Prop), Wp d 15 46 (v0 :: v1 :: v2 :: v3 :: v4 :: .int x :: L) [] M Q ↔ Wp d 15 48 (v0 :: v1 :: v2 :: v3 :: v4 :: .int x :: L) [.int x] M Q) ∧
    (∀ (d : Nat) (a : Int32) (v0 : Value) (v1 : Value) (v2 : Value) (v3 : Value) (x : Value) (L : List Value) (M : Mem) (Q : Option Value → Mem → Prop), Wp d 15 48 (v0 :: v1 :: v2 :: v3 :: x :: L) [.int a] M Q ↔ Wp d 15 50 (v0 :: v1 :: v2 :: clr v3 :: .int a :: L) [] M Q) ∧
    (∀ (d : Nat) (x : Nat) (L : List Value) (M : Mem) (Q : Option Value → Mem → Prop), Wp d 15 50 (.ref x :: L) [] M Q ↔ Wp d 15 51 (.ref x :: L) [.ref x] M Q) ∧
    (∀ (d : Nat) (a : Nat) (v0 : Value) (v1 : Value) (v2 : Value) (v3 : Value) (x : Int32) (L : List Value) (M : Mem) (Q : Option Value → Mem → Prop), Wp d 15 51 (v0 :: v1 :: v2 :: v3 :: .int x :: L) [.ref a] M Q ↔ Wp d 15 53 (v0 :: v1 :: v2 :: v3 :: .int x :: L) [.int x, .ref a] M Q) ∧
    (∀ (d : Nat) (a : Int32) (b : Nat) (L : List Value) (M : Mem) (Q : Option Value → Mem → Prop), Wp (d + 1) 15 53 L [.int a, .ref b] M Q ↔ (isK b 2 = true ∧ Wp d 16 0 [.ref b, .int a, .null, .null, .null] [] M (fun r M2 => Wp (d + 1) 15 56 L (r.toList ++ []) M2 Q))) ∧
    (∀ (d : Nat) (a : Int32) (v0 : Value) (v1 : Value) (v2 : Value) (v3 : Value) (v4 : Value) (x : Value) (L : List Value) (M : Mem) (Q : Option Value → Mem → Prop), Wp d 15 56 (v0 :: v1 :: v2 :: v3 :: v4 :: x :: L) [.int a] M Q ↔ Wp d 15 58 (v0 :: v1 :: v2 :: v3 :: clr v4 :: .int a :: L) [] M Q) ∧
    (∀ (d : Nat) (v0 : Value) (v1 : Value) (v2 : Value) (v3 : Value) (v4 : Value) (v5 : Value) (x : Int32) (L : List Value) (M : Mem) (Q : Option Value → Mem → Prop), Wp d 15 58 (v0 :: v1 :: v2 :: v3 :: v4 :: v5 :: .int x :: L) [] M Q ↔ Wp d 15 61 (v0 :: v1 :: v2 :: v3 :: v4 :: clr v5 :: .int (x + 1) :: L) [] M Q) ∧
    (∀ (d : Nat) (L : List Value) (M : Mem) (Q : Option Value → Mem → Prop), Wp d 15 61 L [] M Q ↔ Wp d 15 17 L [] M Q) ∧
    (∀ (d : Nat) (v0 : Value) (v1 : Value) (x : Int32) (L : List Value) (M : Mem) (Q : Option Value → Mem → Prop), Wp d 15 64 (v0 :: v1 :: .int x :: L) [] M Q ↔ Wp d 15 65 (v0 :: v1 :: .int x :: L) [.int x] M Q) ∧
    (∀ (d : Nat) (a : Int32) (L : List Value) (M : Mem) (Q : Option Value → Mem → Prop), Wp d 15 65 L [.int a] M Q ↔ (if a = 0 then Wp d 15 73 L [] M Q else Wp d 15 68 L [] M Q)) ∧
    (∀ (d : Nat) (v0 : Value) (v1 : Value) (v2 : Value) (v3 : Value) (x : Int32) (L : List Value) (M : Mem) (Q : Option Value → Mem → Prop), Wp d 15 68 (v0 :: v1 :: v2 :: v3 :: .int x :: L) [] M Q ↔ Wp d 15 70 (v0 :: v1 :: v2 :: v3 :: .int x :: L) [.int x] M Q) ∧
    (∀ (d : Nat) (a : Int32) (L : List Value) (M : Mem) (Q : Option Value → Mem → Prop), Wp d 15 70 L [.int a] M Q ↔ Wp d 15 77 L [.int a] M Q) ∧
    (∀ (d : Nat) (v0 : Value) (v1 : Value) (v2 : Value) (x : Int32) (L : List Value) (M : Mem) (Q : Option Value → Mem → Prop), Wp d 15 73 (v0 :: v1 :: v2 :: .int x :: L) [] M Q ↔ Wp d 15 74 (v0 :: v1 :: v2 :: .int x :: L) [.int x] M Q) ∧
    (∀ (d : Nat) (a : Int32) (L : List Value) (M : Mem) (Q : Option Value → Mem → Prop), Wp (d + 1) 15 74 L [.int a] M Q ↔ Wp d 195 0 [.int a] [] M (fun r M2 => Wp (d + 1) 15 77 L (r.toList ++ []) M2 Q)) ∧
    (∀ (d : Nat) (a : Int32) (L : List Value) (M : Mem) (Q : Option Value → Mem → Prop), Wp d 15 77 L [.int a] M Q ↔ Q (some (.int a)) M) := by
  refine ⟨?_, ?_, ?_, ?_, ?_, ?_, ?_, ?_, ?_, ?_, ?_, ?_, ?_, ?_, ?_, ?_, ?_, ?_, ?_, ?_, ?_, ?_, ?_, ?_, ?_, ?_, ?_, ?_, ?_, ?_, ?_, ?_, ?_, ?_, ?_, ?_, ?_, ?_, ?_, ?_, ?_, ?_, ?_, ?_⟩
  · intro d L M Q; exact Wp_sim (by decide +kernel : decode (cd 15) 0 = .ok (.iconst 1, 1)) rfl rfl
  · intro d a v0 x L M Q; exact Wp_sim (by decide +kernel : decode (cd 15) 1 = .ok (.iload_n 1, 1)) rfl rfl
  · intro d a b L M Q; exact Wp_sim (by decide +kernel : decode (cd 15) 2 = .ok (.ishl , 1)) rfl rfl
  · intro d a v0 v1 v2 x L M Q; exact Wp_sim (by decide +kernel : decode (cd 15) 3 = .ok (.istore_n 3, 1)) rfl rfl
  · intro d v0 x L M Q; exact Wp_sim (by decide +kernel : decode (cd 15) 4 = .ok (.iload_n 1, 1)) rfl rfl
  · intro d a v0 v1 v2 v3 x L M Q; exact Wp_sim (by decide +kernel : decode (cd 15) 5 = .ok (.istore 4, 2)) rfl rfl
  · intro d x L M Q; exact Wp_sim (by decide +kernel : decode (cd 15) 7 = .ok (.aload_n 0, 1)) rfl rfl
  · intro d a v0 x L M Q; exact Wp_sim (by decide +kernel : decode (cd 15) 8 = .ok (.iload_n 1, 1)) rfl rfl
  · intro d a b L M Q; exact q_invV (pz := 753) (n := 1) (c := 2) (m := 5) (k := b) (As := [.int a]) (rest := []) (by decide +kernel : decode (cd 15) 9 = .ok (.invokevirtual 35, 3)) (by decide +kernel) (by decide +kernel) rfl rfl (Nat.le_of_ble_eq_true rfl) (Nat.le_of_ble_eq_true rfl) rfl
  · intro d a v0 v1 v2 v3 v4 x L M Q; exact Wp_sim (by decide +kernel : decode (cd 15) 12 = .ok (.istore 5, 2)) rfl rfl
  · intro d L M Q; exact Wp_sim (by decide +kernel : decode (cd 15) 14 = .ok (.iconst 0, 1)) rfl rfl
  · intro d a v0 v1 v2 v3 v4 v5 x L M Q; exact Wp_sim (by decide +kernel : decode (cd 15) 15 = .ok (.istore 6, 2)) rfl rfl
  · intro d a L M Q; exact Wp_sim (by decide +kernel : decode (cd 15) 19 = .ok (.bipush 6, 2)) rfl rfl
  · intro d a b L M Q; exact q_ige (by decide +kernel : decode (cd 15) 21 = .ok (.if_icmp .ge 43, 3)) (by decide)
  · intro d v0 v1 v2 v3 v4 x L M Q; exact Wp_sim (by decide +kernel : decode (cd 15) 24 = .ok (.iload 5, 2)) rfl rfl
  · intro d a L M Q; exact Wp_sim (by decide +kernel : decode (cd 15) 26 = .ok (.iconst (-1), 1)) rfl rfl
  · intro d a b L M Q; exact q_ieq (by decide +kernel : decode (cd 15) 27 = .ok (.if_icmp .eq 37, 3)) (by decide)
  · intro d v0 v1 v2 x L M Q; exact Wp_sim (by decide +kernel : decode (cd 15) 30 = .ok (.iload_n 3, 1)) rfl rfl
  · intro d a v0 v1 v2 v3 v4 x L M Q; exact Wp_sim (by decide +kernel : decode (cd 15) 31 = .ok (.iload 5, 2)) rfl rfl
  · intro d a b L M Q; exact Wp_sim (by decide +kernel : decode (cd 15) 33 = .ok (.ishr , 1)) rfl rfl
  · intro d a L M Q; exact Wp_sim (by decide +kernel : decode (cd 15) 34 = .ok (.iconst 1, 1)) rfl rfl
  · intro d a b L M Q; exact Wp_sim (by decide +kernel : decode (cd 15) 35 = .ok (.iand , 1)) rfl rfl
  · intro d a L M Q; exact q_zne (by decide +kernel : decode (cd 15) 36 = .ok (.ifCond .ne 28, 3)) (by decide)
  · intro d v0 v1 v2 x L M Q; exact Wp_sim (by decide +kernel : decode (cd 15) 39 = .ok (.iload_n 3, 1)) rfl rfl
  · intro d a L M Q; exact Wp_sim (by decide +kernel : decode (cd 15) 40 = .ok (.iconst 1, 1)) rfl rfl
  · intro d a b v0 v1 v2 v3 v4 x L M Q; exact Wp_sim (by decide +kernel : decode (cd 15) 41 = .ok (.iload 5, 2)) rfl rfl
  · intro d a b c L M Q; exact Wp_sim (by decide +kernel : decode (cd 15) 43 = .ok (.ishl , 1)) rfl rfl
  · intro d a b L M Q; exact Wp_sim (by decide +kernel : decode (cd 15) 44 = .ok (.ior , 1)) rfl rfl
  · intro d a v0 v1 v2 x L M Q; exact Wp_sim (by decide +kernel : decode (cd 15) 45 = .ok (.istore_n 3, 1)) rfl rfl
  · intro d v0 v1 v2 v3 v4 x L M Q; exact Wp_sim (by decide +kernel : decode (cd 15) 46 = .ok (.iload 5, 2)) rfl rfl
  · intro d a v0 v1 v2 v3 x L M Q; exact Wp_sim (by decide +kernel : decode (cd 15) 48 = .ok (.istore 4, 2)) rfl rfl
  · intro d x L M Q; exact Wp_sim (by decide +kernel : decode (cd 15) 50 = .ok (.aload_n 0, 1)) rfl rfl
  · intro d a v0 v1 v2 v3 x L M Q; exact Wp_sim (by decide +kernel : decode (cd 15) 51 = .ok (.iload 4, 2)) rfl rfl
  · intro d a b L M Q; exact q_invV (pz := 753) (n := 1) (c := 2) (m := 5) (k := b) (As := [.int a]) (rest := []) (by decide +kernel : decode (cd 15) 53 = .ok (.invokevirtual 35, 3)) (by decide +kernel) (by decide +kernel) rfl rfl (Nat.le_of_ble_eq_true rfl) (Nat.le_of_ble_eq_true rfl) rfl
  · intro d a v0 v1 v2 v3 v4 x L M Q; exact Wp_sim (by decide +kernel : decode (cd 15) 56 = .ok (.istore 5, 2)) rfl rfl
  · intro d v0 v1 v2 v3 v4 v5 x L M Q; exact Wp_sim (by decide +kernel : decode (cd 15) 58 = .ok (.iinc 6 1, 3)) rfl rfl
  · intro d L M Q; exact q_goto (by decide +kernel : decode (cd 15) 61 = .ok (.goto (-44), 3)) (by decide)
  · intro d v0 v1 x L M Q; exact Wp_sim (by decide +kernel : decode (cd 15) 64 = .ok (.iload_n 2, 1)) rfl rfl
  · intro d a L M Q; exact q_zeq (by decide +kernel : decode (cd 15) 65 = .ok (.ifCond .eq 8, 3)) (by decide)
  · intro d v0 v1 v2 v3 x L M Q; exact Wp_sim (by decide +kernel : decode (cd 15) 68 = .ok (.iload 4, 2)) rfl rfl
  · intro d a L M Q; exact q_goto (by decide +kernel : decode (cd 15) 70 = .ok (.goto 7, 3)) (by decide)
  · intro d v0 v1 v2 x L M Q; exact Wp_sim (by decide +kernel : decode (cd 15) 73 = .ok (.iload_n 3, 1)) rfl rfl
  · intro d a L M Q; exact q_invS (pz := 757) (n := 1) (m := 1) (As := [.int a]) (rest := []) (by decide +kernel : decode (cd 15) 74 = .ok (.invokestatic 38, 3)) (by decide +kernel) (by decide +kernel) (by decide +kernel) rfl rfl (Nat.le_of_ble_eq_true rfl) (Nat.le_of_ble_eq_true rfl) rfl
  · intro d a L M Q; exact q_iret (by decide +kernel : decode (cd 15) 77 = .ok (.ireturn , 1)) (by decide +kernel)
theorem h15_17 : (∀ (d : Nat) (v0 : Value) (v1 : Value) (v2 : Value) (v3 : Value) (v4 : Value) (v5 : Value) (x : Int32) (L : List Value) (M : Mem) (Q : Option Value → Mem → Prop), Wp d 15 17 (v0 :: v1 :: v2 :: v3 :: v4 :: v5 :: .int x :: L) [] M Q ↔ Wp d 15 19 (v0 :: v1 :: v2 :: v3 :: v4 :: v5 :: .int x :: L) [.int x] M Q) := by
  intro d v0 v1 v2 v3 v4 v5 x L M Q; exact Wp_sim (by decide +kernel : decode (cd 15) 17 = .ok (.iload 6, 2)) rfl rfl

/- 16: Debts.mostOwedBy -/
set_option maxRecDepth 10000 in
theorem e16 : (∀ (d : Nat) (L : List Value) (M : Mem) (Q : Option Value → Mem → Prop), Wp d 16 0 L [] M Q ↔ Wp d 16 1 L [.int (-1)] M Q) ∧
    (∀ (d : Nat) (a : Int32) (v0 : Value) (v1 : Value) (x : Value) (L : List Value) (M : Mem) (Q : Option Value → Mem → Prop), Wp d 16 1 (v0 :: v1 :: x :: L) [.int a] M Q ↔ Wp d 16 2 (v0 :: clr v1 :: .int a :: L) [] M Q) ∧
    (∀ (d : Nat) (L : List Value) (M : Mem) (Q : Option Value → Mem → Prop), Wp d 16 2 L [] M Q ↔ Wp d 16 3 L [.int 0] M Q) ∧
    (∀ (d : Nat) (a : Int32) (v0 : Value) (v1 : Value) (v2 : Value) (x : Value) (L : List Value) (M : Mem) (Q : Option Value → Mem → Prop), Wp d 16 3 (v0 :: v1 :: v2 :: x :: L) [.int a] M Q ↔ Wp d 16 4 (v0 :: v1 :: clr v2 :: .int a :: L) [] M Q) ∧
    (∀ (d : Nat) (L : List Value) (M : Mem) (Q : Option Value → Mem → Prop), Wp d 16 4 L [] M Q ↔ Wp d 16 5 L [.int 0] M Q) ∧
    (∀ (d : Nat) (a : Int32) (v0 : Value) (v1 : Value) (v2 : Value) (v3 : Value) (x : Value) (L : List Value) (M : Mem) (Q : Option Value → Mem → Prop), Wp d 16 5 (v0 :: v1 :: v2 :: v3 :: x :: L) [.int a] M Q ↔ Wp d 16 7 (v0 :: v1 :: v2 :: clr v3 :: .int a :: L) [] M Q) ∧
    (∀ (d : Nat) (a : Int32) (L : List Value) (M : Mem) (Q : Option Value → Mem → Prop), Wp d 16 9 L [.int a] M Q ↔ Wp d 16 11 L [.int 6, .int a] M Q) ∧
    (∀ (d : Nat) (a : Int32) (b : Int32) (L : List Value) (M : Mem) (Q : Option Value → Mem → Prop), Wp d 16 11 L [.int a, .int b] M Q ↔ (if b < a then Wp d 16 14 L [] M Q else Wp d 16 42 L [] M Q)) ∧
    (∀ (d : Nat) (x : Nat) (L : List Value) (M : Mem) (Q : Option Value → Mem → Prop), Wp d 16 14 (.ref x :: L) [] M Q ↔ Wp d 16 15 (.ref x :: L) [.ref x] M Q) ∧
    (∀ (d : Nat) (a : Nat) (v0 : Value) (x : Int32) (L : List Value) (M : Mem) (Q : Option Value → Mem → Prop), Wp d 16 15 (v0 :: .int x :: L) [.ref a] M Q ↔ Wp d 16 16 (v0 :: .int x :: L) [.int x, .ref a] M Q) ∧
    (∀ (d : Nat) (a : Int32) (b : Nat) (v0 : Value) (v1 : Value) (v2 : Value) (v3 : Value) (x : Int32) (L : List Value) (M : Mem) (Q : Option Value → Mem → Prop), Wp d 16 16 (v0 :: v1 :: v2 :: v3 :: .int x :: L) [.int a, .ref b] M Q ↔ Wp d 16 18 (v0 :: v1 :: v2 :: v3 :: .int x :: L) [.int x, .int a, .ref b] M Q) ∧
    (∀ (d : Nat) (a : Int32) (b : Int32) (c : Nat) (L : List Value) (M : Mem) (Q : Option Value → Mem → Prop), Wp (d + 1) 16 18 L [.int a, .int b, .ref c] M Q ↔ (isK c 2 = true ∧ Wp d 12 0 [.ref c, .int b, .int a] [] M (fun r M2 => Wp (d + 1) 16 21 L (r.toList ++ []) M2 Q))) ∧
    (∀ (d : Nat) (a : Int32) (v0 : Value) (v1 : Value) (v2 : Value) (x : Int32) (L : List Value) (M : Mem) (Q : Option Value → Mem → Prop), Wp d 16 21 (v0 :: v1 :: v2 :: .int x :: L) [.int a] M Q ↔ Wp d 16 22 (v0 :: v1 :: v2 :: .int x :: L) [.int x, .int a] M Q) ∧
    (∀ (d : Nat) (a : Int32) (b : Int32) (L : List Value) (M : Mem) (Q : Option Value → Mem → Prop), Wp d 16 22 L [.int a, .int b] M Q ↔ (if a < b then Wp d 16 25 L [] M Q else Wp d 16 36 L [] M Q)) ∧
    (∀ (d : Nat) (x : Nat) (L : List Value) (M : Mem) (Q : Option Value → Mem → Prop), Wp d 16 25 (.ref x :: L) [] M Q ↔ Wp d 16 26 (.ref x :: L) [.ref x] M Q) ∧
    (∀ (d : Nat) (a : Nat) (v0 : Value) (x : Int32) (L : List Value) (M : Mem) (Q : Option Value → Mem → Prop), Wp d 16 26 (v0 :: .int x :: L) [.ref a] M Q ↔ Wp d 16 27 (v0 :: .int x :: L) [.int x, .ref a] M Q) ∧
    (∀ (d : Nat) (a : Int32) (b : Nat) (v0 : Value) (v1 : Value) (v2 : Value) (v3 : Value) (x : Int32) (L : List Value) (M : Mem) (Q : Option Value → Mem → Prop), Wp d 16 27 (v0 :: v1 :: v2 :: v3 :: .int x :: L) [.int a, .ref b] M Q ↔ Wp d 16 29 (v0 :: v1 :: v2 :: v3 :: .int x :: L) [.int x, .int a, .ref b] M Q) ∧
    (∀ (d : Nat) (a : Int32) (b : Int32) (c : Nat) (L : List Value) (M : Mem) (Q : Option Value → Mem → Prop), Wp (d + 1) 16 29 L [.int a, .int b, .ref c] M Q ↔ (isK c 2 = true ∧ Wp d 12 0 [.ref c, .int b, .int a] [] M (fun r M2 => Wp (d + 1) 16 32 L (r.toList ++ []) M2 Q))) ∧
    (∀ (d : Nat) (a : Int32) (v0 : Value) (v1 : Value) (v2 : Value) (x : Value) (L : List Value) (M : Mem) (Q : Option Value → Mem → Prop), Wp d 16 32 (v0 :: v1 :: v2 :: x :: L) [.int a] M Q ↔ Wp d 16 33 (v0 :: v1 :: clr v2 :: .int a :: L) [] M Q) ∧
    (∀ (d : Nat) (v0 : Value) (v1 : Value) (v2 : Value) (v3 : Value) (x : Int32) (L : List Value) (M : Mem) (Q : Option Value → Mem → Prop), Wp d 16 33 (v0 :: v1 :: v2 :: v3 :: .int x :: L) [] M Q ↔ Wp d 16 35 (v0 :: v1 :: v2 :: v3 :: .int x :: L) [.int x] M Q) ∧
    (∀ (d : Nat) (a : Int32) (v0 : Value) (v1 : Value) (x : Value) (L : List Value) (M : Mem) (Q : Option Value → Mem → Prop), Wp d 16 35 (v0 :: v1 :: x :: L) [.int a] M Q ↔ Wp d 16 36 (v0 :: clr v1 :: .int a :: L) [] M Q) ∧
    (∀ (d : Nat) (v0 : Value) (v1 : Value) (v2 : Value) (v3 : Value) (x : Int32) (L : List Value) (M : Mem) (Q : Option Value → Mem → Prop), Wp d 16 36 (v0 :: v1 :: v2 :: v3 :: .int x :: L) [] M Q ↔ Wp d 16 39 (v0 :: v1 :: v2 :: clr v3 :: .int (x + 1) :: L) [] M Q) ∧
    (∀ (d : Nat) (L : List Value) (M : Mem) (Q : Option Value → Mem → Prop), Wp d 16 39 L [] M Q ↔ Wp d 16 7 L [] M Q) ∧
    (∀ (d : Nat) (v0 : Value) (v1 : Value) (x : Int32) (L : List Value) (M : Mem) (Q : Option Value → Mem → Prop), Wp d 16 42 (v0 :: v1 :: .int x :: L) [] M Q ↔ Wp d 16 43 (v0 :: v1 :: .int x :: L) [.int x] M Q) ∧
    (∀ (d : Nat) (a : Int32) (L : List Value) (M : Mem) (Q : Option Value → Mem → Prop), Wp d 16 43 L [.int a] M Q ↔ Q (some (.int a)) M) := by
  refine ⟨?_, ?_, ?_, ?_, ?_, ?_, ?_, ?_, ?_, ?_, ?_, ?_, ?_, ?_, ?_, ?_, ?_, ?_, ?_, ?_, ?_, ?_, ?_, ?_, ?_⟩
  · intro d L M Q; exact Wp_sim (by decide +kernel : decode (cd 16) 0 = .ok (.iconst (-1), 1)) rfl rfl
  · intro d a v0 v1 x L M Q; exact Wp_sim (by decide +kernel : decode (cd 16) 1 = .ok (.istore_n 2, 1)) rfl rfl
  · intro d L M Q; exact Wp_sim (by decide +kernel : decode (cd 16) 2 = .ok (.iconst 0, 1)) rfl rfl
  · intro d a v0 v1 v2 x L M Q; exact Wp_sim (by decide +kernel : decode (cd 16) 3 = .ok (.istore_n 3, 1)) rfl rfl
  · intro d L M Q; exact Wp_sim (by decide +kernel : decode (cd 16) 4 = .ok (.iconst 0, 1)) rfl rfl
  · intro d a v0 v1 v2 v3 x L M Q; exact Wp_sim (by decide +kernel : decode (cd 16) 5 = .ok (.istore 4, 2)) rfl rfl
  · intro d a L M Q; exact Wp_sim (by decide +kernel : decode (cd 16) 9 = .ok (.bipush 6, 2)) rfl rfl
  · intro d a b L M Q; exact q_ige (by decide +kernel : decode (cd 16) 11 = .ok (.if_icmp .ge 31, 3)) (by decide)
  · intro d x L M Q; exact Wp_sim (by decide +kernel : decode (cd 16) 14 = .ok (.aload_n 0, 1)) rfl rfl
  · intro d a v0 x L M Q; exact Wp_sim (by decide +kernel : decode (cd 16) 15 = .ok (.iload_n 1, 1)) rfl rfl
  · intro d a b v0 v1 v2 v3 x L M Q; exact Wp_sim (by decide +kernel : decode (cd 16) 16 = .ok (.iload 4, 2)) rfl rfl
  · intro d a b c L M Q; exact q_invV (pz := 497) (n := 2) (c := 2) (m := 3) (k := c) (As := [.int b, .int a]) (rest := []) (by decide +kernel : decode (cd 16) 18 = .ok (.invokevirtual 32, 3)) (by decide +kernel) (by decide +kernel) rfl rfl (Nat.le_of_ble_eq_true rfl) (Nat.le_of_ble_eq_true rfl) rfl
  · intro d a v0 v1 v2 x L M Q; exact Wp_sim (by decide +kernel : decode (cd 16) 21 = .ok (.iload_n 3, 1)) rfl rfl
  · intro d a b L M Q; exact q_ile (by decide +kernel : decode (cd 16) 22 = .ok (.if_icmp .le 14, 3)) (by decide)
  · intro d x L M Q; exact Wp_sim (by decide +kernel : decode (cd 16) 25 = .ok (.aload_n 0, 1)) rfl rfl
  · intro d a v0 x L M Q; exact Wp_sim (by decide +kernel : decode (cd 16) 26 = .ok (.iload_n 1, 1)) rfl rfl
  · intro d a b v0 v1 v2 v3 x L M Q; exact Wp_sim (by decide +kernel : decode (cd 16) 27 = .ok (.iload 4, 2)) rfl rfl
  · intro d a b c L M Q; exact q_invV (pz := 497) (n := 2) (c := 2) (m := 3) (k := c) (As := [.int b, .int a]) (rest := []) (by decide +kernel : decode (cd 16) 29 = .ok (.invokevirtual 32, 3)) (by decide +kernel) (by decide +kernel) rfl rfl (Nat.le_of_ble_eq_true rfl) (Nat.le_of_ble_eq_true rfl) rfl
  · intro d a v0 v1 v2 x L M Q; exact Wp_sim (by decide +kernel : decode (cd 16) 32 = .ok (.istore_n 3, 1)) rfl rfl
  · intro d v0 v1 v2 v3 x L M Q; exact Wp_sim (by decide +kernel : decode (cd 16) 33 = .ok (.iload 4, 2)) rfl rfl
  · intro d a v0 v1 x L M Q; exact Wp_sim (by decide +kernel : decode (cd 16) 35 = .ok (.istore_n 2, 1)) rfl rfl
  · intro d v0 v1 v2 v3 x L M Q; exact Wp_sim (by decide +kernel : decode (cd 16) 36 = .ok (.iinc 4 1, 3)) rfl rfl
  · intro d L M Q; exact q_goto (by decide +kernel : decode (cd 16) 39 = .ok (.goto (-32), 3)) (by decide)
  · intro d v0 v1 x L M Q; exact Wp_sim (by decide +kernel : decode (cd 16) 42 = .ok (.iload_n 2, 1)) rfl rfl
  · intro d a L M Q; exact q_iret (by decide +kernel : decode (cd 16) 43 = .ok (.ireturn , 1)) (by decide +kernel)
theorem h16_7 : (∀ (d : Nat) (v0 : Value) (v1 : Value) (v2 : Value) (v3 : Value) (x : Int32) (L : List Value) (M : Mem) (Q : Option Value → Mem → Prop), Wp d 16 7 (v0 :: v1 :: v2 :: v3 :: .int x :: L) [] M Q ↔ Wp d 16 9 (v0 :: v1 :: v2 :: v3 :: .int x :: L) [.int x] M Q) := by
  intro d v0 v1 v2 v3 x L M Q; exact Wp_sim (by decide +kernel : decode (cd 16) 7 = .ok (.iload 4, 2)) rfl rfl

/- 17: Hats.clear -/
set_option maxRecDepth 10000 in
theorem e17 : (∀ (d : Nat) (x : Nat) (L : List Value) (M : Mem) (Q : Option Value → Mem → Prop), Wp d 17 0 (.ref x :: L) [] M Q ↔ Wp d 17 1 (.ref x :: L) [.ref x] M Q) ∧
    (∀ (d : Nat) (a : Nat) (L : List Value) (M : Mem) (Q : Option Value → Mem → Prop), Wp d 17 1 L [.ref a] M Q ↔ Wp d 17 2 L [.int 0, .ref a] M Q) ∧
    (∀ (d : Nat) (a : Int32) (b : Nat) (L : List Value) (M : Mem) (Q : Option Value → Mem → Prop), Wp d 17 2 L [.int a, .ref b] M Q ↔ (isK b 3 = true ∧ Wp d 17 5 L [] (up2 M b 0 a) Q)) ∧
    (∀ (d : Nat) (x : Nat) (L : List Value) (M : Mem) (Q : Option Value → Mem → Prop), Wp d 17 5 (.ref x :: L) [] M Q ↔ Wp d 17 6 (.ref x :: L) [.ref x] M Q) ∧
    (∀ (d : Nat) (a : Nat) (L : List Value) (M : Mem) (Q : Option Value → Mem → Prop), Wp d 17 6 L [.ref a] M Q ↔ Wp d 17 7 L [.int 0, .ref a] M Q) ∧
    (∀ (d : Nat) (a : Int32) (b : Nat) (L : List Value) (M : Mem) (Q : Option Value → Mem → Prop), Wp d 17 7 L [.int a, .ref b] M Q ↔ (isK b 3 = true ∧ Wp d 17 10 L [] (up2 M b 1 a) Q)) ∧
    (∀ (d : Nat) (x : Nat) (L : List Value) (M : Mem) (Q : Option Value → Mem → Prop), Wp d 17 10 (.ref x :: L) [] M Q ↔ Wp d 17 11 (.ref x :: L) [.ref x] M Q) ∧
    (∀ (d : Nat) (a : Nat) (L : List Value) (M : Mem) (Q : Option Value → Mem → Prop), Wp d 17 11 L [.ref a] M Q ↔ Wp d 17 13 L [.int 60, .ref a] M Q) ∧
    (∀ (d : Nat) (a : Int32) (b : Nat) (L : List Value) (M : Mem) (Q : Option Value → Mem → Prop), Wp d 17 13 L [.int a, .ref b] M Q ↔ (isK b 3 = true ∧ Wp d 17 16 L [] (up2 M b 2 a) Q)) ∧
    (∀ (d : Nat) (L : List Value) (M : Mem) (Q : Option Value → Mem → Prop), Wp d 17 16 L [] M Q ↔ Q none M) := by
  refine ⟨?_, ?_, ?_, ?_, ?_, ?_, ?_, ?_, ?_, ?_⟩
  · intro d x L M Q; exact Wp_sim (by decide +kernel : decode (cd 17) 0 = .ok (.aload_n 0, 1)) rfl rfl
  · intro d a L M Q; exact Wp_sim (by decide +kernel : decode (cd 17) 1 = .ok (.iconst 0, 1)) rfl rfl
  · intro d a b L M Q; exact q_putI (p := 268) (by decide +kernel : decode (cd 17) 2 = .ok (.putfield 15, 3)) (by decide +kernel) (by decide +kernel)
  · intro d x L M Q; exact Wp_sim (by decide +kernel : decode (cd 17) 5 = .ok (.aload_n 0, 1)) rfl rfl
  · intro d a L M Q; exact Wp_sim (by decide +kernel : decode (cd 17) 6 = .ok (.iconst 0, 1)) rfl rfl
  · intro d a b L M Q; exact q_putI (p := 270) (by decide +kernel : decode (cd 17) 7 = .ok (.putfield 18, 3)) (by decide +kernel) (by decide +kernel)
  · intro d x L M Q; exact Wp_sim (by decide +kernel : decode (cd 17) 10 = .ok (.aload_n 0, 1)) rfl rfl
  · intro d a L M Q; exact Wp_sim (by decide +kernel : decode (cd 17) 11 = .ok (.bipush 60, 2)) rfl rfl
  · intro d a b L M Q; exact q_putI (p := 272) (by decide +kernel : decode (cd 17) 13 = .ok (.putfield 9, 3)) (by decide +kernel) (by decide +kernel)
  · intro d L M Q; exact q_vret (by decide +kernel : decode (cd 17) 16 = .ok (.return_ , 1)) (by decide +kernel)

/- 18: Hats.add -/
set_option maxRecDepth 10000 in
theorem e18 : (∀ (d : Nat) (v0 : Value) (v1 : Value) (x : Int32) (L : List Value) (M : Mem) (Q : Option Value → Mem → Prop), Wp d 18 0 (v0 :: v1 :: .int x :: L) [] M Q ↔ Wp d 18 1 (v0 :: v1 :: .int x :: L) [.int x] M Q) ∧
    (∀ (d : Nat) (a : Int32) (L : List Value) (M : Mem) (Q : Option Value → Mem → Prop), Wp d 18 1 L [.int a] M Q ↔ (if a = 0 then Wp d 18 21 L [] M Q else Wp d 18 4 L [] M Q)) ∧
    (∀ (d : Nat) (x : Nat) (L : List Value) (M : Mem) (Q : Option Value → Mem → Prop), Wp d 18 4 (.ref x :: L) [] M Q ↔ Wp d 18 5 (.ref x :: L) [.ref x] M Q) ∧
    (∀ (d : Nat) (a : Nat) (x : Nat) (L : List Value) (M : Mem) (Q : Option Value → Mem → Prop), Wp d 18 5 (.ref x :: L) [.ref a] M Q ↔ Wp d 18 6 (.ref x :: L) [.ref x, .ref a] M Q) ∧
    (∀ (d : Nat) (a : Nat) (b : Nat) (L : List Value) (M : Mem) (Q : Option Value → Mem → Prop), Wp d 18 6 L [.ref a, .ref b] M Q ↔ (isK a 3 = true ∧ Wp d 18 9 L [.int (M a 1), .ref b] M Q)) ∧
    (∀ (d : Nat) (a : Int32) (b : Nat) (v0 : Value) (x : Int32) (L : List Value) (M : Mem) (Q : Option Value → Mem → Prop), Wp d 18 9 (v0 :: .int x :: L) [.int a, .ref b] M Q ↔ Wp d 18 10 (v0 :: .int x :: L) [.int x, .int a, .ref b] M Q) ∧
    (∀ (d : Nat) (a : Int32) (b : Int32) (c : Nat) (L : List Value) (M : Mem) (Q : Option Value → Mem → Prop), Wp d 18 10 L [.int a, .int b, .ref c] M Q ↔ Wp d 18 11 L [.int 1, .int a, .int b, .ref c] M Q) ∧
    (∀ (d : Nat) (a : Int32) (b : Int32) (c : Int32) (d2 : Nat) (L : List Value) (M : Mem) (Q : Option Value → Mem → Prop), Wp d 18 11 L [.int a, .int b, .int c, .ref d2] M Q ↔ Wp d 18 12 L [.int (b + a), .int c, .ref d2] M Q) ∧
    (∀ (d : Nat) (a : Int32) (b : Int32) (c : Nat) (L : List Value) (M : Mem) (Q : Option Value → Mem → Prop), Wp (d + 1) 18 12 L [.int a, .int b, .ref c] M Q ↔ Wp (d + 1) 18 15 L [.int (mx b a), .ref c] M Q) ∧
    (∀ (d : Nat) (a : Int32) (b : Nat) (L : List Value) (M : Mem) (Q : Option Value → Mem → Prop), Wp d 18 15 L [.int a, .ref b] M Q ↔ (isK b 3 = true ∧ Wp d 18 18 L [] (up2 M b 1 a) Q)) ∧
    (∀ (d : Nat) (L : List Value) (M : Mem) (Q : Option Value → Mem → Prop), Wp d 18 18 L [] M Q ↔ Wp d 18 33 L [] M Q) ∧
    (∀ (d : Nat) (x : Nat) (L : List Value) (M : Mem) (Q : Option Value → Mem → Prop), Wp d 18 21 (.ref x :: L) [] M Q ↔ Wp d 18 22 (.ref x :: L) [.ref x] M Q) ∧
    (∀ (d : Nat) (a : Nat) (x : Nat) (L : List Value) (M : Mem) (Q : Option Value → Mem → Prop), Wp d 18 22 (.ref x :: L) [.ref a] M Q ↔ Wp d 18 23 (.ref x :: L) [.ref x, .ref a] M Q) ∧
    (∀ (d : Nat) (a : Nat) (b : Nat) (L : List Value) (M : Mem) (Q : Option Value → Mem → Prop), Wp d 18 23 L [.ref a, .ref b] M Q ↔ (isK a 3 = true ∧ Wp d 18 26 L [.int (M a 2), .ref b] M Q)) ∧
    (∀ (d : Nat) (a : Int32) (b : Nat) (v0 : Value) (x : Int32) (L : List Value) (M : Mem) (Q : Option Value → Mem → Prop), Wp d 18 26 (v0 :: .int x :: L) [.int a, .ref b] M Q ↔ Wp d 18 27 (v0 :: .int x :: L) [.int x, .int a, .ref b] M Q) ∧
    (∀ (d : Nat) (a : Int32) (b : Int32) (c : Nat) (L : List Value) (M : Mem) (Q : Option Value → Mem → Prop), Wp (d + 1) 18 27 L [.int a, .int b, .ref c] M Q ↔ Wp (d + 1) 18 30 L [.int (mn b a), .ref c] M Q) ∧
    (∀ (d : Nat) (a : Int32) (b : Nat) (L : List Value) (M : Mem) (Q : Option Value → Mem → Prop), Wp d 18 30 L [.int a, .ref b] M Q ↔ (isK b 3 = true ∧ Wp d 18 33 L [] (up2 M b 2 a) Q)) ∧
    (∀ (d : Nat) (x : Nat) (L : List Value) (M : Mem) (Q : Option Value → Mem → Prop), Wp d 18 33 (.ref x :: L) [] M Q ↔ Wp d 18 34 (.ref x :: L) [.ref x] M Q) ∧
    (∀ (d : Nat) (a : Nat) (L : List Value) (M : Mem) (Q : Option Value → Mem → Prop), Wp d 18 34 L [.ref a] M Q ↔ Wp d 18 35 L [.ref a, .ref a] M Q) ∧
    (∀ (d : Nat) (a : Nat) (b : Nat) (L : List Value) (M : Mem) (Q : Option Value → Mem → Prop), Wp d 18 35 L [.ref a, .ref b] M Q ↔ (isK a 3 = true ∧ Wp d 18 38 L [.int (M a 0), .ref b] M Q)) ∧
    (∀ (d : Nat) (a : Int32) (b : Nat) (L : List Value) (M : Mem) (Q : Option Value → Mem → Prop), Wp d 18 38 L [.int a, .ref b] M Q ↔ Wp d 18 39 L [.int 1, .int a, .ref b] M Q) ∧
    (∀ (d : Nat) (a : Int32) (b : Int32) (c : Nat) (L : List Value) (M : Mem) (Q : Option Value → Mem → Prop), Wp d 18 39 L [.int a, .int b, .ref c] M Q ↔ Wp d 18 40 L [.int (b + a), .ref c] M Q) ∧
    (∀ (d : Nat) (a : Int32) (b : Nat) (L : List Value) (M : Mem) (Q : Option Value → Mem → Prop), Wp d 18 40 L [.int a, .ref b] M Q ↔ (isK b 3 = true ∧ Wp d 18 43 L [] (up2 M b 0 a) Q)) ∧
    (∀ (d : Nat) (L : List Value) (M : Mem) (Q : Option Value → Mem → Prop), Wp d 18 43 L [] M Q ↔ Q none M) := by
  refine ⟨?_, ?_, ?_, ?_, ?_, ?_, ?_, ?_, ?_, ?_, ?_, ?_, ?_, ?_, ?_, ?_, ?_, ?_, ?_, ?_, ?_, ?_, ?_, ?_⟩
  · intro d v0 v1 x L M Q; exact Wp_sim (by decide +kernel : decode (cd 18) 0 = .ok (.iload_n 2, 1)) rfl rfl
  · intro d a L M Q; exact q_zeq (by decide +kernel : decode (cd 18) 1 = .ok (.ifCond .eq 20, 3)) (by decide)
  · intro d x L M Q; exact Wp_sim (by decide +kernel : decode (cd 18) 4 = .ok (.aload_n 0, 1)) rfl rfl
  · intro d a x L M Q; exact Wp_sim (by decide +kernel : decode (cd 18) 5 = .ok (.aload_n 0, 1)) rfl rfl
  · intro d a b L M Q; exact q_getI (p := 270) (by decide +kernel : decode (cd 18) 6 = .ok (.getfield 18, 3)) (by decide +kernel) (by decide +kernel)
  · intro d a b v0 x L M Q; exact Wp_sim (by decide +kernel : decode (cd 18) 9 = .ok (.iload_n 1, 1)) rfl rfl
  · intro d a b c L M Q; exact Wp_sim (by decide +kernel : decode (cd 18) 10 = .ok (.iconst 1, 1)) rfl rfl
  · intro d a b c d2 L M Q; exact Wp_sim (by decide +kernel : decode (cd 18) 11 = .ok (.iadd , 1)) rfl rfl
  · intro d a b c L M Q; exact q_max (p := 772) (by decide +kernel : decode (cd 18) 12 = .ok (.invokestatic 21, 3)) (by decide +kernel) (Nat.le_of_ble_eq_true rfl)
  · intro d a b L M Q; exact q_putI (p := 270) (by decide +kernel : decode (cd 18) 15 = .ok (.putfield 18, 3)) (by decide +kernel) (by decide +kernel)
  · intro d L M Q; exact q_goto (by decide +kernel : decode (cd 18) 18 = .ok (.goto 15, 3)) (by decide)
  · intro d x L M Q; exact Wp_sim (by decide +kernel : decode (cd 18) 21 = .ok (.aload_n 0, 1)) rfl rfl
  · intro d a x L M Q; exact Wp_sim (by decide +kernel : decode (cd 18) 22 = .ok (.aload_n 0, 1)) rfl rfl
  · intro d a b L M Q; exact q_getI (p := 272) (by decide +kernel : decode (cd 18) 23 = .ok (.getfield 9, 3)) (by decide +kernel) (by decide +kernel)
  · intro d a b v0 x L M Q; exact Wp_sim (by decide +kernel : decode (cd 18) 26 = .ok (.iload_n 1, 1)) rfl rfl
  · intro d a b c L M Q; exact q_min (p := 773) (by decide +kernel : decode (cd 18) 27 = .ok (.invokestatic 27, 3)) (by decide +kernel) (Nat.le_of_ble_eq_true rfl)
  · intro d a b L M Q; exact q_putI (p := 272) (by decide +kernel : decode (cd 18) 30 = .ok (.putfield 9, 3)) (by decide +kernel) (by decide +kernel)
  · intro d x L M Q; exact Wp_sim (by decide +kernel : decode (cd 18) 33 = .ok (.aload_n 0, 1)) rfl rfl
  · intro d a L M Q; exact Wp_sim (by decide +kernel : decode (cd 18) 34 = .ok (.dup , 1)) rfl rfl
  · intro d a b L M Q; exact q_getI (p := 268) (by decide +kernel : decode (cd 18) 35 = .ok (.getfield 15, 3)) (by decide +kernel) (by decide +kernel)
  · intro d a b L M Q; exact Wp_sim (by decide +kernel : decode (cd 18) 38 = .ok (.iconst 1, 1)) rfl rfl
  · intro d a b c L M Q; exact Wp_sim (by decide +kernel : decode (cd 18) 39 = .ok (.iadd , 1)) rfl rfl
  · intro d a b L M Q; exact q_putI (p := 268) (by decide +kernel : decode (cd 18) 40 = .ok (.putfield 15, 3)) (by decide +kernel) (by decide +kernel)
  · intro d L M Q; exact q_vret (by decide +kernel : decode (cd 18) 43 = .ok (.return_ , 1)) (by decide +kernel)

/- 19: Hats.howManyFit -/
set_option maxRecDepth 10000 in
theorem e19 : (∀ (d : Nat) (L : List Value) (M : Mem) (Q : Option Value → Mem → Prop), Wp d 19 0 L [] M Q ↔ Wp d 19 1 L [.int 0] M Q) ∧
    (∀ (d : Nat) (a : Int32) (x : Nat) (L : List Value) (M : Mem) (Q : Option Value → Mem → Prop), Wp d 19 1 (.ref x :: L) [.int a] M Q ↔ Wp d 19 2 (.ref x :: L) [.ref x, .int a] M Q) ∧
    (∀ (d : Nat) (a : Nat) (b : Int32) (L : List Value) (M : Mem) (Q : Option Value → Mem → Prop), Wp d 19 2 L [.ref a, .int b] M Q ↔ (isK a 3 = true ∧ Wp d 19 5 L [.int (M a 2), .int b] M Q)) ∧
    (∀ (d : Nat) (a : Int32) (b : Int32) (x : Nat) (L : List Value) (M : Mem) (Q : Option Value → Mem → Prop), Wp d 19 5 (.ref x :: L) [.int a, .int b] M Q ↔ Wp d 19 6 (.ref x :: L) [.ref x, .int a, .int b] M Q) ∧
    (∀ (d : Nat) (a : Nat) (b : Int32) (c : Int32) (L : List Value) (M : Mem) (Q : Option Value → Mem → Prop), Wp d 19 6 L [.ref a, .int b, .int c] M Q ↔ (isK a 3 = true ∧ Wp d 19 9 L [.int (M a 1), .int b, .int c] M Q)) ∧
    (∀ (d : Nat) (a : Int32) (b : Int32) (c : Int32) (L : List Value) (M : Mem) (Q : Option Value → Mem → Prop), Wp d 19 9 L [.int a, .int b, .int c] M Q ↔ Wp d 19 10 L [.int (b - a), .int c] M Q) ∧
    (∀ (d : Nat) (a : Int32) (b : Int32) (L : List Value) (M : Mem) (Q : Option Value → Mem → Prop), Wp d 19 10 L [.int a, .int b] M Q ↔ Wp d 19 11 L [.int 1, .int a, .int b] M Q) ∧
    (∀ (d : Nat) (a : Int32) (b : Int32) (c : Int32) (L : List Value) (M : Mem) (Q : Option Value → Mem → Prop), Wp d 19 11 L [.int a, .int b, .int c] M Q ↔ Wp d 19 12 L [.int (b + a), .int c] M Q) ∧
    (∀ (d : Nat) (a : Int32) (b : Int32) (L : List Value) (M : Mem) (Q : Option Value → Mem → Prop), Wp (d + 1) 19 12 L [.int a, .int b] M Q ↔ Wp (d + 1) 19 15 L [.int (mx b a)] M Q) ∧
    (∀ (d : Nat) (a : Int32) (L : List Value) (M : Mem) (Q : Option Value → Mem → Prop), Wp d 19 15 L [.int a] M Q ↔ Q (some (.int a)) M) := by
  refine ⟨?_, ?_, ?_, ?_, ?_, ?_, ?_, ?_, ?_, ?_⟩
  · intro d L M Q; exact Wp_sim (by decide +kernel : decode (cd 19) 0 = .ok (.iconst 0, 1)) rfl rfl
  · intro d a x L M Q; exact Wp_sim (by decide +kernel : decode (cd 19) 1 = .ok (.aload_n 0, 1)) rfl rfl
  · intro d a b L M Q; exact q_getI (p := 272) (by decide +kernel : decode (cd 19) 2 = .ok (.getfield 9, 3)) (by decide +kernel) (by decide +kernel)
  · intro d a b x L M Q; exact Wp_sim (by decide +kernel : decode (cd 19) 5 = .ok (.aload_n 0, 1)) rfl rfl
  · intro d a b c L M Q; exact q_getI (p := 270) (by decide +kernel : decode (cd 19) 6 = .ok (.getfield 18, 3)) (by decide +kernel) (by decide +kernel)
  · intro d a b c L M Q; exact Wp_sim (by decide +kernel : decode (cd 19) 9 = .ok (.isub , 1)) rfl rfl
  · intro d a b L M Q; exact Wp_sim (by decide +kernel : decode (cd 19) 10 = .ok (.iconst 1, 1)) rfl rfl
  · intro d a b c L M Q; exact Wp_sim (by decide +kernel : decode (cd 19) 11 = .ok (.iadd , 1)) rfl rfl
  · intro d a b L M Q; exact q_max (p := 772) (by decide +kernel : decode (cd 19) 12 = .ok (.invokestatic 21, 3)) (by decide +kernel) (Nat.le_of_ble_eq_true rfl)
  · intro d a L M Q; exact q_iret (by decide +kernel : decode (cd 19) 15 = .ok (.ireturn , 1)) (by decide +kernel)

/- 20: Hats.bestLine -/
set_option maxRecDepth 10000 in
theorem e20 : (∀ (d : Nat) (x : Nat) (L : List Value) (M : Mem) (Q : Option Value → Mem → Prop), Wp d 20 0 (.ref x :: L) [] M Q ↔ Wp d 20 1 (.ref x :: L) [.ref x] M Q) ∧
    (∀ (d : Nat) (a : Nat) (L : List Value) (M : Mem) (Q : Option Value → Mem → Prop), Wp (d + 1) 20 1 L [.ref a] M Q ↔ (isK a 3 = true ∧ Wp d 19 0 [.ref a] [] M (fun r M2 => Wp (d + 1) 20 4 L (r.toList ++ []) M2 Q))) ∧
    (∀ (d : Nat) (a : Int32) (v0 : Value) (x : Value) (L : List Value) (M : Mem) (Q : Option Value → Mem → Prop), Wp d 20 4 (v0 :: x :: L) [.int a] M Q ↔ Wp d 20 5 (clr v0 :: .int a :: L) [] M Q) ∧
    (∀ (d : Nat) (v0 : Value) (x : Int32) (L : List Value) (M : Mem) (Q : Option Value → Mem → Prop), Wp d 20 5 (v0 :: .int x :: L) [] M Q ↔ Wp d 20 6 (v0 :: .int x :: L) [.int x] M Q) ∧
    (∀ (d : Nat) (a : Int32) (L : List Value) (M : Mem) (Q : Option Value → Mem → Prop), Wp d 20 6 L [.int a] M Q ↔ Wp d 20 7 L [.int 2, .int a] M Q) ∧
    (∀ (d : Nat) (a : Int32) (b : Int32) (L : List Value) (M : Mem) (Q : Option Value → Mem → Prop), Wp d 20 7 L [.int a, .int b] M Q ↔ (if b < a then Wp d 20 10 L [] M Q else Wp d 20 14 L [] M Q)) ∧
    (∀ (d : Nat) (L : List Value) (M : Mem) (Q : Option Value → Mem → Prop), Wp d 20 10 L [] M Q ↔ Wp d 20 11 L [.int (-1)] M Q) ∧
    (∀ (d : Nat) (a : Int32) (L : List Value) (M : Mem) (Q : Option Value → Mem → Prop), Wp d 20 11 L [.int a] M Q ↔ Wp d 20 24 L [.int a] M Q) ∧
    (∀ (d : Nat) (x : Nat) (L : List Value) (M : Mem) (Q : Option Value → Mem → Prop), Wp d 20 14 (.ref x :: L) [] M Q ↔ Wp d 20 15 (.ref x :: L) [.ref x] M Q) ∧
    (∀ (d : Nat) (a : Nat) (L : List Value) (M : Mem) (Q : Option Value → Mem → Prop), Wp d 20 15 L [.ref a] M Q ↔ (isK a 3 = true ∧ Wp d 20 18 L [.int (M a 1)] M Q)) ∧
    (∀ (d : Nat) (a : Int32) (v0 : Value) (x : Int32) (L : List Value) (M : Mem) (Q : Option Value → Mem → Prop), Wp d 20 18 (v0 :: .int x :: L) [.int a] M Q ↔ Wp d 20 19 (v0 :: .int x :: L) [.int x, .int a] M Q) ∧
    (∀ (d : Nat) (a : Int32) (b : Int32) (L : List Value) (M : Mem) (Q : Option Value → Mem → Prop), Wp d 20 19 L [.int a, .int b] M Q ↔ Wp d 20 20 L [.int 2, .int a, .int b] M Q) ∧
    (∀ (d : Nat) (a : Int32) (b : Int32) (c : Int32) (L : List Value) (M : Mem) (Q : Option Value → Mem → Prop), Wp d 20 20 L [.int a, .int b, .int c] M Q ↔ (¬ a = 0 ∧ Wp d 20 21 L [.int (b / a), .int c] M Q)) ∧
    (∀ (d : Nat) (a : Int32) (b : Int32) (L : List Value) (M : Mem) (Q : Option Value → Mem → Prop), Wp d 20 21 L [.int a, .int b] M Q ↔ Wp d 20 22 L [.int (b + a)] M Q) ∧
    (∀ (d : Nat) (a : Int32) (L : List Value) (M : Mem) (Q : Option Value → Mem → Prop), Wp d 20 22 L [.int a] M Q ↔ Wp d 20 23 L [.int 1, .int a] M Q) ∧
    (∀ (d : Nat) (a : Int32) (b : Int32) (L : List Value) (M : Mem) (Q : Option Value → Mem → Prop), Wp d 20 23 L [.int a, .int b] M Q ↔ Wp d 20 24 L [.int (b - a)] M Q) ∧
    (∀ (d : Nat) (a : Int32) (L : List Value) (M : Mem) (Q : Option Value → Mem → Prop), Wp d 20 24 L [.int a] M Q ↔ Q (some (.int a)) M) := by
  refine ⟨?_, ?_, ?_, ?_, ?_, ?_, ?_, ?_, ?_, ?_, ?_, ?_, ?_, ?_, ?_, ?_, ?_⟩
  · intro d x L M Q; exact Wp_sim (by decide +kernel : decode (cd 20) 0 = .ok (.aload_n 0, 1)) rfl rfl
  · intro d a L M Q; exact q_invV (pz := 790) (n := 0) (c := 3) (m := 1) (k := a) (As := []) (rest := []) (by decide +kernel : decode (cd 20) 1 = .ok (.invokevirtual 30, 3)) (by decide +kernel) (by decide +kernel) rfl rfl (Nat.le_of_ble_eq_true rfl) (Nat.le_of_ble_eq_true rfl) rfl
  · intro d a v0 x L M Q; exact Wp_sim (by decide +kernel : decode (cd 20) 4 = .ok (.istore_n 1, 1)) rfl rfl
  · intro d v0 x L M Q; exact Wp_sim (by decide +kernel : decode (cd 20) 5 = .ok (.iload_n 1, 1)) rfl rfl
  · intro d a L M Q; exact Wp_sim (by decide +kernel : decode (cd 20) 6 = .ok (.iconst 2, 1)) rfl rfl
  · intro d a b L M Q; exact q_ige (by decide +kernel : decode (cd 20) 7 = .ok (.if_icmp .ge 7, 3)) (by decide)
  · intro d L M Q; exact Wp_sim (by decide +kernel : decode (cd 20) 10 = .ok (.iconst (-1), 1)) rfl rfl
  · intro d a L M Q; exact q_goto (by decide +kernel : decode (cd 20) 11 = .ok (.goto 13, 3)) (by decide)
  · intro d x L M Q; exact Wp_sim (by decide +kernel : decode (cd 20) 14 = .ok (.aload_n 0, 1)) rfl rfl
  · intro d a L M Q; exact q_getI (p := 270) (by decide +kernel : decode (cd 20) 15 = .ok (.getfield 18, 3)) (by decide +kernel) (by decide +kernel)
  · intro d a v0 x L M Q; exact Wp_sim (by decide +kernel : decode (cd 20) 18 = .ok (.iload_n 1, 1)) rfl rfl
  · intro d a b L M Q; exact Wp_sim (by decide +kernel : decode (cd 20) 19 = .ok (.iconst 2, 1)) rfl rfl
  · intro d a b c L M Q; exact q_idiv (by decide +kernel : decode (cd 20) 20 = .ok (.idiv , 1))
  · intro d a b L M Q; exact Wp_sim (by decide +kernel : decode (cd 20) 21 = .ok (.iadd , 1)) rfl rfl
  · intro d a L M Q; exact Wp_sim (by decide +kernel : decode (cd 20) 22 = .ok (.iconst 1, 1)) rfl rfl
  · intro d a b L M Q; exact Wp_sim (by decide +kernel : decode (cd 20) 23 = .ok (.isub , 1)) rfl rfl
  · intro d a L M Q; exact q_iret (by decide +kernel : decode (cd 20) 24 = .ok (.ireturn , 1)) (by decide +kernel)

/- 21: Image.take -/
set_option maxRecDepth 10000 in
theorem e21 : (∀ (d : Nat) (v0 : Value) (x : Nat) (L : List Value) (M : Mem) (Q : Option Value → Mem → Prop), Wp d 21 0 (v0 :: .ref x :: L) [] M Q ↔ Wp d 21 1 (v0 :: .ref x :: L) [.ref x] M Q) ∧
    (∀ (d : Nat) (a : Nat) (x : Nat) (L : List Value) (M : Mem) (Q : Option Value → Mem → Prop), Wp d 21 1 (.ref x :: L) [.ref a] M Q ↔ Wp d 21 2 (.ref x :: L) [.ref x, .ref a] M Q) ∧
    (∀ (d : Nat) (a : Nat) (b : Nat) (L : List Value) (M : Mem) (Q : Option Value → Mem → Prop), Wp d 21 2 L [.ref a, .ref b] M Q ↔ (isK a 4 = true ∧ Wp d 21 5 L [.ref (rt a 0), .ref b] M Q)) ∧
    (∀ (d : Nat) (a : Nat) (b : Nat) (L : List Value) (M : Mem) (Q : Option Value → Mem → Prop), Wp d 21 5 L [.ref a, .ref b] M Q ↔ Wp d 21 6 L [.int 0, .ref a, .ref b] M Q) ∧
    (∀ (d : Nat) (a : Int32) (b : Nat) (c : Nat) (L : List Value) (M : Mem) (Q : Option Value → Mem → Prop), Wp (d + 1) 21 6 L [.int a, .ref b, .ref c] M Q ↔ (isK c 6 = true ∧ Wp d 26 0 [.ref c, .ref b, .int a, .null] [] M (fun r M2 => Wp (d + 1) 21 9 L (r.toList ++ []) M2 Q))) ∧
    (∀ (d : Nat) (x : Nat) (L : List Value) (M : Mem) (Q : Option Value → Mem → Prop), Wp d 21 9 (.ref x :: L) [] M Q ↔ Wp d 21 10 (.ref x :: L) [.ref x] M Q) ∧
    (∀ (d : Nat) (a : Nat) (v0 : Value) (v1 : Value) (x : Int32) (L : List Value) (M : Mem) (Q : Option Value → Mem → Prop), Wp d 21 10 (v0 :: v1 :: .int x :: L) [.ref a] M Q ↔ Wp d 21 11 (v0 :: v1 :: .int x :: L) [.int x, .ref a] M Q) ∧
    (∀ (d : Nat) (a : Int32) (b : Nat) (L : List Value) (M : Mem) (Q : Option Value → Mem → Prop), Wp d 21 11 L [.int a, .ref b] M Q ↔ (isK b 4 = true ∧ Wp d 21 14 L [] (up2 M b 2 a) Q)) ∧
    (∀ (d : Nat) (x : Nat) (L : List Value) (M : Mem) (Q : Option Value → Mem → Prop), Wp d 21 14 (.ref x :: L) [] M Q ↔ Wp d 21 15 (.ref x :: L) [.ref x] M Q) ∧
    (∀ (d : Nat) (a : Nat) (L : List Value) (M : Mem) (Q : Option Value → Mem → Prop), Wp d 21 15 L [.ref a] M Q ↔ Wp d 21 16 L [.int 1, .ref a] M Q) ∧
    (∀ (d : Nat) (a : Int32) (b : Nat) (L : List Value) (M : Mem) (Q : Option Value → Mem → Prop), Wp d 21 16 L [.int a, .ref b] M Q ↔ ((isK b 4 = true ∧ (a = 0 ∨ a = 1)) ∧ Wp d 21 19 L [] (up2 M b 1 a) Q)) ∧
    (∀ (d : Nat) (L : List Value) (M : Mem) (Q : Option Value → Mem → Prop), Wp d 21 19 L [] M Q ↔ Q none M) := by
  refine ⟨?_, ?_, ?_, ?_, ?_, ?_, ?_, ?_, ?_, ?_, ?_, ?_⟩
  · intro d v0 x L M Q; exact Wp_sim (by decide +kernel : decode (cd 21) 0 = .ok (.aload_n 1, 1)) rfl rfl
  · intro d a x L M Q; exact Wp_sim (by decide +kernel : decode (cd 21) 1 = .ok (.aload_n 0, 1)) rfl rfl
  · intro d a b L M Q; exact q_getR (p := 250) (by decide +kernel : decode (cd 21) 2 = .ok (.getfield 9, 3)) (by decide +kernel) (by decide +kernel)
  · intro d a b L M Q; exact Wp_sim (by decide +kernel : decode (cd 21) 5 = .ok (.iconst 0, 1)) rfl rfl
  · intro d a b c L M Q; exact q_invV (pz := 827) (n := 2) (c := 6) (m := 4) (k := c) (As := [.ref b, .int a]) (rest := []) (by decide +kernel : decode (cd 21) 6 = .ok (.invokevirtual 15, 3)) (by decide +kernel) (by decide +kernel) rfl rfl (Nat.le_of_ble_eq_true rfl) (Nat.le_of_ble_eq_true rfl) rfl
  · intro d x L M Q; exact Wp_sim (by decide +kernel : decode (cd 21) 9 = .ok (.aload_n 0, 1)) rfl rfl
  · intro d a v0 v1 x L M Q; exact Wp_sim (by decide +kernel : decode (cd 21) 10 = .ok (.iload_n 2, 1)) rfl rfl
  · intro d a b L M Q; exact q_putI (p := 253) (by decide +kernel : decode (cd 21) 11 = .ok (.putfield 19, 3)) (by decide +kernel) (by decide +kernel)
  · intro d x L M Q; exact Wp_sim (by decide +kernel : decode (cd 21) 14 = .ok (.aload_n 0, 1)) rfl rfl
  · intro d a L M Q; exact Wp_sim (by decide +kernel : decode (cd 21) 15 = .ok (.iconst 1, 1)) rfl rfl
  · intro d a b L M Q; exact q_putZ (p := 251) (by decide +kernel : decode (cd 21) 16 = .ok (.putfield 23, 3)) (by decide +kernel) (by decide +kernel)
  · intro d L M Q; exact q_vret (by decide +kernel : decode (cd 21) 19 = .ok (.return_ , 1)) (by decide +kernel)

/- 22: Image.bringBack -/
set_option maxRecDepth 10000 in
theorem e22 : (∀ (d : Nat) (v0 : Value) (x : Nat) (L : List Value) (M : Mem) (Q : Option Value → Mem → Prop), Wp d 22 0 (v0 :: .ref x :: L) [] M Q ↔ Wp d 22 1 (v0 :: .ref x :: L) [.ref x] M Q) ∧
    (∀ (d : Nat) (a : Nat) (x : Nat) (L : List Value) (M : Mem) (Q : Option Value → Mem → Prop), Wp d 22 1 (.ref x :: L) [.ref a] M Q ↔ Wp d 22 2 (.ref x :: L) [.ref x, .ref a] M Q) ∧
    (∀ (d : Nat) (a : Nat) (b : Nat) (L : List Value) (M : Mem) (Q : Option Value → Mem → Prop), Wp d 22 2 L [.ref a, .ref b] M Q ↔ (isK a 4 = true ∧ Wp d 22 5 L [.ref (rt a 0), .ref b] M Q)) ∧
    (∀ (d : Nat) (a : Nat) (b : Nat) (L : List Value) (M : Mem) (Q : Option Value → Mem → Prop), Wp d 22 5 L [.ref a, .ref b] M Q ↔ Wp d 22 6 L [.int 0, .ref a, .ref b] M Q) ∧
    (∀ (d : Nat) (a : Int32) (b : Nat) (c : Nat) (L : List Value) (M : Mem) (Q : Option Value → Mem → Prop), Wp (d + 1) 22 6 L [.int a, .ref b, .ref c] M Q ↔ (isK c 6 = true ∧ Wp d 27 0 [.ref c, .ref b, .int a, .null] [] M (fun r M2 => Wp (d + 1) 22 9 L (r.toList ++ []) M2 Q))) ∧
    (∀ (d : Nat) (L : List Value) (M : Mem) (Q : Option Value → Mem → Prop), Wp d 22 9 L [] M Q ↔ Q none M) := by
  refine ⟨?_, ?_, ?_, ?_, ?_, ?_⟩
  · intro d v0 x L M Q; exact Wp_sim (by decide +kernel : decode (cd 22) 0 = .ok (.aload_n 1, 1)) rfl rfl
  · intro d a x L M Q; exact Wp_sim (by decide +kernel : decode (cd 22) 1 = .ok (.aload_n 0, 1)) rfl rfl
  · intro d a b L M Q; exact q_getR (p := 250) (by decide +kernel : decode (cd 22) 2 = .ok (.getfield 9, 3)) (by decide +kernel) (by decide +kernel)
  · intro d a b L M Q; exact Wp_sim (by decide +kernel : decode (cd 22) 5 = .ok (.iconst 0, 1)) rfl rfl
  · intro d a b c L M Q; exact q_invV (pz := 836) (n := 2) (c := 6) (m := 4) (k := c) (As := [.ref b, .int a]) (rest := []) (by decide +kernel : decode (cd 22) 6 = .ok (.invokevirtual 27, 3)) (by decide +kernel) (by decide +kernel) rfl rfl (Nat.le_of_ble_eq_true rfl) (Nat.le_of_ble_eq_true rfl) rfl
  · intro d L M Q; exact q_vret (by decide +kernel : decode (cd 22) 9 = .ok (.return_ , 1)) (by decide +kernel)

/- 23: Letters.add -/
set_option maxRecDepth 10000 in
theorem e23 : (∀ (d : Nat) (x : Nat) (L : List Value) (M : Mem) (Q : Option Value → Mem → Prop), Wp d 23 0 (.ref x :: L) [] M Q ↔ Wp d 23 1 (.ref x :: L) [.ref x] M Q) ∧
    (∀ (d : Nat) (a : Nat) (L : List Value) (M : Mem) (Q : Option Value → Mem → Prop), Wp d 23 1 L [.ref a] M Q ↔ (isK a 5 = true ∧ Wp d 23 4 L [.int (M a 1)] M Q)) ∧
    (∀ (d : Nat) (a : Int32) (L : List Value) (M : Mem) (Q : Option Value → Mem → Prop), Wp d 23 4 L [.int a] M Q ↔ (if a < 0 then Wp d 23 19 L [] M Q else Wp d 23 7 L [] M Q)) ∧
    (∀ (d : Nat) (x : Nat) (L : List Value) (M : Mem) (Q : Option Value → Mem → Prop), Wp d 23 7 (.ref x :: L) [] M Q ↔ Wp d 23 8 (.ref x :: L) [.ref x] M Q) ∧
    (∀ (d : Nat) (a : Nat) (L : List Value) (M : Mem) (Q : Option Value → Mem → Prop), Wp d 23 8 L [.ref a] M Q ↔ (isK a 5 = true ∧ Wp d 23 11 L [.int (M a 1)] M Q)) ∧
    (∀ (d : Nat) (a : Int32) (x : Nat) (L : List Value) (M : Mem) (Q : Option Value → Mem → Prop), Wp d 23 11 (.ref x :: L) [.int a] M Q ↔ Wp d 23 12 (.ref x :: L) [.ref x, .int a] M Q) ∧
    (∀ (d : Nat) (a : Nat) (b : Int32) (L : List Value) (M : Mem) (Q : Option Value → Mem → Prop), Wp d 23 12 L [.ref a, .int b] M Q ↔ (isK a 5 = true ∧ Wp d 23 15 L [.ref (rt a 0), .int b] M Q)) ∧
    (∀ (d : Nat) (a : Nat) (b : Int32) (L : List Value) (M : Mem) (Q : Option Value → Mem → Prop), Wp d 23 15 L [.ref a, .int b] M Q ↔ ((isR a = true ∨ isK a 14 = true) ∧ Wp d 23 16 L [.int (nI (lnm M a)), .int b] M Q)) ∧
    (∀ (d : Nat) (a : Int32) (b : Int32) (L : List Value) (M : Mem) (Q : Option Value → Mem → Prop), Wp d 23 16 L [.int a, .int b] M Q ↔ (if b < a then Wp d 23 20 L [] M Q else Wp d 23 19 L [] M Q)) ∧
    (∀ (d : Nat) (L : List Value) (M : Mem) (Q : Option Value → Mem → Prop), Wp d 23 19 L [] M Q ↔ Q none M) ∧
    (∀ (d : Nat) (x : Nat) (L : List Value) (M : Mem) (Q : Option Value → Mem → Prop), Wp d 23 20 (.ref x :: L) [] M Q ↔ Wp d 23 21 (.ref x :: L) [.ref x] M Q) ∧
    (∀ (d : Nat) (a : Nat) (L : List Value) (M : Mem) (Q : Option Value → Mem → Prop), Wp d 23 21 L [.ref a] M Q ↔ (isK a 5 = true ∧ Wp d 23 24 L [.ref (rt a 0)] M Q)) ∧
    (∀ (d : Nat) (a : Nat) (x : Nat) (L : List Value) (M : Mem) (Q : Option Value → Mem → Prop), Wp d 23 24 (.ref x :: L) [.ref a] M Q ↔ Wp d 23 25 (.ref x :: L) [.ref x, .ref a] M Q) ∧
    (∀ (d : Nat) (a : Nat) (b : Nat) (L : List Value) (M : Mem) (Q : Option Value → Mem → Prop), Wp d 23 25 L [.ref a, .ref b] M Q ↔ (isK a 5 = true ∧ Wp d 23 28 L [.int (M a 1), .ref b] M Q)) ∧
    (∀ (d : Nat) (a : Int32) (b : Nat) (v0 : Value) (x : Int32) (L : List Value) (M : Mem) (Q : Option Value → Mem → Prop), Wp d 23 28 (v0 :: .int x :: L) [.int a, .ref b] M Q ↔ Wp d 23 29 (v0 :: .int x :: L) [.int x, .int a, .ref b] M Q) ∧
    (∀ (d : Nat) (a : Int32) (b : Int32) (c : Nat) (L : List Value) (M : Mem) (Q : Option Value → Mem → Prop), Wp d 23 29 L [.int a, .int b, .ref c] M Q ↔ ((isK c 13 = true ∧ inr b (lnm M c)) ∧ Wp d 23 30 L [] (up2 M c b.toNatClampNeg a) Q)) ∧
    (∀ (d : Nat) (x : Nat) (L : List Value) (M : Mem) (Q : Option Value → Mem → Prop), Wp d 23 30 (.ref x :: L) [] M Q ↔ Wp d 23 31 (.ref x :: L) [.ref x] M Q) ∧
    (∀ (d : Nat) (a : Nat) (L : List Value) (M : Mem) (Q : Option Value → Mem → Prop), Wp d 23 31 L [.ref a] M Q ↔ Wp d 23 32 L [.ref a, .ref a] M Q) ∧
    (∀ (d : Nat) (a : Nat) (b : Nat) (L : List Value) (M : Mem) (Q : Option Value → Mem → Prop), Wp d 23 32 L [.ref a, .ref b] M Q ↔ (isK a 5 = true ∧ Wp d 23 35 L [.int (M a 1), .ref b] M Q)) ∧
    (∀ (d : Nat) (a : Int32) (b : Nat) (L : List Value) (M : Mem) (Q : Option Value → Mem → Prop), Wp d 23 35 L [.int a, .ref b] M Q ↔ Wp d 23 36 L [.int 1, .int a, .ref b] M Q) ∧
    (∀ (d : Nat) (a : Int32) (b : Int32) (c : Nat) (L : List Value) (M : Mem) (Q : Option Value → Mem → Prop), Wp d 23 36 L [.int a, .int b, .ref c] M Q ↔ Wp d 23 37 L [.int (b + a), .ref c] M Q) ∧
    (∀ (d : Nat) (a : Int32) (b : Nat) (L : List Value) (M : Mem) (Q : Option Value → Mem → Prop), Wp d 23 37 L [.int a, .ref b] M Q ↔ (isK b 5 = true ∧ Wp d 23 40 L [] (up2 M b 1 a) Q)) ∧
    (∀ (d : Nat) (L : List Value) (M : Mem) (Q : Option Value → Mem → Prop), Wp d 23 40 L [] M Q ↔ Q none M) := by
  refine ⟨?_, ?_, ?_, ?_, ?_, ?_, ?_, ?_, ?_, ?_, ?_, ?_, ?_, ?_, ?_, ?_, ?_, ?_, ?_, ?_, ?_, ?_, ?_⟩
  · intro d x L M Q; exact Wp_sim (by decide +kernel : decode (cd 23) 0 = .ok (.aload_n 0, 1)) rfl rfl
  · intro d a L M Q; exact q_getI (p := 33) (by decide +kernel : decode (cd 23) 1 = .ok (.getfield 15, 3)) (by decide +kernel) (by decide +kernel)
  · intro d a L M Q; exact q_zlt (by decide +kernel : decode (cd 23) 4 = .ok (.ifCond .lt 15, 3)) (by decide)
  · intro d x L M Q; exact Wp_sim (by decide +kernel : decode (cd 23) 7 = .ok (.aload_n 0, 1)) rfl rfl
  · intro d a L M Q; exact q_getI (p := 33) (by decide +kernel : decode (cd 23) 8 = .ok (.getfield 15, 3)) (by decide +kernel) (by decide +kernel)
  · intro d a x L M Q; exact Wp_sim (by decide +kernel : decode (cd 23) 11 = .ok (.aload_n 0, 1)) rfl rfl
  · intro d a b L M Q; exact q_getR (p := 32) (by decide +kernel : decode (cd 23) 12 = .ok (.getfield 9, 3)) (by decide +kernel) (by decide +kernel)
  · intro d a b L M Q; exact q_aln (by decide +kernel : decode (cd 23) 15 = .ok (.arraylength , 1))
  · intro d a b L M Q; exact q_ilt (by decide +kernel : decode (cd 23) 16 = .ok (.if_icmp .lt 4, 3)) (by decide)
  · intro d L M Q; exact q_vret (by decide +kernel : decode (cd 23) 19 = .ok (.return_ , 1)) (by decide +kernel)
  · intro d x L M Q; exact Wp_sim (by decide +kernel : decode (cd 23) 20 = .ok (.aload_n 0, 1)) rfl rfl
  · intro d a L M Q; exact q_getR (p := 32) (by decide +kernel : decode (cd 23) 21 = .ok (.getfield 9, 3)) (by decide +kernel) (by decide +kernel)
  · intro d a x L M Q; exact Wp_sim (by decide +kernel : decode (cd 23) 24 = .ok (.aload_n 0, 1)) rfl rfl
  · intro d a b L M Q; exact q_getI (p := 33) (by decide +kernel : decode (cd 23) 25 = .ok (.getfield 15, 3)) (by decide +kernel) (by decide +kernel)
  · intro d a b v0 x L M Q; exact Wp_sim (by decide +kernel : decode (cd 23) 28 = .ok (.iload_n 1, 1)) rfl rfl
  · intro d a b c L M Q; exact q_ast (by decide +kernel : decode (cd 23) 29 = .ok (.iastore , 1))
  · intro d x L M Q; exact Wp_sim (by decide +kernel : decode (cd 23) 30 = .ok (.aload_n 0, 1)) rfl rfl
  · intro d a L M Q; exact Wp_sim (by decide +kernel : decode (cd 23) 31 = .ok (.dup , 1)) rfl rfl
  · intro d a b L M Q; exact q_getI (p := 33) (by decide +kernel : decode (cd 23) 32 = .ok (.getfield 15, 3)) (by decide +kernel) (by decide +kernel)
  · intro d a b L M Q; exact Wp_sim (by decide +kernel : decode (cd 23) 35 = .ok (.iconst 1, 1)) rfl rfl
  · intro d a b c L M Q; exact Wp_sim (by decide +kernel : decode (cd 23) 36 = .ok (.iadd , 1)) rfl rfl
  · intro d a b L M Q; exact q_putI (p := 33) (by decide +kernel : decode (cd 23) 37 = .ok (.putfield 15, 3)) (by decide +kernel) (by decide +kernel)
  · intro d L M Q; exact q_vret (by decide +kernel : decode (cd 23) 40 = .ok (.return_ , 1)) (by decide +kernel)

/- 24: Letters.signAt -/
set_option maxRecDepth 10000 in
theorem e24 : (∀ (d : Nat) (v0 : Value) (x : Int32) (L : List Value) (M : Mem) (Q : Option Value → Mem → Prop), Wp d 24 0 (v0 :: .int x :: L) [] M Q ↔ Wp d 24 1 (v0 :: .int x :: L) [.int x] M Q) ∧
    (∀ (d : Nat) (a : Int32) (L : List Value) (M : Mem) (Q : Option Value → Mem → Prop), Wp d 24 1 L [.int a] M Q ↔ (if a < 0 then Wp d 24 30 L [] M Q else Wp d 24 4 L [] M Q)) ∧
    (∀ (d : Nat) (v0 : Value) (x : Int32) (L : List Value) (M : Mem) (Q : Option Value → Mem → Prop), Wp d 24 4 (v0 :: .int x :: L) [] M Q ↔ Wp d 24 5 (v0 :: .int x :: L) [.int x] M Q) ∧
    (∀ (d : Nat) (a : Int32) (x : Nat) (L : List Value) (M : Mem) (Q : Option Value → Mem → Prop), Wp d 24 5 (.ref x :: L) [.int a] M Q ↔ Wp d 24 6 (.ref x :: L) [.ref x, .int a] M Q) ∧
    (∀ (d : Nat) (a : Nat) (b : Int32) (L : List Value) (M : Mem) (Q : Option Value → Mem → Prop), Wp d 24 6 L [.ref a, .int b] M Q ↔ (isK a 5 = true ∧ Wp d 24 9 L [.int (M a 1), .int b] M Q)) ∧
    (∀ (d : Nat) (a : Int32) (b : Int32) (L : List Value) (M : Mem) (Q : Option Value → Mem → Prop), Wp d 24 9 L [.int a, .int b] M Q ↔ (if b < a then Wp d 24 12 L [] M Q else Wp d 24 30 L [] M Q)) ∧
    (∀ (d : Nat) (v0 : Value) (x : Int32) (L : List Value) (M : Mem) (Q : Option Value → Mem → Prop), Wp d 24 12 (v0 :: .int x :: L) [] M Q ↔ Wp d 24 13 (v0 :: .int x :: L) [.int x] M Q) ∧
    (∀ (d : Nat) (a : Int32) (x : Nat) (L : List Value) (M : Mem) (Q : Option Value → Mem → Prop), Wp d 24 13 (.ref x :: L) [.int a] M Q ↔ Wp d 24 14 (.ref x :: L) [.ref x, .int a] M Q) ∧
    (∀ (d : Nat) (a : Nat) (b : Int32) (L : List Value) (M : Mem) (Q : Option Value → Mem → Prop), Wp d 24 14 L [.ref a, .int b] M Q ↔ (isK a 5 = true ∧ Wp d 24 17 L [.ref (rt a 0), .int b] M Q)) ∧
    (∀ (d : Nat) (a : Nat) (b : Int32) (L : List Value) (M : Mem) (Q : Option Value → Mem → Prop), Wp d 24 17 L [.ref a, .int b] M Q ↔ ((isR a = true ∨ isK a 14 = true) ∧ Wp d 24 18 L [.int (nI (lnm M a)), .int b] M Q)) ∧
    (∀ (d : Nat) (a : Int32) (b : Int32) (L : List Value) (M : Mem) (Q : Option Value → Mem → Prop), Wp d 24 18 L [.int a, .int b] M Q ↔ (if b < a then Wp d 24 21 L [] M Q else Wp d 24 30 L [] M Q)) ∧
    (∀ (d : Nat) (x : Nat) (L : List Value) (M : Mem) (Q : Option Value → Mem → Prop), Wp d 24 21 (.ref x :: L) [] M Q ↔ Wp d 24 22 (.ref x :: L) [.ref x] M Q) ∧
    (∀ (d : Nat) (a : Nat) (L : List Value) (M : Mem) (Q : Option Value → Mem → Prop), Wp d 24 22 L [.ref a] M Q ↔ (isK a 5 = true ∧ Wp d 24 25 L [.ref (rt a 0)] M Q)) ∧
    (∀ (d : Nat) (a : Nat) (v0 : Value) (x : Int32) (L : List Value) (M : Mem) (Q : Option Value → Mem → Prop), Wp d 24 25 (v0 :: .int x :: L) [.ref a] M Q ↔ Wp d 24 26 (v0 :: .int x :: L) [.int x, .ref a] M Q) ∧
    (∀ (d : Nat) (a : Int32) (b : Nat) (L : List Value) (M : Mem) (Q : Option Value → Mem → Prop), Wp d 24 26 L [.int a, .ref b] M Q ↔ ((isR b = true ∧ inr a (lnm M b)) ∧ Wp d 24 27 L [.int (M b a.toNatClampNeg)] M Q)) ∧
    (∀ (d : Nat) (a : Int32) (L : List Value) (M : Mem) (Q : Option Value → Mem → Prop), Wp d 24 27 L [.int a] M Q ↔ Wp d 24 31 L [.int a] M Q) ∧
    (∀ (d : Nat) (L : List Value) (M : Mem) (Q : Option Value → Mem → Prop), Wp d 24 30 L [] M Q ↔ Wp d 24 31 L [.int (-1)] M Q) ∧
    (∀ (d : Nat) (a : Int32) (L : List Value) (M : Mem) (Q : Option Value → Mem → Prop), Wp d 24 31 L [.int a] M Q ↔ Q (some (.int a)) M) := by
  refine ⟨?_, ?_, ?_, ?_, ?_, ?_, ?_, ?_, ?_, ?_, ?_, ?_, ?_, ?_, ?_, ?_, ?_, ?_⟩
  · intro d v0 x L M Q; exact Wp_sim (by decide +kernel : decode (cd 24) 0 = .ok (.iload_n 1, 1)) rfl rfl
  · intro d a L M Q; exact q_zlt (by decide +kernel : decode (cd 24) 1 = .ok (.ifCond .lt 29, 3)) (by decide)
  · intro d v0 x L M Q; exact Wp_sim (by decide +kernel : decode (cd 24) 4 = .ok (.iload_n 1, 1)) rfl rfl
  · intro d a x L M Q; exact Wp_sim (by decide +kernel : decode (cd 24) 5 = .ok (.aload_n 0, 1)) rfl rfl
  · intro d a b L M Q; exact q_getI (p := 33) (by decide +kernel : decode (cd 24) 6 = .ok (.getfield 15, 3)) (by decide +kernel) (by decide +kernel)
  · intro d a b L M Q; exact q_ige (by decide +kernel : decode (cd 24) 9 = .ok (.if_icmp .ge 21, 3)) (by decide)
  · intro d v0 x L M Q; exact Wp_sim (by decide +kernel : decode (cd 24) 12 = .ok (.iload_n 1, 1)) rfl rfl
  · intro d a x L M Q; exact Wp_sim (by decide +kernel : decode (cd 24) 13 = .ok (.aload_n 0, 1)) rfl rfl
  · intro d a b L M Q; exact q_getR (p := 32) (by decide +kernel : decode (cd 24) 14 = .ok (.getfield 9, 3)) (by decide +kernel) (by decide +kernel)
  · intro d a b L M Q; exact q_aln (by decide +kernel : decode (cd 24) 17 = .ok (.arraylength , 1))
  · intro d a b L M Q; exact q_ige (by decide +kernel : decode (cd 24) 18 = .ok (.if_icmp .ge 12, 3)) (by decide)
  · intro d x L M Q; exact Wp_sim (by decide +kernel : decode (cd 24) 21 = .ok (.aload_n 0, 1)) rfl rfl
  · intro d a L M Q; exact q_getR (p := 32) (by decide +kernel : decode (cd 24) 22 = .ok (.getfield 9, 3)) (by decide +kernel) (by decide +kernel)
  · intro d a v0 x L M Q; exact Wp_sim (by decide +kernel : decode (cd 24) 25 = .ok (.iload_n 1, 1)) rfl rfl
  · intro d a b L M Q; exact q_ald (by decide +kernel : decode (cd 24) 26 = .ok (.iaload , 1))
  · intro d a L M Q; exact q_goto (by decide +kernel : decode (cd 24) 27 = .ok (.goto 4, 3)) (by decide)
  · intro d L M Q; exact Wp_sim (by decide +kernel : decode (cd 24) 30 = .ok (.iconst (-1), 1)) rfl rfl
  · intro d a L M Q; exact q_iret (by decide +kernel : decode (cd 24) 31 = .ok (.ireturn , 1)) (by decide +kernel)

/- 25: Life.clear -/
set_option maxRecDepth 10000 in
theorem e25 : (∀ (d : Nat) (x : Nat) (L : List Value) (M : Mem) (Q : Option Value → Mem → Prop), Wp d 25 0 (.ref x :: L) [] M Q ↔ Wp d 25 1 (.ref x :: L) [.ref x] M Q) ∧
    (∀ (d : Nat) (a : Nat) (L : List Value) (M : Mem) (Q : Option Value → Mem → Prop), Wp d 25 1 L [.ref a] M Q ↔ (isK a 6 = true ∧ Wp d 25 4 L [.ref (rt a 0)] M Q)) ∧
    (∀ (d : Nat) (a : Nat) (L : List Value) (M : Mem) (Q : Option Value → Mem → Prop), Wp d 25 4 L [.ref a] M Q ↔ Wp d 25 5 L [.int 0, .ref a] M Q) ∧
    (∀ (d : Nat) (a : Int32) (b : Nat) (L : List Value) (M : Mem) (Q : Option Value → Mem → Prop), Wp (d + 1) 25 5 L [.int a, .ref b] M Q ↔ Wp d 196 0 [.ref b, .int a, .null, .null] [] M (fun r M2 => Wp (d + 1) 25 8 L (r.toList ++ []) M2 Q)) ∧
    (∀ (d : Nat) (x : Nat) (L : List Value) (M : Mem) (Q : Option Value → Mem → Prop), Wp d 25 8 (.ref x :: L) [] M Q ↔ Wp d 25 9 (.ref x :: L) [.ref x] M Q) ∧
    (∀ (d : Nat) (a : Nat) (L : List Value) (M : Mem) (Q : Option Value → Mem → Prop), Wp d 25 9 L [.ref a] M Q ↔ (isK a 6 = true ∧ Wp d 25 12 L [.ref (rt a 1)] M Q)) ∧
    (∀ (d : Nat) (a : Nat) (L : List Value) (M : Mem) (Q : Option Value → Mem → Prop), Wp d 25 12 L [.ref a] M Q ↔ Wp d 25 13 L [.int 0, .ref a] M Q) ∧
    (∀ (d : Nat) (a : Int32) (b : Nat) (L : List Value) (M : Mem) (Q : Option Value → Mem → Prop), Wp (d + 1) 25 13 L [.int a, .ref b] M Q ↔ Wp d 196 0 [.ref b, .int a, .null, .null] [] M (fun r M2 => Wp (d + 1) 25 16 L (r.toList ++ []) M2 Q)) ∧
    (∀ (d : Nat) (x : Nat) (L : List Value) (M : Mem) (Q : Option Value → Mem → Prop), Wp d 25 16 (.ref x :: L) [] M Q ↔ Wp d 25 17 (.ref x :: L) [.ref x] M Q) ∧
    (∀ (d : Nat) (a : Nat) (L : List Value) (M : Mem) (Q : Option Value → Mem → Prop), Wp d 25 17 L [.ref a] M Q ↔ (isK a 6 = true ∧ Wp d 25 20 L [.ref (rt a 2)] M Q)) ∧
    (∀ (d : Nat) (a : Nat) (L : List Value) (M : Mem) (Q : Option Value → Mem → Prop), Wp d 25 20 L [.ref a] M Q ↔ (isK a 2 = true ∧ Wp d 25 23 L [.ref (rt a 0)] M Q)) ∧
    (∀ (d : Nat) (a : Nat) (L : List Value) (M : Mem) (Q : Option Value → Mem → Prop), Wp d 25 23 L [.ref a] M Q ↔ Wp d 25 24 L [.int 0, .ref a] M Q) ∧
    (∀ (d : Nat) (a : Int32) (b : Nat) (L : List Value) (M : Mem) (Q : Option Value → Mem → Prop), Wp (d + 1) 25 24 L [.int a, .ref b] M Q ↔ Wp d 196 0 [.ref b, .int a, .null, .null] [] M (fun r M2 => Wp (d + 1) 25 27 L (r.toList ++ []) M2 Q)) ∧
    (∀ (d : Nat) (x : Nat) (L : List Value) (M : Mem) (Q : Option Value → Mem → Prop), Wp d 25 27 (.ref x :: L) [] M Q ↔ Wp d 25 28 (.ref x :: L) [.ref x] M Q) ∧
    (∀ (d : Nat) (a : Nat) (L : List Value) (M : Mem) (Q : Option Value → Mem → Prop), Wp d 25 28 L [.ref a] M Q ↔ Wp d 25 29 L [.int 0, .ref a] M Q) ∧
    (∀ (d : Nat) (a : Int32) (b : Nat) (L : List Value) (M : Mem) (Q : Option Value → Mem → Prop), Wp d 25 29 L [.int a, .ref b] M Q ↔ (isK b 6 = true ∧ Wp d 25 32 L [] (up2 M b 3 a) Q)) ∧
    (∀ (d : Nat) (x : Nat) (L : List Value) (M : Mem) (Q : Option Value → Mem → Prop), Wp d 25 32 (.ref x :: L) [] M Q ↔ Wp d 25 33 (.ref x :: L) [.ref x] M Q) ∧
    (∀ (d : Nat) (a : Nat) (L : List Value) (M : Mem) (Q : Option Value → Mem → Prop), Wp d 25 33 L [.ref a] M Q ↔ Wp d 25 34 L [.int 0, .ref a] M Q) ∧
    (∀ (d : Nat) (a : Int32) (b : Nat) (L : List Value) (M : Mem) (Q : Option Value → Mem → Prop), Wp d 25 34 L [.int a, .ref b] M Q ↔ (isK b 6 = true ∧ Wp d 25 37 L [] (up2 M b 4 a) Q)) ∧
    (∀ (d : Nat) (x : Nat) (L : List Value) (M : Mem) (Q : Option Value → Mem → Prop), Wp d 25 37 (.ref x :: L) [] M Q ↔ Wp d 25 38 (.ref x :: L) [.ref x] M Q) ∧
    (∀ (d : Nat) (a : Nat) (L : List Value) (M : Mem) (Q : Option Value → Mem → Prop), Wp d 25 38 L [.ref a] M Q ↔ Wp d 25 39 L [.int 0, .ref a] M Q) ∧
    (∀ (d : Nat) (a : Int32) (b : Nat) (L : List Value) (M : Mem) (Q : Option Value → Mem → Prop), Wp d 25 39 L [.int a, .ref b] M Q ↔ (isK b 6 = true ∧ Wp d 25 42 L [] (up2 M b 5 a) Q)) ∧
    (∀ (d : Nat) (L : List Value) (M : Mem) (Q : Option Value → Mem → Prop), Wp d 25 42 L [] M Q ↔ Q none M) := by
  refine ⟨?_, ?_, ?_, ?_, ?_, ?_, ?_, ?_, ?_, ?_, ?_, ?_, ?_, ?_, ?_, ?_, ?_, ?_, ?_, ?_, ?_, ?_, ?_⟩
  · intro d x L M Q; exact Wp_sim (by decide +kernel : decode (cd 25) 0 = .ok (.aload_n 0, 1)) rfl rfl
  · intro d a L M Q; exact q_getR (p := 164) (by decide +kernel : decode (cd 25) 1 = .ok (.getfield 11, 3)) (by decide +kernel) (by decide +kernel)
  · intro d a L M Q; exact Wp_sim (by decide +kernel : decode (cd 25) 4 = .ok (.iconst 0, 1)) rfl rfl
  · intro d a b L M Q; exact q_invS (pz := 424) (n := 2) (m := 4) (As := [.ref b, .int a]) (rest := []) (by decide +kernel : decode (cd 25) 5 = .ok (.invokestatic 25, 3)) (by decide +kernel) (by decide +kernel) (by decide +kernel) rfl rfl (Nat.le_of_ble_eq_true rfl) (Nat.le_of_ble_eq_true rfl) rfl
  · intro d x L M Q; exact Wp_sim (by decide +kernel : decode (cd 25) 8 = .ok (.aload_n 0, 1)) rfl rfl
  · intro d a L M Q; exact q_getR (p := 168) (by decide +kernel : decode (cd 25) 9 = .ok (.getfield 17, 3)) (by decide +kernel) (by decide +kernel)
  · intro d a L M Q; exact Wp_sim (by decide +kernel : decode (cd 25) 12 = .ok (.iconst 0, 1)) rfl rfl
  · intro d a b L M Q; exact q_invS (pz := 424) (n := 2) (m := 4) (As := [.ref b, .int a]) (rest := []) (by decide +kernel : decode (cd 25) 13 = .ok (.invokestatic 25, 3)) (by decide +kernel) (by decide +kernel) (by decide +kernel) rfl rfl (Nat.le_of_ble_eq_true rfl) (Nat.le_of_ble_eq_true rfl) rfl
  · intro d x L M Q; exact Wp_sim (by decide +kernel : decode (cd 25) 16 = .ok (.aload_n 0, 1)) rfl rfl
  · intro d a L M Q; exact q_getR (p := 171) (by decide +kernel : decode (cd 25) 17 = .ok (.getfield 21, 3)) (by decide +kernel) (by decide +kernel)
  · intro d a L M Q; exact q_getR (p := 160) (by decide +kernel : decode (cd 25) 20 = .ok (.getfield 31, 3)) (by decide +kernel) (by decide +kernel)
  · intro d a L M Q; exact Wp_sim (by decide +kernel : decode (cd 25) 23 = .ok (.iconst 0, 1)) rfl rfl
  · intro d a b L M Q; exact q_invS (pz := 424) (n := 2) (m := 4) (As := [.ref b, .int a]) (rest := []) (by decide +kernel : decode (cd 25) 24 = .ok (.invokestatic 25, 3)) (by decide +kernel) (by decide +kernel) (by decide +kernel) rfl rfl (Nat.le_of_ble_eq_true rfl) (Nat.le_of_ble_eq_true rfl) rfl
  · intro d x L M Q; exact Wp_sim (by decide +kernel : decode (cd 25) 27 = .ok (.aload_n 0, 1)) rfl rfl
  · intro d a L M Q; exact Wp_sim (by decide +kernel : decode (cd 25) 28 = .ok (.iconst 0, 1)) rfl rfl
  · intro d a b L M Q; exact q_putI (p := 174) (by decide +kernel : decode (cd 25) 29 = .ok (.putfield 34, 3)) (by decide +kernel) (by decide +kernel)
  · intro d x L M Q; exact Wp_sim (by decide +kernel : decode (cd 25) 32 = .ok (.aload_n 0, 1)) rfl rfl
  · intro d a L M Q; exact Wp_sim (by decide +kernel : decode (cd 25) 33 = .ok (.iconst 0, 1)) rfl rfl
  · intro d a b L M Q; exact q_putI (p := 177) (by decide +kernel : decode (cd 25) 34 = .ok (.putfield 38, 3)) (by decide +kernel) (by decide +kernel)
  · intro d x L M Q; exact Wp_sim (by decide +kernel : decode (cd 25) 37 = .ok (.aload_n 0, 1)) rfl rfl
  · intro d a L M Q; exact Wp_sim (by decide +kernel : decode (cd 25) 38 = .ok (.iconst 0, 1)) rfl rfl
  · intro d a b L M Q; exact q_putI (p := 180) (by decide +kernel : decode (cd 25) 39 = .ok (.putfield 41, 3)) (by decide +kernel) (by decide +kernel)
  · intro d L M Q; exact q_vret (by decide +kernel : decode (cd 25) 42 = .ok (.return_ , 1)) (by decide +kernel)

/- 26: Life.packInto -/
set_option maxRecDepth 10000 in
theorem e26_0 : (∀ (d : Nat) (v0 : Value) (v1 : Value) (x : Int32) (L : List Value) (M : Mem) (Q : Option Value → Mem → Prop), Wp d 26 0 (v0 :: v1 :: .int x :: L) [] M Q ↔ Wp d 26 1 (v0 :: v1 :: .int x :: L) [.int x] M Q) ∧
    (∀ (d : Nat) (a : Int32) (L : List Value) (M : Mem) (Q : Option Value → Mem → Prop), Wp d 26 1 L [.int a] M Q ↔ (if a < 0 then Wp d 26 13 L [] M Q else Wp d 26 4 L [] M Q)) ∧
    (∀ (d : Nat) (v0 : Value) (v1 : Value) (x : Int32) (L : List Value) (M : Mem) (Q : Option Value → Mem → Prop), Wp d 26 4 (v0 :: v1 :: .int x :: L) [] M Q ↔ Wp d 26 5 (v0 :: v1 :: .int x :: L) [.int x] M Q) ∧
    (∀ (d : Nat) (a : Int32) (v0 : Value) (x : Nat) (L : List Value) (M : Mem) (Q : Option Value → Mem → Prop), Wp d 26 5 (v0 :: .ref x :: L) [.int a] M Q ↔ Wp d 26 6 (v0 :: .ref x :: L) [.ref x, .int a] M Q) ∧
    (∀ (d : Nat) (a : Nat) (b : Int32) (L : List Value) (M : Mem) (Q : Option Value → Mem → Prop), Wp d 26 6 L [.ref a, .int b] M Q ↔ ((isR a = true ∨ isK a 14 = true) ∧ Wp d 26 7 L [.int (nI (lnm M a)), .int b] M Q)) ∧
    (∀ (d : Nat) (a : Int32) (b : Int32) (L : List Value) (M : Mem) (Q : Option Value → Mem → Prop), Wp d 26 7 L [.int a, .int b] M Q ↔ Wp d 26 9 L [.int 51, .int a, .int b] M Q) ∧
    (∀ (d : Nat) (a : Int32) (b : Int32) (c : Int32) (L : List Value) (M : Mem) (Q : Option Value → Mem → Prop), Wp d 26 9 L [.int a, .int b, .int c] M Q ↔ Wp d 26 10 L [.int (b - a), .int c] M Q) ∧
    (∀ (d : Nat) (a : Int32) (b : Int32) (L : List Value) (M : Mem) (Q : Option Value → Mem → Prop), Wp d 26 10 L [.int a, .int b] M Q ↔ (if a < b then Wp d 26 13 L [] M Q else Wp d 26 14 L [] M Q)) ∧
    (∀ (d : Nat) (L : List Value) (M : Mem) (Q : Option Value → Mem → Prop), Wp d 26 13 L [] M Q ↔ Q none M) ∧
    (∀ (d : Nat) (x : Nat) (L : List Value) (M : Mem) (Q : Option Value → Mem → Prop), Wp d 26 14 (.ref x :: L) [] M Q ↔ Wp d 26 15 (.ref x :: L) [.ref x] M Q) ∧
    (∀ (d : Nat) (a : Nat) (L : List Value) (M : Mem) (Q : Option Value → Mem → Prop), Wp d 26 15 L [.ref a] M Q ↔ (isK a 6 = true ∧ Wp d 26 18 L [.ref (rt a 0)] M Q)) ∧
    (∀ (d : Nat) (a : Nat) (L : List Value) (M : Mem) (Q : Option Value → Mem → Prop), Wp d 26 18 L [.ref a] M Q ↔ Wp d 26 19 L [.int 0, .ref a] M Q) ∧
    (∀ (d : Nat) (a : Int32) (b : Nat) (v0 : Value) (x : Nat) (L : List Value) (M : Mem) (Q : Option Value → Mem → Prop), Wp d 26 19 (v0 :: .ref x :: L) [.int a, .ref b] M Q ↔ Wp d 26 20 (v0 :: .ref x :: L) [.ref x, .int a, .ref b] M Q) ∧
    (∀ (d : Nat) (a : Nat) (b : Int32) (c : Nat) (v0 : Value) (v1 : Value) (x : Int32) (L : List Value) (M : Mem) (Q : Option Value → Mem → Prop), Wp d 26 20 (v0 :: v1 :: .int x :: L) [.ref a, .int b, .ref c] M Q ↔ Wp d 26 21 (v0 :: v1 :: .int x :: L) [.int x, .ref a, .int b, .ref c] M Q) ∧
    (∀ (d : Nat) (a : Int32) (b : Nat) (c : Int32) (d2 : Nat) (L : List Value) (M : Mem) (Q : Option Value → Mem → Prop), Wp d 26 21 L [.int a, .ref b, .int c, .ref d2] M Q ↔ Wp d 26 23 L [.int 6, .int a, .ref b, .int c, .ref d2] M Q) ∧
    (∀ (d : Nat) (a : Int32) (b : Int32) (c : Nat) (d2 : Int32) (e : Nat) (L : List Value) (M : Mem) (Q : Option Value → Mem → Prop), Wp (d + 1) 26 23 L [.int a, .int b, .ref c, .int d2, .ref e] M Q ↔ (((isK e 13 = true ∧ isK c 13 = true) ∧ ((¬ d2 < 0 ∧ ¬ b < 0 ∧ ¬ a < 0) ∧ d2.toNatClampNeg + a.toNatClampNeg ≤ ln0 e ∧ b.toNatClampNeg + a.toNatClampNeg ≤ ln0 c)) ∧ Wp (d + 1) 26 26 L [] (upr M c (va_cpy (M e) (M c) d2.toNatClampNeg b.toNatClampNeg a.toNatClampNeg)) Q)) ∧
    (∀ (d : Nat) (x : Nat) (L : List Value) (M : Mem) (Q : Option Value → Mem → Prop), Wp d 26 26 (.ref x :: L) [] M Q ↔ Wp d 26 27 (.ref x :: L) [.ref x] M Q) ∧
    (∀ (d : Nat) (a : Nat) (L : List Value) (M : Mem) (Q : Option Value → Mem → Prop), Wp d 26 27 L [.ref a] M Q ↔ (isK a 6 = true ∧ Wp d 26 30 L [.ref (rt a 1)] M Q)) ∧
    (∀ (d : Nat) (a : Nat) (L : List Value) (M : Mem) (Q : Option Value → Mem → Prop), Wp d 26 30 L [.ref a] M Q ↔ Wp d 26 31 L [.int 0, .ref a] M Q) ∧
    (∀ (d : Nat) (a : Int32) (b : Nat) (v0 : Value) (x : Nat) (L : List Value) (M : Mem) (Q : Option Value → Mem → Prop), Wp d 26 31 (v0 :: .ref x :: L) [.int a, .ref b] M Q ↔ Wp d 26 32 (v0 :: .ref x :: L) [.ref x, .int a, .ref b] M Q) ∧
    (∀ (d : Nat) (a : Nat) (b : Int32) (c : Nat) (v0 : Value) (v1 : Value) (x : Int32) (L : List Value) (M : Mem) (Q : Option Value → Mem → Prop), Wp d 26 32 (v0 :: v1 :: .int x :: L) [.ref a, .int b, .ref c] M Q ↔ Wp d 26 33 (v0 :: v1 :: .int x :: L) [.int x, .ref a, .int b, .ref c] M Q) ∧
    (∀ (d : Nat) (a : Int32) (b : Nat) (c : Int32) (d2 : Nat) (L : List Value) (M : Mem) (Q : Option Value → Mem → Prop), Wp d 26 33 L [.int a, .ref b, .int c, .ref d2] M Q ↔ Wp d 26 35 L [.int 6, .int a, .ref b, .int c, .ref d2] M Q) ∧
    (∀ (d : Nat) (a : Int32) (b : Int32) (c : Nat) (d2 : Int32) (e : Nat) (L : List Value) (M : Mem) (Q : Option Value → Mem → Prop), Wp d 26 35 L [.int a, .int b, .ref c, .int d2, .ref e] M Q ↔ Wp d 26 36 L [.int (b + a), .ref c, .int d2, .ref e] M Q) ∧
    (∀ (d : Nat) (a : Int32) (b : Nat) (c : Int32) (d2 : Nat) (L : List Value) (M : Mem) (Q : Option Value → Mem → Prop), Wp d 26 36 L [.int a, .ref b, .int c, .ref d2] M Q ↔ Wp d 26 38 L [.int 6, .int a, .ref b, .int c, .ref d2] M Q) ∧
    (∀ (d : Nat) (a : Int32) (b : Int32) (c : Nat) (d2 : Int32) (e : Nat) (L : List Value) (M : Mem) (Q : Option Value → Mem → Prop), Wp (d + 1) 26 38 L [.int a, .int b, .ref c, .int d2, .ref e] M Q ↔ (((isK e 13 = true ∧ isK c 13 = true) ∧ ((¬ d2 < 0 ∧ ¬ b < 0 ∧ ¬ a < 0) ∧ d2.toNatClampNeg + a.toNatClampNeg ≤ ln0 e ∧ b.toNatClampNeg + a.toNatClampNeg ≤ ln0 c)) ∧ Wp (d + 1) 26 41 L [] (upr M c (va_cpy (M e) (M c) d2.toNatClampNeg b.toNatClampNeg a.toNatClampNeg)) Q)) ∧
    (∀ (d : Nat) (x : Nat) (L : List Value) (M : Mem) (Q : Option Value → Mem → Prop), Wp d 26 41 (.ref x :: L) [] M Q ↔ Wp d 26 42 (.ref x :: L) [.ref x] M Q) ∧
    (∀ (d : Nat) (a : Nat) (L : List Value) (M : Mem) (Q : Option Value → Mem → Prop), Wp d 26 42 L [.ref a] M Q ↔ (isK a 6 = true ∧ Wp d 26 45 L [.ref (rt a 2)] M Q)) ∧
    (∀ (d : Nat) (a : Nat) (L : List Value) (M : Mem) (Q : Option Value → Mem → Prop), Wp d 26 45 L [.ref a] M Q ↔ (isK a 2 = true ∧ Wp d 26 48 L [.ref (rt a 0)] M Q)) ∧
    (∀ (d : Nat) (a : Nat) (L : List Value) (M : Mem) (Q : Option Value → Mem → Prop), Wp d 26 48 L [.ref a] M Q ↔ Wp d 26 49 L [.int 0, .ref a] M Q) ∧
    (∀ (d : Nat) (a : Int32) (b : Nat) (v0 : Value) (x : Nat) (L : List Value) (M : Mem) (Q : Option Value → Mem → Prop), Wp d 26 49 (v0 :: .ref x :: L) [.int a, .ref b] M Q ↔ Wp d 26 50 (v0 :: .ref x :: L) [.ref x, .int a, .ref b] M Q) ∧
    (∀ (d : Nat) (a : Nat) (b : Int32) (c : Nat) (v0 : Value) (v1 : Value) (x : Int32) (L : List Value) (M : Mem) (Q : Option Value → Mem → Prop), Wp d 26 50 (v0 :: v1 :: .int x :: L) [.ref a, .int b, .ref c] M Q ↔ Wp d 26 51 (v0 :: v1 :: .int x :: L) [.int x, .ref a, .int b, .ref c] M Q) ∧
    (∀ (d : Nat) (a : Int32) (b : Nat) (c : Int32) (d2 : Nat) (L : List Value) (M : Mem) (Q : Option Value → Mem → Prop), Wp d 26 51 L [.int a, .ref b, .int c, .ref d2] M Q ↔ Wp d 26 53 L [.int 12, .int a, .ref b, .int c, .ref d2] M Q) ∧
    (∀ (d : Nat) (a : Int32) (b : Int32) (c : Nat) (d2 : Int32) (e : Nat) (L : List Value) (M : Mem) (Q : Option Value → Mem → Prop), Wp d 26 53 L [.int a, .int b, .ref c, .int d2, .ref e] M Q ↔ Wp d 26 54 L [.int (b + a), .ref c, .int d2, .ref e] M Q) ∧
    (∀ (d : Nat) (a : Int32) (b : Nat) (c : Int32) (d2 : Nat) (L : List Value) (M : Mem) (Q : Option Value → Mem → Prop), Wp d 26 54 L [.int a, .ref b, .int c, .ref d2] M Q ↔ Wp d 26 56 L [.int 36, .int a, .ref b, .int c, .ref d2] M Q) ∧
    (∀ (d : Nat) (a : Int32) (b : Int32) (c : Nat) (d2 : Int32) (e : Nat) (L : List Value) (M : Mem) (Q : Option Value → Mem → Prop), Wp (d + 1) 26 56 L [.int a, .int b, .ref c, .int d2, .ref e] M Q ↔ (((isK e 13 = true ∧ isK c 13 = true) ∧ ((¬ d2 < 0 ∧ ¬ b < 0 ∧ ¬ a < 0) ∧ d2.toNatClampNeg + a.toNatClampNeg ≤ ln0 e ∧ b.toNatClampNeg + a.toNatClampNeg ≤ ln0 c)) ∧ Wp (d + 1) 26 59 L [] (upr M c (va_cpy (M e) (M c) d2.toNatClampNeg b.toNatClampNeg a.toNatClampNeg)) Q)) ∧
    (∀ (d : Nat) (v0 : Value) (v1 : Value) (x : Int32) (L : List Value) (M : Mem) (Q : Option Value → Mem → Prop), Wp d 26 59 (v0 :: v1 :: .int x :: L) [] M Q ↔ Wp d 26 60 (v0 :: v1 :: .int x :: L) [.int x] M Q) ∧
    (∀ (d : Nat) (a : Int32) (L : List Value) (M : Mem) (Q : Option Value → Mem → Prop), Wp d 26 60 L [.int a] M Q ↔ Wp d 26 62 L [.int 12, .int a] M Q) ∧
    (∀ (d : Nat) (a : Int32) (b : Int32) (L : List Value) (M : Mem) (Q : Option Value → Mem → Prop), Wp d 26 62 L [.int a, .int b] M Q ↔ Wp d 26 63 L [.int (b + a)] M Q) ∧
    (∀ (d : Nat) (a : Int32) (L : List Value) (M : Mem) (Q : Option Value → Mem → Prop), Wp d 26 63 L [.int a] M Q ↔ Wp d 26 65 L [.int 36, .int a] M Q) ∧
    (∀ (d : Nat) (a : Int32) (b : Int32) (L : List Value) (M : Mem) (Q : Option Value → Mem → Prop), Wp d 26 65 L [.int a, .int b] M Q ↔ Wp d 26 66 L [.int (b + a)] M Q) ∧
    (∀ (d : Nat) (a : Int32) (v0 : Value) (v1 : Value) (v2 : Value) (x : Value) (L : List Value) (M : Mem) (Q : Option Value → Mem → Prop), Wp d 26 66 (v0 :: v1 :: v2 :: x :: L) [.int a] M Q ↔ Wp d 26 67 (v0 :: v1 :: clr v2 :: .int a :: L) [] M Q) ∧
    (∀ (d : Nat) (v0 : Value) (x : Nat) (L : List Value) (M : Mem) (Q : Option Value → Mem → Prop), Wp d 26 67 (v0 :: .ref x :: L) [] M Q ↔ Wp d 26 68 (v0 :: .ref x :: L) [.ref x] M Q) ∧
    (∀ (d : Nat) (a : Nat) (v0 : Value) (v1 : Value) (v2 : Value) (x : Int32) (L : List Value) (M : Mem) (Q : Option Value → Mem → Prop), Wp d 26 68 (v0 :: v1 :: v2 :: .int x :: L) [.ref a] M Q ↔ Wp d 26 69 (v0 :: v1 :: v2 :: .int x :: L) [.int x, .ref a] M Q) ∧
    (∀ (d : Nat) (a : Int32) (b : Nat) (x : Nat) (L : List Value) (M : Mem) (Q : Option Value → Mem → Prop), Wp d 26 69 (.ref x :: L) [.int a, .ref b] M Q ↔ Wp d 26 70 (.ref x :: L) [.ref x, .int a, .ref b] M Q) ∧
    (∀ (d : Nat) (a : Nat) (b : Int32) (c : Nat) (L : List Value) (M : Mem) (Q : Option Value → Mem → Prop), Wp d 26 70 L [.ref a, .int b, .ref c] M Q ↔ (isK a 6 = true ∧ Wp d 26 73 L [.int (M a 3), .int b, .ref c] M Q)) ∧
    (∀ (d : Nat) (a : Int32) (b : Int32) (c : Nat) (L : List Value) (M : Mem) (Q : Option Value → Mem → Prop), Wp d 26 73 L [.int a, .int b, .ref c] M Q ↔ ((isK c 13 = true ∧ inr b (lnm M c)) ∧ Wp d 26 74 L [] (up2 M c b.toNatClampNeg a) Q)) ∧
    (∀ (d : Nat) (v0 : Value) (x : Nat) (L : List Value) (M : Mem) (Q : Option Value → Mem → Prop), Wp d 26 74 (v0 :: .ref x :: L) [] M Q ↔ Wp d 26 75 (v0 :: .ref x :: L) [.ref x] M Q) ∧
    (∀ (d : Nat) (a : Nat) (v0 : Value) (v1 : Value) (v2 : Value) (x : Int32) (L : List Value) (M : Mem) (Q : Option Value → Mem → Prop), Wp d 26 75 (v0 :: v1 :: v2 :: .int x :: L) [.ref a] M Q ↔ Wp d 26 76 (v0 :: v1 :: v2 :: .int x :: L) [.int x, .ref a] M Q) ∧
    (∀ (d : Nat) (a : Int32) (b : Nat) (L : List Value) (M : Mem) (Q : Option Value → Mem → Prop), Wp d 26 76 L [.int a, .ref b] M Q ↔ Wp d 26 77 L [.int 1, .int a, .ref b] M Q) ∧
    (∀ (d : Nat) (a : Int32) (b : Int32) (c : Nat) (L : List Value) (M : Mem) (Q : Option Value → Mem → Prop), Wp d 26 77 L [.int a, .int b, .ref c] M Q ↔ Wp d 26 78 L [.int (b + a), .ref c] M Q) ∧
    (∀ (d : Nat) (a : Int32) (b : Nat) (x : Nat) (L : List Value) (M : Mem) (Q : Option Value → Mem → Prop), Wp d 26 78 (.ref x :: L) [.int a, .ref b] M Q ↔ Wp d 26 79 (.ref x :: L) [.ref x, .int a, .ref b] M Q) ∧
    (∀ (d : Nat) (a : Nat) (b : Int32) (c : Nat) (L : List Value) (M : Mem) (Q : Option Value → Mem → Prop), Wp d 26 79 L [.ref a, .int b, .ref c] M Q ↔ (isK a 6 = true ∧ Wp d 26 82 L [.int (M a 4), .int b, .ref c] M Q)) ∧
    (∀ (d : Nat) (a : Int32) (b : Int32) (c : Nat) (L : List Value) (M : Mem) (Q : Option Value → Mem → Prop), Wp d 26 82 L [.int a, .int b, .ref c] M Q ↔ ((isK c 13 = true ∧ inr b (lnm M c)) ∧ Wp d 26 83 L [] (up2 M c b.toNatClampNeg a) Q)) ∧
    (∀ (d : Nat) (v0 : Value) (x : Nat) (L : List Value) (M : Mem) (Q : Option Value → Mem → Prop), Wp d 26 83 (v0 :: .ref x :: L) [] M Q ↔ Wp d 26 84 (v0 :: .ref x :: L) [.ref x] M Q) ∧
    (∀ (d : Nat) (a : Nat) (v0 : Value) (v1 : Value) (v2 : Value) (x : Int32) (L : List Value) (M : Mem) (Q : Option Value → Mem → Prop), Wp d 26 84 (v0 :: v1 :: v2 :: .int x :: L) [.ref a] M Q ↔ Wp d 26 85 (v0 :: v1 :: v2 :: .int x :: L) [.int x, .ref a] M Q) ∧
    (∀ (d : Nat) (a : Int32) (b : Nat) (L : List Value) (M : Mem) (Q : Option Value → Mem → Prop), Wp d 26 85 L [.int a, .ref b] M Q ↔ Wp d 26 86 L [.int 2, .int a, .ref b] M Q) ∧
    (∀ (d : Nat) (a : Int32) (b : Int32) (c : Nat) (L : List Value) (M : Mem) (Q : Option Value → Mem → Prop), Wp d 26 86 L [.int a, .int b, .ref c] M Q ↔ Wp d 26 87 L [.int (b + a), .ref c] M Q) ∧
    (∀ (d : Nat) (a : Int32) (b : Nat) (x : Nat) (L : List Value) (M : Mem) (Q : Option Value → Mem → Prop), Wp d 26 87 (.ref x :: L) [.int a, .ref b] M Q ↔ Wp d 26 88 (.ref x :: L) [.ref x, .int a, .ref b] M Q) ∧
    (∀ (d : Nat) (a : Nat) (b : Int32) (c : Nat) (L : List Value) (M : Mem) (Q : Option Value → Mem → Prop), Wp d 26 88 L [.ref a, .int b, .ref c] M Q ↔ (isK a 6 = true ∧ Wp d 26 91 L [.int (M a 5), .int b, .ref c] M Q)) ∧
    (∀ (d : Nat) (a : Int32) (b : Int32) (c : Nat) (L : List Value) (M : Mem) (Q : Option Value → Mem → Prop), Wp d 26 91 L [.int a, .int b, .ref c] M Q ↔ ((isK c 13 = true ∧ inr b (lnm M c)) ∧ Wp d 26 92 L [] (up2 M c b.toNatClampNeg a) Q)) := by
  refine ⟨?_, ?_, ?_, ?_, ?_, ?_, ?_, ?_, ?_, ?_, ?_, ?_, ?_, ?_, ?_, ?_, ?_, ?_, ?_, ?_, ?_, ?_, ?_, ?_, ?_, ?_, ?_, ?_, ?_, ?_, ?_, ?_, ?_, ?_, ?_, ?_, ?_, ?_, ?_, ?_, ?_, ?_, ?_, ?_, ?_, ?_, ?_, ?_, ?_, ?_, ?_, ?_, ?_, ?_, ?_, ?_, ?_, ?_, ?_, ?_⟩
  · intro d v0 v1 x L M Q; exact Wp_sim (by decide +kernel : decode (cd 26) 0 = .ok (.iload_n 2, 1)) rfl rfl
  · intro d a L M Q; exact q_zlt (by decide +kernel : decode (cd 26) 1 = .ok (.ifCond .lt 12, 3)) (by decide)
  · intro d v0 v1 x L M Q; exact Wp_sim (by decide +kernel : decode (cd 26) 4 = .ok (.iload_n 2, 1)) rfl rfl
  · intro d a v0 x L M Q; exact Wp_sim (by decide +kernel : decode (cd 26) 5 = .ok (.aload_n 1, 1)) rfl rfl
  · intro d a b L M Q; exact q_aln (by decide +kernel : decode (cd 26) 6 = .ok (.arraylength , 1))
  · intro d a b L M Q; exact Wp_sim (by decide +kernel : decode (cd 26) 7 = .ok (.bipush 51, 2)) rfl rfl
  · intro d a b c L M Q; exact Wp_sim (by decide +kernel : decode (cd 26) 9 = .ok (.isub , 1)) rfl rfl
  · intro d a b L M Q; exact q_ile (by decide +kernel : decode (cd 26) 10 = .ok (.if_icmp .le 4, 3)) (by decide)
  · intro d L M Q; exact q_vret (by decide +kernel : decode (cd 26) 13 = .ok (.return_ , 1)) (by decide +kernel)
  · intro d x L M Q; exact Wp_sim (by decide +kernel : decode (cd 26) 14 = .ok (.aload_n 0, 1)) rfl rfl
  · intro d a L M Q; exact q_getR (p := 164) (by decide +kernel : decode (cd 26) 15 = .ok (.getfield 11, 3)) (by decide +kernel) (by decide +kernel)
  · intro d a L M Q; exact Wp_sim (by decide +kernel : decode (cd 26) 18 = .ok (.iconst 0, 1)) rfl rfl
  · intro d a b v0 x L M Q; exact Wp_sim (by decide +kernel : decode (cd 26) 19 = .ok (.aload_n 1, 1)) rfl rfl
  · intro d a b c v0 v1 x L M Q; exact Wp_sim (by decide +kernel : decode (cd 26) 20 = .ok (.iload_n 2, 1)) rfl rfl
  · intro d a b c d2 L M Q; exact Wp_sim (by decide +kernel : decode (cd 26) 21 = .ok (.bipush 6, 2)) rfl rfl
  · intro d a b c d2 e L M Q; exact q_cpy (p := 556) (by decide +kernel : decode (cd 26) 23 = .ok (.invokestatic 44, 3)) (by decide +kernel) (by decide +kernel) (by decide +kernel) (Nat.le_of_ble_eq_true rfl)
  · intro d x L M Q; exact Wp_sim (by decide +kernel : decode (cd 26) 26 = .ok (.aload_n 0, 1)) rfl rfl
  · intro d a L M Q; exact q_getR (p := 168) (by decide +kernel : decode (cd 26) 27 = .ok (.getfield 17, 3)) (by decide +kernel) (by decide +kernel)
  · intro d a L M Q; exact Wp_sim (by decide +kernel : decode (cd 26) 30 = .ok (.iconst 0, 1)) rfl rfl
  · intro d a b v0 x L M Q; exact Wp_sim (by decide +kernel : decode (cd 26) 31 = .ok (.aload_n 1, 1)) rfl rfl
  · intro d a b c v0 v1 x L M Q; exact Wp_sim (by decide +kernel : decode (cd 26) 32 = .ok (.iload_n 2, 1)) rfl rfl
  · intro d a b c d2 L M Q; exact Wp_sim (by decide +kernel : decode (cd 26) 33 = .ok (.bipush 6, 2)) rfl rfl
  · intro d a b c d2 e L M Q; exact Wp_sim (by decide +kernel : decode (cd 26) 35 = .ok (.iadd , 1)) rfl rfl
  · intro d a b c d2 L M Q; exact Wp_sim (by decide +kernel : decode (cd 26) 36 = .ok (.bipush 6, 2)) rfl rfl
  · intro d a b c d2 e L M Q; exact q_cpy (p := 556) (by decide +kernel : decode (cd 26) 38 = .ok (.invokestatic 44, 3)) (by decide +kernel) (by decide +kernel) (by decide +kernel) (Nat.le_of_ble_eq_true rfl)
  · intro d x L M Q; exact Wp_sim (by decide +kernel : decode (cd 26) 41 = .ok (.aload_n 0, 1)) rfl rfl
  · intro d a L M Q; exact q_getR (p := 171) (by decide +kernel : decode (cd 26) 42 = .ok (.getfield 21, 3)) (by decide +kernel) (by decide +kernel)
  · intro d a L M Q; exact q_getR (p := 160) (by decide +kernel : decode (cd 26) 45 = .ok (.getfield 31, 3)) (by decide +kernel) (by decide +kernel)
  · intro d a L M Q; exact Wp_sim (by decide +kernel : decode (cd 26) 48 = .ok (.iconst 0, 1)) rfl rfl
  · intro d a b v0 x L M Q; exact Wp_sim (by decide +kernel : decode (cd 26) 49 = .ok (.aload_n 1, 1)) rfl rfl
  · intro d a b c v0 v1 x L M Q; exact Wp_sim (by decide +kernel : decode (cd 26) 50 = .ok (.iload_n 2, 1)) rfl rfl
  · intro d a b c d2 L M Q; exact Wp_sim (by decide +kernel : decode (cd 26) 51 = .ok (.bipush 12, 2)) rfl rfl
  · intro d a b c d2 e L M Q; exact Wp_sim (by decide +kernel : decode (cd 26) 53 = .ok (.iadd , 1)) rfl rfl
  · intro d a b c d2 L M Q; exact Wp_sim (by decide +kernel : decode (cd 26) 54 = .ok (.bipush 36, 2)) rfl rfl
  · intro d a b c d2 e L M Q; exact q_cpy (p := 556) (by decide +kernel : decode (cd 26) 56 = .ok (.invokestatic 44, 3)) (by decide +kernel) (by decide +kernel) (by decide +kernel) (Nat.le_of_ble_eq_true rfl)
  · intro d v0 v1 x L M Q; exact Wp_sim (by decide +kernel : decode (cd 26) 59 = .ok (.iload_n 2, 1)) rfl rfl
  · intro d a L M Q; exact Wp_sim (by decide +kernel : decode (cd 26) 60 = .ok (.bipush 12, 2)) rfl rfl
  · intro d a b L M Q; exact Wp_sim (by decide +kernel : decode (cd 26) 62 = .ok (.iadd , 1)) rfl rfl
  · intro d a L M Q; exact Wp_sim (by decide +kernel : decode (cd 26) 63 = .ok (.bipush 36, 2)) rfl rfl
  · intro d a b L M Q; exact Wp_sim (by decide +kernel : decode (cd 26) 65 = .ok (.iadd , 1)) rfl rfl
  · intro d a v0 v1 v2 x L M Q; exact Wp_sim (by decide +kernel : decode (cd 26) 66 = .ok (.istore_n 3, 1)) rfl rfl
  · intro d v0 x L M Q; exact Wp_sim (by decide +kernel : decode (cd 26) 67 = .ok (.aload_n 1, 1)) rfl rfl
  · intro d a v0 v1 v2 x L M Q; exact Wp_sim (by decide +kernel : decode (cd 26) 68 = .ok (.iload_n 3, 1)) rfl rfl
  · intro d a b x L M Q; exact Wp_sim (by decide +kernel : decode (cd 26) 69 = .ok (.aload_n 0, 1)) rfl rfl
  · intro d a b c L M Q; exact q_getI (p := 174) (by decide +kernel : decode (cd 26) 70 = .ok (.getfield 34, 3)) (by decide +kernel) (by decide +kernel)
  · intro d a b c L M Q; exact q_ast (by decide +kernel : decode (cd 26) 73 = .ok (.iastore , 1))
  · intro d v0 x L M Q; exact Wp_sim (by decide +kernel : decode (cd 26) 74 = .ok (.aload_n 1, 1)) rfl rfl
  · intro d a v0 v1 v2 x L M Q; exact Wp_sim (by decide +kernel : decode (cd 26) 75 = .ok (.iload_n 3, 1)) rfl rfl
  · intro d a b L M Q; exact Wp_sim (by decide +kernel : decode (cd 26) 76 = .ok (.iconst 1, 1)) rfl rfl
  · intro d a b c L M Q; exact Wp_sim (by decide +kernel : decode (cd 26) 77 = .ok (.iadd , 1)) rfl rfl
  · intro d a b x L M Q; exact Wp_sim (by decide +kernel : decode (cd 26) 78 = .ok (.aload_n 0, 1)) rfl rfl
  · intro d a b c L M Q; exact q_getI (p := 177) (by decide +kernel : decode (cd 26) 79 = .ok (.getfield 38, 3)) (by decide +kernel) (by decide +kernel)
  · intro d a b c L M Q; exact q_ast (by decide +kernel : decode (cd 26) 82 = .ok (.iastore , 1))
  · intro d v0 x L M Q; exact Wp_sim (by decide +kernel : decode (cd 26) 83 = .ok (.aload_n 1, 1)) rfl rfl
  · intro d a v0 v1 v2 x L M Q; exact Wp_sim (by decide +kernel : decode (cd 26) 84 = .ok (.iload_n 3, 1)) rfl rfl
  · intro d a b L M Q; exact Wp_sim (by decide +kernel : decode (cd 26) 85 = .ok (.iconst 2, 1)) rfl rfl
  · intro d a b c L M Q; exact Wp_sim (by decide +kernel : decode (cd 26) 86 = .ok (.iadd , 1)) rfl rfl
  · intro d a b x L M Q; exact Wp_sim (by decide +kernel : decode (cd 26) 87 = .ok (.aload_n 0, 1)) rfl rfl
  · intro d a b c L M Q; exact q_getI (p := 180) (by decide +kernel : decode (cd 26) 88 = .ok (.getfield 41, 3)) (by decide +kernel) (by decide +kernel)
  · intro d a b c L M Q; exact q_ast (by decide +kernel : decode (cd 26) 91 = .ok (.iastore , 1))
set_option maxRecDepth 10000 in
theorem e26_1 : (∀ (d : Nat) (L : List Value) (M : Mem) (Q : Option Value → Mem → Prop), Wp d 26 92 L [] M Q ↔ Q none M) := by
  · intro d L M Q; exact q_vret (by decide +kernel : decode (cd 26) 92 = .ok (.return_ , 1)) (by decide +kernel)

/- 27: Life.unpackFrom -/
set_option maxRecDepth 10000 in
theorem e27_0 : (∀ (d : Nat) (v0 : Value) (v1 : Value) (x : Int32) (L : List Value) (M : Mem) (Q : Option Value → Mem → Prop), Wp d 27 0 (v0 :: v1 :: .int x :: L) [] M Q ↔ Wp d 27 1 (v0 :: v1 :: .int x :: L) [.int x] M Q) ∧
    (∀ (d : Nat) (a : Int32) (L : List Value) (M : Mem) (Q : Option Value → Mem → Prop), Wp d 27 1 L [.int a] M Q ↔ (if a < 0 then Wp d 27 13 L [] M Q else Wp d 27 4 L [] M Q)) ∧
    (∀ (d : Nat) (v0 : Value) (v1 : Value) (x : Int32) (L : List Value) (M : Mem) (Q : Option Value → Mem → Prop), Wp d 27 4 (v0 :: v1 :: .int x :: L) [] M Q ↔ Wp d 27 5 (v0 :: v1 :: .int x :: L) [.int x] M Q) ∧
    (∀ (d : Nat) (a : Int32) (v0 : Value) (x : Nat) (L : List Value) (M : Mem) (Q : Option Value → Mem → Prop), Wp d 27 5 (v0 :: .ref x :: L) [.int a] M Q ↔ Wp d 27 6 (v0 :: .ref x :: L) [.ref x, .int a] M Q) ∧
    (∀ (d : Nat) (a : Nat) (b : Int32) (L : List Value) (M : Mem) (Q : Option Value → Mem → Prop), Wp d 27 6 L [.ref a, .int b] M Q ↔ ((isR a = true ∨ isK a 14 = true) ∧ Wp d 27 7 L [.int (nI (lnm M a)), .int b] M Q)) ∧
    (∀ (d : Nat) (a : Int32) (b : Int32) (L : List Value) (M : Mem) (Q : Option Value → Mem → Prop), Wp d 27 7 L [.int a, .int b] M Q ↔ Wp d 27 9 L [.int 51, .int a, .int b] M Q) ∧
    (∀ (d : Nat) (a : Int32) (b : Int32) (c : Int32) (L : List Value) (M : Mem) (Q : Option Value → Mem → Prop), Wp d 27 9 L [.int a, .int b, .int c] M Q ↔ Wp d 27 10 L [.int (b - a), .int c] M Q) ∧
    (∀ (d : Nat) (a : Int32) (b : Int32) (L : List Value) (M : Mem) (Q : Option Value → Mem → Prop), Wp d 27 10 L [.int a, .int b] M Q ↔ (if a < b then Wp d 27 13 L [] M Q else Wp d 27 14 L [] M Q)) ∧
    (∀ (d : Nat) (L : List Value) (M : Mem) (Q : Option Value → Mem → Prop), Wp d 27 13 L [] M Q ↔ Q none M) ∧
    (∀ (d : Nat) (v0 : Value) (x : Nat) (L : List Value) (M : Mem) (Q : Option Value → Mem → Prop), Wp d 27 14 (v0 :: .ref x :: L) [] M Q ↔ Wp d 27 15 (v0 :: .ref x :: L) [.ref x] M Q) ∧
    (∀ (d : Nat) (a : Nat) (v0 : Value) (v1 : Value) (x : Int32) (L : List Value) (M : Mem) (Q : Option Value → Mem → Prop), Wp d 27 15 (v0 :: v1 :: .int x :: L) [.ref a] M Q ↔ Wp d 27 16 (v0 :: v1 :: .int x :: L) [.int x, .ref a] M Q) ∧
    (∀ (d : Nat) (a : Int32) (b : Nat) (x : Nat) (L : List Value) (M : Mem) (Q : Option Value → Mem → Prop), Wp d 27 16 (.ref x :: L) [.int a, .ref b] M Q ↔ Wp d 27 17 (.ref x :: L) [.ref x, .int a, .ref b] M Q) ∧
    (∀ (d : Nat) (a : Nat) (b : Int32) (c : Nat) (L : List Value) (M : Mem) (Q : Option Value → Mem → Prop), Wp d 27 17 L [.ref a, .int b, .ref c] M Q ↔ (isK a 6 = true ∧ Wp d 27 20 L [.ref (rt a 0), .int b, .ref c] M Q)) ∧
    (∀ (d : Nat) (a : Nat) (b : Int32) (c : Nat) (L : List Value) (M : Mem) (Q : Option Value → Mem → Prop), Wp d 27 20 L [.ref a, .int b, .ref c] M Q ↔ Wp d 27 21 L [.int 0, .ref a, .int b, .ref c] M Q) ∧
    (∀ (d : Nat) (a : Int32) (b : Nat) (c : Int32) (d2 : Nat) (L : List Value) (M : Mem) (Q : Option Value → Mem → Prop), Wp d 27 21 L [.int a, .ref b, .int c, .ref d2] M Q ↔ Wp d 27 23 L [.int 6, .int a, .ref b, .int c, .ref d2] M Q) ∧
    (∀ (d : Nat) (a : Int32) (b : Int32) (c : Nat) (d2 : Int32) (e : Nat) (L : List Value) (M : Mem) (Q : Option Value → Mem → Prop), Wp (d + 1) 27 23 L [.int a, .int b, .ref c, .int d2, .ref e] M Q ↔ (((isK e 13 = true ∧ isK c 13 = true) ∧ ((¬ d2 < 0 ∧ ¬ b < 0 ∧ ¬ a < 0) ∧ d2.toNatClampNeg + a.toNatClampNeg ≤ ln0 e ∧ b.toNatClampNeg + a.toNatClampNeg ≤ ln0 c)) ∧ Wp (d + 1) 27 26 L [] (upr M c (va_cpy (M e) (M c) d2.toNatClampNeg b.toNatClampNeg a.toNatClampNeg)) Q)) ∧
    (∀ (d : Nat) (v0 : Value) (x : Nat) (L : List Value) (M : Mem) (Q : Option Value → Mem → Prop), Wp d 27 26 (v0 :: .ref x :: L) [] M Q ↔ Wp d 27 27 (v0 :: .ref x :: L) [.ref x] M Q) ∧
    (∀ (d : Nat) (a : Nat) (v0 : Value) (v1 : Value) (x : Int32) (L : List Value) (M : Mem) (Q : Option Value → Mem → Prop), Wp d 27 27 (v0 :: v1 :: .int x :: L) [.ref a] M Q ↔ Wp d 27 28 (v0 :: v1 :: .int x :: L) [.int x, .ref a] M Q) ∧
    (∀ (d : Nat) (a : Int32) (b : Nat) (L : List Value) (M : Mem) (Q : Option Value → Mem → Prop), Wp d 27 28 L [.int a, .ref b] M Q ↔ Wp d 27 30 L [.int 6, .int a, .ref b] M Q) ∧
    (∀ (d : Nat) (a : Int32) (b : Int32) (c : Nat) (L : List Value) (M : Mem) (Q : Option Value → Mem → Prop), Wp d 27 30 L [.int a, .int b, .ref c] M Q ↔ Wp d 27 31 L [.int (b + a), .ref c] M Q) ∧
    (∀ (d : Nat) (a : Int32) (b : Nat) (x : Nat) (L : List Value) (M : Mem) (Q : Option Value → Mem → Prop), Wp d 27 31 (.ref x :: L) [.int a, .ref b] M Q ↔ Wp d 27 32 (.ref x :: L) [.ref x, .int a, .ref b] M Q) ∧
    (∀ (d : Nat) (a : Nat) (b : Int32) (c : Nat) (L : List Value) (M : Mem) (Q : Option Value → Mem → Prop), Wp d 27 32 L [.ref a, .int b, .ref c] M Q ↔ (isK a 6 = true ∧ Wp d 27 35 L [.ref (rt a 1), .int b, .ref c] M Q)) ∧
    (∀ (d : Nat) (a : Nat) (b : Int32) (c : Nat) (L : List Value) (M : Mem) (Q : Option Value → Mem → Prop), Wp d 27 35 L [.ref a, .int b, .ref c] M Q ↔ Wp d 27 36 L [.int 0, .ref a, .int b, .ref c] M Q) ∧
    (∀ (d : Nat) (a : Int32) (b : Nat) (c : Int32) (d2 : Nat) (L : List Value) (M : Mem) (Q : Option Value → Mem → Prop), Wp d 27 36 L [.int a, .ref b, .int c, .ref d2] M Q ↔ Wp d 27 38 L [.int 6, .int a, .ref b, .int c, .ref d2] M Q) ∧
    (∀ (d : Nat) (a : Int32) (b : Int32) (c : Nat) (d2 : Int32) (e : Nat) (L : List Value) (M : Mem) (Q : Option Value → Mem → Prop), Wp (d + 1) 27 38 L [.int a, .int b, .ref c, .int d2, .ref e] M Q ↔ (((isK e 13 = true ∧ isK c 13 = true) ∧ ((¬ d2 < 0 ∧ ¬ b < 0 ∧ ¬ a < 0) ∧ d2.toNatClampNeg + a.toNatClampNeg ≤ ln0 e ∧ b.toNatClampNeg + a.toNatClampNeg ≤ ln0 c)) ∧ Wp (d + 1) 27 41 L [] (upr M c (va_cpy (M e) (M c) d2.toNatClampNeg b.toNatClampNeg a.toNatClampNeg)) Q)) ∧
    (∀ (d : Nat) (v0 : Value) (x : Nat) (L : List Value) (M : Mem) (Q : Option Value → Mem → Prop), Wp d 27 41 (v0 :: .ref x :: L) [] M Q ↔ Wp d 27 42 (v0 :: .ref x :: L) [.ref x] M Q) ∧
    (∀ (d : Nat) (a : Nat) (v0 : Value) (v1 : Value) (x : Int32) (L : List Value) (M : Mem) (Q : Option Value → Mem → Prop), Wp d 27 42 (v0 :: v1 :: .int x :: L) [.ref a] M Q ↔ Wp d 27 43 (v0 :: v1 :: .int x :: L) [.int x, .ref a] M Q) ∧
    (∀ (d : Nat) (a : Int32) (b : Nat) (L : List Value) (M : Mem) (Q : Option Value → Mem → Prop), Wp d 27 43 L [.int a, .ref b] M Q ↔ Wp d 27 45 L [.int 12, .int a, .ref b] M Q) ∧
    (∀ (d : Nat) (a : Int32) (b : Int32) (c : Nat) (L : List Value) (M : Mem) (Q : Option Value → Mem → Prop), Wp d 27 45 L [.int a, .int b, .ref c] M Q ↔ Wp d 27 46 L [.int (b + a), .ref c] M Q) ∧
    (∀ (d : Nat) (a : Int32) (b : Nat) (x : Nat) (L : List Value) (M : Mem) (Q : Option Value → Mem → Prop), Wp d 27 46 (.ref x :: L) [.int a, .ref b] M Q ↔ Wp d 27 47 (.ref x :: L) [.ref x, .int a, .ref b] M Q) ∧
    (∀ (d : Nat) (a : Nat) (b : Int32) (c : Nat) (L : List Value) (M : Mem) (Q : Option Value → Mem → Prop), Wp d 27 47 L [.ref a, .int b, .ref c] M Q ↔ (isK a 6 = true ∧ Wp d 27 50 L [.ref (rt a 2), .int b, .ref c] M Q)) ∧
    (∀ (d : Nat) (a : Nat) (b : Int32) (c : Nat) (L : List Value) (M : Mem) (Q : Option Value → Mem → Prop), Wp d 27 50 L [.ref a, .int b, .ref c] M Q ↔ (isK a 2 = true ∧ Wp d 27 53 L [.ref (rt a 0), .int b, .ref c] M Q)) ∧
    (∀ (d : Nat) (a : Nat) (b : Int32) (c : Nat) (L : List Value) (M : Mem) (Q : Option Value → Mem → Prop), Wp d 27 53 L [.ref a, .int b, .ref c] M Q ↔ Wp d 27 54 L [.int 0, .ref a, .int b, .ref c] M Q) ∧
    (∀ (d : Nat) (a : Int32) (b : Nat) (c : Int32) (d2 : Nat) (L : List Value) (M : Mem) (Q : Option Value → Mem → Prop), Wp d 27 54 L [.int a, .ref b, .int c, .ref d2] M Q ↔ Wp d 27 56 L [.int 36, .int a, .ref b, .int c, .ref d2] M Q) ∧
    (∀ (d : Nat) (a : Int32) (b : Int32) (c : Nat) (d2 : Int32) (e : Nat) (L : List Value) (M : Mem) (Q : Option Value → Mem → Prop), Wp (d + 1) 27 56 L [.int a, .int b, .ref c, .int d2, .ref e] M Q ↔ (((isK e 13 = true ∧ isK c 13 = true) ∧ ((¬ d2 < 0 ∧ ¬ b < 0 ∧ ¬ a < 0) ∧ d2.toNatClampNeg + a.toNatClampNeg ≤ ln0 e ∧ b.toNatClampNeg + a.toNatClampNeg ≤ ln0 c)) ∧ Wp (d + 1) 27 59 L [] (upr M c (va_cpy (M e) (M c) d2.toNatClampNeg b.toNatClampNeg a.toNatClampNeg)) Q)) ∧
    (∀ (d : Nat) (v0 : Value) (v1 : Value) (x : Int32) (L : List Value) (M : Mem) (Q : Option Value → Mem → Prop), Wp d 27 59 (v0 :: v1 :: .int x :: L) [] M Q ↔ Wp d 27 60 (v0 :: v1 :: .int x :: L) [.int x] M Q) ∧
    (∀ (d : Nat) (a : Int32) (L : List Value) (M : Mem) (Q : Option Value → Mem → Prop), Wp d 27 60 L [.int a] M Q ↔ Wp d 27 62 L [.int 12, .int a] M Q) ∧
    (∀ (d : Nat) (a : Int32) (b : Int32) (L : List Value) (M : Mem) (Q : Option Value → Mem → Prop), Wp d 27 62 L [.int a, .int b] M Q ↔ Wp d 27 63 L [.int (b + a)] M Q) ∧
    (∀ (d : Nat) (a : Int32) (L : List Value) (M : Mem) (Q : Option Value → Mem → Prop), Wp d 27 63 L [.int a] M Q ↔ Wp d 27 65 L [.int 36, .int a] M Q) ∧
    (∀ (d : Nat) (a : Int32) (b : Int32) (L : List Value) (M : Mem) (Q : Option Value → Mem → Prop), Wp d 27 65 L [.int a, .int b] M Q ↔ Wp d 27 66 L [.int (b + a)] M Q) ∧
    (∀ (d : Nat) (a : Int32) (v0 : Value) (v1 : Value) (v2 : Value) (x : Value) (L : List Value) (M : Mem) (Q : Option Value → Mem → Prop), Wp d 27 66 (v0 :: v1 :: v2 :: x :: L) [.int a] M Q ↔ Wp d 27 67 (v0 :: v1 :: clr v2 :: .int a :: L) [] M Q) ∧
    (∀ (d : Nat) (x : Nat) (L : List Value) (M : Mem) (Q : Option Value → Mem → Prop), Wp d 27 67 (.ref x :: L) [] M Q ↔ Wp d 27 68 (.ref x :: L) [.ref x] M Q) ∧
    (∀ (d : Nat) (a : Nat) (v0 : Value) (x : Nat) (L : List Value) (M : Mem) (Q : Option Value → Mem → Prop), Wp d 27 68 (v0 :: .ref x :: L) [.ref a] M Q ↔ Wp d 27 69 (v0 :: .ref x :: L) [.ref x, .ref a] M Q) ∧
    (∀ (d : Nat) (a : Nat) (b : Nat) (v0 : Value) (v1 : Value) (v2 : Value) (x : Int32) (L : List Value) (M : Mem) (Q : Option Value → Mem → Prop), Wp d 27 69 (v0 :: v1 :: v2 :: .int x :: L) [.ref a, .ref b] M Q ↔ Wp d 27 70 (v0 :: v1 :: v2 :: .int x :: L) [.int x, .ref a, .ref b] M Q) ∧
    (∀ (d : Nat) (a : Int32) (b : Nat) (c : Nat) (L : List Value) (M : Mem) (Q : Option Value → Mem → Prop), Wp d 27 70 L [.int a, .ref b, .ref c] M Q ↔ ((isR b = true ∧ inr a (lnm M b)) ∧ Wp d 27 71 L [.int (M b a.toNatClampNeg), .ref c] M Q)) ∧
    (∀ (d : Nat) (a : Int32) (b : Nat) (L : List Value) (M : Mem) (Q : Option Value → Mem → Prop), Wp d 27 71 L [.int a, .ref b] M Q ↔ (isK b 6 = true ∧ Wp d 27 74 L [] (up2 M b 3 a) Q)) ∧
    (∀ (d : Nat) (x : Nat) (L : List Value) (M : Mem) (Q : Option Value → Mem → Prop), Wp d 27 74 (.ref x :: L) [] M Q ↔ Wp d 27 75 (.ref x :: L) [.ref x] M Q) ∧
    (∀ (d : Nat) (a : Nat) (v0 : Value) (x : Nat) (L : List Value) (M : Mem) (Q : Option Value → Mem → Prop), Wp d 27 75 (v0 :: .ref x :: L) [.ref a] M Q ↔ Wp d 27 76 (v0 :: .ref x :: L) [.ref x, .ref a] M Q) ∧
    (∀ (d : Nat) (a : Nat) (b : Nat) (v0 : Value) (v1 : Value) (v2 : Value) (x : Int32) (L : List Value) (M : Mem) (Q : Option Value → Mem → Prop), Wp d 27 76 (v0 :: v1 :: v2 :: .int x :: L) [.ref a, .ref b] M Q ↔ Wp d 27 77 (v0 :: v1 :: v2 :: .int x :: L) [.int x, .ref a, .ref b] M Q) ∧
    (∀ (d : Nat) (a : Int32) (b : Nat) (c : Nat) (L : List Value) (M : Mem) (Q : Option Value → Mem → Prop), Wp d 27 77 L [.int a, .ref b, .ref c] M Q ↔ Wp d 27 78 L [.int 1, .int a, .ref b, .ref c] M Q) ∧
    (∀ (d : Nat) (a : Int32) (b : Int32) (c : Nat) (d2 : Nat) (L : List Value) (M : Mem) (Q : Option Value → Mem → Prop), Wp d 27 78 L [.int a, .int b, .ref c, .ref d2] M Q ↔ Wp d 27 79 L [.int (b + a), .ref c, .ref d2] M Q) ∧
    (∀ (d : Nat) (a : Int32) (b : Nat) (c : Nat) (L : List Value) (M : Mem) (Q : Option Value → Mem → Prop), Wp d 27 79 L [.int a, .ref b, .ref c] M Q ↔ ((isR b = true ∧ inr a (lnm M b)) ∧ Wp d 27 80 L [.int (M b a.toNatClampNeg), .ref c] M Q)) ∧
    (∀ (d : Nat) (a : Int32) (b : Nat) (L : List Value) (M : Mem) (Q : Option Value → Mem → Prop), Wp d 27 80 L [.int a, .ref b] M Q ↔ (isK b 6 = true ∧ Wp d 27 83 L [] (up2 M b 4 a) Q)) ∧
    (∀ (d : Nat) (x : Nat) (L : List Value) (M : Mem) (Q : Option Value → Mem → Prop), Wp d 27 83 (.ref x :: L) [] M Q ↔ Wp d 27 84 (.ref x :: L) [.ref x] M Q) ∧
    (∀ (d : Nat) (a : Nat) (v0 : Value) (x : Nat) (L : List Value) (M : Mem) (Q : Option Value → Mem → Prop), Wp d 27 84 (v0 :: .ref x :: L) [.ref a] M Q ↔ Wp d 27 85 (v0 :: .ref x :: L) [.ref x, .ref a] M Q) ∧
    (∀ (d : Nat) (a : Nat) (b : Nat) (v0 : Value) (v1 : Value) (v2 : Value) (x : Int32) (L : List Value) (M : Mem) (Q : Option Value → Mem → Prop), Wp d 27 85 (v0 :: v1 :: v2 :: .int x :: L) [.ref a, .ref b] M Q ↔ Wp d 27 86 (v0 :: v1 :: v2 :: .int x :: L) [.int x, .ref a, .ref b] M Q) ∧
    (∀ (d : Nat) (a : Int32) (b : Nat) (c : Nat) (L : List Value) (M : Mem) (Q : Option Value → Mem → Prop), Wp d 27 86 L [.int a, .ref b, .ref c] M Q ↔ Wp d 27 87 L [.int 2, .int a, .ref b, .ref c] M Q) ∧
    (∀ (d : Nat) (a : Int32) (b : Int32) (c : Nat) (d2 : Nat) (L : List Value) (M : Mem) (Q : Option Value → Mem → Prop), Wp d 27 87 L [.int a, .int b, .ref c, .ref d2] M Q ↔ Wp d 27 88 L [.int (b + a), .ref c, .ref d2] M Q) ∧
    (∀ (d : Nat) (a : Int32) (b : Nat) (c : Nat) (L : List Value) (M : Mem) (Q : Option Value → Mem → Prop), Wp d 27 88 L [.int a, .ref b, .ref c] M Q ↔ ((isR b = true ∧ inr a (lnm M b)) ∧ Wp d 27 89 L [.int (M b a.toNatClampNeg), .ref c] M Q)) ∧
    (∀ (d : Nat) (a : Int32) (b : Nat) (L : List Value) (M : Mem) (Q : Option Value → Mem → Prop), Wp d 27 89 L [.int a, .ref b] M Q ↔ (isK b 6 = true ∧ Wp d 27 92 L [] (up2 M b 5 a) Q)) := by
  refine ⟨?_, ?_, ?_, ?_, ?_, ?_, ?_, ?_, ?_, ?_, ?_, ?_, ?_, ?_, ?_, ?_, ?_, ?_, ?_, ?_, ?_, ?_, ?_, ?_, ?_, ?_, ?_, ?_, ?_, ?_, ?_, ?_, ?_, ?_, ?_, ?_, ?_, ?_, ?_, ?_, ?_, ?_, ?_, ?_, ?_, ?_, ?_, ?_, ?_, ?_, ?_, ?_, ?_, ?_, ?_, ?_, ?_, ?_, ?_, ?_⟩
  · intro d v0 v1 x L M Q; exact Wp_sim (by decide +kernel : decode (cd 27) 0 = .ok (.iload_n 2, 1)) rfl rfl
  · intro d a L M Q; exact q_zlt (by decide +kernel : decode (cd 27) 1 = .ok (.ifCond .lt 12, 3)) (by decide)
  · intro d v0 v1 x L M Q; exact Wp_sim (by decide +kernel : decode (cd 27) 4 = .ok (.iload_n 2, 1)) rfl rfl
  · intro d a v0 x L M Q; exact Wp_sim (by decide +kernel : decode (cd 27) 5 = .ok (.aload_n 1, 1)) rfl rfl
  · intro d a b L M Q; exact q_aln (by decide +kernel : decode (cd 27) 6 = .ok (.arraylength , 1))
  · intro d a b L M Q; exact Wp_sim (by decide +kernel : decode (cd 27) 7 = .ok (.bipush 51, 2)) rfl rfl
  · intro d a b c L M Q; exact Wp_sim (by decide +kernel : decode (cd 27) 9 = .ok (.isub , 1)) rfl rfl
  · intro d a b L M Q; exact q_ile (by decide +kernel : decode (cd 27) 10 = .ok (.if_icmp .le 4, 3)) (by decide)
  · intro d L M Q; exact q_vret (by decide +kernel : decode (cd 27) 13 = .ok (.return_ , 1)) (by decide +kernel)
  · intro d v0 x L M Q; exact Wp_sim (by decide +kernel : decode (cd 27) 14 = .ok (.aload_n 1, 1)) rfl rfl
  · intro d a v0 v1 x L M Q; exact Wp_sim (by decide +kernel : decode (cd 27) 15 = .ok (.iload_n 2, 1)) rfl rfl
  · intro d a b x L M Q; exact Wp_sim (by decide +kernel : decode (cd 27) 16 = .ok (.aload_n 0, 1)) rfl rfl
  · intro d a b c L M Q; exact q_getR (p := 164) (by decide +kernel : decode (cd 27) 17 = .ok (.getfield 11, 3)) (by decide +kernel) (by decide +kernel)
  · intro d a b c L M Q; exact Wp_sim (by decide +kernel : decode (cd 27) 20 = .ok (.iconst 0, 1)) rfl rfl
  · intro d a b c d2 L M Q; exact Wp_sim (by decide +kernel : decode (cd 27) 21 = .ok (.bipush 6, 2)) rfl rfl
  · intro d a b c d2 e L M Q; exact q_cpy (p := 556) (by decide +kernel : decode (cd 27) 23 = .ok (.invokestatic 44, 3)) (by decide +kernel) (by decide +kernel) (by decide +kernel) (Nat.le_of_ble_eq_true rfl)
  · intro d v0 x L M Q; exact Wp_sim (by decide +kernel : decode (cd 27) 26 = .ok (.aload_n 1, 1)) rfl rfl
  · intro d a v0 v1 x L M Q; exact Wp_sim (by decide +kernel : decode (cd 27) 27 = .ok (.iload_n 2, 1)) rfl rfl
  · intro d a b L M Q; exact Wp_sim (by decide +kernel : decode (cd 27) 28 = .ok (.bipush 6, 2)) rfl rfl
  · intro d a b c L M Q; exact Wp_sim (by decide +kernel : decode (cd 27) 30 = .ok (.iadd , 1)) rfl rfl
  · intro d a b x L M Q; exact Wp_sim (by decide +kernel : decode (cd 27) 31 = .ok (.aload_n 0, 1)) rfl rfl
  · intro d a b c L M Q; exact q_getR (p := 168) (by decide +kernel : decode (cd 27) 32 = .ok (.getfield 17, 3)) (by decide +kernel) (by decide +kernel)
  · intro d a b c L M Q; exact Wp_sim (by decide +kernel : decode (cd 27) 35 = .ok (.iconst 0, 1)) rfl rfl
  · intro d a b c d2 L M Q; exact Wp_sim (by decide +kernel : decode (cd 27) 36 = .ok (.bipush 6, 2)) rfl rfl
  · intro d a b c d2 e L M Q; exact q_cpy (p := 556) (by decide +kernel : decode (cd 27) 38 = .ok (.invokestatic 44, 3)) (by decide +kernel) (by decide +kernel) (by decide +kernel) (Nat.le_of_ble_eq_true rfl)
  · intro d v0 x L M Q; exact Wp_sim (by decide +kernel : decode (cd 27) 41 = .ok (.aload_n 1, 1)) rfl rfl
  · intro d a v0 v1 x L M Q; exact Wp_sim (by decide +kernel : decode (cd 27) 42 = .ok (.iload_n 2, 1)) rfl rfl
  · intro d a b L M Q; exact Wp_sim (by decide +kernel : decode (cd 27) 43 = .ok (.bipush 12, 2)) rfl rfl
  · intro d a b c L M Q; exact Wp_sim (by decide +kernel : decode (cd 27) 45 = .ok (.iadd , 1)) rfl rfl
  · intro d a b x L M Q; exact Wp_sim (by decide +kernel : decode (cd 27) 46 = .ok (.aload_n 0, 1)) rfl rfl
  · intro d a b c L M Q; exact q_getR (p := 171) (by decide +kernel : decode (cd 27) 47 = .ok (.getfield 21, 3)) (by decide +kernel) (by decide +kernel)
  · intro d a b c L M Q; exact q_getR (p := 160) (by decide +kernel : decode (cd 27) 50 = .ok (.getfield 31, 3)) (by decide +kernel) (by decide +kernel)
  · intro d a b c L M Q; exact Wp_sim (by decide +kernel : decode (cd 27) 53 = .ok (.iconst 0, 1)) rfl rfl
  · intro d a b c d2 L M Q; exact Wp_sim (by decide +kernel : decode (cd 27) 54 = .ok (.bipush 36, 2)) rfl rfl
  · intro d a b c d2 e L M Q; exact q_cpy (p := 556) (by decide +kernel : decode (cd 27) 56 = .ok (.invokestatic 44, 3)) (by decide +kernel) (by decide +kernel) (by decide +kernel) (Nat.le_of_ble_eq_true rfl)
  · intro d v0 v1 x L M Q; exact Wp_sim (by decide +kernel : decode (cd 27) 59 = .ok (.iload_n 2, 1)) rfl rfl
  · intro d a L M Q; exact Wp_sim (by decide +kernel : decode (cd 27) 60 = .ok (.bipush 12, 2)) rfl rfl
  · intro d a b L M Q; exact Wp_sim (by decide +kernel : decode (cd 27) 62 = .ok (.iadd , 1)) rfl rfl
  · intro d a L M Q; exact Wp_sim (by decide +kernel : decode (cd 27) 63 = .ok (.bipush 36, 2)) rfl rfl
  · intro d a b L M Q; exact Wp_sim (by decide +kernel : decode (cd 27) 65 = .ok (.iadd , 1)) rfl rfl
  · intro d a v0 v1 v2 x L M Q; exact Wp_sim (by decide +kernel : decode (cd 27) 66 = .ok (.istore_n 3, 1)) rfl rfl
  · intro d x L M Q; exact Wp_sim (by decide +kernel : decode (cd 27) 67 = .ok (.aload_n 0, 1)) rfl rfl
  · intro d a v0 x L M Q; exact Wp_sim (by decide +kernel : decode (cd 27) 68 = .ok (.aload_n 1, 1)) rfl rfl
  · intro d a b v0 v1 v2 x L M Q; exact Wp_sim (by decide +kernel : decode (cd 27) 69 = .ok (.iload_n 3, 1)) rfl rfl
  · intro d a b c L M Q; exact q_ald (by decide +kernel : decode (cd 27) 70 = .ok (.iaload , 1))
  · intro d a b L M Q; exact q_putI (p := 174) (by decide +kernel : decode (cd 27) 71 = .ok (.putfield 34, 3)) (by decide +kernel) (by decide +kernel)
  · intro d x L M Q; exact Wp_sim (by decide +kernel : decode (cd 27) 74 = .ok (.aload_n 0, 1)) rfl rfl
  · intro d a v0 x L M Q; exact Wp_sim (by decide +kernel : decode (cd 27) 75 = .ok (.aload_n 1, 1)) rfl rfl
  · intro d a b v0 v1 v2 x L M Q; exact Wp_sim (by decide +kernel : decode (cd 27) 76 = .ok (.iload_n 3, 1)) rfl rfl
  · intro d a b c L M Q; exact Wp_sim (by decide +kernel : decode (cd 27) 77 = .ok (.iconst 1, 1)) rfl rfl
  · intro d a b c d2 L M Q; exact Wp_sim (by decide +kernel : decode (cd 27) 78 = .ok (.iadd , 1)) rfl rfl
  · intro d a b c L M Q; exact q_ald (by decide +kernel : decode (cd 27) 79 = .ok (.iaload , 1))
  · intro d a b L M Q; exact q_putI (p := 177) (by decide +kernel : decode (cd 27) 80 = .ok (.putfield 38, 3)) (by decide +kernel) (by decide +kernel)
  · intro d x L M Q; exact Wp_sim (by decide +kernel : decode (cd 27) 83 = .ok (.aload_n 0, 1)) rfl rfl
  · intro d a v0 x L M Q; exact Wp_sim (by decide +kernel : decode (cd 27) 84 = .ok (.aload_n 1, 1)) rfl rfl
  · intro d a b v0 v1 v2 x L M Q; exact Wp_sim (by decide +kernel : decode (cd 27) 85 = .ok (.iload_n 3, 1)) rfl rfl
  · intro d a b c L M Q; exact Wp_sim (by decide +kernel : decode (cd 27) 86 = .ok (.iconst 2, 1)) rfl rfl
  · intro d a b c d2 L M Q; exact Wp_sim (by decide +kernel : decode (cd 27) 87 = .ok (.iadd , 1)) rfl rfl
  · intro d a b c L M Q; exact q_ald (by decide +kernel : decode (cd 27) 88 = .ok (.iaload , 1))
  · intro d a b L M Q; exact q_putI (p := 180) (by decide +kernel : decode (cd 27) 89 = .ok (.putfield 41, 3)) (by decide +kernel) (by decide +kernel)
set_option maxRecDepth 10000 in
theorem e27_1 : (∀ (d : Nat) (L : List Value) (M : Mem) (Q : Option Value → Mem → Prop), Wp d 27 92 L [] M Q ↔ Q none M) := by
  · intro d L M Q; exact q_vret (by decide +kernel : decode (cd 27) 92 = .ok (.return_ , 1)) (by decide +kernel)

/- 28: Past.forget -/
set_option maxRecDepth 10000 in
theorem e28 : (∀ (d : Nat) (x : Nat) (L : List Value) (M : Mem) (Q : Option Value → Mem → Prop), Wp d 28 0 (.ref x :: L) [] M Q ↔ Wp d 28 1 (.ref x :: L) [.ref x] M Q) ∧
    (∀ (d : Nat) (a : Nat) (L : List Value) (M : Mem) (Q : Option Value → Mem → Prop), Wp d 28 1 L [.ref a] M Q ↔ Wp d 28 2 L [.int 0, .ref a] M Q) ∧
    (∀ (d : Nat) (a : Int32) (b : Nat) (L : List Value) (M : Mem) (Q : Option Value → Mem → Prop), Wp d 28 2 L [.int a, .ref b] M Q ↔ (isK b 7 = true ∧ Wp d 28 5 L [] (up2 M b 2 a) Q)) ∧
    (∀ (d : Nat) (L : List Value) (M : Mem) (Q : Option Value → Mem → Prop), Wp d 28 5 L [] M Q ↔ Q none M) := by
  refine ⟨?_, ?_, ?_, ?_⟩
  · intro d x L M Q; exact Wp_sim (by decide +kernel : decode (cd 28) 0 = .ok (.aload_n 0, 1)) rfl rfl
  · intro d a L M Q; exact Wp_sim (by decide +kernel : decode (cd 28) 1 = .ok (.iconst 0, 1)) rfl rfl
  · intro d a b L M Q; exact q_putI (p := 235) (by decide +kernel : decode (cd 28) 2 = .ok (.putfield 17, 3)) (by decide +kernel) (by decide +kernel)
  · intro d L M Q; exact q_vret (by decide +kernel : decode (cd 28) 5 = .ok (.return_ , 1)) (by decide +kernel)

/- 29: Past.remember -/
set_option maxRecDepth 10000 in
theorem e29 : (∀ (d : Nat) (v0 : Value) (x : Nat) (L : List Value) (M : Mem) (Q : Option Value → Mem → Prop), Wp d 29 0 (v0 :: .ref x :: L) [] M Q ↔ Wp d 29 1 (v0 :: .ref x :: L) [.ref x] M Q) ∧
    (∀ (d : Nat) (a : Nat) (x : Nat) (L : List Value) (M : Mem) (Q : Option Value → Mem → Prop), Wp d 29 1 (.ref x :: L) [.ref a] M Q ↔ Wp d 29 2 (.ref x :: L) [.ref x, .ref a] M Q) ∧
    (∀ (d : Nat) (a : Nat) (b : Nat) (L : List Value) (M : Mem) (Q : Option Value → Mem → Prop), Wp d 29 2 L [.ref a, .ref b] M Q ↔ (isK a 7 = true ∧ Wp d 29 5 L [.ref (rt a 0), .ref b] M Q)) ∧
    (∀ (d : Nat) (a : Nat) (b : Nat) (x : Nat) (L : List Value) (M : Mem) (Q : Option Value → Mem → Prop), Wp d 29 5 (.ref x :: L) [.ref a, .ref b] M Q ↔ Wp d 29 6 (.ref x :: L) [.ref x, .ref a, .ref b] M Q) ∧
    (∀ (d : Nat) (a : Nat) (b : Nat) (c : Nat) (L : List Value) (M : Mem) (Q : Option Value → Mem → Prop), Wp d 29 6 L [.ref a, .ref b, .ref c] M Q ↔ (isK a 7 = true ∧ Wp d 29 9 L [.int (M a 1), .ref b, .ref c] M Q)) ∧
    (∀ (d : Nat) (a : Int32) (b : Nat) (c : Nat) (L : List Value) (M : Mem) (Q : Option Value → Mem → Prop), Wp d 29 9 L [.int a, .ref b, .ref c] M Q ↔ Wp d 29 11 L [.int 51, .int a, .ref b, .ref c] M Q) ∧
    (∀ (d : Nat) (a : Int32) (b : Int32) (c : Nat) (d2 : Nat) (L : List Value) (M : Mem) (Q : Option Value → Mem → Prop), Wp d 29 11 L [.int a, .int b, .ref c, .ref d2] M Q ↔ Wp d 29 12 L [.int (b * a), .ref c, .ref d2] M Q) ∧
    (∀ (d : Nat) (a : Int32) (b : Nat) (c : Nat) (L : List Value) (M : Mem) (Q : Option Value → Mem → Prop), Wp (d + 1) 29 12 L [.int a, .ref b, .ref c] M Q ↔ (isK c 6 = true ∧ Wp d 26 0 [.ref c, .ref b, .int a, .null] [] M (fun r M2 => Wp (d + 1) 29 15 L (r.toList ++ []) M2 Q))) ∧
    (∀ (d : Nat) (x : Nat) (L : List Value) (M : Mem) (Q : Option Value → Mem → Prop), Wp d 29 15 (.ref x :: L) [] M Q ↔ Wp d 29 16 (.ref x :: L) [.ref x] M Q) ∧
    (∀ (d : Nat) (a : Nat) (x : Nat) (L : List Value) (M : Mem) (Q : Option Value → Mem → Prop), Wp d 29 16 (.ref x :: L) [.ref a] M Q ↔ Wp d 29 17 (.ref x :: L) [.ref x, .ref a] M Q) ∧
    (∀ (d : Nat) (a : Nat) (b : Nat) (L : List Value) (M : Mem) (Q : Option Value → Mem → Prop), Wp d 29 17 L [.ref a, .ref b] M Q ↔ (isK a 7 = true ∧ Wp d 29 20 L [.int (M a 1), .ref b] M Q)) ∧
    (∀ (d : Nat) (a : Int32) (b : Nat) (L : List Value) (M : Mem) (Q : Option Value → Mem → Prop), Wp d 29 20 L [.int a, .ref b] M Q ↔ Wp d 29 21 L [.int 1, .int a, .ref b] M Q) ∧
    (∀ (d : Nat) (a : Int32) (b : Int32) (c : Nat) (L : List Value) (M : Mem) (Q : Option Value → Mem → Prop), Wp d 29 21 L [.int a, .int b, .ref c] M Q ↔ Wp d 29 22 L [.int (b + a), .ref c] M Q) ∧
    (∀ (d : Nat) (a : Int32) (b : Nat) (L : List Value) (M : Mem) (Q : Option Value → Mem → Prop), Wp d 29 22 L [.int a, .ref b] M Q ↔ Wp d 29 24 L [.int 16, .int a, .ref b] M Q) ∧
    (∀ (d : Nat) (a : Int32) (b : Int32) (c : Nat) (L : List Value) (M : Mem) (Q : Option Value → Mem → Prop), Wp d 29 24 L [.int a, .int b, .ref c] M Q ↔ (¬ a = 0 ∧ Wp d 29 25 L [.int (b - b / a * a), .ref c] M Q)) ∧
    (∀ (d : Nat) (a : Int32) (b : Nat) (L : List Value) (M : Mem) (Q : Option Value → Mem → Prop), Wp d 29 25 L [.int a, .ref b] M Q ↔ (isK b 7 = true ∧ Wp d 29 28 L [] (up2 M b 1 a) Q)) ∧
    (∀ (d : Nat) (x : Nat) (L : List Value) (M : Mem) (Q : Option Value → Mem → Prop), Wp d 29 28 (.ref x :: L) [] M Q ↔ Wp d 29 29 (.ref x :: L) [.ref x] M Q) ∧
    (∀ (d : Nat) (a : Nat) (L : List Value) (M : Mem) (Q : Option Value → Mem → Prop), Wp d 29 29 L [.ref a] M Q ↔ Wp d 29 31 L [.int 16, .ref a] M Q) ∧
    (∀ (d : Nat) (a : Int32) (b : Nat) (x : Nat) (L : List Value) (M : Mem) (Q : Option Value → Mem → Prop), Wp d 29 31 (.ref x :: L) [.int a, .ref b] M Q ↔ Wp d 29 32 (.ref x :: L) [.ref x, .int a, .ref b] M Q) ∧
    (∀ (d : Nat) (a : Nat) (b : Int32) (c : Nat) (L : List Value) (M : Mem) (Q : Option Value → Mem → Prop), Wp d 29 32 L [.ref a, .int b, .ref c] M Q ↔ (isK a 7 = true ∧ Wp d 29 35 L [.int (M a 2), .int b, .ref c] M Q)) ∧
    (∀ (d : Nat) (a : Int32) (b : Int32) (c : Nat) (L : List Value) (M : Mem) (Q : Option Value → Mem → Prop), Wp d 29 35 L [.int a, .int b, .ref c] M Q ↔ Wp d 29 36 L [.int 1, .int a, .int b, .ref c] M Q) ∧
    (∀ (d : Nat) (a : Int32) (b : Int32) (c : Int32) (d2 : Nat) (L : List Value) (M : Mem) (Q : Option Value → Mem → Prop), Wp d 29 36 L [.int a, .int b, .int c, .ref d2] M Q ↔ Wp d 29 37 L [.int (b + a), .int c, .ref d2] M Q) ∧
    (∀ (d : Nat) (a : Int32) (b : Int32) (c : Nat) (L : List Value) (M : Mem) (Q : Option Value → Mem → Prop), Wp (d + 1) 29 37 L [.int a, .int b, .ref c] M Q ↔ Wp (d + 1) 29 40 L [.int (mn b a), .ref c] M Q) ∧
    (∀ (d : Nat) (a : Int32) (b : Nat) (L : List Value) (M : Mem) (Q : Option Value → Mem → Prop), Wp d 29 40 L [.int a, .ref b] M Q ↔ (isK b 7 = true ∧ Wp d 29 43 L [] (up2 M b 2 a) Q)) ∧
    (∀ (d : Nat) (L : List Value) (M : Mem) (Q : Option Value → Mem → Prop), Wp d 29 43 L [] M Q ↔ Q none M) := by
  refine ⟨?_, ?_, ?_, ?_, ?_, ?_, ?_, ?_, ?_, ?_, ?_, ?_, ?_, ?_, ?_, ?_, ?_, ?_, ?_, ?_, ?_, ?_, ?_, ?_, ?_⟩
  · intro d v0 x L M Q; exact Wp_sim (by decide +kernel : decode (cd 29) 0 = .ok (.aload_n 1, 1)) rfl rfl
  · intro d a x L M Q; exact Wp_sim (by decide +kernel : decode (cd 29) 1 = .ok (.aload_n 0, 1)) rfl rfl
  · intro d a b L M Q; exact q_getR (p := 233) (by decide +kernel : decode (cd 29) 2 = .ok (.getfield 11, 3)) (by decide +kernel) (by decide +kernel)
  · intro d a b x L M Q; exact Wp_sim (by decide +kernel : decode (cd 29) 5 = .ok (.aload_n 0, 1)) rfl rfl
  · intro d a b c L M Q; exact q_getI (p := 234) (by decide +kernel : decode (cd 29) 6 = .ok (.getfield 21, 3)) (by decide +kernel) (by decide +kernel)
  · intro d a b c L M Q; exact Wp_sim (by decide +kernel : decode (cd 29) 9 = .ok (.bipush 51, 2)) rfl rfl
  · intro d a b c d2 L M Q; exact Wp_sim (by decide +kernel : decode (cd 29) 11 = .ok (.imul , 1)) rfl rfl
  · intro d a b c L M Q; exact q_invV (pz := 552) (n := 2) (c := 6) (m := 4) (k := c) (As := [.ref b, .int a]) (rest := []) (by decide +kernel : decode (cd 29) 12 = .ok (.invokevirtual 24, 3)) (by decide +kernel) (by decide +kernel) rfl rfl (Nat.le_of_ble_eq_true rfl) (Nat.le_of_ble_eq_true rfl) rfl
  · intro d x L M Q; exact Wp_sim (by decide +kernel : decode (cd 29) 15 = .ok (.aload_n 0, 1)) rfl rfl
  · intro d a x L M Q; exact Wp_sim (by decide +kernel : decode (cd 29) 16 = .ok (.aload_n 0, 1)) rfl rfl
  · intro d a b L M Q; exact q_getI (p := 234) (by decide +kernel : decode (cd 29) 17 = .ok (.getfield 21, 3)) (by decide +kernel) (by decide +kernel)
  · intro d a b L M Q; exact Wp_sim (by decide +kernel : decode (cd 29) 20 = .ok (.iconst 1, 1)) rfl rfl
  · intro d a b c L M Q; exact Wp_sim (by decide +kernel : decode (cd 29) 21 = .ok (.iadd , 1)) rfl rfl
  · intro d a b L M Q; exact Wp_sim (by decide +kernel : decode (cd 29) 22 = .ok (.bipush 16, 2)) rfl rfl
  · intro d a b c L M Q; exact q_irem (by decide +kernel : decode (cd 29) 24 = .ok (.irem , 1))
  · intro d a b L M Q; exact q_putI (p := 234) (by decide +kernel : decode (cd 29) 25 = .ok (.putfield 21, 3)) (by decide +kernel) (by decide +kernel)
  · intro d x L M Q; exact Wp_sim (by decide +kernel : decode (cd 29) 28 = .ok (.aload_n 0, 1)) rfl rfl
  · intro d a L M Q; exact Wp_sim (by decide +kernel : decode (cd 29) 29 = .ok (.bipush 16, 2)) rfl rfl
  · intro d a b x L M Q; exact Wp_sim (by decide +kernel : decode (cd 29) 31 = .ok (.aload_n 0, 1)) rfl rfl
  · intro d a b c L M Q; exact q_getI (p := 235) (by decide +kernel : decode (cd 29) 32 = .ok (.getfield 17, 3)) (by decide +kernel) (by decide +kernel)
  · intro d a b c L M Q; exact Wp_sim (by decide +kernel : decode (cd 29) 35 = .ok (.iconst 1, 1)) rfl rfl
  · intro d a b c d2 L M Q; exact Wp_sim (by decide +kernel : decode (cd 29) 36 = .ok (.iadd , 1)) rfl rfl
  · intro d a b c L M Q; exact q_min (p := 557) (by decide +kernel : decode (cd 29) 37 = .ok (.invokestatic 28, 3)) (by decide +kernel) (Nat.le_of_ble_eq_true rfl)
  · intro d a b L M Q; exact q_putI (p := 235) (by decide +kernel : decode (cd 29) 40 = .ok (.putfield 17, 3)) (by decide +kernel) (by decide +kernel)
  · intro d L M Q; exact q_vret (by decide +kernel : decode (cd 29) 43 = .ok (.return_ , 1)) (by decide +kernel)

/- 30: Past.returnTo -/
set_option maxRecDepth 10000 in
theorem e30 : (∀ (d : Nat) (x : Nat) (L : List Value) (M : Mem) (Q : Option Value → Mem → Prop), Wp d 30 0 (.ref x :: L) [] M Q ↔ Wp d 30 1 (.ref x :: L) [.ref x] M Q) ∧
    (∀ (d : Nat) (a : Nat) (L : List Value) (M : Mem) (Q : Option Value → Mem → Prop), Wp d 30 1 L [.ref a] M Q ↔ (isK a 7 = true ∧ Wp d 30 4 L [.int (M a 2)] M Q)) ∧
    (∀ (d : Nat) (a : Int32) (L : List Value) (M : Mem) (Q : Option Value → Mem → Prop), Wp d 30 4 L [.int a] M Q ↔ (if 0 < a then Wp d 30 8 L [] M Q else Wp d 30 7 L [] M Q)) ∧
    (∀ (d : Nat) (L : List Value) (M : Mem) (Q : Option Value → Mem → Prop), Wp d 30 7 L [] M Q ↔ Q none M) ∧
    (∀ (d : Nat) (x : Nat) (L : List Value) (M : Mem) (Q : Option Value → Mem → Prop), Wp d 30 8 (.ref x :: L) [] M Q ↔ Wp d 30 9 (.ref x :: L) [.ref x] M Q) ∧
    (∀ (d : Nat) (a : Nat) (x : Nat) (L : List Value) (M : Mem) (Q : Option Value → Mem → Prop), Wp d 30 9 (.ref x :: L) [.ref a] M Q ↔ Wp d 30 10 (.ref x :: L) [.ref x, .ref a] M Q) ∧
    (∀ (d : Nat) (a : Nat) (b : Nat) (L : List Value) (M : Mem) (Q : Option Value → Mem → Prop), Wp d 30 10 L [.ref a, .ref b] M Q ↔ (isK a 7 = true ∧ Wp d 30 13 L [.int (M a 1), .ref b] M Q)) ∧
    (∀ (d : Nat) (a : Int32) (b : Nat) (L : List Value) (M : Mem) (Q : Option Value → Mem → Prop), Wp d 30 13 L [.int a, .ref b] M Q ↔ Wp d 30 15 L [.int 16, .int a, .ref b] M Q) ∧
    (∀ (d : Nat) (a : Int32) (b : Int32) (c : Nat) (L : List Value) (M : Mem) (Q : Option Value → Mem → Prop), Wp d 30 15 L [.int a, .int b, .ref c] M Q ↔ Wp d 30 16 L [.int (b + a), .ref c] M Q) ∧
    (∀ (d : Nat) (a : Int32) (b : Nat) (L : List Value) (M : Mem) (Q : Option Value → Mem → Prop), Wp d 30 16 L [.int a, .ref b] M Q ↔ Wp d 30 17 L [.int 1, .int a, .ref b] M Q) ∧
    (∀ (d : Nat) (a : Int32) (b : Int32) (c : Nat) (L : List Value) (M : Mem) (Q : Option Value → Mem → Prop), Wp d 30 17 L [.int a, .int b, .ref c] M Q ↔ Wp d 30 18 L [.int (b - a), .ref c] M Q) ∧
    (∀ (d : Nat) (a : Int32) (b : Nat) (L : List Value) (M : Mem) (Q : Option Value → Mem → Prop), Wp d 30 18 L [.int a, .ref b] M Q ↔ Wp d 30 20 L [.int 16, .int a, .ref b] M Q) ∧
    (∀ (d : Nat) (a : Int32) (b : Int32) (c : Nat) (L : List Value) (M : Mem) (Q : Option Value → Mem → Prop), Wp d 30 20 L [.int a, .int b, .ref c] M Q ↔ (¬ a = 0 ∧ Wp d 30 21 L [.int (b - b / a * a), .ref c] M Q)) ∧
    (∀ (d : Nat) (a : Int32) (b : Nat) (L : List Value) (M : Mem) (Q : Option Value → Mem → Prop), Wp d 30 21 L [.int a, .ref b] M Q ↔ (isK b 7 = true ∧ Wp d 30 24 L [] (up2 M b 1 a) Q)) ∧
    (∀ (d : Nat) (x : Nat) (L : List Value) (M : Mem) (Q : Option Value → Mem → Prop), Wp d 30 24 (.ref x :: L) [] M Q ↔ Wp d 30 25 (.ref x :: L) [.ref x] M Q) ∧
    (∀ (d : Nat) (a : Nat) (L : List Value) (M : Mem) (Q : Option Value → Mem → Prop), Wp d 30 25 L [.ref a] M Q ↔ Wp d 30 26 L [.ref a, .ref a] M Q) ∧
    (∀ (d : Nat) (a : Nat) (b : Nat) (L : List Value) (M : Mem) (Q : Option Value → Mem → Prop), Wp d 30 26 L [.ref a, .ref b] M Q ↔ (isK a 7 = true ∧ Wp d 30 29 L [.int (M a 2), .ref b] M Q)) ∧
    (∀ (d : Nat) (a : Int32) (b : Nat) (L : List Value) (M : Mem) (Q : Option Value → Mem → Prop), Wp d 30 29 L [.int a, .ref b] M Q ↔ Wp d 30 30 L [.int 1, .int a, .ref b] M Q) ∧
    (∀ (d : Nat) (a : Int32) (b : Int32) (c : Nat) (L : List Value) (M : Mem) (Q : Option Value → Mem → Prop), Wp d 30 30 L [.int a, .int b, .ref c] M Q ↔ Wp d 30 31 L [.int (b - a), .ref c] M Q) ∧
    (∀ (d : Nat) (a : Int32) (b : Nat) (L : List Value) (M : Mem) (Q : Option Value → Mem → Prop), Wp d 30 31 L [.int a, .ref b] M Q ↔ (isK b 7 = true ∧ Wp d 30 34 L [] (up2 M b 2 a) Q)) ∧
    (∀ (d : Nat) (v0 : Value) (x : Nat) (L : List Value) (M : Mem) (Q : Option Value → Mem → Prop), Wp d 30 34 (v0 :: .ref x :: L) [] M Q ↔ Wp d 30 35 (v0 :: .ref x :: L) [.ref x] M Q) ∧
    (∀ (d : Nat) (a : Nat) (x : Nat) (L : List Value) (M : Mem) (Q : Option Value → Mem → Prop), Wp d 30 35 (.ref x :: L) [.ref a] M Q ↔ Wp d 30 36 (.ref x :: L) [.ref x, .ref a] M Q) ∧
    (∀ (d : Nat) (a : Nat) (b : Nat) (L : List Value) (M : Mem) (Q : Option Value → Mem → Prop), Wp d 30 36 L [.ref a, .ref b] M Q ↔ (isK a 7 = true ∧ Wp d 30 39 L [.ref (rt a 0), .ref b] M Q)) ∧
    (∀ (d : Nat) (a : Nat) (b : Nat) (x : Nat) (L : List Value) (M : Mem) (Q : Option Value → Mem → Prop), Wp d 30 39 (.ref x :: L) [.ref a, .ref b] M Q ↔ Wp d 30 40 (.ref x :: L) [.ref x, .ref a, .ref b] M Q) ∧
    (∀ (d : Nat) (a : Nat) (b : Nat) (c : Nat) (L : List Value) (M : Mem) (Q : Option Value → Mem → Prop), Wp d 30 40 L [.ref a, .ref b, .ref c] M Q ↔ (isK a 7 = true ∧ Wp d 30 43 L [.int (M a 1), .ref b, .ref c] M Q)) ∧
    (∀ (d : Nat) (a : Int32) (b : Nat) (c : Nat) (L : List Value) (M : Mem) (Q : Option Value → Mem → Prop), Wp d 30 43 L [.int a, .ref b, .ref c] M Q ↔ Wp d 30 45 L [.int 51, .int a, .ref b, .ref c] M Q) ∧
    (∀ (d : Nat) (a : Int32) (b : Int32) (c : Nat) (d2 : Nat) (L : List Value) (M : Mem) (Q : Option Value → Mem → Prop), Wp d 30 45 L [.int a, .int b, .ref c, .ref d2] M Q ↔ Wp d 30 46 L [.int (b * a), .ref c, .ref d2] M Q) ∧
    (∀ (d : Nat) (a : Int32) (b : Nat) (c : Nat) (L : List Value) (M : Mem) (Q : Option Value → Mem → Prop), Wp (d + 1) 30 46 L [.int a, .ref b, .ref c] M Q ↔ (isK c 6 = true ∧ Wp d 27 0 [.ref c, .ref b, .int a, .null] [] M (fun r M2 => Wp (d + 1) 30 49 L (r.toList ++ []) M2 Q))) ∧
    (∀ (d : Nat) (L : List Value) (M : Mem) (Q : Option Value → Mem → Prop), Wp d 30 49 L [] M Q ↔ Q none M) := by
  refine ⟨?_, ?_, ?_, ?_, ?_, ?_, ?_, ?_, ?_, ?_, ?_, ?_, ?_, ?_, ?_, ?_, ?_, ?_, ?_, ?_, ?_, ?_, ?_, ?_, ?_, ?_, ?_, ?_, ?_⟩
  · intro d x L M Q; exact Wp_sim (by decide +kernel : decode (cd 30) 0 = .ok (.aload_n 0, 1)) rfl rfl
  · intro d a L M Q; exact q_getI (p := 235) (by decide +kernel : decode (cd 30) 1 = .ok (.getfield 17, 3)) (by decide +kernel) (by decide +kernel)
  · intro d a L M Q; exact q_zgt (by decide +kernel : decode (cd 30) 4 = .ok (.ifCond .gt 4, 3)) (by decide)
  · intro d L M Q; exact q_vret (by decide +kernel : decode (cd 30) 7 = .ok (.return_ , 1)) (by decide +kernel)
  · intro d x L M Q; exact Wp_sim (by decide +kernel : decode (cd 30) 8 = .ok (.aload_n 0, 1)) rfl rfl
  · intro d a x L M Q; exact Wp_sim (by decide +kernel : decode (cd 30) 9 = .ok (.aload_n 0, 1)) rfl rfl
  · intro d a b L M Q; exact q_getI (p := 234) (by decide +kernel : decode (cd 30) 10 = .ok (.getfield 21, 3)) (by decide +kernel) (by decide +kernel)
  · intro d a b L M Q; exact Wp_sim (by decide +kernel : decode (cd 30) 13 = .ok (.bipush 16, 2)) rfl rfl
  · intro d a b c L M Q; exact Wp_sim (by decide +kernel : decode (cd 30) 15 = .ok (.iadd , 1)) rfl rfl
  · intro d a b L M Q; exact Wp_sim (by decide +kernel : decode (cd 30) 16 = .ok (.iconst 1, 1)) rfl rfl
  · intro d a b c L M Q; exact Wp_sim (by decide +kernel : decode (cd 30) 17 = .ok (.isub , 1)) rfl rfl
  · intro d a b L M Q; exact Wp_sim (by decide +kernel : decode (cd 30) 18 = .ok (.bipush 16, 2)) rfl rfl
  · intro d a b c L M Q; exact q_irem (by decide +kernel : decode (cd 30) 20 = .ok (.irem , 1))
  · intro d a b L M Q; exact q_putI (p := 234) (by decide +kernel : decode (cd 30) 21 = .ok (.putfield 21, 3)) (by decide +kernel) (by decide +kernel)
  · intro d x L M Q; exact Wp_sim (by decide +kernel : decode (cd 30) 24 = .ok (.aload_n 0, 1)) rfl rfl
  · intro d a L M Q; exact Wp_sim (by decide +kernel : decode (cd 30) 25 = .ok (.dup , 1)) rfl rfl
  · intro d a b L M Q; exact q_getI (p := 235) (by decide +kernel : decode (cd 30) 26 = .ok (.getfield 17, 3)) (by decide +kernel) (by decide +kernel)
  · intro d a b L M Q; exact Wp_sim (by decide +kernel : decode (cd 30) 29 = .ok (.iconst 1, 1)) rfl rfl
  · intro d a b c L M Q; exact Wp_sim (by decide +kernel : decode (cd 30) 30 = .ok (.isub , 1)) rfl rfl
  · intro d a b L M Q; exact q_putI (p := 235) (by decide +kernel : decode (cd 30) 31 = .ok (.putfield 17, 3)) (by decide +kernel) (by decide +kernel)
  · intro d v0 x L M Q; exact Wp_sim (by decide +kernel : decode (cd 30) 34 = .ok (.aload_n 1, 1)) rfl rfl
  · intro d a x L M Q; exact Wp_sim (by decide +kernel : decode (cd 30) 35 = .ok (.aload_n 0, 1)) rfl rfl
  · intro d a b L M Q; exact q_getR (p := 233) (by decide +kernel : decode (cd 30) 36 = .ok (.getfield 11, 3)) (by decide +kernel) (by decide +kernel)
  · intro d a b x L M Q; exact Wp_sim (by decide +kernel : decode (cd 30) 39 = .ok (.aload_n 0, 1)) rfl rfl
  · intro d a b c L M Q; exact q_getI (p := 234) (by decide +kernel : decode (cd 30) 40 = .ok (.getfield 21, 3)) (by decide +kernel) (by decide +kernel)
  · intro d a b c L M Q; exact Wp_sim (by decide +kernel : decode (cd 30) 43 = .ok (.bipush 51, 2)) rfl rfl
  · intro d a b c d2 L M Q; exact Wp_sim (by decide +kernel : decode (cd 30) 45 = .ok (.imul , 1)) rfl rfl
  · intro d a b c L M Q; exact q_invV (pz := 679) (n := 2) (c := 6) (m := 4) (k := c) (As := [.ref b, .int a]) (rest := []) (by decide +kernel : decode (cd 30) 46 = .ok (.invokevirtual 34, 3)) (by decide +kernel) (by decide +kernel) rfl rfl (Nat.le_of_ble_eq_true rfl) (Nat.le_of_ble_eq_true rfl) rfl
  · intro d L M Q; exact q_vret (by decide +kernel : decode (cd 30) 49 = .ok (.return_ , 1)) (by decide +kernel)
