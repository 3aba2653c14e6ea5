/-! part 08b: the instructions of the methods 31 to 70 -/
/- 31: Reader.readAll -/
set_option maxRecDepth 10000 in
theorem e31 : (∀ (d : Nat) (v0 : Value) (v1 : Value) (x : Nat) (L : List Value) (M : Mem) (Q : Option Value → Mem → Prop), Wp d 31 0 (v0 :: v1 :: .ref x :: L) [] M Q ↔ Wp d 31 1 (v0 :: v1 :: .ref x :: L) [.ref x] M Q) ∧
    (∀ (d : Nat) (a : Nat) (L : List Value) (M : Mem) (Q : Option Value → Mem → Prop), Wp (d + 1) 31 1 L [.ref a] M Q ↔ (isK a 1 = true ∧ Wp d 2 0 [.ref a] [] M (fun r M2 => Wp (d + 1) 31 4 L (r.toList ++ []) M2 Q))) ∧
    (∀ (d : Nat) (x : Nat) (L : List Value) (M : Mem) (Q : Option Value → Mem → Prop), Wp d 31 4 (.ref x :: L) [] M Q ↔ Wp d 31 5 (.ref x :: L) [.ref x] M Q) ∧
    (∀ (d : Nat) (a : Nat) (L : List Value) (M : Mem) (Q : Option Value → Mem → Prop), Wp d 31 5 L [.ref a] M Q ↔ Wp d 31 6 L [.int 0, .ref a] M Q) ∧
    (∀ (d : Nat) (a : Int32) (b : Nat) (L : List Value) (M : Mem) (Q : Option Value → Mem → Prop), Wp d 31 6 L [.int a, .ref b] M Q ↔ (isK b 8 = true ∧ Wp d 31 9 L [] (up2 M b 1 a) Q)) ∧
    (∀ (d : Nat) (x : Nat) (L : List Value) (M : Mem) (Q : Option Value → Mem → Prop), Wp d 31 9 (.ref x :: L) [] M Q ↔ Wp d 31 10 (.ref x :: L) [.ref x] M Q) ∧
    (∀ (d : Nat) (a : Nat) (L : List Value) (M : Mem) (Q : Option Value → Mem → Prop), Wp d 31 10 L [.ref a] M Q ↔ Wp d 31 11 L [.int 0, .ref a] M Q) ∧
    (∀ (d : Nat) (a : Int32) (b : Nat) (L : List Value) (M : Mem) (Q : Option Value → Mem → Prop), Wp d 31 11 L [.int a, .ref b] M Q ↔ (isK b 8 = true ∧ Wp d 31 14 L [] (up2 M b 2 a) Q)) ∧
    (∀ (d : Nat) (x : Nat) (L : List Value) (M : Mem) (Q : Option Value → Mem → Prop), Wp d 31 14 (.ref x :: L) [] M Q ↔ Wp d 31 15 (.ref x :: L) [.ref x] M Q) ∧
    (∀ (d : Nat) (a : Nat) (L : List Value) (M : Mem) (Q : Option Value → Mem → Prop), Wp d 31 15 L [.ref a] M Q ↔ Wp d 31 16 L [.int (-1), .ref a] M Q) ∧
    (∀ (d : Nat) (a : Int32) (b : Nat) (L : List Value) (M : Mem) (Q : Option Value → Mem → Prop), Wp d 31 16 L [.int a, .ref b] M Q ↔ (isK b 8 = true ∧ Wp d 31 19 L [] (up2 M b 3 a) Q)) ∧
    (∀ (d : Nat) (L : List Value) (M : Mem) (Q : Option Value → Mem → Prop), Wp d 31 19 L [] M Q ↔ Wp d 31 20 L [.int 0] M Q) ∧
    (∀ (d : Nat) (a : Int32) (v0 : Value) (v1 : Value) (v2 : Value) (x : Value) (L : List Value) (M : Mem) (Q : Option Value → Mem → Prop), Wp d 31 20 (v0 :: v1 :: v2 :: x :: L) [.int a] M Q ↔ Wp d 31 21 (v0 :: v1 :: clr v2 :: .int a :: L) [] M Q) ∧
    (∀ (d : Nat) (a : Int32) (L : List Value) (M : Mem) (Q : Option Value → Mem → Prop), Wp d 31 22 L [.int a] M Q ↔ Wp d 31 25 L [.int 240, .int a] M Q) ∧
    (∀ (d : Nat) (a : Int32) (b : Int32) (L : List Value) (M : Mem) (Q : Option Value → Mem → Prop), Wp d 31 25 L [.int a, .int b] M Q ↔ (if a < b then Wp d 31 66 L [] M Q else Wp d 31 28 L [] M Q)) ∧
    (∀ (d : Nat) (x : Nat) (L : List Value) (M : Mem) (Q : Option Value → Mem → Prop), Wp d 31 28 (.ref x :: L) [] M Q ↔ Wp d 31 29 (.ref x :: L) [.ref x] M Q) ∧
    (∀ (d : Nat) (a : Nat) (L : List Value) (M : Mem) (Q : Option Value → Mem → Prop), Wp d 31 29 L [.ref a] M Q ↔ (isK a 8 = true ∧ Wp d 31 32 L [.int (M a 2)] M Q)) ∧
    (∀ (d : Nat) (a : Int32) (L : List Value) (M : Mem) (Q : Option Value → Mem → Prop), Wp d 31 32 L [.int a] M Q ↔ (if a = 0 then Wp d 31 35 L [] M Q else Wp d 31 66 L [] M Q)) ∧
    (∀ (d : Nat) (x : Nat) (L : List Value) (M : Mem) (Q : Option Value → Mem → Prop), Wp d 31 35 (.ref x :: L) [] M Q ↔ Wp d 31 36 (.ref x :: L) [.ref x] M Q) ∧
    (∀ (d : Nat) (a : Nat) (v0 : Value) (x : Nat) (L : List Value) (M : Mem) (Q : Option Value → Mem → Prop), Wp d 31 36 (v0 :: .ref x :: L) [.ref a] M Q ↔ Wp d 31 37 (v0 :: .ref x :: L) [.ref x, .ref a] M Q) ∧
    (∀ (d : Nat) (a : Nat) (b : Nat) (L : List Value) (M : Mem) (Q : Option Value → Mem → Prop), Wp (d + 1) 31 37 L [.ref a, .ref b] M Q ↔ (isK b 8 = true ∧ Wp d 32 0 [.ref b, .ref a, .null] [] M (fun r M2 => Wp (d + 1) 31 40 L (r.toList ++ []) M2 Q))) ∧
    (∀ (d : Nat) (x : Nat) (L : List Value) (M : Mem) (Q : Option Value → Mem → Prop), Wp d 31 40 (.ref x :: L) [] M Q ↔ Wp d 31 41 (.ref x :: L) [.ref x] M Q) ∧
    (∀ (d : Nat) (a : Nat) (L : List Value) (M : Mem) (Q : Option Value → Mem → Prop), Wp d 31 41 L [.ref a] M Q ↔ (isK a 8 = true ∧ Wp d 31 44 L [.int (M a 1)] M Q)) ∧
    (∀ (d : Nat) (a : Int32) (v0 : Value) (x : Nat) (L : List Value) (M : Mem) (Q : Option Value → Mem → Prop), Wp d 31 44 (v0 :: .ref x :: L) [.int a] M Q ↔ Wp d 31 45 (v0 :: .ref x :: L) [.ref x, .int a] M Q) ∧
    (∀ (d : Nat) (a : Nat) (b : Int32) (L : List Value) (M : Mem) (Q : Option Value → Mem → Prop), Wp d 31 45 L [.ref a, .int b] M Q ↔ (isK a 5 = true ∧ Wp d 31 48 L [.int (M a 1), .int b] M Q)) ∧
    (∀ (d : Nat) (a : Int32) (b : Int32) (L : List Value) (M : Mem) (Q : Option Value → Mem → Prop), Wp d 31 48 L [.int a, .int b] M Q ↔ (if b < a then Wp d 31 54 L [] M Q else Wp d 31 51 L [] M Q)) ∧
    (∀ (d : Nat) (L : List Value) (M : Mem) (Q : Option Value → Mem → Prop), Wp d 31 51 L [] M Q ↔ Wp d 31 66 L [] M Q) ∧
    (∀ (d : Nat) (x : Nat) (L : List Value) (M : Mem) (Q : Option Value → Mem → Prop), Wp d 31 54 (.ref x :: L) [] M Q ↔ Wp d 31 55 (.ref x :: L) [.ref x] M Q) ∧
    (∀ (d : Nat) (a : Nat) (v0 : Value) (x : Nat) (L : List Value) (M : Mem) (Q : Option Value → Mem → Prop), Wp d 31 55 (v0 :: .ref x :: L) [.ref a] M Q ↔ Wp d 31 56 (v0 :: .ref x :: L) [.ref x, .ref a] M Q) ∧
    (∀ (d : Nat) (a : Nat) (b : Nat) (v0 : Value) (v1 : Value) (x : Nat) (L : List Value) (M : Mem) (Q : Option Value → Mem → Prop), Wp d 31 56 (v0 :: v1 :: .ref x :: L) [.ref a, .ref b] M Q ↔ Wp d 31 57 (v0 :: v1 :: .ref x :: L) [.ref x, .ref a, .ref b] M Q) ∧
    (∀ (d : Nat) (a : Nat) (b : Nat) (c : Nat) (L : List Value) (M : Mem) (Q : Option Value → Mem → Prop), Wp (d + 1) 31 57 L [.ref a, .ref b, .ref c] M Q ↔ (isK c 8 = true ∧ Wp d 33 0 [.ref c, .ref b, .ref a, .null, .null] [] M (fun r M2 => Wp (d + 1) 31 60 L (r.toList ++ []) M2 Q))) ∧
    (∀ (d : Nat) (v0 : Value) (v1 : Value) (v2 : Value) (x : Int32) (L : List Value) (M : Mem) (Q : Option Value → Mem → Prop), Wp d 31 60 (v0 :: v1 :: v2 :: .int x :: L) [] M Q ↔ Wp d 31 63 (v0 :: v1 :: clr v2 :: .int (x + 1) :: L) [] M Q) ∧
    (∀ (d : Nat) (L : List Value) (M : Mem) (Q : Option Value → Mem → Prop), Wp d 31 63 L [] M Q ↔ Wp d 31 21 L [] M Q) ∧
    (∀ (d : Nat) (x : Nat) (L : List Value) (M : Mem) (Q : Option Value → Mem → Prop), Wp d 31 66 (.ref x :: L) [] M Q ↔ Wp d 31 67 (.ref x :: L) [.ref x] M Q) ∧
    (∀ (d : Nat) (a : Nat) (L : List Value) (M : Mem) (Q : Option Value → Mem → Prop), Wp d 31 67 L [.ref a] M Q ↔ (isK a 8 = true ∧ Wp d 31 70 L [.int (M a 2)] M Q)) ∧
    (∀ (d : Nat) (a : Int32) (L : List Value) (M : Mem) (Q : Option Value → Mem → Prop), Wp d 31 70 L [.int a] M Q ↔ Q (some (.int a)) M) := by
  refine ⟨?_, ?_, ?_, ?_, ?_, ?_, ?_, ?_, ?_, ?_, ?_, ?_, ?_, ?_, ?_, ?_, ?_, ?_, ?_, ?_, ?_, ?_, ?_, ?_, ?_, ?_, ?_, ?_, ?_, ?_, ?_, ?_, ?_, ?_, ?_, ?_⟩
  · intro d v0 v1 x L M Q; exact Wp_sim (by decide +kernel : decode (cd 31) 0 = .ok (.aload_n 2, 1)) rfl rfl
  · intro d a L M Q; exact q_invV (pz := 353) (n := 0) (c := 1) (m := 1) (k := a) (As := []) (rest := []) (by decide +kernel : decode (cd 31) 1 = .ok (.invokevirtual 19, 3)) (by decide +kernel) (by decide +kernel) rfl rfl (Nat.le_of_ble_eq_true rfl) (Nat.le_of_ble_eq_true rfl) rfl
  · intro d x L M Q; exact Wp_sim (by decide +kernel : decode (cd 31) 4 = .ok (.aload_n 0, 1)) rfl rfl
  · intro d a L M Q; exact Wp_sim (by decide +kernel : decode (cd 31) 5 = .ok (.iconst 0, 1)) rfl rfl
  · intro d a b L M Q; exact q_putI (p := 49) (by decide +kernel : decode (cd 31) 6 = .ok (.putfield 24, 3)) (by decide +kernel) (by decide +kernel)
  · intro d x L M Q; exact Wp_sim (by decide +kernel : decode (cd 31) 9 = .ok (.aload_n 0, 1)) rfl rfl
  · intro d a L M Q; exact Wp_sim (by decide +kernel : decode (cd 31) 10 = .ok (.iconst 0, 1)) rfl rfl
  · intro d a b L M Q; exact q_putI (p := 50) (by decide +kernel : decode (cd 31) 11 = .ok (.putfield 27, 3)) (by decide +kernel) (by decide +kernel)
  · intro d x L M Q; exact Wp_sim (by decide +kernel : decode (cd 31) 14 = .ok (.aload_n 0, 1)) rfl rfl
  · intro d a L M Q; exact Wp_sim (by decide +kernel : decode (cd 31) 15 = .ok (.iconst (-1), 1)) rfl rfl
  · intro d a b L M Q; exact q_putI (p := 51) (by decide +kernel : decode (cd 31) 16 = .ok (.putfield 15, 3)) (by decide +kernel) (by decide +kernel)
  · intro d L M Q; exact Wp_sim (by decide +kernel : decode (cd 31) 19 = .ok (.iconst 0, 1)) rfl rfl
  · intro d a v0 v1 v2 x L M Q; exact Wp_sim (by decide +kernel : decode (cd 31) 20 = .ok (.istore_n 3, 1)) rfl rfl
  · intro d a L M Q; exact Wp_sim (by decide +kernel : decode (cd 31) 22 = .ok (.sipush 240, 3)) rfl rfl
  · intro d a b L M Q; exact q_igt (by decide +kernel : decode (cd 31) 25 = .ok (.if_icmp .gt 41, 3)) (by decide)
  · intro d x L M Q; exact Wp_sim (by decide +kernel : decode (cd 31) 28 = .ok (.aload_n 0, 1)) rfl rfl
  · intro d a L M Q; exact q_getI (p := 50) (by decide +kernel : decode (cd 31) 29 = .ok (.getfield 27, 3)) (by decide +kernel) (by decide +kernel)
  · intro d a L M Q; exact q_zne (by decide +kernel : decode (cd 31) 32 = .ok (.ifCond .ne 34, 3)) (by decide)
  · intro d x L M Q; exact Wp_sim (by decide +kernel : decode (cd 31) 35 = .ok (.aload_n 0, 1)) rfl rfl
  · intro d a v0 x L M Q; exact Wp_sim (by decide +kernel : decode (cd 31) 36 = .ok (.aload_n 1, 1)) rfl rfl
  · intro d a b L M Q; exact q_invV (pz := 357) (n := 1) (c := 8) (m := 3) (k := b) (As := [.ref a]) (rest := []) (by decide +kernel : decode (cd 31) 37 = .ok (.invokevirtual 30, 3)) (by decide +kernel) (by decide +kernel) rfl rfl (Nat.le_of_ble_eq_true rfl) (Nat.le_of_ble_eq_true rfl) rfl
  · intro d x L M Q; exact Wp_sim (by decide +kernel : decode (cd 31) 40 = .ok (.aload_n 0, 1)) rfl rfl
  · intro d a L M Q; exact q_getI (p := 49) (by decide +kernel : decode (cd 31) 41 = .ok (.getfield 24, 3)) (by decide +kernel) (by decide +kernel)
  · intro d a v0 x L M Q; exact Wp_sim (by decide +kernel : decode (cd 31) 44 = .ok (.aload_n 1, 1)) rfl rfl
  · intro d a b L M Q; exact q_getI (p := 35) (by decide +kernel : decode (cd 31) 45 = .ok (.getfield 34, 3)) (by decide +kernel) (by decide +kernel)
  · intro d a b L M Q; exact q_ilt (by decide +kernel : decode (cd 31) 48 = .ok (.if_icmp .lt 6, 3)) (by decide)
  · intro d L M Q; exact q_goto (by decide +kernel : decode (cd 31) 51 = .ok (.goto 15, 3)) (by decide)
  · intro d x L M Q; exact Wp_sim (by decide +kernel : decode (cd 31) 54 = .ok (.aload_n 0, 1)) rfl rfl
  · intro d a v0 x L M Q; exact Wp_sim (by decide +kernel : decode (cd 31) 55 = .ok (.aload_n 1, 1)) rfl rfl
  · intro d a b v0 v1 x L M Q; exact Wp_sim (by decide +kernel : decode (cd 31) 56 = .ok (.aload_n 2, 1)) rfl rfl
  · intro d a b c L M Q; exact q_invV (pz := 365) (n := 2) (c := 8) (m := 5) (k := c) (As := [.ref b, .ref a]) (rest := []) (by decide +kernel : decode (cd 31) 57 = .ok (.invokevirtual 39, 3)) (by decide +kernel) (by decide +kernel) rfl rfl (Nat.le_of_ble_eq_true rfl) (Nat.le_of_ble_eq_true rfl) rfl
  · intro d v0 v1 v2 x L M Q; exact Wp_sim (by decide +kernel : decode (cd 31) 60 = .ok (.iinc 3 1, 3)) rfl rfl
  · intro d L M Q; exact q_goto (by decide +kernel : decode (cd 31) 63 = .ok (.goto (-42), 3)) (by decide)
  · intro d x L M Q; exact Wp_sim (by decide +kernel : decode (cd 31) 66 = .ok (.aload_n 0, 1)) rfl rfl
  · intro d a L M Q; exact q_getI (p := 50) (by decide +kernel : decode (cd 31) 67 = .ok (.getfield 27, 3)) (by decide +kernel) (by decide +kernel)
  · intro d a L M Q; exact q_iret (by decide +kernel : decode (cd 31) 70 = .ok (.ireturn , 1)) (by decide +kernel)
theorem h31_21 : (∀ (d : Nat) (v0 : Value) (v1 : Value) (v2 : Value) (x : Int32) (L : List Value) (M : Mem) (Q : Option Value → Mem → Prop), Wp d 31 21 (v0 :: v1 :: v2 :: .int x :: L) [] M Q ↔ Wp d 31 22 (v0 :: v1 :: v2 :: .int x :: L) [.int x] M Q) := by
  intro d v0 v1 v2 x L M Q; exact Wp_sim (by decide +kernel : decode (cd 31) 21 = .ok (.iload_n 3, 1)) rfl rfl

/- 32: Reader.skipBlanks -/
set_option maxRecDepth 10000 in
theorem e32 : (∀ (d : Nat) (L : List Value) (M : Mem) (Q : Option Value → Mem → Prop), Wp d 32 0 L [] M Q ↔ Wp d 32 1 L [.int 0] M Q) ∧
    (∀ (d : Nat) (a : Int32) (v0 : Value) (v1 : Value) (x : Value) (L : List Value) (M : Mem) (Q : Option Value → Mem → Prop), Wp d 32 1 (v0 :: v1 :: x :: L) [.int a] M Q ↔ Wp d 32 2 (v0 :: clr v1 :: .int a :: L) [] M Q) ∧
    (∀ (d : Nat) (a : Int32) (L : List Value) (M : Mem) (Q : Option Value → Mem → Prop), Wp d 32 3 L [.int a] M Q ↔ Wp d 32 6 L [.int 240, .int a] M Q) ∧
    (∀ (d : Nat) (a : Int32) (b : Int32) (L : List Value) (M : Mem) (Q : Option Value → Mem → Prop), Wp d 32 6 L [.int a, .int b] M Q ↔ (if b < a then Wp d 32 9 L [] M Q else Wp d 32 38 L [] M Q)) ∧
    (∀ (d : Nat) (v0 : Value) (x : Nat) (L : List Value) (M : Mem) (Q : Option Value → Mem → Prop), Wp d 32 9 (v0 :: .ref x :: L) [] M Q ↔ Wp d 32 10 (v0 :: .ref x :: L) [.ref x] M Q) ∧
    (∀ (d : Nat) (a : Nat) (x : Nat) (L : List Value) (M : Mem) (Q : Option Value → Mem → Prop), Wp d 32 10 (.ref x :: L) [.ref a] M Q ↔ Wp d 32 11 (.ref x :: L) [.ref x, .ref a] M Q) ∧
    (∀ (d : Nat) (a : Nat) (b : Nat) (L : List Value) (M : Mem) (Q : Option Value → Mem → Prop), Wp d 32 11 L [.ref a, .ref b] M Q ↔ (isK a 8 = true ∧ Wp d 32 14 L [.int (M a 1), .ref b] M Q)) ∧
    (∀ (d : Nat) (a : Int32) (b : Nat) (L : List Value) (M : Mem) (Q : Option Value → Mem → Prop), Wp (d + 1) 32 14 L [.int a, .ref b] M Q ↔ (isK b 5 = true ∧ Wp d 24 0 [.ref b, .int a] [] M (fun r M2 => Wp (d + 1) 32 17 L (r.toList ++ []) M2 Q))) ∧
    (∀ (d : Nat) (a : Int32) (L : List Value) (M : Mem) (Q : Option Value → Mem → Prop), Wp d 32 17 L [.int a] M Q ↔ Wp d 32 19 L [.int 32, .int a] M Q) ∧
    (∀ (d : Nat) (a : Int32) (b : Int32) (L : List Value) (M : Mem) (Q : Option Value → Mem → Prop), Wp d 32 19 L [.int a, .int b] M Q ↔ (if b = a then Wp d 32 22 L [] M Q else Wp d 32 38 L [] M Q)) ∧
    (∀ (d : Nat) (x : Nat) (L : List Value) (M : Mem) (Q : Option Value → Mem → Prop), Wp d 32 22 (.ref x :: L) [] M Q ↔ Wp d 32 23 (.ref x :: L) [.ref x] M Q) ∧
    (∀ (d : Nat) (a : Nat) (L : List Value) (M : Mem) (Q : Option Value → Mem → Prop), Wp d 32 23 L [.ref a] M Q ↔ Wp d 32 24 L [.ref a, .ref a] M Q) ∧
    (∀ (d : Nat) (a : Nat) (b : Nat) (L : List Value) (M : Mem) (Q : Option Value → Mem → Prop), Wp d 32 24 L [.ref a, .ref b] M Q ↔ (isK a 8 = true ∧ Wp d 32 27 L [.int (M a 1), .ref b] M Q)) ∧
    (∀ (d : Nat) (a : Int32) (b : Nat) (L : List Value) (M : Mem) (Q : Option Value → Mem → Prop), Wp d 32 27 L [.int a, .ref b] M Q ↔ Wp d 32 28 L [.int 1, .int a, .ref b] M Q) ∧
    (∀ (d : Nat) (a : Int32) (b : Int32) (c : Nat) (L : List Value) (M : Mem) (Q : Option Value → Mem → Prop), Wp d 32 28 L [.int a, .int b, .ref c] M Q ↔ Wp d 32 29 L [.int (b + a), .ref c] M Q) ∧
    (∀ (d : Nat) (a : Int32) (b : Nat) (L : List Value) (M : Mem) (Q : Option Value → Mem → Prop), Wp d 32 29 L [.int a, .ref b] M Q ↔ (isK b 8 = true ∧ Wp d 32 32 L [] (up2 M b 1 a) Q)) ∧
    (∀ (d : Nat) (v0 : Value) (v1 : Value) (x : Int32) (L : List Value) (M : Mem) (Q : Option Value → Mem → Prop), Wp d 32 32 (v0 :: v1 :: .int x :: L) [] M Q ↔ Wp d 32 35 (v0 :: clr v1 :: .int (x + 1) :: L) [] M Q) ∧
    (∀ (d : Nat) (L : List Value) (M : Mem) (Q : Option Value → Mem → Prop), Wp d 32 35 L [] M Q ↔ Wp d 32 2 L [] M Q) ∧
    (∀ (d : Nat) (L : List Value) (M : Mem) (Q : Option Value → Mem → Prop), Wp d 32 38 L [] M Q ↔ Q none M) := by
  refine ⟨?_, ?_, ?_, ?_, ?_, ?_, ?_, ?_, ?_, ?_, ?_, ?_, ?_, ?_, ?_, ?_, ?_, ?_, ?_⟩
  · intro d L M Q; exact Wp_sim (by decide +kernel : decode (cd 32) 0 = .ok (.iconst 0, 1)) rfl rfl
  · intro d a v0 v1 x L M Q; exact Wp_sim (by decide +kernel : decode (cd 32) 1 = .ok (.istore_n 2, 1)) rfl rfl
  · intro d a L M Q; exact Wp_sim (by decide +kernel : decode (cd 32) 3 = .ok (.sipush 240, 3)) rfl rfl
  · intro d a b L M Q; exact q_ige (by decide +kernel : decode (cd 32) 6 = .ok (.if_icmp .ge 32, 3)) (by decide)
  · intro d v0 x L M Q; exact Wp_sim (by decide +kernel : decode (cd 32) 9 = .ok (.aload_n 1, 1)) rfl rfl
  · intro d a x L M Q; exact Wp_sim (by decide +kernel : decode (cd 32) 10 = .ok (.aload_n 0, 1)) rfl rfl
  · intro d a b L M Q; exact q_getI (p := 49) (by decide +kernel : decode (cd 32) 11 = .ok (.getfield 24, 3)) (by decide +kernel) (by decide +kernel)
  · intro d a b L M Q; exact q_invV (pz := 361) (n := 1) (c := 5) (m := 2) (k := b) (As := [.int a]) (rest := []) (by decide +kernel : decode (cd 32) 14 = .ok (.invokevirtual 43, 3)) (by decide +kernel) (by decide +kernel) rfl rfl (Nat.le_of_ble_eq_true rfl) (Nat.le_of_ble_eq_true rfl) rfl
  · intro d a L M Q; exact Wp_sim (by decide +kernel : decode (cd 32) 17 = .ok (.bipush 32, 2)) rfl rfl
  · intro d a b L M Q; exact q_ine (by decide +kernel : decode (cd 32) 19 = .ok (.if_icmp .ne 19, 3)) (by decide)
  · intro d x L M Q; exact Wp_sim (by decide +kernel : decode (cd 32) 22 = .ok (.aload_n 0, 1)) rfl rfl
  · intro d a L M Q; exact Wp_sim (by decide +kernel : decode (cd 32) 23 = .ok (.dup , 1)) rfl rfl
  · intro d a b L M Q; exact q_getI (p := 49) (by decide +kernel : decode (cd 32) 24 = .ok (.getfield 24, 3)) (by decide +kernel) (by decide +kernel)
  · intro d a b L M Q; exact Wp_sim (by decide +kernel : decode (cd 32) 27 = .ok (.iconst 1, 1)) rfl rfl
  · intro d a b c L M Q; exact Wp_sim (by decide +kernel : decode (cd 32) 28 = .ok (.iadd , 1)) rfl rfl
  · intro d a b L M Q; exact q_putI (p := 49) (by decide +kernel : decode (cd 32) 29 = .ok (.putfield 24, 3)) (by decide +kernel) (by decide +kernel)
  · intro d v0 v1 x L M Q; exact Wp_sim (by decide +kernel : decode (cd 32) 32 = .ok (.iinc 2 1, 3)) rfl rfl
  · intro d L M Q; exact q_goto (by decide +kernel : decode (cd 32) 35 = .ok (.goto (-33), 3)) (by decide)
  · intro d L M Q; exact q_vret (by decide +kernel : decode (cd 32) 38 = .ok (.return_ , 1)) (by decide +kernel)
theorem h32_2 : (∀ (d : Nat) (v0 : Value) (v1 : Value) (x : Int32) (L : List Value) (M : Mem) (Q : Option Value → Mem → Prop), Wp d 32 2 (v0 :: v1 :: .int x :: L) [] M Q ↔ Wp d 32 3 (v0 :: v1 :: .int x :: L) [.int x] M Q) := by
  intro d v0 v1 x L M Q; exact Wp_sim (by decide +kernel : decode (cd 32) 2 = .ok (.iload_n 2, 1)) rfl rfl

/- 33: Reader.readClause -/
set_option maxRecDepth 10000 in
theorem e33 : (∀ (d : Nat) (v0 : Value) (x : Nat) (L : List Value) (M : Mem) (Q : Option Value → Mem → Prop), Wp d 33 0 (v0 :: .ref x :: L) [] M Q ↔ Wp d 33 1 (v0 :: .ref x :: L) [.ref x] M Q) ∧
    (∀ (d : Nat) (a : Nat) (x : Nat) (L : List Value) (M : Mem) (Q : Option Value → Mem → Prop), Wp d 33 1 (.ref x :: L) [.ref a] M Q ↔ Wp d 33 2 (.ref x :: L) [.ref x, .ref a] M Q) ∧
    (∀ (d : Nat) (a : Nat) (b : Nat) (L : List Value) (M : Mem) (Q : Option Value → Mem → Prop), Wp d 33 2 L [.ref a, .ref b] M Q ↔ (isK a 8 = true ∧ Wp d 33 5 L [.int (M a 1), .ref b] M Q)) ∧
    (∀ (d : Nat) (a : Int32) (b : Nat) (L : List Value) (M : Mem) (Q : Option Value → Mem → Prop), Wp (d + 1) 33 5 L [.int a, .ref b] M Q ↔ (isK b 5 = true ∧ Wp d 24 0 [.ref b, .int a] [] M (fun r M2 => Wp (d + 1) 33 8 L (r.toList ++ []) M2 Q))) ∧
    (∀ (d : Nat) (a : Int32) (L : List Value) (M : Mem) (Q : Option Value → Mem → Prop), Wp (d + 1) 33 8 L [.int a] M Q ↔ Wp d 34 0 [.int a] [] M (fun r M2 => Wp (d + 1) 33 11 L (r.toList ++ []) M2 Q)) ∧
    (∀ (d : Nat) (a : Int32) (v0 : Value) (v1 : Value) (v2 : Value) (x : Value) (L : List Value) (M : Mem) (Q : Option Value → Mem → Prop), Wp d 33 11 (v0 :: v1 :: v2 :: x :: L) [.int a] M Q ↔ Wp d 33 12 (v0 :: v1 :: clr v2 :: .int a :: L) [] M Q) ∧
    (∀ (d : Nat) (v0 : Value) (v1 : Value) (v2 : Value) (x : Int32) (L : List Value) (M : Mem) (Q : Option Value → Mem → Prop), Wp d 33 12 (v0 :: v1 :: v2 :: .int x :: L) [] M Q ↔ Wp d 33 13 (v0 :: v1 :: v2 :: .int x :: L) [.int x] M Q) ∧
    (∀ (d : Nat) (a : Int32) (v0 : Value) (v1 : Value) (x : Nat) (L : List Value) (M : Mem) (Q : Option Value → Mem → Prop), Wp d 33 13 (v0 :: v1 :: .ref x :: L) [.int a] M Q ↔ Wp d 33 14 (v0 :: v1 :: .ref x :: L) [.ref x, .int a] M Q) ∧
    (∀ (d : Nat) (a : Nat) (b : Int32) (L : List Value) (M : Mem) (Q : Option Value → Mem → Prop), Wp (d + 1) 33 14 L [.ref a, .int b] M Q ↔ Wp d 35 0 [.int b, .ref a] [] M (fun r M2 => Wp (d + 1) 33 17 L (r.toList ++ []) M2 Q)) ∧
    (∀ (d : Nat) (a : Int32) (v0 : Value) (v1 : Value) (v2 : Value) (v3 : Value) (x : Value) (L : List Value) (M : Mem) (Q : Option Value → Mem → Prop), Wp d 33 17 (v0 :: v1 :: v2 :: v3 :: x :: L) [.int a] M Q ↔ Wp d 33 19 (v0 :: v1 :: v2 :: clr v3 :: .int a :: L) [] M Q) ∧
    (∀ (d : Nat) (v0 : Value) (v1 : Value) (v2 : Value) (v3 : Value) (x : Int32) (L : List Value) (M : Mem) (Q : Option Value → Mem → Prop), Wp d 33 19 (v0 :: v1 :: v2 :: v3 :: .int x :: L) [] M Q ↔ Wp d 33 21 (v0 :: v1 :: v2 :: v3 :: .int x :: L) [.int x] M Q) ∧
    (∀ (d : Nat) (a : Int32) (L : List Value) (M : Mem) (Q : Option Value → Mem → Prop), Wp d 33 21 L [.int a] M Q ↔ (if a = 0 then Wp d 33 35 L [] M Q else Wp d 33 24 L [] M Q)) ∧
    (∀ (d : Nat) (x : Nat) (L : List Value) (M : Mem) (Q : Option Value → Mem → Prop), Wp d 33 24 (.ref x :: L) [] M Q ↔ Wp d 33 25 (.ref x :: L) [.ref x] M Q) ∧
    (∀ (d : Nat) (a : Nat) (x : Nat) (L : List Value) (M : Mem) (Q : Option Value → Mem → Prop), Wp d 33 25 (.ref x :: L) [.ref a] M Q ↔ Wp d 33 26 (.ref x :: L) [.ref x, .ref a] M Q) ∧
    (∀ (d : Nat) (a : Nat) (b : Nat) (L : List Value) (M : Mem) (Q : Option Value → Mem → Prop), Wp d 33 26 L [.ref a, .ref b] M Q ↔ (isK a 8 = true ∧ Wp d 33 29 L [.int (M a 1), .ref b] M Q)) ∧
    (∀ (d : Nat) (a : Int32) (b : Nat) (v0 : Value) (v1 : Value) (v2 : Value) (v3 : Value) (x : Int32) (L : List Value) (M : Mem) (Q : Option Value → Mem → Prop), Wp d 33 29 (v0 :: v1 :: v2 :: v3 :: .int x :: L) [.int a, .ref b] M Q ↔ Wp d 33 31 (v0 :: v1 :: v2 :: v3 :: .int x :: L) [.int x, .int a, .ref b] M Q) ∧
    (∀ (d : Nat) (a : Int32) (b : Int32) (c : Nat) (L : List Value) (M : Mem) (Q : Option Value → Mem → Prop), Wp (d + 1) 33 31 L [.int a, .int b, .ref c] M Q ↔ (isK c 8 = true ∧ Wp d 36 0 [.ref c, .int b, .int a] [] M (fun r M2 => Wp (d + 1) 33 34 L (r.toList ++ []) M2 Q))) ∧
    (∀ (d : Nat) (L : List Value) (M : Mem) (Q : Option Value → Mem → Prop), Wp d 33 34 L [] M Q ↔ Q none M) ∧
    (∀ (d : Nat) (x : Nat) (L : List Value) (M : Mem) (Q : Option Value → Mem → Prop), Wp d 33 35 (.ref x :: L) [] M Q ↔ Wp d 33 36 (.ref x :: L) [.ref x] M Q) ∧
    (∀ (d : Nat) (a : Nat) (L : List Value) (M : Mem) (Q : Option Value → Mem → Prop), Wp d 33 36 L [.ref a] M Q ↔ Wp d 33 37 L [.ref a, .ref a] M Q) ∧
    (∀ (d : Nat) (a : Nat) (b : Nat) (L : List Value) (M : Mem) (Q : Option Value → Mem → Prop), Wp d 33 37 L [.ref a, .ref b] M Q ↔ (isK a 8 = true ∧ Wp d 33 40 L [.int (M a 1), .ref b] M Q)) ∧
    (∀ (d : Nat) (a : Int32) (b : Nat) (L : List Value) (M : Mem) (Q : Option Value → Mem → Prop), Wp d 33 40 L [.int a, .ref b] M Q ↔ Wp d 33 41 L [.int 1, .int a, .ref b] M Q) ∧
    (∀ (d : Nat) (a : Int32) (b : Int32) (c : Nat) (L : List Value) (M : Mem) (Q : Option Value → Mem → Prop), Wp d 33 41 L [.int a, .int b, .ref c] M Q ↔ Wp d 33 42 L [.int (b + a), .ref c] M Q) ∧
    (∀ (d : Nat) (a : Int32) (b : Nat) (L : List Value) (M : Mem) (Q : Option Value → Mem → Prop), Wp d 33 42 L [.int a, .ref b] M Q ↔ (isK b 8 = true ∧ Wp d 33 45 L [] (up2 M b 1 a) Q)) ∧
    (∀ (d : Nat) (x : Nat) (L : List Value) (M : Mem) (Q : Option Value → Mem → Prop), Wp d 33 45 (.ref x :: L) [] M Q ↔ Wp d 33 46 (.ref x :: L) [.ref x] M Q) ∧
    (∀ (d : Nat) (a : Nat) (v0 : Value) (x : Nat) (L : List Value) (M : Mem) (Q : Option Value → Mem → Prop), Wp d 33 46 (v0 :: .ref x :: L) [.ref a] M Q ↔ Wp d 33 47 (v0 :: .ref x :: L) [.ref x, .ref a] M Q) ∧
    (∀ (d : Nat) (a : Nat) (b : Nat) (v0 : Value) (v1 : Value) (v2 : Value) (x : Int32) (L : List Value) (M : Mem) (Q : Option Value → Mem → Prop), Wp d 33 47 (v0 :: v1 :: v2 :: .int x :: L) [.ref a, .ref b] M Q ↔ Wp d 33 48 (v0 :: v1 :: v2 :: .int x :: L) [.int x, .ref a, .ref b] M Q) ∧
    (∀ (d : Nat) (a : Int32) (b : Nat) (c : Nat) (v0 : Value) (v1 : Value) (x : Nat) (L : List Value) (M : Mem) (Q : Option Value → Mem → Prop), Wp d 33 48 (v0 :: v1 :: .ref x :: L) [.int a, .ref b, .ref c] M Q ↔ Wp d 33 49 (v0 :: v1 :: .ref x :: L) [.ref x, .int a, .ref b, .ref c] M Q) ∧
    (∀ (d : Nat) (a : Nat) (b : Int32) (c : Nat) (d2 : Nat) (L : List Value) (M : Mem) (Q : Option Value → Mem → Prop), Wp (d + 1) 33 49 L [.ref a, .int b, .ref c, .ref d2] M Q ↔ (isK d2 8 = true ∧ Wp d 37 0 [.ref d2, .ref c, .int b, .ref a, .null, .null, .null] [] M (fun r M2 => Wp (d + 1) 33 52 L (r.toList ++ []) M2 Q))) ∧
    (∀ (d : Nat) (x : Nat) (L : List Value) (M : Mem) (Q : Option Value → Mem → Prop), Wp d 33 52 (.ref x :: L) [] M Q ↔ Wp d 33 53 (.ref x :: L) [.ref x] M Q) ∧
    (∀ (d : Nat) (a : Nat) (L : List Value) (M : Mem) (Q : Option Value → Mem → Prop), Wp d 33 53 L [.ref a] M Q ↔ (isK a 8 = true ∧ Wp d 33 56 L [.int (M a 2)] M Q)) ∧
    (∀ (d : Nat) (a : Int32) (L : List Value) (M : Mem) (Q : Option Value → Mem → Prop), Wp d 33 56 L [.int a] M Q ↔ (if a = 0 then Wp d 33 59 L [] M Q else Wp d 33 64 L [] M Q)) ∧
    (∀ (d : Nat) (x : Nat) (L : List Value) (M : Mem) (Q : Option Value → Mem → Prop), Wp d 33 59 (.ref x :: L) [] M Q ↔ Wp d 33 60 (.ref x :: L) [.ref x] M Q) ∧
    (∀ (d : Nat) (a : Nat) (v0 : Value) (x : Nat) (L : List Value) (M : Mem) (Q : Option Value → Mem → Prop), Wp d 33 60 (v0 :: .ref x :: L) [.ref a] M Q ↔ Wp d 33 61 (v0 :: .ref x :: L) [.ref x, .ref a] M Q) ∧
    (∀ (d : Nat) (a : Nat) (b : Nat) (L : List Value) (M : Mem) (Q : Option Value → Mem → Prop), Wp (d + 1) 33 61 L [.ref a, .ref b] M Q ↔ (isK b 8 = true ∧ Wp d 40 0 [.ref b, .ref a] [] M (fun r M2 => Wp (d + 1) 33 64 L (r.toList ++ []) M2 Q))) ∧
    (∀ (d : Nat) (x : Nat) (L : List Value) (M : Mem) (Q : Option Value → Mem → Prop), Wp d 33 64 (.ref x :: L) [] M Q ↔ Wp d 33 65 (.ref x :: L) [.ref x] M Q) ∧
    (∀ (d : Nat) (a : Nat) (L : List Value) (M : Mem) (Q : Option Value → Mem → Prop), Wp d 33 65 L [.ref a] M Q ↔ (isK a 8 = true ∧ Wp d 33 68 L [.int (M a 2)] M Q)) ∧
    (∀ (d : Nat) (a : Int32) (L : List Value) (M : Mem) (Q : Option Value → Mem → Prop), Wp d 33 68 L [.int a] M Q ↔ (if a = 0 then Wp d 33 71 L [] M Q else Wp d 33 94 L [] M Q)) ∧
    (∀ (d : Nat) (v0 : Value) (v1 : Value) (x : Nat) (L : List Value) (M : Mem) (Q : Option Value → Mem → Prop), Wp d 33 71 (v0 :: v1 :: .ref x :: L) [] M Q ↔ Wp d 33 72 (v0 :: v1 :: .ref x :: L) [.ref x] M Q) ∧
    (∀ (d : Nat) (a : Nat) (v0 : Value) (v1 : Value) (v2 : Value) (x : Int32) (L : List Value) (M : Mem) (Q : Option Value → Mem → Prop), Wp d 33 72 (v0 :: v1 :: v2 :: .int x :: L) [.ref a] M Q ↔ Wp d 33 73 (v0 :: v1 :: v2 :: .int x :: L) [.int x, .ref a] M Q) ∧
    (∀ (d : Nat) (a : Int32) (b : Nat) (x : Nat) (L : List Value) (M : Mem) (Q : Option Value → Mem → Prop), Wp d 33 73 (.ref x :: L) [.int a, .ref b] M Q ↔ Wp d 33 74 (.ref x :: L) [.ref x, .int a, .ref b] M Q) ∧
    (∀ (d : Nat) (a : Nat) (b : Int32) (c : Nat) (L : List Value) (M : Mem) (Q : Option Value → Mem → Prop), Wp d 33 74 L [.ref a, .int b, .ref c] M Q ↔ (isK a 8 = true ∧ Wp d 33 77 L [.ref (rt a 0), .int b, .ref c] M Q)) ∧
    (∀ (d : Nat) (a : Nat) (b : Int32) (c : Nat) (L : List Value) (M : Mem) (Q : Option Value → Mem → Prop), Wp d 33 77 L [.ref a, .int b, .ref c] M Q ↔ Wp d 33 78 L [.int 0, .ref a, .int b, .ref c] M Q) ∧
    (∀ (d : Nat) (a : Int32) (b : Nat) (c : Int32) (d2 : Nat) (L : List Value) (M : Mem) (Q : Option Value → Mem → Prop), Wp d 33 78 L [.int a, .ref b, .int c, .ref d2] M Q ↔ ((isR b = true ∧ inr a (lnm M b)) ∧ Wp d 33 79 L [.int (M b a.toNatClampNeg), .int c, .ref d2] M Q)) ∧
    (∀ (d : Nat) (a : Int32) (b : Int32) (c : Nat) (x : Nat) (L : List Value) (M : Mem) (Q : Option Value → Mem → Prop), Wp d 33 79 (.ref x :: L) [.int a, .int b, .ref c] M Q ↔ Wp d 33 80 (.ref x :: L) [.ref x, .int a, .int b, .ref c] M Q) ∧
    (∀ (d : Nat) (a : Nat) (b : Int32) (c : Int32) (d2 : Nat) (L : List Value) (M : Mem) (Q : Option Value → Mem → Prop), Wp d 33 80 L [.ref a, .int b, .int c, .ref d2] M Q ↔ (isK a 8 = true ∧ Wp d 33 83 L [.ref (rt a 0), .int b, .int c, .ref d2] M Q)) ∧
    (∀ (d : Nat) (a : Nat) (b : Int32) (c : Int32) (d2 : Nat) (L : List Value) (M : Mem) (Q : Option Value → Mem → Prop), Wp d 33 83 L [.ref a, .int b, .int c, .ref d2] M Q ↔ Wp d 33 84 L [.int 1, .ref a, .int b, .int c, .ref d2] M Q) ∧
    (∀ (d : Nat) (a : Int32) (b : Nat) (c : Int32) (d2 : Int32) (e : Nat) (L : List Value) (M : Mem) (Q : Option Value → Mem → Prop), Wp d 33 84 L [.int a, .ref b, .int c, .int d2, .ref e] M Q ↔ ((isR b = true ∧ inr a (lnm M b)) ∧ Wp d 33 85 L [.int (M b a.toNatClampNeg), .int c, .int d2, .ref e] M Q)) ∧
    (∀ (d : Nat) (a : Int32) (b : Int32) (c : Int32) (d2 : Nat) (x : Nat) (L : List Value) (M : Mem) (Q : Option Value → Mem → Prop), Wp d 33 85 (.ref x :: L) [.int a, .int b, .int c, .ref d2] M Q ↔ Wp d 33 86 (.ref x :: L) [.ref x, .int a, .int b, .int c, .ref d2] M Q) ∧
    (∀ (d : Nat) (a : Nat) (b : Int32) (c : Int32) (d2 : Int32) (e : Nat) (L : List Value) (M : Mem) (Q : Option Value → Mem → Prop), Wp d 33 86 L [.ref a, .int b, .int c, .int d2, .ref e] M Q ↔ (isK a 8 = true ∧ Wp d 33 89 L [.ref (rt a 0), .int b, .int c, .int d2, .ref e] M Q)) ∧
    (∀ (d : Nat) (a : Nat) (b : Int32) (c : Int32) (d2 : Int32) (e : Nat) (L : List Value) (M : Mem) (Q : Option Value → Mem → Prop), Wp d 33 89 L [.ref a, .int b, .int c, .int d2, .ref e] M Q ↔ Wp d 33 90 L [.int 2, .ref a, .int b, .int c, .int d2, .ref e] M Q) ∧
    (∀ (d : Nat) (a : Int32) (b : Nat) (c : Int32) (d2 : Int32) (e : Int32) (f : Nat) (L : List Value) (M : Mem) (Q : Option Value → Mem → Prop), Wp d 33 90 L [.int a, .ref b, .int c, .int d2, .int e, .ref f] M Q ↔ ((isR b = true ∧ inr a (lnm M b)) ∧ Wp d 33 91 L [.int (M b a.toNatClampNeg), .int c, .int d2, .int e, .ref f] M Q)) ∧
    (∀ (d : Nat) (a : Int32) (b : Int32) (c : Int32) (d2 : Int32) (e : Nat) (L : List Value) (M : Mem) (Q : Option Value → Mem → Prop), Wp (d + 1) 33 91 L [.int a, .int b, .int c, .int d2, .ref e] M Q ↔ (isK e 1 = true ∧ Wp d 4 0 [.ref e, .int d2, .int c, .int b, .int a] [] M (fun r M2 => Wp (d + 1) 33 94 L (r.toList ++ []) M2 Q))) ∧
    (∀ (d : Nat) (L : List Value) (M : Mem) (Q : Option Value → Mem → Prop), Wp d 33 94 L [] M Q ↔ Q none M) := by
  refine ⟨?_, ?_, ?_, ?_, ?_, ?_, ?_, ?_, ?_, ?_, ?_, ?_, ?_, ?_, ?_, ?_, ?_, ?_, ?_, ?_, ?_, ?_, ?_, ?_, ?_, ?_, ?_, ?_, ?_, ?_, ?_, ?_, ?_, ?_, ?_, ?_, ?_, ?_, ?_, ?_, ?_, ?_, ?_, ?_, ?_, ?_, ?_, ?_, ?_, ?_, ?_, ?_, ?_, ?_⟩
  · intro d v0 x L M Q; exact Wp_sim (by decide +kernel : decode (cd 33) 0 = .ok (.aload_n 1, 1)) rfl rfl
  · intro d a x L M Q; exact Wp_sim (by decide +kernel : decode (cd 33) 1 = .ok (.aload_n 0, 1)) rfl rfl
  · intro d a b L M Q; exact q_getI (p := 49) (by decide +kernel : decode (cd 33) 2 = .ok (.getfield 24, 3)) (by decide +kernel) (by decide +kernel)
  · intro d a b L M Q; exact q_invV (pz := 361) (n := 1) (c := 5) (m := 2) (k := b) (As := [.int a]) (rest := []) (by decide +kernel : decode (cd 33) 5 = .ok (.invokevirtual 43, 3)) (by decide +kernel) (by decide +kernel) rfl rfl (Nat.le_of_ble_eq_true rfl) (Nat.le_of_ble_eq_true rfl) rfl
  · intro d a L M Q; exact q_invS (pz := 369) (n := 1) (m := 1) (As := [.int a]) (rest := []) (by decide +kernel : decode (cd 33) 8 = .ok (.invokestatic 47, 3)) (by decide +kernel) (by decide +kernel) (by decide +kernel) rfl rfl (Nat.le_of_ble_eq_true rfl) (Nat.le_of_ble_eq_true rfl) rfl
  · intro d a v0 v1 v2 x L M Q; exact Wp_sim (by decide +kernel : decode (cd 33) 11 = .ok (.istore_n 3, 1)) rfl rfl
  · intro d v0 v1 v2 x L M Q; exact Wp_sim (by decide +kernel : decode (cd 33) 12 = .ok (.iload_n 3, 1)) rfl rfl
  · intro d a v0 v1 x L M Q; exact Wp_sim (by decide +kernel : decode (cd 33) 13 = .ok (.aload_n 2, 1)) rfl rfl
  · intro d a b L M Q; exact q_invS (pz := 372) (n := 2) (m := 2) (As := [.int b, .ref a]) (rest := []) (by decide +kernel : decode (cd 33) 14 = .ok (.invokestatic 50, 3)) (by decide +kernel) (by decide +kernel) (by decide +kernel) rfl rfl (Nat.le_of_ble_eq_true rfl) (Nat.le_of_ble_eq_true rfl) rfl
  · intro d a v0 v1 v2 v3 x L M Q; exact Wp_sim (by decide +kernel : decode (cd 33) 17 = .ok (.istore 4, 2)) rfl rfl
  · intro d v0 v1 v2 v3 x L M Q; exact Wp_sim (by decide +kernel : decode (cd 33) 19 = .ok (.iload 4, 2)) rfl rfl
  · intro d a L M Q; exact q_zeq (by decide +kernel : decode (cd 33) 21 = .ok (.ifCond .eq 14, 3)) (by decide)
  · intro d x L M Q; exact Wp_sim (by decide +kernel : decode (cd 33) 24 = .ok (.aload_n 0, 1)) rfl rfl
  · intro d a x L M Q; exact Wp_sim (by decide +kernel : decode (cd 33) 25 = .ok (.aload_n 0, 1)) rfl rfl
  · intro d a b L M Q; exact q_getI (p := 49) (by decide +kernel : decode (cd 33) 26 = .ok (.getfield 24, 3)) (by decide +kernel) (by decide +kernel)
  · intro d a b v0 v1 v2 v3 x L M Q; exact Wp_sim (by decide +kernel : decode (cd 33) 29 = .ok (.iload 4, 2)) rfl rfl
  · intro d a b c L M Q; exact q_invV (pz := 379) (n := 2) (c := 8) (m := 3) (k := c) (As := [.int b, .int a]) (rest := []) (by decide +kernel : decode (cd 33) 31 = .ok (.invokevirtual 54, 3)) (by decide +kernel) (by decide +kernel) rfl rfl (Nat.le_of_ble_eq_true rfl) (Nat.le_of_ble_eq_true rfl) rfl
  · intro d L M Q; exact q_vret (by decide +kernel : decode (cd 33) 34 = .ok (.return_ , 1)) (by decide +kernel)
  · intro d x L M Q; exact Wp_sim (by decide +kernel : decode (cd 33) 35 = .ok (.aload_n 0, 1)) rfl rfl
  · intro d a L M Q; exact Wp_sim (by decide +kernel : decode (cd 33) 36 = .ok (.dup , 1)) rfl rfl
  · intro d a b L M Q; exact q_getI (p := 49) (by decide +kernel : decode (cd 33) 37 = .ok (.getfield 24, 3)) (by decide +kernel) (by decide +kernel)
  · intro d a b L M Q; exact Wp_sim (by decide +kernel : decode (cd 33) 40 = .ok (.iconst 1, 1)) rfl rfl
  · intro d a b c L M Q; exact Wp_sim (by decide +kernel : decode (cd 33) 41 = .ok (.iadd , 1)) rfl rfl
  · intro d a b L M Q; exact q_putI (p := 49) (by decide +kernel : decode (cd 33) 42 = .ok (.putfield 24, 3)) (by decide +kernel) (by decide +kernel)
  · intro d x L M Q; exact Wp_sim (by decide +kernel : decode (cd 33) 45 = .ok (.aload_n 0, 1)) rfl rfl
  · intro d a v0 x L M Q; exact Wp_sim (by decide +kernel : decode (cd 33) 46 = .ok (.aload_n 1, 1)) rfl rfl
  · intro d a b v0 v1 v2 x L M Q; exact Wp_sim (by decide +kernel : decode (cd 33) 47 = .ok (.iload_n 3, 1)) rfl rfl
  · intro d a b c v0 v1 x L M Q; exact Wp_sim (by decide +kernel : decode (cd 33) 48 = .ok (.aload_n 2, 1)) rfl rfl
  · intro d a b c d2 L M Q; exact q_invV (pz := 383) (n := 3) (c := 8) (m := 7) (k := d2) (As := [.ref c, .int b, .ref a]) (rest := []) (by decide +kernel : decode (cd 33) 49 = .ok (.invokevirtual 58, 3)) (by decide +kernel) (by decide +kernel) rfl rfl (Nat.le_of_ble_eq_true rfl) (Nat.le_of_ble_eq_true rfl) rfl
  · intro d x L M Q; exact Wp_sim (by decide +kernel : decode (cd 33) 52 = .ok (.aload_n 0, 1)) rfl rfl
  · intro d a L M Q; exact q_getI (p := 50) (by decide +kernel : decode (cd 33) 53 = .ok (.getfield 27, 3)) (by decide +kernel) (by decide +kernel)
  · intro d a L M Q; exact q_zne (by decide +kernel : decode (cd 33) 56 = .ok (.ifCond .ne 8, 3)) (by decide)
  · intro d x L M Q; exact Wp_sim (by decide +kernel : decode (cd 33) 59 = .ok (.aload_n 0, 1)) rfl rfl
  · intro d a v0 x L M Q; exact Wp_sim (by decide +kernel : decode (cd 33) 60 = .ok (.aload_n 1, 1)) rfl rfl
  · intro d a b L M Q; exact q_invV (pz := 400) (n := 1) (c := 8) (m := 2) (k := b) (As := [.ref a]) (rest := []) (by decide +kernel : decode (cd 33) 61 = .ok (.invokevirtual 62, 3)) (by decide +kernel) (by decide +kernel) rfl rfl (Nat.le_of_ble_eq_true rfl) (Nat.le_of_ble_eq_true rfl) rfl
  · intro d x L M Q; exact Wp_sim (by decide +kernel : decode (cd 33) 64 = .ok (.aload_n 0, 1)) rfl rfl
  · intro d a L M Q; exact q_getI (p := 50) (by decide +kernel : decode (cd 33) 65 = .ok (.getfield 27, 3)) (by decide +kernel) (by decide +kernel)
  · intro d a L M Q; exact q_zne (by decide +kernel : decode (cd 33) 68 = .ok (.ifCond .ne 26, 3)) (by decide)
  · intro d v0 v1 x L M Q; exact Wp_sim (by decide +kernel : decode (cd 33) 71 = .ok (.aload_n 2, 1)) rfl rfl
  · intro d a v0 v1 v2 x L M Q; exact Wp_sim (by decide +kernel : decode (cd 33) 72 = .ok (.iload_n 3, 1)) rfl rfl
  · intro d a b x L M Q; exact Wp_sim (by decide +kernel : decode (cd 33) 73 = .ok (.aload_n 0, 1)) rfl rfl
  · intro d a b c L M Q; exact q_getR (p := 48) (by decide +kernel : decode (cd 33) 74 = .ok (.getfield 9, 3)) (by decide +kernel) (by decide +kernel)
  · intro d a b c L M Q; exact Wp_sim (by decide +kernel : decode (cd 33) 77 = .ok (.iconst 0, 1)) rfl rfl
  · intro d a b c d2 L M Q; exact q_ald (by decide +kernel : decode (cd 33) 78 = .ok (.iaload , 1))
  · intro d a b c x L M Q; exact Wp_sim (by decide +kernel : decode (cd 33) 79 = .ok (.aload_n 0, 1)) rfl rfl
  · intro d a b c d2 L M Q; exact q_getR (p := 48) (by decide +kernel : decode (cd 33) 80 = .ok (.getfield 9, 3)) (by decide +kernel) (by decide +kernel)
  · intro d a b c d2 L M Q; exact Wp_sim (by decide +kernel : decode (cd 33) 83 = .ok (.iconst 1, 1)) rfl rfl
  · intro d a b c d2 e L M Q; exact q_ald (by decide +kernel : decode (cd 33) 84 = .ok (.iaload , 1))
  · intro d a b c d2 x L M Q; exact Wp_sim (by decide +kernel : decode (cd 33) 85 = .ok (.aload_n 0, 1)) rfl rfl
  · intro d a b c d2 e L M Q; exact q_getR (p := 48) (by decide +kernel : decode (cd 33) 86 = .ok (.getfield 9, 3)) (by decide +kernel) (by decide +kernel)
  · intro d a b c d2 e L M Q; exact Wp_sim (by decide +kernel : decode (cd 33) 89 = .ok (.iconst 2, 1)) rfl rfl
  · intro d a b c d2 e f L M Q; exact q_ald (by decide +kernel : decode (cd 33) 90 = .ok (.iaload , 1))
  · intro d a b c d2 e L M Q; exact q_invV (pz := 404) (n := 4) (c := 1) (m := 5) (k := e) (As := [.int d2, .int c, .int b, .int a]) (rest := []) (by decide +kernel : decode (cd 33) 91 = .ok (.invokevirtual 65, 3)) (by decide +kernel) (by decide +kernel) rfl rfl (Nat.le_of_ble_eq_true rfl) (Nat.le_of_ble_eq_true rfl) rfl
  · intro d L M Q; exact q_vret (by decide +kernel : decode (cd 33) 94 = .ok (.return_ , 1)) (by decide +kernel)

/- 34: Reader.kindOf -/
set_option maxRecDepth 10000 in
theorem e34 : (∀ (d : Nat) (x : Int32) (L : List Value) (M : Mem) (Q : Option Value → Mem → Prop), Wp d 34 0 (.int x :: L) [] M Q ↔ Wp d 34 1 (.int x :: L) [.int x] M Q) ∧
    (∀ (d : Nat) (a : Int32) (L : List Value) (M : Mem) (Q : Option Value → Mem → Prop), Wp d 34 1 L [.int a] M Q ↔ (if a = 99 then Wp d 34 46 L [] M Q else (if a = 100 then Wp d 34 48 L [] M Q else (if a = 112 then Wp d 34 50 L [] M Q else (if a = 121 then Wp d 34 44 L [] M Q else Wp d 34 52 L [] M Q))))) ∧
    (∀ (d : Nat) (L : List Value) (M : Mem) (Q : Option Value → Mem → Prop), Wp d 34 44 L [] M Q ↔ Wp d 34 45 L [.int 0] M Q) ∧
    (∀ (d : Nat) (a : Int32) (L : List Value) (M : Mem) (Q : Option Value → Mem → Prop), Wp d 34 45 L [.int a] M Q ↔ Q (some (.int a)) M) ∧
    (∀ (d : Nat) (L : List Value) (M : Mem) (Q : Option Value → Mem → Prop), Wp d 34 46 L [] M Q ↔ Wp d 34 47 L [.int 1] M Q) ∧
    (∀ (d : Nat) (a : Int32) (L : List Value) (M : Mem) (Q : Option Value → Mem → Prop), Wp d 34 47 L [.int a] M Q ↔ Q (some (.int a)) M) ∧
    (∀ (d : Nat) (L : List Value) (M : Mem) (Q : Option Value → Mem → Prop), Wp d 34 48 L [] M Q ↔ Wp d 34 49 L [.int 2] M Q) ∧
    (∀ (d : Nat) (a : Int32) (L : List Value) (M : Mem) (Q : Option Value → Mem → Prop), Wp d 34 49 L [.int a] M Q ↔ Q (some (.int a)) M) ∧
    (∀ (d : Nat) (L : List Value) (M : Mem) (Q : Option Value → Mem → Prop), Wp d 34 50 L [] M Q ↔ Wp d 34 51 L [.int 3] M Q) ∧
    (∀ (d : Nat) (a : Int32) (L : List Value) (M : Mem) (Q : Option Value → Mem → Prop), Wp d 34 51 L [.int a] M Q ↔ Q (some (.int a)) M) ∧
    (∀ (d : Nat) (L : List Value) (M : Mem) (Q : Option Value → Mem → Prop), Wp d 34 52 L [] M Q ↔ Wp d 34 53 L [.int (-1)] M Q) ∧
    (∀ (d : Nat) (a : Int32) (L : List Value) (M : Mem) (Q : Option Value → Mem → Prop), Wp d 34 53 L [.int a] M Q ↔ Q (some (.int a)) M) := by
  refine ⟨?_, ?_, ?_, ?_, ?_, ?_, ?_, ?_, ?_, ?_, ?_, ?_⟩
  · intro d x L M Q; exact Wp_sim (by decide +kernel : decode (cd 34) 0 = .ok (.iload_n 0, 1)) rfl rfl
  · intro d a L M Q
    by_cases h99 : a = 99
    · subst h99; rw [if_pos rfl]; exact q_lsw (by decide +kernel : decode (cd 34) 1 = .ok (.lookupswitch 51 #[(99, 45), (100, 47), (112, 49), (121, 43)], 43)) (by decide +kernel) (by decide +kernel)
    rw [if_neg h99]
    by_cases h100 : a = 100
    · subst h100; rw [if_pos rfl]; exact q_lsw (by decide +kernel : decode (cd 34) 1 = .ok (.lookupswitch 51 #[(99, 45), (100, 47), (112, 49), (121, 43)], 43)) (by decide +kernel) (by decide +kernel)
    rw [if_neg h100]
    by_cases h112 : a = 112
    · subst h112; rw [if_pos rfl]; exact q_lsw (by decide +kernel : decode (cd 34) 1 = .ok (.lookupswitch 51 #[(99, 45), (100, 47), (112, 49), (121, 43)], 43)) (by decide +kernel) (by decide +kernel)
    rw [if_neg h112]
    by_cases h121 : a = 121
    · subst h121; rw [if_pos rfl]; exact q_lsw (by decide +kernel : decode (cd 34) 1 = .ok (.lookupswitch 51 #[(99, 45), (100, 47), (112, 49), (121, 43)], 43)) (by decide +kernel) (by decide +kernel)
    rw [if_neg h121]
    refine q_lsw (by decide +kernel : decode (cd 34) 1 = .ok (.lookupswitch 51 #[(99, 45), (100, 47), (112, 49), (121, 43)], 43)) (by decide +kernel) ?_
    show _ + Op.lookupswitch.offset [(99, 45), (100, 47), (112, 49), (121, 43)] _ _ = _
    rw [lv_osw h99 (by decide), lv_osw h100 (by decide), lv_osw h112 (by decide), lv_osw h121 (by decide)]
    rfl
  · intro d L M Q; exact Wp_sim (by decide +kernel : decode (cd 34) 44 = .ok (.iconst 0, 1)) rfl rfl
  · intro d a L M Q; exact q_iret (by decide +kernel : decode (cd 34) 45 = .ok (.ireturn , 1)) (by decide +kernel)
  · intro d L M Q; exact Wp_sim (by decide +kernel : decode (cd 34) 46 = .ok (.iconst 1, 1)) rfl rfl
  · intro d a L M Q; exact q_iret (by decide +kernel : decode (cd 34) 47 = .ok (.ireturn , 1)) (by decide +kernel)
  · intro d L M Q; exact Wp_sim (by decide +kernel : decode (cd 34) 48 = .ok (.iconst 2, 1)) rfl rfl
  · intro d a L M Q; exact q_iret (by decide +kernel : decode (cd 34) 49 = .ok (.ireturn , 1)) (by decide +kernel)
  · intro d L M Q; exact Wp_sim (by decide +kernel : decode (cd 34) 50 = .ok (.iconst 3, 1)) rfl rfl
  · intro d a L M Q; exact q_iret (by decide +kernel : decode (cd 34) 51 = .ok (.ireturn , 1)) (by decide +kernel)
  · intro d L M Q; exact Wp_sim (by decide +kernel : decode (cd 34) 52 = .ok (.iconst (-1), 1)) rfl rfl
  · intro d a L M Q; exact q_iret (by decide +kernel : decode (cd 34) 53 = .ok (.ireturn , 1)) (by decide +kernel)

/- 35: Reader.faultOfWord -/
set_option maxRecDepth 10000 in
theorem e35 : (∀ (d : Nat) (x : Int32) (L : List Value) (M : Mem) (Q : Option Value → Mem → Prop), Wp d 35 0 (.int x :: L) [] M Q ↔ Wp d 35 1 (.int x :: L) [.int x] M Q) ∧
    (∀ (d : Nat) (a : Int32) (L : List Value) (M : Mem) (Q : Option Value → Mem → Prop), Wp d 35 1 L [.int a] M Q ↔ Wp d 35 2 L [.int (-1), .int a] M Q) ∧
    (∀ (d : Nat) (a : Int32) (b : Int32) (L : List Value) (M : Mem) (Q : Option Value → Mem → Prop), Wp d 35 2 L [.int a, .int b] M Q ↔ (if b = a then Wp d 35 16 L [] M Q else Wp d 35 5 L [] M Q)) ∧
    (∀ (d : Nat) (v0 : Value) (x : Nat) (L : List Value) (M : Mem) (Q : Option Value → Mem → Prop), Wp d 35 5 (v0 :: .ref x :: L) [] M Q ↔ Wp d 35 6 (v0 :: .ref x :: L) [.ref x] M Q) ∧
    (∀ (d : Nat) (a : Nat) (L : List Value) (M : Mem) (Q : Option Value → Mem → Prop), Wp d 35 6 L [.ref a] M Q ↔ (isK a 1 = true ∧ Wp d 35 9 L [.int (M a 8)] M Q)) ∧
    (∀ (d : Nat) (a : Int32) (L : List Value) (M : Mem) (Q : Option Value → Mem → Prop), Wp d 35 9 L [.int a] M Q ↔ (if a = 0 then Wp d 35 12 L [] M Q else Wp d 35 18 L [] M Q)) ∧
    (∀ (d : Nat) (x : Int32) (L : List Value) (M : Mem) (Q : Option Value → Mem → Prop), Wp d 35 12 (.int x :: L) [] M Q ↔ Wp d 35 13 (.int x :: L) [.int x] M Q) ∧
    (∀ (d : Nat) (a : Int32) (L : List Value) (M : Mem) (Q : Option Value → Mem → Prop), Wp d 35 13 L [.int a] M Q ↔ (if a = 0 then Wp d 35 18 L [] M Q else Wp d 35 16 L [] M Q)) ∧
    (∀ (d : Nat) (L : List Value) (M : Mem) (Q : Option Value → Mem → Prop), Wp d 35 16 L [] M Q ↔ Wp d 35 17 L [.int 1] M Q) ∧
    (∀ (d : Nat) (a : Int32) (L : List Value) (M : Mem) (Q : Option Value → Mem → Prop), Wp d 35 17 L [.int a] M Q ↔ Q (some (.int a)) M) ∧
    (∀ (d : Nat) (v0 : Value) (x : Nat) (L : List Value) (M : Mem) (Q : Option Value → Mem → Prop), Wp d 35 18 (v0 :: .ref x :: L) [] M Q ↔ Wp d 35 19 (v0 :: .ref x :: L) [.ref x] M Q) ∧
    (∀ (d : Nat) (a : Nat) (x : Int32) (L : List Value) (M : Mem) (Q : Option Value → Mem → Prop), Wp d 35 19 (.int x :: L) [.ref a] M Q ↔ Wp d 35 20 (.int x :: L) [.int x, .ref a] M Q) ∧
    (∀ (d : Nat) (a : Int32) (b : Nat) (L : List Value) (M : Mem) (Q : Option Value → Mem → Prop), Wp (d + 1) 35 20 L [.int a, .ref b] M Q ↔ (isK b 1 = true ∧ Wp d 3 0 [.ref b, .int a] [] M (fun r M2 => Wp (d + 1) 35 23 L (r.toList ++ []) M2 Q))) ∧
    (∀ (d : Nat) (a : Int32) (L : List Value) (M : Mem) (Q : Option Value → Mem → Prop), Wp d 35 23 L [.int a] M Q ↔ (if a = 0 then Wp d 35 30 L [] M Q else Wp d 35 26 L [] M Q)) ∧
    (∀ (d : Nat) (L : List Value) (M : Mem) (Q : Option Value → Mem → Prop), Wp d 35 26 L [] M Q ↔ Wp d 35 27 L [.int 3] M Q) ∧
    (∀ (d : Nat) (a : Int32) (L : List Value) (M : Mem) (Q : Option Value → Mem → Prop), Wp d 35 27 L [.int a] M Q ↔ Wp d 35 31 L [.int a] M Q) ∧
    (∀ (d : Nat) (L : List Value) (M : Mem) (Q : Option Value → Mem → Prop), Wp d 35 30 L [] M Q ↔ Wp d 35 31 L [.int 0] M Q) ∧
    (∀ (d : Nat) (a : Int32) (L : List Value) (M : Mem) (Q : Option Value → Mem → Prop), Wp d 35 31 L [.int a] M Q ↔ Q (some (.int a)) M) := by
  refine ⟨?_, ?_, ?_, ?_, ?_, ?_, ?_, ?_, ?_, ?_, ?_, ?_, ?_, ?_, ?_, ?_, ?_, ?_⟩
  · intro d x L M Q; exact Wp_sim (by decide +kernel : decode (cd 35) 0 = .ok (.iload_n 0, 1)) rfl rfl
  · intro d a L M Q; exact Wp_sim (by decide +kernel : decode (cd 35) 1 = .ok (.iconst (-1), 1)) rfl rfl
  · intro d a b L M Q; exact q_ieq (by decide +kernel : decode (cd 35) 2 = .ok (.if_icmp .eq 14, 3)) (by decide)
  · intro d v0 x L M Q; exact Wp_sim (by decide +kernel : decode (cd 35) 5 = .ok (.aload_n 1, 1)) rfl rfl
  · intro d a L M Q; exact q_getI (p := 87) (by decide +kernel : decode (cd 35) 6 = .ok (.getfield 69, 3)) (by decide +kernel) (by decide +kernel)
  · intro d a L M Q; exact q_zne (by decide +kernel : decode (cd 35) 9 = .ok (.ifCond .ne 9, 3)) (by decide)
  · intro d x L M Q; exact Wp_sim (by decide +kernel : decode (cd 35) 12 = .ok (.iload_n 0, 1)) rfl rfl
  · intro d a L M Q; exact q_zeq (by decide +kernel : decode (cd 35) 13 = .ok (.ifCond .eq 5, 3)) (by decide)
  · intro d L M Q; exact Wp_sim (by decide +kernel : decode (cd 35) 16 = .ok (.iconst 1, 1)) rfl rfl
  · intro d a L M Q; exact q_iret (by decide +kernel : decode (cd 35) 17 = .ok (.ireturn , 1)) (by decide +kernel)
  · intro d v0 x L M Q; exact Wp_sim (by decide +kernel : decode (cd 35) 18 = .ok (.aload_n 1, 1)) rfl rfl
  · intro d a x L M Q; exact Wp_sim (by decide +kernel : decode (cd 35) 19 = .ok (.iload_n 0, 1)) rfl rfl
  · intro d a b L M Q; exact q_invV (pz := 375) (n := 1) (c := 1) (m := 2) (k := b) (As := [.int a]) (rest := []) (by decide +kernel : decode (cd 35) 20 = .ok (.invokevirtual 73, 3)) (by decide +kernel) (by decide +kernel) rfl rfl (Nat.le_of_ble_eq_true rfl) (Nat.le_of_ble_eq_true rfl) rfl
  · intro d a L M Q; exact q_zeq (by decide +kernel : decode (cd 35) 23 = .ok (.ifCond .eq 7, 3)) (by decide)
  · intro d L M Q; exact Wp_sim (by decide +kernel : decode (cd 35) 26 = .ok (.iconst 3, 1)) rfl rfl
  · intro d a L M Q; exact q_goto (by decide +kernel : decode (cd 35) 27 = .ok (.goto 4, 3)) (by decide)
  · intro d L M Q; exact Wp_sim (by decide +kernel : decode (cd 35) 30 = .ok (.iconst 0, 1)) rfl rfl
  · intro d a L M Q; exact q_iret (by decide +kernel : decode (cd 35) 31 = .ok (.ireturn , 1)) (by decide +kernel)

/- 36: Reader.stopAt -/
set_option maxRecDepth 10000 in
theorem e36 : (∀ (d : Nat) (x : Nat) (L : List Value) (M : Mem) (Q : Option Value → Mem → Prop), Wp d 36 0 (.ref x :: L) [] M Q ↔ Wp d 36 1 (.ref x :: L) [.ref x] M Q) ∧
    (∀ (d : Nat) (a : Nat) (v0 : Value) (v1 : Value) (x : Int32) (L : List Value) (M : Mem) (Q : Option Value → Mem → Prop), Wp d 36 1 (v0 :: v1 :: .int x :: L) [.ref a] M Q ↔ Wp d 36 2 (v0 :: v1 :: .int x :: L) [.int x, .ref a] M Q) ∧
    (∀ (d : Nat) (a : Int32) (b : Nat) (L : List Value) (M : Mem) (Q : Option Value → Mem → Prop), Wp d 36 2 L [.int a, .ref b] M Q ↔ (isK b 8 = true ∧ Wp d 36 5 L [] (up2 M b 2 a) Q)) ∧
    (∀ (d : Nat) (x : Nat) (L : List Value) (M : Mem) (Q : Option Value → Mem → Prop), Wp d 36 5 (.ref x :: L) [] M Q ↔ Wp d 36 6 (.ref x :: L) [.ref x] M Q) ∧
    (∀ (d : Nat) (a : Nat) (v0 : Value) (x : Int32) (L : List Value) (M : Mem) (Q : Option Value → Mem → Prop), Wp d 36 6 (v0 :: .int x :: L) [.ref a] M Q ↔ Wp d 36 7 (v0 :: .int x :: L) [.int x, .ref a] M Q) ∧
    (∀ (d : Nat) (a : Int32) (b : Nat) (L : List Value) (M : Mem) (Q : Option Value → Mem → Prop), Wp d 36 7 L [.int a, .ref b] M Q ↔ (isK b 8 = true ∧ Wp d 36 10 L [] (up2 M b 3 a) Q)) ∧
    (∀ (d : Nat) (L : List Value) (M : Mem) (Q : Option Value → Mem → Prop), Wp d 36 10 L [] M Q ↔ Q none M) := by
  refine ⟨?_, ?_, ?_, ?_, ?_, ?_, ?_⟩
  · intro d x L M Q; exact Wp_sim (by decide +kernel : decode (cd 36) 0 = .ok (.aload_n 0, 1)) rfl rfl
  · intro d a v0 v1 x L M Q; exact Wp_sim (by decide +kernel : decode (cd 36) 1 = .ok (.iload_n 2, 1)) rfl rfl
  · intro d a b L M Q; exact q_putI (p := 50) (by decide +kernel : decode (cd 36) 2 = .ok (.putfield 27, 3)) (by decide +kernel) (by decide +kernel)
  · intro d x L M Q; exact Wp_sim (by decide +kernel : decode (cd 36) 5 = .ok (.aload_n 0, 1)) rfl rfl
  · intro d a v0 x L M Q; exact Wp_sim (by decide +kernel : decode (cd 36) 6 = .ok (.iload_n 1, 1)) rfl rfl
  · intro d a b L M Q; exact q_putI (p := 51) (by decide +kernel : decode (cd 36) 7 = .ok (.putfield 15, 3)) (by decide +kernel) (by decide +kernel)
  · intro d L M Q; exact q_vret (by decide +kernel : decode (cd 36) 10 = .ok (.return_ , 1)) (by decide +kernel)

/- 37: Reader.readNumbers -/
set_option maxRecDepth 10000 in
theorem e37_0 : (∀ (d : Nat) (v0 : Value) (v1 : Value) (x : Int32) (L : List Value) (M : Mem) (Q : Option Value → Mem → Prop), Wp d 37 0 (v0 :: v1 :: .int x :: L) [] M Q ↔ Wp d 37 1 (v0 :: v1 :: .int x :: L) [.int x] M Q) ∧
    (∀ (d : Nat) (a : Int32) (L : List Value) (M : Mem) (Q : Option Value → Mem → Prop), Wp d 37 1 L [.int a] M Q ↔ (if a < 0 then Wp d 37 12 L [] M Q else Wp d 37 4 L [] M Q)) ∧
    (∀ (d : Nat) (v0 : Value) (v1 : Value) (x : Int32) (L : List Value) (M : Mem) (Q : Option Value → Mem → Prop), Wp d 37 4 (v0 :: v1 :: .int x :: L) [] M Q ↔ Wp d 37 5 (v0 :: v1 :: .int x :: L) [.int x] M Q) ∧
    (∀ (d : Nat) (a : Int32) (L : List Value) (M : Mem) (Q : Option Value → Mem → Prop), Wp d 37 5 L [.int a] M Q ↔ Wp d 37 8 L [.ref 60, .int a] M Q) ∧
    (∀ (d : Nat) (a : Nat) (b : Int32) (L : List Value) (M : Mem) (Q : Option Value → Mem → Prop), Wp d 37 8 L [.ref a, .int b] M Q ↔ ((isR a = true ∨ isK a 14 = true) ∧ Wp d 37 9 L [.int (nI (lnm M a)), .int b] M Q)) ∧
    (∀ (d : Nat) (a : Int32) (b : Int32) (L : List Value) (M : Mem) (Q : Option Value → Mem → Prop), Wp d 37 9 L [.int a, .int b] M Q ↔ (if b < a then Wp d 37 13 L [] M Q else Wp d 37 12 L [] M Q)) ∧
    (∀ (d : Nat) (L : List Value) (M : Mem) (Q : Option Value → Mem → Prop), Wp d 37 12 L [] M Q ↔ Q none M) ∧
    (∀ (d : Nat) (L : List Value) (M : Mem) (Q : Option Value → Mem → Prop), Wp d 37 13 L [] M Q ↔ Wp d 37 14 L [.int 0] M Q) ∧
    (∀ (d : Nat) (a : Int32) (v0 : Value) (v1 : Value) (v2 : Value) (v3 : Value) (x : Value) (L : List Value) (M : Mem) (Q : Option Value → Mem → Prop), Wp d 37 14 (v0 :: v1 :: v2 :: v3 :: x :: L) [.int a] M Q ↔ Wp d 37 16 (v0 :: v1 :: v2 :: clr v3 :: .int a :: L) [] M Q) ∧
    (∀ (d : Nat) (a : Int32) (L : List Value) (M : Mem) (Q : Option Value → Mem → Prop), Wp d 37 18 L [.int a] M Q ↔ Wp d 37 21 L [.ref 60, .int a] M Q) ∧
    (∀ (d : Nat) (a : Nat) (b : Int32) (v0 : Value) (v1 : Value) (x : Int32) (L : List Value) (M : Mem) (Q : Option Value → Mem → Prop), Wp d 37 21 (v0 :: v1 :: .int x :: L) [.ref a, .int b] M Q ↔ Wp d 37 22 (v0 :: v1 :: .int x :: L) [.int x, .ref a, .int b] M Q) ∧
    (∀ (d : Nat) (a : Int32) (b : Nat) (c : Int32) (L : List Value) (M : Mem) (Q : Option Value → Mem → Prop), Wp d 37 22 L [.int a, .ref b, .int c] M Q ↔ ((isR b = true ∧ inr a (lnm M b)) ∧ Wp d 37 23 L [.int (M b a.toNatClampNeg), .int c] M Q)) ∧
    (∀ (d : Nat) (a : Int32) (b : Int32) (L : List Value) (M : Mem) (Q : Option Value → Mem → Prop), Wp d 37 23 L [.int a, .int b] M Q ↔ (if b < a then Wp d 37 26 L [] M Q else Wp d 37 131 L [] M Q)) ∧
    (∀ (d : Nat) (v0 : Value) (v1 : Value) (v2 : Value) (v3 : Value) (x : Int32) (L : List Value) (M : Mem) (Q : Option Value → Mem → Prop), Wp d 37 26 (v0 :: v1 :: v2 :: v3 :: .int x :: L) [] M Q ↔ Wp d 37 28 (v0 :: v1 :: v2 :: v3 :: .int x :: L) [.int x] M Q) ∧
    (∀ (d : Nat) (a : Int32) (x : Nat) (L : List Value) (M : Mem) (Q : Option Value → Mem → Prop), Wp d 37 28 (.ref x :: L) [.int a] M Q ↔ Wp d 37 29 (.ref x :: L) [.ref x, .int a] M Q) ∧
    (∀ (d : Nat) (a : Nat) (b : Int32) (L : List Value) (M : Mem) (Q : Option Value → Mem → Prop), Wp d 37 29 L [.ref a, .int b] M Q ↔ (isK a 8 = true ∧ Wp d 37 32 L [.ref (rt a 0), .int b] M Q)) ∧
    (∀ (d : Nat) (a : Nat) (b : Int32) (L : List Value) (M : Mem) (Q : Option Value → Mem → Prop), Wp d 37 32 L [.ref a, .int b] M Q ↔ ((isR a = true ∨ isK a 14 = true) ∧ Wp d 37 33 L [.int (nI (lnm M a)), .int b] M Q)) ∧
    (∀ (d : Nat) (a : Int32) (b : Int32) (L : List Value) (M : Mem) (Q : Option Value → Mem → Prop), Wp d 37 33 L [.int a, .int b] M Q ↔ (if b < a then Wp d 37 36 L [] M Q else Wp d 37 131 L [] M Q)) ∧
    (∀ (d : Nat) (x : Nat) (L : List Value) (M : Mem) (Q : Option Value → Mem → Prop), Wp d 37 36 (.ref x :: L) [] M Q ↔ Wp d 37 37 (.ref x :: L) [.ref x] M Q) ∧
    (∀ (d : Nat) (a : Nat) (L : List Value) (M : Mem) (Q : Option Value → Mem → Prop), Wp d 37 37 L [.ref a] M Q ↔ (isK a 8 = true ∧ Wp d 37 40 L [.int (M a 2)] M Q)) ∧
    (∀ (d : Nat) (a : Int32) (L : List Value) (M : Mem) (Q : Option Value → Mem → Prop), Wp d 37 40 L [.int a] M Q ↔ (if a = 0 then Wp d 37 43 L [] M Q else Wp d 37 131 L [] M Q)) ∧
    (∀ (d : Nat) (v0 : Value) (v1 : Value) (x : Int32) (L : List Value) (M : Mem) (Q : Option Value → Mem → Prop), Wp d 37 43 (v0 :: v1 :: .int x :: L) [] M Q ↔ Wp d 37 44 (v0 :: v1 :: .int x :: L) [.int x] M Q) ∧
    (∀ (d : Nat) (a : Int32) (L : List Value) (M : Mem) (Q : Option Value → Mem → Prop), Wp d 37 44 L [.int a] M Q ↔ Wp d 37 45 L [.int 3, .int a] M Q) ∧
    (∀ (d : Nat) (a : Int32) (b : Int32) (L : List Value) (M : Mem) (Q : Option Value → Mem → Prop), Wp d 37 45 L [.int a, .int b] M Q ↔ Wp d 37 46 L [.int (b * a)] M Q) ∧
    (∀ (d : Nat) (a : Int32) (v0 : Value) (v1 : Value) (v2 : Value) (v3 : Value) (x : Int32) (L : List Value) (M : Mem) (Q : Option Value → Mem → Prop), Wp d 37 46 (v0 :: v1 :: v2 :: v3 :: .int x :: L) [.int a] M Q ↔ Wp d 37 48 (v0 :: v1 :: v2 :: v3 :: .int x :: L) [.int x, .int a] M Q) ∧
    (∀ (d : Nat) (a : Int32) (b : Int32) (L : List Value) (M : Mem) (Q : Option Value → Mem → Prop), Wp d 37 48 L [.int a, .int b] M Q ↔ Wp d 37 49 L [.int (b + a)] M Q) ∧
    (∀ (d : Nat) (a : Int32) (v0 : Value) (v1 : Value) (v2 : Value) (v3 : Value) (v4 : Value) (x : Value) (L : List Value) (M : Mem) (Q : Option Value → Mem → Prop), Wp d 37 49 (v0 :: v1 :: v2 :: v3 :: v4 :: x :: L) [.int a] M Q ↔ Wp d 37 51 (v0 :: v1 :: v2 :: v3 :: clr v4 :: .int a :: L) [] M Q) ∧
    (∀ (d : Nat) (v0 : Value) (v1 : Value) (v2 : Value) (v3 : Value) (v4 : Value) (x : Int32) (L : List Value) (M : Mem) (Q : Option Value → Mem → Prop), Wp d 37 51 (v0 :: v1 :: v2 :: v3 :: v4 :: .int x :: L) [] M Q ↔ Wp d 37 53 (v0 :: v1 :: v2 :: v3 :: v4 :: .int x :: L) [.int x] M Q) ∧
    (∀ (d : Nat) (a : Int32) (L : List Value) (M : Mem) (Q : Option Value → Mem → Prop), Wp d 37 53 L [.int a] M Q ↔ Wp d 37 56 L [.ref 61, .int a] M Q) ∧
    (∀ (d : Nat) (a : Nat) (b : Int32) (L : List Value) (M : Mem) (Q : Option Value → Mem → Prop), Wp d 37 56 L [.ref a, .int b] M Q ↔ ((isR a = true ∨ isK a 14 = true) ∧ Wp d 37 57 L [.int (nI (lnm M a)), .int b] M Q)) ∧
    (∀ (d : Nat) (a : Int32) (b : Int32) (L : List Value) (M : Mem) (Q : Option Value → Mem → Prop), Wp d 37 57 L [.int a, .int b] M Q ↔ (if b < a then Wp d 37 60 L [] M Q else Wp d 37 69 L [] M Q)) ∧
    (∀ (d : Nat) (v0 : Value) (v1 : Value) (v2 : Value) (v3 : Value) (v4 : Value) (x : Int32) (L : List Value) (M : Mem) (Q : Option Value → Mem → Prop), Wp d 37 60 (v0 :: v1 :: v2 :: v3 :: v4 :: .int x :: L) [] M Q ↔ Wp d 37 62 (v0 :: v1 :: v2 :: v3 :: v4 :: .int x :: L) [.int x] M Q) ∧
    (∀ (d : Nat) (a : Int32) (L : List Value) (M : Mem) (Q : Option Value → Mem → Prop), Wp d 37 62 L [.int a] M Q ↔ Wp d 37 65 L [.ref 62, .int a] M Q) ∧
    (∀ (d : Nat) (a : Nat) (b : Int32) (L : List Value) (M : Mem) (Q : Option Value → Mem → Prop), Wp d 37 65 L [.ref a, .int b] M Q ↔ ((isR a = true ∨ isK a 14 = true) ∧ Wp d 37 66 L [.int (nI (lnm M a)), .int b] M Q)) ∧
    (∀ (d : Nat) (a : Int32) (b : Int32) (L : List Value) (M : Mem) (Q : Option Value → Mem → Prop), Wp d 37 66 L [.int a, .int b] M Q ↔ (if b < a then Wp d 37 70 L [] M Q else Wp d 37 69 L [] M Q)) ∧
    (∀ (d : Nat) (L : List Value) (M : Mem) (Q : Option Value → Mem → Prop), Wp d 37 69 L [] M Q ↔ Q none M) ∧
    (∀ (d : Nat) (v0 : Value) (v1 : Value) (x : Int32) (L : List Value) (M : Mem) (Q : Option Value → Mem → Prop), Wp d 37 70 (v0 :: v1 :: .int x :: L) [] M Q ↔ Wp d 37 71 (v0 :: v1 :: .int x :: L) [.int x] M Q) ∧
    (∀ (d : Nat) (a : Int32) (L : List Value) (M : Mem) (Q : Option Value → Mem → Prop), Wp d 37 71 L [.int a] M Q ↔ Wp d 37 72 L [.int 2, .int a] M Q) ∧
    (∀ (d : Nat) (a : Int32) (b : Int32) (L : List Value) (M : Mem) (Q : Option Value → Mem → Prop), Wp d 37 72 L [.int a, .int b] M Q ↔ (if b = a then Wp d 37 75 L [] M Q else Wp d 37 84 L [] M Q)) ∧
    (∀ (d : Nat) (v0 : Value) (v1 : Value) (v2 : Value) (v3 : Value) (x : Int32) (L : List Value) (M : Mem) (Q : Option Value → Mem → Prop), Wp d 37 75 (v0 :: v1 :: v2 :: v3 :: .int x :: L) [] M Q ↔ Wp d 37 77 (v0 :: v1 :: v2 :: v3 :: .int x :: L) [.int x] M Q) ∧
    (∀ (d : Nat) (a : Int32) (L : List Value) (M : Mem) (Q : Option Value → Mem → Prop), Wp d 37 77 L [.int a] M Q ↔ (if a = 0 then Wp d 37 80 L [] M Q else Wp d 37 84 L [] M Q)) ∧
    (∀ (d : Nat) (L : List Value) (M : Mem) (Q : Option Value → Mem → Prop), Wp d 37 80 L [] M Q ↔ Wp d 37 81 L [.int 1] M Q) ∧
    (∀ (d : Nat) (a : Int32) (L : List Value) (M : Mem) (Q : Option Value → Mem → Prop), Wp d 37 81 L [.int a] M Q ↔ Wp d 37 85 L [.int a] M Q) ∧
    (∀ (d : Nat) (L : List Value) (M : Mem) (Q : Option Value → Mem → Prop), Wp d 37 84 L [] M Q ↔ Wp d 37 85 L [.int 0] M Q) ∧
    (∀ (d : Nat) (a : Int32) (v0 : Value) (v1 : Value) (v2 : Value) (v3 : Value) (v4 : Value) (v5 : Value) (x : Value) (L : List Value) (M : Mem) (Q : Option Value → Mem → Prop), Wp d 37 85 (v0 :: v1 :: v2 :: v3 :: v4 :: v5 :: x :: L) [.int a] M Q ↔ Wp d 37 87 (v0 :: v1 :: v2 :: v3 :: v4 :: clr v5 :: .int a :: L) [] M Q) ∧
    (∀ (d : Nat) (x : Nat) (L : List Value) (M : Mem) (Q : Option Value → Mem → Prop), Wp d 37 87 (.ref x :: L) [] M Q ↔ Wp d 37 88 (.ref x :: L) [.ref x] M Q) ∧
    (∀ (d : Nat) (a : Nat) (L : List Value) (M : Mem) (Q : Option Value → Mem → Prop), Wp d 37 88 L [.ref a] M Q ↔ (isK a 8 = true ∧ Wp d 37 91 L [.ref (rt a 0)] M Q)) ∧
    (∀ (d : Nat) (a : Nat) (v0 : Value) (v1 : Value) (v2 : Value) (v3 : Value) (x : Int32) (L : List Value) (M : Mem) (Q : Option Value → Mem → Prop), Wp d 37 91 (v0 :: v1 :: v2 :: v3 :: .int x :: L) [.ref a] M Q ↔ Wp d 37 93 (v0 :: v1 :: v2 :: v3 :: .int x :: L) [.int x, .ref a] M Q) ∧
    (∀ (d : Nat) (a : Int32) (b : Nat) (x : Nat) (L : List Value) (M : Mem) (Q : Option Value → Mem → Prop), Wp d 37 93 (.ref x :: L) [.int a, .ref b] M Q ↔ Wp d 37 94 (.ref x :: L) [.ref x, .int a, .ref b] M Q) ∧
    (∀ (d : Nat) (a : Nat) (b : Int32) (c : Nat) (v0 : Value) (x : Nat) (L : List Value) (M : Mem) (Q : Option Value → Mem → Prop), Wp d 37 94 (v0 :: .ref x :: L) [.ref a, .int b, .ref c] M Q ↔ Wp d 37 95 (v0 :: .ref x :: L) [.ref x, .ref a, .int b, .ref c] M Q) ∧
    (∀ (d : Nat) (a : Nat) (b : Nat) (c : Int32) (d2 : Nat) (L : List Value) (M : Mem) (Q : Option Value → Mem → Prop), Wp d 37 95 L [.ref a, .ref b, .int c, .ref d2] M Q ↔ Wp d 37 98 L [.ref 61, .ref a, .ref b, .int c, .ref d2] M Q) ∧
    (∀ (d : Nat) (a : Nat) (b : Nat) (c : Nat) (d2 : Int32) (e : Nat) (v0 : Value) (v1 : Value) (v2 : Value) (v3 : Value) (v4 : Value) (x : Int32) (L : List Value) (M : Mem) (Q : Option Value → Mem → Prop), Wp d 37 98 (v0 :: v1 :: v2 :: v3 :: v4 :: .int x :: L) [.ref a, .ref b, .ref c, .int d2, .ref e] M Q ↔ Wp d 37 100 (v0 :: v1 :: v2 :: v3 :: v4 :: .int x :: L) [.int x, .ref a, .ref b, .ref c, .int d2, .ref e] M Q) ∧
    (∀ (d : Nat) (a : Int32) (b : Nat) (c : Nat) (d2 : Nat) (e : Int32) (f : Nat) (L : List Value) (M : Mem) (Q : Option Value → Mem → Prop), Wp d 37 100 L [.int a, .ref b, .ref c, .ref d2, .int e, .ref f] M Q ↔ ((isR b = true ∧ inr a (lnm M b)) ∧ Wp d 37 101 L [.int (M b a.toNatClampNeg), .ref c, .ref d2, .int e, .ref f] M Q)) ∧
    (∀ (d : Nat) (a : Int32) (b : Nat) (c : Nat) (d2 : Int32) (e : Nat) (v0 : Value) (v1 : Value) (v2 : Value) (v3 : Value) (v4 : Value) (v5 : Value) (x : Int32) (L : List Value) (M : Mem) (Q : Option Value → Mem → Prop), Wp d 37 101 (v0 :: v1 :: v2 :: v3 :: v4 :: v5 :: .int x :: L) [.int a, .ref b, .ref c, .int d2, .ref e] M Q ↔ Wp d 37 103 (v0 :: v1 :: v2 :: v3 :: v4 :: v5 :: .int x :: L) [.int x, .int a, .ref b, .ref c, .int d2, .ref e] M Q) ∧
    (∀ (d : Nat) (a : Int32) (b : Int32) (c : Nat) (d2 : Nat) (e : Int32) (f : Nat) (L : List Value) (M : Mem) (Q : Option Value → Mem → Prop), Wp d 37 103 L [.int a, .int b, .ref c, .ref d2, .int e, .ref f] M Q ↔ (if a = 0 then Wp d 37 115 L [.int b, .ref c, .ref d2, .int e, .ref f] M Q else Wp d 37 106 L [.int b, .ref c, .ref d2, .int e, .ref f] M Q)) ∧
    (∀ (d : Nat) (a : Int32) (b : Nat) (c : Nat) (d2 : Int32) (e : Nat) (v0 : Value) (v1 : Value) (v2 : Value) (x : Nat) (L : List Value) (M : Mem) (Q : Option Value → Mem → Prop), Wp d 37 106 (v0 :: v1 :: v2 :: .ref x :: L) [.int a, .ref b, .ref c, .int d2, .ref e] M Q ↔ Wp d 37 107 (v0 :: v1 :: v2 :: .ref x :: L) [.ref x, .int a, .ref b, .ref c, .int d2, .ref e] M Q) ∧
    (∀ (d : Nat) (a : Nat) (b : Int32) (c : Nat) (d2 : Nat) (e : Int32) (f : Nat) (L : List Value) (M : Mem) (Q : Option Value → Mem → Prop), Wp d 37 107 L [.ref a, .int b, .ref c, .ref d2, .int e, .ref f] M Q ↔ (isK a 1 = true ∧ Wp d 37 110 L [.int (M a 12), .int b, .ref c, .ref d2, .int e, .ref f] M Q)) ∧
    (∀ (d : Nat) (a : Int32) (b : Int32) (c : Nat) (d2 : Nat) (e : Int32) (f : Nat) (L : List Value) (M : Mem) (Q : Option Value → Mem → Prop), Wp d 37 110 L [.int a, .int b, .ref c, .ref d2, .int e, .ref f] M Q ↔ Wp d 37 111 L [.int 1, .int a, .int b, .ref c, .ref d2, .int e, .ref f] M Q) ∧
    (∀ (d : Nat) (a : Int32) (b : Int32) (c : Int32) (d2 : Nat) (e : Nat) (f : Int32) (g : Nat) (L : List Value) (M : Mem) (Q : Option Value → Mem → Prop), Wp d 37 111 L [.int a, .int b, .int c, .ref d2, .ref e, .int f, .ref g] M Q ↔ Wp d 37 112 L [.int (b - a), .int c, .ref d2, .ref e, .int f, .ref g] M Q) ∧
    (∀ (d : Nat) (a : Int32) (b : Int32) (c : Nat) (d2 : Nat) (e : Int32) (f : Nat) (L : List Value) (M : Mem) (Q : Option Value → Mem → Prop), Wp d 37 112 L [.int a, .int b, .ref c, .ref d2, .int e, .ref f] M Q ↔ Wp d 37 121 L [.int a, .int b, .ref c, .ref d2, .int e, .ref f] M Q) := by
  refine ⟨?_, ?_, ?_, ?_, ?_, ?_, ?_, ?_, ?_, ?_, ?_, ?_, ?_, ?_, ?_, ?_, ?_, ?_, ?_, ?_, ?_, ?_, ?_, ?_, ?_, ?_, ?_, ?_, ?_, ?_, ?_, ?_, ?_, ?_, ?_, ?_, ?_, ?_, ?_, ?_, ?_, ?_, ?_, ?_, ?_, ?_, ?_, ?_, ?_, ?_, ?_, ?_, ?_, ?_, ?_, ?_, ?_, ?_, ?_, ?_⟩
  · intro d v0 v1 x L M Q; exact Wp_sim (by decide +kernel : decode (cd 37) 0 = .ok (.iload_n 2, 1)) rfl rfl
  · intro d a L M Q; exact q_zlt (by decide +kernel : decode (cd 37) 1 = .ok (.ifCond .lt 11, 3)) (by decide)
  · intro d v0 v1 x L M Q; exact Wp_sim (by decide +kernel : decode (cd 37) 4 = .ok (.iload_n 2, 1)) rfl rfl
  · intro d a L M Q; exact q_gets (by decide +kernel : decode (cd 37) 5 = .ok (.getstatic 77, 3)) (by decide +kernel)
  · intro d a b L M Q; exact q_aln (by decide +kernel : decode (cd 37) 8 = .ok (.arraylength , 1))
  · intro d a b L M Q; exact q_ilt (by decide +kernel : decode (cd 37) 9 = .ok (.if_icmp .lt 4, 3)) (by decide)
  · intro d L M Q; exact q_vret (by decide +kernel : decode (cd 37) 12 = .ok (.return_ , 1)) (by decide +kernel)
  · intro d L M Q; exact Wp_sim (by decide +kernel : decode (cd 37) 13 = .ok (.iconst 0, 1)) rfl rfl
  · intro d a v0 v1 v2 v3 x L M Q; exact Wp_sim (by decide +kernel : decode (cd 37) 14 = .ok (.istore 4, 2)) rfl rfl
  · intro d a L M Q; exact q_gets (by decide +kernel : decode (cd 37) 18 = .ok (.getstatic 77, 3)) (by decide +kernel)
  · intro d a b v0 v1 x L M Q; exact Wp_sim (by decide +kernel : decode (cd 37) 21 = .ok (.iload_n 2, 1)) rfl rfl
  · intro d a b c L M Q; exact q_ald (by decide +kernel : decode (cd 37) 22 = .ok (.iaload , 1))
  · intro d a b L M Q; exact q_ige (by decide +kernel : decode (cd 37) 23 = .ok (.if_icmp .ge 108, 3)) (by decide)
  · intro d v0 v1 v2 v3 x L M Q; exact Wp_sim (by decide +kernel : decode (cd 37) 26 = .ok (.iload 4, 2)) rfl rfl
  · intro d a x L M Q; exact Wp_sim (by decide +kernel : decode (cd 37) 28 = .ok (.aload_n 0, 1)) rfl rfl
  · intro d a b L M Q; exact q_getR (p := 48) (by decide +kernel : decode (cd 37) 29 = .ok (.getfield 9, 3)) (by decide +kernel) (by decide +kernel)
  · intro d a b L M Q; exact q_aln (by decide +kernel : decode (cd 37) 32 = .ok (.arraylength , 1))
  · intro d a b L M Q; exact q_ige (by decide +kernel : decode (cd 37) 33 = .ok (.if_icmp .ge 98, 3)) (by decide)
  · intro d x L M Q; exact Wp_sim (by decide +kernel : decode (cd 37) 36 = .ok (.aload_n 0, 1)) rfl rfl
  · intro d a L M Q; exact q_getI (p := 50) (by decide +kernel : decode (cd 37) 37 = .ok (.getfield 27, 3)) (by decide +kernel) (by decide +kernel)
  · intro d a L M Q; exact q_zne (by decide +kernel : decode (cd 37) 40 = .ok (.ifCond .ne 91, 3)) (by decide)
  · intro d v0 v1 x L M Q; exact Wp_sim (by decide +kernel : decode (cd 37) 43 = .ok (.iload_n 2, 1)) rfl rfl
  · intro d a L M Q; exact Wp_sim (by decide +kernel : decode (cd 37) 44 = .ok (.iconst 3, 1)) rfl rfl
  · intro d a b L M Q; exact Wp_sim (by decide +kernel : decode (cd 37) 45 = .ok (.imul , 1)) rfl rfl
  · intro d a v0 v1 v2 v3 x L M Q; exact Wp_sim (by decide +kernel : decode (cd 37) 46 = .ok (.iload 4, 2)) rfl rfl
  · intro d a b L M Q; exact Wp_sim (by decide +kernel : decode (cd 37) 48 = .ok (.iadd , 1)) rfl rfl
  · intro d a v0 v1 v2 v3 v4 x L M Q; exact Wp_sim (by decide +kernel : decode (cd 37) 49 = .ok (.istore 5, 2)) rfl rfl
  · intro d v0 v1 v2 v3 v4 x L M Q; exact Wp_sim (by decide +kernel : decode (cd 37) 51 = .ok (.iload 5, 2)) rfl rfl
  · intro d a L M Q; exact q_gets (by decide +kernel : decode (cd 37) 53 = .ok (.getstatic 80, 3)) (by decide +kernel)
  · intro d a b L M Q; exact q_aln (by decide +kernel : decode (cd 37) 56 = .ok (.arraylength , 1))
  · intro d a b L M Q; exact q_ige (by decide +kernel : decode (cd 37) 57 = .ok (.if_icmp .ge 12, 3)) (by decide)
  · intro d v0 v1 v2 v3 v4 x L M Q; exact Wp_sim (by decide +kernel : decode (cd 37) 60 = .ok (.iload 5, 2)) rfl rfl
  · intro d a L M Q; exact q_gets (by decide +kernel : decode (cd 37) 62 = .ok (.getstatic 83, 3)) (by decide +kernel)
  · intro d a b L M Q; exact q_aln (by decide +kernel : decode (cd 37) 65 = .ok (.arraylength , 1))
  · intro d a b L M Q; exact q_ilt (by decide +kernel : decode (cd 37) 66 = .ok (.if_icmp .lt 4, 3)) (by decide)
  · intro d L M Q; exact q_vret (by decide +kernel : decode (cd 37) 69 = .ok (.return_ , 1)) (by decide +kernel)
  · intro d v0 v1 x L M Q; exact Wp_sim (by decide +kernel : decode (cd 37) 70 = .ok (.iload_n 2, 1)) rfl rfl
  · intro d a L M Q; exact Wp_sim (by decide +kernel : decode (cd 37) 71 = .ok (.iconst 2, 1)) rfl rfl
  · intro d a b L M Q; exact q_ine (by decide +kernel : decode (cd 37) 72 = .ok (.if_icmp .ne 12, 3)) (by decide)
  · intro d v0 v1 v2 v3 x L M Q; exact Wp_sim (by decide +kernel : decode (cd 37) 75 = .ok (.iload 4, 2)) rfl rfl
  · intro d a L M Q; exact q_zne (by decide +kernel : decode (cd 37) 77 = .ok (.ifCond .ne 7, 3)) (by decide)
  · intro d L M Q; exact Wp_sim (by decide +kernel : decode (cd 37) 80 = .ok (.iconst 1, 1)) rfl rfl
  · intro d a L M Q; exact q_goto (by decide +kernel : decode (cd 37) 81 = .ok (.goto 4, 3)) (by decide)
  · intro d L M Q; exact Wp_sim (by decide +kernel : decode (cd 37) 84 = .ok (.iconst 0, 1)) rfl rfl
  · intro d a v0 v1 v2 v3 v4 v5 x L M Q; exact Wp_sim (by decide +kernel : decode (cd 37) 85 = .ok (.istore 6, 2)) rfl rfl
  · intro d x L M Q; exact Wp_sim (by decide +kernel : decode (cd 37) 87 = .ok (.aload_n 0, 1)) rfl rfl
  · intro d a L M Q; exact q_getR (p := 48) (by decide +kernel : decode (cd 37) 88 = .ok (.getfield 9, 3)) (by decide +kernel) (by decide +kernel)
  · intro d a v0 v1 v2 v3 x L M Q; exact Wp_sim (by decide +kernel : decode (cd 37) 91 = .ok (.iload 4, 2)) rfl rfl
  · intro d a b x L M Q; exact Wp_sim (by decide +kernel : decode (cd 37) 93 = .ok (.aload_n 0, 1)) rfl rfl
  · intro d a b c v0 x L M Q; exact Wp_sim (by decide +kernel : decode (cd 37) 94 = .ok (.aload_n 1, 1)) rfl rfl
  · intro d a b c d2 L M Q; exact q_gets (by decide +kernel : decode (cd 37) 95 = .ok (.getstatic 80, 3)) (by decide +kernel)
  · intro d a b c d2 e v0 v1 v2 v3 v4 x L M Q; exact Wp_sim (by decide +kernel : decode (cd 37) 98 = .ok (.iload 5, 2)) rfl rfl
  · intro d a b c d2 e f L M Q; exact q_ald (by decide +kernel : decode (cd 37) 100 = .ok (.iaload , 1))
  · intro d a b c d2 e v0 v1 v2 v3 v4 v5 x L M Q; exact Wp_sim (by decide +kernel : decode (cd 37) 101 = .ok (.iload 6, 2)) rfl rfl
  · intro d a b c d2 e f L M Q; exact q_zeq (by decide +kernel : decode (cd 37) 103 = .ok (.ifCond .eq 12, 3)) (by decide)
  · intro d a b c d2 e v0 v1 v2 x L M Q; exact Wp_sim (by decide +kernel : decode (cd 37) 106 = .ok (.aload_n 3, 1)) rfl rfl
  · intro d a b c d2 e f L M Q; exact q_getI (p := 100) (by decide +kernel : decode (cd 37) 107 = .ok (.getfield 86, 3)) (by decide +kernel) (by decide +kernel)
  · intro d a b c d2 e f L M Q; exact Wp_sim (by decide +kernel : decode (cd 37) 110 = .ok (.iconst 1, 1)) rfl rfl
  · intro d a b c d2 e f g L M Q; exact Wp_sim (by decide +kernel : decode (cd 37) 111 = .ok (.isub , 1)) rfl rfl
  · intro d a b c d2 e f L M Q; exact q_goto (by decide +kernel : decode (cd 37) 112 = .ok (.goto 9, 3)) (by decide)
set_option maxRecDepth 10000 in
theorem e37_1 : (∀ (d : Nat) (a : Int32) (b : Nat) (c : Nat) (d2 : Int32) (e : Nat) (L : List Value) (M : Mem) (Q : Option Value → Mem → Prop), Wp d 37 115 L [.int a, .ref b, .ref c, .int d2, .ref e] M Q ↔ Wp d 37 118 L [.ref 62, .int a, .ref b, .ref c, .int d2, .ref e] M Q) ∧
    (∀ (d : Nat) (a : Nat) (b : Int32) (c : Nat) (d2 : Nat) (e : Int32) (f : Nat) (v0 : Value) (v1 : Value) (v2 : Value) (v3 : Value) (v4 : Value) (x : Int32) (L : List Value) (M : Mem) (Q : Option Value → Mem → Prop), Wp d 37 118 (v0 :: v1 :: v2 :: v3 :: v4 :: .int x :: L) [.ref a, .int b, .ref c, .ref d2, .int e, .ref f] M Q ↔ Wp d 37 120 (v0 :: v1 :: v2 :: v3 :: v4 :: .int x :: L) [.int x, .ref a, .int b, .ref c, .ref d2, .int e, .ref f] M Q) ∧
    (∀ (d : Nat) (a : Int32) (b : Nat) (c : Int32) (d2 : Nat) (e : Nat) (f : Int32) (g : Nat) (L : List Value) (M : Mem) (Q : Option Value → Mem → Prop), Wp d 37 120 L [.int a, .ref b, .int c, .ref d2, .ref e, .int f, .ref g] M Q ↔ ((isR b = true ∧ inr a (lnm M b)) ∧ Wp d 37 121 L [.int (M b a.toNatClampNeg), .int c, .ref d2, .ref e, .int f, .ref g] M Q)) ∧
    (∀ (d : Nat) (a : Int32) (b : Int32) (c : Nat) (d2 : Nat) (e : Int32) (f : Nat) (L : List Value) (M : Mem) (Q : Option Value → Mem → Prop), Wp (d + 1) 37 121 L [.int a, .int b, .ref c, .ref d2, .int e, .ref f] M Q ↔ (isK d2 8 = true ∧ Wp d 38 0 [.ref d2, .ref c, .int b, .int a, .null, .null, .null] [] M (fun r M2 => Wp (d + 1) 37 124 L (r.toList ++ [.int e, .ref f]) M2 Q))) ∧
    (∀ (d : Nat) (a : Int32) (b : Int32) (c : Nat) (L : List Value) (M : Mem) (Q : Option Value → Mem → Prop), Wp d 37 124 L [.int a, .int b, .ref c] M Q ↔ ((isK c 13 = true ∧ inr b (lnm M c)) ∧ Wp d 37 125 L [] (up2 M c b.toNatClampNeg a) Q)) ∧
    (∀ (d : Nat) (v0 : Value) (v1 : Value) (v2 : Value) (v3 : Value) (x : Int32) (L : List Value) (M : Mem) (Q : Option Value → Mem → Prop), Wp d 37 125 (v0 :: v1 :: v2 :: v3 :: .int x :: L) [] M Q ↔ Wp d 37 128 (v0 :: v1 :: v2 :: clr v3 :: .int (x + 1) :: L) [] M Q) ∧
    (∀ (d : Nat) (L : List Value) (M : Mem) (Q : Option Value → Mem → Prop), Wp d 37 128 L [] M Q ↔ Wp d 37 16 L [] M Q) ∧
    (∀ (d : Nat) (L : List Value) (M : Mem) (Q : Option Value → Mem → Prop), Wp d 37 131 L [] M Q ↔ Q none M) := by
  refine ⟨?_, ?_, ?_, ?_, ?_, ?_, ?_, ?_⟩
  · intro d a b c d2 e L M Q; exact q_gets (by decide +kernel : decode (cd 37) 115 = .ok (.getstatic 83, 3)) (by decide +kernel)
  · intro d a b c d2 e f v0 v1 v2 v3 v4 x L M Q; exact Wp_sim (by decide +kernel : decode (cd 37) 118 = .ok (.iload 5, 2)) rfl rfl
  · intro d a b c d2 e f g L M Q; exact q_ald (by decide +kernel : decode (cd 37) 120 = .ok (.iaload , 1))
  · intro d a b c d2 e f L M Q; exact q_invV (pz := 393) (n := 3) (c := 8) (m := 7) (k := d2) (As := [.ref c, .int b, .int a]) (rest := [.int e, .ref f]) (by decide +kernel : decode (cd 37) 121 = .ok (.invokevirtual 89, 3)) (by decide +kernel) (by decide +kernel) rfl rfl (Nat.le_of_ble_eq_true rfl) (Nat.le_of_ble_eq_true rfl) rfl
  · intro d a b c L M Q; exact q_ast (by decide +kernel : decode (cd 37) 124 = .ok (.iastore , 1))
  · intro d v0 v1 v2 v3 x L M Q; exact Wp_sim (by decide +kernel : decode (cd 37) 125 = .ok (.iinc 4 1, 3)) rfl rfl
  · intro d L M Q; exact q_goto (by decide +kernel : decode (cd 37) 128 = .ok (.goto (-112), 3)) (by decide)
  · intro d L M Q; exact q_vret (by decide +kernel : decode (cd 37) 131 = .ok (.return_ , 1)) (by decide +kernel)
theorem h37_16 : (∀ (d : Nat) (v0 : Value) (v1 : Value) (v2 : Value) (v3 : Value) (x : Int32) (L : List Value) (M : Mem) (Q : Option Value → Mem → Prop), Wp d 37 16 (v0 :: v1 :: v2 :: v3 :: .int x :: L) [] M Q ↔ Wp d 37 18 (v0 :: v1 :: v2 :: v3 :: .int x :: L) [.int x] M Q) := by
  intro d v0 v1 v2 v3 x L M Q; exact Wp_sim (by decide +kernel : decode (cd 37) 16 = .ok (.iload 4, 2)) rfl rfl

/- 38: Reader.readNumber -/
set_option maxRecDepth 10000 in
theorem e38_0 : (∀ (d : Nat) (x : Nat) (L : List Value) (M : Mem) (Q : Option Value → Mem → Prop), Wp d 38 0 (.ref x :: L) [] M Q ↔ Wp d 38 1 (.ref x :: L) [.ref x] M Q) ∧
    (∀ (d : Nat) (a : Nat) (v0 : Value) (x : Nat) (L : List Value) (M : Mem) (Q : Option Value → Mem → Prop), Wp d 38 1 (v0 :: .ref x :: L) [.ref a] M Q ↔ Wp d 38 2 (v0 :: .ref x :: L) [.ref x, .ref a] M Q) ∧
    (∀ (d : Nat) (a : Nat) (b : Nat) (L : List Value) (M : Mem) (Q : Option Value → Mem → Prop), Wp (d + 1) 38 2 L [.ref a, .ref b] M Q ↔ (isK b 8 = true ∧ Wp d 32 0 [.ref b, .ref a, .null] [] M (fun r M2 => Wp (d + 1) 38 5 L (r.toList ++ []) M2 Q))) ∧
    (∀ (d : Nat) (x : Nat) (L : List Value) (M : Mem) (Q : Option Value → Mem → Prop), Wp d 38 5 (.ref x :: L) [] M Q ↔ Wp d 38 6 (.ref x :: L) [.ref x] M Q) ∧
    (∀ (d : Nat) (a : Nat) (L : List Value) (M : Mem) (Q : Option Value → Mem → Prop), Wp d 38 6 L [.ref a] M Q ↔ (isK a 8 = true ∧ Wp d 38 9 L [.int (M a 1)] M Q)) ∧
    (∀ (d : Nat) (a : Int32) (v0 : Value) (v1 : Value) (v2 : Value) (v3 : Value) (x : Value) (L : List Value) (M : Mem) (Q : Option Value → Mem → Prop), Wp d 38 9 (v0 :: v1 :: v2 :: v3 :: x :: L) [.int a] M Q ↔ Wp d 38 11 (v0 :: v1 :: v2 :: clr v3 :: .int a :: L) [] M Q) ∧
    (∀ (d : Nat) (L : List Value) (M : Mem) (Q : Option Value → Mem → Prop), Wp d 38 11 L [] M Q ↔ Wp d 38 12 L [.int 0] M Q) ∧
    (∀ (d : Nat) (a : Int32) (v0 : Value) (v1 : Value) (v2 : Value) (v3 : Value) (v4 : Value) (x : Value) (L : List Value) (M : Mem) (Q : Option Value → Mem → Prop), Wp d 38 12 (v0 :: v1 :: v2 :: v3 :: v4 :: x :: L) [.int a] M Q ↔ Wp d 38 14 (v0 :: v1 :: v2 :: v3 :: clr v4 :: .int a :: L) [] M Q) ∧
    (∀ (d : Nat) (L : List Value) (M : Mem) (Q : Option Value → Mem → Prop), Wp d 38 14 L [] M Q ↔ Wp d 38 15 L [.int 0] M Q) ∧
    (∀ (d : Nat) (a : Int32) (v0 : Value) (v1 : Value) (v2 : Value) (v3 : Value) (v4 : Value) (v5 : Value) (x : Value) (L : List Value) (M : Mem) (Q : Option Value → Mem → Prop), Wp d 38 15 (v0 :: v1 :: v2 :: v3 :: v4 :: v5 :: x :: L) [.int a] M Q ↔ Wp d 38 17 (v0 :: v1 :: v2 :: v3 :: v4 :: clr v5 :: .int a :: L) [] M Q) ∧
    (∀ (d : Nat) (a : Int32) (L : List Value) (M : Mem) (Q : Option Value → Mem → Prop), Wp d 38 19 L [.int a] M Q ↔ Wp d 38 22 L [.int 240, .int a] M Q) ∧
    (∀ (d : Nat) (a : Int32) (b : Int32) (L : List Value) (M : Mem) (Q : Option Value → Mem → Prop), Wp d 38 22 L [.int a, .int b] M Q ↔ (if b < a then Wp d 38 25 L [] M Q else Wp d 38 80 L [] M Q)) ∧
    (∀ (d : Nat) (v0 : Value) (x : Nat) (L : List Value) (M : Mem) (Q : Option Value → Mem → Prop), Wp d 38 25 (v0 :: .ref x :: L) [] M Q ↔ Wp d 38 26 (v0 :: .ref x :: L) [.ref x] M Q) ∧
    (∀ (d : Nat) (a : Nat) (x : Nat) (L : List Value) (M : Mem) (Q : Option Value → Mem → Prop), Wp d 38 26 (.ref x :: L) [.ref a] M Q ↔ Wp d 38 27 (.ref x :: L) [.ref x, .ref a] M Q) ∧
    (∀ (d : Nat) (a : Nat) (b : Nat) (L : List Value) (M : Mem) (Q : Option Value → Mem → Prop), Wp d 38 27 L [.ref a, .ref b] M Q ↔ (isK a 8 = true ∧ Wp d 38 30 L [.int (M a 1), .ref b] M Q)) ∧
    (∀ (d : Nat) (a : Int32) (b : Nat) (L : List Value) (M : Mem) (Q : Option Value → Mem → Prop), Wp (d + 1) 38 30 L [.int a, .ref b] M Q ↔ (isK b 5 = true ∧ Wp d 24 0 [.ref b, .int a] [] M (fun r M2 => Wp (d + 1) 38 33 L (r.toList ++ []) M2 Q))) ∧
    (∀ (d : Nat) (a : Int32) (L : List Value) (M : Mem) (Q : Option Value → Mem → Prop), Wp (d + 1) 38 33 L [.int a] M Q ↔ Wp d 39 0 [.int a] [] M (fun r M2 => Wp (d + 1) 38 36 L (r.toList ++ []) M2 Q)) ∧
    (∀ (d : Nat) (a : Int32) (L : List Value) (M : Mem) (Q : Option Value → Mem → Prop), Wp d 38 36 L [.int a] M Q ↔ (if a = 0 then Wp d 38 80 L [] M Q else Wp d 38 39 L [] M Q)) ∧
    (∀ (d : Nat) (v0 : Value) (v1 : Value) (v2 : Value) (v3 : Value) (v4 : Value) (v5 : Value) (x : Int32) (L : List Value) (M : Mem) (Q : Option Value → Mem → Prop), Wp d 38 39 (v0 :: v1 :: v2 :: v3 :: v4 :: v5 :: .int x :: L) [] M Q ↔ Wp d 38 41 (v0 :: v1 :: v2 :: v3 :: v4 :: v5 :: .int x :: L) [.int x] M Q) ∧
    (∀ (d : Nat) (a : Int32) (L : List Value) (M : Mem) (Q : Option Value → Mem → Prop), Wp d 38 41 L [.int a] M Q ↔ Wp d 38 42 L [.int 3, .int a] M Q) ∧
    (∀ (d : Nat) (a : Int32) (b : Int32) (L : List Value) (M : Mem) (Q : Option Value → Mem → Prop), Wp d 38 42 L [.int a, .int b] M Q ↔ (if b < a then Wp d 38 45 L [] M Q else Wp d 38 64 L [] M Q)) ∧
    (∀ (d : Nat) (v0 : Value) (v1 : Value) (v2 : Value) (v3 : Value) (v4 : Value) (x : Int32) (L : List Value) (M : Mem) (Q : Option Value → Mem → Prop), Wp d 38 45 (v0 :: v1 :: v2 :: v3 :: v4 :: .int x :: L) [] M Q ↔ Wp d 38 47 (v0 :: v1 :: v2 :: v3 :: v4 :: .int x :: L) [.int x] M Q) ∧
    (∀ (d : Nat) (a : Int32) (L : List Value) (M : Mem) (Q : Option Value → Mem → Prop), Wp d 38 47 L [.int a] M Q ↔ Wp d 38 49 L [.int 10, .int a] M Q) ∧
    (∀ (d : Nat) (a : Int32) (b : Int32) (L : List Value) (M : Mem) (Q : Option Value → Mem → Prop), Wp d 38 49 L [.int a, .int b] M Q ↔ Wp d 38 50 L [.int (b * a)] M Q) ∧
    (∀ (d : Nat) (a : Int32) (v0 : Value) (x : Nat) (L : List Value) (M : Mem) (Q : Option Value → Mem → Prop), Wp d 38 50 (v0 :: .ref x :: L) [.int a] M Q ↔ Wp d 38 51 (v0 :: .ref x :: L) [.ref x, .int a] M Q) ∧
    (∀ (d : Nat) (a : Nat) (b : Int32) (x : Nat) (L : List Value) (M : Mem) (Q : Option Value → Mem → Prop), Wp d 38 51 (.ref x :: L) [.ref a, .int b] M Q ↔ Wp d 38 52 (.ref x :: L) [.ref x, .ref a, .int b] M Q) ∧
    (∀ (d : Nat) (a : Nat) (b : Nat) (c : Int32) (L : List Value) (M : Mem) (Q : Option Value → Mem → Prop), Wp d 38 52 L [.ref a, .ref b, .int c] M Q ↔ (isK a 8 = true ∧ Wp d 38 55 L [.int (M a 1), .ref b, .int c] M Q)) ∧
    (∀ (d : Nat) (a : Int32) (b : Nat) (c : Int32) (L : List Value) (M : Mem) (Q : Option Value → Mem → Prop), Wp (d + 1) 38 55 L [.int a, .ref b, .int c] M Q ↔ (isK b 5 = true ∧ Wp d 24 0 [.ref b, .int a] [] M (fun r M2 => Wp (d + 1) 38 58 L (r.toList ++ [.int c]) M2 Q))) ∧
    (∀ (d : Nat) (a : Int32) (b : Int32) (L : List Value) (M : Mem) (Q : Option Value → Mem → Prop), Wp d 38 58 L [.int a, .int b] M Q ↔ Wp d 38 59 L [.int (b + a)] M Q) ∧
    (∀ (d : Nat) (a : Int32) (L : List Value) (M : Mem) (Q : Option Value → Mem → Prop), Wp d 38 59 L [.int a] M Q ↔ Wp d 38 61 L [.int 48, .int a] M Q) ∧
    (∀ (d : Nat) (a : Int32) (b : Int32) (L : List Value) (M : Mem) (Q : Option Value → Mem → Prop), Wp d 38 61 L [.int a, .int b] M Q ↔ Wp d 38 62 L [.int (b - a)] M Q) ∧
    (∀ (d : Nat) (a : Int32) (v0 : Value) (v1 : Value) (v2 : Value) (v3 : Value) (v4 : Value) (x : Value) (L : List Value) (M : Mem) (Q : Option Value → Mem → Prop), Wp d 38 62 (v0 :: v1 :: v2 :: v3 :: v4 :: x :: L) [.int a] M Q ↔ Wp d 38 64 (v0 :: v1 :: v2 :: v3 :: clr v4 :: .int a :: L) [] M Q) ∧
    (∀ (d : Nat) (x : Nat) (L : List Value) (M : Mem) (Q : Option Value → Mem → Prop), Wp d 38 64 (.ref x :: L) [] M Q ↔ Wp d 38 65 (.ref x :: L) [.ref x] M Q) ∧
    (∀ (d : Nat) (a : Nat) (L : List Value) (M : Mem) (Q : Option Value → Mem → Prop), Wp d 38 65 L [.ref a] M Q ↔ Wp d 38 66 L [.ref a, .ref a] M Q) ∧
    (∀ (d : Nat) (a : Nat) (b : Nat) (L : List Value) (M : Mem) (Q : Option Value → Mem → Prop), Wp d 38 66 L [.ref a, .ref b] M Q ↔ (isK a 8 = true ∧ Wp d 38 69 L [.int (M a 1), .ref b] M Q)) ∧
    (∀ (d : Nat) (a : Int32) (b : Nat) (L : List Value) (M : Mem) (Q : Option Value → Mem → Prop), Wp d 38 69 L [.int a, .ref b] M Q ↔ Wp d 38 70 L [.int 1, .int a, .ref b] M Q) ∧
    (∀ (d : Nat) (a : Int32) (b : Int32) (c : Nat) (L : List Value) (M : Mem) (Q : Option Value → Mem → Prop), Wp d 38 70 L [.int a, .int b, .ref c] M Q ↔ Wp d 38 71 L [.int (b + a), .ref c] M Q) ∧
    (∀ (d : Nat) (a : Int32) (b : Nat) (L : List Value) (M : Mem) (Q : Option Value → Mem → Prop), Wp d 38 71 L [.int a, .ref b] M Q ↔ (isK b 8 = true ∧ Wp d 38 74 L [] (up2 M b 1 a) Q)) ∧
    (∀ (d : Nat) (v0 : Value) (v1 : Value) (v2 : Value) (v3 : Value) (v4 : Value) (v5 : Value) (x : Int32) (L : List Value) (M : Mem) (Q : Option Value → Mem → Prop), Wp d 38 74 (v0 :: v1 :: v2 :: v3 :: v4 :: v5 :: .int x :: L) [] M Q ↔ Wp d 38 77 (v0 :: v1 :: v2 :: v3 :: v4 :: clr v5 :: .int (x + 1) :: L) [] M Q) ∧
    (∀ (d : Nat) (L : List Value) (M : Mem) (Q : Option Value → Mem → Prop), Wp d 38 77 L [] M Q ↔ Wp d 38 17 L [] M Q) ∧
    (∀ (d : Nat) (x : Nat) (L : List Value) (M : Mem) (Q : Option Value → Mem → Prop), Wp d 38 80 (.ref x :: L) [] M Q ↔ Wp d 38 81 (.ref x :: L) [.ref x] M Q) ∧
    (∀ (d : Nat) (a : Nat) (L : List Value) (M : Mem) (Q : Option Value → Mem → Prop), Wp d 38 81 L [.ref a] M Q ↔ (isK a 8 = true ∧ Wp d 38 84 L [.int (M a 1)] M Q)) ∧
    (∀ (d : Nat) (a : Int32) (v0 : Value) (v1 : Value) (v2 : Value) (v3 : Value) (x : Int32) (L : List Value) (M : Mem) (Q : Option Value → Mem → Prop), Wp d 38 84 (v0 :: v1 :: v2 :: v3 :: .int x :: L) [.int a] M Q ↔ Wp d 38 86 (v0 :: v1 :: v2 :: v3 :: .int x :: L) [.int x, .int a] M Q) ∧
    (∀ (d : Nat) (a : Int32) (b : Int32) (L : List Value) (M : Mem) (Q : Option Value → Mem → Prop), Wp d 38 86 L [.int a, .int b] M Q ↔ Wp d 38 87 L [.int (b - a)] M Q) ∧
    (∀ (d : Nat) (a : Int32) (v0 : Value) (v1 : Value) (v2 : Value) (v3 : Value) (v4 : Value) (v5 : Value) (x : Value) (L : List Value) (M : Mem) (Q : Option Value → Mem → Prop), Wp d 38 87 (v0 :: v1 :: v2 :: v3 :: v4 :: v5 :: x :: L) [.int a] M Q ↔ Wp d 38 89 (v0 :: v1 :: v2 :: v3 :: v4 :: clr v5 :: .int a :: L) [] M Q) ∧
    (∀ (d : Nat) (v0 : Value) (v1 : Value) (v2 : Value) (v3 : Value) (v4 : Value) (v5 : Value) (x : Int32) (L : List Value) (M : Mem) (Q : Option Value → Mem → Prop), Wp d 38 89 (v0 :: v1 :: v2 :: v3 :: v4 :: v5 :: .int x :: L) [] M Q ↔ Wp d 38 91 (v0 :: v1 :: v2 :: v3 :: v4 :: v5 :: .int x :: L) [.int x] M Q) ∧
    (∀ (d : Nat) (a : Int32) (L : List Value) (M : Mem) (Q : Option Value → Mem → Prop), Wp d 38 91 L [.int a] M Q ↔ (if a = 0 then Wp d 38 94 L [] M Q else Wp d 38 104 L [] M Q)) ∧
    (∀ (d : Nat) (x : Nat) (L : List Value) (M : Mem) (Q : Option Value → Mem → Prop), Wp d 38 94 (.ref x :: L) [] M Q ↔ Wp d 38 95 (.ref x :: L) [.ref x] M Q) ∧
    (∀ (d : Nat) (a : Nat) (v0 : Value) (v1 : Value) (v2 : Value) (v3 : Value) (x : Int32) (L : List Value) (M : Mem) (Q : Option Value → Mem → Prop), Wp d 38 95 (v0 :: v1 :: v2 :: v3 :: .int x :: L) [.ref a] M Q ↔ Wp d 38 97 (v0 :: v1 :: v2 :: v3 :: .int x :: L) [.int x, .ref a] M Q) ∧
    (∀ (d : Nat) (a : Int32) (b : Nat) (L : List Value) (M : Mem) (Q : Option Value → Mem → Prop), Wp d 38 97 L [.int a, .ref b] M Q ↔ Wp d 38 98 L [.int 1, .int a, .ref b] M Q) ∧
    (∀ (d : Nat) (a : Int32) (b : Int32) (c : Nat) (L : List Value) (M : Mem) (Q : Option Value → Mem → Prop), Wp (d + 1) 38 98 L [.int a, .int b, .ref c] M Q ↔ (isK c 8 = true ∧ Wp d 36 0 [.ref c, .int b, .int a] [] M (fun r M2 => Wp (d + 1) 38 101 L (r.toList ++ []) M2 Q))) ∧
    (∀ (d : Nat) (L : List Value) (M : Mem) (Q : Option Value → Mem → Prop), Wp d 38 101 L [] M Q ↔ Wp d 38 129 L [] M Q) ∧
    (∀ (d : Nat) (v0 : Value) (v1 : Value) (v2 : Value) (v3 : Value) (v4 : Value) (v5 : Value) (x : Int32) (L : List Value) (M : Mem) (Q : Option Value → Mem → Prop), Wp d 38 104 (v0 :: v1 :: v2 :: v3 :: v4 :: v5 :: .int x :: L) [] M Q ↔ Wp d 38 106 (v0 :: v1 :: v2 :: v3 :: v4 :: v5 :: .int x :: L) [.int x] M Q) ∧
    (∀ (d : Nat) (a : Int32) (L : List Value) (M : Mem) (Q : Option Value → Mem → Prop), Wp d 38 106 L [.int a] M Q ↔ Wp d 38 107 L [.int 3, .int a] M Q) ∧
    (∀ (d : Nat) (a : Int32) (b : Int32) (L : List Value) (M : Mem) (Q : Option Value → Mem → Prop), Wp d 38 107 L [.int a, .int b] M Q ↔ (if a < b then Wp d 38 122 L [] M Q else Wp d 38 110 L [] M Q)) ∧
    (∀ (d : Nat) (v0 : Value) (v1 : Value) (v2 : Value) (v3 : Value) (v4 : Value) (x : Int32) (L : List Value) (M : Mem) (Q : Option Value → Mem → Prop), Wp d 38 110 (v0 :: v1 :: v2 :: v3 :: v4 :: .int x :: L) [] M Q ↔ Wp d 38 112 (v0 :: v1 :: v2 :: v3 :: v4 :: .int x :: L) [.int x] M Q) ∧
    (∀ (d : Nat) (a : Int32) (v0 : Value) (v1 : Value) (x : Int32) (L : List Value) (M : Mem) (Q : Option Value → Mem → Prop), Wp d 38 112 (v0 :: v1 :: .int x :: L) [.int a] M Q ↔ Wp d 38 113 (v0 :: v1 :: .int x :: L) [.int x, .int a] M Q) ∧
    (∀ (d : Nat) (a : Int32) (b : Int32) (L : List Value) (M : Mem) (Q : Option Value → Mem → Prop), Wp d 38 113 L [.int a, .int b] M Q ↔ (if b < a then Wp d 38 122 L [] M Q else Wp d 38 116 L [] M Q)) ∧
    (∀ (d : Nat) (v0 : Value) (v1 : Value) (v2 : Value) (v3 : Value) (v4 : Value) (x : Int32) (L : List Value) (M : Mem) (Q : Option Value → Mem → Prop), Wp d 38 116 (v0 :: v1 :: v2 :: v3 :: v4 :: .int x :: L) [] M Q ↔ Wp d 38 118 (v0 :: v1 :: v2 :: v3 :: v4 :: .int x :: L) [.int x] M Q) ∧
    (∀ (d : Nat) (a : Int32) (v0 : Value) (v1 : Value) (v2 : Value) (x : Int32) (L : List Value) (M : Mem) (Q : Option Value → Mem → Prop), Wp d 38 118 (v0 :: v1 :: v2 :: .int x :: L) [.int a] M Q ↔ Wp d 38 119 (v0 :: v1 :: v2 :: .int x :: L) [.int x, .int a] M Q) := by
  refine ⟨?_, ?_, ?_, ?_, ?_, ?_, ?_, ?_, ?_, ?_, ?_, ?_, ?_, ?_, ?_, ?_, ?_, ?_, ?_, ?_, ?_, ?_, ?_, ?_, ?_, ?_, ?_, ?_, ?_, ?_, ?_, ?_, ?_, ?_, ?_, ?_, ?_, ?_, ?_, ?_, ?_, ?_, ?_, ?_, ?_, ?_, ?_, ?_, ?_, ?_, ?_, ?_, ?_, ?_, ?_, ?_, ?_, ?_, ?_, ?_⟩
  · intro d x L M Q; exact Wp_sim (by decide +kernel : decode (cd 38) 0 = .ok (.aload_n 0, 1)) rfl rfl
  · intro d a v0 x L M Q; exact Wp_sim (by decide +kernel : decode (cd 38) 1 = .ok (.aload_n 1, 1)) rfl rfl
  · intro d a b L M Q; exact q_invV (pz := 357) (n := 1) (c := 8) (m := 3) (k := b) (As := [.ref a]) (rest := []) (by decide +kernel : decode (cd 38) 2 = .ok (.invokevirtual 30, 3)) (by decide +kernel) (by decide +kernel) rfl rfl (Nat.le_of_ble_eq_true rfl) (Nat.le_of_ble_eq_true rfl) rfl
  · intro d x L M Q; exact Wp_sim (by decide +kernel : decode (cd 38) 5 = .ok (.aload_n 0, 1)) rfl rfl
  · intro d a L M Q; exact q_getI (p := 49) (by decide +kernel : decode (cd 38) 6 = .ok (.getfield 24, 3)) (by decide +kernel) (by decide +kernel)
  · intro d a v0 v1 v2 v3 x L M Q; exact Wp_sim (by decide +kernel : decode (cd 38) 9 = .ok (.istore 4, 2)) rfl rfl
  · intro d L M Q; exact Wp_sim (by decide +kernel : decode (cd 38) 11 = .ok (.iconst 0, 1)) rfl rfl
  · intro d a v0 v1 v2 v3 v4 x L M Q; exact Wp_sim (by decide +kernel : decode (cd 38) 12 = .ok (.istore 5, 2)) rfl rfl
  · intro d L M Q; exact Wp_sim (by decide +kernel : decode (cd 38) 14 = .ok (.iconst 0, 1)) rfl rfl
  · intro d a v0 v1 v2 v3 v4 v5 x L M Q; exact Wp_sim (by decide +kernel : decode (cd 38) 15 = .ok (.istore 6, 2)) rfl rfl
  · intro d a L M Q; exact Wp_sim (by decide +kernel : decode (cd 38) 19 = .ok (.sipush 240, 3)) rfl rfl
  · intro d a b L M Q; exact q_ige (by decide +kernel : decode (cd 38) 22 = .ok (.if_icmp .ge 58, 3)) (by decide)
  · intro d v0 x L M Q; exact Wp_sim (by decide +kernel : decode (cd 38) 25 = .ok (.aload_n 1, 1)) rfl rfl
  · intro d a x L M Q; exact Wp_sim (by decide +kernel : decode (cd 38) 26 = .ok (.aload_n 0, 1)) rfl rfl
  · intro d a b L M Q; exact q_getI (p := 49) (by decide +kernel : decode (cd 38) 27 = .ok (.getfield 24, 3)) (by decide +kernel) (by decide +kernel)
  · intro d a b L M Q; exact q_invV (pz := 361) (n := 1) (c := 5) (m := 2) (k := b) (As := [.int a]) (rest := []) (by decide +kernel : decode (cd 38) 30 = .ok (.invokevirtual 43, 3)) (by decide +kernel) (by decide +kernel) rfl rfl (Nat.le_of_ble_eq_true rfl) (Nat.le_of_ble_eq_true rfl) rfl
  · intro d a L M Q; exact q_invS (pz := 397) (n := 1) (m := 1) (As := [.int a]) (rest := []) (by decide +kernel : decode (cd 38) 33 = .ok (.invokestatic 93, 3)) (by decide +kernel) (by decide +kernel) (by decide +kernel) rfl rfl (Nat.le_of_ble_eq_true rfl) (Nat.le_of_ble_eq_true rfl) rfl
  · intro d a L M Q; exact q_zeq (by decide +kernel : decode (cd 38) 36 = .ok (.ifCond .eq 44, 3)) (by decide)
  · intro d v0 v1 v2 v3 v4 v5 x L M Q; exact Wp_sim (by decide +kernel : decode (cd 38) 39 = .ok (.iload 6, 2)) rfl rfl
  · intro d a L M Q; exact Wp_sim (by decide +kernel : decode (cd 38) 41 = .ok (.iconst 3, 1)) rfl rfl
  · intro d a b L M Q; exact q_ige (by decide +kernel : decode (cd 38) 42 = .ok (.if_icmp .ge 22, 3)) (by decide)
  · intro d v0 v1 v2 v3 v4 x L M Q; exact Wp_sim (by decide +kernel : decode (cd 38) 45 = .ok (.iload 5, 2)) rfl rfl
  · intro d a L M Q; exact Wp_sim (by decide +kernel : decode (cd 38) 47 = .ok (.bipush 10, 2)) rfl rfl
  · intro d a b L M Q; exact Wp_sim (by decide +kernel : decode (cd 38) 49 = .ok (.imul , 1)) rfl rfl
  · intro d a v0 x L M Q; exact Wp_sim (by decide +kernel : decode (cd 38) 50 = .ok (.aload_n 1, 1)) rfl rfl
  · intro d a b x L M Q; exact Wp_sim (by decide +kernel : decode (cd 38) 51 = .ok (.aload_n 0, 1)) rfl rfl
  · intro d a b c L M Q; exact q_getI (p := 49) (by decide +kernel : decode (cd 38) 52 = .ok (.getfield 24, 3)) (by decide +kernel) (by decide +kernel)
  · intro d a b c L M Q; exact q_invV (pz := 361) (n := 1) (c := 5) (m := 2) (k := b) (As := [.int a]) (rest := [.int c]) (by decide +kernel : decode (cd 38) 55 = .ok (.invokevirtual 43, 3)) (by decide +kernel) (by decide +kernel) rfl rfl (Nat.le_of_ble_eq_true rfl) (Nat.le_of_ble_eq_true rfl) rfl
  · intro d a b L M Q; exact Wp_sim (by decide +kernel : decode (cd 38) 58 = .ok (.iadd , 1)) rfl rfl
  · intro d a L M Q; exact Wp_sim (by decide +kernel : decode (cd 38) 59 = .ok (.bipush 48, 2)) rfl rfl
  · intro d a b L M Q; exact Wp_sim (by decide +kernel : decode (cd 38) 61 = .ok (.isub , 1)) rfl rfl
  · intro d a v0 v1 v2 v3 v4 x L M Q; exact Wp_sim (by decide +kernel : decode (cd 38) 62 = .ok (.istore 5, 2)) rfl rfl
  · intro d x L M Q; exact Wp_sim (by decide +kernel : decode (cd 38) 64 = .ok (.aload_n 0, 1)) rfl rfl
  · intro d a L M Q; exact Wp_sim (by decide +kernel : decode (cd 38) 65 = .ok (.dup , 1)) rfl rfl
  · intro d a b L M Q; exact q_getI (p := 49) (by decide +kernel : decode (cd 38) 66 = .ok (.getfield 24, 3)) (by decide +kernel) (by decide +kernel)
  · intro d a b L M Q; exact Wp_sim (by decide +kernel : decode (cd 38) 69 = .ok (.iconst 1, 1)) rfl rfl
  · intro d a b c L M Q; exact Wp_sim (by decide +kernel : decode (cd 38) 70 = .ok (.iadd , 1)) rfl rfl
  · intro d a b L M Q; exact q_putI (p := 49) (by decide +kernel : decode (cd 38) 71 = .ok (.putfield 24, 3)) (by decide +kernel) (by decide +kernel)
  · intro d v0 v1 v2 v3 v4 v5 x L M Q; exact Wp_sim (by decide +kernel : decode (cd 38) 74 = .ok (.iinc 6 1, 3)) rfl rfl
  · intro d L M Q; exact q_goto (by decide +kernel : decode (cd 38) 77 = .ok (.goto (-60), 3)) (by decide)
  · intro d x L M Q; exact Wp_sim (by decide +kernel : decode (cd 38) 80 = .ok (.aload_n 0, 1)) rfl rfl
  · intro d a L M Q; exact q_getI (p := 49) (by decide +kernel : decode (cd 38) 81 = .ok (.getfield 24, 3)) (by decide +kernel) (by decide +kernel)
  · intro d a v0 v1 v2 v3 x L M Q; exact Wp_sim (by decide +kernel : decode (cd 38) 84 = .ok (.iload 4, 2)) rfl rfl
  · intro d a b L M Q; exact Wp_sim (by decide +kernel : decode (cd 38) 86 = .ok (.isub , 1)) rfl rfl
  · intro d a v0 v1 v2 v3 v4 v5 x L M Q; exact Wp_sim (by decide +kernel : decode (cd 38) 87 = .ok (.istore 6, 2)) rfl rfl
  · intro d v0 v1 v2 v3 v4 v5 x L M Q; exact Wp_sim (by decide +kernel : decode (cd 38) 89 = .ok (.iload 6, 2)) rfl rfl
  · intro d a L M Q; exact q_zne (by decide +kernel : decode (cd 38) 91 = .ok (.ifCond .ne 13, 3)) (by decide)
  · intro d x L M Q; exact Wp_sim (by decide +kernel : decode (cd 38) 94 = .ok (.aload_n 0, 1)) rfl rfl
  · intro d a v0 v1 v2 v3 x L M Q; exact Wp_sim (by decide +kernel : decode (cd 38) 95 = .ok (.iload 4, 2)) rfl rfl
  · intro d a b L M Q; exact Wp_sim (by decide +kernel : decode (cd 38) 97 = .ok (.iconst 1, 1)) rfl rfl
  · intro d a b c L M Q; exact q_invV (pz := 379) (n := 2) (c := 8) (m := 3) (k := c) (As := [.int b, .int a]) (rest := []) (by decide +kernel : decode (cd 38) 98 = .ok (.invokevirtual 54, 3)) (by decide +kernel) (by decide +kernel) rfl rfl (Nat.le_of_ble_eq_true rfl) (Nat.le_of_ble_eq_true rfl) rfl
  · intro d L M Q; exact q_goto (by decide +kernel : decode (cd 38) 101 = .ok (.goto 28, 3)) (by decide)
  · intro d v0 v1 v2 v3 v4 v5 x L M Q; exact Wp_sim (by decide +kernel : decode (cd 38) 104 = .ok (.iload 6, 2)) rfl rfl
  · intro d a L M Q; exact Wp_sim (by decide +kernel : decode (cd 38) 106 = .ok (.iconst 3, 1)) rfl rfl
  · intro d a b L M Q; exact q_igt (by decide +kernel : decode (cd 38) 107 = .ok (.if_icmp .gt 15, 3)) (by decide)
  · intro d v0 v1 v2 v3 v4 x L M Q; exact Wp_sim (by decide +kernel : decode (cd 38) 110 = .ok (.iload 5, 2)) rfl rfl
  · intro d a v0 v1 x L M Q; exact Wp_sim (by decide +kernel : decode (cd 38) 112 = .ok (.iload_n 2, 1)) rfl rfl
  · intro d a b L M Q; exact q_ilt (by decide +kernel : decode (cd 38) 113 = .ok (.if_icmp .lt 9, 3)) (by decide)
  · intro d v0 v1 v2 v3 v4 x L M Q; exact Wp_sim (by decide +kernel : decode (cd 38) 116 = .ok (.iload 5, 2)) rfl rfl
  · intro d a v0 v1 v2 x L M Q; exact Wp_sim (by decide +kernel : decode (cd 38) 118 = .ok (.iload_n 3, 1)) rfl rfl
set_option maxRecDepth 10000 in
theorem e38_1 : (∀ (d : Nat) (a : Int32) (b : Int32) (L : List Value) (M : Mem) (Q : Option Value → Mem → Prop), Wp d 38 119 L [.int a, .int b] M Q ↔ (if a < b then Wp d 38 122 L [] M Q else Wp d 38 129 L [] M Q)) ∧
    (∀ (d : Nat) (x : Nat) (L : List Value) (M : Mem) (Q : Option Value → Mem → Prop), Wp d 38 122 (.ref x :: L) [] M Q ↔ Wp d 38 123 (.ref x :: L) [.ref x] M Q) ∧
    (∀ (d : Nat) (a : Nat) (v0 : Value) (v1 : Value) (v2 : Value) (v3 : Value) (x : Int32) (L : List Value) (M : Mem) (Q : Option Value → Mem → Prop), Wp d 38 123 (v0 :: v1 :: v2 :: v3 :: .int x :: L) [.ref a] M Q ↔ Wp d 38 125 (v0 :: v1 :: v2 :: v3 :: .int x :: L) [.int x, .ref a] M Q) ∧
    (∀ (d : Nat) (a : Int32) (b : Nat) (L : List Value) (M : Mem) (Q : Option Value → Mem → Prop), Wp d 38 125 L [.int a, .ref b] M Q ↔ Wp d 38 126 L [.int 2, .int a, .ref b] M Q) ∧
    (∀ (d : Nat) (a : Int32) (b : Int32) (c : Nat) (L : List Value) (M : Mem) (Q : Option Value → Mem → Prop), Wp (d + 1) 38 126 L [.int a, .int b, .ref c] M Q ↔ (isK c 8 = true ∧ Wp d 36 0 [.ref c, .int b, .int a] [] M (fun r M2 => Wp (d + 1) 38 129 L (r.toList ++ []) M2 Q))) ∧
    (∀ (d : Nat) (v0 : Value) (v1 : Value) (v2 : Value) (v3 : Value) (v4 : Value) (x : Int32) (L : List Value) (M : Mem) (Q : Option Value → Mem → Prop), Wp d 38 129 (v0 :: v1 :: v2 :: v3 :: v4 :: .int x :: L) [] M Q ↔ Wp d 38 131 (v0 :: v1 :: v2 :: v3 :: v4 :: .int x :: L) [.int x] M Q) ∧
    (∀ (d : Nat) (a : Int32) (L : List Value) (M : Mem) (Q : Option Value → Mem → Prop), Wp d 38 131 L [.int a] M Q ↔ Q (some (.int a)) M) := by
  refine ⟨?_, ?_, ?_, ?_, ?_, ?_, ?_⟩
  · intro d a b L M Q; exact q_ile (by decide +kernel : decode (cd 38) 119 = .ok (.if_icmp .le 10, 3)) (by decide)
  · intro d x L M Q; exact Wp_sim (by decide +kernel : decode (cd 38) 122 = .ok (.aload_n 0, 1)) rfl rfl
  · intro d a v0 v1 v2 v3 x L M Q; exact Wp_sim (by decide +kernel : decode (cd 38) 123 = .ok (.iload 4, 2)) rfl rfl
  · intro d a b L M Q; exact Wp_sim (by decide +kernel : decode (cd 38) 125 = .ok (.iconst 2, 1)) rfl rfl
  · intro d a b c L M Q; exact q_invV (pz := 379) (n := 2) (c := 8) (m := 3) (k := c) (As := [.int b, .int a]) (rest := []) (by decide +kernel : decode (cd 38) 126 = .ok (.invokevirtual 54, 3)) (by decide +kernel) (by decide +kernel) rfl rfl (Nat.le_of_ble_eq_true rfl) (Nat.le_of_ble_eq_true rfl) rfl
  · intro d v0 v1 v2 v3 v4 x L M Q; exact Wp_sim (by decide +kernel : decode (cd 38) 129 = .ok (.iload 5, 2)) rfl rfl
  · intro d a L M Q; exact q_iret (by decide +kernel : decode (cd 38) 131 = .ok (.ireturn , 1)) (by decide +kernel)
theorem h38_17 : (∀ (d : Nat) (v0 : Value) (v1 : Value) (v2 : Value) (v3 : Value) (v4 : Value) (v5 : Value) (x : Int32) (L : List Value) (M : Mem) (Q : Option Value → Mem → Prop), Wp d 38 17 (v0 :: v1 :: v2 :: v3 :: v4 :: v5 :: .int x :: L) [] M Q ↔ Wp d 38 19 (v0 :: v1 :: v2 :: v3 :: v4 :: v5 :: .int x :: L) [.int x] M Q) := by
  intro d v0 v1 v2 v3 v4 v5 x L M Q; exact Wp_sim (by decide +kernel : decode (cd 38) 17 = .ok (.iload 6, 2)) rfl rfl

/- 39: Reader.isFigure -/
set_option maxRecDepth 10000 in
theorem e39 : (∀ (d : Nat) (x : Int32) (L : List Value) (M : Mem) (Q : Option Value → Mem → Prop), Wp d 39 0 (.int x :: L) [] M Q ↔ Wp d 39 1 (.int x :: L) [.int x] M Q) ∧
    (∀ (d : Nat) (a : Int32) (L : List Value) (M : Mem) (Q : Option Value → Mem → Prop), Wp d 39 1 L [.int a] M Q ↔ Wp d 39 3 L [.int 48, .int a] M Q) ∧
    (∀ (d : Nat) (a : Int32) (b : Int32) (L : List Value) (M : Mem) (Q : Option Value → Mem → Prop), Wp d 39 3 L [.int a, .int b] M Q ↔ (if b < a then Wp d 39 16 L [] M Q else Wp d 39 6 L [] M Q)) ∧
    (∀ (d : Nat) (x : Int32) (L : List Value) (M : Mem) (Q : Option Value → Mem → Prop), Wp d 39 6 (.int x :: L) [] M Q ↔ Wp d 39 7 (.int x :: L) [.int x] M Q) ∧
    (∀ (d : Nat) (a : Int32) (L : List Value) (M : Mem) (Q : Option Value → Mem → Prop), Wp d 39 7 L [.int a] M Q ↔ Wp d 39 9 L [.int 57, .int a] M Q) ∧
    (∀ (d : Nat) (a : Int32) (b : Int32) (L : List Value) (M : Mem) (Q : Option Value → Mem → Prop), Wp d 39 9 L [.int a, .int b] M Q ↔ (if a < b then Wp d 39 16 L [] M Q else Wp d 39 12 L [] M Q)) ∧
    (∀ (d : Nat) (L : List Value) (M : Mem) (Q : Option Value → Mem → Prop), Wp d 39 12 L [] M Q ↔ Wp d 39 13 L [.int 1] M Q) ∧
    (∀ (d : Nat) (a : Int32) (L : List Value) (M : Mem) (Q : Option Value → Mem → Prop), Wp d 39 13 L [.int a] M Q ↔ Wp d 39 17 L [.int a] M Q) ∧
    (∀ (d : Nat) (L : List Value) (M : Mem) (Q : Option Value → Mem → Prop), Wp d 39 16 L [] M Q ↔ Wp d 39 17 L [.int 0] M Q) ∧
    (∀ (d : Nat) (a : Int32) (L : List Value) (M : Mem) (Q : Option Value → Mem → Prop), Wp d 39 17 L [.int a] M Q ↔ ((a = 0 ∨ a = 1) ∧ Q (some (.int a)) M)) := by
  refine ⟨?_, ?_, ?_, ?_, ?_, ?_, ?_, ?_, ?_, ?_⟩
  · intro d x L M Q; exact Wp_sim (by decide +kernel : decode (cd 39) 0 = .ok (.iload_n 0, 1)) rfl rfl
  · intro d a L M Q; exact Wp_sim (by decide +kernel : decode (cd 39) 1 = .ok (.bipush 48, 2)) rfl rfl
  · intro d a b L M Q; exact q_ilt (by decide +kernel : decode (cd 39) 3 = .ok (.if_icmp .lt 13, 3)) (by decide)
  · intro d x L M Q; exact Wp_sim (by decide +kernel : decode (cd 39) 6 = .ok (.iload_n 0, 1)) rfl rfl
  · intro d a L M Q; exact Wp_sim (by decide +kernel : decode (cd 39) 7 = .ok (.bipush 57, 2)) rfl rfl
  · intro d a b L M Q; exact q_igt (by decide +kernel : decode (cd 39) 9 = .ok (.if_icmp .gt 7, 3)) (by decide)
  · intro d L M Q; exact Wp_sim (by decide +kernel : decode (cd 39) 12 = .ok (.iconst 1, 1)) rfl rfl
  · intro d a L M Q; exact q_goto (by decide +kernel : decode (cd 39) 13 = .ok (.goto 4, 3)) (by decide)
  · intro d L M Q; exact Wp_sim (by decide +kernel : decode (cd 39) 16 = .ok (.iconst 0, 1)) rfl rfl
  · intro d a L M Q; exact q_zret (by decide +kernel : decode (cd 39) 17 = .ok (.ireturn , 1)) (by decide +kernel)

/- 40: Reader.readEnd -/
set_option maxRecDepth 10000 in
theorem e40 : (∀ (d : Nat) (x : Nat) (L : List Value) (M : Mem) (Q : Option Value → Mem → Prop), Wp d 40 0 (.ref x :: L) [] M Q ↔ Wp d 40 1 (.ref x :: L) [.ref x] M Q) ∧
    (∀ (d : Nat) (a : Nat) (v0 : Value) (x : Nat) (L : List Value) (M : Mem) (Q : Option Value → Mem → Prop), Wp d 40 1 (v0 :: .ref x :: L) [.ref a] M Q ↔ Wp d 40 2 (v0 :: .ref x :: L) [.ref x, .ref a] M Q) ∧
    (∀ (d : Nat) (a : Nat) (b : Nat) (L : List Value) (M : Mem) (Q : Option Value → Mem → Prop), Wp (d + 1) 40 2 L [.ref a, .ref b] M Q ↔ (isK b 8 = true ∧ Wp d 32 0 [.ref b, .ref a, .null] [] M (fun r M2 => Wp (d + 1) 40 5 L (r.toList ++ []) M2 Q))) ∧
    (∀ (d : Nat) (v0 : Value) (x : Nat) (L : List Value) (M : Mem) (Q : Option Value → Mem → Prop), Wp d 40 5 (v0 :: .ref x :: L) [] M Q ↔ Wp d 40 6 (v0 :: .ref x :: L) [.ref x] M Q) ∧
    (∀ (d : Nat) (a : Nat) (x : Nat) (L : List Value) (M : Mem) (Q : Option Value → Mem → Prop), Wp d 40 6 (.ref x :: L) [.ref a] M Q ↔ Wp d 40 7 (.ref x :: L) [.ref x, .ref a] M Q) ∧
    (∀ (d : Nat) (a : Nat) (b : Nat) (L : List Value) (M : Mem) (Q : Option Value → Mem → Prop), Wp d 40 7 L [.ref a, .ref b] M Q ↔ (isK a 8 = true ∧ Wp d 40 10 L [.int (M a 1), .ref b] M Q)) ∧
    (∀ (d : Nat) (a : Int32) (b : Nat) (L : List Value) (M : Mem) (Q : Option Value → Mem → Prop), Wp (d + 1) 40 10 L [.int a, .ref b] M Q ↔ (isK b 5 = true ∧ Wp d 24 0 [.ref b, .int a] [] M (fun r M2 => Wp (d + 1) 40 13 L (r.toList ++ []) M2 Q))) ∧
    (∀ (d : Nat) (a : Int32) (L : List Value) (M : Mem) (Q : Option Value → Mem → Prop), Wp d 40 13 L [.int a] M Q ↔ Wp d 40 15 L [.int 59, .int a] M Q) ∧
    (∀ (d : Nat) (a : Int32) (b : Int32) (L : List Value) (M : Mem) (Q : Option Value → Mem → Prop), Wp d 40 15 L [.int a, .int b] M Q ↔ (if b = a then Wp d 40 18 L [] M Q else Wp d 40 31 L [] M Q)) ∧
    (∀ (d : Nat) (x : Nat) (L : List Value) (M : Mem) (Q : Option Value → Mem → Prop), Wp d 40 18 (.ref x :: L) [] M Q ↔ Wp d 40 19 (.ref x :: L) [.ref x] M Q) ∧
    (∀ (d : Nat) (a : Nat) (L : List Value) (M : Mem) (Q : Option Value → Mem → Prop), Wp d 40 19 L [.ref a] M Q ↔ Wp d 40 20 L [.ref a, .ref a] M Q) ∧
    (∀ (d : Nat) (a : Nat) (b : Nat) (L : List Value) (M : Mem) (Q : Option Value → Mem → Prop), Wp d 40 20 L [.ref a, .ref b] M Q ↔ (isK a 8 = true ∧ Wp d 40 23 L [.int (M a 1), .ref b] M Q)) ∧
    (∀ (d : Nat) (a : Int32) (b : Nat) (L : List Value) (M : Mem) (Q : Option Value → Mem → Prop), Wp d 40 23 L [.int a, .ref b] M Q ↔ Wp d 40 24 L [.int 1, .int a, .ref b] M Q) ∧
    (∀ (d : Nat) (a : Int32) (b : Int32) (c : Nat) (L : List Value) (M : Mem) (Q : Option Value → Mem → Prop), Wp d 40 24 L [.int a, .int b, .ref c] M Q ↔ Wp d 40 25 L [.int (b + a), .ref c] M Q) ∧
    (∀ (d : Nat) (a : Int32) (b : Nat) (L : List Value) (M : Mem) (Q : Option Value → Mem → Prop), Wp d 40 25 L [.int a, .ref b] M Q ↔ (isK b 8 = true ∧ Wp d 40 28 L [] (up2 M b 1 a) Q)) ∧
    (∀ (d : Nat) (L : List Value) (M : Mem) (Q : Option Value → Mem → Prop), Wp d 40 28 L [] M Q ↔ Wp d 40 40 L [] M Q) ∧
    (∀ (d : Nat) (x : Nat) (L : List Value) (M : Mem) (Q : Option Value → Mem → Prop), Wp d 40 31 (.ref x :: L) [] M Q ↔ Wp d 40 32 (.ref x :: L) [.ref x] M Q) ∧
    (∀ (d : Nat) (a : Nat) (x : Nat) (L : List Value) (M : Mem) (Q : Option Value → Mem → Prop), Wp d 40 32 (.ref x :: L) [.ref a] M Q ↔ Wp d 40 33 (.ref x :: L) [.ref x, .ref a] M Q) ∧
    (∀ (d : Nat) (a : Nat) (b : Nat) (L : List Value) (M : Mem) (Q : Option Value → Mem → Prop), Wp d 40 33 L [.ref a, .ref b] M Q ↔ (isK a 8 = true ∧ Wp d 40 36 L [.int (M a 1), .ref b] M Q)) ∧
    (∀ (d : Nat) (a : Int32) (b : Nat) (L : List Value) (M : Mem) (Q : Option Value → Mem → Prop), Wp d 40 36 L [.int a, .ref b] M Q ↔ Wp d 40 37 L [.int 1, .int a, .ref b] M Q) ∧
    (∀ (d : Nat) (a : Int32) (b : Int32) (c : Nat) (L : List Value) (M : Mem) (Q : Option Value → Mem → Prop), Wp (d + 1) 40 37 L [.int a, .int b, .ref c] M Q ↔ (isK c 8 = true ∧ Wp d 36 0 [.ref c, .int b, .int a] [] M (fun r M2 => Wp (d + 1) 40 40 L (r.toList ++ []) M2 Q))) ∧
    (∀ (d : Nat) (L : List Value) (M : Mem) (Q : Option Value → Mem → Prop), Wp d 40 40 L [] M Q ↔ Q none M) := by
  refine ⟨?_, ?_, ?_, ?_, ?_, ?_, ?_, ?_, ?_, ?_, ?_, ?_, ?_, ?_, ?_, ?_, ?_, ?_, ?_, ?_, ?_, ?_⟩
  · intro d x L M Q; exact Wp_sim (by decide +kernel : decode (cd 40) 0 = .ok (.aload_n 0, 1)) rfl rfl
  · intro d a v0 x L M Q; exact Wp_sim (by decide +kernel : decode (cd 40) 1 = .ok (.aload_n 1, 1)) rfl rfl
  · intro d a b L M Q; exact q_invV (pz := 357) (n := 1) (c := 8) (m := 3) (k := b) (As := [.ref a]) (rest := []) (by decide +kernel : decode (cd 40) 2 = .ok (.invokevirtual 30, 3)) (by decide +kernel) (by decide +kernel) rfl rfl (Nat.le_of_ble_eq_true rfl) (Nat.le_of_ble_eq_true rfl) rfl
  · intro d v0 x L M Q; exact Wp_sim (by decide +kernel : decode (cd 40) 5 = .ok (.aload_n 1, 1)) rfl rfl
  · intro d a x L M Q; exact Wp_sim (by decide +kernel : decode (cd 40) 6 = .ok (.aload_n 0, 1)) rfl rfl
  · intro d a b L M Q; exact q_getI (p := 49) (by decide +kernel : decode (cd 40) 7 = .ok (.getfield 24, 3)) (by decide +kernel) (by decide +kernel)
  · intro d a b L M Q; exact q_invV (pz := 361) (n := 1) (c := 5) (m := 2) (k := b) (As := [.int a]) (rest := []) (by decide +kernel : decode (cd 40) 10 = .ok (.invokevirtual 43, 3)) (by decide +kernel) (by decide +kernel) rfl rfl (Nat.le_of_ble_eq_true rfl) (Nat.le_of_ble_eq_true rfl) rfl
  · intro d a L M Q; exact Wp_sim (by decide +kernel : decode (cd 40) 13 = .ok (.bipush 59, 2)) rfl rfl
  · intro d a b L M Q; exact q_ine (by decide +kernel : decode (cd 40) 15 = .ok (.if_icmp .ne 16, 3)) (by decide)
  · intro d x L M Q; exact Wp_sim (by decide +kernel : decode (cd 40) 18 = .ok (.aload_n 0, 1)) rfl rfl
  · intro d a L M Q; exact Wp_sim (by decide +kernel : decode (cd 40) 19 = .ok (.dup , 1)) rfl rfl
  · intro d a b L M Q; exact q_getI (p := 49) (by decide +kernel : decode (cd 40) 20 = .ok (.getfield 24, 3)) (by decide +kernel) (by decide +kernel)
  · intro d a b L M Q; exact Wp_sim (by decide +kernel : decode (cd 40) 23 = .ok (.iconst 1, 1)) rfl rfl
  · intro d a b c L M Q; exact Wp_sim (by decide +kernel : decode (cd 40) 24 = .ok (.iadd , 1)) rfl rfl
  · intro d a b L M Q; exact q_putI (p := 49) (by decide +kernel : decode (cd 40) 25 = .ok (.putfield 24, 3)) (by decide +kernel) (by decide +kernel)
  · intro d L M Q; exact q_goto (by decide +kernel : decode (cd 40) 28 = .ok (.goto 12, 3)) (by decide)
  · intro d x L M Q; exact Wp_sim (by decide +kernel : decode (cd 40) 31 = .ok (.aload_n 0, 1)) rfl rfl
  · intro d a x L M Q; exact Wp_sim (by decide +kernel : decode (cd 40) 32 = .ok (.aload_n 0, 1)) rfl rfl
  · intro d a b L M Q; exact q_getI (p := 49) (by decide +kernel : decode (cd 40) 33 = .ok (.getfield 24, 3)) (by decide +kernel) (by decide +kernel)
  · intro d a b L M Q; exact Wp_sim (by decide +kernel : decode (cd 40) 36 = .ok (.iconst 1, 1)) rfl rfl
  · intro d a b c L M Q; exact q_invV (pz := 379) (n := 2) (c := 8) (m := 3) (k := c) (As := [.int b, .int a]) (rest := []) (by decide +kernel : decode (cd 40) 37 = .ok (.invokevirtual 54, 3)) (by decide +kernel) (by decide +kernel) rfl rfl (Nat.le_of_ble_eq_true rfl) (Nat.le_of_ble_eq_true rfl) rfl
  · intro d L M Q; exact q_vret (by decide +kernel : decode (cd 40) 40 = .ok (.return_ , 1)) (by decide +kernel)

/- 41: Town.begin -/
set_option maxRecDepth 10000 in
theorem e41 : (∀ (d : Nat) (x : Nat) (L : List Value) (M : Mem) (Q : Option Value → Mem → Prop), Wp d 41 0 (.ref x :: L) [] M Q ↔ Wp d 41 1 (.ref x :: L) [.ref x] M Q) ∧
    (∀ (d : Nat) (a : Nat) (L : List Value) (M : Mem) (Q : Option Value → Mem → Prop), Wp d 41 1 L [.ref a] M Q ↔ (isK a 9 = true ∧ Wp d 41 4 L [.ref (rt a 0)] M Q)) ∧
    (∀ (d : Nat) (a : Nat) (v0 : Value) (x : Nat) (L : List Value) (M : Mem) (Q : Option Value → Mem → Prop), Wp d 41 4 (v0 :: .ref x :: L) [.ref a] M Q ↔ Wp d 41 5 (v0 :: .ref x :: L) [.ref x, .ref a] M Q) ∧
    (∀ (d : Nat) (a : Nat) (b : Nat) (L : List Value) (M : Mem) (Q : Option Value → Mem → Prop), Wp (d + 1) 41 5 L [.ref a, .ref b] M Q ↔ (isK b 1 = true ∧ Wp d 5 0 [.ref b, .ref a] [] M (fun r M2 => Wp (d + 1) 41 8 L (r.toList ++ []) M2 Q))) ∧
    (∀ (d : Nat) (x : Nat) (L : List Value) (M : Mem) (Q : Option Value → Mem → Prop), Wp d 41 8 (.ref x :: L) [] M Q ↔ Wp d 41 9 (.ref x :: L) [.ref x] M Q) ∧
    (∀ (d : Nat) (a : Nat) (L : List Value) (M : Mem) (Q : Option Value → Mem → Prop), Wp d 41 9 L [.ref a] M Q ↔ (isK a 9 = true ∧ Wp d 41 12 L [.ref (rt a 1)] M Q)) ∧
    (∀ (d : Nat) (a : Nat) (L : List Value) (M : Mem) (Q : Option Value → Mem → Prop), Wp (d + 1) 41 12 L [.ref a] M Q ↔ (isK a 6 = true ∧ Wp d 25 0 [.ref a] [] M (fun r M2 => Wp (d + 1) 41 15 L (r.toList ++ []) M2 Q))) ∧
    (∀ (d : Nat) (L : List Value) (M : Mem) (Q : Option Value → Mem → Prop), Wp d 41 15 L [] M Q ↔ Q none M) := by
  refine ⟨?_, ?_, ?_, ?_, ?_, ?_, ?_, ?_⟩
  · intro d x L M Q; exact Wp_sim (by decide +kernel : decode (cd 41) 0 = .ok (.aload_n 0, 1)) rfl rfl
  · intro d a L M Q; exact q_getR (p := 196) (by decide +kernel : decode (cd 41) 1 = .ok (.getfield 12, 3)) (by decide +kernel) (by decide +kernel)
  · intro d a v0 x L M Q; exact Wp_sim (by decide +kernel : decode (cd 41) 4 = .ok (.aload_n 1, 1)) rfl rfl
  · intro d a b L M Q; exact q_invV (pz := 413) (n := 1) (c := 1) (m := 2) (k := b) (As := [.ref a]) (rest := []) (by decide +kernel : decode (cd 41) 5 = .ok (.invokevirtual 25, 3)) (by decide +kernel) (by decide +kernel) rfl rfl (Nat.le_of_ble_eq_true rfl) (Nat.le_of_ble_eq_true rfl) rfl
  · intro d x L M Q; exact Wp_sim (by decide +kernel : decode (cd 41) 8 = .ok (.aload_n 0, 1)) rfl rfl
  · intro d a L M Q; exact q_getR (p := 198) (by decide +kernel : decode (cd 41) 9 = .ok (.getfield 21, 3)) (by decide +kernel) (by decide +kernel)
  · intro d a L M Q; exact q_invV (pz := 420) (n := 0) (c := 6) (m := 1) (k := a) (As := []) (rest := []) (by decide +kernel : decode (cd 41) 12 = .ok (.invokevirtual 29, 3)) (by decide +kernel) (by decide +kernel) rfl rfl (Nat.le_of_ble_eq_true rfl) (Nat.le_of_ble_eq_true rfl) rfl
  · intro d L M Q; exact q_vret (by decide +kernel : decode (cd 41) 15 = .ok (.return_ , 1)) (by decide +kernel)

/- 42: Town.allWhoAre -/
set_option maxRecDepth 10000 in
theorem e42 : (∀ (d : Nat) (L : List Value) (M : Mem) (Q : Option Value → Mem → Prop), Wp d 42 0 L [] M Q ↔ Wp d 42 1 L [.int 0] M Q) ∧
    (∀ (d : Nat) (a : Int32) (v0 : Value) (v1 : Value) (x : Value) (L : List Value) (M : Mem) (Q : Option Value → Mem → Prop), Wp d 42 1 (v0 :: v1 :: x :: L) [.int a] M Q ↔ Wp d 42 2 (v0 :: clr v1 :: .int a :: L) [] M Q) ∧
    (∀ (d : Nat) (L : List Value) (M : Mem) (Q : Option Value → Mem → Prop), Wp d 42 2 L [] M Q ↔ Wp d 42 3 L [.int 0] M Q) ∧
    (∀ (d : Nat) (a : Int32) (v0 : Value) (v1 : Value) (v2 : Value) (x : Value) (L : List Value) (M : Mem) (Q : Option Value → Mem → Prop), Wp d 42 3 (v0 :: v1 :: v2 :: x :: L) [.int a] M Q ↔ Wp d 42 4 (v0 :: v1 :: clr v2 :: .int a :: L) [] M Q) ∧
    (∀ (d : Nat) (a : Int32) (x : Nat) (L : List Value) (M : Mem) (Q : Option Value → Mem → Prop), Wp d 42 5 (.ref x :: L) [.int a] M Q ↔ Wp d 42 6 (.ref x :: L) [.ref x, .int a] M Q) ∧
    (∀ (d : Nat) (a : Nat) (b : Int32) (L : List Value) (M : Mem) (Q : Option Value → Mem → Prop), Wp d 42 6 L [.ref a, .int b] M Q ↔ (isK a 9 = true ∧ Wp d 42 9 L [.ref (rt a 0), .int b] M Q)) ∧
    (∀ (d : Nat) (a : Nat) (b : Int32) (L : List Value) (M : Mem) (Q : Option Value → Mem → Prop), Wp d 42 9 L [.ref a, .int b] M Q ↔ (isK a 1 = true ∧ Wp d 42 12 L [.int (M a 13), .int b] M Q)) ∧
    (∀ (d : Nat) (a : Int32) (b : Int32) (L : List Value) (M : Mem) (Q : Option Value → Mem → Prop), Wp d 42 12 L [.int a, .int b] M Q ↔ (if b < a then Wp d 42 15 L [] M Q else Wp d 42 40 L [] M Q)) ∧
    (∀ (d : Nat) (x : Nat) (L : List Value) (M : Mem) (Q : Option Value → Mem → Prop), Wp d 42 15 (.ref x :: L) [] M Q ↔ Wp d 42 16 (.ref x :: L) [.ref x] M Q) ∧
    (∀ (d : Nat) (a : Nat) (L : List Value) (M : Mem) (Q : Option Value → Mem → Prop), Wp d 42 16 L [.ref a] M Q ↔ (isK a 9 = true ∧ Wp d 42 19 L [.ref (rt a 1)] M Q)) ∧
    (∀ (d : Nat) (a : Nat) (L : List Value) (M : Mem) (Q : Option Value → Mem → Prop), Wp d 42 19 L [.ref a] M Q ↔ (isK a 6 = true ∧ Wp d 42 22 L [.ref (rt a 0)] M Q)) ∧
    (∀ (d : Nat) (a : Nat) (v0 : Value) (v1 : Value) (v2 : Value) (x : Int32) (L : List Value) (M : Mem) (Q : Option Value → Mem → Prop), Wp d 42 22 (v0 :: v1 :: v2 :: .int x :: L) [.ref a] M Q ↔ Wp d 42 23 (v0 :: v1 :: v2 :: .int x :: L) [.int x, .ref a] M Q) ∧
    (∀ (d : Nat) (a : Int32) (b : Nat) (L : List Value) (M : Mem) (Q : Option Value → Mem → Prop), Wp d 42 23 L [.int a, .ref b] M Q ↔ ((isR b = true ∧ inr a (lnm M b)) ∧ Wp d 42 24 L [.int (M b a.toNatClampNeg)] M Q)) ∧
    (∀ (d : Nat) (a : Int32) (v0 : Value) (x : Int32) (L : List Value) (M : Mem) (Q : Option Value → Mem → Prop), Wp d 42 24 (v0 :: .int x :: L) [.int a] M Q ↔ Wp d 42 25 (v0 :: .int x :: L) [.int x, .int a] M Q) ∧
    (∀ (d : Nat) (a : Int32) (b : Int32) (L : List Value) (M : Mem) (Q : Option Value → Mem → Prop), Wp d 42 25 L [.int a, .int b] M Q ↔ (if b = a then Wp d 42 28 L [] M Q else Wp d 42 34 L [] M Q)) ∧
    (∀ (d : Nat) (v0 : Value) (v1 : Value) (x : Int32) (L : List Value) (M : Mem) (Q : Option Value → Mem → Prop), Wp d 42 28 (v0 :: v1 :: .int x :: L) [] M Q ↔ Wp d 42 29 (v0 :: v1 :: .int x :: L) [.int x] M Q) ∧
    (∀ (d : Nat) (a : Int32) (L : List Value) (M : Mem) (Q : Option Value → Mem → Prop), Wp d 42 29 L [.int a] M Q ↔ Wp d 42 30 L [.int 1, .int a] M Q) ∧
    (∀ (d : Nat) (a : Int32) (b : Int32) (v0 : Value) (v1 : Value) (v2 : Value) (x : Int32) (L : List Value) (M : Mem) (Q : Option Value → Mem → Prop), Wp d 42 30 (v0 :: v1 :: v2 :: .int x :: L) [.int a, .int b] M Q ↔ Wp d 42 31 (v0 :: v1 :: v2 :: .int x :: L) [.int x, .int a, .int b] M Q) ∧
    (∀ (d : Nat) (a : Int32) (b : Int32) (c : Int32) (L : List Value) (M : Mem) (Q : Option Value → Mem → Prop), Wp d 42 31 L [.int a, .int b, .int c] M Q ↔ Wp d 42 32 L [.int (b <<< (a &&& 31)), .int c] M Q) ∧
    (∀ (d : Nat) (a : Int32) (b : Int32) (L : List Value) (M : Mem) (Q : Option Value → Mem → Prop), Wp d 42 32 L [.int a, .int b] M Q ↔ Wp d 42 33 L [.int (b ||| a)] M Q) ∧
    (∀ (d : Nat) (a : Int32) (v0 : Value) (v1 : Value) (x : Value) (L : List Value) (M : Mem) (Q : Option Value → Mem → Prop), Wp d 42 33 (v0 :: v1 :: x :: L) [.int a] M Q ↔ Wp d 42 34 (v0 :: clr v1 :: .int a :: L) [] M Q) ∧
    (∀ (d : Nat) (v0 : Value) (v1 : Value) (v2 : Value) (x : Int32) (L : List Value) (M : Mem) (Q : Option Value → Mem → Prop), Wp d 42 34 (v0 :: v1 :: v2 :: .int x :: L) [] M Q ↔ Wp d 42 37 (v0 :: v1 :: clr v2 :: .int (x + 1) :: L) [] M Q) ∧
    (∀ (d : Nat) (L : List Value) (M : Mem) (Q : Option Value → Mem → Prop), Wp d 42 37 L [] M Q ↔ Wp d 42 4 L [] M Q) ∧
    (∀ (d : Nat) (v0 : Value) (v1 : Value) (x : Int32) (L : List Value) (M : Mem) (Q : Option Value → Mem → Prop), Wp d 42 40 (v0 :: v1 :: .int x :: L) [] M Q ↔ Wp d 42 41 (v0 :: v1 :: .int x :: L) [.int x] M Q) ∧
    (∀ (d : Nat) (a : Int32) (L : List Value) (M : Mem) (Q : Option Value → Mem → Prop), Wp d 42 41 L [.int a] M Q ↔ Q (some (.int a)) M) := by
  refine ⟨?_, ?_, ?_, ?_, ?_, ?_, ?_, ?_, ?_, ?_, ?_, ?_, ?_, ?_, ?_, ?_, ?_, ?_, ?_, ?_, ?_, ?_, ?_, ?_, ?_⟩
  · intro d L M Q; exact Wp_sim (by decide +kernel : decode (cd 42) 0 = .ok (.iconst 0, 1)) rfl rfl
  · intro d a v0 v1 x L M Q; exact Wp_sim (by decide +kernel : decode (cd 42) 1 = .ok (.istore_n 2, 1)) rfl rfl
  · intro d L M Q; exact Wp_sim (by decide +kernel : decode (cd 42) 2 = .ok (.iconst 0, 1)) rfl rfl
  · intro d a v0 v1 v2 x L M Q; exact Wp_sim (by decide +kernel : decode (cd 42) 3 = .ok (.istore_n 3, 1)) rfl rfl
  · intro d a x L M Q; exact Wp_sim (by decide +kernel : decode (cd 42) 5 = .ok (.aload_n 0, 1)) rfl rfl
  · intro d a b L M Q; exact q_getR (p := 196) (by decide +kernel : decode (cd 42) 6 = .ok (.getfield 12, 3)) (by decide +kernel) (by decide +kernel)
  · intro d a b L M Q; exact q_getI (p := 103) (by decide +kernel : decode (cd 42) 9 = .ok (.getfield 32, 3)) (by decide +kernel) (by decide +kernel)
  · intro d a b L M Q; exact q_ige (by decide +kernel : decode (cd 42) 12 = .ok (.if_icmp .ge 28, 3)) (by decide)
  · intro d x L M Q; exact Wp_sim (by decide +kernel : decode (cd 42) 15 = .ok (.aload_n 0, 1)) rfl rfl
  · intro d a L M Q; exact q_getR (p := 198) (by decide +kernel : decode (cd 42) 16 = .ok (.getfield 21, 3)) (by decide +kernel) (by decide +kernel)
  · intro d a L M Q; exact q_getR (p := 165) (by decide +kernel : decode (cd 42) 19 = .ok (.getfield 36, 3)) (by decide +kernel) (by decide +kernel)
  · intro d a v0 v1 v2 x L M Q; exact Wp_sim (by decide +kernel : decode (cd 42) 22 = .ok (.iload_n 3, 1)) rfl rfl
  · intro d a b L M Q; exact q_ald (by decide +kernel : decode (cd 42) 23 = .ok (.iaload , 1))
  · intro d a v0 x L M Q; exact Wp_sim (by decide +kernel : decode (cd 42) 24 = .ok (.iload_n 1, 1)) rfl rfl
  · intro d a b L M Q; exact q_ine (by decide +kernel : decode (cd 42) 25 = .ok (.if_icmp .ne 9, 3)) (by decide)
  · intro d v0 v1 x L M Q; exact Wp_sim (by decide +kernel : decode (cd 42) 28 = .ok (.iload_n 2, 1)) rfl rfl
  · intro d a L M Q; exact Wp_sim (by decide +kernel : decode (cd 42) 29 = .ok (.iconst 1, 1)) rfl rfl
  · intro d a b v0 v1 v2 x L M Q; exact Wp_sim (by decide +kernel : decode (cd 42) 30 = .ok (.iload_n 3, 1)) rfl rfl
  · intro d a b c L M Q; exact Wp_sim (by decide +kernel : decode (cd 42) 31 = .ok (.ishl , 1)) rfl rfl
  · intro d a b L M Q; exact Wp_sim (by decide +kernel : decode (cd 42) 32 = .ok (.ior , 1)) rfl rfl
  · intro d a v0 v1 x L M Q; exact Wp_sim (by decide +kernel : decode (cd 42) 33 = .ok (.istore_n 2, 1)) rfl rfl
  · intro d v0 v1 v2 x L M Q; exact Wp_sim (by decide +kernel : decode (cd 42) 34 = .ok (.iinc 3 1, 3)) rfl rfl
  · intro d L M Q; exact q_goto (by decide +kernel : decode (cd 42) 37 = .ok (.goto (-33), 3)) (by decide)
  · intro d v0 v1 x L M Q; exact Wp_sim (by decide +kernel : decode (cd 42) 40 = .ok (.iload_n 2, 1)) rfl rfl
  · intro d a L M Q; exact q_iret (by decide +kernel : decode (cd 42) 41 = .ok (.ireturn , 1)) (by decide +kernel)
theorem h42_4 : (∀ (d : Nat) (v0 : Value) (v1 : Value) (v2 : Value) (x : Int32) (L : List Value) (M : Mem) (Q : Option Value → Mem → Prop), Wp d 42 4 (v0 :: v1 :: v2 :: .int x :: L) [] M Q ↔ Wp d 42 5 (v0 :: v1 :: v2 :: .int x :: L) [.int x] M Q) := by
  intro d v0 v1 v2 x L M Q; exact Wp_sim (by decide +kernel : decode (cd 42) 4 = .ok (.iload_n 3, 1)) rfl rfl

/- 43: Town.arrestedNext -/
set_option maxRecDepth 10000 in
theorem e43 : (∀ (d : Nat) (x : Nat) (L : List Value) (M : Mem) (Q : Option Value → Mem → Prop), Wp d 43 0 (.ref x :: L) [] M Q ↔ Wp d 43 1 (.ref x :: L) [.ref x] M Q) ∧
    (∀ (d : Nat) (a : Nat) (L : List Value) (M : Mem) (Q : Option Value → Mem → Prop), Wp d 43 1 L [.ref a] M Q ↔ Wp d 43 2 L [.int 0, .ref a] M Q) ∧
    (∀ (d : Nat) (a : Int32) (b : Nat) (L : List Value) (M : Mem) (Q : Option Value → Mem → Prop), Wp (d + 1) 43 2 L [.int a, .ref b] M Q ↔ (isK b 9 = true ∧ Wp d 42 0 [.ref b, .int a, .null, .null] [] M (fun r M2 => Wp (d + 1) 43 5 L (r.toList ++ []) M2 Q))) ∧
    (∀ (d : Nat) (a : Int32) (v0 : Value) (x : Value) (L : List Value) (M : Mem) (Q : Option Value → Mem → Prop), Wp d 43 5 (v0 :: x :: L) [.int a] M Q ↔ Wp d 43 6 (clr v0 :: .int a :: L) [] M Q) ∧
    (∀ (d : Nat) (L : List Value) (M : Mem) (Q : Option Value → Mem → Prop), Wp d 43 6 L [] M Q ↔ Wp d 43 7 L [.int 0] M Q) ∧
    (∀ (d : Nat) (a : Int32) (v0 : Value) (v1 : Value) (x : Value) (L : List Value) (M : Mem) (Q : Option Value → Mem → Prop), Wp d 43 7 (v0 :: v1 :: x :: L) [.int a] M Q ↔ Wp d 43 8 (v0 :: clr v1 :: .int a :: L) [] M Q) ∧
    (∀ (d : Nat) (L : List Value) (M : Mem) (Q : Option Value → Mem → Prop), Wp d 43 8 L [] M Q ↔ Wp d 43 9 L [.int 0] M Q) ∧
    (∀ (d : Nat) (a : Int32) (v0 : Value) (v1 : Value) (v2 : Value) (x : Value) (L : List Value) (M : Mem) (Q : Option Value → Mem → Prop), Wp d 43 9 (v0 :: v1 :: v2 :: x :: L) [.int a] M Q ↔ Wp d 43 10 (v0 :: v1 :: clr v2 :: .int a :: L) [] M Q) ∧
    (∀ (d : Nat) (a : Int32) (x : Nat) (L : List Value) (M : Mem) (Q : Option Value → Mem → Prop), Wp d 43 11 (.ref x :: L) [.int a] M Q ↔ Wp d 43 12 (.ref x :: L) [.ref x, .int a] M Q) ∧
    (∀ (d : Nat) (a : Nat) (b : Int32) (L : List Value) (M : Mem) (Q : Option Value → Mem → Prop), Wp d 43 12 L [.ref a, .int b] M Q ↔ (isK a 9 = true ∧ Wp d 43 15 L [.ref (rt a 0), .int b] M Q)) ∧
    (∀ (d : Nat) (a : Nat) (b : Int32) (L : List Value) (M : Mem) (Q : Option Value → Mem → Prop), Wp d 43 15 L [.ref a, .int b] M Q ↔ (isK a 1 = true ∧ Wp d 43 18 L [.int (M a 11), .int b] M Q)) ∧
    (∀ (d : Nat) (a : Int32) (b : Int32) (L : List Value) (M : Mem) (Q : Option Value → Mem → Prop), Wp d 43 18 L [.int a, .int b] M Q ↔ (if b < a then Wp d 43 21 L [] M Q else Wp d 43 70 L [] M Q)) ∧
    (∀ (d : Nat) (v0 : Value) (x : Int32) (L : List Value) (M : Mem) (Q : Option Value → Mem → Prop), Wp d 43 21 (v0 :: .int x :: L) [] M Q ↔ Wp d 43 22 (v0 :: .int x :: L) [.int x] M Q) ∧
    (∀ (d : Nat) (a : Int32) (L : List Value) (M : Mem) (Q : Option Value → Mem → Prop), Wp d 43 22 L [.int a] M Q ↔ (if a = 0 then Wp d 43 70 L [] M Q else Wp d 43 25 L [] M Q)) ∧
    (∀ (d : Nat) (x : Nat) (L : List Value) (M : Mem) (Q : Option Value → Mem → Prop), Wp d 43 25 (.ref x :: L) [] M Q ↔ Wp d 43 26 (.ref x :: L) [.ref x] M Q) ∧
    (∀ (d : Nat) (a : Nat) (x : Nat) (L : List Value) (M : Mem) (Q : Option Value → Mem → Prop), Wp d 43 26 (.ref x :: L) [.ref a] M Q ↔ Wp d 43 27 (.ref x :: L) [.ref x, .ref a] M Q) ∧
    (∀ (d : Nat) (a : Nat) (b : Nat) (L : List Value) (M : Mem) (Q : Option Value → Mem → Prop), Wp d 43 27 L [.ref a, .ref b] M Q ↔ (isK a 9 = true ∧ Wp d 43 30 L [.ref (rt a 0), .ref b] M Q)) ∧
    (∀ (d : Nat) (a : Nat) (b : Nat) (L : List Value) (M : Mem) (Q : Option Value → Mem → Prop), Wp d 43 30 L [.ref a, .ref b] M Q ↔ (isK a 1 = true ∧ Wp d 43 33 L [.ref (rt a 3), .ref b] M Q)) ∧
    (∀ (d : Nat) (a : Nat) (b : Nat) (v0 : Value) (x : Int32) (L : List Value) (M : Mem) (Q : Option Value → Mem → Prop), Wp d 43 33 (v0 :: .int x :: L) [.ref a, .ref b] M Q ↔ Wp d 43 34 (v0 :: .int x :: L) [.int x, .ref a, .ref b] M Q) ∧
    (∀ (d : Nat) (a : Int32) (b : Nat) (c : Nat) (L : List Value) (M : Mem) (Q : Option Value → Mem → Prop), Wp (d + 1) 43 34 L [.int a, .ref b, .ref c] M Q ↔ (isK c 9 = true ∧ Wp d 44 0 [.ref c, .ref b, .int a, .null, .null] [] M (fun r M2 => Wp (d + 1) 43 37 L (r.toList ++ []) M2 Q))) ∧
    (∀ (d : Nat) (a : Int32) (v0 : Value) (v1 : Value) (v2 : Value) (v3 : Value) (x : Value) (L : List Value) (M : Mem) (Q : Option Value → Mem → Prop), Wp d 43 37 (v0 :: v1 :: v2 :: v3 :: x :: L) [.int a] M Q ↔ Wp d 43 39 (v0 :: v1 :: v2 :: clr v3 :: .int a :: L) [] M Q) ∧
    (∀ (d : Nat) (v0 : Value) (v1 : Value) (v2 : Value) (v3 : Value) (x : Int32) (L : List Value) (M : Mem) (Q : Option Value → Mem → Prop), Wp d 43 39 (v0 :: v1 :: v2 :: v3 :: .int x :: L) [] M Q ↔ Wp d 43 41 (v0 :: v1 :: v2 :: v3 :: .int x :: L) [.int x] M Q) ∧
    (∀ (d : Nat) (a : Int32) (L : List Value) (M : Mem) (Q : Option Value → Mem → Prop), Wp d 43 41 L [.int a] M Q ↔ Wp d 43 42 L [.int (-1), .int a] M Q) ∧
    (∀ (d : Nat) (a : Int32) (b : Int32) (L : List Value) (M : Mem) (Q : Option Value → Mem → Prop), Wp d 43 42 L [.int a, .int b] M Q ↔ (if b = a then Wp d 43 45 L [] M Q else Wp d 43 48 L [] M Q)) ∧
    (∀ (d : Nat) (L : List Value) (M : Mem) (Q : Option Value → Mem → Prop), Wp d 43 45 L [] M Q ↔ Wp d 43 70 L [] M Q) ∧
    (∀ (d : Nat) (v0 : Value) (v1 : Value) (x : Int32) (L : List Value) (M : Mem) (Q : Option Value → Mem → Prop), Wp d 43 48 (v0 :: v1 :: .int x :: L) [] M Q ↔ Wp d 43 49 (v0 :: v1 :: .int x :: L) [.int x] M Q) ∧
    (∀ (d : Nat) (a : Int32) (L : List Value) (M : Mem) (Q : Option Value → Mem → Prop), Wp d 43 49 L [.int a] M Q ↔ Wp d 43 50 L [.int 1, .int a] M Q) ∧
    (∀ (d : Nat) (a : Int32) (b : Int32) (v0 : Value) (v1 : Value) (v2 : Value) (v3 : Value) (x : Int32) (L : List Value) (M : Mem) (Q : Option Value → Mem → Prop), Wp d 43 50 (v0 :: v1 :: v2 :: v3 :: .int x :: L) [.int a, .int b] M Q ↔ Wp d 43 52 (v0 :: v1 :: v2 :: v3 :: .int x :: L) [.int x, .int a, .int b] M Q) ∧
    (∀ (d : Nat) (a : Int32) (b : Int32) (c : Int32) (L : List Value) (M : Mem) (Q : Option Value → Mem → Prop), Wp d 43 52 L [.int a, .int b, .int c] M Q ↔ Wp d 43 53 L [.int (b <<< (a &&& 31)), .int c] M Q) ∧
    (∀ (d : Nat) (a : Int32) (b : Int32) (L : List Value) (M : Mem) (Q : Option Value → Mem → Prop), Wp d 43 53 L [.int a, .int b] M Q ↔ Wp d 43 54 L [.int (b ||| a)] M Q) ∧
    (∀ (d : Nat) (a : Int32) (v0 : Value) (v1 : Value) (x : Value) (L : List Value) (M : Mem) (Q : Option Value → Mem → Prop), Wp d 43 54 (v0 :: v1 :: x :: L) [.int a] M Q ↔ Wp d 43 55 (v0 :: clr v1 :: .int a :: L) [] M Q) ∧
    (∀ (d : Nat) (v0 : Value) (x : Int32) (L : List Value) (M : Mem) (Q : Option Value → Mem → Prop), Wp d 43 55 (v0 :: .int x :: L) [] M Q ↔ Wp d 43 56 (v0 :: .int x :: L) [.int x] M Q) ∧
    (∀ (d : Nat) (a : Int32) (L : List Value) (M : Mem) (Q : Option Value → Mem → Prop), Wp d 43 56 L [.int a] M Q ↔ Wp d 43 57 L [.int 1, .int a] M Q) ∧
    (∀ (d : Nat) (a : Int32) (b : Int32) (v0 : Value) (v1 : Value) (v2 : Value) (v3 : Value) (x : Int32) (L : List Value) (M : Mem) (Q : Option Value → Mem → Prop), Wp d 43 57 (v0 :: v1 :: v2 :: v3 :: .int x :: L) [.int a, .int b] M Q ↔ Wp d 43 59 (v0 :: v1 :: v2 :: v3 :: .int x :: L) [.int x, .int a, .int b] M Q) ∧
    (∀ (d : Nat) (a : Int32) (b : Int32) (c : Int32) (L : List Value) (M : Mem) (Q : Option Value → Mem → Prop), Wp d 43 59 L [.int a, .int b, .int c] M Q ↔ Wp d 43 60 L [.int (b <<< (a &&& 31)), .int c] M Q) ∧
    (∀ (d : Nat) (a : Int32) (b : Int32) (L : List Value) (M : Mem) (Q : Option Value → Mem → Prop), Wp d 43 60 L [.int a, .int b] M Q ↔ Wp d 43 61 L [.int (-1), .int a, .int b] M Q) ∧
    (∀ (d : Nat) (a : Int32) (b : Int32) (c : Int32) (L : List Value) (M : Mem) (Q : Option Value → Mem → Prop), Wp d 43 61 L [.int a, .int b, .int c] M Q ↔ Wp d 43 62 L [.int (b ^^^ a), .int c] M Q) ∧
    (∀ (d : Nat) (a : Int32) (b : Int32) (L : List Value) (M : Mem) (Q : Option Value → Mem → Prop), Wp d 43 62 L [.int a, .int b] M Q ↔ Wp d 43 63 L [.int (b &&& a)] M Q) ∧
    (∀ (d : Nat) (a : Int32) (v0 : Value) (x : Value) (L : List Value) (M : Mem) (Q : Option Value → Mem → Prop), Wp d 43 63 (v0 :: x :: L) [.int a] M Q ↔ Wp d 43 64 (clr v0 :: .int a :: L) [] M Q) ∧
    (∀ (d : Nat) (v0 : Value) (v1 : Value) (v2 : Value) (x : Int32) (L : List Value) (M : Mem) (Q : Option Value → Mem → Prop), Wp d 43 64 (v0 :: v1 :: v2 :: .int x :: L) [] M Q ↔ Wp d 43 67 (v0 :: v1 :: clr v2 :: .int (x + 1) :: L) [] M Q) ∧
    (∀ (d : Nat) (L : List Value) (M : Mem) (Q : Option Value → Mem → Prop), Wp d 43 67 L [] M Q ↔ Wp d 43 10 L [] M Q) ∧
    (∀ (d : Nat) (v0 : Value) (v1 : Value) (x : Int32) (L : List Value) (M : Mem) (Q : Option Value → Mem → Prop), Wp d 43 70 (v0 :: v1 :: .int x :: L) [] M Q ↔ Wp d 43 71 (v0 :: v1 :: .int x :: L) [.int x] M Q) ∧
    (∀ (d : Nat) (a : Int32) (L : List Value) (M : Mem) (Q : Option Value → Mem → Prop), Wp d 43 71 L [.int a] M Q ↔ Q (some (.int a)) M) := by
  refine ⟨?_, ?_, ?_, ?_, ?_, ?_, ?_, ?_, ?_, ?_, ?_, ?_, ?_, ?_, ?_, ?_, ?_, ?_, ?_, ?_, ?_, ?_, ?_, ?_, ?_, ?_, ?_, ?_, ?_, ?_, ?_, ?_, ?_, ?_, ?_, ?_, ?_, ?_, ?_, ?_, ?_, ?_, ?_⟩
  · intro d x L M Q; exact Wp_sim (by decide +kernel : decode (cd 43) 0 = .ok (.aload_n 0, 1)) rfl rfl
  · intro d a L M Q; exact Wp_sim (by decide +kernel : decode (cd 43) 1 = .ok (.iconst 0, 1)) rfl rfl
  · intro d a b L M Q; exact q_invV (pz := 451) (n := 1) (c := 9) (m := 4) (k := b) (As := [.int a]) (rest := []) (by decide +kernel : decode (cd 43) 2 = .ok (.invokevirtual 40, 3)) (by decide +kernel) (by decide +kernel) rfl rfl (Nat.le_of_ble_eq_true rfl) (Nat.le_of_ble_eq_true rfl) rfl
  · intro d a v0 x L M Q; exact Wp_sim (by decide +kernel : decode (cd 43) 5 = .ok (.istore_n 1, 1)) rfl rfl
  · intro d L M Q; exact Wp_sim (by decide +kernel : decode (cd 43) 6 = .ok (.iconst 0, 1)) rfl rfl
  · intro d a v0 v1 x L M Q; exact Wp_sim (by decide +kernel : decode (cd 43) 7 = .ok (.istore_n 2, 1)) rfl rfl
  · intro d L M Q; exact Wp_sim (by decide +kernel : decode (cd 43) 8 = .ok (.iconst 0, 1)) rfl rfl
  · intro d a v0 v1 v2 x L M Q; exact Wp_sim (by decide +kernel : decode (cd 43) 9 = .ok (.istore_n 3, 1)) rfl rfl
  · intro d a x L M Q; exact Wp_sim (by decide +kernel : decode (cd 43) 11 = .ok (.aload_n 0, 1)) rfl rfl
  · intro d a b L M Q; exact q_getR (p := 196) (by decide +kernel : decode (cd 43) 12 = .ok (.getfield 12, 3)) (by decide +kernel) (by decide +kernel)
  · intro d a b L M Q; exact q_getI (p := 97) (by decide +kernel : decode (cd 43) 15 = .ok (.getfield 134, 3)) (by decide +kernel) (by decide +kernel)
  · intro d a b L M Q; exact q_ige (by decide +kernel : decode (cd 43) 18 = .ok (.if_icmp .ge 52, 3)) (by decide)
  · intro d v0 x L M Q; exact Wp_sim (by decide +kernel : decode (cd 43) 21 = .ok (.iload_n 1, 1)) rfl rfl
  · intro d a L M Q; exact q_zeq (by decide +kernel : decode (cd 43) 22 = .ok (.ifCond .eq 48, 3)) (by decide)
  · intro d x L M Q; exact Wp_sim (by decide +kernel : decode (cd 43) 25 = .ok (.aload_n 0, 1)) rfl rfl
  · intro d a x L M Q; exact Wp_sim (by decide +kernel : decode (cd 43) 26 = .ok (.aload_n 0, 1)) rfl rfl
  · intro d a b L M Q; exact q_getR (p := 196) (by decide +kernel : decode (cd 43) 27 = .ok (.getfield 12, 3)) (by decide +kernel) (by decide +kernel)
  · intro d a b L M Q; exact q_getR (p := 74) (by decide +kernel : decode (cd 43) 30 = .ok (.getfield 52, 3)) (by decide +kernel) (by decide +kernel)
  · intro d a b v0 x L M Q; exact Wp_sim (by decide +kernel : decode (cd 43) 33 = .ok (.iload_n 1, 1)) rfl rfl
  · intro d a b c L M Q; exact q_invV (pz := 452) (n := 2) (c := 9) (m := 5) (k := c) (As := [.ref b, .int a]) (rest := []) (by decide +kernel : decode (cd 43) 34 = .ok (.invokevirtual 137, 3)) (by decide +kernel) (by decide +kernel) rfl rfl (Nat.le_of_ble_eq_true rfl) (Nat.le_of_ble_eq_true rfl) rfl
  · intro d a v0 v1 v2 v3 x L M Q; exact Wp_sim (by decide +kernel : decode (cd 43) 37 = .ok (.istore 4, 2)) rfl rfl
  · intro d v0 v1 v2 v3 x L M Q; exact Wp_sim (by decide +kernel : decode (cd 43) 39 = .ok (.iload 4, 2)) rfl rfl
  · intro d a L M Q; exact Wp_sim (by decide +kernel : decode (cd 43) 41 = .ok (.iconst (-1), 1)) rfl rfl
  · intro d a b L M Q; exact q_ine (by decide +kernel : decode (cd 43) 42 = .ok (.if_icmp .ne 6, 3)) (by decide)
  · intro d L M Q; exact q_goto (by decide +kernel : decode (cd 43) 45 = .ok (.goto 25, 3)) (by decide)
  · intro d v0 v1 x L M Q; exact Wp_sim (by decide +kernel : decode (cd 43) 48 = .ok (.iload_n 2, 1)) rfl rfl
  · intro d a L M Q; exact Wp_sim (by decide +kernel : decode (cd 43) 49 = .ok (.iconst 1, 1)) rfl rfl
  · intro d a b v0 v1 v2 v3 x L M Q; exact Wp_sim (by decide +kernel : decode (cd 43) 50 = .ok (.iload 4, 2)) rfl rfl
  · intro d a b c L M Q; exact Wp_sim (by decide +kernel : decode (cd 43) 52 = .ok (.ishl , 1)) rfl rfl
  · intro d a b L M Q; exact Wp_sim (by decide +kernel : decode (cd 43) 53 = .ok (.ior , 1)) rfl rfl
  · intro d a v0 v1 x L M Q; exact Wp_sim (by decide +kernel : decode (cd 43) 54 = .ok (.istore_n 2, 1)) rfl rfl
  · intro d v0 x L M Q; exact Wp_sim (by decide +kernel : decode (cd 43) 55 = .ok (.iload_n 1, 1)) rfl rfl
  · intro d a L M Q; exact Wp_sim (by decide +kernel : decode (cd 43) 56 = .ok (.iconst 1, 1)) rfl rfl
  · intro d a b v0 v1 v2 v3 x L M Q; exact Wp_sim (by decide +kernel : decode (cd 43) 57 = .ok (.iload 4, 2)) rfl rfl
  · intro d a b c L M Q; exact Wp_sim (by decide +kernel : decode (cd 43) 59 = .ok (.ishl , 1)) rfl rfl
  · intro d a b L M Q; exact Wp_sim (by decide +kernel : decode (cd 43) 60 = .ok (.iconst (-1), 1)) rfl rfl
  · intro d a b c L M Q; exact Wp_sim (by decide +kernel : decode (cd 43) 61 = .ok (.ixor , 1)) rfl rfl
  · intro d a b L M Q; exact Wp_sim (by decide +kernel : decode (cd 43) 62 = .ok (.iand , 1)) rfl rfl
  · intro d a v0 x L M Q; exact Wp_sim (by decide +kernel : decode (cd 43) 63 = .ok (.istore_n 1, 1)) rfl rfl
  · intro d v0 v1 v2 x L M Q; exact Wp_sim (by decide +kernel : decode (cd 43) 64 = .ok (.iinc 3 1, 3)) rfl rfl
  · intro d L M Q; exact q_goto (by decide +kernel : decode (cd 43) 67 = .ok (.goto (-57), 3)) (by decide)
  · intro d v0 v1 x L M Q; exact Wp_sim (by decide +kernel : decode (cd 43) 70 = .ok (.iload_n 2, 1)) rfl rfl
  · intro d a L M Q; exact q_iret (by decide +kernel : decode (cd 43) 71 = .ok (.ireturn , 1)) (by decide +kernel)
theorem h43_10 : (∀ (d : Nat) (v0 : Value) (v1 : Value) (v2 : Value) (x : Int32) (L : List Value) (M : Mem) (Q : Option Value → Mem → Prop), Wp d 43 10 (v0 :: v1 :: v2 :: .int x :: L) [] M Q ↔ Wp d 43 11 (v0 :: v1 :: v2 :: .int x :: L) [.int x] M Q) := by
  intro d v0 v1 v2 x L M Q; exact Wp_sim (by decide +kernel : decode (cd 43) 10 = .ok (.iload_n 3, 1)) rfl rfl

/- 44: Town.greatestOf -/
set_option maxRecDepth 10000 in
theorem e44 : (∀ (d : Nat) (L : List Value) (M : Mem) (Q : Option Value → Mem → Prop), Wp d 44 0 L [] M Q ↔ Wp d 44 1 L [.int (-1)] M Q) ∧
    (∀ (d : Nat) (a : Int32) (v0 : Value) (v1 : Value) (v2 : Value) (x : Value) (L : List Value) (M : Mem) (Q : Option Value → Mem → Prop), Wp d 44 1 (v0 :: v1 :: v2 :: x :: L) [.int a] M Q ↔ Wp d 44 2 (v0 :: v1 :: clr v2 :: .int a :: L) [] M Q) ∧
    (∀ (d : Nat) (L : List Value) (M : Mem) (Q : Option Value → Mem → Prop), Wp d 44 2 L [] M Q ↔ Wp d 44 3 L [.int 0] M Q) ∧
    (∀ (d : Nat) (a : Int32) (v0 : Value) (v1 : Value) (v2 : Value) (v3 : Value) (x : Value) (L : List Value) (M : Mem) (Q : Option Value → Mem → Prop), Wp d 44 3 (v0 :: v1 :: v2 :: v3 :: x :: L) [.int a] M Q ↔ Wp d 44 5 (v0 :: v1 :: v2 :: clr v3 :: .int a :: L) [] M Q) ∧
    (∀ (d : Nat) (a : Int32) (x : Nat) (L : List Value) (M : Mem) (Q : Option Value → Mem → Prop), Wp d 44 7 (.ref x :: L) [.int a] M Q ↔ Wp d 44 8 (.ref x :: L) [.ref x, .int a] M Q) ∧
    (∀ (d : Nat) (a : Nat) (b : Int32) (L : List Value) (M : Mem) (Q : Option Value → Mem → Prop), Wp d 44 8 L [.ref a, .int b] M Q ↔ (isK a 9 = true ∧ Wp d 44 11 L [.ref (rt a 0), .int b] M Q)) ∧
    (∀ (d : Nat) (a : Nat) (b : Int32) (L : List Value) (M : Mem) (Q : Option Value → Mem → Prop), Wp d 44 11 L [.ref a, .int b] M Q ↔ (isK a 1 = true ∧ Wp d 44 14 L [.int (M a 13), .int b] M Q)) ∧
    (∀ (d : Nat) (a : Int32) (b : Int32) (L : List Value) (M : Mem) (Q : Option Value → Mem → Prop), Wp d 44 14 L [.int a, .int b] M Q ↔ (if b < a then Wp d 44 17 L [] M Q else Wp d 44 60 L [] M Q)) ∧
    (∀ (d : Nat) (v0 : Value) (v1 : Value) (v2 : Value) (v3 : Value) (x : Int32) (L : List Value) (M : Mem) (Q : Option Value → Mem → Prop), Wp d 44 17 (v0 :: v1 :: v2 :: v3 :: .int x :: L) [] M Q ↔ Wp d 44 19 (v0 :: v1 :: v2 :: v3 :: .int x :: L) [.int x] M Q) ∧
    (∀ (d : Nat) (a : Int32) (v0 : Value) (x : Nat) (L : List Value) (M : Mem) (Q : Option Value → Mem → Prop), Wp d 44 19 (v0 :: .ref x :: L) [.int a] M Q ↔ Wp d 44 20 (v0 :: .ref x :: L) [.ref x, .int a] M Q) ∧
    (∀ (d : Nat) (a : Nat) (b : Int32) (L : List Value) (M : Mem) (Q : Option Value → Mem → Prop), Wp d 44 20 L [.ref a, .int b] M Q ↔ ((isR a = true ∨ isK a 14 = true) ∧ Wp d 44 21 L [.int (nI (lnm M a)), .int b] M Q)) ∧
    (∀ (d : Nat) (a : Int32) (b : Int32) (L : List Value) (M : Mem) (Q : Option Value → Mem → Prop), Wp d 44 21 L [.int a, .int b] M Q ↔ (if b < a then Wp d 44 24 L [] M Q else Wp d 44 60 L [] M Q)) ∧
    (∀ (d : Nat) (v0 : Value) (v1 : Value) (x : Int32) (L : List Value) (M : Mem) (Q : Option Value → Mem → Prop), Wp d 44 24 (v0 :: v1 :: .int x :: L) [] M Q ↔ Wp d 44 25 (v0 :: v1 :: .int x :: L) [.int x] M Q) ∧
    (∀ (d : Nat) (a : Int32) (v0 : Value) (v1 : Value) (v2 : Value) (v3 : Value) (x : Int32) (L : List Value) (M : Mem) (Q : Option Value → Mem → Prop), Wp d 44 25 (v0 :: v1 :: v2 :: v3 :: .int x :: L) [.int a] M Q ↔ Wp d 44 27 (v0 :: v1 :: v2 :: v3 :: .int x :: L) [.int x, .int a] M Q) ∧
    (∀ (d : Nat) (a : Int32) (b : Int32) (L : List Value) (M : Mem) (Q : Option Value → Mem → Prop), Wp d 44 27 L [.int a, .int b] M Q ↔ Wp d 44 28 L [.int (b >>> (a &&& 31))] M Q) ∧
    (∀ (d : Nat) (a : Int32) (L : List Value) (M : Mem) (Q : Option Value → Mem → Prop), Wp d 44 28 L [.int a] M Q ↔ Wp d 44 29 L [.int 1, .int a] M Q) ∧
    (∀ (d : Nat) (a : Int32) (b : Int32) (L : List Value) (M : Mem) (Q : Option Value → Mem → Prop), Wp d 44 29 L [.int a, .int b] M Q ↔ Wp d 44 30 L [.int (b &&& a)] M Q) ∧
    (∀ (d : Nat) (a : Int32) (L : List Value) (M : Mem) (Q : Option Value → Mem → Prop), Wp d 44 30 L [.int a] M Q ↔ (if a = 0 then Wp d 44 33 L [] M Q else Wp d 44 36 L [] M Q)) ∧
    (∀ (d : Nat) (L : List Value) (M : Mem) (Q : Option Value → Mem → Prop), Wp d 44 33 L [] M Q ↔ Wp d 44 54 L [] M Q) ∧
    (∀ (d : Nat) (v0 : Value) (v1 : Value) (v2 : Value) (x : Int32) (L : List Value) (M : Mem) (Q : Option Value → Mem → Prop), Wp d 44 36 (v0 :: v1 :: v2 :: .int x :: L) [] M Q ↔ Wp d 44 37 (v0 :: v1 :: v2 :: .int x :: L) [.int x] M Q) ∧
    (∀ (d : Nat) (a : Int32) (L : List Value) (M : Mem) (Q : Option Value → Mem → Prop), Wp d 44 37 L [.int a] M Q ↔ Wp d 44 38 L [.int (-1), .int a] M Q) ∧
    (∀ (d : Nat) (a : Int32) (b : Int32) (L : List Value) (M : Mem) (Q : Option Value → Mem → Prop), Wp d 44 38 L [.int a, .int b] M Q ↔ (if b = a then Wp d 44 51 L [] M Q else Wp d 44 41 L [] M Q)) ∧
    (∀ (d : Nat) (v0 : Value) (x : Nat) (L : List Value) (M : Mem) (Q : Option Value → Mem → Prop), Wp d 44 41 (v0 :: .ref x :: L) [] M Q ↔ Wp d 44 42 (v0 :: .ref x :: L) [.ref x] M Q) ∧
    (∀ (d : Nat) (a : Nat) (v0 : Value) (v1 : Value) (v2 : Value) (v3 : Value) (x : Int32) (L : List Value) (M : Mem) (Q : Option Value → Mem → Prop), Wp d 44 42 (v0 :: v1 :: v2 :: v3 :: .int x :: L) [.ref a] M Q ↔ Wp d 44 44 (v0 :: v1 :: v2 :: v3 :: .int x :: L) [.int x, .ref a] M Q) ∧
    (∀ (d : Nat) (a : Int32) (b : Nat) (L : List Value) (M : Mem) (Q : Option Value → Mem → Prop), Wp d 44 44 L [.int a, .ref b] M Q ↔ ((isR b = true ∧ inr a (lnm M b)) ∧ Wp d 44 45 L [.int (M b a.toNatClampNeg)] M Q)) ∧
    (∀ (d : Nat) (a : Int32) (v0 : Value) (x : Nat) (L : List Value) (M : Mem) (Q : Option Value → Mem → Prop), Wp d 44 45 (v0 :: .ref x :: L) [.int a] M Q ↔ Wp d 44 46 (v0 :: .ref x :: L) [.ref x, .int a] M Q) ∧
    (∀ (d : Nat) (a : Nat) (b : Int32) (v0 : Value) (v1 : Value) (v2 : Value) (x : Int32) (L : List Value) (M : Mem) (Q : Option Value → Mem → Prop), Wp d 44 46 (v0 :: v1 :: v2 :: .int x :: L) [.ref a, .int b] M Q ↔ Wp d 44 47 (v0 :: v1 :: v2 :: .int x :: L) [.int x, .ref a, .int b] M Q) ∧
    (∀ (d : Nat) (a : Int32) (b : Nat) (c : Int32) (L : List Value) (M : Mem) (Q : Option Value → Mem → Prop), Wp d 44 47 L [.int a, .ref b, .int c] M Q ↔ ((isR b = true ∧ inr a (lnm M b)) ∧ Wp d 44 48 L [.int (M b a.toNatClampNeg), .int c] M Q)) ∧
    (∀ (d : Nat) (a : Int32) (b : Int32) (L : List Value) (M : Mem) (Q : Option Value → Mem → Prop), Wp d 44 48 L [.int a, .int b] M Q ↔ (if a < b then Wp d 44 51 L [] M Q else Wp d 44 54 L [] M Q)) ∧
    (∀ (d : Nat) (v0 : Value) (v1 : Value) (v2 : Value) (v3 : Value) (x : Int32) (L : List Value) (M : Mem) (Q : Option Value → Mem → Prop), Wp d 44 51 (v0 :: v1 :: v2 :: v3 :: .int x :: L) [] M Q ↔ Wp d 44 53 (v0 :: v1 :: v2 :: v3 :: .int x :: L) [.int x] M Q) ∧
    (∀ (d : Nat) (a : Int32) (v0 : Value) (v1 : Value) (v2 : Value) (x : Value) (L : List Value) (M : Mem) (Q : Option Value → Mem → Prop), Wp d 44 53 (v0 :: v1 :: v2 :: x :: L) [.int a] M Q ↔ Wp d 44 54 (v0 :: v1 :: clr v2 :: .int a :: L) [] M Q) ∧
    (∀ (d : Nat) (v0 : Value) (v1 : Value) (v2 : Value) (v3 : Value) (x : Int32) (L : List Value) (M : Mem) (Q : Option Value → Mem → Prop), Wp d 44 54 (v0 :: v1 :: v2 :: v3 :: .int x :: L) [] M Q ↔ Wp d 44 57 (v0 :: v1 :: v2 :: clr v3 :: .int (x + 1) :: L) [] M Q) ∧
    (∀ (d : Nat) (L : List Value) (M : Mem) (Q : Option Value → Mem → Prop), Wp d 44 57 L [] M Q ↔ Wp d 44 5 L [] M Q) ∧
    (∀ (d : Nat) (v0 : Value) (v1 : Value) (v2 : Value) (x : Int32) (L : List Value) (M : Mem) (Q : Option Value → Mem → Prop), Wp d 44 60 (v0 :: v1 :: v2 :: .int x :: L) [] M Q ↔ Wp d 44 61 (v0 :: v1 :: v2 :: .int x :: L) [.int x] M Q) ∧
    (∀ (d : Nat) (a : Int32) (L : List Value) (M : Mem) (Q : Option Value → Mem → Prop), Wp d 44 61 L [.int a] M Q ↔ Q (some (.int a)) M) := by
  refine ⟨?_, ?_, ?_, ?_, ?_, ?_, ?_, ?_, ?_, ?_, ?_, ?_, ?_, ?_, ?_, ?_, ?_, ?_, ?_, ?_, ?_, ?_, ?_, ?_, ?_, ?_, ?_, ?_, ?_, ?_, ?_, ?_, ?_, ?_, ?_⟩
  · intro d L M Q; exact Wp_sim (by decide +kernel : decode (cd 44) 0 = .ok (.iconst (-1), 1)) rfl rfl
  · intro d a v0 v1 v2 x L M Q; exact Wp_sim (by decide +kernel : decode (cd 44) 1 = .ok (.istore_n 3, 1)) rfl rfl
  · intro d L M Q; exact Wp_sim (by decide +kernel : decode (cd 44) 2 = .ok (.iconst 0, 1)) rfl rfl
  · intro d a v0 v1 v2 v3 x L M Q; exact Wp_sim (by decide +kernel : decode (cd 44) 3 = .ok (.istore 4, 2)) rfl rfl
  · intro d a x L M Q; exact Wp_sim (by decide +kernel : decode (cd 44) 7 = .ok (.aload_n 0, 1)) rfl rfl
  · intro d a b L M Q; exact q_getR (p := 196) (by decide +kernel : decode (cd 44) 8 = .ok (.getfield 12, 3)) (by decide +kernel) (by decide +kernel)
  · intro d a b L M Q; exact q_getI (p := 103) (by decide +kernel : decode (cd 44) 11 = .ok (.getfield 32, 3)) (by decide +kernel) (by decide +kernel)
  · intro d a b L M Q; exact q_ige (by decide +kernel : decode (cd 44) 14 = .ok (.if_icmp .ge 46, 3)) (by decide)
  · intro d v0 v1 v2 v3 x L M Q; exact Wp_sim (by decide +kernel : decode (cd 44) 17 = .ok (.iload 4, 2)) rfl rfl
  · intro d a v0 x L M Q; exact Wp_sim (by decide +kernel : decode (cd 44) 19 = .ok (.aload_n 1, 1)) rfl rfl
  · intro d a b L M Q; exact q_aln (by decide +kernel : decode (cd 44) 20 = .ok (.arraylength , 1))
  · intro d a b L M Q; exact q_ige (by decide +kernel : decode (cd 44) 21 = .ok (.if_icmp .ge 39, 3)) (by decide)
  · intro d v0 v1 x L M Q; exact Wp_sim (by decide +kernel : decode (cd 44) 24 = .ok (.iload_n 2, 1)) rfl rfl
  · intro d a v0 v1 v2 v3 x L M Q; exact Wp_sim (by decide +kernel : decode (cd 44) 25 = .ok (.iload 4, 2)) rfl rfl
  · intro d a b L M Q; exact Wp_sim (by decide +kernel : decode (cd 44) 27 = .ok (.ishr , 1)) rfl rfl
  · intro d a L M Q; exact Wp_sim (by decide +kernel : decode (cd 44) 28 = .ok (.iconst 1, 1)) rfl rfl
  · intro d a b L M Q; exact Wp_sim (by decide +kernel : decode (cd 44) 29 = .ok (.iand , 1)) rfl rfl
  · intro d a L M Q; exact q_zne (by decide +kernel : decode (cd 44) 30 = .ok (.ifCond .ne 6, 3)) (by decide)
  · intro d L M Q; exact q_goto (by decide +kernel : decode (cd 44) 33 = .ok (.goto 21, 3)) (by decide)
  · intro d v0 v1 v2 x L M Q; exact Wp_sim (by decide +kernel : decode (cd 44) 36 = .ok (.iload_n 3, 1)) rfl rfl
  · intro d a L M Q; exact Wp_sim (by decide +kernel : decode (cd 44) 37 = .ok (.iconst (-1), 1)) rfl rfl
  · intro d a b L M Q; exact q_ieq (by decide +kernel : decode (cd 44) 38 = .ok (.if_icmp .eq 13, 3)) (by decide)
  · intro d v0 x L M Q; exact Wp_sim (by decide +kernel : decode (cd 44) 41 = .ok (.aload_n 1, 1)) rfl rfl
  · intro d a v0 v1 v2 v3 x L M Q; exact Wp_sim (by decide +kernel : decode (cd 44) 42 = .ok (.iload 4, 2)) rfl rfl
  · intro d a b L M Q; exact q_ald (by decide +kernel : decode (cd 44) 44 = .ok (.iaload , 1))
  · intro d a v0 x L M Q; exact Wp_sim (by decide +kernel : decode (cd 44) 45 = .ok (.aload_n 1, 1)) rfl rfl
  · intro d a b v0 v1 v2 x L M Q; exact Wp_sim (by decide +kernel : decode (cd 44) 46 = .ok (.iload_n 3, 1)) rfl rfl
  · intro d a b c L M Q; exact q_ald (by decide +kernel : decode (cd 44) 47 = .ok (.iaload , 1))
  · intro d a b L M Q; exact q_ile (by decide +kernel : decode (cd 44) 48 = .ok (.if_icmp .le 6, 3)) (by decide)
  · intro d v0 v1 v2 v3 x L M Q; exact Wp_sim (by decide +kernel : decode (cd 44) 51 = .ok (.iload 4, 2)) rfl rfl
  · intro d a v0 v1 v2 x L M Q; exact Wp_sim (by decide +kernel : decode (cd 44) 53 = .ok (.istore_n 3, 1)) rfl rfl
  · intro d v0 v1 v2 v3 x L M Q; exact Wp_sim (by decide +kernel : decode (cd 44) 54 = .ok (.iinc 4 1, 3)) rfl rfl
  · intro d L M Q; exact q_goto (by decide +kernel : decode (cd 44) 57 = .ok (.goto (-52), 3)) (by decide)
  · intro d v0 v1 v2 x L M Q; exact Wp_sim (by decide +kernel : decode (cd 44) 60 = .ok (.iload_n 3, 1)) rfl rfl
  · intro d a L M Q; exact q_iret (by decide +kernel : decode (cd 44) 61 = .ok (.ireturn , 1)) (by decide +kernel)
theorem h44_5 : (∀ (d : Nat) (v0 : Value) (v1 : Value) (v2 : Value) (v3 : Value) (x : Int32) (L : List Value) (M : Mem) (Q : Option Value → Mem → Prop), Wp d 44 5 (v0 :: v1 :: v2 :: v3 :: .int x :: L) [] M Q ↔ Wp d 44 7 (v0 :: v1 :: v2 :: v3 :: .int x :: L) [.int x] M Q) := by
  intro d v0 v1 v2 v3 x L M Q; exact Wp_sim (by decide +kernel : decode (cd 44) 5 = .ok (.iload 4, 2)) rfl rfl

/- 45: Town.allSafe -/
set_option maxRecDepth 10000 in
theorem e45 : (∀ (d : Nat) (L : List Value) (M : Mem) (Q : Option Value → Mem → Prop), Wp d 45 0 L [] M Q ↔ Wp d 45 1 L [.int 0] M Q) ∧
    (∀ (d : Nat) (a : Int32) (v0 : Value) (x : Value) (L : List Value) (M : Mem) (Q : Option Value → Mem → Prop), Wp d 45 1 (v0 :: x :: L) [.int a] M Q ↔ Wp d 45 2 (clr v0 :: .int a :: L) [] M Q) ∧
    (∀ (d : Nat) (L : List Value) (M : Mem) (Q : Option Value → Mem → Prop), Wp d 45 2 L [] M Q ↔ Wp d 45 3 L [.int 0] M Q) ∧
    (∀ (d : Nat) (a : Int32) (v0 : Value) (v1 : Value) (x : Value) (L : List Value) (M : Mem) (Q : Option Value → Mem → Prop), Wp d 45 3 (v0 :: v1 :: x :: L) [.int a] M Q ↔ Wp d 45 4 (v0 :: clr v1 :: .int a :: L) [] M Q) ∧
    (∀ (d : Nat) (a : Int32) (x : Nat) (L : List Value) (M : Mem) (Q : Option Value → Mem → Prop), Wp d 45 5 (.ref x :: L) [.int a] M Q ↔ Wp d 45 6 (.ref x :: L) [.ref x, .int a] M Q) ∧
    (∀ (d : Nat) (a : Nat) (b : Int32) (L : List Value) (M : Mem) (Q : Option Value → Mem → Prop), Wp d 45 6 L [.ref a, .int b] M Q ↔ (isK a 9 = true ∧ Wp d 45 9 L [.ref (rt a 0), .int b] M Q)) ∧
    (∀ (d : Nat) (a : Nat) (b : Int32) (L : List Value) (M : Mem) (Q : Option Value → Mem → Prop), Wp d 45 9 L [.ref a, .int b] M Q ↔ (isK a 1 = true ∧ Wp d 45 12 L [.int (M a 13), .int b] M Q)) ∧
    (∀ (d : Nat) (a : Int32) (b : Int32) (L : List Value) (M : Mem) (Q : Option Value → Mem → Prop), Wp d 45 12 L [.int a, .int b] M Q ↔ (if b < a then Wp d 45 15 L [] M Q else Wp d 45 35 L [] M Q)) ∧
    (∀ (d : Nat) (x : Nat) (L : List Value) (M : Mem) (Q : Option Value → Mem → Prop), Wp d 45 15 (.ref x :: L) [] M Q ↔ Wp d 45 16 (.ref x :: L) [.ref x] M Q) ∧
    (∀ (d : Nat) (a : Nat) (v0 : Value) (v1 : Value) (x : Int32) (L : List Value) (M : Mem) (Q : Option Value → Mem → Prop), Wp d 45 16 (v0 :: v1 :: .int x :: L) [.ref a] M Q ↔ Wp d 45 17 (v0 :: v1 :: .int x :: L) [.int x, .ref a] M Q) ∧
    (∀ (d : Nat) (a : Int32) (b : Nat) (L : List Value) (M : Mem) (Q : Option Value → Mem → Prop), Wp (d + 1) 45 17 L [.int a, .ref b] M Q ↔ (isK b 9 = true ∧ Wp d 46 0 [.ref b, .int a] [] M (fun r M2 => Wp (d + 1) 45 20 L (r.toList ++ []) M2 Q))) ∧
    (∀ (d : Nat) (a : Int32) (L : List Value) (M : Mem) (Q : Option Value → Mem → Prop), Wp d 45 20 L [.int a] M Q ↔ (if a = 0 then Wp d 45 29 L [] M Q else Wp d 45 23 L [] M Q)) ∧
    (∀ (d : Nat) (v0 : Value) (x : Int32) (L : List Value) (M : Mem) (Q : Option Value → Mem → Prop), Wp d 45 23 (v0 :: .int x :: L) [] M Q ↔ Wp d 45 24 (v0 :: .int x :: L) [.int x] M Q) ∧
    (∀ (d : Nat) (a : Int32) (L : List Value) (M : Mem) (Q : Option Value → Mem → Prop), Wp d 45 24 L [.int a] M Q ↔ Wp d 45 25 L [.int 1, .int a] M Q) ∧
    (∀ (d : Nat) (a : Int32) (b : Int32) (v0 : Value) (v1 : Value) (x : Int32) (L : List Value) (M : Mem) (Q : Option Value → Mem → Prop), Wp d 45 25 (v0 :: v1 :: .int x :: L) [.int a, .int b] M Q ↔ Wp d 45 26 (v0 :: v1 :: .int x :: L) [.int x, .int a, .int b] M Q) ∧
    (∀ (d : Nat) (a : Int32) (b : Int32) (c : Int32) (L : List Value) (M : Mem) (Q : Option Value → Mem → Prop), Wp d 45 26 L [.int a, .int b, .int c] M Q ↔ Wp d 45 27 L [.int (b <<< (a &&& 31)), .int c] M Q) ∧
    (∀ (d : Nat) (a : Int32) (b : Int32) (L : List Value) (M : Mem) (Q : Option Value → Mem → Prop), Wp d 45 27 L [.int a, .int b] M Q ↔ Wp d 45 28 L [.int (b ||| a)] M Q) ∧
    (∀ (d : Nat) (a : Int32) (v0 : Value) (x : Value) (L : List Value) (M : Mem) (Q : Option Value → Mem → Prop), Wp d 45 28 (v0 :: x :: L) [.int a] M Q ↔ Wp d 45 29 (clr v0 :: .int a :: L) [] M Q) ∧
    (∀ (d : Nat) (v0 : Value) (v1 : Value) (x : Int32) (L : List Value) (M : Mem) (Q : Option Value → Mem → Prop), Wp d 45 29 (v0 :: v1 :: .int x :: L) [] M Q ↔ Wp d 45 32 (v0 :: clr v1 :: .int (x + 1) :: L) [] M Q) ∧
    (∀ (d : Nat) (L : List Value) (M : Mem) (Q : Option Value → Mem → Prop), Wp d 45 32 L [] M Q ↔ Wp d 45 4 L [] M Q) ∧
    (∀ (d : Nat) (v0 : Value) (x : Int32) (L : List Value) (M : Mem) (Q : Option Value → Mem → Prop), Wp d 45 35 (v0 :: .int x :: L) [] M Q ↔ Wp d 45 36 (v0 :: .int x :: L) [.int x] M Q) ∧
    (∀ (d : Nat) (a : Int32) (L : List Value) (M : Mem) (Q : Option Value → Mem → Prop), Wp d 45 36 L [.int a] M Q ↔ Q (some (.int a)) M) := by
  refine ⟨?_, ?_, ?_, ?_, ?_, ?_, ?_, ?_, ?_, ?_, ?_, ?_, ?_, ?_, ?_, ?_, ?_, ?_, ?_, ?_, ?_, ?_⟩
  · intro d L M Q; exact Wp_sim (by decide +kernel : decode (cd 45) 0 = .ok (.iconst 0, 1)) rfl rfl
  · intro d a v0 x L M Q; exact Wp_sim (by decide +kernel : decode (cd 45) 1 = .ok (.istore_n 1, 1)) rfl rfl
  · intro d L M Q; exact Wp_sim (by decide +kernel : decode (cd 45) 2 = .ok (.iconst 0, 1)) rfl rfl
  · intro d a v0 v1 x L M Q; exact Wp_sim (by decide +kernel : decode (cd 45) 3 = .ok (.istore_n 2, 1)) rfl rfl
  · intro d a x L M Q; exact Wp_sim (by decide +kernel : decode (cd 45) 5 = .ok (.aload_n 0, 1)) rfl rfl
  · intro d a b L M Q; exact q_getR (p := 196) (by decide +kernel : decode (cd 45) 6 = .ok (.getfield 12, 3)) (by decide +kernel) (by decide +kernel)
  · intro d a b L M Q; exact q_getI (p := 103) (by decide +kernel : decode (cd 45) 9 = .ok (.getfield 32, 3)) (by decide +kernel) (by decide +kernel)
  · intro d a b L M Q; exact q_ige (by decide +kernel : decode (cd 45) 12 = .ok (.if_icmp .ge 23, 3)) (by decide)
  · intro d x L M Q; exact Wp_sim (by decide +kernel : decode (cd 45) 15 = .ok (.aload_n 0, 1)) rfl rfl
  · intro d a v0 v1 x L M Q; exact Wp_sim (by decide +kernel : decode (cd 45) 16 = .ok (.iload_n 2, 1)) rfl rfl
  · intro d a b L M Q; exact q_invV (pz := 460) (n := 1) (c := 9) (m := 2) (k := b) (As := [.int a]) (rest := []) (by decide +kernel : decode (cd 45) 17 = .ok (.invokevirtual 141, 3)) (by decide +kernel) (by decide +kernel) rfl rfl (Nat.le_of_ble_eq_true rfl) (Nat.le_of_ble_eq_true rfl) rfl
  · intro d a L M Q; exact q_zeq (by decide +kernel : decode (cd 45) 20 = .ok (.ifCond .eq 9, 3)) (by decide)
  · intro d v0 x L M Q; exact Wp_sim (by decide +kernel : decode (cd 45) 23 = .ok (.iload_n 1, 1)) rfl rfl
  · intro d a L M Q; exact Wp_sim (by decide +kernel : decode (cd 45) 24 = .ok (.iconst 1, 1)) rfl rfl
  · intro d a b v0 v1 x L M Q; exact Wp_sim (by decide +kernel : decode (cd 45) 25 = .ok (.iload_n 2, 1)) rfl rfl
  · intro d a b c L M Q; exact Wp_sim (by decide +kernel : decode (cd 45) 26 = .ok (.ishl , 1)) rfl rfl
  · intro d a b L M Q; exact Wp_sim (by decide +kernel : decode (cd 45) 27 = .ok (.ior , 1)) rfl rfl
  · intro d a v0 x L M Q; exact Wp_sim (by decide +kernel : decode (cd 45) 28 = .ok (.istore_n 1, 1)) rfl rfl
  · intro d v0 v1 x L M Q; exact Wp_sim (by decide +kernel : decode (cd 45) 29 = .ok (.iinc 2 1, 3)) rfl rfl
  · intro d L M Q; exact q_goto (by decide +kernel : decode (cd 45) 32 = .ok (.goto (-28), 3)) (by decide)
  · intro d v0 x L M Q; exact Wp_sim (by decide +kernel : decode (cd 45) 35 = .ok (.iload_n 1, 1)) rfl rfl
  · intro d a L M Q; exact q_iret (by decide +kernel : decode (cd 45) 36 = .ok (.ireturn , 1)) (by decide +kernel)
theorem h45_4 : (∀ (d : Nat) (v0 : Value) (v1 : Value) (x : Int32) (L : List Value) (M : Mem) (Q : Option Value → Mem → Prop), Wp d 45 4 (v0 :: v1 :: .int x :: L) [] M Q ↔ Wp d 45 5 (v0 :: v1 :: .int x :: L) [.int x] M Q) := by
  intro d v0 v1 x L M Q; exact Wp_sim (by decide +kernel : decode (cd 45) 4 = .ok (.iload_n 2, 1)) rfl rfl

/- 46: Town.isSafe -/
set_option maxRecDepth 10000 in
theorem e46 : (∀ (d : Nat) (x : Nat) (L : List Value) (M : Mem) (Q : Option Value → Mem → Prop), Wp d 46 0 (.ref x :: L) [] M Q ↔ Wp d 46 1 (.ref x :: L) [.ref x] M Q) ∧
    (∀ (d : Nat) (a : Nat) (L : List Value) (M : Mem) (Q : Option Value → Mem → Prop), Wp d 46 1 L [.ref a] M Q ↔ (isK a 9 = true ∧ Wp d 46 4 L [.ref (rt a 1)] M Q)) ∧
    (∀ (d : Nat) (a : Nat) (L : List Value) (M : Mem) (Q : Option Value → Mem → Prop), Wp d 46 4 L [.ref a] M Q ↔ (isK a 6 = true ∧ Wp d 46 7 L [.ref (rt a 0)] M Q)) ∧
    (∀ (d : Nat) (a : Nat) (v0 : Value) (x : Int32) (L : List Value) (M : Mem) (Q : Option Value → Mem → Prop), Wp d 46 7 (v0 :: .int x :: L) [.ref a] M Q ↔ Wp d 46 8 (v0 :: .int x :: L) [.int x, .ref a] M Q) ∧
    (∀ (d : Nat) (a : Int32) (b : Nat) (L : List Value) (M : Mem) (Q : Option Value → Mem → Prop), Wp d 46 8 L [.int a, .ref b] M Q ↔ ((isR b = true ∧ inr a (lnm M b)) ∧ Wp d 46 9 L [.int (M b a.toNatClampNeg)] M Q)) ∧
    (∀ (d : Nat) (a : Int32) (L : List Value) (M : Mem) (Q : Option Value → Mem → Prop), Wp d 46 9 L [.int a] M Q ↔ (if a = 0 then Wp d 46 12 L [] M Q else Wp d 46 14 L [] M Q)) ∧
    (∀ (d : Nat) (L : List Value) (M : Mem) (Q : Option Value → Mem → Prop), Wp d 46 12 L [] M Q ↔ Wp d 46 13 L [.int 0] M Q) ∧
    (∀ (d : Nat) (a : Int32) (L : List Value) (M : Mem) (Q : Option Value → Mem → Prop), Wp d 46 13 L [.int a] M Q ↔ ((a = 0 ∨ a = 1) ∧ Q (some (.int a)) M)) ∧
    (∀ (d : Nat) (x : Nat) (L : List Value) (M : Mem) (Q : Option Value → Mem → Prop), Wp d 46 14 (.ref x :: L) [] M Q ↔ Wp d 46 15 (.ref x :: L) [.ref x] M Q) ∧
    (∀ (d : Nat) (a : Nat) (L : List Value) (M : Mem) (Q : Option Value → Mem → Prop), Wp d 46 15 L [.ref a] M Q ↔ (isK a 9 = true ∧ Wp d 46 18 L [.ref (rt a 1)] M Q)) ∧
    (∀ (d : Nat) (a : Nat) (L : List Value) (M : Mem) (Q : Option Value → Mem → Prop), Wp d 46 18 L [.ref a] M Q ↔ (isK a 6 = true ∧ Wp d 46 21 L [.ref (rt a 0)] M Q)) ∧
    (∀ (d : Nat) (a : Nat) (v0 : Value) (x : Int32) (L : List Value) (M : Mem) (Q : Option Value → Mem → Prop), Wp d 46 21 (v0 :: .int x :: L) [.ref a] M Q ↔ Wp d 46 22 (v0 :: .int x :: L) [.int x, .ref a] M Q) ∧
    (∀ (d : Nat) (a : Int32) (b : Nat) (L : List Value) (M : Mem) (Q : Option Value → Mem → Prop), Wp d 46 22 L [.int a, .ref b] M Q ↔ ((isR b = true ∧ inr a (lnm M b)) ∧ Wp d 46 23 L [.int (M b a.toNatClampNeg)] M Q)) ∧
    (∀ (d : Nat) (a : Int32) (L : List Value) (M : Mem) (Q : Option Value → Mem → Prop), Wp d 46 23 L [.int a] M Q ↔ Wp d 46 24 L [.int 1, .int a] M Q) ∧
    (∀ (d : Nat) (a : Int32) (b : Int32) (L : List Value) (M : Mem) (Q : Option Value → Mem → Prop), Wp d 46 24 L [.int a, .int b] M Q ↔ (if b = a then Wp d 46 27 L [] M Q else Wp d 46 45 L [] M Q)) ∧
    (∀ (d : Nat) (x : Nat) (L : List Value) (M : Mem) (Q : Option Value → Mem → Prop), Wp d 46 27 (.ref x :: L) [] M Q ↔ Wp d 46 28 (.ref x :: L) [.ref x] M Q) ∧
    (∀ (d : Nat) (a : Nat) (x : Nat) (L : List Value) (M : Mem) (Q : Option Value → Mem → Prop), Wp d 46 28 (.ref x :: L) [.ref a] M Q ↔ Wp d 46 29 (.ref x :: L) [.ref x, .ref a] M Q) ∧
    (∀ (d : Nat) (a : Nat) (b : Nat) (L : List Value) (M : Mem) (Q : Option Value → Mem → Prop), Wp d 46 29 L [.ref a, .ref b] M Q ↔ (isK a 9 = true ∧ Wp d 46 32 L [.ref (rt a 1), .ref b] M Q)) ∧
    (∀ (d : Nat) (a : Nat) (b : Nat) (L : List Value) (M : Mem) (Q : Option Value → Mem → Prop), Wp d 46 32 L [.ref a, .ref b] M Q ↔ (isK a 6 = true ∧ Wp d 46 35 L [.ref (rt a 1), .ref b] M Q)) ∧
    (∀ (d : Nat) (a : Nat) (b : Nat) (v0 : Value) (x : Int32) (L : List Value) (M : Mem) (Q : Option Value → Mem → Prop), Wp d 46 35 (v0 :: .int x :: L) [.ref a, .ref b] M Q ↔ Wp d 46 36 (v0 :: .int x :: L) [.int x, .ref a, .ref b] M Q) ∧
    (∀ (d : Nat) (a : Int32) (b : Nat) (c : Nat) (L : List Value) (M : Mem) (Q : Option Value → Mem → Prop), Wp d 46 36 L [.int a, .ref b, .ref c] M Q ↔ ((isR b = true ∧ inr a (lnm M b)) ∧ Wp d 46 37 L [.int (M b a.toNatClampNeg), .ref c] M Q)) ∧
    (∀ (d : Nat) (a : Int32) (b : Nat) (v0 : Value) (x : Int32) (L : List Value) (M : Mem) (Q : Option Value → Mem → Prop), Wp d 46 37 (v0 :: .int x :: L) [.int a, .ref b] M Q ↔ Wp d 46 38 (v0 :: .int x :: L) [.int x, .int a, .ref b] M Q) ∧
    (∀ (d : Nat) (a : Int32) (b : Int32) (c : Nat) (L : List Value) (M : Mem) (Q : Option Value → Mem → Prop), Wp d 46 38 L [.int a, .int b, .ref c] M Q ↔ Wp d 46 39 L [.int 1, .int a, .int b, .ref c] M Q) ∧
    (∀ (d : Nat) (a : Int32) (b : Int32) (c : Int32) (d2 : Nat) (L : List Value) (M : Mem) (Q : Option Value → Mem → Prop), Wp (d + 1) 46 39 L [.int a, .int b, .int c, .ref d2] M Q ↔ (isK d2 9 = true ∧ Wp d 47 0 [.ref d2, .int c, .int b, .int a, .null] [] M (fun r M2 => Wp (d + 1) 46 42 L (r.toList ++ []) M2 Q))) ∧
    (∀ (d : Nat) (a : Int32) (L : List Value) (M : Mem) (Q : Option Value → Mem → Prop), Wp d 46 42 L [.int a] M Q ↔ (if a < 0 then Wp d 46 49 L [] M Q else Wp d 46 45 L [] M Q)) ∧
    (∀ (d : Nat) (L : List Value) (M : Mem) (Q : Option Value → Mem → Prop), Wp d 46 45 L [] M Q ↔ Wp d 46 46 L [.int 1] M Q) ∧
    (∀ (d : Nat) (a : Int32) (L : List Value) (M : Mem) (Q : Option Value → Mem → Prop), Wp d 46 46 L [.int a] M Q ↔ Wp d 46 50 L [.int a] M Q) ∧
    (∀ (d : Nat) (L : List Value) (M : Mem) (Q : Option Value → Mem → Prop), Wp d 46 49 L [] M Q ↔ Wp d 46 50 L [.int 0] M Q) ∧
    (∀ (d : Nat) (a : Int32) (L : List Value) (M : Mem) (Q : Option Value → Mem → Prop), Wp d 46 50 L [.int a] M Q ↔ ((a = 0 ∨ a = 1) ∧ Q (some (.int a)) M)) := by
  refine ⟨?_, ?_, ?_, ?_, ?_, ?_, ?_, ?_, ?_, ?_, ?_, ?_, ?_, ?_, ?_, ?_, ?_, ?_, ?_, ?_, ?_, ?_, ?_, ?_, ?_, ?_, ?_, ?_, ?_⟩
  · intro d x L M Q; exact Wp_sim (by decide +kernel : decode (cd 46) 0 = .ok (.aload_n 0, 1)) rfl rfl
  · intro d a L M Q; exact q_getR (p := 198) (by decide +kernel : decode (cd 46) 1 = .ok (.getfield 21, 3)) (by decide +kernel) (by decide +kernel)
  · intro d a L M Q; exact q_getR (p := 165) (by decide +kernel : decode (cd 46) 4 = .ok (.getfield 36, 3)) (by decide +kernel) (by decide +kernel)
  · intro d a v0 x L M Q; exact Wp_sim (by decide +kernel : decode (cd 46) 7 = .ok (.iload_n 1, 1)) rfl rfl
  · intro d a b L M Q; exact q_ald (by decide +kernel : decode (cd 46) 8 = .ok (.iaload , 1))
  · intro d a L M Q; exact q_zne (by decide +kernel : decode (cd 46) 9 = .ok (.ifCond .ne 5, 3)) (by decide)
  · intro d L M Q; exact Wp_sim (by decide +kernel : decode (cd 46) 12 = .ok (.iconst 0, 1)) rfl rfl
  · intro d a L M Q; exact q_zret (by decide +kernel : decode (cd 46) 13 = .ok (.ireturn , 1)) (by decide +kernel)
  · intro d x L M Q; exact Wp_sim (by decide +kernel : decode (cd 46) 14 = .ok (.aload_n 0, 1)) rfl rfl
  · intro d a L M Q; exact q_getR (p := 198) (by decide +kernel : decode (cd 46) 15 = .ok (.getfield 21, 3)) (by decide +kernel) (by decide +kernel)
  · intro d a L M Q; exact q_getR (p := 165) (by decide +kernel : decode (cd 46) 18 = .ok (.getfield 36, 3)) (by decide +kernel) (by decide +kernel)
  · intro d a v0 x L M Q; exact Wp_sim (by decide +kernel : decode (cd 46) 21 = .ok (.iload_n 1, 1)) rfl rfl
  · intro d a b L M Q; exact q_ald (by decide +kernel : decode (cd 46) 22 = .ok (.iaload , 1))
  · intro d a L M Q; exact Wp_sim (by decide +kernel : decode (cd 46) 23 = .ok (.iconst 1, 1)) rfl rfl
  · intro d a b L M Q; exact q_ine (by decide +kernel : decode (cd 46) 24 = .ok (.if_icmp .ne 21, 3)) (by decide)
  · intro d x L M Q; exact Wp_sim (by decide +kernel : decode (cd 46) 27 = .ok (.aload_n 0, 1)) rfl rfl
  · intro d a x L M Q; exact Wp_sim (by decide +kernel : decode (cd 46) 28 = .ok (.aload_n 0, 1)) rfl rfl
  · intro d a b L M Q; exact q_getR (p := 198) (by decide +kernel : decode (cd 46) 29 = .ok (.getfield 21, 3)) (by decide +kernel) (by decide +kernel)
  · intro d a b L M Q; exact q_getR (p := 169) (by decide +kernel : decode (cd 46) 32 = .ok (.getfield 66, 3)) (by decide +kernel) (by decide +kernel)
  · intro d a b v0 x L M Q; exact Wp_sim (by decide +kernel : decode (cd 46) 35 = .ok (.iload_n 1, 1)) rfl rfl
  · intro d a b c L M Q; exact q_ald (by decide +kernel : decode (cd 46) 36 = .ok (.iaload , 1))
  · intro d a b v0 x L M Q; exact Wp_sim (by decide +kernel : decode (cd 46) 37 = .ok (.iload_n 1, 1)) rfl rfl
  · intro d a b c L M Q; exact Wp_sim (by decide +kernel : decode (cd 46) 38 = .ok (.iconst 1, 1)) rfl rfl
  · intro d a b c d2 L M Q; exact q_invV (pz := 464) (n := 3) (c := 9) (m := 5) (k := d2) (As := [.int c, .int b, .int a]) (rest := []) (by decide +kernel : decode (cd 46) 39 = .ok (.invokevirtual 125, 3)) (by decide +kernel) (by decide +kernel) rfl rfl (Nat.le_of_ble_eq_true rfl) (Nat.le_of_ble_eq_true rfl) rfl
  · intro d a L M Q; exact q_zlt (by decide +kernel : decode (cd 46) 42 = .ok (.ifCond .lt 7, 3)) (by decide)
  · intro d L M Q; exact Wp_sim (by decide +kernel : decode (cd 46) 45 = .ok (.iconst 1, 1)) rfl rfl
  · intro d a L M Q; exact q_goto (by decide +kernel : decode (cd 46) 46 = .ok (.goto 4, 3)) (by decide)
  · intro d L M Q; exact Wp_sim (by decide +kernel : decode (cd 46) 49 = .ok (.iconst 0, 1)) rfl rfl
  · intro d a L M Q; exact q_zret (by decide +kernel : decode (cd 46) 50 = .ok (.ireturn , 1)) (by decide +kernel)

/- 47: Town.cashWeekLater -/
set_option maxRecDepth 10000 in
theorem e47 : (∀ (d : Nat) (v0 : Value) (x : Int32) (L : List Value) (M : Mem) (Q : Option Value → Mem → Prop), Wp d 47 0 (v0 :: .int x :: L) [] M Q ↔ Wp d 47 1 (v0 :: .int x :: L) [.int x] M Q) ∧
    (∀ (d : Nat) (a : Int32) (x : Nat) (L : List Value) (M : Mem) (Q : Option Value → Mem → Prop), Wp d 47 1 (.ref x :: L) [.int a] M Q ↔ Wp d 47 2 (.ref x :: L) [.ref x, .int a] M Q) ∧
    (∀ (d : Nat) (a : Nat) (b : Int32) (L : List Value) (M : Mem) (Q : Option Value → Mem → Prop), Wp d 47 2 L [.ref a, .int b] M Q ↔ (isK a 9 = true ∧ Wp d 47 5 L [.ref (rt a 0), .int b] M Q)) ∧
    (∀ (d : Nat) (a : Nat) (b : Int32) (L : List Value) (M : Mem) (Q : Option Value → Mem → Prop), Wp d 47 5 L [.ref a, .int b] M Q ↔ (isK a 1 = true ∧ Wp d 47 8 L [.ref (rt a 4), .int b] M Q)) ∧
    (∀ (d : Nat) (a : Nat) (b : Int32) (v0 : Value) (v1 : Value) (x : Int32) (L : List Value) (M : Mem) (Q : Option Value → Mem → Prop), Wp d 47 8 (v0 :: v1 :: .int x :: L) [.ref a, .int b] M Q ↔ Wp d 47 9 (v0 :: v1 :: .int x :: L) [.int x, .ref a, .int b] M Q) ∧
    (∀ (d : Nat) (a : Int32) (b : Nat) (c : Int32) (L : List Value) (M : Mem) (Q : Option Value → Mem → Prop), Wp d 47 9 L [.int a, .ref b, .int c] M Q ↔ ((isR b = true ∧ inr a (lnm M b)) ∧ Wp d 47 10 L [.int (M b a.toNatClampNeg), .int c] M Q)) ∧
    (∀ (d : Nat) (a : Int32) (b : Int32) (L : List Value) (M : Mem) (Q : Option Value → Mem → Prop), Wp d 47 10 L [.int a, .int b] M Q ↔ Wp d 47 11 L [.int (b + a)] M Q) ∧
    (∀ (d : Nat) (a : Int32) (L : List Value) (M : Mem) (Q : Option Value → Mem → Prop), Wp (d + 1) 47 11 L [.int a] M Q ↔ Wp d 48 0 [.int a] [] M (fun r M2 => Wp (d + 1) 47 14 L (r.toList ++ []) M2 Q)) ∧
    (∀ (d : Nat) (a : Int32) (v0 : Value) (v1 : Value) (v2 : Value) (v3 : Value) (x : Value) (L : List Value) (M : Mem) (Q : Option Value → Mem → Prop), Wp d 47 14 (v0 :: v1 :: v2 :: v3 :: x :: L) [.int a] M Q ↔ Wp d 47 16 (v0 :: v1 :: v2 :: clr v3 :: .int a :: L) [] M Q) ∧
    (∀ (d : Nat) (v0 : Value) (v1 : Value) (v2 : Value) (x : Int32) (L : List Value) (M : Mem) (Q : Option Value → Mem → Prop), Wp d 47 16 (v0 :: v1 :: v2 :: .int x :: L) [] M Q ↔ Wp d 47 17 (v0 :: v1 :: v2 :: .int x :: L) [.int x] M Q) ∧
    (∀ (d : Nat) (a : Int32) (L : List Value) (M : Mem) (Q : Option Value → Mem → Prop), Wp d 47 17 L [.int a] M Q ↔ (if a = 0 then Wp d 47 36 L [] M Q else Wp d 47 20 L [] M Q)) ∧
    (∀ (d : Nat) (v0 : Value) (v1 : Value) (v2 : Value) (v3 : Value) (x : Int32) (L : List Value) (M : Mem) (Q : Option Value → Mem → Prop), Wp d 47 20 (v0 :: v1 :: v2 :: v3 :: .int x :: L) [] M Q ↔ Wp d 47 22 (v0 :: v1 :: v2 :: v3 :: .int x :: L) [.int x] M Q) ∧
    (∀ (d : Nat) (a : Int32) (x : Nat) (L : List Value) (M : Mem) (Q : Option Value → Mem → Prop), Wp d 47 22 (.ref x :: L) [.int a] M Q ↔ Wp d 47 23 (.ref x :: L) [.ref x, .int a] M Q) ∧
    (∀ (d : Nat) (a : Nat) (b : Int32) (L : List Value) (M : Mem) (Q : Option Value → Mem → Prop), Wp d 47 23 L [.ref a, .int b] M Q ↔ (isK a 9 = true ∧ Wp d 47 26 L [.ref (rt a 0), .int b] M Q)) ∧
    (∀ (d : Nat) (a : Nat) (b : Int32) (L : List Value) (M : Mem) (Q : Option Value → Mem → Prop), Wp d 47 26 L [.ref a, .int b] M Q ↔ (isK a 1 = true ∧ Wp d 47 29 L [.int (M a 9), .int b] M Q)) ∧
    (∀ (d : Nat) (a : Int32) (b : Int32) (L : List Value) (M : Mem) (Q : Option Value → Mem → Prop), Wp d 47 29 L [.int a, .int b] M Q ↔ Wp d 47 30 L [.int (b - a)] M Q) ∧
    (∀ (d : Nat) (a : Int32) (L : List Value) (M : Mem) (Q : Option Value → Mem → Prop), Wp (d + 1) 47 30 L [.int a] M Q ↔ Wp d 48 0 [.int a] [] M (fun r M2 => Wp (d + 1) 47 33 L (r.toList ++ []) M2 Q)) ∧
    (∀ (d : Nat) (a : Int32) (L : List Value) (M : Mem) (Q : Option Value → Mem → Prop), Wp d 47 33 L [.int a] M Q ↔ Wp d 47 38 L [.int a] M Q) ∧
    (∀ (d : Nat) (v0 : Value) (v1 : Value) (v2 : Value) (v3 : Value) (x : Int32) (L : List Value) (M : Mem) (Q : Option Value → Mem → Prop), Wp d 47 36 (v0 :: v1 :: v2 :: v3 :: .int x :: L) [] M Q ↔ Wp d 47 38 (v0 :: v1 :: v2 :: v3 :: .int x :: L) [.int x] M Q) ∧
    (∀ (d : Nat) (a : Int32) (L : List Value) (M : Mem) (Q : Option Value → Mem → Prop), Wp d 47 38 L [.int a] M Q ↔ Q (some (.int a)) M) := by
  refine ⟨?_, ?_, ?_, ?_, ?_, ?_, ?_, ?_, ?_, ?_, ?_, ?_, ?_, ?_, ?_, ?_, ?_, ?_, ?_, ?_⟩
  · intro d v0 x L M Q; exact Wp_sim (by decide +kernel : decode (cd 47) 0 = .ok (.iload_n 1, 1)) rfl rfl
  · intro d a x L M Q; exact Wp_sim (by decide +kernel : decode (cd 47) 1 = .ok (.aload_n 0, 1)) rfl rfl
  · intro d a b L M Q; exact q_getR (p := 196) (by decide +kernel : decode (cd 47) 2 = .ok (.getfield 12, 3)) (by decide +kernel) (by decide +kernel)
  · intro d a b L M Q; exact q_getR (p := 78) (by decide +kernel : decode (cd 47) 5 = .ok (.getfield 108, 3)) (by decide +kernel) (by decide +kernel)
  · intro d a b v0 v1 x L M Q; exact Wp_sim (by decide +kernel : decode (cd 47) 8 = .ok (.iload_n 2, 1)) rfl rfl
  · intro d a b c L M Q; exact q_ald (by decide +kernel : decode (cd 47) 9 = .ok (.iaload , 1))
  · intro d a b L M Q; exact Wp_sim (by decide +kernel : decode (cd 47) 10 = .ok (.iadd , 1)) rfl rfl
  · intro d a L M Q; exact q_invS (pz := 468) (n := 1) (m := 1) (As := [.int a]) (rest := []) (by decide +kernel : decode (cd 47) 11 = .ok (.invokestatic 105, 3)) (by decide +kernel) (by decide +kernel) (by decide +kernel) rfl rfl (Nat.le_of_ble_eq_true rfl) (Nat.le_of_ble_eq_true rfl) rfl
  · intro d a v0 v1 v2 v3 x L M Q; exact Wp_sim (by decide +kernel : decode (cd 47) 14 = .ok (.istore 4, 2)) rfl rfl
  · intro d v0 v1 v2 x L M Q; exact Wp_sim (by decide +kernel : decode (cd 47) 16 = .ok (.iload_n 3, 1)) rfl rfl
  · intro d a L M Q; exact q_zeq (by decide +kernel : decode (cd 47) 17 = .ok (.ifCond .eq 19, 3)) (by decide)
  · intro d v0 v1 v2 v3 x L M Q; exact Wp_sim (by decide +kernel : decode (cd 47) 20 = .ok (.iload 4, 2)) rfl rfl
  · intro d a x L M Q; exact Wp_sim (by decide +kernel : decode (cd 47) 22 = .ok (.aload_n 0, 1)) rfl rfl
  · intro d a b L M Q; exact q_getR (p := 196) (by decide +kernel : decode (cd 47) 23 = .ok (.getfield 12, 3)) (by decide +kernel) (by decide +kernel)
  · intro d a b L M Q; exact q_getI (p := 91) (by decide +kernel : decode (cd 47) 26 = .ok (.getfield 111, 3)) (by decide +kernel) (by decide +kernel)
  · intro d a b L M Q; exact Wp_sim (by decide +kernel : decode (cd 47) 29 = .ok (.isub , 1)) rfl rfl
  · intro d a L M Q; exact q_invS (pz := 468) (n := 1) (m := 1) (As := [.int a]) (rest := []) (by decide +kernel : decode (cd 47) 30 = .ok (.invokestatic 105, 3)) (by decide +kernel) (by decide +kernel) (by decide +kernel) rfl rfl (Nat.le_of_ble_eq_true rfl) (Nat.le_of_ble_eq_true rfl) rfl
  · intro d a L M Q; exact q_goto (by decide +kernel : decode (cd 47) 33 = .ok (.goto 5, 3)) (by decide)
  · intro d v0 v1 v2 v3 x L M Q; exact Wp_sim (by decide +kernel : decode (cd 47) 36 = .ok (.iload 4, 2)) rfl rfl
  · intro d a L M Q; exact q_iret (by decide +kernel : decode (cd 47) 38 = .ok (.ireturn , 1)) (by decide +kernel)

/- 48: Town.bounded -/
set_option maxRecDepth 10000 in
theorem e48 : (∀ (d : Nat) (L : List Value) (M : Mem) (Q : Option Value → Mem → Prop), Wp d 48 0 L [] M Q ↔ Wp d 48 3 L [.int (-9999)] M Q) ∧
    (∀ (d : Nat) (a : Int32) (L : List Value) (M : Mem) (Q : Option Value → Mem → Prop), Wp d 48 3 L [.int a] M Q ↔ Wp d 48 6 L [.int 9999, .int a] M Q) ∧
    (∀ (d : Nat) (a : Int32) (b : Int32) (x : Int32) (L : List Value) (M : Mem) (Q : Option Value → Mem → Prop), Wp d 48 6 (.int x :: L) [.int a, .int b] M Q ↔ Wp d 48 7 (.int x :: L) [.int x, .int a, .int b] M Q) ∧
    (∀ (d : Nat) (a : Int32) (b : Int32) (c : Int32) (L : List Value) (M : Mem) (Q : Option Value → Mem → Prop), Wp (d + 1) 48 7 L [.int a, .int b, .int c] M Q ↔ Wp (d + 1) 48 10 L [.int (mn b a), .int c] M Q) ∧
    (∀ (d : Nat) (a : Int32) (b : Int32) (L : List Value) (M : Mem) (Q : Option Value → Mem → Prop), Wp (d + 1) 48 10 L [.int a, .int b] M Q ↔ Wp (d + 1) 48 13 L [.int (mx b a)] M Q) ∧
    (∀ (d : Nat) (a : Int32) (L : List Value) (M : Mem) (Q : Option Value → Mem → Prop), Wp d 48 13 L [.int a] M Q ↔ Q (some (.int a)) M) := by
  refine ⟨?_, ?_, ?_, ?_, ?_, ?_⟩
  · intro d L M Q; exact Wp_sim (by decide +kernel : decode (cd 48) 0 = .ok (.sipush (-9999), 3)) rfl rfl
  · intro d a L M Q; exact Wp_sim (by decide +kernel : decode (cd 48) 3 = .ok (.sipush 9999, 3)) rfl rfl
  · intro d a b x L M Q; exact Wp_sim (by decide +kernel : decode (cd 48) 6 = .ok (.iload_n 0, 1)) rfl rfl
  · intro d a b c L M Q; exact q_min (p := 471) (by decide +kernel : decode (cd 48) 7 = .ok (.invokestatic 97, 3)) (by decide +kernel) (Nat.le_of_ble_eq_true rfl)
  · intro d a b L M Q; exact q_max (p := 474) (by decide +kernel : decode (cd 48) 10 = .ok (.invokestatic 102, 3)) (by decide +kernel) (Nat.le_of_ble_eq_true rfl)
  · intro d a L M Q; exact q_iret (by decide +kernel : decode (cd 48) 13 = .ok (.ireturn , 1)) (by decide +kernel)

/- 49: Town.priceOfRooms -/
set_option maxRecDepth 10000 in
theorem e49 : (∀ (d : Nat) (x : Nat) (L : List Value) (M : Mem) (Q : Option Value → Mem → Prop), Wp d 49 0 (.ref x :: L) [] M Q ↔ Wp d 49 1 (.ref x :: L) [.ref x] M Q) ∧
    (∀ (d : Nat) (a : Nat) (L : List Value) (M : Mem) (Q : Option Value → Mem → Prop), Wp d 49 1 L [.ref a] M Q ↔ Wp d 49 2 L [.int 1, .ref a] M Q) ∧
    (∀ (d : Nat) (a : Int32) (b : Nat) (L : List Value) (M : Mem) (Q : Option Value → Mem → Prop), Wp (d + 1) 49 2 L [.int a, .ref b] M Q ↔ (isK b 9 = true ∧ Wp d 42 0 [.ref b, .int a, .null, .null] [] M (fun r M2 => Wp (d + 1) 49 5 L (r.toList ++ []) M2 Q))) ∧
    (∀ (d : Nat) (a : Int32) (x : Nat) (L : List Value) (M : Mem) (Q : Option Value → Mem → Prop), Wp d 49 5 (.ref x :: L) [.int a] M Q ↔ Wp d 49 6 (.ref x :: L) [.ref x, .int a] M Q) ∧
    (∀ (d : Nat) (a : Nat) (b : Int32) (L : List Value) (M : Mem) (Q : Option Value → Mem → Prop), Wp d 49 6 L [.ref a, .int b] M Q ↔ Wp d 49 7 L [.int 0, .ref a, .int b] M Q) ∧
    (∀ (d : Nat) (a : Int32) (b : Nat) (c : Int32) (L : List Value) (M : Mem) (Q : Option Value → Mem → Prop), Wp (d + 1) 49 7 L [.int a, .ref b, .int c] M Q ↔ (isK b 9 = true ∧ Wp d 42 0 [.ref b, .int a, .null, .null] [] M (fun r M2 => Wp (d + 1) 49 10 L (r.toList ++ [.int c]) M2 Q))) ∧
    (∀ (d : Nat) (a : Int32) (b : Int32) (L : List Value) (M : Mem) (Q : Option Value → Mem → Prop), Wp d 49 10 L [.int a, .int b] M Q ↔ Wp d 49 11 L [.int (b ||| a)] M Q) ∧
    (∀ (d : Nat) (a : Int32) (v0 : Value) (x : Value) (L : List Value) (M : Mem) (Q : Option Value → Mem → Prop), Wp d 49 11 (v0 :: x :: L) [.int a] M Q ↔ Wp d 49 12 (clr v0 :: .int a :: L) [] M Q) ∧
    (∀ (d : Nat) (L : List Value) (M : Mem) (Q : Option Value → Mem → Prop), Wp d 49 12 L [] M Q ↔ Wp d 49 13 L [.int 0] M Q) ∧
    (∀ (d : Nat) (a : Int32) (v0 : Value) (v1 : Value) (x : Value) (L : List Value) (M : Mem) (Q : Option Value → Mem → Prop), Wp d 49 13 (v0 :: v1 :: x :: L) [.int a] M Q ↔ Wp d 49 14 (v0 :: clr v1 :: .int a :: L) [] M Q) ∧
    (∀ (d : Nat) (a : Int32) (x : Nat) (L : List Value) (M : Mem) (Q : Option Value → Mem → Prop), Wp d 49 15 (.ref x :: L) [.int a] M Q ↔ Wp d 49 16 (.ref x :: L) [.ref x, .int a] M Q) ∧
    (∀ (d : Nat) (a : Nat) (b : Int32) (L : List Value) (M : Mem) (Q : Option Value → Mem → Prop), Wp d 49 16 L [.ref a, .int b] M Q ↔ (isK a 9 = true ∧ Wp d 49 19 L [.ref (rt a 0), .int b] M Q)) ∧
    (∀ (d : Nat) (a : Nat) (b : Int32) (L : List Value) (M : Mem) (Q : Option Value → Mem → Prop), Wp d 49 19 L [.ref a, .int b] M Q ↔ (isK a 1 = true ∧ Wp d 49 22 L [.int (M a 10), .int b] M Q)) ∧
    (∀ (d : Nat) (a : Int32) (b : Int32) (L : List Value) (M : Mem) (Q : Option Value → Mem → Prop), Wp d 49 22 L [.int a, .int b] M Q ↔ (if b < a then Wp d 49 25 L [] M Q else Wp d 49 64 L [] M Q)) ∧
    (∀ (d : Nat) (v0 : Value) (x : Int32) (L : List Value) (M : Mem) (Q : Option Value → Mem → Prop), Wp d 49 25 (v0 :: .int x :: L) [] M Q ↔ Wp d 49 26 (v0 :: .int x :: L) [.int x] M Q) ∧
    (∀ (d : Nat) (a : Int32) (L : List Value) (M : Mem) (Q : Option Value → Mem → Prop), Wp d 49 26 L [.int a] M Q ↔ (if a = 0 then Wp d 49 64 L [] M Q else Wp d 49 29 L [] M Q)) ∧
    (∀ (d : Nat) (x : Nat) (L : List Value) (M : Mem) (Q : Option Value → Mem → Prop), Wp d 49 29 (.ref x :: L) [] M Q ↔ Wp d 49 30 (.ref x :: L) [.ref x] M Q) ∧
    (∀ (d : Nat) (a : Nat) (x : Nat) (L : List Value) (M : Mem) (Q : Option Value → Mem → Prop), Wp d 49 30 (.ref x :: L) [.ref a] M Q ↔ Wp d 49 31 (.ref x :: L) [.ref x, .ref a] M Q) ∧
    (∀ (d : Nat) (a : Nat) (b : Nat) (L : List Value) (M : Mem) (Q : Option Value → Mem → Prop), Wp d 49 31 L [.ref a, .ref b] M Q ↔ (isK a 9 = true ∧ Wp d 49 34 L [.ref (rt a 0), .ref b] M Q)) ∧
    (∀ (d : Nat) (a : Nat) (b : Nat) (L : List Value) (M : Mem) (Q : Option Value → Mem → Prop), Wp d 49 34 L [.ref a, .ref b] M Q ↔ (isK a 1 = true ∧ Wp d 49 37 L [.ref (rt a 4), .ref b] M Q)) ∧
    (∀ (d : Nat) (a : Nat) (b : Nat) (v0 : Value) (x : Int32) (L : List Value) (M : Mem) (Q : Option Value → Mem → Prop), Wp d 49 37 (v0 :: .int x :: L) [.ref a, .ref b] M Q ↔ Wp d 49 38 (v0 :: .int x :: L) [.int x, .ref a, .ref b] M Q) ∧
    (∀ (d : Nat) (a : Int32) (b : Nat) (c : Nat) (L : List Value) (M : Mem) (Q : Option Value → Mem → Prop), Wp (d + 1) 49 38 L [.int a, .ref b, .ref c] M Q ↔ (isK c 9 = true ∧ Wp d 44 0 [.ref c, .ref b, .int a, .null, .null] [] M (fun r M2 => Wp (d + 1) 49 41 L (r.toList ++ []) M2 Q))) ∧
    (∀ (d : Nat) (a : Int32) (v0 : Value) (v1 : Value) (v2 : Value) (x : Value) (L : List Value) (M : Mem) (Q : Option Value → Mem → Prop), Wp d 49 41 (v0 :: v1 :: v2 :: x :: L) [.int a] M Q ↔ Wp d 49 42 (v0 :: v1 :: clr v2 :: .int a :: L) [] M Q) ∧
    (∀ (d : Nat) (v0 : Value) (v1 : Value) (v2 : Value) (x : Int32) (L : List Value) (M : Mem) (Q : Option Value → Mem → Prop), Wp d 49 42 (v0 :: v1 :: v2 :: .int x :: L) [] M Q ↔ Wp d 49 43 (v0 :: v1 :: v2 :: .int x :: L) [.int x] M Q) ∧
    (∀ (d : Nat) (a : Int32) (L : List Value) (M : Mem) (Q : Option Value → Mem → Prop), Wp d 49 43 L [.int a] M Q ↔ Wp d 49 44 L [.int (-1), .int a] M Q) ∧
    (∀ (d : Nat) (a : Int32) (b : Int32) (L : List Value) (M : Mem) (Q : Option Value → Mem → Prop), Wp d 49 44 L [.int a, .int b] M Q ↔ (if b = a then Wp d 49 47 L [] M Q else Wp d 49 50 L [] M Q)) ∧
    (∀ (d : Nat) (L : List Value) (M : Mem) (Q : Option Value → Mem → Prop), Wp d 49 47 L [] M Q ↔ Wp d 49 64 L [] M Q) ∧
    (∀ (d : Nat) (v0 : Value) (x : Int32) (L : List Value) (M : Mem) (Q : Option Value → Mem → Prop), Wp d 49 50 (v0 :: .int x :: L) [] M Q ↔ Wp d 49 51 (v0 :: .int x :: L) [.int x] M Q) ∧
    (∀ (d : Nat) (a : Int32) (L : List Value) (M : Mem) (Q : Option Value → Mem → Prop), Wp d 49 51 L [.int a] M Q ↔ Wp d 49 52 L [.int 1, .int a] M Q) ∧
    (∀ (d : Nat) (a : Int32) (b : Int32) (v0 : Value) (v1 : Value) (v2 : Value) (x : Int32) (L : List Value) (M : Mem) (Q : Option Value → Mem → Prop), Wp d 49 52 (v0 :: v1 :: v2 :: .int x :: L) [.int a, .int b] M Q ↔ Wp d 49 53 (v0 :: v1 :: v2 :: .int x :: L) [.int x, .int a, .int b] M Q) ∧
    (∀ (d : Nat) (a : Int32) (b : Int32) (c : Int32) (L : List Value) (M : Mem) (Q : Option Value → Mem → Prop), Wp d 49 53 L [.int a, .int b, .int c] M Q ↔ Wp d 49 54 L [.int (b <<< (a &&& 31)), .int c] M Q) ∧
    (∀ (d : Nat) (a : Int32) (b : Int32) (L : List Value) (M : Mem) (Q : Option Value → Mem → Prop), Wp d 49 54 L [.int a, .int b] M Q ↔ Wp d 49 55 L [.int (-1), .int a, .int b] M Q) ∧
    (∀ (d : Nat) (a : Int32) (b : Int32) (c : Int32) (L : List Value) (M : Mem) (Q : Option Value → Mem → Prop), Wp d 49 55 L [.int a, .int b, .int c] M Q ↔ Wp d 49 56 L [.int (b ^^^ a), .int c] M Q) ∧
    (∀ (d : Nat) (a : Int32) (b : Int32) (L : List Value) (M : Mem) (Q : Option Value → Mem → Prop), Wp d 49 56 L [.int a, .int b] M Q ↔ Wp d 49 57 L [.int (b &&& a)] M Q) ∧
    (∀ (d : Nat) (a : Int32) (v0 : Value) (x : Value) (L : List Value) (M : Mem) (Q : Option Value → Mem → Prop), Wp d 49 57 (v0 :: x :: L) [.int a] M Q ↔ Wp d 49 58 (clr v0 :: .int a :: L) [] M Q) ∧
    (∀ (d : Nat) (v0 : Value) (v1 : Value) (x : Int32) (L : List Value) (M : Mem) (Q : Option Value → Mem → Prop), Wp d 49 58 (v0 :: v1 :: .int x :: L) [] M Q ↔ Wp d 49 61 (v0 :: clr v1 :: .int (x + 1) :: L) [] M Q) ∧
    (∀ (d : Nat) (L : List Value) (M : Mem) (Q : Option Value → Mem → Prop), Wp d 49 61 L [] M Q ↔ Wp d 49 14 L [] M Q) ∧
    (∀ (d : Nat) (x : Nat) (L : List Value) (M : Mem) (Q : Option Value → Mem → Prop), Wp d 49 64 (.ref x :: L) [] M Q ↔ Wp d 49 65 (.ref x :: L) [.ref x] M Q) ∧
    (∀ (d : Nat) (a : Nat) (x : Nat) (L : List Value) (M : Mem) (Q : Option Value → Mem → Prop), Wp d 49 65 (.ref x :: L) [.ref a] M Q ↔ Wp d 49 66 (.ref x :: L) [.ref x, .ref a] M Q) ∧
    (∀ (d : Nat) (a : Nat) (b : Nat) (L : List Value) (M : Mem) (Q : Option Value → Mem → Prop), Wp d 49 66 L [.ref a, .ref b] M Q ↔ (isK a 9 = true ∧ Wp d 49 69 L [.ref (rt a 0), .ref b] M Q)) ∧
    (∀ (d : Nat) (a : Nat) (b : Nat) (L : List Value) (M : Mem) (Q : Option Value → Mem → Prop), Wp d 49 69 L [.ref a, .ref b] M Q ↔ (isK a 1 = true ∧ Wp d 49 72 L [.ref (rt a 4), .ref b] M Q)) ∧
    (∀ (d : Nat) (a : Nat) (b : Nat) (v0 : Value) (x : Int32) (L : List Value) (M : Mem) (Q : Option Value → Mem → Prop), Wp d 49 72 (v0 :: .int x :: L) [.ref a, .ref b] M Q ↔ Wp d 49 73 (v0 :: .int x :: L) [.int x, .ref a, .ref b] M Q) ∧
    (∀ (d : Nat) (a : Int32) (b : Nat) (c : Nat) (L : List Value) (M : Mem) (Q : Option Value → Mem → Prop), Wp (d + 1) 49 73 L [.int a, .ref b, .ref c] M Q ↔ (isK c 9 = true ∧ Wp d 44 0 [.ref c, .ref b, .int a, .null, .null] [] M (fun r M2 => Wp (d + 1) 49 76 L (r.toList ++ []) M2 Q))) ∧
    (∀ (d : Nat) (a : Int32) (v0 : Value) (v1 : Value) (x : Value) (L : List Value) (M : Mem) (Q : Option Value → Mem → Prop), Wp d 49 76 (v0 :: v1 :: x :: L) [.int a] M Q ↔ Wp d 49 77 (v0 :: clr v1 :: .int a :: L) [] M Q) ∧
    (∀ (d : Nat) (v0 : Value) (v1 : Value) (x : Int32) (L : List Value) (M : Mem) (Q : Option Value → Mem → Prop), Wp d 49 77 (v0 :: v1 :: .int x :: L) [] M Q ↔ Wp d 49 78 (v0 :: v1 :: .int x :: L) [.int x] M Q) ∧
    (∀ (d : Nat) (a : Int32) (L : List Value) (M : Mem) (Q : Option Value → Mem → Prop), Wp d 49 78 L [.int a] M Q ↔ Wp d 49 79 L [.int (-1), .int a] M Q) ∧
    (∀ (d : Nat) (a : Int32) (b : Int32) (L : List Value) (M : Mem) (Q : Option Value → Mem → Prop), Wp d 49 79 L [.int a, .int b] M Q ↔ (if b = a then Wp d 49 82 L [] M Q else Wp d 49 86 L [] M Q)) ∧
    (∀ (d : Nat) (L : List Value) (M : Mem) (Q : Option Value → Mem → Prop), Wp d 49 82 L [] M Q ↔ Wp d 49 83 L [.int 0] M Q) ∧
    (∀ (d : Nat) (a : Int32) (L : List Value) (M : Mem) (Q : Option Value → Mem → Prop), Wp d 49 83 L [.int a] M Q ↔ Wp d 49 95 L [.int a] M Q) ∧
    (∀ (d : Nat) (x : Nat) (L : List Value) (M : Mem) (Q : Option Value → Mem → Prop), Wp d 49 86 (.ref x :: L) [] M Q ↔ Wp d 49 87 (.ref x :: L) [.ref x] M Q) ∧
    (∀ (d : Nat) (a : Nat) (L : List Value) (M : Mem) (Q : Option Value → Mem → Prop), Wp d 49 87 L [.ref a] M Q ↔ (isK a 9 = true ∧ Wp d 49 90 L [.ref (rt a 0)] M Q)) ∧
    (∀ (d : Nat) (a : Nat) (L : List Value) (M : Mem) (Q : Option Value → Mem → Prop), Wp d 49 90 L [.ref a] M Q ↔ (isK a 1 = true ∧ Wp d 49 93 L [.ref (rt a 4)] M Q)) ∧
    (∀ (d : Nat) (a : Nat) (v0 : Value) (v1 : Value) (x : Int32) (L : List Value) (M : Mem) (Q : Option Value → Mem → Prop), Wp d 49 93 (v0 :: v1 :: .int x :: L) [.ref a] M Q ↔ Wp d 49 94 (v0 :: v1 :: .int x :: L) [.int x, .ref a] M Q) ∧
    (∀ (d : Nat) (a : Int32) (b : Nat) (L : List Value) (M : Mem) (Q : Option Value → Mem → Prop), Wp d 49 94 L [.int a, .ref b] M Q ↔ ((isR b = true ∧ inr a (lnm M b)) ∧ Wp d 49 95 L [.int (M b a.toNatClampNeg)] M Q)) ∧
    (∀ (d : Nat) (a : Int32) (L : List Value) (M : Mem) (Q : Option Value → Mem → Prop), Wp d 49 95 L [.int a] M Q ↔ Q (some (.int a)) M) := by
  refine ⟨?_, ?_, ?_, ?_, ?_, ?_, ?_, ?_, ?_, ?_, ?_, ?_, ?_, ?_, ?_, ?_, ?_, ?_, ?_, ?_, ?_, ?_, ?_, ?_, ?_, ?_, ?_, ?_, ?_, ?_, ?_, ?_, ?_, ?_, ?_, ?_, ?_, ?_, ?_, ?_, ?_, ?_, ?_, ?_, ?_, ?_, ?_, ?_, ?_, ?_, ?_, ?_, ?_, ?_, ?_⟩
  · intro d x L M Q; exact Wp_sim (by decide +kernel : decode (cd 49) 0 = .ok (.aload_n 0, 1)) rfl rfl
  · intro d a L M Q; exact Wp_sim (by decide +kernel : decode (cd 49) 1 = .ok (.iconst 1, 1)) rfl rfl
  · intro d a b L M Q; exact q_invV (pz := 451) (n := 1) (c := 9) (m := 4) (k := b) (As := [.int a]) (rest := []) (by decide +kernel : decode (cd 49) 2 = .ok (.invokevirtual 40, 3)) (by decide +kernel) (by decide +kernel) rfl rfl (Nat.le_of_ble_eq_true rfl) (Nat.le_of_ble_eq_true rfl) rfl
  · intro d a x L M Q; exact Wp_sim (by decide +kernel : decode (cd 49) 5 = .ok (.aload_n 0, 1)) rfl rfl
  · intro d a b L M Q; exact Wp_sim (by decide +kernel : decode (cd 49) 6 = .ok (.iconst 0, 1)) rfl rfl
  · intro d a b c L M Q; exact q_invV (pz := 451) (n := 1) (c := 9) (m := 4) (k := b) (As := [.int a]) (rest := [.int c]) (by decide +kernel : decode (cd 49) 7 = .ok (.invokevirtual 40, 3)) (by decide +kernel) (by decide +kernel) rfl rfl (Nat.le_of_ble_eq_true rfl) (Nat.le_of_ble_eq_true rfl) rfl
  · intro d a b L M Q; exact Wp_sim (by decide +kernel : decode (cd 49) 10 = .ok (.ior , 1)) rfl rfl
  · intro d a v0 x L M Q; exact Wp_sim (by decide +kernel : decode (cd 49) 11 = .ok (.istore_n 1, 1)) rfl rfl
  · intro d L M Q; exact Wp_sim (by decide +kernel : decode (cd 49) 12 = .ok (.iconst 0, 1)) rfl rfl
  · intro d a v0 v1 x L M Q; exact Wp_sim (by decide +kernel : decode (cd 49) 13 = .ok (.istore_n 2, 1)) rfl rfl
  · intro d a x L M Q; exact Wp_sim (by decide +kernel : decode (cd 49) 15 = .ok (.aload_n 0, 1)) rfl rfl
  · intro d a b L M Q; exact q_getR (p := 196) (by decide +kernel : decode (cd 49) 16 = .ok (.getfield 12, 3)) (by decide +kernel) (by decide +kernel)
  · intro d a b L M Q; exact q_getI (p := 93) (by decide +kernel : decode (cd 49) 19 = .ok (.getfield 49, 3)) (by decide +kernel) (by decide +kernel)
  · intro d a b L M Q; exact q_ige (by decide +kernel : decode (cd 49) 22 = .ok (.if_icmp .ge 42, 3)) (by decide)
  · intro d v0 x L M Q; exact Wp_sim (by decide +kernel : decode (cd 49) 25 = .ok (.iload_n 1, 1)) rfl rfl
  · intro d a L M Q; exact q_zeq (by decide +kernel : decode (cd 49) 26 = .ok (.ifCond .eq 38, 3)) (by decide)
  · intro d x L M Q; exact Wp_sim (by decide +kernel : decode (cd 49) 29 = .ok (.aload_n 0, 1)) rfl rfl
  · intro d a x L M Q; exact Wp_sim (by decide +kernel : decode (cd 49) 30 = .ok (.aload_n 0, 1)) rfl rfl
  · intro d a b L M Q; exact q_getR (p := 196) (by decide +kernel : decode (cd 49) 31 = .ok (.getfield 12, 3)) (by decide +kernel) (by decide +kernel)
  · intro d a b L M Q; exact q_getR (p := 78) (by decide +kernel : decode (cd 49) 34 = .ok (.getfield 108, 3)) (by decide +kernel) (by decide +kernel)
  · intro d a b v0 x L M Q; exact Wp_sim (by decide +kernel : decode (cd 49) 37 = .ok (.iload_n 1, 1)) rfl rfl
  · intro d a b c L M Q; exact q_invV (pz := 452) (n := 2) (c := 9) (m := 5) (k := c) (As := [.ref b, .int a]) (rest := []) (by decide +kernel : decode (cd 49) 38 = .ok (.invokevirtual 137, 3)) (by decide +kernel) (by decide +kernel) rfl rfl (Nat.le_of_ble_eq_true rfl) (Nat.le_of_ble_eq_true rfl) rfl
  · intro d a v0 v1 v2 x L M Q; exact Wp_sim (by decide +kernel : decode (cd 49) 41 = .ok (.istore_n 3, 1)) rfl rfl
  · intro d v0 v1 v2 x L M Q; exact Wp_sim (by decide +kernel : decode (cd 49) 42 = .ok (.iload_n 3, 1)) rfl rfl
  · intro d a L M Q; exact Wp_sim (by decide +kernel : decode (cd 49) 43 = .ok (.iconst (-1), 1)) rfl rfl
  · intro d a b L M Q; exact q_ine (by decide +kernel : decode (cd 49) 44 = .ok (.if_icmp .ne 6, 3)) (by decide)
  · intro d L M Q; exact q_goto (by decide +kernel : decode (cd 49) 47 = .ok (.goto 17, 3)) (by decide)
  · intro d v0 x L M Q; exact Wp_sim (by decide +kernel : decode (cd 49) 50 = .ok (.iload_n 1, 1)) rfl rfl
  · intro d a L M Q; exact Wp_sim (by decide +kernel : decode (cd 49) 51 = .ok (.iconst 1, 1)) rfl rfl
  · intro d a b v0 v1 v2 x L M Q; exact Wp_sim (by decide +kernel : decode (cd 49) 52 = .ok (.iload_n 3, 1)) rfl rfl
  · intro d a b c L M Q; exact Wp_sim (by decide +kernel : decode (cd 49) 53 = .ok (.ishl , 1)) rfl rfl
  · intro d a b L M Q; exact Wp_sim (by decide +kernel : decode (cd 49) 54 = .ok (.iconst (-1), 1)) rfl rfl
  · intro d a b c L M Q; exact Wp_sim (by decide +kernel : decode (cd 49) 55 = .ok (.ixor , 1)) rfl rfl
  · intro d a b L M Q; exact Wp_sim (by decide +kernel : decode (cd 49) 56 = .ok (.iand , 1)) rfl rfl
  · intro d a v0 x L M Q; exact Wp_sim (by decide +kernel : decode (cd 49) 57 = .ok (.istore_n 1, 1)) rfl rfl
  · intro d v0 v1 x L M Q; exact Wp_sim (by decide +kernel : decode (cd 49) 58 = .ok (.iinc 2 1, 3)) rfl rfl
  · intro d L M Q; exact q_goto (by decide +kernel : decode (cd 49) 61 = .ok (.goto (-47), 3)) (by decide)
  · intro d x L M Q; exact Wp_sim (by decide +kernel : decode (cd 49) 64 = .ok (.aload_n 0, 1)) rfl rfl
  · intro d a x L M Q; exact Wp_sim (by decide +kernel : decode (cd 49) 65 = .ok (.aload_n 0, 1)) rfl rfl
  · intro d a b L M Q; exact q_getR (p := 196) (by decide +kernel : decode (cd 49) 66 = .ok (.getfield 12, 3)) (by decide +kernel) (by decide +kernel)
  · intro d a b L M Q; exact q_getR (p := 78) (by decide +kernel : decode (cd 49) 69 = .ok (.getfield 108, 3)) (by decide +kernel) (by decide +kernel)
  · intro d a b v0 x L M Q; exact Wp_sim (by decide +kernel : decode (cd 49) 72 = .ok (.iload_n 1, 1)) rfl rfl
  · intro d a b c L M Q; exact q_invV (pz := 452) (n := 2) (c := 9) (m := 5) (k := c) (As := [.ref b, .int a]) (rest := []) (by decide +kernel : decode (cd 49) 73 = .ok (.invokevirtual 137, 3)) (by decide +kernel) (by decide +kernel) rfl rfl (Nat.le_of_ble_eq_true rfl) (Nat.le_of_ble_eq_true rfl) rfl
  · intro d a v0 v1 x L M Q; exact Wp_sim (by decide +kernel : decode (cd 49) 76 = .ok (.istore_n 2, 1)) rfl rfl
  · intro d v0 v1 x L M Q; exact Wp_sim (by decide +kernel : decode (cd 49) 77 = .ok (.iload_n 2, 1)) rfl rfl
  · intro d a L M Q; exact Wp_sim (by decide +kernel : decode (cd 49) 78 = .ok (.iconst (-1), 1)) rfl rfl
  · intro d a b L M Q; exact q_ine (by decide +kernel : decode (cd 49) 79 = .ok (.if_icmp .ne 7, 3)) (by decide)
  · intro d L M Q; exact Wp_sim (by decide +kernel : decode (cd 49) 82 = .ok (.iconst 0, 1)) rfl rfl
  · intro d a L M Q; exact q_goto (by decide +kernel : decode (cd 49) 83 = .ok (.goto 12, 3)) (by decide)
  · intro d x L M Q; exact Wp_sim (by decide +kernel : decode (cd 49) 86 = .ok (.aload_n 0, 1)) rfl rfl
  · intro d a L M Q; exact q_getR (p := 196) (by decide +kernel : decode (cd 49) 87 = .ok (.getfield 12, 3)) (by decide +kernel) (by decide +kernel)
  · intro d a L M Q; exact q_getR (p := 78) (by decide +kernel : decode (cd 49) 90 = .ok (.getfield 108, 3)) (by decide +kernel) (by decide +kernel)
  · intro d a v0 v1 x L M Q; exact Wp_sim (by decide +kernel : decode (cd 49) 93 = .ok (.iload_n 2, 1)) rfl rfl
  · intro d a b L M Q; exact q_ald (by decide +kernel : decode (cd 49) 94 = .ok (.iaload , 1))
  · intro d a L M Q; exact q_iret (by decide +kernel : decode (cd 49) 95 = .ok (.ireturn , 1)) (by decide +kernel)
theorem h49_14 : (∀ (d : Nat) (v0 : Value) (v1 : Value) (x : Int32) (L : List Value) (M : Mem) (Q : Option Value → Mem → Prop), Wp d 49 14 (v0 :: v1 :: .int x :: L) [] M Q ↔ Wp d 49 15 (v0 :: v1 :: .int x :: L) [.int x] M Q) := by
  intro d v0 v1 x L M Q; exact Wp_sim (by decide +kernel : decode (cd 49) 14 = .ok (.iload_n 2, 1)) rfl rfl

/- 50: Town.costToSettle -/
set_option maxRecDepth 10000 in
theorem e50 : (∀ (d : Nat) (x : Nat) (L : List Value) (M : Mem) (Q : Option Value → Mem → Prop), Wp d 50 0 (.ref x :: L) [] M Q ↔ Wp d 50 1 (.ref x :: L) [.ref x] M Q) ∧
    (∀ (d : Nat) (a : Nat) (L : List Value) (M : Mem) (Q : Option Value → Mem → Prop), Wp d 50 1 L [.ref a] M Q ↔ (isK a 9 = true ∧ Wp d 50 4 L [.ref (rt a 0)] M Q)) ∧
    (∀ (d : Nat) (a : Nat) (L : List Value) (M : Mem) (Q : Option Value → Mem → Prop), Wp d 50 4 L [.ref a] M Q ↔ (isK a 1 = true ∧ Wp d 50 7 L [.ref (rt a 3)] M Q)) ∧
    (∀ (d : Nat) (a : Nat) (v0 : Value) (x : Int32) (L : List Value) (M : Mem) (Q : Option Value → Mem → Prop), Wp d 50 7 (v0 :: .int x :: L) [.ref a] M Q ↔ Wp d 50 8 (v0 :: .int x :: L) [.int x, .ref a] M Q) ∧
    (∀ (d : Nat) (a : Int32) (b : Nat) (L : List Value) (M : Mem) (Q : Option Value → Mem → Prop), Wp d 50 8 L [.int a, .ref b] M Q ↔ ((isR b = true ∧ inr a (lnm M b)) ∧ Wp d 50 9 L [.int (M b a.toNatClampNeg)] M Q)) ∧
    (∀ (d : Nat) (a : Int32) (x : Nat) (L : List Value) (M : Mem) (Q : Option Value → Mem → Prop), Wp d 50 9 (.ref x :: L) [.int a] M Q ↔ Wp d 50 10 (.ref x :: L) [.ref x, .int a] M Q) ∧
    (∀ (d : Nat) (a : Nat) (b : Int32) (L : List Value) (M : Mem) (Q : Option Value → Mem → Prop), Wp d 50 10 L [.ref a, .int b] M Q ↔ (isK a 9 = true ∧ Wp d 50 13 L [.ref (rt a 0), .int b] M Q)) ∧
    (∀ (d : Nat) (a : Nat) (b : Int32) (x : Nat) (L : List Value) (M : Mem) (Q : Option Value → Mem → Prop), Wp d 50 13 (.ref x :: L) [.ref a, .int b] M Q ↔ Wp d 50 14 (.ref x :: L) [.ref x, .ref a, .int b] M Q) ∧
    (∀ (d : Nat) (a : Nat) (b : Nat) (c : Int32) (L : List Value) (M : Mem) (Q : Option Value → Mem → Prop), Wp d 50 14 L [.ref a, .ref b, .int c] M Q ↔ (isK a 9 = true ∧ Wp d 50 17 L [.ref (rt a 0), .ref b, .int c] M Q)) ∧
    (∀ (d : Nat) (a : Nat) (b : Nat) (c : Int32) (L : List Value) (M : Mem) (Q : Option Value → Mem → Prop), Wp d 50 17 L [.ref a, .ref b, .int c] M Q ↔ (isK a 1 = true ∧ Wp d 50 20 L [.ref (rt a 2), .ref b, .int c] M Q)) ∧
    (∀ (d : Nat) (a : Nat) (b : Nat) (c : Int32) (v0 : Value) (x : Int32) (L : List Value) (M : Mem) (Q : Option Value → Mem → Prop), Wp d 50 20 (v0 :: .int x :: L) [.ref a, .ref b, .int c] M Q ↔ Wp d 50 21 (v0 :: .int x :: L) [.int x, .ref a, .ref b, .int c] M Q) ∧
    (∀ (d : Nat) (a : Int32) (b : Nat) (c : Nat) (d2 : Int32) (L : List Value) (M : Mem) (Q : Option Value → Mem → Prop), Wp d 50 21 L [.int a, .ref b, .ref c, .int d2] M Q ↔ ((isR b = true ∧ inr a (lnm M b)) ∧ Wp d 50 22 L [.int (M b a.toNatClampNeg), .ref c, .int d2] M Q)) ∧
    (∀ (d : Nat) (a : Int32) (b : Nat) (c : Int32) (v0 : Value) (v1 : Value) (x : Int32) (L : List Value) (M : Mem) (Q : Option Value → Mem → Prop), Wp d 50 22 (v0 :: v1 :: .int x :: L) [.int a, .ref b, .int c] M Q ↔ Wp d 50 23 (v0 :: v1 :: .int x :: L) [.int x, .int a, .ref b, .int c] M Q) ∧
    (∀ (d : Nat) (a : Int32) (b : Int32) (c : Nat) (d2 : Int32) (L : List Value) (M : Mem) (Q : Option Value → Mem → Prop), Wp (d + 1) 50 23 L [.int a, .int b, .ref c, .int d2] M Q ↔ (isK c 1 = true ∧ Wp d 6 0 [.ref c, .int b, .int a, .null] [] M (fun r M2 => Wp (d + 1) 50 26 L (r.toList ++ [.int d2]) M2 Q))) ∧
    (∀ (d : Nat) (a : Int32) (b : Int32) (L : List Value) (M : Mem) (Q : Option Value → Mem → Prop), Wp d 50 26 L [.int a, .int b] M Q ↔ Wp d 50 27 L [.int (b * a)] M Q) ∧
    (∀ (d : Nat) (a : Int32) (v0 : Value) (v1 : Value) (v2 : Value) (x : Value) (L : List Value) (M : Mem) (Q : Option Value → Mem → Prop), Wp d 50 27 (v0 :: v1 :: v2 :: x :: L) [.int a] M Q ↔ Wp d 50 28 (v0 :: v1 :: clr v2 :: .int a :: L) [] M Q) ∧
    (∀ (d : Nat) (v0 : Value) (v1 : Value) (v2 : Value) (x : Int32) (L : List Value) (M : Mem) (Q : Option Value → Mem → Prop), Wp d 50 28 (v0 :: v1 :: v2 :: .int x :: L) [] M Q ↔ Wp d 50 29 (v0 :: v1 :: v2 :: .int x :: L) [.int x] M Q) ∧
    (∀ (d : Nat) (a : Int32) (L : List Value) (M : Mem) (Q : Option Value → Mem → Prop), Wp d 50 29 L [.int a] M Q ↔ Wp d 50 31 L [.int 99, .int a] M Q) ∧
    (∀ (d : Nat) (a : Int32) (b : Int32) (L : List Value) (M : Mem) (Q : Option Value → Mem → Prop), Wp d 50 31 L [.int a, .int b] M Q ↔ Wp d 50 32 L [.int (b + a)] M Q) ∧
    (∀ (d : Nat) (a : Int32) (L : List Value) (M : Mem) (Q : Option Value → Mem → Prop), Wp d 50 32 L [.int a] M Q ↔ Wp d 50 34 L [.int 100, .int a] M Q) ∧
    (∀ (d : Nat) (a : Int32) (b : Int32) (L : List Value) (M : Mem) (Q : Option Value → Mem → Prop), Wp d 50 34 L [.int a, .int b] M Q ↔ (¬ a = 0 ∧ Wp d 50 35 L [.int (b / a)] M Q)) ∧
    (∀ (d : Nat) (a : Int32) (L : List Value) (M : Mem) (Q : Option Value → Mem → Prop), Wp d 50 35 L [.int a] M Q ↔ Q (some (.int a)) M) := by
  refine ⟨?_, ?_, ?_, ?_, ?_, ?_, ?_, ?_, ?_, ?_, ?_, ?_, ?_, ?_, ?_, ?_, ?_, ?_, ?_, ?_, ?_, ?_⟩
  · intro d x L M Q; exact Wp_sim (by decide +kernel : decode (cd 50) 0 = .ok (.aload_n 0, 1)) rfl rfl
  · intro d a L M Q; exact q_getR (p := 196) (by decide +kernel : decode (cd 50) 1 = .ok (.getfield 12, 3)) (by decide +kernel) (by decide +kernel)
  · intro d a L M Q; exact q_getR (p := 74) (by decide +kernel : decode (cd 50) 4 = .ok (.getfield 52, 3)) (by decide +kernel) (by decide +kernel)
  · intro d a v0 x L M Q; exact Wp_sim (by decide +kernel : decode (cd 50) 7 = .ok (.iload_n 1, 1)) rfl rfl
  · intro d a b L M Q; exact q_ald (by decide +kernel : decode (cd 50) 8 = .ok (.iaload , 1))
  · intro d a x L M Q; exact Wp_sim (by decide +kernel : decode (cd 50) 9 = .ok (.aload_n 0, 1)) rfl rfl
  · intro d a b L M Q; exact q_getR (p := 196) (by decide +kernel : decode (cd 50) 10 = .ok (.getfield 12, 3)) (by decide +kernel) (by decide +kernel)
  · intro d a b x L M Q; exact Wp_sim (by decide +kernel : decode (cd 50) 13 = .ok (.aload_n 0, 1)) rfl rfl
  · intro d a b c L M Q; exact q_getR (p := 196) (by decide +kernel : decode (cd 50) 14 = .ok (.getfield 12, 3)) (by decide +kernel) (by decide +kernel)
  · intro d a b c L M Q; exact q_getR (p := 71) (by decide +kernel : decode (cd 50) 17 = .ok (.getfield 55, 3)) (by decide +kernel) (by decide +kernel)
  · intro d a b c v0 x L M Q; exact Wp_sim (by decide +kernel : decode (cd 50) 20 = .ok (.iload_n 1, 1)) rfl rfl
  · intro d a b c d2 L M Q; exact q_ald (by decide +kernel : decode (cd 50) 21 = .ok (.iaload , 1))
  · intro d a b c v0 v1 x L M Q; exact Wp_sim (by decide +kernel : decode (cd 50) 22 = .ok (.iload_n 2, 1)) rfl rfl
  · intro d a b c d2 L M Q; exact q_invV (pz := 524) (n := 2) (c := 1) (m := 4) (k := c) (As := [.int b, .int a]) (rest := [.int d2]) (by decide +kernel : decode (cd 50) 23 = .ok (.invokevirtual 58, 3)) (by decide +kernel) (by decide +kernel) rfl rfl (Nat.le_of_ble_eq_true rfl) (Nat.le_of_ble_eq_true rfl) rfl
  · intro d a b L M Q; exact Wp_sim (by decide +kernel : decode (cd 50) 26 = .ok (.imul , 1)) rfl rfl
  · intro d a v0 v1 v2 x L M Q; exact Wp_sim (by decide +kernel : decode (cd 50) 27 = .ok (.istore_n 3, 1)) rfl rfl
  · intro d v0 v1 v2 x L M Q; exact Wp_sim (by decide +kernel : decode (cd 50) 28 = .ok (.iload_n 3, 1)) rfl rfl
  · intro d a L M Q; exact Wp_sim (by decide +kernel : decode (cd 50) 29 = .ok (.bipush 99, 2)) rfl rfl
  · intro d a b L M Q; exact Wp_sim (by decide +kernel : decode (cd 50) 31 = .ok (.iadd , 1)) rfl rfl
  · intro d a L M Q; exact Wp_sim (by decide +kernel : decode (cd 50) 32 = .ok (.bipush 100, 2)) rfl rfl
  · intro d a b L M Q; exact q_idiv (by decide +kernel : decode (cd 50) 34 = .ok (.idiv , 1))
  · intro d a L M Q; exact q_iret (by decide +kernel : decode (cd 50) 35 = .ok (.ireturn , 1)) (by decide +kernel)

/- 51: Town.passWeek -/
set_option maxRecDepth 10000 in
theorem e51 : (∀ (d : Nat) (L : List Value) (M : Mem) (Q : Option Value → Mem → Prop), Wp d 51 0 L [] M Q ↔ Wp d 51 1 L [.int 0] M Q) ∧
    (∀ (d : Nat) (a : Int32) (v0 : Value) (x : Value) (L : List Value) (M : Mem) (Q : Option Value → Mem → Prop), Wp d 51 1 (v0 :: x :: L) [.int a] M Q ↔ Wp d 51 2 (clr v0 :: .int a :: L) [] M Q) ∧
    (∀ (d : Nat) (a : Int32) (x : Nat) (L : List Value) (M : Mem) (Q : Option Value → Mem → Prop), Wp d 51 3 (.ref x :: L) [.int a] M Q ↔ Wp d 51 4 (.ref x :: L) [.ref x, .int a] M Q) ∧
    (∀ (d : Nat) (a : Nat) (b : Int32) (L : List Value) (M : Mem) (Q : Option Value → Mem → Prop), Wp d 51 4 L [.ref a, .int b] M Q ↔ (isK a 9 = true ∧ Wp d 51 7 L [.ref (rt a 0), .int b] M Q)) ∧
    (∀ (d : Nat) (a : Nat) (b : Int32) (L : List Value) (M : Mem) (Q : Option Value → Mem → Prop), Wp d 51 7 L [.ref a, .int b] M Q ↔ (isK a 1 = true ∧ Wp d 51 10 L [.int (M a 13), .int b] M Q)) ∧
    (∀ (d : Nat) (a : Int32) (b : Int32) (L : List Value) (M : Mem) (Q : Option Value → Mem → Prop), Wp d 51 10 L [.int a, .int b] M Q ↔ (if b < a then Wp d 51 13 L [] M Q else Wp d 51 32 L [] M Q)) ∧
    (∀ (d : Nat) (x : Nat) (L : List Value) (M : Mem) (Q : Option Value → Mem → Prop), Wp d 51 13 (.ref x :: L) [] M Q ↔ Wp d 51 14 (.ref x :: L) [.ref x] M Q) ∧
    (∀ (d : Nat) (a : Nat) (v0 : Value) (x : Int32) (L : List Value) (M : Mem) (Q : Option Value → Mem → Prop), Wp d 51 14 (v0 :: .int x :: L) [.ref a] M Q ↔ Wp d 51 15 (v0 :: .int x :: L) [.int x, .ref a] M Q) ∧
    (∀ (d : Nat) (a : Int32) (b : Nat) (L : List Value) (M : Mem) (Q : Option Value → Mem → Prop), Wp (d + 1) 51 15 L [.int a, .ref b] M Q ↔ (isK b 9 = true ∧ Wp d 52 0 [.ref b, .int a] [] M (fun r M2 => Wp (d + 1) 51 18 L (r.toList ++ []) M2 Q))) ∧
    (∀ (d : Nat) (a : Int32) (L : List Value) (M : Mem) (Q : Option Value → Mem → Prop), Wp d 51 18 L [.int a] M Q ↔ (if a = 0 then Wp d 51 26 L [] M Q else Wp d 51 21 L [] M Q)) ∧
    (∀ (d : Nat) (x : Nat) (L : List Value) (M : Mem) (Q : Option Value → Mem → Prop), Wp d 51 21 (.ref x :: L) [] M Q ↔ Wp d 51 22 (.ref x :: L) [.ref x] M Q) ∧
    (∀ (d : Nat) (a : Nat) (v0 : Value) (x : Int32) (L : List Value) (M : Mem) (Q : Option Value → Mem → Prop), Wp d 51 22 (v0 :: .int x :: L) [.ref a] M Q ↔ Wp d 51 23 (v0 :: .int x :: L) [.int x, .ref a] M Q) ∧
    (∀ (d : Nat) (a : Int32) (b : Nat) (L : List Value) (M : Mem) (Q : Option Value → Mem → Prop), Wp (d + 1) 51 23 L [.int a, .ref b] M Q ↔ (isK b 9 = true ∧ Wp d 53 0 [.ref b, .int a, .null] [] M (fun r M2 => Wp (d + 1) 51 26 L (r.toList ++ []) M2 Q))) ∧
    (∀ (d : Nat) (v0 : Value) (x : Int32) (L : List Value) (M : Mem) (Q : Option Value → Mem → Prop), Wp d 51 26 (v0 :: .int x :: L) [] M Q ↔ Wp d 51 29 (clr v0 :: .int (x + 1) :: L) [] M Q) ∧
    (∀ (d : Nat) (L : List Value) (M : Mem) (Q : Option Value → Mem → Prop), Wp d 51 29 L [] M Q ↔ Wp d 51 2 L [] M Q) ∧
    (∀ (d : Nat) (x : Nat) (L : List Value) (M : Mem) (Q : Option Value → Mem → Prop), Wp d 51 32 (.ref x :: L) [] M Q ↔ Wp d 51 33 (.ref x :: L) [.ref x] M Q) ∧
    (∀ (d : Nat) (a : Nat) (x : Nat) (L : List Value) (M : Mem) (Q : Option Value → Mem → Prop), Wp d 51 33 (.ref x :: L) [.ref a] M Q ↔ Wp d 51 34 (.ref x :: L) [.ref x, .ref a] M Q) ∧
    (∀ (d : Nat) (a : Nat) (b : Nat) (L : List Value) (M : Mem) (Q : Option Value → Mem → Prop), Wp (d + 1) 51 34 L [.ref a, .ref b] M Q ↔ (isK a 9 = true ∧ Wp d 43 0 [.ref a, .null, .null, .null, .null] [] M (fun r M2 => Wp (d + 1) 51 37 L (r.toList ++ [.ref b]) M2 Q))) ∧
    (∀ (d : Nat) (a : Int32) (b : Nat) (L : List Value) (M : Mem) (Q : Option Value → Mem → Prop), Wp (d + 1) 51 37 L [.int a, .ref b] M Q ↔ (isK b 9 = true ∧ Wp d 54 0 [.ref b, .int a, .null] [] M (fun r M2 => Wp (d + 1) 51 40 L (r.toList ++ []) M2 Q))) ∧
    (∀ (d : Nat) (L : List Value) (M : Mem) (Q : Option Value → Mem → Prop), Wp d 51 40 L [] M Q ↔ Wp d 51 41 L [.int 0] M Q) ∧
    (∀ (d : Nat) (a : Int32) (v0 : Value) (x : Value) (L : List Value) (M : Mem) (Q : Option Value → Mem → Prop), Wp d 51 41 (v0 :: x :: L) [.int a] M Q ↔ Wp d 51 42 (clr v0 :: .int a :: L) [] M Q) ∧
    (∀ (d : Nat) (a : Int32) (x : Nat) (L : List Value) (M : Mem) (Q : Option Value → Mem → Prop), Wp d 51 43 (.ref x :: L) [.int a] M Q ↔ Wp d 51 44 (.ref x :: L) [.ref x, .int a] M Q) ∧
    (∀ (d : Nat) (a : Nat) (b : Int32) (L : List Value) (M : Mem) (Q : Option Value → Mem → Prop), Wp d 51 44 L [.ref a, .int b] M Q ↔ (isK a 9 = true ∧ Wp d 51 47 L [.ref (rt a 0), .int b] M Q)) ∧
    (∀ (d : Nat) (a : Nat) (b : Int32) (L : List Value) (M : Mem) (Q : Option Value → Mem → Prop), Wp d 51 47 L [.ref a, .int b] M Q ↔ (isK a 1 = true ∧ Wp d 51 50 L [.int (M a 13), .int b] M Q)) ∧
    (∀ (d : Nat) (a : Int32) (b : Int32) (L : List Value) (M : Mem) (Q : Option Value → Mem → Prop), Wp d 51 50 L [.int a, .int b] M Q ↔ (if b < a then Wp d 51 53 L [] M Q else Wp d 51 94 L [] M Q)) ∧
    (∀ (d : Nat) (x : Nat) (L : List Value) (M : Mem) (Q : Option Value → Mem → Prop), Wp d 51 53 (.ref x :: L) [] M Q ↔ Wp d 51 54 (.ref x :: L) [.ref x] M Q) ∧
    (∀ (d : Nat) (a : Nat) (L : List Value) (M : Mem) (Q : Option Value → Mem → Prop), Wp d 51 54 L [.ref a] M Q ↔ (isK a 9 = true ∧ Wp d 51 57 L [.ref (rt a 1)] M Q)) ∧
    (∀ (d : Nat) (a : Nat) (L : List Value) (M : Mem) (Q : Option Value → Mem → Prop), Wp d 51 57 L [.ref a] M Q ↔ (isK a 6 = true ∧ Wp d 51 60 L [.ref (rt a 0)] M Q)) ∧
    (∀ (d : Nat) (a : Nat) (v0 : Value) (x : Int32) (L : List Value) (M : Mem) (Q : Option Value → Mem → Prop), Wp d 51 60 (v0 :: .int x :: L) [.ref a] M Q ↔ Wp d 51 61 (v0 :: .int x :: L) [.int x, .ref a] M Q) ∧
    (∀ (d : Nat) (a : Int32) (b : Nat) (L : List Value) (M : Mem) (Q : Option Value → Mem → Prop), Wp d 51 61 L [.int a, .ref b] M Q ↔ ((isR b = true ∧ inr a (lnm M b)) ∧ Wp d 51 62 L [.int (M b a.toNatClampNeg)] M Q)) ∧
    (∀ (d : Nat) (a : Int32) (L : List Value) (M : Mem) (Q : Option Value → Mem → Prop), Wp d 51 62 L [.int a] M Q ↔ Wp d 51 63 L [.int 1, .int a] M Q) ∧
    (∀ (d : Nat) (a : Int32) (b : Int32) (L : List Value) (M : Mem) (Q : Option Value → Mem → Prop), Wp d 51 63 L [.int a, .int b] M Q ↔ (if b = a then Wp d 51 66 L [] M Q else Wp d 51 88 L [] M Q)) ∧
    (∀ (d : Nat) (x : Nat) (L : List Value) (M : Mem) (Q : Option Value → Mem → Prop), Wp d 51 66 (.ref x :: L) [] M Q ↔ Wp d 51 67 (.ref x :: L) [.ref x] M Q) ∧
    (∀ (d : Nat) (a : Nat) (L : List Value) (M : Mem) (Q : Option Value → Mem → Prop), Wp d 51 67 L [.ref a] M Q ↔ (isK a 9 = true ∧ Wp d 51 70 L [.ref (rt a 1)] M Q)) ∧
    (∀ (d : Nat) (a : Nat) (L : List Value) (M : Mem) (Q : Option Value → Mem → Prop), Wp d 51 70 L [.ref a] M Q ↔ (isK a 6 = true ∧ Wp d 51 73 L [.ref (rt a 1)] M Q)) ∧
    (∀ (d : Nat) (a : Nat) (v0 : Value) (x : Int32) (L : List Value) (M : Mem) (Q : Option Value → Mem → Prop), Wp d 51 73 (v0 :: .int x :: L) [.ref a] M Q ↔ Wp d 51 74 (v0 :: .int x :: L) [.int x, .ref a] M Q) ∧
    (∀ (d : Nat) (a : Int32) (b : Nat) (L : List Value) (M : Mem) (Q : Option Value → Mem → Prop), Wp d 51 74 L [.int a, .ref b] M Q ↔ ((isR b = true ∧ inr a (lnm M b)) ∧ Wp d 51 75 L [.int (M b a.toNatClampNeg)] M Q)) ∧
    (∀ (d : Nat) (a : Int32) (L : List Value) (M : Mem) (Q : Option Value → Mem → Prop), Wp d 51 75 L [.int a] M Q ↔ (if a < 0 then Wp d 51 78 L [] M Q else Wp d 51 88 L [] M Q)) ∧
    (∀ (d : Nat) (x : Nat) (L : List Value) (M : Mem) (Q : Option Value → Mem → Prop), Wp d 51 78 (.ref x :: L) [] M Q ↔ Wp d 51 79 (.ref x :: L) [.ref x] M Q) ∧
    (∀ (d : Nat) (a : Nat) (L : List Value) (M : Mem) (Q : Option Value → Mem → Prop), Wp d 51 79 L [.ref a] M Q ↔ (isK a 9 = true ∧ Wp d 51 82 L [.ref (rt a 1)] M Q)) ∧
    (∀ (d : Nat) (a : Nat) (L : List Value) (M : Mem) (Q : Option Value → Mem → Prop), Wp d 51 82 L [.ref a] M Q ↔ (isK a 6 = true ∧ Wp d 51 85 L [.ref (rt a 0)] M Q)) ∧
    (∀ (d : Nat) (a : Nat) (v0 : Value) (x : Int32) (L : List Value) (M : Mem) (Q : Option Value → Mem → Prop), Wp d 51 85 (v0 :: .int x :: L) [.ref a] M Q ↔ Wp d 51 86 (v0 :: .int x :: L) [.int x, .ref a] M Q) ∧
    (∀ (d : Nat) (a : Int32) (b : Nat) (L : List Value) (M : Mem) (Q : Option Value → Mem → Prop), Wp d 51 86 L [.int a, .ref b] M Q ↔ Wp d 51 87 L [.int 0, .int a, .ref b] M Q) ∧
    (∀ (d : Nat) (a : Int32) (b : Int32) (c : Nat) (L : List Value) (M : Mem) (Q : Option Value → Mem → Prop), Wp d 51 87 L [.int a, .int b, .ref c] M Q ↔ ((isK c 13 = true ∧ inr b (lnm M c)) ∧ Wp d 51 88 L [] (up2 M c b.toNatClampNeg a) Q)) ∧
    (∀ (d : Nat) (v0 : Value) (x : Int32) (L : List Value) (M : Mem) (Q : Option Value → Mem → Prop), Wp d 51 88 (v0 :: .int x :: L) [] M Q ↔ Wp d 51 91 (clr v0 :: .int (x + 1) :: L) [] M Q) ∧
    (∀ (d : Nat) (L : List Value) (M : Mem) (Q : Option Value → Mem → Prop), Wp d 51 91 L [] M Q ↔ Wp d 51 42 L [] M Q) ∧
    (∀ (d : Nat) (x : Nat) (L : List Value) (M : Mem) (Q : Option Value → Mem → Prop), Wp d 51 94 (.ref x :: L) [] M Q ↔ Wp d 51 95 (.ref x :: L) [.ref x] M Q) ∧
    (∀ (d : Nat) (a : Nat) (L : List Value) (M : Mem) (Q : Option Value → Mem → Prop), Wp d 51 95 L [.ref a] M Q ↔ (isK a 9 = true ∧ Wp d 51 98 L [.ref (rt a 1)] M Q)) ∧
    (∀ (d : Nat) (a : Nat) (L : List Value) (M : Mem) (Q : Option Value → Mem → Prop), Wp d 51 98 L [.ref a] M Q ↔ Wp d 51 99 L [.ref a, .ref a] M Q) ∧
    (∀ (d : Nat) (a : Nat) (b : Nat) (L : List Value) (M : Mem) (Q : Option Value → Mem → Prop), Wp d 51 99 L [.ref a, .ref b] M Q ↔ (isK a 6 = true ∧ Wp d 51 102 L [.int (M a 3), .ref b] M Q)) ∧
    (∀ (d : Nat) (a : Int32) (b : Nat) (L : List Value) (M : Mem) (Q : Option Value → Mem → Prop), Wp d 51 102 L [.int a, .ref b] M Q ↔ Wp d 51 103 L [.int 1, .int a, .ref b] M Q) ∧
    (∀ (d : Nat) (a : Int32) (b : Int32) (c : Nat) (L : List Value) (M : Mem) (Q : Option Value → Mem → Prop), Wp d 51 103 L [.int a, .int b, .ref c] M Q ↔ Wp d 51 104 L [.int (b + a), .ref c] M Q) ∧
    (∀ (d : Nat) (a : Int32) (b : Nat) (L : List Value) (M : Mem) (Q : Option Value → Mem → Prop), Wp d 51 104 L [.int a, .ref b] M Q ↔ (isK b 6 = true ∧ Wp d 51 107 L [] (up2 M b 3 a) Q)) ∧
    (∀ (d : Nat) (L : List Value) (M : Mem) (Q : Option Value → Mem → Prop), Wp d 51 107 L [] M Q ↔ Q none M) := by
  refine ⟨?_, ?_, ?_, ?_, ?_, ?_, ?_, ?_, ?_, ?_, ?_, ?_, ?_, ?_, ?_, ?_, ?_, ?_, ?_, ?_, ?_, ?_, ?_, ?_, ?_, ?_, ?_, ?_, ?_, ?_, ?_, ?_, ?_, ?_, ?_, ?_, ?_, ?_, ?_, ?_, ?_, ?_, ?_, ?_, ?_, ?_, ?_, ?_, ?_, ?_, ?_, ?_, ?_, ?_⟩
  · intro d L M Q; exact Wp_sim (by decide +kernel : decode (cd 51) 0 = .ok (.iconst 0, 1)) rfl rfl
  · intro d a v0 x L M Q; exact Wp_sim (by decide +kernel : decode (cd 51) 1 = .ok (.istore_n 1, 1)) rfl rfl
  · intro d a x L M Q; exact Wp_sim (by decide +kernel : decode (cd 51) 3 = .ok (.aload_n 0, 1)) rfl rfl
  · intro d a b L M Q; exact q_getR (p := 196) (by decide +kernel : decode (cd 51) 4 = .ok (.getfield 12, 3)) (by decide +kernel) (by decide +kernel)
  · intro d a b L M Q; exact q_getI (p := 103) (by decide +kernel : decode (cd 51) 7 = .ok (.getfield 32, 3)) (by decide +kernel) (by decide +kernel)
  · intro d a b L M Q; exact q_ige (by decide +kernel : decode (cd 51) 10 = .ok (.if_icmp .ge 22, 3)) (by decide)
  · intro d x L M Q; exact Wp_sim (by decide +kernel : decode (cd 51) 13 = .ok (.aload_n 0, 1)) rfl rfl
  · intro d a v0 x L M Q; exact Wp_sim (by decide +kernel : decode (cd 51) 14 = .ok (.iload_n 1, 1)) rfl rfl
  · intro d a b L M Q; exact q_invV (pz := 562) (n := 1) (c := 9) (m := 2) (k := b) (As := [.int a]) (rest := []) (by decide +kernel : decode (cd 51) 15 = .ok (.invokevirtual 62, 3)) (by decide +kernel) (by decide +kernel) rfl rfl (Nat.le_of_ble_eq_true rfl) (Nat.le_of_ble_eq_true rfl) rfl
  · intro d a L M Q; exact q_zeq (by decide +kernel : decode (cd 51) 18 = .ok (.ifCond .eq 8, 3)) (by decide)
  · intro d x L M Q; exact Wp_sim (by decide +kernel : decode (cd 51) 21 = .ok (.aload_n 0, 1)) rfl rfl
  · intro d a v0 x L M Q; exact Wp_sim (by decide +kernel : decode (cd 51) 22 = .ok (.iload_n 1, 1)) rfl rfl
  · intro d a b L M Q; exact q_invV (pz := 566) (n := 1) (c := 9) (m := 3) (k := b) (As := [.int a]) (rest := []) (by decide +kernel : decode (cd 51) 23 = .ok (.invokevirtual 114, 3)) (by decide +kernel) (by decide +kernel) rfl rfl (Nat.le_of_ble_eq_true rfl) (Nat.le_of_ble_eq_true rfl) rfl
  · intro d v0 x L M Q; exact Wp_sim (by decide +kernel : decode (cd 51) 26 = .ok (.iinc 1 1, 3)) rfl rfl
  · intro d L M Q; exact q_goto (by decide +kernel : decode (cd 51) 29 = .ok (.goto (-27), 3)) (by decide)
  · intro d x L M Q; exact Wp_sim (by decide +kernel : decode (cd 51) 32 = .ok (.aload_n 0, 1)) rfl rfl
  · intro d a x L M Q; exact Wp_sim (by decide +kernel : decode (cd 51) 33 = .ok (.aload_n 0, 1)) rfl rfl
  · intro d a b L M Q; exact q_invV (pz := 571) (n := 0) (c := 9) (m := 5) (k := a) (As := []) (rest := [.ref b]) (by decide +kernel : decode (cd 51) 34 = .ok (.invokevirtual 118, 3)) (by decide +kernel) (by decide +kernel) rfl rfl (Nat.le_of_ble_eq_true rfl) (Nat.le_of_ble_eq_true rfl) rfl
  · intro d a b L M Q; exact q_invV (pz := 572) (n := 1) (c := 9) (m := 3) (k := b) (As := [.int a]) (rest := []) (by decide +kernel : decode (cd 51) 37 = .ok (.invokevirtual 122, 3)) (by decide +kernel) (by decide +kernel) rfl rfl (Nat.le_of_ble_eq_true rfl) (Nat.le_of_ble_eq_true rfl) rfl
  · intro d L M Q; exact Wp_sim (by decide +kernel : decode (cd 51) 40 = .ok (.iconst 0, 1)) rfl rfl
  · intro d a v0 x L M Q; exact Wp_sim (by decide +kernel : decode (cd 51) 41 = .ok (.istore_n 1, 1)) rfl rfl
  · intro d a x L M Q; exact Wp_sim (by decide +kernel : decode (cd 51) 43 = .ok (.aload_n 0, 1)) rfl rfl
  · intro d a b L M Q; exact q_getR (p := 196) (by decide +kernel : decode (cd 51) 44 = .ok (.getfield 12, 3)) (by decide +kernel) (by decide +kernel)
  · intro d a b L M Q; exact q_getI (p := 103) (by decide +kernel : decode (cd 51) 47 = .ok (.getfield 32, 3)) (by decide +kernel) (by decide +kernel)
  · intro d a b L M Q; exact q_ige (by decide +kernel : decode (cd 51) 50 = .ok (.if_icmp .ge 44, 3)) (by decide)
  · intro d x L M Q; exact Wp_sim (by decide +kernel : decode (cd 51) 53 = .ok (.aload_n 0, 1)) rfl rfl
  · intro d a L M Q; exact q_getR (p := 198) (by decide +kernel : decode (cd 51) 54 = .ok (.getfield 21, 3)) (by decide +kernel) (by decide +kernel)
  · intro d a L M Q; exact q_getR (p := 165) (by decide +kernel : decode (cd 51) 57 = .ok (.getfield 36, 3)) (by decide +kernel) (by decide +kernel)
  · intro d a v0 x L M Q; exact Wp_sim (by decide +kernel : decode (cd 51) 60 = .ok (.iload_n 1, 1)) rfl rfl
  · intro d a b L M Q; exact q_ald (by decide +kernel : decode (cd 51) 61 = .ok (.iaload , 1))
  · intro d a L M Q; exact Wp_sim (by decide +kernel : decode (cd 51) 62 = .ok (.iconst 1, 1)) rfl rfl
  · intro d a b L M Q; exact q_ine (by decide +kernel : decode (cd 51) 63 = .ok (.if_icmp .ne 25, 3)) (by decide)
  · intro d x L M Q; exact Wp_sim (by decide +kernel : decode (cd 51) 66 = .ok (.aload_n 0, 1)) rfl rfl
  · intro d a L M Q; exact q_getR (p := 198) (by decide +kernel : decode (cd 51) 67 = .ok (.getfield 21, 3)) (by decide +kernel) (by decide +kernel)
  · intro d a L M Q; exact q_getR (p := 169) (by decide +kernel : decode (cd 51) 70 = .ok (.getfield 66, 3)) (by decide +kernel) (by decide +kernel)
  · intro d a v0 x L M Q; exact Wp_sim (by decide +kernel : decode (cd 51) 73 = .ok (.iload_n 1, 1)) rfl rfl
  · intro d a b L M Q; exact q_ald (by decide +kernel : decode (cd 51) 74 = .ok (.iaload , 1))
  · intro d a L M Q; exact q_zge (by decide +kernel : decode (cd 51) 75 = .ok (.ifCond .ge 13, 3)) (by decide)
  · intro d x L M Q; exact Wp_sim (by decide +kernel : decode (cd 51) 78 = .ok (.aload_n 0, 1)) rfl rfl
  · intro d a L M Q; exact q_getR (p := 198) (by decide +kernel : decode (cd 51) 79 = .ok (.getfield 21, 3)) (by decide +kernel) (by decide +kernel)
  · intro d a L M Q; exact q_getR (p := 165) (by decide +kernel : decode (cd 51) 82 = .ok (.getfield 36, 3)) (by decide +kernel) (by decide +kernel)
  · intro d a v0 x L M Q; exact Wp_sim (by decide +kernel : decode (cd 51) 85 = .ok (.iload_n 1, 1)) rfl rfl
  · intro d a b L M Q; exact Wp_sim (by decide +kernel : decode (cd 51) 86 = .ok (.iconst 0, 1)) rfl rfl
  · intro d a b c L M Q; exact q_ast (by decide +kernel : decode (cd 51) 87 = .ok (.iastore , 1))
  · intro d v0 x L M Q; exact Wp_sim (by decide +kernel : decode (cd 51) 88 = .ok (.iinc 1 1, 3)) rfl rfl
  · intro d L M Q; exact q_goto (by decide +kernel : decode (cd 51) 91 = .ok (.goto (-49), 3)) (by decide)
  · intro d x L M Q; exact Wp_sim (by decide +kernel : decode (cd 51) 94 = .ok (.aload_n 0, 1)) rfl rfl
  · intro d a L M Q; exact q_getR (p := 198) (by decide +kernel : decode (cd 51) 95 = .ok (.getfield 21, 3)) (by decide +kernel) (by decide +kernel)
  · intro d a L M Q; exact Wp_sim (by decide +kernel : decode (cd 51) 98 = .ok (.dup , 1)) rfl rfl
  · intro d a b L M Q; exact q_getI (p := 176) (by decide +kernel : decode (cd 51) 99 = .ok (.getfield 69, 3)) (by decide +kernel) (by decide +kernel)
  · intro d a b L M Q; exact Wp_sim (by decide +kernel : decode (cd 51) 102 = .ok (.iconst 1, 1)) rfl rfl
  · intro d a b c L M Q; exact Wp_sim (by decide +kernel : decode (cd 51) 103 = .ok (.iadd , 1)) rfl rfl
  · intro d a b L M Q; exact q_putI (p := 176) (by decide +kernel : decode (cd 51) 104 = .ok (.putfield 69, 3)) (by decide +kernel) (by decide +kernel)
  · intro d L M Q; exact q_vret (by decide +kernel : decode (cd 51) 107 = .ok (.return_ , 1)) (by decide +kernel)
theorem h51_2 : (∀ (d : Nat) (v0 : Value) (x : Int32) (L : List Value) (M : Mem) (Q : Option Value → Mem → Prop), Wp d 51 2 (v0 :: .int x :: L) [] M Q ↔ Wp d 51 3 (v0 :: .int x :: L) [.int x] M Q) := by
  intro d v0 x L M Q; exact Wp_sim (by decide +kernel : decode (cd 51) 2 = .ok (.iload_n 1, 1)) rfl rfl
theorem h51_42 : (∀ (d : Nat) (v0 : Value) (x : Int32) (L : List Value) (M : Mem) (Q : Option Value → Mem → Prop), Wp d 51 42 (v0 :: .int x :: L) [] M Q ↔ Wp d 51 43 (v0 :: .int x :: L) [.int x] M Q) := by
  intro d v0 x L M Q; exact Wp_sim (by decide +kernel : decode (cd 51) 42 = .ok (.iload_n 1, 1)) rfl rfl

/- 52: Town.isAbout -/
set_option maxRecDepth 10000 in
theorem e52 : (∀ (d : Nat) (x : Nat) (L : List Value) (M : Mem) (Q : Option Value → Mem → Prop), Wp d 52 0 (.ref x :: L) [] M Q ↔ Wp d 52 1 (.ref x :: L) [.ref x] M Q) ∧
    (∀ (d : Nat) (a : Nat) (L : List Value) (M : Mem) (Q : Option Value → Mem → Prop), Wp d 52 1 L [.ref a] M Q ↔ (isK a 9 = true ∧ Wp d 52 4 L [.ref (rt a 1)] M Q)) ∧
    (∀ (d : Nat) (a : Nat) (L : List Value) (M : Mem) (Q : Option Value → Mem → Prop), Wp d 52 4 L [.ref a] M Q ↔ (isK a 6 = true ∧ Wp d 52 7 L [.ref (rt a 0)] M Q)) ∧
    (∀ (d : Nat) (a : Nat) (v0 : Value) (x : Int32) (L : List Value) (M : Mem) (Q : Option Value → Mem → Prop), Wp d 52 7 (v0 :: .int x :: L) [.ref a] M Q ↔ Wp d 52 8 (v0 :: .int x :: L) [.int x, .ref a] M Q) ∧
    (∀ (d : Nat) (a : Int32) (b : Nat) (L : List Value) (M : Mem) (Q : Option Value → Mem → Prop), Wp d 52 8 L [.int a, .ref b] M Q ↔ ((isR b = true ∧ inr a (lnm M b)) ∧ Wp d 52 9 L [.int (M b a.toNatClampNeg)] M Q)) ∧
    (∀ (d : Nat) (a : Int32) (L : List Value) (M : Mem) (Q : Option Value → Mem → Prop), Wp d 52 9 L [.int a] M Q ↔ Wp d 52 10 L [.int 1, .int a] M Q) ∧
    (∀ (d : Nat) (a : Int32) (b : Int32) (L : List Value) (M : Mem) (Q : Option Value → Mem → Prop), Wp d 52 10 L [.int a, .int b] M Q ↔ (if b = a then Wp d 52 25 L [] M Q else Wp d 52 13 L [] M Q)) ∧
    (∀ (d : Nat) (x : Nat) (L : List Value) (M : Mem) (Q : Option Value → Mem → Prop), Wp d 52 13 (.ref x :: L) [] M Q ↔ Wp d 52 14 (.ref x :: L) [.ref x] M Q) ∧
    (∀ (d : Nat) (a : Nat) (L : List Value) (M : Mem) (Q : Option Value → Mem → Prop), Wp d 52 14 L [.ref a] M Q ↔ (isK a 9 = true ∧ Wp d 52 17 L [.ref (rt a 1)] M Q)) ∧
    (∀ (d : Nat) (a : Nat) (L : List Value) (M : Mem) (Q : Option Value → Mem → Prop), Wp d 52 17 L [.ref a] M Q ↔ (isK a 6 = true ∧ Wp d 52 20 L [.ref (rt a 0)] M Q)) ∧
    (∀ (d : Nat) (a : Nat) (v0 : Value) (x : Int32) (L : List Value) (M : Mem) (Q : Option Value → Mem → Prop), Wp d 52 20 (v0 :: .int x :: L) [.ref a] M Q ↔ Wp d 52 21 (v0 :: .int x :: L) [.int x, .ref a] M Q) ∧
    (∀ (d : Nat) (a : Int32) (b : Nat) (L : List Value) (M : Mem) (Q : Option Value → Mem → Prop), Wp d 52 21 L [.int a, .ref b] M Q ↔ ((isR b = true ∧ inr a (lnm M b)) ∧ Wp d 52 22 L [.int (M b a.toNatClampNeg)] M Q)) ∧
    (∀ (d : Nat) (a : Int32) (L : List Value) (M : Mem) (Q : Option Value → Mem → Prop), Wp d 52 22 L [.int a] M Q ↔ (if a = 0 then Wp d 52 25 L [] M Q else Wp d 52 29 L [] M Q)) ∧
    (∀ (d : Nat) (L : List Value) (M : Mem) (Q : Option Value → Mem → Prop), Wp d 52 25 L [] M Q ↔ Wp d 52 26 L [.int 1] M Q) ∧
    (∀ (d : Nat) (a : Int32) (L : List Value) (M : Mem) (Q : Option Value → Mem → Prop), Wp d 52 26 L [.int a] M Q ↔ Wp d 52 30 L [.int a] M Q) ∧
    (∀ (d : Nat) (L : List Value) (M : Mem) (Q : Option Value → Mem → Prop), Wp d 52 29 L [] M Q ↔ Wp d 52 30 L [.int 0] M Q) ∧
    (∀ (d : Nat) (a : Int32) (L : List Value) (M : Mem) (Q : Option Value → Mem → Prop), Wp d 52 30 L [.int a] M Q ↔ ((a = 0 ∨ a = 1) ∧ Q (some (.int a)) M)) := by
  refine ⟨?_, ?_, ?_, ?_, ?_, ?_, ?_, ?_, ?_, ?_, ?_, ?_, ?_, ?_, ?_, ?_, ?_⟩
  · intro d x L M Q; exact Wp_sim (by decide +kernel : decode (cd 52) 0 = .ok (.aload_n 0, 1)) rfl rfl
  · intro d a L M Q; exact q_getR (p := 198) (by decide +kernel : decode (cd 52) 1 = .ok (.getfield 21, 3)) (by decide +kernel) (by decide +kernel)
  · intro d a L M Q; exact q_getR (p := 165) (by decide +kernel : decode (cd 52) 4 = .ok (.getfield 36, 3)) (by decide +kernel) (by decide +kernel)
  · intro d a v0 x L M Q; exact Wp_sim (by decide +kernel : decode (cd 52) 7 = .ok (.iload_n 1, 1)) rfl rfl
  · intro d a b L M Q; exact q_ald (by decide +kernel : decode (cd 52) 8 = .ok (.iaload , 1))
  · intro d a L M Q; exact Wp_sim (by decide +kernel : decode (cd 52) 9 = .ok (.iconst 1, 1)) rfl rfl
  · intro d a b L M Q; exact q_ieq (by decide +kernel : decode (cd 52) 10 = .ok (.if_icmp .eq 15, 3)) (by decide)
  · intro d x L M Q; exact Wp_sim (by decide +kernel : decode (cd 52) 13 = .ok (.aload_n 0, 1)) rfl rfl
  · intro d a L M Q; exact q_getR (p := 198) (by decide +kernel : decode (cd 52) 14 = .ok (.getfield 21, 3)) (by decide +kernel) (by decide +kernel)
  · intro d a L M Q; exact q_getR (p := 165) (by decide +kernel : decode (cd 52) 17 = .ok (.getfield 36, 3)) (by decide +kernel) (by decide +kernel)
  · intro d a v0 x L M Q; exact Wp_sim (by decide +kernel : decode (cd 52) 20 = .ok (.iload_n 1, 1)) rfl rfl
  · intro d a b L M Q; exact q_ald (by decide +kernel : decode (cd 52) 21 = .ok (.iaload , 1))
  · intro d a L M Q; exact q_zne (by decide +kernel : decode (cd 52) 22 = .ok (.ifCond .ne 7, 3)) (by decide)
  · intro d L M Q; exact Wp_sim (by decide +kernel : decode (cd 52) 25 = .ok (.iconst 1, 1)) rfl rfl
  · intro d a L M Q; exact q_goto (by decide +kernel : decode (cd 52) 26 = .ok (.goto 4, 3)) (by decide)
  · intro d L M Q; exact Wp_sim (by decide +kernel : decode (cd 52) 29 = .ok (.iconst 0, 1)) rfl rfl
  · intro d a L M Q; exact q_zret (by decide +kernel : decode (cd 52) 30 = .ok (.ireturn , 1)) (by decide +kernel)

/- 53: Town.takeAndPay -/
set_option maxRecDepth 10000 in
theorem e53 : (∀ (d : Nat) (x : Nat) (L : List Value) (M : Mem) (Q : Option Value → Mem → Prop), Wp d 53 0 (.ref x :: L) [] M Q ↔ Wp d 53 1 (.ref x :: L) [.ref x] M Q) ∧
    (∀ (d : Nat) (a : Nat) (L : List Value) (M : Mem) (Q : Option Value → Mem → Prop), Wp d 53 1 L [.ref a] M Q ↔ (isK a 9 = true ∧ Wp d 53 4 L [.ref (rt a 1)] M Q)) ∧
    (∀ (d : Nat) (a : Nat) (L : List Value) (M : Mem) (Q : Option Value → Mem → Prop), Wp d 53 4 L [.ref a] M Q ↔ (isK a 6 = true ∧ Wp d 53 7 L [.ref (rt a 0)] M Q)) ∧
    (∀ (d : Nat) (a : Nat) (v0 : Value) (x : Int32) (L : List Value) (M : Mem) (Q : Option Value → Mem → Prop), Wp d 53 7 (v0 :: .int x :: L) [.ref a] M Q ↔ Wp d 53 8 (v0 :: .int x :: L) [.int x, .ref a] M Q) ∧
    (∀ (d : Nat) (a : Int32) (b : Nat) (L : List Value) (M : Mem) (Q : Option Value → Mem → Prop), Wp d 53 8 L [.int a, .ref b] M Q ↔ ((isR b = true ∧ inr a (lnm M b)) ∧ Wp d 53 9 L [.int (M b a.toNatClampNeg)] M Q)) ∧
    (∀ (d : Nat) (a : Int32) (L : List Value) (M : Mem) (Q : Option Value → Mem → Prop), Wp d 53 9 L [.int a] M Q ↔ Wp d 53 10 L [.int 1, .int a] M Q) ∧
    (∀ (d : Nat) (a : Int32) (b : Int32) (L : List Value) (M : Mem) (Q : Option Value → Mem → Prop), Wp d 53 10 L [.int a, .int b] M Q ↔ (if b = a then Wp d 53 13 L [] M Q else Wp d 53 17 L [] M Q)) ∧
    (∀ (d : Nat) (L : List Value) (M : Mem) (Q : Option Value → Mem → Prop), Wp d 53 13 L [] M Q ↔ Wp d 53 14 L [.int 1] M Q) ∧
    (∀ (d : Nat) (a : Int32) (L : List Value) (M : Mem) (Q : Option Value → Mem → Prop), Wp d 53 14 L [.int a] M Q ↔ Wp d 53 18 L [.int a] M Q) ∧
    (∀ (d : Nat) (L : List Value) (M : Mem) (Q : Option Value → Mem → Prop), Wp d 53 17 L [] M Q ↔ Wp d 53 18 L [.int 0] M Q) ∧
    (∀ (d : Nat) (a : Int32) (v0 : Value) (v1 : Value) (x : Value) (L : List Value) (M : Mem) (Q : Option Value → Mem → Prop), Wp d 53 18 (v0 :: v1 :: x :: L) [.int a] M Q ↔ Wp d 53 19 (v0 :: clr v1 :: .int a :: L) [] M Q) ∧
    (∀ (d : Nat) (x : Nat) (L : List Value) (M : Mem) (Q : Option Value → Mem → Prop), Wp d 53 19 (.ref x :: L) [] M Q ↔ Wp d 53 20 (.ref x :: L) [.ref x] M Q) ∧
    (∀ (d : Nat) (a : Nat) (L : List Value) (M : Mem) (Q : Option Value → Mem → Prop), Wp d 53 20 L [.ref a] M Q ↔ (isK a 9 = true ∧ Wp d 53 23 L [.ref (rt a 1)] M Q)) ∧
    (∀ (d : Nat) (a : Nat) (L : List Value) (M : Mem) (Q : Option Value → Mem → Prop), Wp d 53 23 L [.ref a] M Q ↔ (isK a 6 = true ∧ Wp d 53 26 L [.ref (rt a 1)] M Q)) ∧
    (∀ (d : Nat) (a : Nat) (v0 : Value) (x : Int32) (L : List Value) (M : Mem) (Q : Option Value → Mem → Prop), Wp d 53 26 (v0 :: .int x :: L) [.ref a] M Q ↔ Wp d 53 27 (v0 :: .int x :: L) [.int x, .ref a] M Q) ∧
    (∀ (d : Nat) (a : Int32) (b : Nat) (x : Nat) (L : List Value) (M : Mem) (Q : Option Value → Mem → Prop), Wp d 53 27 (.ref x :: L) [.int a, .ref b] M Q ↔ Wp d 53 28 (.ref x :: L) [.ref x, .int a, .ref b] M Q) ∧
    (∀ (d : Nat) (a : Nat) (b : Int32) (c : Nat) (x : Nat) (L : List Value) (M : Mem) (Q : Option Value → Mem → Prop), Wp d 53 28 (.ref x :: L) [.ref a, .int b, .ref c] M Q ↔ Wp d 53 29 (.ref x :: L) [.ref x, .ref a, .int b, .ref c] M Q) ∧
    (∀ (d : Nat) (a : Nat) (b : Nat) (c : Int32) (d2 : Nat) (L : List Value) (M : Mem) (Q : Option Value → Mem → Prop), Wp d 53 29 L [.ref a, .ref b, .int c, .ref d2] M Q ↔ (isK a 9 = true ∧ Wp d 53 32 L [.ref (rt a 1), .ref b, .int c, .ref d2] M Q)) ∧
    (∀ (d : Nat) (a : Nat) (b : Nat) (c : Int32) (d2 : Nat) (L : List Value) (M : Mem) (Q : Option Value → Mem → Prop), Wp d 53 32 L [.ref a, .ref b, .int c, .ref d2] M Q ↔ (isK a 6 = true ∧ Wp d 53 35 L [.ref (rt a 1), .ref b, .int c, .ref d2] M Q)) ∧
    (∀ (d : Nat) (a : Nat) (b : Nat) (c : Int32) (d2 : Nat) (v0 : Value) (x : Int32) (L : List Value) (M : Mem) (Q : Option Value → Mem → Prop), Wp d 53 35 (v0 :: .int x :: L) [.ref a, .ref b, .int c, .ref d2] M Q ↔ Wp d 53 36 (v0 :: .int x :: L) [.int x, .ref a, .ref b, .int c, .ref d2] M Q) ∧
    (∀ (d : Nat) (a : Int32) (b : Nat) (c : Nat) (d2 : Int32) (e : Nat) (L : List Value) (M : Mem) (Q : Option Value → Mem → Prop), Wp d 53 36 L [.int a, .ref b, .ref c, .int d2, .ref e] M Q ↔ ((isR b = true ∧ inr a (lnm M b)) ∧ Wp d 53 37 L [.int (M b a.toNatClampNeg), .ref c, .int d2, .ref e] M Q)) ∧
    (∀ (d : Nat) (a : Int32) (b : Nat) (c : Int32) (d2 : Nat) (v0 : Value) (x : Int32) (L : List Value) (M : Mem) (Q : Option Value → Mem → Prop), Wp d 53 37 (v0 :: .int x :: L) [.int a, .ref b, .int c, .ref d2] M Q ↔ Wp d 53 38 (v0 :: .int x :: L) [.int x, .int a, .ref b, .int c, .ref d2] M Q) ∧
    (∀ (d : Nat) (a : Int32) (b : Int32) (c : Nat) (d2 : Int32) (e : Nat) (v0 : Value) (v1 : Value) (x : Int32) (L : List Value) (M : Mem) (Q : Option Value → Mem → Prop), Wp d 53 38 (v0 :: v1 :: .int x :: L) [.int a, .int b, .ref c, .int d2, .ref e] M Q ↔ Wp d 53 39 (v0 :: v1 :: .int x :: L) [.int x, .int a, .int b, .ref c, .int d2, .ref e] M Q) ∧
    (∀ (d : Nat) (a : Int32) (b : Int32) (c : Int32) (d2 : Nat) (e : Int32) (f : Nat) (L : List Value) (M : Mem) (Q : Option Value → Mem → Prop), Wp (d + 1) 53 39 L [.int a, .int b, .int c, .ref d2, .int e, .ref f] M Q ↔ (isK d2 9 = true ∧ Wp d 47 0 [.ref d2, .int c, .int b, .int a, .null] [] M (fun r M2 => Wp (d + 1) 53 42 L (r.toList ++ [.int e, .ref f]) M2 Q))) ∧
    (∀ (d : Nat) (a : Int32) (b : Int32) (c : Nat) (L : List Value) (M : Mem) (Q : Option Value → Mem → Prop), Wp d 53 42 L [.int a, .int b, .ref c] M Q ↔ ((isK c 13 = true ∧ inr b (lnm M c)) ∧ Wp d 53 43 L [] (up2 M c b.toNatClampNeg a) Q)) ∧
    (∀ (d : Nat) (v0 : Value) (v1 : Value) (x : Int32) (L : List Value) (M : Mem) (Q : Option Value → Mem → Prop), Wp d 53 43 (v0 :: v1 :: .int x :: L) [] M Q ↔ Wp d 53 44 (v0 :: v1 :: .int x :: L) [.int x] M Q) ∧
    (∀ (d : Nat) (a : Int32) (L : List Value) (M : Mem) (Q : Option Value → Mem → Prop), Wp d 53 44 L [.int a] M Q ↔ (if a = 0 then Wp d 53 74 L [] M Q else Wp d 53 47 L [] M Q)) ∧
    (∀ (d : Nat) (x : Nat) (L : List Value) (M : Mem) (Q : Option Value → Mem → Prop), Wp d 53 47 (.ref x :: L) [] M Q ↔ Wp d 53 48 (.ref x :: L) [.ref x] M Q) ∧
    (∀ (d : Nat) (a : Nat) (L : List Value) (M : Mem) (Q : Option Value → Mem → Prop), Wp d 53 48 L [.ref a] M Q ↔ (isK a 9 = true ∧ Wp d 53 51 L [.ref (rt a 1)] M Q)) ∧
    (∀ (d : Nat) (a : Nat) (L : List Value) (M : Mem) (Q : Option Value → Mem → Prop), Wp d 53 51 L [.ref a] M Q ↔ Wp d 53 53 L [.int 999999, .ref a] M Q) ∧
    (∀ (d : Nat) (a : Int32) (b : Nat) (x : Nat) (L : List Value) (M : Mem) (Q : Option Value → Mem → Prop), Wp d 53 53 (.ref x :: L) [.int a, .ref b] M Q ↔ Wp d 53 54 (.ref x :: L) [.ref x, .int a, .ref b] M Q) ∧
    (∀ (d : Nat) (a : Nat) (b : Int32) (c : Nat) (L : List Value) (M : Mem) (Q : Option Value → Mem → Prop), Wp d 53 54 L [.ref a, .int b, .ref c] M Q ↔ (isK a 9 = true ∧ Wp d 53 57 L [.ref (rt a 1), .int b, .ref c] M Q)) ∧
    (∀ (d : Nat) (a : Nat) (b : Int32) (c : Nat) (L : List Value) (M : Mem) (Q : Option Value → Mem → Prop), Wp d 53 57 L [.ref a, .int b, .ref c] M Q ↔ (isK a 6 = true ∧ Wp d 53 60 L [.int (M a 5), .int b, .ref c] M Q)) ∧
    (∀ (d : Nat) (a : Int32) (b : Int32) (c : Nat) (x : Nat) (L : List Value) (M : Mem) (Q : Option Value → Mem → Prop), Wp d 53 60 (.ref x :: L) [.int a, .int b, .ref c] M Q ↔ Wp d 53 61 (.ref x :: L) [.ref x, .int a, .int b, .ref c] M Q) ∧
    (∀ (d : Nat) (a : Nat) (b : Int32) (c : Int32) (d2 : Nat) (L : List Value) (M : Mem) (Q : Option Value → Mem → Prop), Wp d 53 61 L [.ref a, .int b, .int c, .ref d2] M Q ↔ (isK a 9 = true ∧ Wp d 53 64 L [.ref (rt a 0), .int b, .int c, .ref d2] M Q)) ∧
    (∀ (d : Nat) (a : Nat) (b : Int32) (c : Int32) (d2 : Nat) (L : List Value) (M : Mem) (Q : Option Value → Mem → Prop), Wp d 53 64 L [.ref a, .int b, .int c, .ref d2] M Q ↔ (isK a 1 = true ∧ Wp d 53 67 L [.int (M a 9), .int b, .int c, .ref d2] M Q)) ∧
    (∀ (d : Nat) (a : Int32) (b : Int32) (c : Int32) (d2 : Nat) (L : List Value) (M : Mem) (Q : Option Value → Mem → Prop), Wp d 53 67 L [.int a, .int b, .int c, .ref d2] M Q ↔ Wp d 53 68 L [.int (b + a), .int c, .ref d2] M Q) ∧
    (∀ (d : Nat) (a : Int32) (b : Int32) (c : Nat) (L : List Value) (M : Mem) (Q : Option Value → Mem → Prop), Wp (d + 1) 53 68 L [.int a, .int b, .ref c] M Q ↔ Wp (d + 1) 53 71 L [.int (mn b a), .ref c] M Q) ∧
    (∀ (d : Nat) (a : Int32) (b : Nat) (L : List Value) (M : Mem) (Q : Option Value → Mem → Prop), Wp d 53 71 L [.int a, .ref b] M Q ↔ (isK b 6 = true ∧ Wp d 53 74 L [] (up2 M b 5 a) Q)) ∧
    (∀ (d : Nat) (L : List Value) (M : Mem) (Q : Option Value → Mem → Prop), Wp d 53 74 L [] M Q ↔ Q none M) := by
  refine ⟨?_, ?_, ?_, ?_, ?_, ?_, ?_, ?_, ?_, ?_, ?_, ?_, ?_, ?_, ?_, ?_, ?_, ?_, ?_, ?_, ?_, ?_, ?_, ?_, ?_, ?_, ?_, ?_, ?_, ?_, ?_, ?_, ?_, ?_, ?_, ?_, ?_, ?_, ?_, ?_⟩
  · intro d x L M Q; exact Wp_sim (by decide +kernel : decode (cd 53) 0 = .ok (.aload_n 0, 1)) rfl rfl
  · intro d a L M Q; exact q_getR (p := 198) (by decide +kernel : decode (cd 53) 1 = .ok (.getfield 21, 3)) (by decide +kernel) (by decide +kernel)
  · intro d a L M Q; exact q_getR (p := 165) (by decide +kernel : decode (cd 53) 4 = .ok (.getfield 36, 3)) (by decide +kernel) (by decide +kernel)
  · intro d a v0 x L M Q; exact Wp_sim (by decide +kernel : decode (cd 53) 7 = .ok (.iload_n 1, 1)) rfl rfl
  · intro d a b L M Q; exact q_ald (by decide +kernel : decode (cd 53) 8 = .ok (.iaload , 1))
  · intro d a L M Q; exact Wp_sim (by decide +kernel : decode (cd 53) 9 = .ok (.iconst 1, 1)) rfl rfl
  · intro d a b L M Q; exact q_ine (by decide +kernel : decode (cd 53) 10 = .ok (.if_icmp .ne 7, 3)) (by decide)
  · intro d L M Q; exact Wp_sim (by decide +kernel : decode (cd 53) 13 = .ok (.iconst 1, 1)) rfl rfl
  · intro d a L M Q; exact q_goto (by decide +kernel : decode (cd 53) 14 = .ok (.goto 4, 3)) (by decide)
  · intro d L M Q; exact Wp_sim (by decide +kernel : decode (cd 53) 17 = .ok (.iconst 0, 1)) rfl rfl
  · intro d a v0 v1 x L M Q; exact Wp_sim (by decide +kernel : decode (cd 53) 18 = .ok (.istore_n 2, 1)) rfl rfl
  · intro d x L M Q; exact Wp_sim (by decide +kernel : decode (cd 53) 19 = .ok (.aload_n 0, 1)) rfl rfl
  · intro d a L M Q; exact q_getR (p := 198) (by decide +kernel : decode (cd 53) 20 = .ok (.getfield 21, 3)) (by decide +kernel) (by decide +kernel)
  · intro d a L M Q; exact q_getR (p := 169) (by decide +kernel : decode (cd 53) 23 = .ok (.getfield 66, 3)) (by decide +kernel) (by decide +kernel)
  · intro d a v0 x L M Q; exact Wp_sim (by decide +kernel : decode (cd 53) 26 = .ok (.iload_n 1, 1)) rfl rfl
  · intro d a b x L M Q; exact Wp_sim (by decide +kernel : decode (cd 53) 27 = .ok (.aload_n 0, 1)) rfl rfl
  · intro d a b c x L M Q; exact Wp_sim (by decide +kernel : decode (cd 53) 28 = .ok (.aload_n 0, 1)) rfl rfl
  · intro d a b c d2 L M Q; exact q_getR (p := 198) (by decide +kernel : decode (cd 53) 29 = .ok (.getfield 21, 3)) (by decide +kernel) (by decide +kernel)
  · intro d a b c d2 L M Q; exact q_getR (p := 169) (by decide +kernel : decode (cd 53) 32 = .ok (.getfield 66, 3)) (by decide +kernel) (by decide +kernel)
  · intro d a b c d2 v0 x L M Q; exact Wp_sim (by decide +kernel : decode (cd 53) 35 = .ok (.iload_n 1, 1)) rfl rfl
  · intro d a b c d2 e L M Q; exact q_ald (by decide +kernel : decode (cd 53) 36 = .ok (.iaload , 1))
  · intro d a b c d2 v0 x L M Q; exact Wp_sim (by decide +kernel : decode (cd 53) 37 = .ok (.iload_n 1, 1)) rfl rfl
  · intro d a b c d2 e v0 v1 x L M Q; exact Wp_sim (by decide +kernel : decode (cd 53) 38 = .ok (.iload_n 2, 1)) rfl rfl
  · intro d a b c d2 e f L M Q; exact q_invV (pz := 464) (n := 3) (c := 9) (m := 5) (k := d2) (As := [.int c, .int b, .int a]) (rest := [.int e, .ref f]) (by decide +kernel : decode (cd 53) 39 = .ok (.invokevirtual 125, 3)) (by decide +kernel) (by decide +kernel) rfl rfl (Nat.le_of_ble_eq_true rfl) (Nat.le_of_ble_eq_true rfl) rfl
  · intro d a b c L M Q; exact q_ast (by decide +kernel : decode (cd 53) 42 = .ok (.iastore , 1))
  · intro d v0 v1 x L M Q; exact Wp_sim (by decide +kernel : decode (cd 53) 43 = .ok (.iload_n 2, 1)) rfl rfl
  · intro d a L M Q; exact q_zeq (by decide +kernel : decode (cd 53) 44 = .ok (.ifCond .eq 30, 3)) (by decide)
  · intro d x L M Q; exact Wp_sim (by decide +kernel : decode (cd 53) 47 = .ok (.aload_n 0, 1)) rfl rfl
  · intro d a L M Q; exact q_getR (p := 198) (by decide +kernel : decode (cd 53) 48 = .ok (.getfield 21, 3)) (by decide +kernel) (by decide +kernel)
  · intro d a L M Q; exact q_ldc (p := 570) (by decide +kernel : decode (cd 53) 51 = .ok (.ldc 129, 2)) (by decide +kernel)
  · intro d a b x L M Q; exact Wp_sim (by decide +kernel : decode (cd 53) 53 = .ok (.aload_n 0, 1)) rfl rfl
  · intro d a b c L M Q; exact q_getR (p := 198) (by decide +kernel : decode (cd 53) 54 = .ok (.getfield 21, 3)) (by decide +kernel) (by decide +kernel)
  · intro d a b c L M Q; exact q_getI (p := 182) (by decide +kernel : decode (cd 53) 57 = .ok (.getfield 130, 3)) (by decide +kernel) (by decide +kernel)
  · intro d a b c x L M Q; exact Wp_sim (by decide +kernel : decode (cd 53) 60 = .ok (.aload_n 0, 1)) rfl rfl
  · intro d a b c d2 L M Q; exact q_getR (p := 196) (by decide +kernel : decode (cd 53) 61 = .ok (.getfield 12, 3)) (by decide +kernel) (by decide +kernel)
  · intro d a b c d2 L M Q; exact q_getI (p := 91) (by decide +kernel : decode (cd 53) 64 = .ok (.getfield 111, 3)) (by decide +kernel) (by decide +kernel)
  · intro d a b c d2 L M Q; exact Wp_sim (by decide +kernel : decode (cd 53) 67 = .ok (.iadd , 1)) rfl rfl
  · intro d a b c L M Q; exact q_min (p := 471) (by decide +kernel : decode (cd 53) 68 = .ok (.invokestatic 97, 3)) (by decide +kernel) (Nat.le_of_ble_eq_true rfl)
  · intro d a b L M Q; exact q_putI (p := 182) (by decide +kernel : decode (cd 53) 71 = .ok (.putfield 130, 3)) (by decide +kernel) (by decide +kernel)
  · intro d L M Q; exact q_vret (by decide +kernel : decode (cd 53) 74 = .ok (.return_ , 1)) (by decide +kernel)

/- 54: Town.arrest -/
set_option maxRecDepth 10000 in
theorem e54 : (∀ (d : Nat) (L : List Value) (M : Mem) (Q : Option Value → Mem → Prop), Wp d 54 0 L [] M Q ↔ Wp d 54 1 L [.int 0] M Q) ∧
    (∀ (d : Nat) (a : Int32) (v0 : Value) (v1 : Value) (x : Value) (L : List Value) (M : Mem) (Q : Option Value → Mem → Prop), Wp d 54 1 (v0 :: v1 :: x :: L) [.int a] M Q ↔ Wp d 54 2 (v0 :: clr v1 :: .int a :: L) [] M Q) ∧
    (∀ (d : Nat) (a : Int32) (x : Nat) (L : List Value) (M : Mem) (Q : Option Value → Mem → Prop), Wp d 54 3 (.ref x :: L) [.int a] M Q ↔ Wp d 54 4 (.ref x :: L) [.ref x, .int a] M Q) ∧
    (∀ (d : Nat) (a : Nat) (b : Int32) (L : List Value) (M : Mem) (Q : Option Value → Mem → Prop), Wp d 54 4 L [.ref a, .int b] M Q ↔ (isK a 9 = true ∧ Wp d 54 7 L [.ref (rt a 0), .int b] M Q)) ∧
    (∀ (d : Nat) (a : Nat) (b : Int32) (L : List Value) (M : Mem) (Q : Option Value → Mem → Prop), Wp d 54 7 L [.ref a, .int b] M Q ↔ (isK a 1 = true ∧ Wp d 54 10 L [.int (M a 13), .int b] M Q)) ∧
    (∀ (d : Nat) (a : Int32) (b : Int32) (L : List Value) (M : Mem) (Q : Option Value → Mem → Prop), Wp d 54 10 L [.int a, .int b] M Q ↔ (if b < a then Wp d 54 13 L [] M Q else Wp d 54 53 L [] M Q)) ∧
    (∀ (d : Nat) (v0 : Value) (x : Int32) (L : List Value) (M : Mem) (Q : Option Value → Mem → Prop), Wp d 54 13 (v0 :: .int x :: L) [] M Q ↔ Wp d 54 14 (v0 :: .int x :: L) [.int x] M Q) ∧
    (∀ (d : Nat) (a : Int32) (v0 : Value) (v1 : Value) (x : Int32) (L : List Value) (M : Mem) (Q : Option Value → Mem → Prop), Wp d 54 14 (v0 :: v1 :: .int x :: L) [.int a] M Q ↔ Wp d 54 15 (v0 :: v1 :: .int x :: L) [.int x, .int a] M Q) ∧
    (∀ (d : Nat) (a : Int32) (b : Int32) (L : List Value) (M : Mem) (Q : Option Value → Mem → Prop), Wp d 54 15 L [.int a, .int b] M Q ↔ Wp d 54 16 L [.int (b >>> (a &&& 31))] M Q) ∧
    (∀ (d : Nat) (a : Int32) (L : List Value) (M : Mem) (Q : Option Value → Mem → Prop), Wp d 54 16 L [.int a] M Q ↔ Wp d 54 17 L [.int 1, .int a] M Q) ∧
    (∀ (d : Nat) (a : Int32) (b : Int32) (L : List Value) (M : Mem) (Q : Option Value → Mem → Prop), Wp d 54 17 L [.int a, .int b] M Q ↔ Wp d 54 18 L [.int (b &&& a)] M Q) ∧
    (∀ (d : Nat) (a : Int32) (L : List Value) (M : Mem) (Q : Option Value → Mem → Prop), Wp d 54 18 L [.int a] M Q ↔ (if a = 0 then Wp d 54 21 L [] M Q else Wp d 54 24 L [] M Q)) ∧
    (∀ (d : Nat) (L : List Value) (M : Mem) (Q : Option Value → Mem → Prop), Wp d 54 21 L [] M Q ↔ Wp d 54 47 L [] M Q) ∧
    (∀ (d : Nat) (x : Nat) (L : List Value) (M : Mem) (Q : Option Value → Mem → Prop), Wp d 54 24 (.ref x :: L) [] M Q ↔ Wp d 54 25 (.ref x :: L) [.ref x] M Q) ∧
    (∀ (d : Nat) (a : Nat) (L : List Value) (M : Mem) (Q : Option Value → Mem → Prop), Wp d 54 25 L [.ref a] M Q ↔ (isK a 9 = true ∧ Wp d 54 28 L [.ref (rt a 1)] M Q)) ∧
    (∀ (d : Nat) (a : Nat) (L : List Value) (M : Mem) (Q : Option Value → Mem → Prop), Wp d 54 28 L [.ref a] M Q ↔ (isK a 6 = true ∧ Wp d 54 31 L [.ref (rt a 0)] M Q)) ∧
    (∀ (d : Nat) (a : Nat) (v0 : Value) (v1 : Value) (x : Int32) (L : List Value) (M : Mem) (Q : Option Value → Mem → Prop), Wp d 54 31 (v0 :: v1 :: .int x :: L) [.ref a] M Q ↔ Wp d 54 32 (v0 :: v1 :: .int x :: L) [.int x, .ref a] M Q) ∧
    (∀ (d : Nat) (a : Int32) (b : Nat) (L : List Value) (M : Mem) (Q : Option Value → Mem → Prop), Wp d 54 32 L [.int a, .ref b] M Q ↔ Wp d 54 33 L [.int 2, .int a, .ref b] M Q) ∧
    (∀ (d : Nat) (a : Int32) (b : Int32) (c : Nat) (L : List Value) (M : Mem) (Q : Option Value → Mem → Prop), Wp d 54 33 L [.int a, .int b, .ref c] M Q ↔ ((isK c 13 = true ∧ inr b (lnm M c)) ∧ Wp d 54 34 L [] (up2 M c b.toNatClampNeg a) Q)) ∧
    (∀ (d : Nat) (x : Nat) (L : List Value) (M : Mem) (Q : Option Value → Mem → Prop), Wp d 54 34 (.ref x :: L) [] M Q ↔ Wp d 54 35 (.ref x :: L) [.ref x] M Q) ∧
    (∀ (d : Nat) (a : Nat) (L : List Value) (M : Mem) (Q : Option Value → Mem → Prop), Wp d 54 35 L [.ref a] M Q ↔ (isK a 9 = true ∧ Wp d 54 38 L [.ref (rt a 1)] M Q)) ∧
    (∀ (d : Nat) (a : Nat) (L : List Value) (M : Mem) (Q : Option Value → Mem → Prop), Wp d 54 38 L [.ref a] M Q ↔ Wp d 54 39 L [.ref a, .ref a] M Q) ∧
    (∀ (d : Nat) (a : Nat) (b : Nat) (L : List Value) (M : Mem) (Q : Option Value → Mem → Prop), Wp d 54 39 L [.ref a, .ref b] M Q ↔ (isK a 6 = true ∧ Wp d 54 42 L [.int (M a 4), .ref b] M Q)) ∧
    (∀ (d : Nat) (a : Int32) (b : Nat) (L : List Value) (M : Mem) (Q : Option Value → Mem → Prop), Wp d 54 42 L [.int a, .ref b] M Q ↔ Wp d 54 43 L [.int 1, .int a, .ref b] M Q) ∧
    (∀ (d : Nat) (a : Int32) (b : Int32) (c : Nat) (L : List Value) (M : Mem) (Q : Option Value → Mem → Prop), Wp d 54 43 L [.int a, .int b, .ref c] M Q ↔ Wp d 54 44 L [.int (b + a), .ref c] M Q) ∧
    (∀ (d : Nat) (a : Int32) (b : Nat) (L : List Value) (M : Mem) (Q : Option Value → Mem → Prop), Wp d 54 44 L [.int a, .ref b] M Q ↔ (isK b 6 = true ∧ Wp d 54 47 L [] (up2 M b 4 a) Q)) ∧
    (∀ (d : Nat) (v0 : Value) (v1 : Value) (x : Int32) (L : List Value) (M : Mem) (Q : Option Value → Mem → Prop), Wp d 54 47 (v0 :: v1 :: .int x :: L) [] M Q ↔ Wp d 54 50 (v0 :: clr v1 :: .int (x + 1) :: L) [] M Q) ∧
    (∀ (d : Nat) (L : List Value) (M : Mem) (Q : Option Value → Mem → Prop), Wp d 54 50 L [] M Q ↔ Wp d 54 2 L [] M Q) ∧
    (∀ (d : Nat) (L : List Value) (M : Mem) (Q : Option Value → Mem → Prop), Wp d 54 53 L [] M Q ↔ Q none M) := by
  refine ⟨?_, ?_, ?_, ?_, ?_, ?_, ?_, ?_, ?_, ?_, ?_, ?_, ?_, ?_, ?_, ?_, ?_, ?_, ?_, ?_, ?_, ?_, ?_, ?_, ?_, ?_, ?_, ?_, ?_⟩
  · intro d L M Q; exact Wp_sim (by decide +kernel : decode (cd 54) 0 = .ok (.iconst 0, 1)) rfl rfl
  · intro d a v0 v1 x L M Q; exact Wp_sim (by decide +kernel : decode (cd 54) 1 = .ok (.istore_n 2, 1)) rfl rfl
  · intro d a x L M Q; exact Wp_sim (by decide +kernel : decode (cd 54) 3 = .ok (.aload_n 0, 1)) rfl rfl
  · intro d a b L M Q; exact q_getR (p := 196) (by decide +kernel : decode (cd 54) 4 = .ok (.getfield 12, 3)) (by decide +kernel) (by decide +kernel)
  · intro d a b L M Q; exact q_getI (p := 103) (by decide +kernel : decode (cd 54) 7 = .ok (.getfield 32, 3)) (by decide +kernel) (by decide +kernel)
  · intro d a b L M Q; exact q_ige (by decide +kernel : decode (cd 54) 10 = .ok (.if_icmp .ge 43, 3)) (by decide)
  · intro d v0 x L M Q; exact Wp_sim (by decide +kernel : decode (cd 54) 13 = .ok (.iload_n 1, 1)) rfl rfl
  · intro d a v0 v1 x L M Q; exact Wp_sim (by decide +kernel : decode (cd 54) 14 = .ok (.iload_n 2, 1)) rfl rfl
  · intro d a b L M Q; exact Wp_sim (by decide +kernel : decode (cd 54) 15 = .ok (.ishr , 1)) rfl rfl
  · intro d a L M Q; exact Wp_sim (by decide +kernel : decode (cd 54) 16 = .ok (.iconst 1, 1)) rfl rfl
  · intro d a b L M Q; exact Wp_sim (by decide +kernel : decode (cd 54) 17 = .ok (.iand , 1)) rfl rfl
  · intro d a L M Q; exact q_zne (by decide +kernel : decode (cd 54) 18 = .ok (.ifCond .ne 6, 3)) (by decide)
  · intro d L M Q; exact q_goto (by decide +kernel : decode (cd 54) 21 = .ok (.goto 26, 3)) (by decide)
  · intro d x L M Q; exact Wp_sim (by decide +kernel : decode (cd 54) 24 = .ok (.aload_n 0, 1)) rfl rfl
  · intro d a L M Q; exact q_getR (p := 198) (by decide +kernel : decode (cd 54) 25 = .ok (.getfield 21, 3)) (by decide +kernel) (by decide +kernel)
  · intro d a L M Q; exact q_getR (p := 165) (by decide +kernel : decode (cd 54) 28 = .ok (.getfield 36, 3)) (by decide +kernel) (by decide +kernel)
  · intro d a v0 v1 x L M Q; exact Wp_sim (by decide +kernel : decode (cd 54) 31 = .ok (.iload_n 2, 1)) rfl rfl
  · intro d a b L M Q; exact Wp_sim (by decide +kernel : decode (cd 54) 32 = .ok (.iconst 2, 1)) rfl rfl
  · intro d a b c L M Q; exact q_ast (by decide +kernel : decode (cd 54) 33 = .ok (.iastore , 1))
  · intro d x L M Q; exact Wp_sim (by decide +kernel : decode (cd 54) 34 = .ok (.aload_n 0, 1)) rfl rfl
  · intro d a L M Q; exact q_getR (p := 198) (by decide +kernel : decode (cd 54) 35 = .ok (.getfield 21, 3)) (by decide +kernel) (by decide +kernel)
  · intro d a L M Q; exact Wp_sim (by decide +kernel : decode (cd 54) 38 = .ok (.dup , 1)) rfl rfl
  · intro d a b L M Q; exact q_getI (p := 179) (by decide +kernel : decode (cd 54) 39 = .ok (.getfield 131, 3)) (by decide +kernel) (by decide +kernel)
  · intro d a b L M Q; exact Wp_sim (by decide +kernel : decode (cd 54) 42 = .ok (.iconst 1, 1)) rfl rfl
  · intro d a b c L M Q; exact Wp_sim (by decide +kernel : decode (cd 54) 43 = .ok (.iadd , 1)) rfl rfl
  · intro d a b L M Q; exact q_putI (p := 179) (by decide +kernel : decode (cd 54) 44 = .ok (.putfield 131, 3)) (by decide +kernel) (by decide +kernel)
  · intro d v0 v1 x L M Q; exact Wp_sim (by decide +kernel : decode (cd 54) 47 = .ok (.iinc 2 1, 3)) rfl rfl
  · intro d L M Q; exact q_goto (by decide +kernel : decode (cd 54) 50 = .ok (.goto (-48), 3)) (by decide)
  · intro d L M Q; exact q_vret (by decide +kernel : decode (cd 54) 53 = .ok (.return_ , 1)) (by decide +kernel)
theorem h54_2 : (∀ (d : Nat) (v0 : Value) (v1 : Value) (x : Int32) (L : List Value) (M : Mem) (Q : Option Value → Mem → Prop), Wp d 54 2 (v0 :: v1 :: .int x :: L) [] M Q ↔ Wp d 54 3 (v0 :: v1 :: .int x :: L) [.int x] M Q) := by
  intro d v0 v1 x L M Q; exact Wp_sim (by decide +kernel : decode (cd 54) 2 = .ok (.iload_n 2, 1)) rfl rfl

/- 55: Town.mayEnter -/
set_option maxRecDepth 10000 in
theorem e55 : (∀ (d : Nat) (x : Nat) (L : List Value) (M : Mem) (Q : Option Value → Mem → Prop), Wp d 55 0 (.ref x :: L) [] M Q ↔ Wp d 55 1 (.ref x :: L) [.ref x] M Q) ∧
    (∀ (d : Nat) (a : Nat) (L : List Value) (M : Mem) (Q : Option Value → Mem → Prop), Wp d 55 1 L [.ref a] M Q ↔ (isK a 9 = true ∧ Wp d 55 4 L [.ref (rt a 1)] M Q)) ∧
    (∀ (d : Nat) (a : Nat) (L : List Value) (M : Mem) (Q : Option Value → Mem → Prop), Wp d 55 4 L [.ref a] M Q ↔ (isK a 6 = true ∧ Wp d 55 7 L [.ref (rt a 0)] M Q)) ∧
    (∀ (d : Nat) (a : Nat) (v0 : Value) (x : Int32) (L : List Value) (M : Mem) (Q : Option Value → Mem → Prop), Wp d 55 7 (v0 :: .int x :: L) [.ref a] M Q ↔ Wp d 55 8 (v0 :: .int x :: L) [.int x, .ref a] M Q) ∧
    (∀ (d : Nat) (a : Int32) (b : Nat) (L : List Value) (M : Mem) (Q : Option Value → Mem → Prop), Wp d 55 8 L [.int a, .ref b] M Q ↔ ((isR b = true ∧ inr a (lnm M b)) ∧ Wp d 55 9 L [.int (M b a.toNatClampNeg)] M Q)) ∧
    (∀ (d : Nat) (a : Int32) (L : List Value) (M : Mem) (Q : Option Value → Mem → Prop), Wp d 55 9 L [.int a] M Q ↔ (if a = 0 then Wp d 55 12 L [] M Q else Wp d 55 34 L [] M Q)) ∧
    (∀ (d : Nat) (x : Nat) (L : List Value) (M : Mem) (Q : Option Value → Mem → Prop), Wp d 55 12 (.ref x :: L) [] M Q ↔ Wp d 55 13 (.ref x :: L) [.ref x] M Q) ∧
    (∀ (d : Nat) (a : Nat) (L : List Value) (M : Mem) (Q : Option Value → Mem → Prop), Wp d 55 13 L [.ref a] M Q ↔ Wp d 55 14 L [.int 1, .ref a] M Q) ∧
    (∀ (d : Nat) (a : Int32) (b : Nat) (L : List Value) (M : Mem) (Q : Option Value → Mem → Prop), Wp (d + 1) 55 14 L [.int a, .ref b] M Q ↔ (isK b 9 = true ∧ Wp d 42 0 [.ref b, .int a, .null, .null] [] M (fun r M2 => Wp (d + 1) 55 17 L (r.toList ++ []) M2 Q))) ∧
    (∀ (d : Nat) (a : Int32) (L : List Value) (M : Mem) (Q : Option Value → Mem → Prop), Wp (d + 1) 55 17 L [.int a] M Q ↔ Wp d 195 0 [.int a] [] M (fun r M2 => Wp (d + 1) 55 20 L (r.toList ++ []) M2 Q)) ∧
    (∀ (d : Nat) (a : Int32) (x : Nat) (L : List Value) (M : Mem) (Q : Option Value → Mem → Prop), Wp d 55 20 (.ref x :: L) [.int a] M Q ↔ Wp d 55 21 (.ref x :: L) [.ref x, .int a] M Q) ∧
    (∀ (d : Nat) (a : Nat) (b : Int32) (L : List Value) (M : Mem) (Q : Option Value → Mem → Prop), Wp d 55 21 L [.ref a, .int b] M Q ↔ (isK a 9 = true ∧ Wp d 55 24 L [.ref (rt a 0), .int b] M Q)) ∧
    (∀ (d : Nat) (a : Nat) (b : Int32) (L : List Value) (M : Mem) (Q : Option Value → Mem → Prop), Wp d 55 24 L [.ref a, .int b] M Q ↔ (isK a 1 = true ∧ Wp d 55 27 L [.int (M a 10), .int b] M Q)) ∧
    (∀ (d : Nat) (a : Int32) (b : Int32) (L : List Value) (M : Mem) (Q : Option Value → Mem → Prop), Wp d 55 27 L [.int a, .int b] M Q ↔ (if b < a then Wp d 55 30 L [] M Q else Wp d 55 34 L [] M Q)) ∧
    (∀ (d : Nat) (L : List Value) (M : Mem) (Q : Option Value → Mem → Prop), Wp d 55 30 L [] M Q ↔ Wp d 55 31 L [.int 1] M Q) ∧
    (∀ (d : Nat) (a : Int32) (L : List Value) (M : Mem) (Q : Option Value → Mem → Prop), Wp d 55 31 L [.int a] M Q ↔ Wp d 55 35 L [.int a] M Q) ∧
    (∀ (d : Nat) (L : List Value) (M : Mem) (Q : Option Value → Mem → Prop), Wp d 55 34 L [] M Q ↔ Wp d 55 35 L [.int 0] M Q) ∧
    (∀ (d : Nat) (a : Int32) (L : List Value) (M : Mem) (Q : Option Value → Mem → Prop), Wp d 55 35 L [.int a] M Q ↔ ((a = 0 ∨ a = 1) ∧ Q (some (.int a)) M)) := by
  refine ⟨?_, ?_, ?_, ?_, ?_, ?_, ?_, ?_, ?_, ?_, ?_, ?_, ?_, ?_, ?_, ?_, ?_, ?_⟩
  · intro d x L M Q; exact Wp_sim (by decide +kernel : decode (cd 55) 0 = .ok (.aload_n 0, 1)) rfl rfl
  · intro d a L M Q; exact q_getR (p := 198) (by decide +kernel : decode (cd 55) 1 = .ok (.getfield 21, 3)) (by decide +kernel) (by decide +kernel)
  · intro d a L M Q; exact q_getR (p := 165) (by decide +kernel : decode (cd 55) 4 = .ok (.getfield 36, 3)) (by decide +kernel) (by decide +kernel)
  · intro d a v0 x L M Q; exact Wp_sim (by decide +kernel : decode (cd 55) 7 = .ok (.iload_n 1, 1)) rfl rfl
  · intro d a b L M Q; exact q_ald (by decide +kernel : decode (cd 55) 8 = .ok (.iaload , 1))
  · intro d a L M Q; exact q_zne (by decide +kernel : decode (cd 55) 9 = .ok (.ifCond .ne 25, 3)) (by decide)
  · intro d x L M Q; exact Wp_sim (by decide +kernel : decode (cd 55) 12 = .ok (.aload_n 0, 1)) rfl rfl
  · intro d a L M Q; exact Wp_sim (by decide +kernel : decode (cd 55) 13 = .ok (.iconst 1, 1)) rfl rfl
  · intro d a b L M Q; exact q_invV (pz := 451) (n := 1) (c := 9) (m := 4) (k := b) (As := [.int a]) (rest := []) (by decide +kernel : decode (cd 55) 14 = .ok (.invokevirtual 40, 3)) (by decide +kernel) (by decide +kernel) rfl rfl (Nat.le_of_ble_eq_true rfl) (Nat.le_of_ble_eq_true rfl) rfl
  · intro d a L M Q; exact q_invS (pz := 584) (n := 1) (m := 1) (As := [.int a]) (rest := []) (by decide +kernel : decode (cd 55) 17 = .ok (.invokestatic 44, 3)) (by decide +kernel) (by decide +kernel) (by decide +kernel) rfl rfl (Nat.le_of_ble_eq_true rfl) (Nat.le_of_ble_eq_true rfl) rfl
  · intro d a x L M Q; exact Wp_sim (by decide +kernel : decode (cd 55) 20 = .ok (.aload_n 0, 1)) rfl rfl
  · intro d a b L M Q; exact q_getR (p := 196) (by decide +kernel : decode (cd 55) 21 = .ok (.getfield 12, 3)) (by decide +kernel) (by decide +kernel)
  · intro d a b L M Q; exact q_getI (p := 93) (by decide +kernel : decode (cd 55) 24 = .ok (.getfield 49, 3)) (by decide +kernel) (by decide +kernel)
  · intro d a b L M Q; exact q_ige (by decide +kernel : decode (cd 55) 27 = .ok (.if_icmp .ge 7, 3)) (by decide)
  · intro d L M Q; exact Wp_sim (by decide +kernel : decode (cd 55) 30 = .ok (.iconst 1, 1)) rfl rfl
  · intro d a L M Q; exact q_goto (by decide +kernel : decode (cd 55) 31 = .ok (.goto 4, 3)) (by decide)
  · intro d L M Q; exact Wp_sim (by decide +kernel : decode (cd 55) 34 = .ok (.iconst 0, 1)) rfl rfl
  · intro d a L M Q; exact q_zret (by decide +kernel : decode (cd 55) 35 = .ok (.ireturn , 1)) (by decide +kernel)

/- 56: Town.maySettle -/
set_option maxRecDepth 10000 in
theorem e56 : (∀ (d : Nat) (x : Nat) (L : List Value) (M : Mem) (Q : Option Value → Mem → Prop), Wp d 56 0 (.ref x :: L) [] M Q ↔ Wp d 56 1 (.ref x :: L) [.ref x] M Q) ∧
    (∀ (d : Nat) (a : Nat) (v0 : Value) (x : Int32) (L : List Value) (M : Mem) (Q : Option Value → Mem → Prop), Wp d 56 1 (v0 :: .int x :: L) [.ref a] M Q ↔ Wp d 56 2 (v0 :: .int x :: L) [.int x, .ref a] M Q) ∧
    (∀ (d : Nat) (a : Int32) (b : Nat) (L : List Value) (M : Mem) (Q : Option Value → Mem → Prop), Wp (d + 1) 56 2 L [.int a, .ref b] M Q ↔ (isK b 9 = true ∧ Wp d 52 0 [.ref b, .int a] [] M (fun r M2 => Wp (d + 1) 56 5 L (r.toList ++ []) M2 Q))) ∧
    (∀ (d : Nat) (a : Int32) (L : List Value) (M : Mem) (Q : Option Value → Mem → Prop), Wp d 56 5 L [.int a] M Q ↔ (if a = 0 then Wp d 56 36 L [] M Q else Wp d 56 8 L [] M Q)) ∧
    (∀ (d : Nat) (x : Nat) (L : List Value) (M : Mem) (Q : Option Value → Mem → Prop), Wp d 56 8 (.ref x :: L) [] M Q ↔ Wp d 56 9 (.ref x :: L) [.ref x] M Q) ∧
    (∀ (d : Nat) (a : Nat) (L : List Value) (M : Mem) (Q : Option Value → Mem → Prop), Wp d 56 9 L [.ref a] M Q ↔ (isK a 9 = true ∧ Wp d 56 12 L [.ref (rt a 1)] M Q)) ∧
    (∀ (d : Nat) (a : Nat) (L : List Value) (M : Mem) (Q : Option Value → Mem → Prop), Wp d 56 12 L [.ref a] M Q ↔ (isK a 6 = true ∧ Wp d 56 15 L [.ref (rt a 1)] M Q)) ∧
    (∀ (d : Nat) (a : Nat) (v0 : Value) (x : Int32) (L : List Value) (M : Mem) (Q : Option Value → Mem → Prop), Wp d 56 15 (v0 :: .int x :: L) [.ref a] M Q ↔ Wp d 56 16 (v0 :: .int x :: L) [.int x, .ref a] M Q) ∧
    (∀ (d : Nat) (a : Int32) (b : Nat) (L : List Value) (M : Mem) (Q : Option Value → Mem → Prop), Wp d 56 16 L [.int a, .ref b] M Q ↔ ((isR b = true ∧ inr a (lnm M b)) ∧ Wp d 56 17 L [.int (M b a.toNatClampNeg)] M Q)) ∧
    (∀ (d : Nat) (a : Int32) (x : Nat) (L : List Value) (M : Mem) (Q : Option Value → Mem → Prop), Wp d 56 17 (.ref x :: L) [.int a] M Q ↔ Wp d 56 18 (.ref x :: L) [.ref x, .int a] M Q) ∧
    (∀ (d : Nat) (a : Nat) (b : Int32) (v0 : Value) (x : Int32) (L : List Value) (M : Mem) (Q : Option Value → Mem → Prop), Wp d 56 18 (v0 :: .int x :: L) [.ref a, .int b] M Q ↔ Wp d 56 19 (v0 :: .int x :: L) [.int x, .ref a, .int b] M Q) ∧
    (∀ (d : Nat) (a : Int32) (b : Nat) (c : Int32) (x : Nat) (L : List Value) (M : Mem) (Q : Option Value → Mem → Prop), Wp d 56 19 (.ref x :: L) [.int a, .ref b, .int c] M Q ↔ Wp d 56 20 (.ref x :: L) [.ref x, .int a, .ref b, .int c] M Q) ∧
    (∀ (d : Nat) (a : Nat) (b : Int32) (c : Nat) (d2 : Int32) (L : List Value) (M : Mem) (Q : Option Value → Mem → Prop), Wp d 56 20 L [.ref a, .int b, .ref c, .int d2] M Q ↔ (isK a 9 = true ∧ Wp d 56 23 L [.ref (rt a 1), .int b, .ref c, .int d2] M Q)) ∧
    (∀ (d : Nat) (a : Nat) (b : Int32) (c : Nat) (d2 : Int32) (L : List Value) (M : Mem) (Q : Option Value → Mem → Prop), Wp d 56 23 L [.ref a, .int b, .ref c, .int d2] M Q ↔ (isK a 6 = true ∧ Wp d 56 26 L [.int (M a 3), .int b, .ref c, .int d2] M Q)) ∧
    (∀ (d : Nat) (a : Int32) (b : Int32) (c : Nat) (d2 : Int32) (L : List Value) (M : Mem) (Q : Option Value → Mem → Prop), Wp (d + 1) 56 26 L [.int a, .int b, .ref c, .int d2] M Q ↔ (isK c 9 = true ∧ Wp d 50 0 [.ref c, .int b, .int a, .null] [] M (fun r M2 => Wp (d + 1) 56 29 L (r.toList ++ [.int d2]) M2 Q))) ∧
    (∀ (d : Nat) (a : Int32) (b : Int32) (L : List Value) (M : Mem) (Q : Option Value → Mem → Prop), Wp d 56 29 L [.int a, .int b] M Q ↔ (if b < a then Wp d 56 36 L [] M Q else Wp d 56 32 L [] M Q)) ∧
    (∀ (d : Nat) (L : List Value) (M : Mem) (Q : Option Value → Mem → Prop), Wp d 56 32 L [] M Q ↔ Wp d 56 33 L [.int 1] M Q) ∧
    (∀ (d : Nat) (a : Int32) (L : List Value) (M : Mem) (Q : Option Value → Mem → Prop), Wp d 56 33 L [.int a] M Q ↔ Wp d 56 37 L [.int a] M Q) ∧
    (∀ (d : Nat) (L : List Value) (M : Mem) (Q : Option Value → Mem → Prop), Wp d 56 36 L [] M Q ↔ Wp d 56 37 L [.int 0] M Q) ∧
    (∀ (d : Nat) (a : Int32) (L : List Value) (M : Mem) (Q : Option Value → Mem → Prop), Wp d 56 37 L [.int a] M Q ↔ ((a = 0 ∨ a = 1) ∧ Q (some (.int a)) M)) := by
  refine ⟨?_, ?_, ?_, ?_, ?_, ?_, ?_, ?_, ?_, ?_, ?_, ?_, ?_, ?_, ?_, ?_, ?_, ?_, ?_, ?_⟩
  · intro d x L M Q; exact Wp_sim (by decide +kernel : decode (cd 56) 0 = .ok (.aload_n 0, 1)) rfl rfl
  · intro d a v0 x L M Q; exact Wp_sim (by decide +kernel : decode (cd 56) 1 = .ok (.iload_n 1, 1)) rfl rfl
  · intro d a b L M Q; exact q_invV (pz := 562) (n := 1) (c := 9) (m := 2) (k := b) (As := [.int a]) (rest := []) (by decide +kernel : decode (cd 56) 2 = .ok (.invokevirtual 62, 3)) (by decide +kernel) (by decide +kernel) rfl rfl (Nat.le_of_ble_eq_true rfl) (Nat.le_of_ble_eq_true rfl) rfl
  · intro d a L M Q; exact q_zeq (by decide +kernel : decode (cd 56) 5 = .ok (.ifCond .eq 31, 3)) (by decide)
  · intro d x L M Q; exact Wp_sim (by decide +kernel : decode (cd 56) 8 = .ok (.aload_n 0, 1)) rfl rfl
  · intro d a L M Q; exact q_getR (p := 198) (by decide +kernel : decode (cd 56) 9 = .ok (.getfield 21, 3)) (by decide +kernel) (by decide +kernel)
  · intro d a L M Q; exact q_getR (p := 169) (by decide +kernel : decode (cd 56) 12 = .ok (.getfield 66, 3)) (by decide +kernel) (by decide +kernel)
  · intro d a v0 x L M Q; exact Wp_sim (by decide +kernel : decode (cd 56) 15 = .ok (.iload_n 1, 1)) rfl rfl
  · intro d a b L M Q; exact q_ald (by decide +kernel : decode (cd 56) 16 = .ok (.iaload , 1))
  · intro d a x L M Q; exact Wp_sim (by decide +kernel : decode (cd 56) 17 = .ok (.aload_n 0, 1)) rfl rfl
  · intro d a b v0 x L M Q; exact Wp_sim (by decide +kernel : decode (cd 56) 18 = .ok (.iload_n 1, 1)) rfl rfl
  · intro d a b c x L M Q; exact Wp_sim (by decide +kernel : decode (cd 56) 19 = .ok (.aload_n 0, 1)) rfl rfl
  · intro d a b c d2 L M Q; exact q_getR (p := 198) (by decide +kernel : decode (cd 56) 20 = .ok (.getfield 21, 3)) (by decide +kernel) (by decide +kernel)
  · intro d a b c d2 L M Q; exact q_getI (p := 176) (by decide +kernel : decode (cd 56) 23 = .ok (.getfield 69, 3)) (by decide +kernel) (by decide +kernel)
  · intro d a b c d2 L M Q; exact q_invV (pz := 602) (n := 2) (c := 9) (m := 4) (k := c) (As := [.int b, .int a]) (rest := [.int d2]) (by decide +kernel : decode (cd 56) 26 = .ok (.invokevirtual 72, 3)) (by decide +kernel) (by decide +kernel) rfl rfl (Nat.le_of_ble_eq_true rfl) (Nat.le_of_ble_eq_true rfl) rfl
  · intro d a b L M Q; exact q_ilt (by decide +kernel : decode (cd 56) 29 = .ok (.if_icmp .lt 7, 3)) (by decide)
  · intro d L M Q; exact Wp_sim (by decide +kernel : decode (cd 56) 32 = .ok (.iconst 1, 1)) rfl rfl
  · intro d a L M Q; exact q_goto (by decide +kernel : decode (cd 56) 33 = .ok (.goto 4, 3)) (by decide)
  · intro d L M Q; exact Wp_sim (by decide +kernel : decode (cd 56) 36 = .ok (.iconst 0, 1)) rfl rfl
  · intro d a L M Q; exact q_zret (by decide +kernel : decode (cd 56) 37 = .ok (.ireturn , 1)) (by decide +kernel)

/- 57: Town.payCreditor -/
set_option maxRecDepth 10000 in
theorem e57 : (∀ (d : Nat) (x : Nat) (L : List Value) (M : Mem) (Q : Option Value → Mem → Prop), Wp d 57 0 (.ref x :: L) [] M Q ↔ Wp d 57 1 (.ref x :: L) [.ref x] M Q) ∧
    (∀ (d : Nat) (a : Nat) (v0 : Value) (x : Int32) (L : List Value) (M : Mem) (Q : Option Value → Mem → Prop), Wp d 57 1 (v0 :: .int x :: L) [.ref a] M Q ↔ Wp d 57 2 (v0 :: .int x :: L) [.int x, .ref a] M Q) ∧
    (∀ (d : Nat) (a : Int32) (b : Nat) (x : Nat) (L : List Value) (M : Mem) (Q : Option Value → Mem → Prop), Wp d 57 2 (.ref x :: L) [.int a, .ref b] M Q ↔ Wp d 57 3 (.ref x :: L) [.ref x, .int a, .ref b] M Q) ∧
    (∀ (d : Nat) (a : Nat) (b : Int32) (c : Nat) (L : List Value) (M : Mem) (Q : Option Value → Mem → Prop), Wp d 57 3 L [.ref a, .int b, .ref c] M Q ↔ (isK a 9 = true ∧ Wp d 57 6 L [.ref (rt a 1), .int b, .ref c] M Q)) ∧
    (∀ (d : Nat) (a : Nat) (b : Int32) (c : Nat) (L : List Value) (M : Mem) (Q : Option Value → Mem → Prop), Wp d 57 6 L [.ref a, .int b, .ref c] M Q ↔ (isK a 6 = true ∧ Wp d 57 9 L [.int (M a 3), .int b, .ref c] M Q)) ∧
    (∀ (d : Nat) (a : Int32) (b : Int32) (c : Nat) (L : List Value) (M : Mem) (Q : Option Value → Mem → Prop), Wp (d + 1) 57 9 L [.int a, .int b, .ref c] M Q ↔ (isK c 9 = true ∧ Wp d 50 0 [.ref c, .int b, .int a, .null] [] M (fun r M2 => Wp (d + 1) 57 12 L (r.toList ++ []) M2 Q))) ∧
    (∀ (d : Nat) (a : Int32) (v0 : Value) (v1 : Value) (x : Value) (L : List Value) (M : Mem) (Q : Option Value → Mem → Prop), Wp d 57 12 (v0 :: v1 :: x :: L) [.int a] M Q ↔ Wp d 57 13 (v0 :: clr v1 :: .int a :: L) [] M Q) ∧
    (∀ (d : Nat) (x : Nat) (L : List Value) (M : Mem) (Q : Option Value → Mem → Prop), Wp d 57 13 (.ref x :: L) [] M Q ↔ Wp d 57 14 (.ref x :: L) [.ref x] M Q) ∧
    (∀ (d : Nat) (a : Nat) (v0 : Value) (x : Int32) (L : List Value) (M : Mem) (Q : Option Value → Mem → Prop), Wp d 57 14 (v0 :: .int x :: L) [.ref a] M Q ↔ Wp d 57 15 (v0 :: .int x :: L) [.int x, .ref a] M Q) ∧
    (∀ (d : Nat) (a : Int32) (b : Nat) (v0 : Value) (v1 : Value) (x : Int32) (L : List Value) (M : Mem) (Q : Option Value → Mem → Prop), Wp d 57 15 (v0 :: v1 :: .int x :: L) [.int a, .ref b] M Q ↔ Wp d 57 16 (v0 :: v1 :: .int x :: L) [.int x, .int a, .ref b] M Q) ∧
    (∀ (d : Nat) (a : Int32) (b : Int32) (c : Nat) (L : List Value) (M : Mem) (Q : Option Value → Mem → Prop), Wp d 57 16 L [.int a, .int b, .ref c] M Q ↔ Wp d 57 17 L [.int (-a), .int b, .ref c] M Q) ∧
    (∀ (d : Nat) (a : Int32) (b : Int32) (c : Nat) (L : List Value) (M : Mem) (Q : Option Value → Mem → Prop), Wp (d + 1) 57 17 L [.int a, .int b, .ref c] M Q ↔ (isK c 9 = true ∧ Wp d 58 0 [.ref c, .int b, .int a] [] M (fun r M2 => Wp (d + 1) 57 20 L (r.toList ++ []) M2 Q))) ∧
    (∀ (d : Nat) (x : Nat) (L : List Value) (M : Mem) (Q : Option Value → Mem → Prop), Wp d 57 20 (.ref x :: L) [] M Q ↔ Wp d 57 21 (.ref x :: L) [.ref x] M Q) ∧
    (∀ (d : Nat) (a : Nat) (L : List Value) (M : Mem) (Q : Option Value → Mem → Prop), Wp d 57 21 L [.ref a] M Q ↔ (isK a 9 = true ∧ Wp d 57 24 L [.ref (rt a 1)] M Q)) ∧
    (∀ (d : Nat) (a : Nat) (L : List Value) (M : Mem) (Q : Option Value → Mem → Prop), Wp d 57 24 L [.ref a] M Q ↔ (isK a 6 = true ∧ Wp d 57 27 L [.ref (rt a 0)] M Q)) ∧
    (∀ (d : Nat) (a : Nat) (v0 : Value) (x : Int32) (L : List Value) (M : Mem) (Q : Option Value → Mem → Prop), Wp d 57 27 (v0 :: .int x :: L) [.ref a] M Q ↔ Wp d 57 28 (v0 :: .int x :: L) [.int x, .ref a] M Q) ∧
    (∀ (d : Nat) (a : Int32) (b : Nat) (L : List Value) (M : Mem) (Q : Option Value → Mem → Prop), Wp d 57 28 L [.int a, .ref b] M Q ↔ Wp d 57 29 L [.int 3, .int a, .ref b] M Q) ∧
    (∀ (d : Nat) (a : Int32) (b : Int32) (c : Nat) (L : List Value) (M : Mem) (Q : Option Value → Mem → Prop), Wp d 57 29 L [.int a, .int b, .ref c] M Q ↔ ((isK c 13 = true ∧ inr b (lnm M c)) ∧ Wp d 57 30 L [] (up2 M c b.toNatClampNeg a) Q)) ∧
    (∀ (d : Nat) (v0 : Value) (v1 : Value) (x : Int32) (L : List Value) (M : Mem) (Q : Option Value → Mem → Prop), Wp d 57 30 (v0 :: v1 :: .int x :: L) [] M Q ↔ Wp d 57 31 (v0 :: v1 :: .int x :: L) [.int x] M Q) ∧
    (∀ (d : Nat) (a : Int32) (L : List Value) (M : Mem) (Q : Option Value → Mem → Prop), Wp d 57 31 L [.int a] M Q ↔ Q (some (.int a)) M) := by
  refine ⟨?_, ?_, ?_, ?_, ?_, ?_, ?_, ?_, ?_, ?_, ?_, ?_, ?_, ?_, ?_, ?_, ?_, ?_, ?_, ?_⟩
  · intro d x L M Q; exact Wp_sim (by decide +kernel : decode (cd 57) 0 = .ok (.aload_n 0, 1)) rfl rfl
  · intro d a v0 x L M Q; exact Wp_sim (by decide +kernel : decode (cd 57) 1 = .ok (.iload_n 1, 1)) rfl rfl
  · intro d a b x L M Q; exact Wp_sim (by decide +kernel : decode (cd 57) 2 = .ok (.aload_n 0, 1)) rfl rfl
  · intro d a b c L M Q; exact q_getR (p := 198) (by decide +kernel : decode (cd 57) 3 = .ok (.getfield 21, 3)) (by decide +kernel) (by decide +kernel)
  · intro d a b c L M Q; exact q_getI (p := 176) (by decide +kernel : decode (cd 57) 6 = .ok (.getfield 69, 3)) (by decide +kernel) (by decide +kernel)
  · intro d a b c L M Q; exact q_invV (pz := 602) (n := 2) (c := 9) (m := 4) (k := c) (As := [.int b, .int a]) (rest := []) (by decide +kernel : decode (cd 57) 9 = .ok (.invokevirtual 72, 3)) (by decide +kernel) (by decide +kernel) rfl rfl (Nat.le_of_ble_eq_true rfl) (Nat.le_of_ble_eq_true rfl) rfl
  · intro d a v0 v1 x L M Q; exact Wp_sim (by decide +kernel : decode (cd 57) 12 = .ok (.istore_n 2, 1)) rfl rfl
  · intro d x L M Q; exact Wp_sim (by decide +kernel : decode (cd 57) 13 = .ok (.aload_n 0, 1)) rfl rfl
  · intro d a v0 x L M Q; exact Wp_sim (by decide +kernel : decode (cd 57) 14 = .ok (.iload_n 1, 1)) rfl rfl
  · intro d a b v0 v1 x L M Q; exact Wp_sim (by decide +kernel : decode (cd 57) 15 = .ok (.iload_n 2, 1)) rfl rfl
  · intro d a b c L M Q; exact Wp_sim (by decide +kernel : decode (cd 57) 16 = .ok (.ineg , 1)) rfl rfl
  · intro d a b c L M Q; exact q_invV (pz := 607) (n := 2) (c := 9) (m := 3) (k := c) (As := [.int b, .int a]) (rest := []) (by decide +kernel : decode (cd 57) 17 = .ok (.invokevirtual 75, 3)) (by decide +kernel) (by decide +kernel) rfl rfl (Nat.le_of_ble_eq_true rfl) (Nat.le_of_ble_eq_true rfl) rfl
  · intro d x L M Q; exact Wp_sim (by decide +kernel : decode (cd 57) 20 = .ok (.aload_n 0, 1)) rfl rfl
  · intro d a L M Q; exact q_getR (p := 198) (by decide +kernel : decode (cd 57) 21 = .ok (.getfield 21, 3)) (by decide +kernel) (by decide +kernel)
  · intro d a L M Q; exact q_getR (p := 165) (by decide +kernel : decode (cd 57) 24 = .ok (.getfield 36, 3)) (by decide +kernel) (by decide +kernel)
  · intro d a v0 x L M Q; exact Wp_sim (by decide +kernel : decode (cd 57) 27 = .ok (.iload_n 1, 1)) rfl rfl
  · intro d a b L M Q; exact Wp_sim (by decide +kernel : decode (cd 57) 28 = .ok (.iconst 3, 1)) rfl rfl
  · intro d a b c L M Q; exact q_ast (by decide +kernel : decode (cd 57) 29 = .ok (.iastore , 1))
  · intro d v0 v1 x L M Q; exact Wp_sim (by decide +kernel : decode (cd 57) 30 = .ok (.iload_n 2, 1)) rfl rfl
  · intro d a L M Q; exact q_iret (by decide +kernel : decode (cd 57) 31 = .ok (.ireturn , 1)) (by decide +kernel)

/- 58: Town.addCash -/
set_option maxRecDepth 10000 in
theorem e58 : (∀ (d : Nat) (x : Nat) (L : List Value) (M : Mem) (Q : Option Value → Mem → Prop), Wp d 58 0 (.ref x :: L) [] M Q ↔ Wp d 58 1 (.ref x :: L) [.ref x] M Q) ∧
    (∀ (d : Nat) (a : Nat) (L : List Value) (M : Mem) (Q : Option Value → Mem → Prop), Wp d 58 1 L [.ref a] M Q ↔ (isK a 9 = true ∧ Wp d 58 4 L [.ref (rt a 1)] M Q)) ∧
    (∀ (d : Nat) (a : Nat) (L : List Value) (M : Mem) (Q : Option Value → Mem → Prop), Wp d 58 4 L [.ref a] M Q ↔ (isK a 6 = true ∧ Wp d 58 7 L [.ref (rt a 1)] M Q)) ∧
    (∀ (d : Nat) (a : Nat) (v0 : Value) (x : Int32) (L : List Value) (M : Mem) (Q : Option Value → Mem → Prop), Wp d 58 7 (v0 :: .int x :: L) [.ref a] M Q ↔ Wp d 58 8 (v0 :: .int x :: L) [.int x, .ref a] M Q) ∧
    (∀ (d : Nat) (a : Int32) (b : Nat) (x : Nat) (L : List Value) (M : Mem) (Q : Option Value → Mem → Prop), Wp d 58 8 (.ref x :: L) [.int a, .ref b] M Q ↔ Wp d 58 9 (.ref x :: L) [.ref x, .int a, .ref b] M Q) ∧
    (∀ (d : Nat) (a : Nat) (b : Int32) (c : Nat) (L : List Value) (M : Mem) (Q : Option Value → Mem → Prop), Wp d 58 9 L [.ref a, .int b, .ref c] M Q ↔ (isK a 9 = true ∧ Wp d 58 12 L [.ref (rt a 1), .int b, .ref c] M Q)) ∧
    (∀ (d : Nat) (a : Nat) (b : Int32) (c : Nat) (L : List Value) (M : Mem) (Q : Option Value → Mem → Prop), Wp d 58 12 L [.ref a, .int b, .ref c] M Q ↔ (isK a 6 = true ∧ Wp d 58 15 L [.ref (rt a 1), .int b, .ref c] M Q)) ∧
    (∀ (d : Nat) (a : Nat) (b : Int32) (c : Nat) (v0 : Value) (x : Int32) (L : List Value) (M : Mem) (Q : Option Value → Mem → Prop), Wp d 58 15 (v0 :: .int x :: L) [.ref a, .int b, .ref c] M Q ↔ Wp d 58 16 (v0 :: .int x :: L) [.int x, .ref a, .int b, .ref c] M Q) ∧
    (∀ (d : Nat) (a : Int32) (b : Nat) (c : Int32) (d2 : Nat) (L : List Value) (M : Mem) (Q : Option Value → Mem → Prop), Wp d 58 16 L [.int a, .ref b, .int c, .ref d2] M Q ↔ ((isR b = true ∧ inr a (lnm M b)) ∧ Wp d 58 17 L [.int (M b a.toNatClampNeg), .int c, .ref d2] M Q)) ∧
    (∀ (d : Nat) (a : Int32) (b : Int32) (c : Nat) (v0 : Value) (v1 : Value) (x : Int32) (L : List Value) (M : Mem) (Q : Option Value → Mem → Prop), Wp d 58 17 (v0 :: v1 :: .int x :: L) [.int a, .int b, .ref c] M Q ↔ Wp d 58 18 (v0 :: v1 :: .int x :: L) [.int x, .int a, .int b, .ref c] M Q) ∧
    (∀ (d : Nat) (a : Int32) (b : Int32) (c : Int32) (d2 : Nat) (L : List Value) (M : Mem) (Q : Option Value → Mem → Prop), Wp d 58 18 L [.int a, .int b, .int c, .ref d2] M Q ↔ Wp d 58 19 L [.int (b + a), .int c, .ref d2] M Q) ∧
    (∀ (d : Nat) (a : Int32) (b : Int32) (c : Nat) (L : List Value) (M : Mem) (Q : Option Value → Mem → Prop), Wp (d + 1) 58 19 L [.int a, .int b, .ref c] M Q ↔ Wp d 48 0 [.int a] [] M (fun r M2 => Wp (d + 1) 58 22 L (r.toList ++ [.int b, .ref c]) M2 Q)) ∧
    (∀ (d : Nat) (a : Int32) (b : Int32) (c : Nat) (L : List Value) (M : Mem) (Q : Option Value → Mem → Prop), Wp d 58 22 L [.int a, .int b, .ref c] M Q ↔ ((isK c 13 = true ∧ inr b (lnm M c)) ∧ Wp d 58 23 L [] (up2 M c b.toNatClampNeg a) Q)) ∧
    (∀ (d : Nat) (L : List Value) (M : Mem) (Q : Option Value → Mem → Prop), Wp d 58 23 L [] M Q ↔ Q none M) := by
  refine ⟨?_, ?_, ?_, ?_, ?_, ?_, ?_, ?_, ?_, ?_, ?_, ?_, ?_, ?_⟩
  · intro d x L M Q; exact Wp_sim (by decide +kernel : decode (cd 58) 0 = .ok (.aload_n 0, 1)) rfl rfl
  · intro d a L M Q; exact q_getR (p := 198) (by decide +kernel : decode (cd 58) 1 = .ok (.getfield 21, 3)) (by decide +kernel) (by decide +kernel)
  · intro d a L M Q; exact q_getR (p := 169) (by decide +kernel : decode (cd 58) 4 = .ok (.getfield 66, 3)) (by decide +kernel) (by decide +kernel)
  · intro d a v0 x L M Q; exact Wp_sim (by decide +kernel : decode (cd 58) 7 = .ok (.iload_n 1, 1)) rfl rfl
  · intro d a b x L M Q; exact Wp_sim (by decide +kernel : decode (cd 58) 8 = .ok (.aload_n 0, 1)) rfl rfl
  · intro d a b c L M Q; exact q_getR (p := 198) (by decide +kernel : decode (cd 58) 9 = .ok (.getfield 21, 3)) (by decide +kernel) (by decide +kernel)
  · intro d a b c L M Q; exact q_getR (p := 169) (by decide +kernel : decode (cd 58) 12 = .ok (.getfield 66, 3)) (by decide +kernel) (by decide +kernel)
  · intro d a b c v0 x L M Q; exact Wp_sim (by decide +kernel : decode (cd 58) 15 = .ok (.iload_n 1, 1)) rfl rfl
  · intro d a b c d2 L M Q; exact q_ald (by decide +kernel : decode (cd 58) 16 = .ok (.iaload , 1))
  · intro d a b c v0 v1 x L M Q; exact Wp_sim (by decide +kernel : decode (cd 58) 17 = .ok (.iload_n 2, 1)) rfl rfl
  · intro d a b c d2 L M Q; exact Wp_sim (by decide +kernel : decode (cd 58) 18 = .ok (.iadd , 1)) rfl rfl
  · intro d a b c L M Q; exact q_invS (pz := 468) (n := 1) (m := 1) (As := [.int a]) (rest := [.int b, .ref c]) (by decide +kernel : decode (cd 58) 19 = .ok (.invokestatic 105, 3)) (by decide +kernel) (by decide +kernel) (by decide +kernel) rfl rfl (Nat.le_of_ble_eq_true rfl) (Nat.le_of_ble_eq_true rfl) rfl
  · intro d a b c L M Q; exact q_ast (by decide +kernel : decode (cd 58) 22 = .ok (.iastore , 1))
  · intro d L M Q; exact q_vret (by decide +kernel : decode (cd 58) 23 = .ok (.return_ , 1)) (by decide +kernel)

/- 59: Town.refusalOfLoan -/
set_option maxRecDepth 10000 in
theorem e59 : (∀ (d : Nat) (x : Nat) (L : List Value) (M : Mem) (Q : Option Value → Mem → Prop), Wp d 59 0 (.ref x :: L) [] M Q ↔ Wp d 59 1 (.ref x :: L) [.ref x] M Q) ∧
    (∀ (d : Nat) (a : Nat) (L : List Value) (M : Mem) (Q : Option Value → Mem → Prop), Wp d 59 1 L [.ref a] M Q ↔ (isK a 9 = true ∧ Wp d 59 4 L [.ref (rt a 1)] M Q)) ∧
    (∀ (d : Nat) (a : Nat) (L : List Value) (M : Mem) (Q : Option Value → Mem → Prop), Wp d 59 4 L [.ref a] M Q ↔ (isK a 6 = true ∧ Wp d 59 7 L [.ref (rt a 0)] M Q)) ∧
    (∀ (d : Nat) (a : Nat) (v0 : Value) (x : Int32) (L : List Value) (M : Mem) (Q : Option Value → Mem → Prop), Wp d 59 7 (v0 :: .int x :: L) [.ref a] M Q ↔ Wp d 59 8 (v0 :: .int x :: L) [.int x, .ref a] M Q) ∧
    (∀ (d : Nat) (a : Int32) (b : Nat) (L : List Value) (M : Mem) (Q : Option Value → Mem → Prop), Wp d 59 8 L [.int a, .ref b] M Q ↔ ((isR b = true ∧ inr a (lnm M b)) ∧ Wp d 59 9 L [.int (M b a.toNatClampNeg)] M Q)) ∧
    (∀ (d : Nat) (a : Int32) (L : List Value) (M : Mem) (Q : Option Value → Mem → Prop), Wp d 59 9 L [.int a] M Q ↔ Wp d 59 10 L [.int 1, .int a] M Q) ∧
    (∀ (d : Nat) (a : Int32) (b : Int32) (L : List Value) (M : Mem) (Q : Option Value → Mem → Prop), Wp d 59 10 L [.int a, .int b] M Q ↔ (if b = a then Wp d 59 13 L [] M Q else Wp d 59 39 L [] M Q)) ∧
    (∀ (d : Nat) (x : Nat) (L : List Value) (M : Mem) (Q : Option Value → Mem → Prop), Wp d 59 13 (.ref x :: L) [] M Q ↔ Wp d 59 14 (.ref x :: L) [.ref x] M Q) ∧
    (∀ (d : Nat) (a : Nat) (L : List Value) (M : Mem) (Q : Option Value → Mem → Prop), Wp d 59 14 L [.ref a] M Q ↔ (isK a 9 = true ∧ Wp d 59 17 L [.ref (rt a 1)] M Q)) ∧
    (∀ (d : Nat) (a : Nat) (L : List Value) (M : Mem) (Q : Option Value → Mem → Prop), Wp d 59 17 L [.ref a] M Q ↔ (isK a 6 = true ∧ Wp d 59 20 L [.ref (rt a 0)] M Q)) ∧
    (∀ (d : Nat) (a : Nat) (v0 : Value) (v1 : Value) (x : Int32) (L : List Value) (M : Mem) (Q : Option Value → Mem → Prop), Wp d 59 20 (v0 :: v1 :: .int x :: L) [.ref a] M Q ↔ Wp d 59 21 (v0 :: v1 :: .int x :: L) [.int x, .ref a] M Q) ∧
    (∀ (d : Nat) (a : Int32) (b : Nat) (L : List Value) (M : Mem) (Q : Option Value → Mem → Prop), Wp d 59 21 L [.int a, .ref b] M Q ↔ ((isR b = true ∧ inr a (lnm M b)) ∧ Wp d 59 22 L [.int (M b a.toNatClampNeg)] M Q)) ∧
    (∀ (d : Nat) (a : Int32) (L : List Value) (M : Mem) (Q : Option Value → Mem → Prop), Wp d 59 22 L [.int a] M Q ↔ Wp d 59 23 L [.int 1, .int a] M Q) ∧
    (∀ (d : Nat) (a : Int32) (b : Int32) (L : List Value) (M : Mem) (Q : Option Value → Mem → Prop), Wp d 59 23 L [.int a, .int b] M Q ↔ (if b = a then Wp d 59 26 L [] M Q else Wp d 59 39 L [] M Q)) ∧
    (∀ (d : Nat) (x : Nat) (L : List Value) (M : Mem) (Q : Option Value → Mem → Prop), Wp d 59 26 (.ref x :: L) [] M Q ↔ Wp d 59 27 (.ref x :: L) [.ref x] M Q) ∧
    (∀ (d : Nat) (a : Nat) (L : List Value) (M : Mem) (Q : Option Value → Mem → Prop), Wp d 59 27 L [.ref a] M Q ↔ (isK a 9 = true ∧ Wp d 59 30 L [.ref (rt a 1)] M Q)) ∧
    (∀ (d : Nat) (a : Nat) (L : List Value) (M : Mem) (Q : Option Value → Mem → Prop), Wp d 59 30 L [.ref a] M Q ↔ (isK a 6 = true ∧ Wp d 59 33 L [.ref (rt a 1)] M Q)) ∧
    (∀ (d : Nat) (a : Nat) (v0 : Value) (x : Int32) (L : List Value) (M : Mem) (Q : Option Value → Mem → Prop), Wp d 59 33 (v0 :: .int x :: L) [.ref a] M Q ↔ Wp d 59 34 (v0 :: .int x :: L) [.int x, .ref a] M Q) ∧
    (∀ (d : Nat) (a : Int32) (b : Nat) (L : List Value) (M : Mem) (Q : Option Value → Mem → Prop), Wp d 59 34 L [.int a, .ref b] M Q ↔ ((isR b = true ∧ inr a (lnm M b)) ∧ Wp d 59 35 L [.int (M b a.toNatClampNeg)] M Q)) ∧
    (∀ (d : Nat) (a : Int32) (v0 : Value) (v1 : Value) (v2 : Value) (x : Int32) (L : List Value) (M : Mem) (Q : Option Value → Mem → Prop), Wp d 59 35 (v0 :: v1 :: v2 :: .int x :: L) [.int a] M Q ↔ Wp d 59 36 (v0 :: v1 :: v2 :: .int x :: L) [.int x, .int a] M Q) ∧
    (∀ (d : Nat) (a : Int32) (b : Int32) (L : List Value) (M : Mem) (Q : Option Value → Mem → Prop), Wp d 59 36 L [.int a, .int b] M Q ↔ (if b < a then Wp d 59 39 L [] M Q else Wp d 59 42 L [] M Q)) ∧
    (∀ (d : Nat) (L : List Value) (M : Mem) (Q : Option Value → Mem → Prop), Wp d 59 39 L [] M Q ↔ Wp d 59 41 L [.int (-1000000003)] M Q) ∧
    (∀ (d : Nat) (a : Int32) (L : List Value) (M : Mem) (Q : Option Value → Mem → Prop), Wp d 59 41 L [.int a] M Q ↔ Q (some (.int a)) M) ∧
    (∀ (d : Nat) (x : Nat) (L : List Value) (M : Mem) (Q : Option Value → Mem → Prop), Wp d 59 42 (.ref x :: L) [] M Q ↔ Wp d 59 43 (.ref x :: L) [.ref x] M Q) ∧
    (∀ (d : Nat) (a : Nat) (L : List Value) (M : Mem) (Q : Option Value → Mem → Prop), Wp d 59 43 L [.ref a] M Q ↔ (isK a 9 = true ∧ Wp d 59 46 L [.ref (rt a 1)] M Q)) ∧
    (∀ (d : Nat) (a : Nat) (L : List Value) (M : Mem) (Q : Option Value → Mem → Prop), Wp d 59 46 L [.ref a] M Q ↔ (isK a 6 = true ∧ Wp d 59 49 L [.ref (rt a 2)] M Q)) ∧
    (∀ (d : Nat) (a : Nat) (v0 : Value) (v1 : Value) (x : Int32) (L : List Value) (M : Mem) (Q : Option Value → Mem → Prop), Wp d 59 49 (v0 :: v1 :: .int x :: L) [.ref a] M Q ↔ Wp d 59 50 (v0 :: v1 :: .int x :: L) [.int x, .ref a] M Q) ∧
    (∀ (d : Nat) (a : Int32) (b : Nat) (v0 : Value) (x : Int32) (L : List Value) (M : Mem) (Q : Option Value → Mem → Prop), Wp d 59 50 (v0 :: .int x :: L) [.int a, .ref b] M Q ↔ Wp d 59 51 (v0 :: .int x :: L) [.int x, .int a, .ref b] M Q) ∧
    (∀ (d : Nat) (a : Int32) (b : Int32) (c : Nat) (L : List Value) (M : Mem) (Q : Option Value → Mem → Prop), Wp (d + 1) 59 51 L [.int a, .int b, .ref c] M Q ↔ (isK c 2 = true ∧ Wp d 10 0 [.ref c, .int b, .int a] [] M (fun r M2 => Wp (d + 1) 59 54 L (r.toList ++ []) M2 Q))) ∧
    (∀ (d : Nat) (a : Int32) (v0 : Value) (v1 : Value) (v2 : Value) (x : Int32) (L : List Value) (M : Mem) (Q : Option Value → Mem → Prop), Wp d 59 54 (v0 :: v1 :: v2 :: .int x :: L) [.int a] M Q ↔ Wp d 59 55 (v0 :: v1 :: v2 :: .int x :: L) [.int x, .int a] M Q) ∧
    (∀ (d : Nat) (a : Int32) (b : Int32) (L : List Value) (M : Mem) (Q : Option Value → Mem → Prop), Wp d 59 55 L [.int a, .int b] M Q ↔ Wp d 59 56 L [.int (b + a)] M Q) ∧
    (∀ (d : Nat) (a : Int32) (L : List Value) (M : Mem) (Q : Option Value → Mem → Prop), Wp d 59 56 L [.int a] M Q ↔ Wp d 59 59 L [.int 9999, .int a] M Q) ∧
    (∀ (d : Nat) (a : Int32) (b : Int32) (L : List Value) (M : Mem) (Q : Option Value → Mem → Prop), Wp d 59 59 L [.int a, .int b] M Q ↔ (if a < b then Wp d 59 62 L [] M Q else Wp d 59 67 L [] M Q)) ∧
    (∀ (d : Nat) (L : List Value) (M : Mem) (Q : Option Value → Mem → Prop), Wp d 59 62 L [] M Q ↔ Wp d 59 64 L [.int (-1000000004)] M Q) ∧
    (∀ (d : Nat) (a : Int32) (L : List Value) (M : Mem) (Q : Option Value → Mem → Prop), Wp d 59 64 L [.int a] M Q ↔ Wp d 59 68 L [.int a] M Q) ∧
    (∀ (d : Nat) (L : List Value) (M : Mem) (Q : Option Value → Mem → Prop), Wp d 59 67 L [] M Q ↔ Wp d 59 68 L [.int 0] M Q) ∧
    (∀ (d : Nat) (a : Int32) (L : List Value) (M : Mem) (Q : Option Value → Mem → Prop), Wp d 59 68 L [.int a] M Q ↔ Q (some (.int a)) M) := by
  refine ⟨?_, ?_, ?_, ?_, ?_, ?_, ?_, ?_, ?_, ?_, ?_, ?_, ?_, ?_, ?_, ?_, ?_, ?_, ?_, ?_, ?_, ?_, ?_, ?_, ?_, ?_, ?_, ?_, ?_, ?_, ?_, ?_, ?_, ?_, ?_, ?_, ?_⟩
  · intro d x L M Q; exact Wp_sim (by decide +kernel : decode (cd 59) 0 = .ok (.aload_n 0, 1)) rfl rfl
  · intro d a L M Q; exact q_getR (p := 198) (by decide +kernel : decode (cd 59) 1 = .ok (.getfield 21, 3)) (by decide +kernel) (by decide +kernel)
  · intro d a L M Q; exact q_getR (p := 165) (by decide +kernel : decode (cd 59) 4 = .ok (.getfield 36, 3)) (by decide +kernel) (by decide +kernel)
  · intro d a v0 x L M Q; exact Wp_sim (by decide +kernel : decode (cd 59) 7 = .ok (.iload_n 1, 1)) rfl rfl
  · intro d a b L M Q; exact q_ald (by decide +kernel : decode (cd 59) 8 = .ok (.iaload , 1))
  · intro d a L M Q; exact Wp_sim (by decide +kernel : decode (cd 59) 9 = .ok (.iconst 1, 1)) rfl rfl
  · intro d a b L M Q; exact q_ine (by decide +kernel : decode (cd 59) 10 = .ok (.if_icmp .ne 29, 3)) (by decide)
  · intro d x L M Q; exact Wp_sim (by decide +kernel : decode (cd 59) 13 = .ok (.aload_n 0, 1)) rfl rfl
  · intro d a L M Q; exact q_getR (p := 198) (by decide +kernel : decode (cd 59) 14 = .ok (.getfield 21, 3)) (by decide +kernel) (by decide +kernel)
  · intro d a L M Q; exact q_getR (p := 165) (by decide +kernel : decode (cd 59) 17 = .ok (.getfield 36, 3)) (by decide +kernel) (by decide +kernel)
  · intro d a v0 v1 x L M Q; exact Wp_sim (by decide +kernel : decode (cd 59) 20 = .ok (.iload_n 2, 1)) rfl rfl
  · intro d a b L M Q; exact q_ald (by decide +kernel : decode (cd 59) 21 = .ok (.iaload , 1))
  · intro d a L M Q; exact Wp_sim (by decide +kernel : decode (cd 59) 22 = .ok (.iconst 1, 1)) rfl rfl
  · intro d a b L M Q; exact q_ine (by decide +kernel : decode (cd 59) 23 = .ok (.if_icmp .ne 16, 3)) (by decide)
  · intro d x L M Q; exact Wp_sim (by decide +kernel : decode (cd 59) 26 = .ok (.aload_n 0, 1)) rfl rfl
  · intro d a L M Q; exact q_getR (p := 198) (by decide +kernel : decode (cd 59) 27 = .ok (.getfield 21, 3)) (by decide +kernel) (by decide +kernel)
  · intro d a L M Q; exact q_getR (p := 169) (by decide +kernel : decode (cd 59) 30 = .ok (.getfield 66, 3)) (by decide +kernel) (by decide +kernel)
  · intro d a v0 x L M Q; exact Wp_sim (by decide +kernel : decode (cd 59) 33 = .ok (.iload_n 1, 1)) rfl rfl
  · intro d a b L M Q; exact q_ald (by decide +kernel : decode (cd 59) 34 = .ok (.iaload , 1))
  · intro d a v0 v1 v2 x L M Q; exact Wp_sim (by decide +kernel : decode (cd 59) 35 = .ok (.iload_n 3, 1)) rfl rfl
  · intro d a b L M Q; exact q_ige (by decide +kernel : decode (cd 59) 36 = .ok (.if_icmp .ge 6, 3)) (by decide)
  · intro d L M Q; exact q_ldc (p := 619) (by decide +kernel : decode (cd 59) 39 = .ok (.ldc 79, 2)) (by decide +kernel)
  · intro d a L M Q; exact q_iret (by decide +kernel : decode (cd 59) 41 = .ok (.ireturn , 1)) (by decide +kernel)
  · intro d x L M Q; exact Wp_sim (by decide +kernel : decode (cd 59) 42 = .ok (.aload_n 0, 1)) rfl rfl
  · intro d a L M Q; exact q_getR (p := 198) (by decide +kernel : decode (cd 59) 43 = .ok (.getfield 21, 3)) (by decide +kernel) (by decide +kernel)
  · intro d a L M Q; exact q_getR (p := 173) (by decide +kernel : decode (cd 59) 46 = .ok (.getfield 80, 3)) (by decide +kernel) (by decide +kernel)
  · intro d a v0 v1 x L M Q; exact Wp_sim (by decide +kernel : decode (cd 59) 49 = .ok (.iload_n 2, 1)) rfl rfl
  · intro d a b v0 x L M Q; exact Wp_sim (by decide +kernel : decode (cd 59) 50 = .ok (.iload_n 1, 1)) rfl rfl
  · intro d a b c L M Q; exact q_invV (pz := 620) (n := 2) (c := 2) (m := 3) (k := c) (As := [.int b, .int a]) (rest := []) (by decide +kernel : decode (cd 59) 51 = .ok (.invokevirtual 84, 3)) (by decide +kernel) (by decide +kernel) rfl rfl (Nat.le_of_ble_eq_true rfl) (Nat.le_of_ble_eq_true rfl) rfl
  · intro d a v0 v1 v2 x L M Q; exact Wp_sim (by decide +kernel : decode (cd 59) 54 = .ok (.iload_n 3, 1)) rfl rfl
  · intro d a b L M Q; exact Wp_sim (by decide +kernel : decode (cd 59) 55 = .ok (.iadd , 1)) rfl rfl
  · intro d a L M Q; exact Wp_sim (by decide +kernel : decode (cd 59) 56 = .ok (.sipush 9999, 3)) rfl rfl
  · intro d a b L M Q; exact q_ile (by decide +kernel : decode (cd 59) 59 = .ok (.if_icmp .le 8, 3)) (by decide)
  · intro d L M Q; exact q_ldc (p := 621) (by decide +kernel : decode (cd 59) 62 = .ok (.ldc 89, 2)) (by decide +kernel)
  · intro d a L M Q; exact q_goto (by decide +kernel : decode (cd 59) 64 = .ok (.goto 4, 3)) (by decide)
  · intro d L M Q; exact Wp_sim (by decide +kernel : decode (cd 59) 67 = .ok (.iconst 0, 1)) rfl rfl
  · intro d a L M Q; exact q_iret (by decide +kernel : decode (cd 59) 68 = .ok (.ireturn , 1)) (by decide +kernel)

/- 60: Town.giveLoan -/
set_option maxRecDepth 10000 in
theorem e60 : (∀ (d : Nat) (x : Nat) (L : List Value) (M : Mem) (Q : Option Value → Mem → Prop), Wp d 60 0 (.ref x :: L) [] M Q ↔ Wp d 60 1 (.ref x :: L) [.ref x] M Q) ∧
    (∀ (d : Nat) (a : Nat) (v0 : Value) (x : Int32) (L : List Value) (M : Mem) (Q : Option Value → Mem → Prop), Wp d 60 1 (v0 :: .int x :: L) [.ref a] M Q ↔ Wp d 60 2 (v0 :: .int x :: L) [.int x, .ref a] M Q) ∧
    (∀ (d : Nat) (a : Int32) (b : Nat) (v0 : Value) (v1 : Value) (v2 : Value) (x : Int32) (L : List Value) (M : Mem) (Q : Option Value → Mem → Prop), Wp d 60 2 (v0 :: v1 :: v2 :: .int x :: L) [.int a, .ref b] M Q ↔ Wp d 60 3 (v0 :: v1 :: v2 :: .int x :: L) [.int x, .int a, .ref b] M Q) ∧
    (∀ (d : Nat) (a : Int32) (b : Int32) (c : Nat) (L : List Value) (M : Mem) (Q : Option Value → Mem → Prop), Wp d 60 3 L [.int a, .int b, .ref c] M Q ↔ Wp d 60 4 L [.int (-a), .int b, .ref c] M Q) ∧
    (∀ (d : Nat) (a : Int32) (b : Int32) (c : Nat) (L : List Value) (M : Mem) (Q : Option Value → Mem → Prop), Wp (d + 1) 60 4 L [.int a, .int b, .ref c] M Q ↔ (isK c 9 = true ∧ Wp d 58 0 [.ref c, .int b, .int a] [] M (fun r M2 => Wp (d + 1) 60 7 L (r.toList ++ []) M2 Q))) ∧
    (∀ (d : Nat) (x : Nat) (L : List Value) (M : Mem) (Q : Option Value → Mem → Prop), Wp d 60 7 (.ref x :: L) [] M Q ↔ Wp d 60 8 (.ref x :: L) [.ref x] M Q) ∧
    (∀ (d : Nat) (a : Nat) (v0 : Value) (v1 : Value) (x : Int32) (L : List Value) (M : Mem) (Q : Option Value → Mem → Prop), Wp d 60 8 (v0 :: v1 :: .int x :: L) [.ref a] M Q ↔ Wp d 60 9 (v0 :: v1 :: .int x :: L) [.int x, .ref a] M Q) ∧
    (∀ (d : Nat) (a : Int32) (b : Nat) (v0 : Value) (v1 : Value) (v2 : Value) (x : Int32) (L : List Value) (M : Mem) (Q : Option Value → Mem → Prop), Wp d 60 9 (v0 :: v1 :: v2 :: .int x :: L) [.int a, .ref b] M Q ↔ Wp d 60 10 (v0 :: v1 :: v2 :: .int x :: L) [.int x, .int a, .ref b] M Q) ∧
    (∀ (d : Nat) (a : Int32) (b : Int32) (c : Nat) (L : List Value) (M : Mem) (Q : Option Value → Mem → Prop), Wp (d + 1) 60 10 L [.int a, .int b, .ref c] M Q ↔ (isK c 9 = true ∧ Wp d 58 0 [.ref c, .int b, .int a] [] M (fun r M2 => Wp (d + 1) 60 13 L (r.toList ++ []) M2 Q))) ∧
    (∀ (d : Nat) (x : Nat) (L : List Value) (M : Mem) (Q : Option Value → Mem → Prop), Wp d 60 13 (.ref x :: L) [] M Q ↔ Wp d 60 14 (.ref x :: L) [.ref x] M Q) ∧
    (∀ (d : Nat) (a : Nat) (L : List Value) (M : Mem) (Q : Option Value → Mem → Prop), Wp d 60 14 L [.ref a] M Q ↔ (isK a 9 = true ∧ Wp d 60 17 L [.ref (rt a 1)] M Q)) ∧
    (∀ (d : Nat) (a : Nat) (L : List Value) (M : Mem) (Q : Option Value → Mem → Prop), Wp d 60 17 L [.ref a] M Q ↔ (isK a 6 = true ∧ Wp d 60 20 L [.ref (rt a 2)] M Q)) ∧
    (∀ (d : Nat) (a : Nat) (v0 : Value) (v1 : Value) (x : Int32) (L : List Value) (M : Mem) (Q : Option Value → Mem → Prop), Wp d 60 20 (v0 :: v1 :: .int x :: L) [.ref a] M Q ↔ Wp d 60 21 (v0 :: v1 :: .int x :: L) [.int x, .ref a] M Q) ∧
    (∀ (d : Nat) (a : Int32) (b : Nat) (v0 : Value) (x : Int32) (L : List Value) (M : Mem) (Q : Option Value → Mem → Prop), Wp d 60 21 (v0 :: .int x :: L) [.int a, .ref b] M Q ↔ Wp d 60 22 (v0 :: .int x :: L) [.int x, .int a, .ref b] M Q) ∧
    (∀ (d : Nat) (a : Int32) (b : Int32) (c : Nat) (v0 : Value) (v1 : Value) (v2 : Value) (x : Int32) (L : List Value) (M : Mem) (Q : Option Value → Mem → Prop), Wp d 60 22 (v0 :: v1 :: v2 :: .int x :: L) [.int a, .int b, .ref c] M Q ↔ Wp d 60 23 (v0 :: v1 :: v2 :: .int x :: L) [.int x, .int a, .int b, .ref c] M Q) ∧
    (∀ (d : Nat) (a : Int32) (b : Int32) (c : Int32) (d2 : Nat) (L : List Value) (M : Mem) (Q : Option Value → Mem → Prop), Wp (d + 1) 60 23 L [.int a, .int b, .int c, .ref d2] M Q ↔ (isK d2 2 = true ∧ Wp d 13 0 [.ref d2, .int c, .int b, .int a] [] M (fun r M2 => Wp (d + 1) 60 26 L (r.toList ++ []) M2 Q))) ∧
    (∀ (d : Nat) (L : List Value) (M : Mem) (Q : Option Value → Mem → Prop), Wp d 60 26 L [] M Q ↔ Q none M) := by
  refine ⟨?_, ?_, ?_, ?_, ?_, ?_, ?_, ?_, ?_, ?_, ?_, ?_, ?_, ?_, ?_, ?_, ?_⟩
  · intro d x L M Q; exact Wp_sim (by decide +kernel : decode (cd 60) 0 = .ok (.aload_n 0, 1)) rfl rfl
  · intro d a v0 x L M Q; exact Wp_sim (by decide +kernel : decode (cd 60) 1 = .ok (.iload_n 1, 1)) rfl rfl
  · intro d a b v0 v1 v2 x L M Q; exact Wp_sim (by decide +kernel : decode (cd 60) 2 = .ok (.iload_n 3, 1)) rfl rfl
  · intro d a b c L M Q; exact Wp_sim (by decide +kernel : decode (cd 60) 3 = .ok (.ineg , 1)) rfl rfl
  · intro d a b c L M Q; exact q_invV (pz := 607) (n := 2) (c := 9) (m := 3) (k := c) (As := [.int b, .int a]) (rest := []) (by decide +kernel : decode (cd 60) 4 = .ok (.invokevirtual 75, 3)) (by decide +kernel) (by decide +kernel) rfl rfl (Nat.le_of_ble_eq_true rfl) (Nat.le_of_ble_eq_true rfl) rfl
  · intro d x L M Q; exact Wp_sim (by decide +kernel : decode (cd 60) 7 = .ok (.aload_n 0, 1)) rfl rfl
  · intro d a v0 v1 x L M Q; exact Wp_sim (by decide +kernel : decode (cd 60) 8 = .ok (.iload_n 2, 1)) rfl rfl
  · intro d a b v0 v1 v2 x L M Q; exact Wp_sim (by decide +kernel : decode (cd 60) 9 = .ok (.iload_n 3, 1)) rfl rfl
  · intro d a b c L M Q; exact q_invV (pz := 607) (n := 2) (c := 9) (m := 3) (k := c) (As := [.int b, .int a]) (rest := []) (by decide +kernel : decode (cd 60) 10 = .ok (.invokevirtual 75, 3)) (by decide +kernel) (by decide +kernel) rfl rfl (Nat.le_of_ble_eq_true rfl) (Nat.le_of_ble_eq_true rfl) rfl
  · intro d x L M Q; exact Wp_sim (by decide +kernel : decode (cd 60) 13 = .ok (.aload_n 0, 1)) rfl rfl
  · intro d a L M Q; exact q_getR (p := 198) (by decide +kernel : decode (cd 60) 14 = .ok (.getfield 21, 3)) (by decide +kernel) (by decide +kernel)
  · intro d a L M Q; exact q_getR (p := 173) (by decide +kernel : decode (cd 60) 17 = .ok (.getfield 80, 3)) (by decide +kernel) (by decide +kernel)
  · intro d a v0 v1 x L M Q; exact Wp_sim (by decide +kernel : decode (cd 60) 20 = .ok (.iload_n 2, 1)) rfl rfl
  · intro d a b v0 x L M Q; exact Wp_sim (by decide +kernel : decode (cd 60) 21 = .ok (.iload_n 1, 1)) rfl rfl
  · intro d a b c v0 v1 v2 x L M Q; exact Wp_sim (by decide +kernel : decode (cd 60) 22 = .ok (.iload_n 3, 1)) rfl rfl
  · intro d a b c d2 L M Q; exact q_invV (pz := 626) (n := 3) (c := 2) (m := 4) (k := d2) (As := [.int c, .int b, .int a]) (rest := []) (by decide +kernel : decode (cd 60) 23 = .ok (.invokevirtual 90, 3)) (by decide +kernel) (by decide +kernel) rfl rfl (Nat.le_of_ble_eq_true rfl) (Nat.le_of_ble_eq_true rfl) rfl
  · intro d L M Q; exact q_vret (by decide +kernel : decode (cd 60) 26 = .ok (.return_ , 1)) (by decide +kernel)

/- 61: Town.maySue -/
set_option maxRecDepth 10000 in
theorem e61 : (∀ (d : Nat) (x : Nat) (L : List Value) (M : Mem) (Q : Option Value → Mem → Prop), Wp d 61 0 (.ref x :: L) [] M Q ↔ Wp d 61 1 (.ref x :: L) [.ref x] M Q) ∧
    (∀ (d : Nat) (a : Nat) (L : List Value) (M : Mem) (Q : Option Value → Mem → Prop), Wp d 61 1 L [.ref a] M Q ↔ (isK a 9 = true ∧ Wp d 61 4 L [.ref (rt a 1)] M Q)) ∧
    (∀ (d : Nat) (a : Nat) (L : List Value) (M : Mem) (Q : Option Value → Mem → Prop), Wp d 61 4 L [.ref a] M Q ↔ (isK a 6 = true ∧ Wp d 61 7 L [.ref (rt a 2)] M Q)) ∧
    (∀ (d : Nat) (a : Nat) (v0 : Value) (v1 : Value) (x : Int32) (L : List Value) (M : Mem) (Q : Option Value → Mem → Prop), Wp d 61 7 (v0 :: v1 :: .int x :: L) [.ref a] M Q ↔ Wp d 61 8 (v0 :: v1 :: .int x :: L) [.int x, .ref a] M Q) ∧
    (∀ (d : Nat) (a : Int32) (b : Nat) (v0 : Value) (x : Int32) (L : List Value) (M : Mem) (Q : Option Value → Mem → Prop), Wp d 61 8 (v0 :: .int x :: L) [.int a, .ref b] M Q ↔ Wp d 61 9 (v0 :: .int x :: L) [.int x, .int a, .ref b] M Q) ∧
    (∀ (d : Nat) (a : Int32) (b : Int32) (c : Nat) (L : List Value) (M : Mem) (Q : Option Value → Mem → Prop), Wp (d + 1) 61 9 L [.int a, .int b, .ref c] M Q ↔ (isK c 2 = true ∧ Wp d 12 0 [.ref c, .int b, .int a] [] M (fun r M2 => Wp (d + 1) 61 12 L (r.toList ++ []) M2 Q))) ∧
    (∀ (d : Nat) (a : Int32) (L : List Value) (M : Mem) (Q : Option Value → Mem → Prop), Wp d 61 12 L [.int a] M Q ↔ (if 0 < a then Wp d 61 15 L [] M Q else Wp d 61 32 L [] M Q)) ∧
    (∀ (d : Nat) (x : Nat) (L : List Value) (M : Mem) (Q : Option Value → Mem → Prop), Wp d 61 15 (.ref x :: L) [] M Q ↔ Wp d 61 16 (.ref x :: L) [.ref x] M Q) ∧
    (∀ (d : Nat) (a : Nat) (L : List Value) (M : Mem) (Q : Option Value → Mem → Prop), Wp d 61 16 L [.ref a] M Q ↔ (isK a 9 = true ∧ Wp d 61 19 L [.ref (rt a 1)] M Q)) ∧
    (∀ (d : Nat) (a : Nat) (L : List Value) (M : Mem) (Q : Option Value → Mem → Prop), Wp d 61 19 L [.ref a] M Q ↔ (isK a 6 = true ∧ Wp d 61 22 L [.ref (rt a 0)] M Q)) ∧
    (∀ (d : Nat) (a : Nat) (v0 : Value) (v1 : Value) (x : Int32) (L : List Value) (M : Mem) (Q : Option Value → Mem → Prop), Wp d 61 22 (v0 :: v1 :: .int x :: L) [.ref a] M Q ↔ Wp d 61 23 (v0 :: v1 :: .int x :: L) [.int x, .ref a] M Q) ∧
    (∀ (d : Nat) (a : Int32) (b : Nat) (L : List Value) (M : Mem) (Q : Option Value → Mem → Prop), Wp d 61 23 L [.int a, .ref b] M Q ↔ ((isR b = true ∧ inr a (lnm M b)) ∧ Wp d 61 24 L [.int (M b a.toNatClampNeg)] M Q)) ∧
    (∀ (d : Nat) (a : Int32) (L : List Value) (M : Mem) (Q : Option Value → Mem → Prop), Wp d 61 24 L [.int a] M Q ↔ Wp d 61 25 L [.int 1, .int a] M Q) ∧
    (∀ (d : Nat) (a : Int32) (b : Int32) (L : List Value) (M : Mem) (Q : Option Value → Mem → Prop), Wp d 61 25 L [.int a, .int b] M Q ↔ (if b = a then Wp d 61 28 L [] M Q else Wp d 61 32 L [] M Q)) ∧
    (∀ (d : Nat) (L : List Value) (M : Mem) (Q : Option Value → Mem → Prop), Wp d 61 28 L [] M Q ↔ Wp d 61 29 L [.int 1] M Q) ∧
    (∀ (d : Nat) (a : Int32) (L : List Value) (M : Mem) (Q : Option Value → Mem → Prop), Wp d 61 29 L [.int a] M Q ↔ Wp d 61 33 L [.int a] M Q) ∧
    (∀ (d : Nat) (L : List Value) (M : Mem) (Q : Option Value → Mem → Prop), Wp d 61 32 L [] M Q ↔ Wp d 61 33 L [.int 0] M Q) ∧
    (∀ (d : Nat) (a : Int32) (L : List Value) (M : Mem) (Q : Option Value → Mem → Prop), Wp d 61 33 L [.int a] M Q ↔ ((a = 0 ∨ a = 1) ∧ Q (some (.int a)) M)) := by
  refine ⟨?_, ?_, ?_, ?_, ?_, ?_, ?_, ?_, ?_, ?_, ?_, ?_, ?_, ?_, ?_, ?_, ?_, ?_⟩
  · intro d x L M Q; exact Wp_sim (by decide +kernel : decode (cd 61) 0 = .ok (.aload_n 0, 1)) rfl rfl
  · intro d a L M Q; exact q_getR (p := 198) (by decide +kernel : decode (cd 61) 1 = .ok (.getfield 21, 3)) (by decide +kernel) (by decide +kernel)
  · intro d a L M Q; exact q_getR (p := 173) (by decide +kernel : decode (cd 61) 4 = .ok (.getfield 80, 3)) (by decide +kernel) (by decide +kernel)
  · intro d a v0 v1 x L M Q; exact Wp_sim (by decide +kernel : decode (cd 61) 7 = .ok (.iload_n 2, 1)) rfl rfl
  · intro d a b v0 x L M Q; exact Wp_sim (by decide +kernel : decode (cd 61) 8 = .ok (.iload_n 1, 1)) rfl rfl
  · intro d a b c L M Q; exact q_invV (pz := 638) (n := 2) (c := 2) (m := 3) (k := c) (As := [.int b, .int a]) (rest := []) (by decide +kernel : decode (cd 61) 9 = .ok (.invokevirtual 94, 3)) (by decide +kernel) (by decide +kernel) rfl rfl (Nat.le_of_ble_eq_true rfl) (Nat.le_of_ble_eq_true rfl) rfl
  · intro d a L M Q; exact q_zle (by decide +kernel : decode (cd 61) 12 = .ok (.ifCond .le 20, 3)) (by decide)
  · intro d x L M Q; exact Wp_sim (by decide +kernel : decode (cd 61) 15 = .ok (.aload_n 0, 1)) rfl rfl
  · intro d a L M Q; exact q_getR (p := 198) (by decide +kernel : decode (cd 61) 16 = .ok (.getfield 21, 3)) (by decide +kernel) (by decide +kernel)
  · intro d a L M Q; exact q_getR (p := 165) (by decide +kernel : decode (cd 61) 19 = .ok (.getfield 36, 3)) (by decide +kernel) (by decide +kernel)
  · intro d a v0 v1 x L M Q; exact Wp_sim (by decide +kernel : decode (cd 61) 22 = .ok (.iload_n 2, 1)) rfl rfl
  · intro d a b L M Q; exact q_ald (by decide +kernel : decode (cd 61) 23 = .ok (.iaload , 1))
  · intro d a L M Q; exact Wp_sim (by decide +kernel : decode (cd 61) 24 = .ok (.iconst 1, 1)) rfl rfl
  · intro d a b L M Q; exact q_ine (by decide +kernel : decode (cd 61) 25 = .ok (.if_icmp .ne 7, 3)) (by decide)
  · intro d L M Q; exact Wp_sim (by decide +kernel : decode (cd 61) 28 = .ok (.iconst 1, 1)) rfl rfl
  · intro d a L M Q; exact q_goto (by decide +kernel : decode (cd 61) 29 = .ok (.goto 4, 3)) (by decide)
  · intro d L M Q; exact Wp_sim (by decide +kernel : decode (cd 61) 32 = .ok (.iconst 0, 1)) rfl rfl
  · intro d a L M Q; exact q_zret (by decide +kernel : decode (cd 61) 33 = .ok (.ireturn , 1)) (by decide +kernel)

/- 62: Town.bringToCourt -/
set_option maxRecDepth 10000 in
theorem e62 : (∀ (d : Nat) (x : Nat) (L : List Value) (M : Mem) (Q : Option Value → Mem → Prop), Wp d 62 0 (.ref x :: L) [] M Q ↔ Wp d 62 1 (.ref x :: L) [.ref x] M Q) ∧
    (∀ (d : Nat) (a : Nat) (L : List Value) (M : Mem) (Q : Option Value → Mem → Prop), Wp d 62 1 L [.ref a] M Q ↔ (isK a 9 = true ∧ Wp d 62 4 L [.ref (rt a 1)] M Q)) ∧
    (∀ (d : Nat) (a : Nat) (L : List Value) (M : Mem) (Q : Option Value → Mem → Prop), Wp d 62 4 L [.ref a] M Q ↔ (isK a 6 = true ∧ Wp d 62 7 L [.ref (rt a 2)] M Q)) ∧
    (∀ (d : Nat) (a : Nat) (v0 : Value) (v1 : Value) (x : Int32) (L : List Value) (M : Mem) (Q : Option Value → Mem → Prop), Wp d 62 7 (v0 :: v1 :: .int x :: L) [.ref a] M Q ↔ Wp d 62 8 (v0 :: v1 :: .int x :: L) [.int x, .ref a] M Q) ∧
    (∀ (d : Nat) (a : Int32) (b : Nat) (v0 : Value) (x : Int32) (L : List Value) (M : Mem) (Q : Option Value → Mem → Prop), Wp d 62 8 (v0 :: .int x :: L) [.int a, .ref b] M Q ↔ Wp d 62 9 (v0 :: .int x :: L) [.int x, .int a, .ref b] M Q) ∧
    (∀ (d : Nat) (a : Int32) (b : Int32) (c : Nat) (L : List Value) (M : Mem) (Q : Option Value → Mem → Prop), Wp (d + 1) 62 9 L [.int a, .int b, .ref c] M Q ↔ (isK c 2 = true ∧ Wp d 12 0 [.ref c, .int b, .int a] [] M (fun r M2 => Wp (d + 1) 62 12 L (r.toList ++ []) M2 Q))) ∧
    (∀ (d : Nat) (a : Int32) (v0 : Value) (v1 : Value) (v2 : Value) (x : Value) (L : List Value) (M : Mem) (Q : Option Value → Mem → Prop), Wp d 62 12 (v0 :: v1 :: v2 :: x :: L) [.int a] M Q ↔ Wp d 62 13 (v0 :: v1 :: clr v2 :: .int a :: L) [] M Q) ∧
    (∀ (d : Nat) (L : List Value) (M : Mem) (Q : Option Value → Mem → Prop), Wp d 62 13 L [] M Q ↔ Wp d 62 14 L [.int 0] M Q) ∧
    (∀ (d : Nat) (a : Int32) (v0 : Value) (v1 : Value) (v2 : Value) (x : Int32) (L : List Value) (M : Mem) (Q : Option Value → Mem → Prop), Wp d 62 14 (v0 :: v1 :: v2 :: .int x :: L) [.int a] M Q ↔ Wp d 62 15 (v0 :: v1 :: v2 :: .int x :: L) [.int x, .int a] M Q) ∧
    (∀ (d : Nat) (a : Int32) (b : Int32) (x : Nat) (L : List Value) (M : Mem) (Q : Option Value → Mem → Prop), Wp d 62 15 (.ref x :: L) [.int a, .int b] M Q ↔ Wp d 62 16 (.ref x :: L) [.ref x, .int a, .int b] M Q) ∧
    (∀ (d : Nat) (a : Nat) (b : Int32) (c : Int32) (L : List Value) (M : Mem) (Q : Option Value → Mem → Prop), Wp d 62 16 L [.ref a, .int b, .int c] M Q ↔ (isK a 9 = true ∧ Wp d 62 19 L [.ref (rt a 1), .int b, .int c] M Q)) ∧
    (∀ (d : Nat) (a : Nat) (b : Int32) (c : Int32) (L : List Value) (M : Mem) (Q : Option Value → Mem → Prop), Wp d 62 19 L [.ref a, .int b, .int c] M Q ↔ (isK a 6 = true ∧ Wp d 62 22 L [.ref (rt a 1), .int b, .int c] M Q)) ∧
    (∀ (d : Nat) (a : Nat) (b : Int32) (c : Int32) (v0 : Value) (v1 : Value) (x : Int32) (L : List Value) (M : Mem) (Q : Option Value → Mem → Prop), Wp d 62 22 (v0 :: v1 :: .int x :: L) [.ref a, .int b, .int c] M Q ↔ Wp d 62 23 (v0 :: v1 :: .int x :: L) [.int x, .ref a, .int b, .int c] M Q) ∧
    (∀ (d : Nat) (a : Int32) (b : Nat) (c : Int32) (d2 : Int32) (L : List Value) (M : Mem) (Q : Option Value → Mem → Prop), Wp d 62 23 L [.int a, .ref b, .int c, .int d2] M Q ↔ ((isR b = true ∧ inr a (lnm M b)) ∧ Wp d 62 24 L [.int (M b a.toNatClampNeg), .int c, .int d2] M Q)) ∧
    (∀ (d : Nat) (a : Int32) (b : Int32) (c : Int32) (L : List Value) (M : Mem) (Q : Option Value → Mem → Prop), Wp (d + 1) 62 24 L [.int a, .int b, .int c] M Q ↔ Wp (d + 1) 62 27 L [.int (mn b a), .int c] M Q) ∧
    (∀ (d : Nat) (a : Int32) (b : Int32) (L : List Value) (M : Mem) (Q : Option Value → Mem → Prop), Wp (d + 1) 62 27 L [.int a, .int b] M Q ↔ Wp (d + 1) 62 30 L [.int (mx b a)] M Q) ∧
    (∀ (d : Nat) (a : Int32) (v0 : Value) (v1 : Value) (v2 : Value) (v3 : Value) (x : Value) (L : List Value) (M : Mem) (Q : Option Value → Mem → Prop), Wp d 62 30 (v0 :: v1 :: v2 :: v3 :: x :: L) [.int a] M Q ↔ Wp d 62 32 (v0 :: v1 :: v2 :: clr v3 :: .int a :: L) [] M Q) ∧
    (∀ (d : Nat) (x : Nat) (L : List Value) (M : Mem) (Q : Option Value → Mem → Prop), Wp d 62 32 (.ref x :: L) [] M Q ↔ Wp d 62 33 (.ref x :: L) [.ref x] M Q) ∧
    (∀ (d : Nat) (a : Nat) (v0 : Value) (v1 : Value) (x : Int32) (L : List Value) (M : Mem) (Q : Option Value → Mem → Prop), Wp d 62 33 (v0 :: v1 :: .int x :: L) [.ref a] M Q ↔ Wp d 62 34 (v0 :: v1 :: .int x :: L) [.int x, .ref a] M Q) ∧
    (∀ (d : Nat) (a : Int32) (b : Nat) (v0 : Value) (v1 : Value) (v2 : Value) (v3 : Value) (x : Int32) (L : List Value) (M : Mem) (Q : Option Value → Mem → Prop), Wp d 62 34 (v0 :: v1 :: v2 :: v3 :: .int x :: L) [.int a, .ref b] M Q ↔ Wp d 62 36 (v0 :: v1 :: v2 :: v3 :: .int x :: L) [.int x, .int a, .ref b] M Q) ∧
    (∀ (d : Nat) (a : Int32) (b : Int32) (c : Nat) (L : List Value) (M : Mem) (Q : Option Value → Mem → Prop), Wp d 62 36 L [.int a, .int b, .ref c] M Q ↔ Wp d 62 37 L [.int (-a), .int b, .ref c] M Q) ∧
    (∀ (d : Nat) (a : Int32) (b : Int32) (c : Nat) (L : List Value) (M : Mem) (Q : Option Value → Mem → Prop), Wp (d + 1) 62 37 L [.int a, .int b, .ref c] M Q ↔ (isK c 9 = true ∧ Wp d 58 0 [.ref c, .int b, .int a] [] M (fun r M2 => Wp (d + 1) 62 40 L (r.toList ++ []) M2 Q))) ∧
    (∀ (d : Nat) (x : Nat) (L : List Value) (M : Mem) (Q : Option Value → Mem → Prop), Wp d 62 40 (.ref x :: L) [] M Q ↔ Wp d 62 41 (.ref x :: L) [.ref x] M Q) ∧
    (∀ (d : Nat) (a : Nat) (v0 : Value) (x : Int32) (L : List Value) (M : Mem) (Q : Option Value → Mem → Prop), Wp d 62 41 (v0 :: .int x :: L) [.ref a] M Q ↔ Wp d 62 42 (v0 :: .int x :: L) [.int x, .ref a] M Q) ∧
    (∀ (d : Nat) (a : Int32) (b : Nat) (v0 : Value) (v1 : Value) (v2 : Value) (v3 : Value) (x : Int32) (L : List Value) (M : Mem) (Q : Option Value → Mem → Prop), Wp d 62 42 (v0 :: v1 :: v2 :: v3 :: .int x :: L) [.int a, .ref b] M Q ↔ Wp d 62 44 (v0 :: v1 :: v2 :: v3 :: .int x :: L) [.int x, .int a, .ref b] M Q) ∧
    (∀ (d : Nat) (a : Int32) (b : Int32) (c : Nat) (L : List Value) (M : Mem) (Q : Option Value → Mem → Prop), Wp (d + 1) 62 44 L [.int a, .int b, .ref c] M Q ↔ (isK c 9 = true ∧ Wp d 58 0 [.ref c, .int b, .int a] [] M (fun r M2 => Wp (d + 1) 62 47 L (r.toList ++ []) M2 Q))) ∧
    (∀ (d : Nat) (x : Nat) (L : List Value) (M : Mem) (Q : Option Value → Mem → Prop), Wp d 62 47 (.ref x :: L) [] M Q ↔ Wp d 62 48 (.ref x :: L) [.ref x] M Q) ∧
    (∀ (d : Nat) (a : Nat) (L : List Value) (M : Mem) (Q : Option Value → Mem → Prop), Wp d 62 48 L [.ref a] M Q ↔ (isK a 9 = true ∧ Wp d 62 51 L [.ref (rt a 1)] M Q)) ∧
    (∀ (d : Nat) (a : Nat) (L : List Value) (M : Mem) (Q : Option Value → Mem → Prop), Wp d 62 51 L [.ref a] M Q ↔ (isK a 6 = true ∧ Wp d 62 54 L [.ref (rt a 2)] M Q)) ∧
    (∀ (d : Nat) (a : Nat) (v0 : Value) (v1 : Value) (x : Int32) (L : List Value) (M : Mem) (Q : Option Value → Mem → Prop), Wp d 62 54 (v0 :: v1 :: .int x :: L) [.ref a] M Q ↔ Wp d 62 55 (v0 :: v1 :: .int x :: L) [.int x, .ref a] M Q) ∧
    (∀ (d : Nat) (a : Int32) (b : Nat) (v0 : Value) (x : Int32) (L : List Value) (M : Mem) (Q : Option Value → Mem → Prop), Wp d 62 55 (v0 :: .int x :: L) [.int a, .ref b] M Q ↔ Wp d 62 56 (v0 :: .int x :: L) [.int x, .int a, .ref b] M Q) ∧
    (∀ (d : Nat) (a : Int32) (b : Int32) (c : Nat) (v0 : Value) (v1 : Value) (v2 : Value) (v3 : Value) (x : Int32) (L : List Value) (M : Mem) (Q : Option Value → Mem → Prop), Wp d 62 56 (v0 :: v1 :: v2 :: v3 :: .int x :: L) [.int a, .int b, .ref c] M Q ↔ Wp d 62 58 (v0 :: v1 :: v2 :: v3 :: .int x :: L) [.int x, .int a, .int b, .ref c] M Q) ∧
    (∀ (d : Nat) (a : Int32) (b : Int32) (c : Int32) (d2 : Nat) (L : List Value) (M : Mem) (Q : Option Value → Mem → Prop), Wp d 62 58 L [.int a, .int b, .int c, .ref d2] M Q ↔ Wp d 62 59 L [.int (-a), .int b, .int c, .ref d2] M Q) ∧
    (∀ (d : Nat) (a : Int32) (b : Int32) (c : Int32) (d2 : Nat) (L : List Value) (M : Mem) (Q : Option Value → Mem → Prop), Wp (d + 1) 62 59 L [.int a, .int b, .int c, .ref d2] M Q ↔ (isK d2 2 = true ∧ Wp d 13 0 [.ref d2, .int c, .int b, .int a] [] M (fun r M2 => Wp (d + 1) 62 62 L (r.toList ++ []) M2 Q))) ∧
    (∀ (d : Nat) (v0 : Value) (v1 : Value) (v2 : Value) (v3 : Value) (x : Int32) (L : List Value) (M : Mem) (Q : Option Value → Mem → Prop), Wp d 62 62 (v0 :: v1 :: v2 :: v3 :: .int x :: L) [] M Q ↔ Wp d 62 64 (v0 :: v1 :: v2 :: v3 :: .int x :: L) [.int x] M Q) ∧
    (∀ (d : Nat) (a : Int32) (v0 : Value) (v1 : Value) (v2 : Value) (x : Int32) (L : List Value) (M : Mem) (Q : Option Value → Mem → Prop), Wp d 62 64 (v0 :: v1 :: v2 :: .int x :: L) [.int a] M Q ↔ Wp d 62 65 (v0 :: v1 :: v2 :: .int x :: L) [.int x, .int a] M Q) ∧
    (∀ (d : Nat) (a : Int32) (b : Int32) (L : List Value) (M : Mem) (Q : Option Value → Mem → Prop), Wp d 62 65 L [.int a, .int b] M Q ↔ (if b < a then Wp d 62 68 L [] M Q else Wp d 62 78 L [] M Q)) ∧
    (∀ (d : Nat) (x : Nat) (L : List Value) (M : Mem) (Q : Option Value → Mem → Prop), Wp d 62 68 (.ref x :: L) [] M Q ↔ Wp d 62 69 (.ref x :: L) [.ref x] M Q) ∧
    (∀ (d : Nat) (a : Nat) (L : List Value) (M : Mem) (Q : Option Value → Mem → Prop), Wp d 62 69 L [.ref a] M Q ↔ (isK a 9 = true ∧ Wp d 62 72 L [.ref (rt a 1)] M Q)) ∧
    (∀ (d : Nat) (a : Nat) (L : List Value) (M : Mem) (Q : Option Value → Mem → Prop), Wp d 62 72 L [.ref a] M Q ↔ (isK a 6 = true ∧ Wp d 62 75 L [.ref (rt a 0)] M Q)) ∧
    (∀ (d : Nat) (a : Nat) (v0 : Value) (v1 : Value) (x : Int32) (L : List Value) (M : Mem) (Q : Option Value → Mem → Prop), Wp d 62 75 (v0 :: v1 :: .int x :: L) [.ref a] M Q ↔ Wp d 62 76 (v0 :: v1 :: .int x :: L) [.int x, .ref a] M Q) ∧
    (∀ (d : Nat) (a : Int32) (b : Nat) (L : List Value) (M : Mem) (Q : Option Value → Mem → Prop), Wp d 62 76 L [.int a, .ref b] M Q ↔ Wp d 62 77 L [.int 4, .int a, .ref b] M Q) ∧
    (∀ (d : Nat) (a : Int32) (b : Int32) (c : Nat) (L : List Value) (M : Mem) (Q : Option Value → Mem → Prop), Wp d 62 77 L [.int a, .int b, .ref c] M Q ↔ ((isK c 13 = true ∧ inr b (lnm M c)) ∧ Wp d 62 78 L [] (up2 M c b.toNatClampNeg a) Q)) ∧
    (∀ (d : Nat) (v0 : Value) (v1 : Value) (v2 : Value) (v3 : Value) (x : Int32) (L : List Value) (M : Mem) (Q : Option Value → Mem → Prop), Wp d 62 78 (v0 :: v1 :: v2 :: v3 :: .int x :: L) [] M Q ↔ Wp d 62 80 (v0 :: v1 :: v2 :: v3 :: .int x :: L) [.int x] M Q) ∧
    (∀ (d : Nat) (a : Int32) (L : List Value) (M : Mem) (Q : Option Value → Mem → Prop), Wp d 62 80 L [.int a] M Q ↔ Q (some (.int a)) M) := by
  refine ⟨?_, ?_, ?_, ?_, ?_, ?_, ?_, ?_, ?_, ?_, ?_, ?_, ?_, ?_, ?_, ?_, ?_, ?_, ?_, ?_, ?_, ?_, ?_, ?_, ?_, ?_, ?_, ?_, ?_, ?_, ?_, ?_, ?_, ?_, ?_, ?_, ?_, ?_, ?_, ?_, ?_, ?_, ?_, ?_, ?_⟩
  · intro d x L M Q; exact Wp_sim (by decide +kernel : decode (cd 62) 0 = .ok (.aload_n 0, 1)) rfl rfl
  · intro d a L M Q; exact q_getR (p := 198) (by decide +kernel : decode (cd 62) 1 = .ok (.getfield 21, 3)) (by decide +kernel) (by decide +kernel)
  · intro d a L M Q; exact q_getR (p := 173) (by decide +kernel : decode (cd 62) 4 = .ok (.getfield 80, 3)) (by decide +kernel) (by decide +kernel)
  · intro d a v0 v1 x L M Q; exact Wp_sim (by decide +kernel : decode (cd 62) 7 = .ok (.iload_n 2, 1)) rfl rfl
  · intro d a b v0 x L M Q; exact Wp_sim (by decide +kernel : decode (cd 62) 8 = .ok (.iload_n 1, 1)) rfl rfl
  · intro d a b c L M Q; exact q_invV (pz := 638) (n := 2) (c := 2) (m := 3) (k := c) (As := [.int b, .int a]) (rest := []) (by decide +kernel : decode (cd 62) 9 = .ok (.invokevirtual 94, 3)) (by decide +kernel) (by decide +kernel) rfl rfl (Nat.le_of_ble_eq_true rfl) (Nat.le_of_ble_eq_true rfl) rfl
  · intro d a v0 v1 v2 x L M Q; exact Wp_sim (by decide +kernel : decode (cd 62) 12 = .ok (.istore_n 3, 1)) rfl rfl
  · intro d L M Q; exact Wp_sim (by decide +kernel : decode (cd 62) 13 = .ok (.iconst 0, 1)) rfl rfl
  · intro d a v0 v1 v2 x L M Q; exact Wp_sim (by decide +kernel : decode (cd 62) 14 = .ok (.iload_n 3, 1)) rfl rfl
  · intro d a b x L M Q; exact Wp_sim (by decide +kernel : decode (cd 62) 15 = .ok (.aload_n 0, 1)) rfl rfl
  · intro d a b c L M Q; exact q_getR (p := 198) (by decide +kernel : decode (cd 62) 16 = .ok (.getfield 21, 3)) (by decide +kernel) (by decide +kernel)
  · intro d a b c L M Q; exact q_getR (p := 169) (by decide +kernel : decode (cd 62) 19 = .ok (.getfield 66, 3)) (by decide +kernel) (by decide +kernel)
  · intro d a b c v0 v1 x L M Q; exact Wp_sim (by decide +kernel : decode (cd 62) 22 = .ok (.iload_n 2, 1)) rfl rfl
  · intro d a b c d2 L M Q; exact q_ald (by decide +kernel : decode (cd 62) 23 = .ok (.iaload , 1))
  · intro d a b c L M Q; exact q_min (p := 471) (by decide +kernel : decode (cd 62) 24 = .ok (.invokestatic 97, 3)) (by decide +kernel) (Nat.le_of_ble_eq_true rfl)
  · intro d a b L M Q; exact q_max (p := 474) (by decide +kernel : decode (cd 62) 27 = .ok (.invokestatic 102, 3)) (by decide +kernel) (Nat.le_of_ble_eq_true rfl)
  · intro d a v0 v1 v2 v3 x L M Q; exact Wp_sim (by decide +kernel : decode (cd 62) 30 = .ok (.istore 4, 2)) rfl rfl
  · intro d x L M Q; exact Wp_sim (by decide +kernel : decode (cd 62) 32 = .ok (.aload_n 0, 1)) rfl rfl
  · intro d a v0 v1 x L M Q; exact Wp_sim (by decide +kernel : decode (cd 62) 33 = .ok (.iload_n 2, 1)) rfl rfl
  · intro d a b v0 v1 v2 v3 x L M Q; exact Wp_sim (by decide +kernel : decode (cd 62) 34 = .ok (.iload 4, 2)) rfl rfl
  · intro d a b c L M Q; exact Wp_sim (by decide +kernel : decode (cd 62) 36 = .ok (.ineg , 1)) rfl rfl
  · intro d a b c L M Q; exact q_invV (pz := 607) (n := 2) (c := 9) (m := 3) (k := c) (As := [.int b, .int a]) (rest := []) (by decide +kernel : decode (cd 62) 37 = .ok (.invokevirtual 75, 3)) (by decide +kernel) (by decide +kernel) rfl rfl (Nat.le_of_ble_eq_true rfl) (Nat.le_of_ble_eq_true rfl) rfl
  · intro d x L M Q; exact Wp_sim (by decide +kernel : decode (cd 62) 40 = .ok (.aload_n 0, 1)) rfl rfl
  · intro d a v0 x L M Q; exact Wp_sim (by decide +kernel : decode (cd 62) 41 = .ok (.iload_n 1, 1)) rfl rfl
  · intro d a b v0 v1 v2 v3 x L M Q; exact Wp_sim (by decide +kernel : decode (cd 62) 42 = .ok (.iload 4, 2)) rfl rfl
  · intro d a b c L M Q; exact q_invV (pz := 607) (n := 2) (c := 9) (m := 3) (k := c) (As := [.int b, .int a]) (rest := []) (by decide +kernel : decode (cd 62) 44 = .ok (.invokevirtual 75, 3)) (by decide +kernel) (by decide +kernel) rfl rfl (Nat.le_of_ble_eq_true rfl) (Nat.le_of_ble_eq_true rfl) rfl
  · intro d x L M Q; exact Wp_sim (by decide +kernel : decode (cd 62) 47 = .ok (.aload_n 0, 1)) rfl rfl
  · intro d a L M Q; exact q_getR (p := 198) (by decide +kernel : decode (cd 62) 48 = .ok (.getfield 21, 3)) (by decide +kernel) (by decide +kernel)
  · intro d a L M Q; exact q_getR (p := 173) (by decide +kernel : decode (cd 62) 51 = .ok (.getfield 80, 3)) (by decide +kernel) (by decide +kernel)
  · intro d a v0 v1 x L M Q; exact Wp_sim (by decide +kernel : decode (cd 62) 54 = .ok (.iload_n 2, 1)) rfl rfl
  · intro d a b v0 x L M Q; exact Wp_sim (by decide +kernel : decode (cd 62) 55 = .ok (.iload_n 1, 1)) rfl rfl
  · intro d a b c v0 v1 v2 v3 x L M Q; exact Wp_sim (by decide +kernel : decode (cd 62) 56 = .ok (.iload 4, 2)) rfl rfl
  · intro d a b c d2 L M Q; exact Wp_sim (by decide +kernel : decode (cd 62) 58 = .ok (.ineg , 1)) rfl rfl
  · intro d a b c d2 L M Q; exact q_invV (pz := 626) (n := 3) (c := 2) (m := 4) (k := d2) (As := [.int c, .int b, .int a]) (rest := []) (by decide +kernel : decode (cd 62) 59 = .ok (.invokevirtual 90, 3)) (by decide +kernel) (by decide +kernel) rfl rfl (Nat.le_of_ble_eq_true rfl) (Nat.le_of_ble_eq_true rfl) rfl
  · intro d v0 v1 v2 v3 x L M Q; exact Wp_sim (by decide +kernel : decode (cd 62) 62 = .ok (.iload 4, 2)) rfl rfl
  · intro d a v0 v1 v2 x L M Q; exact Wp_sim (by decide +kernel : decode (cd 62) 64 = .ok (.iload_n 3, 1)) rfl rfl
  · intro d a b L M Q; exact q_ige (by decide +kernel : decode (cd 62) 65 = .ok (.if_icmp .ge 13, 3)) (by decide)
  · intro d x L M Q; exact Wp_sim (by decide +kernel : decode (cd 62) 68 = .ok (.aload_n 0, 1)) rfl rfl
  · intro d a L M Q; exact q_getR (p := 198) (by decide +kernel : decode (cd 62) 69 = .ok (.getfield 21, 3)) (by decide +kernel) (by decide +kernel)
  · intro d a L M Q; exact q_getR (p := 165) (by decide +kernel : decode (cd 62) 72 = .ok (.getfield 36, 3)) (by decide +kernel) (by decide +kernel)
  · intro d a v0 v1 x L M Q; exact Wp_sim (by decide +kernel : decode (cd 62) 75 = .ok (.iload_n 2, 1)) rfl rfl
  · intro d a b L M Q; exact Wp_sim (by decide +kernel : decode (cd 62) 76 = .ok (.iconst 4, 1)) rfl rfl
  · intro d a b c L M Q; exact q_ast (by decide +kernel : decode (cd 62) 77 = .ok (.iastore , 1))
  · intro d v0 v1 v2 v3 x L M Q; exact Wp_sim (by decide +kernel : decode (cd 62) 78 = .ok (.iload 4, 2)) rfl rfl
  · intro d a L M Q; exact q_iret (by decide +kernel : decode (cd 62) 80 = .ok (.ireturn , 1)) (by decide +kernel)

/- 63: Town.firstWeekToSettle -/
set_option maxRecDepth 10000 in
theorem e63 : (∀ (d : Nat) (x : Nat) (L : List Value) (M : Mem) (Q : Option Value → Mem → Prop), Wp d 63 0 (.ref x :: L) [] M Q ↔ Wp d 63 1 (.ref x :: L) [.ref x] M Q) ∧
    (∀ (d : Nat) (a : Nat) (L : List Value) (M : Mem) (Q : Option Value → Mem → Prop), Wp d 63 1 L [.ref a] M Q ↔ (isK a 9 = true ∧ Wp d 63 4 L [.ref (rt a 1)] M Q)) ∧
    (∀ (d : Nat) (a : Nat) (L : List Value) (M : Mem) (Q : Option Value → Mem → Prop), Wp d 63 4 L [.ref a] M Q ↔ (isK a 6 = true ∧ Wp d 63 7 L [.ref (rt a 1)] M Q)) ∧
    (∀ (d : Nat) (a : Nat) (v0 : Value) (x : Int32) (L : List Value) (M : Mem) (Q : Option Value → Mem → Prop), Wp d 63 7 (v0 :: .int x :: L) [.ref a] M Q ↔ Wp d 63 8 (v0 :: .int x :: L) [.int x, .ref a] M Q) ∧
    (∀ (d : Nat) (a : Int32) (b : Nat) (L : List Value) (M : Mem) (Q : Option Value → Mem → Prop), Wp d 63 8 L [.int a, .ref b] M Q ↔ ((isR b = true ∧ inr a (lnm M b)) ∧ Wp d 63 9 L [.int (M b a.toNatClampNeg)] M Q)) ∧
    (∀ (d : Nat) (a : Int32) (v0 : Value) (v1 : Value) (x : Value) (L : List Value) (M : Mem) (Q : Option Value → Mem → Prop), Wp d 63 9 (v0 :: v1 :: x :: L) [.int a] M Q ↔ Wp d 63 10 (v0 :: clr v1 :: .int a :: L) [] M Q) ∧
    (∀ (d : Nat) (L : List Value) (M : Mem) (Q : Option Value → Mem → Prop), Wp d 63 10 L [] M Q ↔ Wp d 63 11 L [.int 0] M Q) ∧
    (∀ (d : Nat) (a : Int32) (v0 : Value) (v1 : Value) (v2 : Value) (x : Value) (L : List Value) (M : Mem) (Q : Option Value → Mem → Prop), Wp d 63 11 (v0 :: v1 :: v2 :: x :: L) [.int a] M Q ↔ Wp d 63 12 (v0 :: v1 :: clr v2 :: .int a :: L) [] M Q) ∧
    (∀ (d : Nat) (a : Int32) (L : List Value) (M : Mem) (Q : Option Value → Mem → Prop), Wp d 63 13 L [.int a] M Q ↔ Wp d 63 16 L [.int 200, .int a] M Q) ∧
    (∀ (d : Nat) (a : Int32) (b : Int32) (L : List Value) (M : Mem) (Q : Option Value → Mem → Prop), Wp d 63 16 L [.int a, .int b] M Q ↔ (if a < b then Wp d 63 70 L [] M Q else Wp d 63 19 L [] M Q)) ∧
    (∀ (d : Nat) (v0 : Value) (v1 : Value) (x : Int32) (L : List Value) (M : Mem) (Q : Option Value → Mem → Prop), Wp d 63 19 (v0 :: v1 :: .int x :: L) [] M Q ↔ Wp d 63 20 (v0 :: v1 :: .int x :: L) [.int x] M Q) ∧
    (∀ (d : Nat) (a : Int32) (x : Nat) (L : List Value) (M : Mem) (Q : Option Value → Mem → Prop), Wp d 63 20 (.ref x :: L) [.int a] M Q ↔ Wp d 63 21 (.ref x :: L) [.ref x, .int a] M Q) ∧
    (∀ (d : Nat) (a : Nat) (b : Int32) (v0 : Value) (x : Int32) (L : List Value) (M : Mem) (Q : Option Value → Mem → Prop), Wp d 63 21 (v0 :: .int x :: L) [.ref a, .int b] M Q ↔ Wp d 63 22 (v0 :: .int x :: L) [.int x, .ref a, .int b] M Q) ∧
    (∀ (d : Nat) (a : Int32) (b : Nat) (c : Int32) (x : Nat) (L : List Value) (M : Mem) (Q : Option Value → Mem → Prop), Wp d 63 22 (.ref x :: L) [.int a, .ref b, .int c] M Q ↔ Wp d 63 23 (.ref x :: L) [.ref x, .int a, .ref b, .int c] M Q) ∧
    (∀ (d : Nat) (a : Nat) (b : Int32) (c : Nat) (d2 : Int32) (L : List Value) (M : Mem) (Q : Option Value → Mem → Prop), Wp d 63 23 L [.ref a, .int b, .ref c, .int d2] M Q ↔ (isK a 9 = true ∧ Wp d 63 26 L [.ref (rt a 1), .int b, .ref c, .int d2] M Q)) ∧
    (∀ (d : Nat) (a : Nat) (b : Int32) (c : Nat) (d2 : Int32) (L : List Value) (M : Mem) (Q : Option Value → Mem → Prop), Wp d 63 26 L [.ref a, .int b, .ref c, .int d2] M Q ↔ (isK a 6 = true ∧ Wp d 63 29 L [.int (M a 3), .int b, .ref c, .int d2] M Q)) ∧
    (∀ (d : Nat) (a : Int32) (b : Int32) (c : Nat) (d2 : Int32) (v0 : Value) (v1 : Value) (v2 : Value) (x : Int32) (L : List Value) (M : Mem) (Q : Option Value → Mem → Prop), Wp d 63 29 (v0 :: v1 :: v2 :: .int x :: L) [.int a, .int b, .ref c, .int d2] M Q ↔ Wp d 63 30 (v0 :: v1 :: v2 :: .int x :: L) [.int x, .int a, .int b, .ref c, .int d2] M Q) ∧
    (∀ (d : Nat) (a : Int32) (b : Int32) (c : Int32) (d2 : Nat) (e : Int32) (L : List Value) (M : Mem) (Q : Option Value → Mem → Prop), Wp d 63 30 L [.int a, .int b, .int c, .ref d2, .int e] M Q ↔ Wp d 63 31 L [.int (b + a), .int c, .ref d2, .int e] M Q) ∧
    (∀ (d : Nat) (a : Int32) (b : Int32) (c : Nat) (d2 : Int32) (L : List Value) (M : Mem) (Q : Option Value → Mem → Prop), Wp (d + 1) 63 31 L [.int a, .int b, .ref c, .int d2] M Q ↔ (isK c 9 = true ∧ Wp d 50 0 [.ref c, .int b, .int a, .null] [] M (fun r M2 => Wp (d + 1) 63 34 L (r.toList ++ [.int d2]) M2 Q))) ∧
    (∀ (d : Nat) (a : Int32) (b : Int32) (L : List Value) (M : Mem) (Q : Option Value → Mem → Prop), Wp d 63 34 L [.int a, .int b] M Q ↔ (if b < a then Wp d 63 39 L [] M Q else Wp d 63 37 L [] M Q)) ∧
    (∀ (d : Nat) (v0 : Value) (v1 : Value) (v2 : Value) (x : Int32) (L : List Value) (M : Mem) (Q : Option Value → Mem → Prop), Wp d 63 37 (v0 :: v1 :: v2 :: .int x :: L) [] M Q ↔ Wp d 63 38 (v0 :: v1 :: v2 :: .int x :: L) [.int x] M Q) ∧
    (∀ (d : Nat) (a : Int32) (L : List Value) (M : Mem) (Q : Option Value → Mem → Prop), Wp d 63 38 L [.int a] M Q ↔ Q (some (.int a)) M) ∧
    (∀ (d : Nat) (x : Nat) (L : List Value) (M : Mem) (Q : Option Value → Mem → Prop), Wp d 63 39 (.ref x :: L) [] M Q ↔ Wp d 63 40 (.ref x :: L) [.ref x] M Q) ∧
    (∀ (d : Nat) (a : Nat) (v0 : Value) (v1 : Value) (x : Int32) (L : List Value) (M : Mem) (Q : Option Value → Mem → Prop), Wp d 63 40 (v0 :: v1 :: .int x :: L) [.ref a] M Q ↔ Wp d 63 41 (v0 :: v1 :: .int x :: L) [.int x, .ref a] M Q) ∧
    (∀ (d : Nat) (a : Int32) (b : Nat) (v0 : Value) (x : Int32) (L : List Value) (M : Mem) (Q : Option Value → Mem → Prop), Wp d 63 41 (v0 :: .int x :: L) [.int a, .ref b] M Q ↔ Wp d 63 42 (v0 :: .int x :: L) [.int x, .int a, .ref b] M Q) ∧
    (∀ (d : Nat) (a : Int32) (b : Int32) (c : Nat) (x : Nat) (L : List Value) (M : Mem) (Q : Option Value → Mem → Prop), Wp d 63 42 (.ref x :: L) [.int a, .int b, .ref c] M Q ↔ Wp d 63 43 (.ref x :: L) [.ref x, .int a, .int b, .ref c] M Q) ∧
    (∀ (d : Nat) (a : Nat) (b : Int32) (c : Int32) (d2 : Nat) (L : List Value) (M : Mem) (Q : Option Value → Mem → Prop), Wp d 63 43 L [.ref a, .int b, .int c, .ref d2] M Q ↔ (isK a 9 = true ∧ Wp d 63 46 L [.ref (rt a 1), .int b, .int c, .ref d2] M Q)) ∧
    (∀ (d : Nat) (a : Nat) (b : Int32) (c : Int32) (d2 : Nat) (L : List Value) (M : Mem) (Q : Option Value → Mem → Prop), Wp d 63 46 L [.ref a, .int b, .int c, .ref d2] M Q ↔ (isK a 6 = true ∧ Wp d 63 49 L [.ref (rt a 0), .int b, .int c, .ref d2] M Q)) ∧
    (∀ (d : Nat) (a : Nat) (b : Int32) (c : Int32) (d2 : Nat) (v0 : Value) (x : Int32) (L : List Value) (M : Mem) (Q : Option Value → Mem → Prop), Wp d 63 49 (v0 :: .int x :: L) [.ref a, .int b, .int c, .ref d2] M Q ↔ Wp d 63 50 (v0 :: .int x :: L) [.int x, .ref a, .int b, .int c, .ref d2] M Q) ∧
    (∀ (d : Nat) (a : Int32) (b : Nat) (c : Int32) (d2 : Int32) (e : Nat) (L : List Value) (M : Mem) (Q : Option Value → Mem → Prop), Wp d 63 50 L [.int a, .ref b, .int c, .int d2, .ref e] M Q ↔ ((isR b = true ∧ inr a (lnm M b)) ∧ Wp d 63 51 L [.int (M b a.toNatClampNeg), .int c, .int d2, .ref e] M Q)) ∧
    (∀ (d : Nat) (a : Int32) (b : Int32) (c : Int32) (d2 : Nat) (L : List Value) (M : Mem) (Q : Option Value → Mem → Prop), Wp d 63 51 L [.int a, .int b, .int c, .ref d2] M Q ↔ Wp d 63 52 L [.int 1, .int a, .int b, .int c, .ref d2] M Q) ∧
    (∀ (d : Nat) (a : Int32) (b : Int32) (c : Int32) (d2 : Int32) (e : Nat) (L : List Value) (M : Mem) (Q : Option Value → Mem → Prop), Wp d 63 52 L [.int a, .int b, .int c, .int d2, .ref e] M Q ↔ (if b = a then Wp d 63 55 L [.int c, .int d2, .ref e] M Q else Wp d 63 59 L [.int c, .int d2, .ref e] M Q)) ∧
    (∀ (d : Nat) (a : Int32) (b : Int32) (c : Nat) (L : List Value) (M : Mem) (Q : Option Value → Mem → Prop), Wp d 63 55 L [.int a, .int b, .ref c] M Q ↔ Wp d 63 56 L [.int 1, .int a, .int b, .ref c] M Q) ∧
    (∀ (d : Nat) (a : Int32) (b : Int32) (c : Int32) (d2 : Nat) (L : List Value) (M : Mem) (Q : Option Value → Mem → Prop), Wp d 63 56 L [.int a, .int b, .int c, .ref d2] M Q ↔ Wp d 63 60 L [.int a, .int b, .int c, .ref d2] M Q) ∧
    (∀ (d : Nat) (a : Int32) (b : Int32) (c : Nat) (L : List Value) (M : Mem) (Q : Option Value → Mem → Prop), Wp d 63 59 L [.int a, .int b, .ref c] M Q ↔ Wp d 63 60 L [.int 0, .int a, .int b, .ref c] M Q) ∧
    (∀ (d : Nat) (a : Int32) (b : Int32) (c : Int32) (d2 : Nat) (L : List Value) (M : Mem) (Q : Option Value → Mem → Prop), Wp (d + 1) 63 60 L [.int a, .int b, .int c, .ref d2] M Q ↔ (isK d2 9 = true ∧ Wp d 47 0 [.ref d2, .int c, .int b, .int a, .null] [] M (fun r M2 => Wp (d + 1) 63 63 L (r.toList ++ []) M2 Q))) ∧
    (∀ (d : Nat) (a : Int32) (v0 : Value) (v1 : Value) (x : Value) (L : List Value) (M : Mem) (Q : Option Value → Mem → Prop), Wp d 63 63 (v0 :: v1 :: x :: L) [.int a] M Q ↔ Wp d 63 64 (v0 :: clr v1 :: .int a :: L) [] M Q) ∧
    (∀ (d : Nat) (v0 : Value) (v1 : Value) (v2 : Value) (x : Int32) (L : List Value) (M : Mem) (Q : Option Value → Mem → Prop), Wp d 63 64 (v0 :: v1 :: v2 :: .int x :: L) [] M Q ↔ Wp d 63 67 (v0 :: v1 :: clr v2 :: .int (x + 1) :: L) [] M Q) ∧
    (∀ (d : Nat) (L : List Value) (M : Mem) (Q : Option Value → Mem → Prop), Wp d 63 67 L [] M Q ↔ Wp d 63 12 L [] M Q) ∧
    (∀ (d : Nat) (L : List Value) (M : Mem) (Q : Option Value → Mem → Prop), Wp d 63 70 L [] M Q ↔ Wp d 63 71 L [.int (-1)] M Q) ∧
    (∀ (d : Nat) (a : Int32) (L : List Value) (M : Mem) (Q : Option Value → Mem → Prop), Wp d 63 71 L [.int a] M Q ↔ Q (some (.int a)) M) := by
  refine ⟨?_, ?_, ?_, ?_, ?_, ?_, ?_, ?_, ?_, ?_, ?_, ?_, ?_, ?_, ?_, ?_, ?_, ?_, ?_, ?_, ?_, ?_, ?_, ?_, ?_, ?_, ?_, ?_, ?_, ?_, ?_, ?_, ?_, ?_, ?_, ?_, ?_, ?_, ?_, ?_, ?_⟩
  · intro d x L M Q; exact Wp_sim (by decide +kernel : decode (cd 63) 0 = .ok (.aload_n 0, 1)) rfl rfl
  · intro d a L M Q; exact q_getR (p := 198) (by decide +kernel : decode (cd 63) 1 = .ok (.getfield 21, 3)) (by decide +kernel) (by decide +kernel)
  · intro d a L M Q; exact q_getR (p := 169) (by decide +kernel : decode (cd 63) 4 = .ok (.getfield 66, 3)) (by decide +kernel) (by decide +kernel)
  · intro d a v0 x L M Q; exact Wp_sim (by decide +kernel : decode (cd 63) 7 = .ok (.iload_n 1, 1)) rfl rfl
  · intro d a b L M Q; exact q_ald (by decide +kernel : decode (cd 63) 8 = .ok (.iaload , 1))
  · intro d a v0 v1 x L M Q; exact Wp_sim (by decide +kernel : decode (cd 63) 9 = .ok (.istore_n 2, 1)) rfl rfl
  · intro d L M Q; exact Wp_sim (by decide +kernel : decode (cd 63) 10 = .ok (.iconst 0, 1)) rfl rfl
  · intro d a v0 v1 v2 x L M Q; exact Wp_sim (by decide +kernel : decode (cd 63) 11 = .ok (.istore_n 3, 1)) rfl rfl
  · intro d a L M Q; exact Wp_sim (by decide +kernel : decode (cd 63) 13 = .ok (.sipush 200, 3)) rfl rfl
  · intro d a b L M Q; exact q_igt (by decide +kernel : decode (cd 63) 16 = .ok (.if_icmp .gt 54, 3)) (by decide)
  · intro d v0 v1 x L M Q; exact Wp_sim (by decide +kernel : decode (cd 63) 19 = .ok (.iload_n 2, 1)) rfl rfl
  · intro d a x L M Q; exact Wp_sim (by decide +kernel : decode (cd 63) 20 = .ok (.aload_n 0, 1)) rfl rfl
  · intro d a b v0 x L M Q; exact Wp_sim (by decide +kernel : decode (cd 63) 21 = .ok (.iload_n 1, 1)) rfl rfl
  · intro d a b c x L M Q; exact Wp_sim (by decide +kernel : decode (cd 63) 22 = .ok (.aload_n 0, 1)) rfl rfl
  · intro d a b c d2 L M Q; exact q_getR (p := 198) (by decide +kernel : decode (cd 63) 23 = .ok (.getfield 21, 3)) (by decide +kernel) (by decide +kernel)
  · intro d a b c d2 L M Q; exact q_getI (p := 176) (by decide +kernel : decode (cd 63) 26 = .ok (.getfield 69, 3)) (by decide +kernel) (by decide +kernel)
  · intro d a b c d2 v0 v1 v2 x L M Q; exact Wp_sim (by decide +kernel : decode (cd 63) 29 = .ok (.iload_n 3, 1)) rfl rfl
  · intro d a b c d2 e L M Q; exact Wp_sim (by decide +kernel : decode (cd 63) 30 = .ok (.iadd , 1)) rfl rfl
  · intro d a b c d2 L M Q; exact q_invV (pz := 602) (n := 2) (c := 9) (m := 4) (k := c) (As := [.int b, .int a]) (rest := [.int d2]) (by decide +kernel : decode (cd 63) 31 = .ok (.invokevirtual 72, 3)) (by decide +kernel) (by decide +kernel) rfl rfl (Nat.le_of_ble_eq_true rfl) (Nat.le_of_ble_eq_true rfl) rfl
  · intro d a b L M Q; exact q_ilt (by decide +kernel : decode (cd 63) 34 = .ok (.if_icmp .lt 5, 3)) (by decide)
  · intro d v0 v1 v2 x L M Q; exact Wp_sim (by decide +kernel : decode (cd 63) 37 = .ok (.iload_n 3, 1)) rfl rfl
  · intro d a L M Q; exact q_iret (by decide +kernel : decode (cd 63) 38 = .ok (.ireturn , 1)) (by decide +kernel)
  · intro d x L M Q; exact Wp_sim (by decide +kernel : decode (cd 63) 39 = .ok (.aload_n 0, 1)) rfl rfl
  · intro d a v0 v1 x L M Q; exact Wp_sim (by decide +kernel : decode (cd 63) 40 = .ok (.iload_n 2, 1)) rfl rfl
  · intro d a b v0 x L M Q; exact Wp_sim (by decide +kernel : decode (cd 63) 41 = .ok (.iload_n 1, 1)) rfl rfl
  · intro d a b c x L M Q; exact Wp_sim (by decide +kernel : decode (cd 63) 42 = .ok (.aload_n 0, 1)) rfl rfl
  · intro d a b c d2 L M Q; exact q_getR (p := 198) (by decide +kernel : decode (cd 63) 43 = .ok (.getfield 21, 3)) (by decide +kernel) (by decide +kernel)
  · intro d a b c d2 L M Q; exact q_getR (p := 165) (by decide +kernel : decode (cd 63) 46 = .ok (.getfield 36, 3)) (by decide +kernel) (by decide +kernel)
  · intro d a b c d2 v0 x L M Q; exact Wp_sim (by decide +kernel : decode (cd 63) 49 = .ok (.iload_n 1, 1)) rfl rfl
  · intro d a b c d2 e L M Q; exact q_ald (by decide +kernel : decode (cd 63) 50 = .ok (.iaload , 1))
  · intro d a b c d2 L M Q; exact Wp_sim (by decide +kernel : decode (cd 63) 51 = .ok (.iconst 1, 1)) rfl rfl
  · intro d a b c d2 e L M Q; exact q_ine (by decide +kernel : decode (cd 63) 52 = .ok (.if_icmp .ne 7, 3)) (by decide)
  · intro d a b c L M Q; exact Wp_sim (by decide +kernel : decode (cd 63) 55 = .ok (.iconst 1, 1)) rfl rfl
  · intro d a b c d2 L M Q; exact q_goto (by decide +kernel : decode (cd 63) 56 = .ok (.goto 4, 3)) (by decide)
  · intro d a b c L M Q; exact Wp_sim (by decide +kernel : decode (cd 63) 59 = .ok (.iconst 0, 1)) rfl rfl
  · intro d a b c d2 L M Q; exact q_invV (pz := 464) (n := 3) (c := 9) (m := 5) (k := d2) (As := [.int c, .int b, .int a]) (rest := []) (by decide +kernel : decode (cd 63) 60 = .ok (.invokevirtual 125, 3)) (by decide +kernel) (by decide +kernel) rfl rfl (Nat.le_of_ble_eq_true rfl) (Nat.le_of_ble_eq_true rfl) rfl
  · intro d a v0 v1 x L M Q; exact Wp_sim (by decide +kernel : decode (cd 63) 63 = .ok (.istore_n 2, 1)) rfl rfl
  · intro d v0 v1 v2 x L M Q; exact Wp_sim (by decide +kernel : decode (cd 63) 64 = .ok (.iinc 3 1, 3)) rfl rfl
  · intro d L M Q; exact q_goto (by decide +kernel : decode (cd 63) 67 = .ok (.goto (-55), 3)) (by decide)
  · intro d L M Q; exact Wp_sim (by decide +kernel : decode (cd 63) 70 = .ok (.iconst (-1), 1)) rfl rfl
  · intro d a L M Q; exact q_iret (by decide +kernel : decode (cd 63) 71 = .ok (.ireturn , 1)) (by decide +kernel)
theorem h63_12 : (∀ (d : Nat) (v0 : Value) (v1 : Value) (v2 : Value) (x : Int32) (L : List Value) (M : Mem) (Q : Option Value → Mem → Prop), Wp d 63 12 (v0 :: v1 :: v2 :: .int x :: L) [] M Q ↔ Wp d 63 13 (v0 :: v1 :: v2 :: .int x :: L) [.int x] M Q) := by
  intro d v0 v1 v2 x L M Q; exact Wp_sim (by decide +kernel : decode (cd 63) 12 = .ok (.iload_n 3, 1)) rfl rfl

/- 64: Town.cheapestWeekToSettle -/
set_option maxRecDepth 10000 in
theorem e64_0 : (∀ (d : Nat) (x : Nat) (L : List Value) (M : Mem) (Q : Option Value → Mem → Prop), Wp d 64 0 (.ref x :: L) [] M Q ↔ Wp d 64 1 (.ref x :: L) [.ref x] M Q) ∧
    (∀ (d : Nat) (a : Nat) (L : List Value) (M : Mem) (Q : Option Value → Mem → Prop), Wp d 64 1 L [.ref a] M Q ↔ (isK a 9 = true ∧ Wp d 64 4 L [.ref (rt a 1)] M Q)) ∧
    (∀ (d : Nat) (a : Nat) (L : List Value) (M : Mem) (Q : Option Value → Mem → Prop), Wp d 64 4 L [.ref a] M Q ↔ (isK a 6 = true ∧ Wp d 64 7 L [.ref (rt a 1)] M Q)) ∧
    (∀ (d : Nat) (a : Nat) (v0 : Value) (x : Int32) (L : List Value) (M : Mem) (Q : Option Value → Mem → Prop), Wp d 64 7 (v0 :: .int x :: L) [.ref a] M Q ↔ Wp d 64 8 (v0 :: .int x :: L) [.int x, .ref a] M Q) ∧
    (∀ (d : Nat) (a : Int32) (b : Nat) (L : List Value) (M : Mem) (Q : Option Value → Mem → Prop), Wp d 64 8 L [.int a, .ref b] M Q ↔ ((isR b = true ∧ inr a (lnm M b)) ∧ Wp d 64 9 L [.int (M b a.toNatClampNeg)] M Q)) ∧
    (∀ (d : Nat) (a : Int32) (v0 : Value) (v1 : Value) (x : Value) (L : List Value) (M : Mem) (Q : Option Value → Mem → Prop), Wp d 64 9 (v0 :: v1 :: x :: L) [.int a] M Q ↔ Wp d 64 10 (v0 :: clr v1 :: .int a :: L) [] M Q) ∧
    (∀ (d : Nat) (L : List Value) (M : Mem) (Q : Option Value → Mem → Prop), Wp d 64 10 L [] M Q ↔ Wp d 64 11 L [.int (-1)] M Q) ∧
    (∀ (d : Nat) (a : Int32) (v0 : Value) (v1 : Value) (v2 : Value) (x : Value) (L : List Value) (M : Mem) (Q : Option Value → Mem → Prop), Wp d 64 11 (v0 :: v1 :: v2 :: x :: L) [.int a] M Q ↔ Wp d 64 12 (v0 :: v1 :: clr v2 :: .int a :: L) [] M Q) ∧
    (∀ (d : Nat) (L : List Value) (M : Mem) (Q : Option Value → Mem → Prop), Wp d 64 12 L [] M Q ↔ Wp d 64 13 L [.int 0] M Q) ∧
    (∀ (d : Nat) (a : Int32) (v0 : Value) (v1 : Value) (v2 : Value) (v3 : Value) (x : Value) (L : List Value) (M : Mem) (Q : Option Value → Mem → Prop), Wp d 64 13 (v0 :: v1 :: v2 :: v3 :: x :: L) [.int a] M Q ↔ Wp d 64 15 (v0 :: v1 :: v2 :: clr v3 :: .int a :: L) [] M Q) ∧
    (∀ (d : Nat) (L : List Value) (M : Mem) (Q : Option Value → Mem → Prop), Wp d 64 15 L [] M Q ↔ Wp d 64 16 L [.int 0] M Q) ∧
    (∀ (d : Nat) (a : Int32) (v0 : Value) (v1 : Value) (v2 : Value) (v3 : Value) (v4 : Value) (x : Value) (L : List Value) (M : Mem) (Q : Option Value → Mem → Prop), Wp d 64 16 (v0 :: v1 :: v2 :: v3 :: v4 :: x :: L) [.int a] M Q ↔ Wp d 64 18 (v0 :: v1 :: v2 :: v3 :: clr v4 :: .int a :: L) [] M Q) ∧
    (∀ (d : Nat) (a : Int32) (L : List Value) (M : Mem) (Q : Option Value → Mem → Prop), Wp d 64 20 L [.int a] M Q ↔ Wp d 64 22 L [.int 60, .int a] M Q) ∧
    (∀ (d : Nat) (a : Int32) (b : Int32) (L : List Value) (M : Mem) (Q : Option Value → Mem → Prop), Wp d 64 22 L [.int a, .int b] M Q ↔ (if a < b then Wp d 64 115 L [] M Q else Wp d 64 25 L [] M Q)) ∧
    (∀ (d : Nat) (x : Nat) (L : List Value) (M : Mem) (Q : Option Value → Mem → Prop), Wp d 64 25 (.ref x :: L) [] M Q ↔ Wp d 64 26 (.ref x :: L) [.ref x] M Q) ∧
    (∀ (d : Nat) (a : Nat) (v0 : Value) (x : Int32) (L : List Value) (M : Mem) (Q : Option Value → Mem → Prop), Wp d 64 26 (v0 :: .int x :: L) [.ref a] M Q ↔ Wp d 64 27 (v0 :: .int x :: L) [.int x, .ref a] M Q) ∧
    (∀ (d : Nat) (a : Int32) (b : Nat) (v0 : Value) (v1 : Value) (v2 : Value) (v3 : Value) (v4 : Value) (x : Int32) (L : List Value) (M : Mem) (Q : Option Value → Mem → Prop), Wp d 64 27 (v0 :: v1 :: v2 :: v3 :: v4 :: .int x :: L) [.int a, .ref b] M Q ↔ Wp d 64 29 (v0 :: v1 :: v2 :: v3 :: v4 :: .int x :: L) [.int x, .int a, .ref b] M Q) ∧
    (∀ (d : Nat) (a : Int32) (b : Int32) (c : Nat) (L : List Value) (M : Mem) (Q : Option Value → Mem → Prop), Wp (d + 1) 64 29 L [.int a, .int b, .ref c] M Q ↔ (isK c 9 = true ∧ Wp d 65 0 [.ref c, .int b, .int a, .null] [] M (fun r M2 => Wp (d + 1) 64 32 L (r.toList ++ []) M2 Q))) ∧
    (∀ (d : Nat) (a : Int32) (v0 : Value) (v1 : Value) (v2 : Value) (v3 : Value) (v4 : Value) (v5 : Value) (x : Value) (L : List Value) (M : Mem) (Q : Option Value → Mem → Prop), Wp d 64 32 (v0 :: v1 :: v2 :: v3 :: v4 :: v5 :: x :: L) [.int a] M Q ↔ Wp d 64 34 (v0 :: v1 :: v2 :: v3 :: v4 :: clr v5 :: .int a :: L) [] M Q) ∧
    (∀ (d : Nat) (v0 : Value) (v1 : Value) (x : Int32) (L : List Value) (M : Mem) (Q : Option Value → Mem → Prop), Wp d 64 34 (v0 :: v1 :: .int x :: L) [] M Q ↔ Wp d 64 35 (v0 :: v1 :: .int x :: L) [.int x] M Q) ∧
    (∀ (d : Nat) (a : Int32) (x : Nat) (L : List Value) (M : Mem) (Q : Option Value → Mem → Prop), Wp d 64 35 (.ref x :: L) [.int a] M Q ↔ Wp d 64 36 (.ref x :: L) [.ref x, .int a] M Q) ∧
    (∀ (d : Nat) (a : Nat) (b : Int32) (v0 : Value) (x : Int32) (L : List Value) (M : Mem) (Q : Option Value → Mem → Prop), Wp d 64 36 (v0 :: .int x :: L) [.ref a, .int b] M Q ↔ Wp d 64 37 (v0 :: .int x :: L) [.int x, .ref a, .int b] M Q) ∧
    (∀ (d : Nat) (a : Int32) (b : Nat) (c : Int32) (x : Nat) (L : List Value) (M : Mem) (Q : Option Value → Mem → Prop), Wp d 64 37 (.ref x :: L) [.int a, .ref b, .int c] M Q ↔ Wp d 64 38 (.ref x :: L) [.ref x, .int a, .ref b, .int c] M Q) ∧
    (∀ (d : Nat) (a : Nat) (b : Int32) (c : Nat) (d2 : Int32) (L : List Value) (M : Mem) (Q : Option Value → Mem → Prop), Wp d 64 38 L [.ref a, .int b, .ref c, .int d2] M Q ↔ (isK a 9 = true ∧ Wp d 64 41 L [.ref (rt a 1), .int b, .ref c, .int d2] M Q)) ∧
    (∀ (d : Nat) (a : Nat) (b : Int32) (c : Nat) (d2 : Int32) (L : List Value) (M : Mem) (Q : Option Value → Mem → Prop), Wp d 64 41 L [.ref a, .int b, .ref c, .int d2] M Q ↔ (isK a 6 = true ∧ Wp d 64 44 L [.int (M a 3), .int b, .ref c, .int d2] M Q)) ∧
    (∀ (d : Nat) (a : Int32) (b : Int32) (c : Nat) (d2 : Int32) (v0 : Value) (v1 : Value) (v2 : Value) (v3 : Value) (v4 : Value) (x : Int32) (L : List Value) (M : Mem) (Q : Option Value → Mem → Prop), Wp d 64 44 (v0 :: v1 :: v2 :: v3 :: v4 :: .int x :: L) [.int a, .int b, .ref c, .int d2] M Q ↔ Wp d 64 46 (v0 :: v1 :: v2 :: v3 :: v4 :: .int x :: L) [.int x, .int a, .int b, .ref c, .int d2] M Q) ∧
    (∀ (d : Nat) (a : Int32) (b : Int32) (c : Int32) (d2 : Nat) (e : Int32) (L : List Value) (M : Mem) (Q : Option Value → Mem → Prop), Wp d 64 46 L [.int a, .int b, .int c, .ref d2, .int e] M Q ↔ Wp d 64 47 L [.int (b + a), .int c, .ref d2, .int e] M Q) ∧
    (∀ (d : Nat) (a : Int32) (b : Int32) (c : Nat) (d2 : Int32) (L : List Value) (M : Mem) (Q : Option Value → Mem → Prop), Wp (d + 1) 64 47 L [.int a, .int b, .ref c, .int d2] M Q ↔ (isK c 9 = true ∧ Wp d 50 0 [.ref c, .int b, .int a, .null] [] M (fun r M2 => Wp (d + 1) 64 50 L (r.toList ++ [.int d2]) M2 Q))) ∧
    (∀ (d : Nat) (a : Int32) (b : Int32) (L : List Value) (M : Mem) (Q : Option Value → Mem → Prop), Wp d 64 50 L [.int a, .int b] M Q ↔ (if b < a then Wp d 64 57 L [] M Q else Wp d 64 53 L [] M Q)) ∧
    (∀ (d : Nat) (L : List Value) (M : Mem) (Q : Option Value → Mem → Prop), Wp d 64 53 L [] M Q ↔ Wp d 64 54 L [.int 1] M Q) ∧
    (∀ (d : Nat) (a : Int32) (L : List Value) (M : Mem) (Q : Option Value → Mem → Prop), Wp d 64 54 L [.int a] M Q ↔ Wp d 64 58 L [.int a] M Q) ∧
    (∀ (d : Nat) (L : List Value) (M : Mem) (Q : Option Value → Mem → Prop), Wp d 64 57 L [] M Q ↔ Wp d 64 58 L [.int 0] M Q) ∧
    (∀ (d : Nat) (a : Int32) (v0 : Value) (v1 : Value) (v2 : Value) (v3 : Value) (v4 : Value) (v5 : Value) (v6 : Value) (x : Value) (L : List Value) (M : Mem) (Q : Option Value → Mem → Prop), Wp d 64 58 (v0 :: v1 :: v2 :: v3 :: v4 :: v5 :: v6 :: x :: L) [.int a] M Q ↔ Wp d 64 60 (v0 :: v1 :: v2 :: v3 :: v4 :: v5 :: clr v6 :: .int a :: L) [] M Q) ∧
    (∀ (d : Nat) (v0 : Value) (v1 : Value) (v2 : Value) (v3 : Value) (v4 : Value) (v5 : Value) (v6 : Value) (x : Int32) (L : List Value) (M : Mem) (Q : Option Value → Mem → Prop), Wp d 64 60 (v0 :: v1 :: v2 :: v3 :: v4 :: v5 :: v6 :: .int x :: L) [] M Q ↔ Wp d 64 62 (v0 :: v1 :: v2 :: v3 :: v4 :: v5 :: v6 :: .int x :: L) [.int x] M Q) ∧
    (∀ (d : Nat) (a : Int32) (L : List Value) (M : Mem) (Q : Option Value → Mem → Prop), Wp d 64 62 L [.int a] M Q ↔ (if a = 0 then Wp d 64 84 L [] M Q else Wp d 64 65 L [] M Q)) ∧
    (∀ (d : Nat) (v0 : Value) (v1 : Value) (v2 : Value) (x : Int32) (L : List Value) (M : Mem) (Q : Option Value → Mem → Prop), Wp d 64 65 (v0 :: v1 :: v2 :: .int x :: L) [] M Q ↔ Wp d 64 66 (v0 :: v1 :: v2 :: .int x :: L) [.int x] M Q) ∧
    (∀ (d : Nat) (a : Int32) (L : List Value) (M : Mem) (Q : Option Value → Mem → Prop), Wp d 64 66 L [.int a] M Q ↔ Wp d 64 67 L [.int (-1), .int a] M Q) ∧
    (∀ (d : Nat) (a : Int32) (b : Int32) (L : List Value) (M : Mem) (Q : Option Value → Mem → Prop), Wp d 64 67 L [.int a, .int b] M Q ↔ (if b = a then Wp d 64 77 L [] M Q else Wp d 64 70 L [] M Q)) ∧
    (∀ (d : Nat) (v0 : Value) (v1 : Value) (v2 : Value) (v3 : Value) (v4 : Value) (v5 : Value) (x : Int32) (L : List Value) (M : Mem) (Q : Option Value → Mem → Prop), Wp d 64 70 (v0 :: v1 :: v2 :: v3 :: v4 :: v5 :: .int x :: L) [] M Q ↔ Wp d 64 72 (v0 :: v1 :: v2 :: v3 :: v4 :: v5 :: .int x :: L) [.int x] M Q) ∧
    (∀ (d : Nat) (a : Int32) (v0 : Value) (v1 : Value) (v2 : Value) (v3 : Value) (x : Int32) (L : List Value) (M : Mem) (Q : Option Value → Mem → Prop), Wp d 64 72 (v0 :: v1 :: v2 :: v3 :: .int x :: L) [.int a] M Q ↔ Wp d 64 74 (v0 :: v1 :: v2 :: v3 :: .int x :: L) [.int x, .int a] M Q) ∧
    (∀ (d : Nat) (a : Int32) (b : Int32) (L : List Value) (M : Mem) (Q : Option Value → Mem → Prop), Wp d 64 74 L [.int a, .int b] M Q ↔ (if b < a then Wp d 64 77 L [] M Q else Wp d 64 84 L [] M Q)) ∧
    (∀ (d : Nat) (v0 : Value) (v1 : Value) (v2 : Value) (v3 : Value) (v4 : Value) (x : Int32) (L : List Value) (M : Mem) (Q : Option Value → Mem → Prop), Wp d 64 77 (v0 :: v1 :: v2 :: v3 :: v4 :: .int x :: L) [] M Q ↔ Wp d 64 79 (v0 :: v1 :: v2 :: v3 :: v4 :: .int x :: L) [.int x] M Q) ∧
    (∀ (d : Nat) (a : Int32) (v0 : Value) (v1 : Value) (v2 : Value) (x : Value) (L : List Value) (M : Mem) (Q : Option Value → Mem → Prop), Wp d 64 79 (v0 :: v1 :: v2 :: x :: L) [.int a] M Q ↔ Wp d 64 80 (v0 :: v1 :: clr v2 :: .int a :: L) [] M Q) ∧
    (∀ (d : Nat) (v0 : Value) (v1 : Value) (v2 : Value) (v3 : Value) (v4 : Value) (v5 : Value) (x : Int32) (L : List Value) (M : Mem) (Q : Option Value → Mem → Prop), Wp d 64 80 (v0 :: v1 :: v2 :: v3 :: v4 :: v5 :: .int x :: L) [] M Q ↔ Wp d 64 82 (v0 :: v1 :: v2 :: v3 :: v4 :: v5 :: .int x :: L) [.int x] M Q) ∧
    (∀ (d : Nat) (a : Int32) (v0 : Value) (v1 : Value) (v2 : Value) (v3 : Value) (x : Value) (L : List Value) (M : Mem) (Q : Option Value → Mem → Prop), Wp d 64 82 (v0 :: v1 :: v2 :: v3 :: x :: L) [.int a] M Q ↔ Wp d 64 84 (v0 :: v1 :: v2 :: clr v3 :: .int a :: L) [] M Q) ∧
    (∀ (d : Nat) (x : Nat) (L : List Value) (M : Mem) (Q : Option Value → Mem → Prop), Wp d 64 84 (.ref x :: L) [] M Q ↔ Wp d 64 85 (.ref x :: L) [.ref x] M Q) ∧
    (∀ (d : Nat) (a : Nat) (v0 : Value) (v1 : Value) (x : Int32) (L : List Value) (M : Mem) (Q : Option Value → Mem → Prop), Wp d 64 85 (v0 :: v1 :: .int x :: L) [.ref a] M Q ↔ Wp d 64 86 (v0 :: v1 :: .int x :: L) [.int x, .ref a] M Q) ∧
    (∀ (d : Nat) (a : Int32) (b : Nat) (v0 : Value) (x : Int32) (L : List Value) (M : Mem) (Q : Option Value → Mem → Prop), Wp d 64 86 (v0 :: .int x :: L) [.int a, .ref b] M Q ↔ Wp d 64 87 (v0 :: .int x :: L) [.int x, .int a, .ref b] M Q) ∧
    (∀ (d : Nat) (a : Int32) (b : Int32) (c : Nat) (x : Nat) (L : List Value) (M : Mem) (Q : Option Value → Mem → Prop), Wp d 64 87 (.ref x :: L) [.int a, .int b, .ref c] M Q ↔ Wp d 64 88 (.ref x :: L) [.ref x, .int a, .int b, .ref c] M Q) ∧
    (∀ (d : Nat) (a : Nat) (b : Int32) (c : Int32) (d2 : Nat) (L : List Value) (M : Mem) (Q : Option Value → Mem → Prop), Wp d 64 88 L [.ref a, .int b, .int c, .ref d2] M Q ↔ (isK a 9 = true ∧ Wp d 64 91 L [.ref (rt a 1), .int b, .int c, .ref d2] M Q)) ∧
    (∀ (d : Nat) (a : Nat) (b : Int32) (c : Int32) (d2 : Nat) (L : List Value) (M : Mem) (Q : Option Value → Mem → Prop), Wp d 64 91 L [.ref a, .int b, .int c, .ref d2] M Q ↔ (isK a 6 = true ∧ Wp d 64 94 L [.ref (rt a 0), .int b, .int c, .ref d2] M Q)) ∧
    (∀ (d : Nat) (a : Nat) (b : Int32) (c : Int32) (d2 : Nat) (v0 : Value) (x : Int32) (L : List Value) (M : Mem) (Q : Option Value → Mem → Prop), Wp d 64 94 (v0 :: .int x :: L) [.ref a, .int b, .int c, .ref d2] M Q ↔ Wp d 64 95 (v0 :: .int x :: L) [.int x, .ref a, .int b, .int c, .ref d2] M Q) ∧
    (∀ (d : Nat) (a : Int32) (b : Nat) (c : Int32) (d2 : Int32) (e : Nat) (L : List Value) (M : Mem) (Q : Option Value → Mem → Prop), Wp d 64 95 L [.int a, .ref b, .int c, .int d2, .ref e] M Q ↔ ((isR b = true ∧ inr a (lnm M b)) ∧ Wp d 64 96 L [.int (M b a.toNatClampNeg), .int c, .int d2, .ref e] M Q)) ∧
    (∀ (d : Nat) (a : Int32) (b : Int32) (c : Int32) (d2 : Nat) (L : List Value) (M : Mem) (Q : Option Value → Mem → Prop), Wp d 64 96 L [.int a, .int b, .int c, .ref d2] M Q ↔ Wp d 64 97 L [.int 1, .int a, .int b, .int c, .ref d2] M Q) ∧
    (∀ (d : Nat) (a : Int32) (b : Int32) (c : Int32) (d2 : Int32) (e : Nat) (L : List Value) (M : Mem) (Q : Option Value → Mem → Prop), Wp d 64 97 L [.int a, .int b, .int c, .int d2, .ref e] M Q ↔ (if b = a then Wp d 64 100 L [.int c, .int d2, .ref e] M Q else Wp d 64 104 L [.int c, .int d2, .ref e] M Q)) ∧
    (∀ (d : Nat) (a : Int32) (b : Int32) (c : Nat) (L : List Value) (M : Mem) (Q : Option Value → Mem → Prop), Wp d 64 100 L [.int a, .int b, .ref c] M Q ↔ Wp d 64 101 L [.int 1, .int a, .int b, .ref c] M Q) ∧
    (∀ (d : Nat) (a : Int32) (b : Int32) (c : Int32) (d2 : Nat) (L : List Value) (M : Mem) (Q : Option Value → Mem → Prop), Wp d 64 101 L [.int a, .int b, .int c, .ref d2] M Q ↔ Wp d 64 105 L [.int a, .int b, .int c, .ref d2] M Q) ∧
    (∀ (d : Nat) (a : Int32) (b : Int32) (c : Nat) (L : List Value) (M : Mem) (Q : Option Value → Mem → Prop), Wp d 64 104 L [.int a, .int b, .ref c] M Q ↔ Wp d 64 105 L [.int 0, .int a, .int b, .ref c] M Q) ∧
    (∀ (d : Nat) (a : Int32) (b : Int32) (c : Int32) (d2 : Nat) (L : List Value) (M : Mem) (Q : Option Value → Mem → Prop), Wp (d + 1) 64 105 L [.int a, .int b, .int c, .ref d2] M Q ↔ (isK d2 9 = true ∧ Wp d 47 0 [.ref d2, .int c, .int b, .int a, .null] [] M (fun r M2 => Wp (d + 1) 64 108 L (r.toList ++ []) M2 Q))) ∧
    (∀ (d : Nat) (a : Int32) (v0 : Value) (v1 : Value) (x : Value) (L : List Value) (M : Mem) (Q : Option Value → Mem → Prop), Wp d 64 108 (v0 :: v1 :: x :: L) [.int a] M Q ↔ Wp d 64 109 (v0 :: clr v1 :: .int a :: L) [] M Q) := by
  refine ⟨?_, ?_, ?_, ?_, ?_, ?_, ?_, ?_, ?_, ?_, ?_, ?_, ?_, ?_, ?_, ?_, ?_, ?_, ?_, ?_, ?_, ?_, ?_, ?_, ?_, ?_, ?_, ?_, ?_, ?_, ?_, ?_, ?_, ?_, ?_, ?_, ?_, ?_, ?_, ?_, ?_, ?_, ?_, ?_, ?_, ?_, ?_, ?_, ?_, ?_, ?_, ?_, ?_, ?_, ?_, ?_, ?_, ?_, ?_, ?_⟩
  · intro d x L M Q; exact Wp_sim (by decide +kernel : decode (cd 64) 0 = .ok (.aload_n 0, 1)) rfl rfl
  · intro d a L M Q; exact q_getR (p := 198) (by decide +kernel : decode (cd 64) 1 = .ok (.getfield 21, 3)) (by decide +kernel) (by decide +kernel)
  · intro d a L M Q; exact q_getR (p := 169) (by decide +kernel : decode (cd 64) 4 = .ok (.getfield 66, 3)) (by decide +kernel) (by decide +kernel)
  · intro d a v0 x L M Q; exact Wp_sim (by decide +kernel : decode (cd 64) 7 = .ok (.iload_n 1, 1)) rfl rfl
  · intro d a b L M Q; exact q_ald (by decide +kernel : decode (cd 64) 8 = .ok (.iaload , 1))
  · intro d a v0 v1 x L M Q; exact Wp_sim (by decide +kernel : decode (cd 64) 9 = .ok (.istore_n 2, 1)) rfl rfl
  · intro d L M Q; exact Wp_sim (by decide +kernel : decode (cd 64) 10 = .ok (.iconst (-1), 1)) rfl rfl
  · intro d a v0 v1 v2 x L M Q; exact Wp_sim (by decide +kernel : decode (cd 64) 11 = .ok (.istore_n 3, 1)) rfl rfl
  · intro d L M Q; exact Wp_sim (by decide +kernel : decode (cd 64) 12 = .ok (.iconst 0, 1)) rfl rfl
  · intro d a v0 v1 v2 v3 x L M Q; exact Wp_sim (by decide +kernel : decode (cd 64) 13 = .ok (.istore 4, 2)) rfl rfl
  · intro d L M Q; exact Wp_sim (by decide +kernel : decode (cd 64) 15 = .ok (.iconst 0, 1)) rfl rfl
  · intro d a v0 v1 v2 v3 v4 x L M Q; exact Wp_sim (by decide +kernel : decode (cd 64) 16 = .ok (.istore 5, 2)) rfl rfl
  · intro d a L M Q; exact Wp_sim (by decide +kernel : decode (cd 64) 20 = .ok (.bipush 60, 2)) rfl rfl
  · intro d a b L M Q; exact q_igt (by decide +kernel : decode (cd 64) 22 = .ok (.if_icmp .gt 93, 3)) (by decide)
  · intro d x L M Q; exact Wp_sim (by decide +kernel : decode (cd 64) 25 = .ok (.aload_n 0, 1)) rfl rfl
  · intro d a v0 x L M Q; exact Wp_sim (by decide +kernel : decode (cd 64) 26 = .ok (.iload_n 1, 1)) rfl rfl
  · intro d a b v0 v1 v2 v3 v4 x L M Q; exact Wp_sim (by decide +kernel : decode (cd 64) 27 = .ok (.iload 5, 2)) rfl rfl
  · intro d a b c L M Q; exact q_invV (pz := 700) (n := 2) (c := 9) (m := 4) (k := c) (As := [.int b, .int a]) (rest := []) (by decide +kernel : decode (cd 64) 29 = .ok (.invokevirtual 144, 3)) (by decide +kernel) (by decide +kernel) rfl rfl (Nat.le_of_ble_eq_true rfl) (Nat.le_of_ble_eq_true rfl) rfl
  · intro d a v0 v1 v2 v3 v4 v5 x L M Q; exact Wp_sim (by decide +kernel : decode (cd 64) 32 = .ok (.istore 6, 2)) rfl rfl
  · intro d v0 v1 x L M Q; exact Wp_sim (by decide +kernel : decode (cd 64) 34 = .ok (.iload_n 2, 1)) rfl rfl
  · intro d a x L M Q; exact Wp_sim (by decide +kernel : decode (cd 64) 35 = .ok (.aload_n 0, 1)) rfl rfl
  · intro d a b v0 x L M Q; exact Wp_sim (by decide +kernel : decode (cd 64) 36 = .ok (.iload_n 1, 1)) rfl rfl
  · intro d a b c x L M Q; exact Wp_sim (by decide +kernel : decode (cd 64) 37 = .ok (.aload_n 0, 1)) rfl rfl
  · intro d a b c d2 L M Q; exact q_getR (p := 198) (by decide +kernel : decode (cd 64) 38 = .ok (.getfield 21, 3)) (by decide +kernel) (by decide +kernel)
  · intro d a b c d2 L M Q; exact q_getI (p := 176) (by decide +kernel : decode (cd 64) 41 = .ok (.getfield 69, 3)) (by decide +kernel) (by decide +kernel)
  · intro d a b c d2 v0 v1 v2 v3 v4 x L M Q; exact Wp_sim (by decide +kernel : decode (cd 64) 44 = .ok (.iload 5, 2)) rfl rfl
  · intro d a b c d2 e L M Q; exact Wp_sim (by decide +kernel : decode (cd 64) 46 = .ok (.iadd , 1)) rfl rfl
  · intro d a b c d2 L M Q; exact q_invV (pz := 602) (n := 2) (c := 9) (m := 4) (k := c) (As := [.int b, .int a]) (rest := [.int d2]) (by decide +kernel : decode (cd 64) 47 = .ok (.invokevirtual 72, 3)) (by decide +kernel) (by decide +kernel) rfl rfl (Nat.le_of_ble_eq_true rfl) (Nat.le_of_ble_eq_true rfl) rfl
  · intro d a b L M Q; exact q_ilt (by decide +kernel : decode (cd 64) 50 = .ok (.if_icmp .lt 7, 3)) (by decide)
  · intro d L M Q; exact Wp_sim (by decide +kernel : decode (cd 64) 53 = .ok (.iconst 1, 1)) rfl rfl
  · intro d a L M Q; exact q_goto (by decide +kernel : decode (cd 64) 54 = .ok (.goto 4, 3)) (by decide)
  · intro d L M Q; exact Wp_sim (by decide +kernel : decode (cd 64) 57 = .ok (.iconst 0, 1)) rfl rfl
  · intro d a v0 v1 v2 v3 v4 v5 v6 x L M Q; exact Wp_sim (by decide +kernel : decode (cd 64) 58 = .ok (.istore 7, 2)) rfl rfl
  · intro d v0 v1 v2 v3 v4 v5 v6 x L M Q; exact Wp_sim (by decide +kernel : decode (cd 64) 60 = .ok (.iload 7, 2)) rfl rfl
  · intro d a L M Q; exact q_zeq (by decide +kernel : decode (cd 64) 62 = .ok (.ifCond .eq 22, 3)) (by decide)
  · intro d v0 v1 v2 x L M Q; exact Wp_sim (by decide +kernel : decode (cd 64) 65 = .ok (.iload_n 3, 1)) rfl rfl
  · intro d a L M Q; exact Wp_sim (by decide +kernel : decode (cd 64) 66 = .ok (.iconst (-1), 1)) rfl rfl
  · intro d a b L M Q; exact q_ieq (by decide +kernel : decode (cd 64) 67 = .ok (.if_icmp .eq 10, 3)) (by decide)
  · intro d v0 v1 v2 v3 v4 v5 x L M Q; exact Wp_sim (by decide +kernel : decode (cd 64) 70 = .ok (.iload 6, 2)) rfl rfl
  · intro d a v0 v1 v2 v3 x L M Q; exact Wp_sim (by decide +kernel : decode (cd 64) 72 = .ok (.iload 4, 2)) rfl rfl
  · intro d a b L M Q; exact q_ige (by decide +kernel : decode (cd 64) 74 = .ok (.if_icmp .ge 10, 3)) (by decide)
  · intro d v0 v1 v2 v3 v4 x L M Q; exact Wp_sim (by decide +kernel : decode (cd 64) 77 = .ok (.iload 5, 2)) rfl rfl
  · intro d a v0 v1 v2 x L M Q; exact Wp_sim (by decide +kernel : decode (cd 64) 79 = .ok (.istore_n 3, 1)) rfl rfl
  · intro d v0 v1 v2 v3 v4 v5 x L M Q; exact Wp_sim (by decide +kernel : decode (cd 64) 80 = .ok (.iload 6, 2)) rfl rfl
  · intro d a v0 v1 v2 v3 x L M Q; exact Wp_sim (by decide +kernel : decode (cd 64) 82 = .ok (.istore 4, 2)) rfl rfl
  · intro d x L M Q; exact Wp_sim (by decide +kernel : decode (cd 64) 84 = .ok (.aload_n 0, 1)) rfl rfl
  · intro d a v0 v1 x L M Q; exact Wp_sim (by decide +kernel : decode (cd 64) 85 = .ok (.iload_n 2, 1)) rfl rfl
  · intro d a b v0 x L M Q; exact Wp_sim (by decide +kernel : decode (cd 64) 86 = .ok (.iload_n 1, 1)) rfl rfl
  · intro d a b c x L M Q; exact Wp_sim (by decide +kernel : decode (cd 64) 87 = .ok (.aload_n 0, 1)) rfl rfl
  · intro d a b c d2 L M Q; exact q_getR (p := 198) (by decide +kernel : decode (cd 64) 88 = .ok (.getfield 21, 3)) (by decide +kernel) (by decide +kernel)
  · intro d a b c d2 L M Q; exact q_getR (p := 165) (by decide +kernel : decode (cd 64) 91 = .ok (.getfield 36, 3)) (by decide +kernel) (by decide +kernel)
  · intro d a b c d2 v0 x L M Q; exact Wp_sim (by decide +kernel : decode (cd 64) 94 = .ok (.iload_n 1, 1)) rfl rfl
  · intro d a b c d2 e L M Q; exact q_ald (by decide +kernel : decode (cd 64) 95 = .ok (.iaload , 1))
  · intro d a b c d2 L M Q; exact Wp_sim (by decide +kernel : decode (cd 64) 96 = .ok (.iconst 1, 1)) rfl rfl
  · intro d a b c d2 e L M Q; exact q_ine (by decide +kernel : decode (cd 64) 97 = .ok (.if_icmp .ne 7, 3)) (by decide)
  · intro d a b c L M Q; exact Wp_sim (by decide +kernel : decode (cd 64) 100 = .ok (.iconst 1, 1)) rfl rfl
  · intro d a b c d2 L M Q; exact q_goto (by decide +kernel : decode (cd 64) 101 = .ok (.goto 4, 3)) (by decide)
  · intro d a b c L M Q; exact Wp_sim (by decide +kernel : decode (cd 64) 104 = .ok (.iconst 0, 1)) rfl rfl
  · intro d a b c d2 L M Q; exact q_invV (pz := 464) (n := 3) (c := 9) (m := 5) (k := d2) (As := [.int c, .int b, .int a]) (rest := []) (by decide +kernel : decode (cd 64) 105 = .ok (.invokevirtual 125, 3)) (by decide +kernel) (by decide +kernel) rfl rfl (Nat.le_of_ble_eq_true rfl) (Nat.le_of_ble_eq_true rfl) rfl
  · intro d a v0 v1 x L M Q; exact Wp_sim (by decide +kernel : decode (cd 64) 108 = .ok (.istore_n 2, 1)) rfl rfl
set_option maxRecDepth 10000 in
theorem e64_1 : (∀ (d : Nat) (v0 : Value) (v1 : Value) (v2 : Value) (v3 : Value) (v4 : Value) (x : Int32) (L : List Value) (M : Mem) (Q : Option Value → Mem → Prop), Wp d 64 109 (v0 :: v1 :: v2 :: v3 :: v4 :: .int x :: L) [] M Q ↔ Wp d 64 112 (v0 :: v1 :: v2 :: v3 :: clr v4 :: .int (x + 1) :: L) [] M Q) ∧
    (∀ (d : Nat) (L : List Value) (M : Mem) (Q : Option Value → Mem → Prop), Wp d 64 112 L [] M Q ↔ Wp d 64 18 L [] M Q) ∧
    (∀ (d : Nat) (v0 : Value) (v1 : Value) (v2 : Value) (x : Int32) (L : List Value) (M : Mem) (Q : Option Value → Mem → Prop), Wp d 64 115 (v0 :: v1 :: v2 :: .int x :: L) [] M Q ↔ Wp d 64 116 (v0 :: v1 :: v2 :: .int x :: L) [.int x] M Q) ∧
    (∀ (d : Nat) (a : Int32) (L : List Value) (M : Mem) (Q : Option Value → Mem → Prop), Wp d 64 116 L [.int a] M Q ↔ Q (some (.int a)) M) := by
  refine ⟨?_, ?_, ?_, ?_⟩
  · intro d v0 v1 v2 v3 v4 x L M Q; exact Wp_sim (by decide +kernel : decode (cd 64) 109 = .ok (.iinc 5 1, 3)) rfl rfl
  · intro d L M Q; exact q_goto (by decide +kernel : decode (cd 64) 112 = .ok (.goto (-94), 3)) (by decide)
  · intro d v0 v1 v2 x L M Q; exact Wp_sim (by decide +kernel : decode (cd 64) 115 = .ok (.iload_n 3, 1)) rfl rfl
  · intro d a L M Q; exact q_iret (by decide +kernel : decode (cd 64) 116 = .ok (.ireturn , 1)) (by decide +kernel)
theorem h64_18 : (∀ (d : Nat) (v0 : Value) (v1 : Value) (v2 : Value) (v3 : Value) (v4 : Value) (x : Int32) (L : List Value) (M : Mem) (Q : Option Value → Mem → Prop), Wp d 64 18 (v0 :: v1 :: v2 :: v3 :: v4 :: .int x :: L) [] M Q ↔ Wp d 64 20 (v0 :: v1 :: v2 :: v3 :: v4 :: .int x :: L) [.int x] M Q) := by
  intro d v0 v1 v2 v3 v4 x L M Q; exact Wp_sim (by decide +kernel : decode (cd 64) 18 = .ok (.iload 5, 2)) rfl rfl

/- 65: Town.costOfSettlingBehind -/
set_option maxRecDepth 10000 in
theorem e65 : (∀ (d : Nat) (x : Nat) (L : List Value) (M : Mem) (Q : Option Value → Mem → Prop), Wp d 65 0 (.ref x :: L) [] M Q ↔ Wp d 65 1 (.ref x :: L) [.ref x] M Q) ∧
    (∀ (d : Nat) (a : Nat) (L : List Value) (M : Mem) (Q : Option Value → Mem → Prop), Wp d 65 1 L [.ref a] M Q ↔ (isK a 9 = true ∧ Wp d 65 4 L [.ref (rt a 1)] M Q)) ∧
    (∀ (d : Nat) (a : Nat) (L : List Value) (M : Mem) (Q : Option Value → Mem → Prop), Wp d 65 4 L [.ref a] M Q ↔ (isK a 6 = true ∧ Wp d 65 7 L [.ref (rt a 0)] M Q)) ∧
    (∀ (d : Nat) (a : Nat) (v0 : Value) (x : Int32) (L : List Value) (M : Mem) (Q : Option Value → Mem → Prop), Wp d 65 7 (v0 :: .int x :: L) [.ref a] M Q ↔ Wp d 65 8 (v0 :: .int x :: L) [.int x, .ref a] M Q) ∧
    (∀ (d : Nat) (a : Int32) (b : Nat) (L : List Value) (M : Mem) (Q : Option Value → Mem → Prop), Wp d 65 8 L [.int a, .ref b] M Q ↔ ((isR b = true ∧ inr a (lnm M b)) ∧ Wp d 65 9 L [.int (M b a.toNatClampNeg)] M Q)) ∧
    (∀ (d : Nat) (a : Int32) (L : List Value) (M : Mem) (Q : Option Value → Mem → Prop), Wp d 65 9 L [.int a] M Q ↔ Wp d 65 10 L [.int 1, .int a] M Q) ∧
    (∀ (d : Nat) (a : Int32) (b : Int32) (L : List Value) (M : Mem) (Q : Option Value → Mem → Prop), Wp d 65 10 L [.int a, .int b] M Q ↔ (if b = a then Wp d 65 13 L [] M Q else Wp d 65 25 L [] M Q)) ∧
    (∀ (d : Nat) (x : Nat) (L : List Value) (M : Mem) (Q : Option Value → Mem → Prop), Wp d 65 13 (.ref x :: L) [] M Q ↔ Wp d 65 14 (.ref x :: L) [.ref x] M Q) ∧
    (∀ (d : Nat) (a : Nat) (L : List Value) (M : Mem) (Q : Option Value → Mem → Prop), Wp d 65 14 L [.ref a] M Q ↔ (isK a 9 = true ∧ Wp d 65 17 L [.ref (rt a 0)] M Q)) ∧
    (∀ (d : Nat) (a : Nat) (L : List Value) (M : Mem) (Q : Option Value → Mem → Prop), Wp d 65 17 L [.ref a] M Q ↔ (isK a 1 = true ∧ Wp d 65 20 L [.int (M a 9)] M Q)) ∧
    (∀ (d : Nat) (a : Int32) (v0 : Value) (v1 : Value) (x : Int32) (L : List Value) (M : Mem) (Q : Option Value → Mem → Prop), Wp d 65 20 (v0 :: v1 :: .int x :: L) [.int a] M Q ↔ Wp d 65 21 (v0 :: v1 :: .int x :: L) [.int x, .int a] M Q) ∧
    (∀ (d : Nat) (a : Int32) (b : Int32) (L : List Value) (M : Mem) (Q : Option Value → Mem → Prop), Wp d 65 21 L [.int a, .int b] M Q ↔ Wp d 65 22 L [.int (b * a)] M Q) ∧
    (∀ (d : Nat) (a : Int32) (L : List Value) (M : Mem) (Q : Option Value → Mem → Prop), Wp d 65 22 L [.int a] M Q ↔ Wp d 65 26 L [.int a] M Q) ∧
    (∀ (d : Nat) (L : List Value) (M : Mem) (Q : Option Value → Mem → Prop), Wp d 65 25 L [] M Q ↔ Wp d 65 26 L [.int 0] M Q) ∧
    (∀ (d : Nat) (a : Int32) (v0 : Value) (v1 : Value) (v2 : Value) (x : Value) (L : List Value) (M : Mem) (Q : Option Value → Mem → Prop), Wp d 65 26 (v0 :: v1 :: v2 :: x :: L) [.int a] M Q ↔ Wp d 65 27 (v0 :: v1 :: clr v2 :: .int a :: L) [] M Q) ∧
    (∀ (d : Nat) (v0 : Value) (v1 : Value) (v2 : Value) (x : Int32) (L : List Value) (M : Mem) (Q : Option Value → Mem → Prop), Wp d 65 27 (v0 :: v1 :: v2 :: .int x :: L) [] M Q ↔ Wp d 65 28 (v0 :: v1 :: v2 :: .int x :: L) [.int x] M Q) ∧
    (∀ (d : Nat) (a : Int32) (x : Nat) (L : List Value) (M : Mem) (Q : Option Value → Mem → Prop), Wp d 65 28 (.ref x :: L) [.int a] M Q ↔ Wp d 65 29 (.ref x :: L) [.ref x, .int a] M Q) ∧
    (∀ (d : Nat) (a : Nat) (b : Int32) (v0 : Value) (x : Int32) (L : List Value) (M : Mem) (Q : Option Value → Mem → Prop), Wp d 65 29 (v0 :: .int x :: L) [.ref a, .int b] M Q ↔ Wp d 65 30 (v0 :: .int x :: L) [.int x, .ref a, .int b] M Q) ∧
    (∀ (d : Nat) (a : Int32) (b : Nat) (c : Int32) (x : Nat) (L : List Value) (M : Mem) (Q : Option Value → Mem → Prop), Wp d 65 30 (.ref x :: L) [.int a, .ref b, .int c] M Q ↔ Wp d 65 31 (.ref x :: L) [.ref x, .int a, .ref b, .int c] M Q) ∧
    (∀ (d : Nat) (a : Nat) (b : Int32) (c : Nat) (d2 : Int32) (L : List Value) (M : Mem) (Q : Option Value → Mem → Prop), Wp d 65 31 L [.ref a, .int b, .ref c, .int d2] M Q ↔ (isK a 9 = true ∧ Wp d 65 34 L [.ref (rt a 1), .int b, .ref c, .int d2] M Q)) ∧
    (∀ (d : Nat) (a : Nat) (b : Int32) (c : Nat) (d2 : Int32) (L : List Value) (M : Mem) (Q : Option Value → Mem → Prop), Wp d 65 34 L [.ref a, .int b, .ref c, .int d2] M Q ↔ (isK a 6 = true ∧ Wp d 65 37 L [.int (M a 3), .int b, .ref c, .int d2] M Q)) ∧
    (∀ (d : Nat) (a : Int32) (b : Int32) (c : Nat) (d2 : Int32) (v0 : Value) (v1 : Value) (x : Int32) (L : List Value) (M : Mem) (Q : Option Value → Mem → Prop), Wp d 65 37 (v0 :: v1 :: .int x :: L) [.int a, .int b, .ref c, .int d2] M Q ↔ Wp d 65 38 (v0 :: v1 :: .int x :: L) [.int x, .int a, .int b, .ref c, .int d2] M Q) ∧
    (∀ (d : Nat) (a : Int32) (b : Int32) (c : Int32) (d2 : Nat) (e : Int32) (L : List Value) (M : Mem) (Q : Option Value → Mem → Prop), Wp d 65 38 L [.int a, .int b, .int c, .ref d2, .int e] M Q ↔ Wp d 65 39 L [.int (b + a), .int c, .ref d2, .int e] M Q) ∧
    (∀ (d : Nat) (a : Int32) (b : Int32) (c : Nat) (d2 : Int32) (L : List Value) (M : Mem) (Q : Option Value → Mem → Prop), Wp (d + 1) 65 39 L [.int a, .int b, .ref c, .int d2] M Q ↔ (isK c 9 = true ∧ Wp d 50 0 [.ref c, .int b, .int a, .null] [] M (fun r M2 => Wp (d + 1) 65 42 L (r.toList ++ [.int d2]) M2 Q))) ∧
    (∀ (d : Nat) (a : Int32) (b : Int32) (L : List Value) (M : Mem) (Q : Option Value → Mem → Prop), Wp d 65 42 L [.int a, .int b] M Q ↔ Wp d 65 43 L [.int (b + a)] M Q) ∧
    (∀ (d : Nat) (a : Int32) (L : List Value) (M : Mem) (Q : Option Value → Mem → Prop), Wp d 65 43 L [.int a] M Q ↔ Q (some (.int a)) M) := by
  refine ⟨?_, ?_, ?_, ?_, ?_, ?_, ?_, ?_, ?_, ?_, ?_, ?_, ?_, ?_, ?_, ?_, ?_, ?_, ?_, ?_, ?_, ?_, ?_, ?_, ?_, ?_⟩
  · intro d x L M Q; exact Wp_sim (by decide +kernel : decode (cd 65) 0 = .ok (.aload_n 0, 1)) rfl rfl
  · intro d a L M Q; exact q_getR (p := 198) (by decide +kernel : decode (cd 65) 1 = .ok (.getfield 21, 3)) (by decide +kernel) (by decide +kernel)
  · intro d a L M Q; exact q_getR (p := 165) (by decide +kernel : decode (cd 65) 4 = .ok (.getfield 36, 3)) (by decide +kernel) (by decide +kernel)
  · intro d a v0 x L M Q; exact Wp_sim (by decide +kernel : decode (cd 65) 7 = .ok (.iload_n 1, 1)) rfl rfl
  · intro d a b L M Q; exact q_ald (by decide +kernel : decode (cd 65) 8 = .ok (.iaload , 1))
  · intro d a L M Q; exact Wp_sim (by decide +kernel : decode (cd 65) 9 = .ok (.iconst 1, 1)) rfl rfl
  · intro d a b L M Q; exact q_ine (by decide +kernel : decode (cd 65) 10 = .ok (.if_icmp .ne 15, 3)) (by decide)
  · intro d x L M Q; exact Wp_sim (by decide +kernel : decode (cd 65) 13 = .ok (.aload_n 0, 1)) rfl rfl
  · intro d a L M Q; exact q_getR (p := 196) (by decide +kernel : decode (cd 65) 14 = .ok (.getfield 12, 3)) (by decide +kernel) (by decide +kernel)
  · intro d a L M Q; exact q_getI (p := 91) (by decide +kernel : decode (cd 65) 17 = .ok (.getfield 111, 3)) (by decide +kernel) (by decide +kernel)
  · intro d a v0 v1 x L M Q; exact Wp_sim (by decide +kernel : decode (cd 65) 20 = .ok (.iload_n 2, 1)) rfl rfl
  · intro d a b L M Q; exact Wp_sim (by decide +kernel : decode (cd 65) 21 = .ok (.imul , 1)) rfl rfl
  · intro d a L M Q; exact q_goto (by decide +kernel : decode (cd 65) 22 = .ok (.goto 4, 3)) (by decide)
  · intro d L M Q; exact Wp_sim (by decide +kernel : decode (cd 65) 25 = .ok (.iconst 0, 1)) rfl rfl
  · intro d a v0 v1 v2 x L M Q; exact Wp_sim (by decide +kernel : decode (cd 65) 26 = .ok (.istore_n 3, 1)) rfl rfl
  · intro d v0 v1 v2 x L M Q; exact Wp_sim (by decide +kernel : decode (cd 65) 27 = .ok (.iload_n 3, 1)) rfl rfl
  · intro d a x L M Q; exact Wp_sim (by decide +kernel : decode (cd 65) 28 = .ok (.aload_n 0, 1)) rfl rfl
  · intro d a b v0 x L M Q; exact Wp_sim (by decide +kernel : decode (cd 65) 29 = .ok (.iload_n 1, 1)) rfl rfl
  · intro d a b c x L M Q; exact Wp_sim (by decide +kernel : decode (cd 65) 30 = .ok (.aload_n 0, 1)) rfl rfl
  · intro d a b c d2 L M Q; exact q_getR (p := 198) (by decide +kernel : decode (cd 65) 31 = .ok (.getfield 21, 3)) (by decide +kernel) (by decide +kernel)
  · intro d a b c d2 L M Q; exact q_getI (p := 176) (by decide +kernel : decode (cd 65) 34 = .ok (.getfield 69, 3)) (by decide +kernel) (by decide +kernel)
  · intro d a b c d2 v0 v1 x L M Q; exact Wp_sim (by decide +kernel : decode (cd 65) 37 = .ok (.iload_n 2, 1)) rfl rfl
  · intro d a b c d2 e L M Q; exact Wp_sim (by decide +kernel : decode (cd 65) 38 = .ok (.iadd , 1)) rfl rfl
  · intro d a b c d2 L M Q; exact q_invV (pz := 602) (n := 2) (c := 9) (m := 4) (k := c) (As := [.int b, .int a]) (rest := [.int d2]) (by decide +kernel : decode (cd 65) 39 = .ok (.invokevirtual 72, 3)) (by decide +kernel) (by decide +kernel) rfl rfl (Nat.le_of_ble_eq_true rfl) (Nat.le_of_ble_eq_true rfl) rfl
  · intro d a b L M Q; exact Wp_sim (by decide +kernel : decode (cd 65) 42 = .ok (.iadd , 1)) rfl rfl
  · intro d a L M Q; exact q_iret (by decide +kernel : decode (cd 65) 43 = .ok (.ireturn , 1)) (by decide +kernel)

/- 66: Town.creditorsAccepting -/
set_option maxRecDepth 10000 in
theorem e66 : (∀ (d : Nat) (L : List Value) (M : Mem) (Q : Option Value → Mem → Prop), Wp d 66 0 L [] M Q ↔ Wp d 66 1 L [.int 0] M Q) ∧
    (∀ (d : Nat) (a : Int32) (v0 : Value) (v1 : Value) (x : Value) (L : List Value) (M : Mem) (Q : Option Value → Mem → Prop), Wp d 66 1 (v0 :: v1 :: x :: L) [.int a] M Q ↔ Wp d 66 2 (v0 :: clr v1 :: .int a :: L) [] M Q) ∧
    (∀ (d : Nat) (L : List Value) (M : Mem) (Q : Option Value → Mem → Prop), Wp d 66 2 L [] M Q ↔ Wp d 66 3 L [.int 0] M Q) ∧
    (∀ (d : Nat) (a : Int32) (v0 : Value) (v1 : Value) (v2 : Value) (x : Value) (L : List Value) (M : Mem) (Q : Option Value → Mem → Prop), Wp d 66 3 (v0 :: v1 :: v2 :: x :: L) [.int a] M Q ↔ Wp d 66 4 (v0 :: v1 :: clr v2 :: .int a :: L) [] M Q) ∧
    (∀ (d : Nat) (a : Int32) (x : Nat) (L : List Value) (M : Mem) (Q : Option Value → Mem → Prop), Wp d 66 5 (.ref x :: L) [.int a] M Q ↔ Wp d 66 6 (.ref x :: L) [.ref x, .int a] M Q) ∧
    (∀ (d : Nat) (a : Nat) (b : Int32) (L : List Value) (M : Mem) (Q : Option Value → Mem → Prop), Wp d 66 6 L [.ref a, .int b] M Q ↔ (isK a 9 = true ∧ Wp d 66 9 L [.ref (rt a 0), .int b] M Q)) ∧
    (∀ (d : Nat) (a : Nat) (b : Int32) (L : List Value) (M : Mem) (Q : Option Value → Mem → Prop), Wp d 66 9 L [.ref a, .int b] M Q ↔ (isK a 1 = true ∧ Wp d 66 12 L [.int (M a 12), .int b] M Q)) ∧
    (∀ (d : Nat) (a : Int32) (b : Int32) (L : List Value) (M : Mem) (Q : Option Value → Mem → Prop), Wp d 66 12 L [.int a, .int b] M Q ↔ (if b < a then Wp d 66 15 L [] M Q else Wp d 66 46 L [] M Q)) ∧
    (∀ (d : Nat) (x : Nat) (L : List Value) (M : Mem) (Q : Option Value → Mem → Prop), Wp d 66 15 (.ref x :: L) [] M Q ↔ Wp d 66 16 (.ref x :: L) [.ref x] M Q) ∧
    (∀ (d : Nat) (a : Nat) (L : List Value) (M : Mem) (Q : Option Value → Mem → Prop), Wp d 66 16 L [.ref a] M Q ↔ (isK a 9 = true ∧ Wp d 66 19 L [.ref (rt a 0)] M Q)) ∧
    (∀ (d : Nat) (a : Nat) (v0 : Value) (v1 : Value) (v2 : Value) (x : Int32) (L : List Value) (M : Mem) (Q : Option Value → Mem → Prop), Wp d 66 19 (v0 :: v1 :: v2 :: .int x :: L) [.ref a] M Q ↔ Wp d 66 20 (v0 :: v1 :: v2 :: .int x :: L) [.int x, .ref a] M Q) ∧
    (∀ (d : Nat) (a : Int32) (b : Nat) (x : Nat) (L : List Value) (M : Mem) (Q : Option Value → Mem → Prop), Wp d 66 20 (.ref x :: L) [.int a, .ref b] M Q ↔ Wp d 66 21 (.ref x :: L) [.ref x, .int a, .ref b] M Q) ∧
    (∀ (d : Nat) (a : Nat) (b : Int32) (c : Nat) (L : List Value) (M : Mem) (Q : Option Value → Mem → Prop), Wp d 66 21 L [.ref a, .int b, .ref c] M Q ↔ (isK a 9 = true ∧ Wp d 66 24 L [.ref (rt a 1), .int b, .ref c] M Q)) ∧
    (∀ (d : Nat) (a : Nat) (b : Int32) (c : Nat) (L : List Value) (M : Mem) (Q : Option Value → Mem → Prop), Wp d 66 24 L [.ref a, .int b, .ref c] M Q ↔ (isK a 6 = true ∧ Wp d 66 27 L [.int (M a 3), .int b, .ref c] M Q)) ∧
    (∀ (d : Nat) (a : Int32) (b : Int32) (c : Nat) (L : List Value) (M : Mem) (Q : Option Value → Mem → Prop), Wp (d + 1) 66 27 L [.int a, .int b, .ref c] M Q ↔ (isK c 1 = true ∧ Wp d 6 0 [.ref c, .int b, .int a, .null] [] M (fun r M2 => Wp (d + 1) 66 30 L (r.toList ++ []) M2 Q))) ∧
    (∀ (d : Nat) (a : Int32) (v0 : Value) (x : Int32) (L : List Value) (M : Mem) (Q : Option Value → Mem → Prop), Wp d 66 30 (v0 :: .int x :: L) [.int a] M Q ↔ Wp d 66 31 (v0 :: .int x :: L) [.int x, .int a] M Q) ∧
    (∀ (d : Nat) (a : Int32) (b : Int32) (L : List Value) (M : Mem) (Q : Option Value → Mem → Prop), Wp d 66 31 L [.int a, .int b] M Q ↔ (if a < b then Wp d 66 40 L [] M Q else Wp d 66 34 L [] M Q)) ∧
    (∀ (d : Nat) (v0 : Value) (v1 : Value) (x : Int32) (L : List Value) (M : Mem) (Q : Option Value → Mem → Prop), Wp d 66 34 (v0 :: v1 :: .int x :: L) [] M Q ↔ Wp d 66 35 (v0 :: v1 :: .int x :: L) [.int x] M Q) ∧
    (∀ (d : Nat) (a : Int32) (L : List Value) (M : Mem) (Q : Option Value → Mem → Prop), Wp d 66 35 L [.int a] M Q ↔ Wp d 66 36 L [.int 1, .int a] M Q) ∧
    (∀ (d : Nat) (a : Int32) (b : Int32) (v0 : Value) (v1 : Value) (v2 : Value) (x : Int32) (L : List Value) (M : Mem) (Q : Option Value → Mem → Prop), Wp d 66 36 (v0 :: v1 :: v2 :: .int x :: L) [.int a, .int b] M Q ↔ Wp d 66 37 (v0 :: v1 :: v2 :: .int x :: L) [.int x, .int a, .int b] M Q) ∧
    (∀ (d : Nat) (a : Int32) (b : Int32) (c : Int32) (L : List Value) (M : Mem) (Q : Option Value → Mem → Prop), Wp d 66 37 L [.int a, .int b, .int c] M Q ↔ Wp d 66 38 L [.int (b <<< (a &&& 31)), .int c] M Q) ∧
    (∀ (d : Nat) (a : Int32) (b : Int32) (L : List Value) (M : Mem) (Q : Option Value → Mem → Prop), Wp d 66 38 L [.int a, .int b] M Q ↔ Wp d 66 39 L [.int (b ||| a)] M Q) ∧
    (∀ (d : Nat) (a : Int32) (v0 : Value) (v1 : Value) (x : Value) (L : List Value) (M : Mem) (Q : Option Value → Mem → Prop), Wp d 66 39 (v0 :: v1 :: x :: L) [.int a] M Q ↔ Wp d 66 40 (v0 :: clr v1 :: .int a :: L) [] M Q) ∧
    (∀ (d : Nat) (v0 : Value) (v1 : Value) (v2 : Value) (x : Int32) (L : List Value) (M : Mem) (Q : Option Value → Mem → Prop), Wp d 66 40 (v0 :: v1 :: v2 :: .int x :: L) [] M Q ↔ Wp d 66 43 (v0 :: v1 :: clr v2 :: .int (x + 1) :: L) [] M Q) ∧
    (∀ (d : Nat) (L : List Value) (M : Mem) (Q : Option Value → Mem → Prop), Wp d 66 43 L [] M Q ↔ Wp d 66 4 L [] M Q) ∧
    (∀ (d : Nat) (v0 : Value) (v1 : Value) (x : Int32) (L : List Value) (M : Mem) (Q : Option Value → Mem → Prop), Wp d 66 46 (v0 :: v1 :: .int x :: L) [] M Q ↔ Wp d 66 47 (v0 :: v1 :: .int x :: L) [.int x] M Q) ∧
    (∀ (d : Nat) (a : Int32) (L : List Value) (M : Mem) (Q : Option Value → Mem → Prop), Wp d 66 47 L [.int a] M Q ↔ Q (some (.int a)) M) := by
  refine ⟨?_, ?_, ?_, ?_, ?_, ?_, ?_, ?_, ?_, ?_, ?_, ?_, ?_, ?_, ?_, ?_, ?_, ?_, ?_, ?_, ?_, ?_, ?_, ?_, ?_, ?_, ?_⟩
  · intro d L M Q; exact Wp_sim (by decide +kernel : decode (cd 66) 0 = .ok (.iconst 0, 1)) rfl rfl
  · intro d a v0 v1 x L M Q; exact Wp_sim (by decide +kernel : decode (cd 66) 1 = .ok (.istore_n 2, 1)) rfl rfl
  · intro d L M Q; exact Wp_sim (by decide +kernel : decode (cd 66) 2 = .ok (.iconst 0, 1)) rfl rfl
  · intro d a v0 v1 v2 x L M Q; exact Wp_sim (by decide +kernel : decode (cd 66) 3 = .ok (.istore_n 3, 1)) rfl rfl
  · intro d a x L M Q; exact Wp_sim (by decide +kernel : decode (cd 66) 5 = .ok (.aload_n 0, 1)) rfl rfl
  · intro d a b L M Q; exact q_getR (p := 196) (by decide +kernel : decode (cd 66) 6 = .ok (.getfield 12, 3)) (by decide +kernel) (by decide +kernel)
  · intro d a b L M Q; exact q_getI (p := 101) (by decide +kernel : decode (cd 66) 9 = .ok (.getfield 147, 3)) (by decide +kernel) (by decide +kernel)
  · intro d a b L M Q; exact q_ige (by decide +kernel : decode (cd 66) 12 = .ok (.if_icmp .ge 34, 3)) (by decide)
  · intro d x L M Q; exact Wp_sim (by decide +kernel : decode (cd 66) 15 = .ok (.aload_n 0, 1)) rfl rfl
  · intro d a L M Q; exact q_getR (p := 196) (by decide +kernel : decode (cd 66) 16 = .ok (.getfield 12, 3)) (by decide +kernel) (by decide +kernel)
  · intro d a v0 v1 v2 x L M Q; exact Wp_sim (by decide +kernel : decode (cd 66) 19 = .ok (.iload_n 3, 1)) rfl rfl
  · intro d a b x L M Q; exact Wp_sim (by decide +kernel : decode (cd 66) 20 = .ok (.aload_n 0, 1)) rfl rfl
  · intro d a b c L M Q; exact q_getR (p := 198) (by decide +kernel : decode (cd 66) 21 = .ok (.getfield 21, 3)) (by decide +kernel) (by decide +kernel)
  · intro d a b c L M Q; exact q_getI (p := 176) (by decide +kernel : decode (cd 66) 24 = .ok (.getfield 69, 3)) (by decide +kernel) (by decide +kernel)
  · intro d a b c L M Q; exact q_invV (pz := 524) (n := 2) (c := 1) (m := 4) (k := c) (As := [.int b, .int a]) (rest := []) (by decide +kernel : decode (cd 66) 27 = .ok (.invokevirtual 58, 3)) (by decide +kernel) (by decide +kernel) rfl rfl (Nat.le_of_ble_eq_true rfl) (Nat.le_of_ble_eq_true rfl) rfl
  · intro d a v0 x L M Q; exact Wp_sim (by decide +kernel : decode (cd 66) 30 = .ok (.iload_n 1, 1)) rfl rfl
  · intro d a b L M Q; exact q_igt (by decide +kernel : decode (cd 66) 31 = .ok (.if_icmp .gt 9, 3)) (by decide)
  · intro d v0 v1 x L M Q; exact Wp_sim (by decide +kernel : decode (cd 66) 34 = .ok (.iload_n 2, 1)) rfl rfl
  · intro d a L M Q; exact Wp_sim (by decide +kernel : decode (cd 66) 35 = .ok (.iconst 1, 1)) rfl rfl
  · intro d a b v0 v1 v2 x L M Q; exact Wp_sim (by decide +kernel : decode (cd 66) 36 = .ok (.iload_n 3, 1)) rfl rfl
  · intro d a b c L M Q; exact Wp_sim (by decide +kernel : decode (cd 66) 37 = .ok (.ishl , 1)) rfl rfl
  · intro d a b L M Q; exact Wp_sim (by decide +kernel : decode (cd 66) 38 = .ok (.ior , 1)) rfl rfl
  · intro d a v0 v1 x L M Q; exact Wp_sim (by decide +kernel : decode (cd 66) 39 = .ok (.istore_n 2, 1)) rfl rfl
  · intro d v0 v1 v2 x L M Q; exact Wp_sim (by decide +kernel : decode (cd 66) 40 = .ok (.iinc 3 1, 3)) rfl rfl
  · intro d L M Q; exact q_goto (by decide +kernel : decode (cd 66) 43 = .ok (.goto (-39), 3)) (by decide)
  · intro d v0 v1 x L M Q; exact Wp_sim (by decide +kernel : decode (cd 66) 46 = .ok (.iload_n 2, 1)) rfl rfl
  · intro d a L M Q; exact q_iret (by decide +kernel : decode (cd 66) 47 = .ok (.ireturn , 1)) (by decide +kernel)
theorem h66_4 : (∀ (d : Nat) (v0 : Value) (v1 : Value) (v2 : Value) (x : Int32) (L : List Value) (M : Mem) (Q : Option Value → Mem → Prop), Wp d 66 4 (v0 :: v1 :: v2 :: .int x :: L) [] M Q ↔ Wp d 66 5 (v0 :: v1 :: v2 :: .int x :: L) [.int x] M Q) := by
  intro d v0 v1 v2 x L M Q; exact Wp_sim (by decide +kernel : decode (cd 66) 4 = .ok (.iload_n 3, 1)) rfl rfl

/- 67: Town.isBoundBy -/
set_option maxRecDepth 10000 in
theorem e67 : (∀ (d : Nat) (L : List Value) (M : Mem) (Q : Option Value → Mem → Prop), Wp d 67 0 L [] M Q ↔ Wp d 67 1 L [.int 0] M Q) ∧
    (∀ (d : Nat) (a : Int32) (v0 : Value) (v1 : Value) (x : Value) (L : List Value) (M : Mem) (Q : Option Value → Mem → Prop), Wp d 67 1 (v0 :: v1 :: x :: L) [.int a] M Q ↔ Wp d 67 2 (v0 :: clr v1 :: .int a :: L) [] M Q) ∧
    (∀ (d : Nat) (L : List Value) (M : Mem) (Q : Option Value → Mem → Prop), Wp d 67 2 L [] M Q ↔ Wp d 67 3 L [.int 0] M Q) ∧
    (∀ (d : Nat) (a : Int32) (v0 : Value) (v1 : Value) (v2 : Value) (x : Value) (L : List Value) (M : Mem) (Q : Option Value → Mem → Prop), Wp d 67 3 (v0 :: v1 :: v2 :: x :: L) [.int a] M Q ↔ Wp d 67 4 (v0 :: v1 :: clr v2 :: .int a :: L) [] M Q) ∧
    (∀ (d : Nat) (L : List Value) (M : Mem) (Q : Option Value → Mem → Prop), Wp d 67 4 L [] M Q ↔ Wp d 67 5 L [.int 0] M Q) ∧
    (∀ (d : Nat) (a : Int32) (v0 : Value) (v1 : Value) (v2 : Value) (v3 : Value) (x : Value) (L : List Value) (M : Mem) (Q : Option Value → Mem → Prop), Wp d 67 5 (v0 :: v1 :: v2 :: v3 :: x :: L) [.int a] M Q ↔ Wp d 67 7 (v0 :: v1 :: v2 :: clr v3 :: .int a :: L) [] M Q) ∧
    (∀ (d : Nat) (a : Int32) (x : Nat) (L : List Value) (M : Mem) (Q : Option Value → Mem → Prop), Wp d 67 9 (.ref x :: L) [.int a] M Q ↔ Wp d 67 10 (.ref x :: L) [.ref x, .int a] M Q) ∧
    (∀ (d : Nat) (a : Nat) (b : Int32) (L : List Value) (M : Mem) (Q : Option Value → Mem → Prop), Wp d 67 10 L [.ref a, .int b] M Q ↔ (isK a 9 = true ∧ Wp d 67 13 L [.ref (rt a 0), .int b] M Q)) ∧
    (∀ (d : Nat) (a : Nat) (b : Int32) (L : List Value) (M : Mem) (Q : Option Value → Mem → Prop), Wp d 67 13 L [.ref a, .int b] M Q ↔ (isK a 1 = true ∧ Wp d 67 16 L [.int (M a 13), .int b] M Q)) ∧
    (∀ (d : Nat) (a : Int32) (b : Int32) (L : List Value) (M : Mem) (Q : Option Value → Mem → Prop), Wp d 67 16 L [.int a, .int b] M Q ↔ (if b < a then Wp d 67 19 L [] M Q else Wp d 67 85 L [] M Q)) ∧
    (∀ (d : Nat) (x : Nat) (L : List Value) (M : Mem) (Q : Option Value → Mem → Prop), Wp d 67 19 (.ref x :: L) [] M Q ↔ Wp d 67 20 (.ref x :: L) [.ref x] M Q) ∧
    (∀ (d : Nat) (a : Nat) (L : List Value) (M : Mem) (Q : Option Value → Mem → Prop), Wp d 67 20 L [.ref a] M Q ↔ (isK a 9 = true ∧ Wp d 67 23 L [.ref (rt a 1)] M Q)) ∧
    (∀ (d : Nat) (a : Nat) (L : List Value) (M : Mem) (Q : Option Value → Mem → Prop), Wp d 67 23 L [.ref a] M Q ↔ (isK a 6 = true ∧ Wp d 67 26 L [.ref (rt a 0)] M Q)) ∧
    (∀ (d : Nat) (a : Nat) (v0 : Value) (v1 : Value) (v2 : Value) (v3 : Value) (x : Int32) (L : List Value) (M : Mem) (Q : Option Value → Mem → Prop), Wp d 67 26 (v0 :: v1 :: v2 :: v3 :: .int x :: L) [.ref a] M Q ↔ Wp d 67 28 (v0 :: v1 :: v2 :: v3 :: .int x :: L) [.int x, .ref a] M Q) ∧
    (∀ (d : Nat) (a : Int32) (b : Nat) (L : List Value) (M : Mem) (Q : Option Value → Mem → Prop), Wp d 67 28 L [.int a, .ref b] M Q ↔ ((isR b = true ∧ inr a (lnm M b)) ∧ Wp d 67 29 L [.int (M b a.toNatClampNeg)] M Q)) ∧
    (∀ (d : Nat) (a : Int32) (L : List Value) (M : Mem) (Q : Option Value → Mem → Prop), Wp d 67 29 L [.int a] M Q ↔ Wp d 67 30 L [.int 3, .int a] M Q) ∧
    (∀ (d : Nat) (a : Int32) (b : Int32) (L : List Value) (M : Mem) (Q : Option Value → Mem → Prop), Wp d 67 30 L [.int a, .int b] M Q ↔ (if b = a then Wp d 67 33 L [] M Q else Wp d 67 36 L [] M Q)) ∧
    (∀ (d : Nat) (L : List Value) (M : Mem) (Q : Option Value → Mem → Prop), Wp d 67 33 L [] M Q ↔ Wp d 67 79 L [] M Q) ∧
    (∀ (d : Nat) (v0 : Value) (v1 : Value) (x : Int32) (L : List Value) (M : Mem) (Q : Option Value → Mem → Prop), Wp d 67 36 (v0 :: v1 :: .int x :: L) [] M Q ↔ Wp d 67 37 (v0 :: v1 :: .int x :: L) [.int x] M Q) ∧
    (∀ (d : Nat) (a : Int32) (x : Nat) (L : List Value) (M : Mem) (Q : Option Value → Mem → Prop), Wp d 67 37 (.ref x :: L) [.int a] M Q ↔ Wp d 67 38 (.ref x :: L) [.ref x, .int a] M Q) ∧
    (∀ (d : Nat) (a : Nat) (b : Int32) (L : List Value) (M : Mem) (Q : Option Value → Mem → Prop), Wp d 67 38 L [.ref a, .int b] M Q ↔ (isK a 9 = true ∧ Wp d 67 41 L [.ref (rt a 0), .int b] M Q)) ∧
    (∀ (d : Nat) (a : Nat) (b : Int32) (L : List Value) (M : Mem) (Q : Option Value → Mem → Prop), Wp d 67 41 L [.ref a, .int b] M Q ↔ (isK a 1 = true ∧ Wp d 67 44 L [.ref (rt a 3), .int b] M Q)) ∧
    (∀ (d : Nat) (a : Nat) (b : Int32) (v0 : Value) (v1 : Value) (v2 : Value) (v3 : Value) (x : Int32) (L : List Value) (M : Mem) (Q : Option Value → Mem → Prop), Wp d 67 44 (v0 :: v1 :: v2 :: v3 :: .int x :: L) [.ref a, .int b] M Q ↔ Wp d 67 46 (v0 :: v1 :: v2 :: v3 :: .int x :: L) [.int x, .ref a, .int b] M Q) ∧
    (∀ (d : Nat) (a : Int32) (b : Nat) (c : Int32) (L : List Value) (M : Mem) (Q : Option Value → Mem → Prop), Wp d 67 46 L [.int a, .ref b, .int c] M Q ↔ ((isR b = true ∧ inr a (lnm M b)) ∧ Wp d 67 47 L [.int (M b a.toNatClampNeg), .int c] M Q)) ∧
    (∀ (d : Nat) (a : Int32) (b : Int32) (L : List Value) (M : Mem) (Q : Option Value → Mem → Prop), Wp d 67 47 L [.int a, .int b] M Q ↔ Wp d 67 48 L [.int (b + a)] M Q) ∧
    (∀ (d : Nat) (a : Int32) (v0 : Value) (v1 : Value) (x : Value) (L : List Value) (M : Mem) (Q : Option Value → Mem → Prop), Wp d 67 48 (v0 :: v1 :: x :: L) [.int a] M Q ↔ Wp d 67 49 (v0 :: clr v1 :: .int a :: L) [] M Q) ∧
    (∀ (d : Nat) (v0 : Value) (x : Int32) (L : List Value) (M : Mem) (Q : Option Value → Mem → Prop), Wp d 67 49 (v0 :: .int x :: L) [] M Q ↔ Wp d 67 50 (v0 :: .int x :: L) [.int x] M Q) ∧
    (∀ (d : Nat) (a : Int32) (x : Nat) (L : List Value) (M : Mem) (Q : Option Value → Mem → Prop), Wp d 67 50 (.ref x :: L) [.int a] M Q ↔ Wp d 67 51 (.ref x :: L) [.ref x, .int a] M Q) ∧
    (∀ (d : Nat) (a : Nat) (b : Int32) (L : List Value) (M : Mem) (Q : Option Value → Mem → Prop), Wp d 67 51 L [.ref a, .int b] M Q ↔ (isK a 9 = true ∧ Wp d 67 54 L [.ref (rt a 0), .int b] M Q)) ∧
    (∀ (d : Nat) (a : Nat) (b : Int32) (L : List Value) (M : Mem) (Q : Option Value → Mem → Prop), Wp d 67 54 L [.ref a, .int b] M Q ↔ (isK a 1 = true ∧ Wp d 67 57 L [.ref (rt a 2), .int b] M Q)) ∧
    (∀ (d : Nat) (a : Nat) (b : Int32) (v0 : Value) (v1 : Value) (v2 : Value) (v3 : Value) (x : Int32) (L : List Value) (M : Mem) (Q : Option Value → Mem → Prop), Wp d 67 57 (v0 :: v1 :: v2 :: v3 :: .int x :: L) [.ref a, .int b] M Q ↔ Wp d 67 59 (v0 :: v1 :: v2 :: v3 :: .int x :: L) [.int x, .ref a, .int b] M Q) ∧
    (∀ (d : Nat) (a : Int32) (b : Nat) (c : Int32) (L : List Value) (M : Mem) (Q : Option Value → Mem → Prop), Wp d 67 59 L [.int a, .ref b, .int c] M Q ↔ ((isR b = true ∧ inr a (lnm M b)) ∧ Wp d 67 60 L [.int (M b a.toNatClampNeg), .int c] M Q)) ∧
    (∀ (d : Nat) (a : Int32) (b : Int32) (L : List Value) (M : Mem) (Q : Option Value → Mem → Prop), Wp d 67 60 L [.int a, .int b] M Q ↔ Wp d 67 61 L [.int (b >>> (a &&& 31))] M Q) ∧
    (∀ (d : Nat) (a : Int32) (L : List Value) (M : Mem) (Q : Option Value → Mem → Prop), Wp d 67 61 L [.int a] M Q ↔ Wp d 67 62 L [.int 1, .int a] M Q) ∧
    (∀ (d : Nat) (a : Int32) (b : Int32) (L : List Value) (M : Mem) (Q : Option Value → Mem → Prop), Wp d 67 62 L [.int a, .int b] M Q ↔ Wp d 67 63 L [.int (b &&& a)] M Q) ∧
    (∀ (d : Nat) (a : Int32) (L : List Value) (M : Mem) (Q : Option Value → Mem → Prop), Wp d 67 63 L [.int a] M Q ↔ (if a = 0 then Wp d 67 79 L [] M Q else Wp d 67 66 L [] M Q)) ∧
    (∀ (d : Nat) (v0 : Value) (v1 : Value) (v2 : Value) (x : Int32) (L : List Value) (M : Mem) (Q : Option Value → Mem → Prop), Wp d 67 66 (v0 :: v1 :: v2 :: .int x :: L) [] M Q ↔ Wp d 67 67 (v0 :: v1 :: v2 :: .int x :: L) [.int x] M Q) ∧
    (∀ (d : Nat) (a : Int32) (x : Nat) (L : List Value) (M : Mem) (Q : Option Value → Mem → Prop), Wp d 67 67 (.ref x :: L) [.int a] M Q ↔ Wp d 67 68 (.ref x :: L) [.ref x, .int a] M Q) ∧
    (∀ (d : Nat) (a : Nat) (b : Int32) (L : List Value) (M : Mem) (Q : Option Value → Mem → Prop), Wp d 67 68 L [.ref a, .int b] M Q ↔ (isK a 9 = true ∧ Wp d 67 71 L [.ref (rt a 0), .int b] M Q)) ∧
    (∀ (d : Nat) (a : Nat) (b : Int32) (L : List Value) (M : Mem) (Q : Option Value → Mem → Prop), Wp d 67 71 L [.ref a, .int b] M Q ↔ (isK a 1 = true ∧ Wp d 67 74 L [.ref (rt a 3), .int b] M Q)) ∧
    (∀ (d : Nat) (a : Nat) (b : Int32) (v0 : Value) (v1 : Value) (v2 : Value) (v3 : Value) (x : Int32) (L : List Value) (M : Mem) (Q : Option Value → Mem → Prop), Wp d 67 74 (v0 :: v1 :: v2 :: v3 :: .int x :: L) [.ref a, .int b] M Q ↔ Wp d 67 76 (v0 :: v1 :: v2 :: v3 :: .int x :: L) [.int x, .ref a, .int b] M Q) ∧
    (∀ (d : Nat) (a : Int32) (b : Nat) (c : Int32) (L : List Value) (M : Mem) (Q : Option Value → Mem → Prop), Wp d 67 76 L [.int a, .ref b, .int c] M Q ↔ ((isR b = true ∧ inr a (lnm M b)) ∧ Wp d 67 77 L [.int (M b a.toNatClampNeg), .int c] M Q)) ∧
    (∀ (d : Nat) (a : Int32) (b : Int32) (L : List Value) (M : Mem) (Q : Option Value → Mem → Prop), Wp d 67 77 L [.int a, .int b] M Q ↔ Wp d 67 78 L [.int (b + a)] M Q) ∧
    (∀ (d : Nat) (a : Int32) (v0 : Value) (v1 : Value) (v2 : Value) (x : Value) (L : List Value) (M : Mem) (Q : Option Value → Mem → Prop), Wp d 67 78 (v0 :: v1 :: v2 :: x :: L) [.int a] M Q ↔ Wp d 67 79 (v0 :: v1 :: clr v2 :: .int a :: L) [] M Q) ∧
    (∀ (d : Nat) (v0 : Value) (v1 : Value) (v2 : Value) (v3 : Value) (x : Int32) (L : List Value) (M : Mem) (Q : Option Value → Mem → Prop), Wp d 67 79 (v0 :: v1 :: v2 :: v3 :: .int x :: L) [] M Q ↔ Wp d 67 82 (v0 :: v1 :: v2 :: clr v3 :: .int (x + 1) :: L) [] M Q) ∧
    (∀ (d : Nat) (L : List Value) (M : Mem) (Q : Option Value → Mem → Prop), Wp d 67 82 L [] M Q ↔ Wp d 67 7 L [] M Q) ∧
    (∀ (d : Nat) (L : List Value) (M : Mem) (Q : Option Value → Mem → Prop), Wp d 67 85 L [] M Q ↔ Wp d 67 86 L [.int 2] M Q) ∧
    (∀ (d : Nat) (a : Int32) (v0 : Value) (v1 : Value) (v2 : Value) (x : Int32) (L : List Value) (M : Mem) (Q : Option Value → Mem → Prop), Wp d 67 86 (v0 :: v1 :: v2 :: .int x :: L) [.int a] M Q ↔ Wp d 67 87 (v0 :: v1 :: v2 :: .int x :: L) [.int x, .int a] M Q) ∧
    (∀ (d : Nat) (a : Int32) (b : Int32) (L : List Value) (M : Mem) (Q : Option Value → Mem → Prop), Wp d 67 87 L [.int a, .int b] M Q ↔ Wp d 67 88 L [.int (b * a)] M Q) ∧
    (∀ (d : Nat) (a : Int32) (v0 : Value) (v1 : Value) (x : Int32) (L : List Value) (M : Mem) (Q : Option Value → Mem → Prop), Wp d 67 88 (v0 :: v1 :: .int x :: L) [.int a] M Q ↔ Wp d 67 89 (v0 :: v1 :: .int x :: L) [.int x, .int a] M Q) ∧
    (∀ (d : Nat) (a : Int32) (b : Int32) (L : List Value) (M : Mem) (Q : Option Value → Mem → Prop), Wp d 67 89 L [.int a, .int b] M Q ↔ (if a < b then Wp d 67 92 L [] M Q else Wp d 67 96 L [] M Q)) ∧
    (∀ (d : Nat) (L : List Value) (M : Mem) (Q : Option Value → Mem → Prop), Wp d 67 92 L [] M Q ↔ Wp d 67 93 L [.int 1] M Q) ∧
    (∀ (d : Nat) (a : Int32) (L : List Value) (M : Mem) (Q : Option Value → Mem → Prop), Wp d 67 93 L [.int a] M Q ↔ Wp d 67 97 L [.int a] M Q) ∧
    (∀ (d : Nat) (L : List Value) (M : Mem) (Q : Option Value → Mem → Prop), Wp d 67 96 L [] M Q ↔ Wp d 67 97 L [.int 0] M Q) ∧
    (∀ (d : Nat) (a : Int32) (L : List Value) (M : Mem) (Q : Option Value → Mem → Prop), Wp d 67 97 L [.int a] M Q ↔ ((a = 0 ∨ a = 1) ∧ Q (some (.int a)) M)) := by
  refine ⟨?_, ?_, ?_, ?_, ?_, ?_, ?_, ?_, ?_, ?_, ?_, ?_, ?_, ?_, ?_, ?_, ?_, ?_, ?_, ?_, ?_, ?_, ?_, ?_, ?_, ?_, ?_, ?_, ?_, ?_, ?_, ?_, ?_, ?_, ?_, ?_, ?_, ?_, ?_, ?_, ?_, ?_, ?_, ?_, ?_, ?_, ?_, ?_, ?_, ?_, ?_, ?_, ?_, ?_, ?_⟩
  · intro d L M Q; exact Wp_sim (by decide +kernel : decode (cd 67) 0 = .ok (.iconst 0, 1)) rfl rfl
  · intro d a v0 v1 x L M Q; exact Wp_sim (by decide +kernel : decode (cd 67) 1 = .ok (.istore_n 2, 1)) rfl rfl
  · intro d L M Q; exact Wp_sim (by decide +kernel : decode (cd 67) 2 = .ok (.iconst 0, 1)) rfl rfl
  · intro d a v0 v1 v2 x L M Q; exact Wp_sim (by decide +kernel : decode (cd 67) 3 = .ok (.istore_n 3, 1)) rfl rfl
  · intro d L M Q; exact Wp_sim (by decide +kernel : decode (cd 67) 4 = .ok (.iconst 0, 1)) rfl rfl
  · intro d a v0 v1 v2 v3 x L M Q; exact Wp_sim (by decide +kernel : decode (cd 67) 5 = .ok (.istore 4, 2)) rfl rfl
  · intro d a x L M Q; exact Wp_sim (by decide +kernel : decode (cd 67) 9 = .ok (.aload_n 0, 1)) rfl rfl
  · intro d a b L M Q; exact q_getR (p := 196) (by decide +kernel : decode (cd 67) 10 = .ok (.getfield 12, 3)) (by decide +kernel) (by decide +kernel)
  · intro d a b L M Q; exact q_getI (p := 103) (by decide +kernel : decode (cd 67) 13 = .ok (.getfield 32, 3)) (by decide +kernel) (by decide +kernel)
  · intro d a b L M Q; exact q_ige (by decide +kernel : decode (cd 67) 16 = .ok (.if_icmp .ge 69, 3)) (by decide)
  · intro d x L M Q; exact Wp_sim (by decide +kernel : decode (cd 67) 19 = .ok (.aload_n 0, 1)) rfl rfl
  · intro d a L M Q; exact q_getR (p := 198) (by decide +kernel : decode (cd 67) 20 = .ok (.getfield 21, 3)) (by decide +kernel) (by decide +kernel)
  · intro d a L M Q; exact q_getR (p := 165) (by decide +kernel : decode (cd 67) 23 = .ok (.getfield 36, 3)) (by decide +kernel) (by decide +kernel)
  · intro d a v0 v1 v2 v3 x L M Q; exact Wp_sim (by decide +kernel : decode (cd 67) 26 = .ok (.iload 4, 2)) rfl rfl
  · intro d a b L M Q; exact q_ald (by decide +kernel : decode (cd 67) 28 = .ok (.iaload , 1))
  · intro d a L M Q; exact Wp_sim (by decide +kernel : decode (cd 67) 29 = .ok (.iconst 3, 1)) rfl rfl
  · intro d a b L M Q; exact q_ine (by decide +kernel : decode (cd 67) 30 = .ok (.if_icmp .ne 6, 3)) (by decide)
  · intro d L M Q; exact q_goto (by decide +kernel : decode (cd 67) 33 = .ok (.goto 46, 3)) (by decide)
  · intro d v0 v1 x L M Q; exact Wp_sim (by decide +kernel : decode (cd 67) 36 = .ok (.iload_n 2, 1)) rfl rfl
  · intro d a x L M Q; exact Wp_sim (by decide +kernel : decode (cd 67) 37 = .ok (.aload_n 0, 1)) rfl rfl
  · intro d a b L M Q; exact q_getR (p := 196) (by decide +kernel : decode (cd 67) 38 = .ok (.getfield 12, 3)) (by decide +kernel) (by decide +kernel)
  · intro d a b L M Q; exact q_getR (p := 74) (by decide +kernel : decode (cd 67) 41 = .ok (.getfield 52, 3)) (by decide +kernel) (by decide +kernel)
  · intro d a b v0 v1 v2 v3 x L M Q; exact Wp_sim (by decide +kernel : decode (cd 67) 44 = .ok (.iload 4, 2)) rfl rfl
  · intro d a b c L M Q; exact q_ald (by decide +kernel : decode (cd 67) 46 = .ok (.iaload , 1))
  · intro d a b L M Q; exact Wp_sim (by decide +kernel : decode (cd 67) 47 = .ok (.iadd , 1)) rfl rfl
  · intro d a v0 v1 x L M Q; exact Wp_sim (by decide +kernel : decode (cd 67) 48 = .ok (.istore_n 2, 1)) rfl rfl
  · intro d v0 x L M Q; exact Wp_sim (by decide +kernel : decode (cd 67) 49 = .ok (.iload_n 1, 1)) rfl rfl
  · intro d a x L M Q; exact Wp_sim (by decide +kernel : decode (cd 67) 50 = .ok (.aload_n 0, 1)) rfl rfl
  · intro d a b L M Q; exact q_getR (p := 196) (by decide +kernel : decode (cd 67) 51 = .ok (.getfield 12, 3)) (by decide +kernel) (by decide +kernel)
  · intro d a b L M Q; exact q_getR (p := 71) (by decide +kernel : decode (cd 67) 54 = .ok (.getfield 55, 3)) (by decide +kernel) (by decide +kernel)
  · intro d a b v0 v1 v2 v3 x L M Q; exact Wp_sim (by decide +kernel : decode (cd 67) 57 = .ok (.iload 4, 2)) rfl rfl
  · intro d a b c L M Q; exact q_ald (by decide +kernel : decode (cd 67) 59 = .ok (.iaload , 1))
  · intro d a b L M Q; exact Wp_sim (by decide +kernel : decode (cd 67) 60 = .ok (.ishr , 1)) rfl rfl
  · intro d a L M Q; exact Wp_sim (by decide +kernel : decode (cd 67) 61 = .ok (.iconst 1, 1)) rfl rfl
  · intro d a b L M Q; exact Wp_sim (by decide +kernel : decode (cd 67) 62 = .ok (.iand , 1)) rfl rfl
  · intro d a L M Q; exact q_zeq (by decide +kernel : decode (cd 67) 63 = .ok (.ifCond .eq 16, 3)) (by decide)
  · intro d v0 v1 v2 x L M Q; exact Wp_sim (by decide +kernel : decode (cd 67) 66 = .ok (.iload_n 3, 1)) rfl rfl
  · intro d a x L M Q; exact Wp_sim (by decide +kernel : decode (cd 67) 67 = .ok (.aload_n 0, 1)) rfl rfl
  · intro d a b L M Q; exact q_getR (p := 196) (by decide +kernel : decode (cd 67) 68 = .ok (.getfield 12, 3)) (by decide +kernel) (by decide +kernel)
  · intro d a b L M Q; exact q_getR (p := 74) (by decide +kernel : decode (cd 67) 71 = .ok (.getfield 52, 3)) (by decide +kernel) (by decide +kernel)
  · intro d a b v0 v1 v2 v3 x L M Q; exact Wp_sim (by decide +kernel : decode (cd 67) 74 = .ok (.iload 4, 2)) rfl rfl
  · intro d a b c L M Q; exact q_ald (by decide +kernel : decode (cd 67) 76 = .ok (.iaload , 1))
  · intro d a b L M Q; exact Wp_sim (by decide +kernel : decode (cd 67) 77 = .ok (.iadd , 1)) rfl rfl
  · intro d a v0 v1 v2 x L M Q; exact Wp_sim (by decide +kernel : decode (cd 67) 78 = .ok (.istore_n 3, 1)) rfl rfl
  · intro d v0 v1 v2 v3 x L M Q; exact Wp_sim (by decide +kernel : decode (cd 67) 79 = .ok (.iinc 4 1, 3)) rfl rfl
  · intro d L M Q; exact q_goto (by decide +kernel : decode (cd 67) 82 = .ok (.goto (-75), 3)) (by decide)
  · intro d L M Q; exact Wp_sim (by decide +kernel : decode (cd 67) 85 = .ok (.iconst 2, 1)) rfl rfl
  · intro d a v0 v1 v2 x L M Q; exact Wp_sim (by decide +kernel : decode (cd 67) 86 = .ok (.iload_n 3, 1)) rfl rfl
  · intro d a b L M Q; exact Wp_sim (by decide +kernel : decode (cd 67) 87 = .ok (.imul , 1)) rfl rfl
  · intro d a v0 v1 x L M Q; exact Wp_sim (by decide +kernel : decode (cd 67) 88 = .ok (.iload_n 2, 1)) rfl rfl
  · intro d a b L M Q; exact q_ile (by decide +kernel : decode (cd 67) 89 = .ok (.if_icmp .le 7, 3)) (by decide)
  · intro d L M Q; exact Wp_sim (by decide +kernel : decode (cd 67) 92 = .ok (.iconst 1, 1)) rfl rfl
  · intro d a L M Q; exact q_goto (by decide +kernel : decode (cd 67) 93 = .ok (.goto 4, 3)) (by decide)
  · intro d L M Q; exact Wp_sim (by decide +kernel : decode (cd 67) 96 = .ok (.iconst 0, 1)) rfl rfl
  · intro d a L M Q; exact q_zret (by decide +kernel : decode (cd 67) 97 = .ok (.ireturn , 1)) (by decide +kernel)
theorem h67_7 : (∀ (d : Nat) (v0 : Value) (v1 : Value) (v2 : Value) (v3 : Value) (x : Int32) (L : List Value) (M : Mem) (Q : Option Value → Mem → Prop), Wp d 67 7 (v0 :: v1 :: v2 :: v3 :: .int x :: L) [] M Q ↔ Wp d 67 9 (v0 :: v1 :: v2 :: v3 :: .int x :: L) [.int x] M Q) := by
  intro d v0 v1 v2 v3 x L M Q; exact Wp_sim (by decide +kernel : decode (cd 67) 7 = .ok (.iload 4, 2)) rfl rfl

/- 68: Walk.findBest -/
set_option maxRecDepth 10000 in
theorem e68 : (∀ (d : Nat) (x : Nat) (L : List Value) (M : Mem) (Q : Option Value → Mem → Prop), Wp d 68 0 (.ref x :: L) [] M Q ↔ Wp d 68 1 (.ref x :: L) [.ref x] M Q) ∧
    (∀ (d : Nat) (a : Nat) (v0 : Value) (v1 : Value) (x : Int32) (L : List Value) (M : Mem) (Q : Option Value → Mem → Prop), Wp d 68 1 (v0 :: v1 :: .int x :: L) [.ref a] M Q ↔ Wp d 68 2 (v0 :: v1 :: .int x :: L) [.int x, .ref a] M Q) ∧
    (∀ (d : Nat) (a : Int32) (b : Nat) (L : List Value) (M : Mem) (Q : Option Value → Mem → Prop), Wp d 68 2 L [.int a, .ref b] M Q ↔ (isK b 10 = true ∧ Wp d 68 5 L [] (up2 M b 0 a) Q)) ∧
    (∀ (d : Nat) (x : Nat) (L : List Value) (M : Mem) (Q : Option Value → Mem → Prop), Wp d 68 5 (.ref x :: L) [] M Q ↔ Wp d 68 6 (.ref x :: L) [.ref x] M Q) ∧
    (∀ (d : Nat) (a : Nat) (L : List Value) (M : Mem) (Q : Option Value → Mem → Prop), Wp d 68 6 L [.ref a] M Q ↔ Wp d 68 7 L [.int 0, .ref a] M Q) ∧
    (∀ (d : Nat) (a : Int32) (b : Nat) (L : List Value) (M : Mem) (Q : Option Value → Mem → Prop), Wp d 68 7 L [.int a, .ref b] M Q ↔ (isK b 10 = true ∧ Wp d 68 10 L [] (up2 M b 1 a) Q)) ∧
    (∀ (d : Nat) (x : Nat) (L : List Value) (M : Mem) (Q : Option Value → Mem → Prop), Wp d 68 10 (.ref x :: L) [] M Q ↔ Wp d 68 11 (.ref x :: L) [.ref x] M Q) ∧
    (∀ (d : Nat) (a : Nat) (L : List Value) (M : Mem) (Q : Option Value → Mem → Prop), Wp d 68 11 L [.ref a] M Q ↔ Wp d 68 12 L [.int 0, .ref a] M Q) ∧
    (∀ (d : Nat) (a : Int32) (b : Nat) (L : List Value) (M : Mem) (Q : Option Value → Mem → Prop), Wp d 68 12 L [.int a, .ref b] M Q ↔ (isK b 10 = true ∧ Wp d 68 15 L [] (up2 M b 2 a) Q)) ∧
    (∀ (d : Nat) (x : Nat) (L : List Value) (M : Mem) (Q : Option Value → Mem → Prop), Wp d 68 15 (.ref x :: L) [] M Q ↔ Wp d 68 16 (.ref x :: L) [.ref x] M Q) ∧
    (∀ (d : Nat) (a : Nat) (L : List Value) (M : Mem) (Q : Option Value → Mem → Prop), Wp d 68 16 L [.ref a] M Q ↔ Wp d 68 17 L [.int 0, .ref a] M Q) ∧
    (∀ (d : Nat) (a : Int32) (b : Nat) (L : List Value) (M : Mem) (Q : Option Value → Mem → Prop), Wp d 68 17 L [.int a, .ref b] M Q ↔ (isK b 10 = true ∧ Wp d 68 20 L [] (up2 M b 3 a) Q)) ∧
    (∀ (d : Nat) (x : Nat) (L : List Value) (M : Mem) (Q : Option Value → Mem → Prop), Wp d 68 20 (.ref x :: L) [] M Q ↔ Wp d 68 21 (.ref x :: L) [.ref x] M Q) ∧
    (∀ (d : Nat) (a : Nat) (v0 : Value) (x : Nat) (L : List Value) (M : Mem) (Q : Option Value → Mem → Prop), Wp d 68 21 (v0 :: .ref x :: L) [.ref a] M Q ↔ Wp d 68 22 (v0 :: .ref x :: L) [.ref x, .ref a] M Q) ∧
    (∀ (d : Nat) (a : Nat) (b : Nat) (L : List Value) (M : Mem) (Q : Option Value → Mem → Prop), Wp d 68 22 L [.ref a, .ref b] M Q ↔ Wp d 68 23 L [.int 0, .ref a, .ref b] M Q) ∧
    (∀ (d : Nat) (a : Int32) (b : Nat) (c : Nat) (L : List Value) (M : Mem) (Q : Option Value → Mem → Prop), Wp d 68 23 L [.int a, .ref b, .ref c] M Q ↔ Wp d 68 24 L [.int 0, .int a, .ref b, .ref c] M Q) ∧
    (∀ (d : Nat) (a : Int32) (b : Int32) (c : Nat) (d2 : Nat) (L : List Value) (M : Mem) (Q : Option Value → Mem → Prop), Wp d 68 24 L [.int a, .int b, .ref c, .ref d2] M Q ↔ Wp d 68 25 L [.int (-1), .int a, .int b, .ref c, .ref d2] M Q) ∧
    (∀ (d : Nat) (a : Int32) (b : Int32) (c : Int32) (d2 : Nat) (e : Nat) (L : List Value) (M : Mem) (Q : Option Value → Mem → Prop), Wp d 68 25 L [.int a, .int b, .int c, .ref d2, .ref e] M Q ↔ Wp d 68 26 L [.int 0, .int a, .int b, .int c, .ref d2, .ref e] M Q) ∧
    (∀ (d : Nat) (a : Int32) (b : Int32) (c : Int32) (d2 : Int32) (e : Nat) (f : Nat) (L : List Value) (M : Mem) (Q : Option Value → Mem → Prop), Wp d 68 26 L [.int a, .int b, .int c, .int d2, .ref e, .ref f] M Q ↔ Wp d 68 27 L [.int 0, .int a, .int b, .int c, .int d2, .ref e, .ref f] M Q) ∧
    (∀ (d : Nat) (a : Int32) (b : Int32) (c : Int32) (d2 : Int32) (e : Int32) (f : Nat) (g : Nat) (L : List Value) (M : Mem) (Q : Option Value → Mem → Prop), Wp d 68 27 L [.int a, .int b, .int c, .int d2, .int e, .ref f, .ref g] M Q ↔ Wp d 68 28 L [.int 0, .int a, .int b, .int c, .int d2, .int e, .ref f, .ref g] M Q) ∧
    (∀ (d : Nat) (a : Int32) (b : Int32) (c : Int32) (d2 : Int32) (e : Int32) (f : Int32) (g : Nat) (h : Nat) (L : List Value) (M : Mem) (Q : Option Value → Mem → Prop), Wp (d + 1) 68 28 L [.int a, .int b, .int c, .int d2, .int e, .int f, .ref g, .ref h] M Q ↔ (isK h 10 = true ∧ Wp d 69 0 [.ref h, .ref g, .int f, .int e, .int d2, .int c, .int b, .int a, .null, .null, .null] [] M (fun r M2 => Wp (d + 1) 68 31 L (r.toList ++ []) M2 Q))) ∧
    (∀ (d : Nat) (L : List Value) (M : Mem) (Q : Option Value → Mem → Prop), Wp d 68 31 L [] M Q ↔ Q none M) := by
  refine ⟨?_, ?_, ?_, ?_, ?_, ?_, ?_, ?_, ?_, ?_, ?_, ?_, ?_, ?_, ?_, ?_, ?_, ?_, ?_, ?_, ?_, ?_⟩
  · intro d x L M Q; exact Wp_sim (by decide +kernel : decode (cd 68) 0 = .ok (.aload_n 0, 1)) rfl rfl
  · intro d a v0 v1 x L M Q; exact Wp_sim (by decide +kernel : decode (cd 68) 1 = .ok (.iload_n 2, 1)) rfl rfl
  · intro d a b L M Q; exact q_putI (p := 211) (by decide +kernel : decode (cd 68) 2 = .ok (.putfield 9, 3)) (by decide +kernel) (by decide +kernel)
  · intro d x L M Q; exact Wp_sim (by decide +kernel : decode (cd 68) 5 = .ok (.aload_n 0, 1)) rfl rfl
  · intro d a L M Q; exact Wp_sim (by decide +kernel : decode (cd 68) 6 = .ok (.iconst 0, 1)) rfl rfl
  · intro d a b L M Q; exact q_putI (p := 212) (by decide +kernel : decode (cd 68) 7 = .ok (.putfield 15, 3)) (by decide +kernel) (by decide +kernel)
  · intro d x L M Q; exact Wp_sim (by decide +kernel : decode (cd 68) 10 = .ok (.aload_n 0, 1)) rfl rfl
  · intro d a L M Q; exact Wp_sim (by decide +kernel : decode (cd 68) 11 = .ok (.iconst 0, 1)) rfl rfl
  · intro d a b L M Q; exact q_putI (p := 214) (by decide +kernel : decode (cd 68) 12 = .ok (.putfield 18, 3)) (by decide +kernel) (by decide +kernel)
  · intro d x L M Q; exact Wp_sim (by decide +kernel : decode (cd 68) 15 = .ok (.aload_n 0, 1)) rfl rfl
  · intro d a L M Q; exact Wp_sim (by decide +kernel : decode (cd 68) 16 = .ok (.iconst 0, 1)) rfl rfl
  · intro d a b L M Q; exact q_putI (p := 216) (by decide +kernel : decode (cd 68) 17 = .ok (.putfield 21, 3)) (by decide +kernel) (by decide +kernel)
  · intro d x L M Q; exact Wp_sim (by decide +kernel : decode (cd 68) 20 = .ok (.aload_n 0, 1)) rfl rfl
  · intro d a v0 x L M Q; exact Wp_sim (by decide +kernel : decode (cd 68) 21 = .ok (.aload_n 1, 1)) rfl rfl
  · intro d a b L M Q; exact Wp_sim (by decide +kernel : decode (cd 68) 22 = .ok (.iconst 0, 1)) rfl rfl
  · intro d a b c L M Q; exact Wp_sim (by decide +kernel : decode (cd 68) 23 = .ok (.iconst 0, 1)) rfl rfl
  · intro d a b c d2 L M Q; exact Wp_sim (by decide +kernel : decode (cd 68) 24 = .ok (.iconst (-1), 1)) rfl rfl
  · intro d a b c d2 e L M Q; exact Wp_sim (by decide +kernel : decode (cd 68) 25 = .ok (.iconst 0, 1)) rfl rfl
  · intro d a b c d2 e f L M Q; exact Wp_sim (by decide +kernel : decode (cd 68) 26 = .ok (.iconst 0, 1)) rfl rfl
  · intro d a b c d2 e f g L M Q; exact Wp_sim (by decide +kernel : decode (cd 68) 27 = .ok (.iconst 0, 1)) rfl rfl
  · intro d a b c d2 e f g h L M Q; exact q_invV (pz := 713) (n := 7) (c := 10) (m := 11) (k := h) (As := [.ref g, .int f, .int e, .int d2, .int c, .int b, .int a]) (rest := []) (by decide +kernel : decode (cd 68) 28 = .ok (.invokevirtual 24, 3)) (by decide +kernel) (by decide +kernel) rfl rfl (Nat.le_of_ble_eq_true rfl) (Nat.le_of_ble_eq_true rfl) rfl
  · intro d L M Q; exact q_vret (by decide +kernel : decode (cd 68) 31 = .ok (.return_ , 1)) (by decide +kernel)

/- 69: Walk.goOn -/
set_option maxRecDepth 10000 in
theorem e69_0 : (∀ (d : Nat) (v0 : Value) (v1 : Value) (v2 : Value) (v3 : Value) (v4 : Value) (v5 : Value) (x : Int32) (L : List Value) (M : Mem) (Q : Option Value → Mem → Prop), Wp d 69 0 (v0 :: v1 :: v2 :: v3 :: v4 :: v5 :: .int x :: L) [] M Q ↔ Wp d 69 2 (v0 :: v1 :: v2 :: v3 :: v4 :: v5 :: .int x :: L) [.int x] M Q) ∧
    (∀ (d : Nat) (a : Int32) (v0 : Value) (x : Nat) (L : List Value) (M : Mem) (Q : Option Value → Mem → Prop), Wp d 69 2 (v0 :: .ref x :: L) [.int a] M Q ↔ Wp d 69 3 (v0 :: .ref x :: L) [.ref x, .int a] M Q) ∧
    (∀ (d : Nat) (a : Nat) (b : Int32) (v0 : Value) (v1 : Value) (v2 : Value) (v3 : Value) (x : Int32) (L : List Value) (M : Mem) (Q : Option Value → Mem → Prop), Wp d 69 3 (v0 :: v1 :: v2 :: v3 :: .int x :: L) [.ref a, .int b] M Q ↔ Wp d 69 5 (v0 :: v1 :: v2 :: v3 :: .int x :: L) [.int x, .ref a, .int b] M Q) ∧
    (∀ (d : Nat) (a : Int32) (b : Nat) (c : Int32) (L : List Value) (M : Mem) (Q : Option Value → Mem → Prop), Wp d 69 5 L [.int a, .ref b, .int c] M Q ↔ Wp d 69 6 L [.int (-1), .int a, .ref b, .int c] M Q) ∧
    (∀ (d : Nat) (a : Int32) (b : Int32) (c : Nat) (d2 : Int32) (L : List Value) (M : Mem) (Q : Option Value → Mem → Prop), Wp (d + 1) 69 6 L [.int a, .int b, .ref c, .int d2] M Q ↔ (isK c 1 = true ∧ Wp d 7 0 [.ref c, .int b, .int a, .null, .null, .null, .null] [] M (fun r M2 => Wp (d + 1) 69 9 L (r.toList ++ [.int d2]) M2 Q))) ∧
    (∀ (d : Nat) (a : Int32) (b : Int32) (L : List Value) (M : Mem) (Q : Option Value → Mem → Prop), Wp d 69 9 L [.int a, .int b] M Q ↔ Wp d 69 10 L [.int (b + a)] M Q) ∧
    (∀ (d : Nat) (a : Int32) (v0 : Value) (v1 : Value) (v2 : Value) (v3 : Value) (v4 : Value) (v5 : Value) (v6 : Value) (v7 : Value) (x : Value) (L : List Value) (M : Mem) (Q : Option Value → Mem → Prop), Wp d 69 10 (v0 :: v1 :: v2 :: v3 :: v4 :: v5 :: v6 :: v7 :: x :: L) [.int a] M Q ↔ Wp d 69 12 (v0 :: v1 :: v2 :: v3 :: v4 :: v5 :: v6 :: clr v7 :: .int a :: L) [] M Q) ∧
    (∀ (d : Nat) (v0 : Value) (v1 : Value) (x : Int32) (L : List Value) (M : Mem) (Q : Option Value → Mem → Prop), Wp d 69 12 (v0 :: v1 :: .int x :: L) [] M Q ↔ Wp d 69 13 (v0 :: v1 :: .int x :: L) [.int x] M Q) ∧
    (∀ (d : Nat) (a : Int32) (L : List Value) (M : Mem) (Q : Option Value → Mem → Prop), Wp d 69 13 L [.int a] M Q ↔ Wp d 69 15 L [.int 6, .int a] M Q) ∧
    (∀ (d : Nat) (a : Int32) (b : Int32) (L : List Value) (M : Mem) (Q : Option Value → Mem → Prop), Wp d 69 15 L [.int a, .int b] M Q ↔ (if a < b then Wp d 69 27 L [] M Q else Wp d 69 18 L [] M Q)) ∧
    (∀ (d : Nat) (v0 : Value) (v1 : Value) (v2 : Value) (v3 : Value) (v4 : Value) (v5 : Value) (v6 : Value) (v7 : Value) (x : Int32) (L : List Value) (M : Mem) (Q : Option Value → Mem → Prop), Wp d 69 18 (v0 :: v1 :: v2 :: v3 :: v4 :: v5 :: v6 :: v7 :: .int x :: L) [] M Q ↔ Wp d 69 20 (v0 :: v1 :: v2 :: v3 :: v4 :: v5 :: v6 :: v7 :: .int x :: L) [.int x] M Q) ∧
    (∀ (d : Nat) (a : Int32) (x : Nat) (L : List Value) (M : Mem) (Q : Option Value → Mem → Prop), Wp d 69 20 (.ref x :: L) [.int a] M Q ↔ Wp d 69 21 (.ref x :: L) [.ref x, .int a] M Q) ∧
    (∀ (d : Nat) (a : Nat) (b : Int32) (L : List Value) (M : Mem) (Q : Option Value → Mem → Prop), Wp d 69 21 L [.ref a, .int b] M Q ↔ (isK a 10 = true ∧ Wp d 69 24 L [.int (M a 0), .int b] M Q)) ∧
    (∀ (d : Nat) (a : Int32) (b : Int32) (L : List Value) (M : Mem) (Q : Option Value → Mem → Prop), Wp d 69 24 L [.int a, .int b] M Q ↔ (if a < b then Wp d 69 27 L [] M Q else Wp d 69 28 L [] M Q)) ∧
    (∀ (d : Nat) (L : List Value) (M : Mem) (Q : Option Value → Mem → Prop), Wp d 69 27 L [] M Q ↔ Q none M) ∧
    (∀ (d : Nat) (x : Nat) (L : List Value) (M : Mem) (Q : Option Value → Mem → Prop), Wp d 69 28 (.ref x :: L) [] M Q ↔ Wp d 69 29 (.ref x :: L) [.ref x] M Q) ∧
    (∀ (d : Nat) (a : Nat) (v0 : Value) (v1 : Value) (v2 : Value) (v3 : Value) (v4 : Value) (x : Int32) (L : List Value) (M : Mem) (Q : Option Value → Mem → Prop), Wp d 69 29 (v0 :: v1 :: v2 :: v3 :: v4 :: .int x :: L) [.ref a] M Q ↔ Wp d 69 31 (v0 :: v1 :: v2 :: v3 :: v4 :: .int x :: L) [.int x, .ref a] M Q) ∧
    (∀ (d : Nat) (a : Int32) (b : Nat) (v0 : Value) (v1 : Value) (v2 : Value) (v3 : Value) (v4 : Value) (v5 : Value) (v6 : Value) (v7 : Value) (x : Int32) (L : List Value) (M : Mem) (Q : Option Value → Mem → Prop), Wp d 69 31 (v0 :: v1 :: v2 :: v3 :: v4 :: v5 :: v6 :: v7 :: .int x :: L) [.int a, .ref b] M Q ↔ Wp d 69 33 (v0 :: v1 :: v2 :: v3 :: v4 :: v5 :: v6 :: v7 :: .int x :: L) [.int x, .int a, .ref b] M Q) ∧
    (∀ (d : Nat) (a : Int32) (b : Int32) (c : Nat) (v0 : Value) (v1 : Value) (v2 : Value) (v3 : Value) (v4 : Value) (v5 : Value) (v6 : Value) (x : Int32) (L : List Value) (M : Mem) (Q : Option Value → Mem → Prop), Wp d 69 33 (v0 :: v1 :: v2 :: v3 :: v4 :: v5 :: v6 :: .int x :: L) [.int a, .int b, .ref c] M Q ↔ Wp d 69 35 (v0 :: v1 :: v2 :: v3 :: v4 :: v5 :: v6 :: .int x :: L) [.int x, .int a, .int b, .ref c] M Q) ∧
    (∀ (d : Nat) (a : Int32) (b : Int32) (c : Int32) (d2 : Nat) (L : List Value) (M : Mem) (Q : Option Value → Mem → Prop), Wp (d + 1) 69 35 L [.int a, .int b, .int c, .ref d2] M Q ↔ (isK d2 10 = true ∧ Wp d 70 0 [.ref d2, .int c, .int b, .int a] [] M (fun r M2 => Wp (d + 1) 69 38 L (r.toList ++ []) M2 Q))) ∧
    (∀ (d : Nat) (a : Int32) (L : List Value) (M : Mem) (Q : Option Value → Mem → Prop), Wp d 69 38 L [.int a] M Q ↔ (if a = 0 then Wp d 69 59 L [] M Q else Wp d 69 41 L [] M Q)) ∧
    (∀ (d : Nat) (x : Nat) (L : List Value) (M : Mem) (Q : Option Value → Mem → Prop), Wp d 69 41 (.ref x :: L) [] M Q ↔ Wp d 69 42 (.ref x :: L) [.ref x] M Q) ∧
    (∀ (d : Nat) (a : Nat) (v0 : Value) (v1 : Value) (v2 : Value) (v3 : Value) (v4 : Value) (x : Int32) (L : List Value) (M : Mem) (Q : Option Value → Mem → Prop), Wp d 69 42 (v0 :: v1 :: v2 :: v3 :: v4 :: .int x :: L) [.ref a] M Q ↔ Wp d 69 44 (v0 :: v1 :: v2 :: v3 :: v4 :: .int x :: L) [.int x, .ref a] M Q) ∧
    (∀ (d : Nat) (a : Int32) (b : Nat) (L : List Value) (M : Mem) (Q : Option Value → Mem → Prop), Wp d 69 44 L [.int a, .ref b] M Q ↔ (isK b 10 = true ∧ Wp d 69 47 L [] (up2 M b 1 a) Q)) ∧
    (∀ (d : Nat) (x : Nat) (L : List Value) (M : Mem) (Q : Option Value → Mem → Prop), Wp d 69 47 (.ref x :: L) [] M Q ↔ Wp d 69 48 (.ref x :: L) [.ref x] M Q) ∧
    (∀ (d : Nat) (a : Nat) (v0 : Value) (v1 : Value) (v2 : Value) (v3 : Value) (v4 : Value) (v5 : Value) (v6 : Value) (v7 : Value) (x : Int32) (L : List Value) (M : Mem) (Q : Option Value → Mem → Prop), Wp d 69 48 (v0 :: v1 :: v2 :: v3 :: v4 :: v5 :: v6 :: v7 :: .int x :: L) [.ref a] M Q ↔ Wp d 69 50 (v0 :: v1 :: v2 :: v3 :: v4 :: v5 :: v6 :: v7 :: .int x :: L) [.int x, .ref a] M Q) ∧
    (∀ (d : Nat) (a : Int32) (b : Nat) (L : List Value) (M : Mem) (Q : Option Value → Mem → Prop), Wp d 69 50 L [.int a, .ref b] M Q ↔ (isK b 10 = true ∧ Wp d 69 53 L [] (up2 M b 2 a) Q)) ∧
    (∀ (d : Nat) (x : Nat) (L : List Value) (M : Mem) (Q : Option Value → Mem → Prop), Wp d 69 53 (.ref x :: L) [] M Q ↔ Wp d 69 54 (.ref x :: L) [.ref x] M Q) ∧
    (∀ (d : Nat) (a : Nat) (v0 : Value) (v1 : Value) (v2 : Value) (v3 : Value) (v4 : Value) (v5 : Value) (v6 : Value) (x : Int32) (L : List Value) (M : Mem) (Q : Option Value → Mem → Prop), Wp d 69 54 (v0 :: v1 :: v2 :: v3 :: v4 :: v5 :: v6 :: .int x :: L) [.ref a] M Q ↔ Wp d 69 56 (v0 :: v1 :: v2 :: v3 :: v4 :: v5 :: v6 :: .int x :: L) [.int x, .ref a] M Q) ∧
    (∀ (d : Nat) (a : Int32) (b : Nat) (L : List Value) (M : Mem) (Q : Option Value → Mem → Prop), Wp d 69 56 L [.int a, .ref b] M Q ↔ (isK b 10 = true ∧ Wp d 69 59 L [] (up2 M b 3 a) Q)) ∧
    (∀ (d : Nat) (L : List Value) (M : Mem) (Q : Option Value → Mem → Prop), Wp d 69 59 L [] M Q ↔ Wp d 69 60 L [.int 0] M Q) ∧
    (∀ (d : Nat) (a : Int32) (v0 : Value) (v1 : Value) (v2 : Value) (v3 : Value) (v4 : Value) (v5 : Value) (v6 : Value) (v7 : Value) (v8 : Value) (x : Value) (L : List Value) (M : Mem) (Q : Option Value → Mem → Prop), Wp d 69 60 (v0 :: v1 :: v2 :: v3 :: v4 :: v5 :: v6 :: v7 :: v8 :: x :: L) [.int a] M Q ↔ Wp d 69 62 (v0 :: v1 :: v2 :: v3 :: v4 :: v5 :: v6 :: v7 :: clr v8 :: .int a :: L) [] M Q) ∧
    (∀ (d : Nat) (a : Int32) (v0 : Value) (x : Nat) (L : List Value) (M : Mem) (Q : Option Value → Mem → Prop), Wp d 69 64 (v0 :: .ref x :: L) [.int a] M Q ↔ Wp d 69 65 (v0 :: .ref x :: L) [.ref x, .int a] M Q) ∧
    (∀ (d : Nat) (a : Nat) (b : Int32) (L : List Value) (M : Mem) (Q : Option Value → Mem → Prop), Wp d 69 65 L [.ref a, .int b] M Q ↔ (isK a 1 = true ∧ Wp d 69 68 L [.int (M a 14), .int b] M Q)) ∧
    (∀ (d : Nat) (a : Int32) (b : Int32) (L : List Value) (M : Mem) (Q : Option Value → Mem → Prop), Wp d 69 68 L [.int a, .int b] M Q ↔ (if b < a then Wp d 69 71 L [] M Q else Wp d 69 140 L [] M Q)) ∧
    (∀ (d : Nat) (v0 : Value) (v1 : Value) (v2 : Value) (x : Int32) (L : List Value) (M : Mem) (Q : Option Value → Mem → Prop), Wp d 69 71 (v0 :: v1 :: v2 :: .int x :: L) [] M Q ↔ Wp d 69 72 (v0 :: v1 :: v2 :: .int x :: L) [.int x] M Q) ∧
    (∀ (d : Nat) (a : Int32) (v0 : Value) (v1 : Value) (v2 : Value) (v3 : Value) (v4 : Value) (v5 : Value) (v6 : Value) (v7 : Value) (v8 : Value) (x : Int32) (L : List Value) (M : Mem) (Q : Option Value → Mem → Prop), Wp d 69 72 (v0 :: v1 :: v2 :: v3 :: v4 :: v5 :: v6 :: v7 :: v8 :: .int x :: L) [.int a] M Q ↔ Wp d 69 74 (v0 :: v1 :: v2 :: v3 :: v4 :: v5 :: v6 :: v7 :: v8 :: .int x :: L) [.int x, .int a] M Q) ∧
    (∀ (d : Nat) (a : Int32) (b : Int32) (L : List Value) (M : Mem) (Q : Option Value → Mem → Prop), Wp d 69 74 L [.int a, .int b] M Q ↔ Wp d 69 75 L [.int (b >>> (a &&& 31))] M Q) ∧
    (∀ (d : Nat) (a : Int32) (L : List Value) (M : Mem) (Q : Option Value → Mem → Prop), Wp d 69 75 L [.int a] M Q ↔ Wp d 69 76 L [.int 1, .int a] M Q) ∧
    (∀ (d : Nat) (a : Int32) (b : Int32) (L : List Value) (M : Mem) (Q : Option Value → Mem → Prop), Wp d 69 76 L [.int a, .int b] M Q ↔ Wp d 69 77 L [.int (b &&& a)] M Q) ∧
    (∀ (d : Nat) (a : Int32) (L : List Value) (M : Mem) (Q : Option Value → Mem → Prop), Wp d 69 77 L [.int a] M Q ↔ (if a = 0 then Wp d 69 83 L [] M Q else Wp d 69 80 L [] M Q)) ∧
    (∀ (d : Nat) (L : List Value) (M : Mem) (Q : Option Value → Mem → Prop), Wp d 69 80 L [] M Q ↔ Wp d 69 134 L [] M Q) ∧
    (∀ (d : Nat) (v0 : Value) (v1 : Value) (v2 : Value) (v3 : Value) (v4 : Value) (v5 : Value) (x : Int32) (L : List Value) (M : Mem) (Q : Option Value → Mem → Prop), Wp d 69 83 (v0 :: v1 :: v2 :: v3 :: v4 :: v5 :: .int x :: L) [] M Q ↔ Wp d 69 85 (v0 :: v1 :: v2 :: v3 :: v4 :: v5 :: .int x :: L) [.int x] M Q) ∧
    (∀ (d : Nat) (a : Int32) (v0 : Value) (x : Nat) (L : List Value) (M : Mem) (Q : Option Value → Mem → Prop), Wp d 69 85 (v0 :: .ref x :: L) [.int a] M Q ↔ Wp d 69 86 (v0 :: .ref x :: L) [.ref x, .int a] M Q) ∧
    (∀ (d : Nat) (a : Nat) (b : Int32) (v0 : Value) (v1 : Value) (v2 : Value) (v3 : Value) (x : Int32) (L : List Value) (M : Mem) (Q : Option Value → Mem → Prop), Wp d 69 86 (v0 :: v1 :: v2 :: v3 :: .int x :: L) [.ref a, .int b] M Q ↔ Wp d 69 88 (v0 :: v1 :: v2 :: v3 :: .int x :: L) [.int x, .ref a, .int b] M Q) ∧
    (∀ (d : Nat) (a : Int32) (b : Nat) (c : Int32) (v0 : Value) (v1 : Value) (v2 : Value) (v3 : Value) (v4 : Value) (v5 : Value) (v6 : Value) (v7 : Value) (v8 : Value) (x : Int32) (L : List Value) (M : Mem) (Q : Option Value → Mem → Prop), Wp d 69 88 (v0 :: v1 :: v2 :: v3 :: v4 :: v5 :: v6 :: v7 :: v8 :: .int x :: L) [.int a, .ref b, .int c] M Q ↔ Wp d 69 90 (v0 :: v1 :: v2 :: v3 :: v4 :: v5 :: v6 :: v7 :: v8 :: .int x :: L) [.int x, .int a, .ref b, .int c] M Q) ∧
    (∀ (d : Nat) (a : Int32) (b : Int32) (c : Nat) (d2 : Int32) (L : List Value) (M : Mem) (Q : Option Value → Mem → Prop), Wp (d + 1) 69 90 L [.int a, .int b, .ref c, .int d2] M Q ↔ (isK c 1 = true ∧ Wp d 7 0 [.ref c, .int b, .int a, .null, .null, .null, .null] [] M (fun r M2 => Wp (d + 1) 69 93 L (r.toList ++ [.int d2]) M2 Q))) ∧
    (∀ (d : Nat) (a : Int32) (b : Int32) (L : List Value) (M : Mem) (Q : Option Value → Mem → Prop), Wp d 69 93 L [.int a, .int b] M Q ↔ Wp d 69 94 L [.int (b + a)] M Q) ∧
    (∀ (d : Nat) (a : Int32) (v0 : Value) (v1 : Value) (v2 : Value) (v3 : Value) (v4 : Value) (v5 : Value) (v6 : Value) (v7 : Value) (v8 : Value) (v9 : Value) (x : Value) (L : List Value) (M : Mem) (Q : Option Value → Mem → Prop), Wp d 69 94 (v0 :: v1 :: v2 :: v3 :: v4 :: v5 :: v6 :: v7 :: v8 :: v9 :: x :: L) [.int a] M Q ↔ Wp d 69 96 (v0 :: v1 :: v2 :: v3 :: v4 :: v5 :: v6 :: v7 :: v8 :: clr v9 :: .int a :: L) [] M Q) ∧
    (∀ (d : Nat) (x : Nat) (L : List Value) (M : Mem) (Q : Option Value → Mem → Prop), Wp d 69 96 (.ref x :: L) [] M Q ↔ Wp d 69 97 (.ref x :: L) [.ref x] M Q) ∧
    (∀ (d : Nat) (a : Nat) (v0 : Value) (x : Nat) (L : List Value) (M : Mem) (Q : Option Value → Mem → Prop), Wp d 69 97 (v0 :: .ref x :: L) [.ref a] M Q ↔ Wp d 69 98 (v0 :: .ref x :: L) [.ref x, .ref a] M Q) ∧
    (∀ (d : Nat) (a : Nat) (b : Nat) (v0 : Value) (v1 : Value) (x : Int32) (L : List Value) (M : Mem) (Q : Option Value → Mem → Prop), Wp d 69 98 (v0 :: v1 :: .int x :: L) [.ref a, .ref b] M Q ↔ Wp d 69 99 (v0 :: v1 :: .int x :: L) [.int x, .ref a, .ref b] M Q) ∧
    (∀ (d : Nat) (a : Int32) (b : Nat) (c : Nat) (L : List Value) (M : Mem) (Q : Option Value → Mem → Prop), Wp d 69 99 L [.int a, .ref b, .ref c] M Q ↔ Wp d 69 100 L [.int 1, .int a, .ref b, .ref c] M Q) ∧
    (∀ (d : Nat) (a : Int32) (b : Int32) (c : Nat) (d2 : Nat) (L : List Value) (M : Mem) (Q : Option Value → Mem → Prop), Wp d 69 100 L [.int a, .int b, .ref c, .ref d2] M Q ↔ Wp d 69 101 L [.int (b + a), .ref c, .ref d2] M Q) ∧
    (∀ (d : Nat) (a : Int32) (b : Nat) (c : Nat) (v0 : Value) (v1 : Value) (v2 : Value) (x : Int32) (L : List Value) (M : Mem) (Q : Option Value → Mem → Prop), Wp d 69 101 (v0 :: v1 :: v2 :: .int x :: L) [.int a, .ref b, .ref c] M Q ↔ Wp d 69 102 (v0 :: v1 :: v2 :: .int x :: L) [.int x, .int a, .ref b, .ref c] M Q) ∧
    (∀ (d : Nat) (a : Int32) (b : Int32) (c : Nat) (d2 : Nat) (L : List Value) (M : Mem) (Q : Option Value → Mem → Prop), Wp d 69 102 L [.int a, .int b, .ref c, .ref d2] M Q ↔ Wp d 69 103 L [.int 1, .int a, .int b, .ref c, .ref d2] M Q) ∧
    (∀ (d : Nat) (a : Int32) (b : Int32) (c : Int32) (d2 : Nat) (e : Nat) (v0 : Value) (v1 : Value) (v2 : Value) (v3 : Value) (v4 : Value) (v5 : Value) (v6 : Value) (v7 : Value) (v8 : Value) (x : Int32) (L : List Value) (M : Mem) (Q : Option Value → Mem → Prop), Wp d 69 103 (v0 :: v1 :: v2 :: v3 :: v4 :: v5 :: v6 :: v7 :: v8 :: .int x :: L) [.int a, .int b, .int c, .ref d2, .ref e] M Q ↔ Wp d 69 105 (v0 :: v1 :: v2 :: v3 :: v4 :: v5 :: v6 :: v7 :: v8 :: .int x :: L) [.int x, .int a, .int b, .int c, .ref d2, .ref e] M Q) ∧
    (∀ (d : Nat) (a : Int32) (b : Int32) (c : Int32) (d2 : Int32) (e : Nat) (f : Nat) (L : List Value) (M : Mem) (Q : Option Value → Mem → Prop), Wp d 69 105 L [.int a, .int b, .int c, .int d2, .ref e, .ref f] M Q ↔ Wp d 69 106 L [.int (b <<< (a &&& 31)), .int c, .int d2, .ref e, .ref f] M Q) ∧
    (∀ (d : Nat) (a : Int32) (b : Int32) (c : Int32) (d2 : Nat) (e : Nat) (L : List Value) (M : Mem) (Q : Option Value → Mem → Prop), Wp d 69 106 L [.int a, .int b, .int c, .ref d2, .ref e] M Q ↔ Wp d 69 107 L [.int (b ||| a), .int c, .ref d2, .ref e] M Q) ∧
    (∀ (d : Nat) (a : Int32) (b : Int32) (c : Nat) (d2 : Nat) (v0 : Value) (v1 : Value) (v2 : Value) (v3 : Value) (v4 : Value) (v5 : Value) (v6 : Value) (v7 : Value) (v8 : Value) (x : Int32) (L : List Value) (M : Mem) (Q : Option Value → Mem → Prop), Wp d 69 107 (v0 :: v1 :: v2 :: v3 :: v4 :: v5 :: v6 :: v7 :: v8 :: .int x :: L) [.int a, .int b, .ref c, .ref d2] M Q ↔ Wp d 69 109 (v0 :: v1 :: v2 :: v3 :: v4 :: v5 :: v6 :: v7 :: v8 :: .int x :: L) [.int x, .int a, .int b, .ref c, .ref d2] M Q) := by
  refine ⟨?_, ?_, ?_, ?_, ?_, ?_, ?_, ?_, ?_, ?_, ?_, ?_, ?_, ?_, ?_, ?_, ?_, ?_, ?_, ?_, ?_, ?_, ?_, ?_, ?_, ?_, ?_, ?_, ?_, ?_, ?_, ?_, ?_, ?_, ?_, ?_, ?_, ?_, ?_, ?_, ?_, ?_, ?_, ?_, ?_, ?_, ?_, ?_, ?_, ?_, ?_, ?_, ?_, ?_, ?_, ?_, ?_, ?_, ?_, ?_⟩
  · intro d v0 v1 v2 v3 v4 v5 x L M Q; exact Wp_sim (by decide +kernel : decode (cd 69) 0 = .ok (.iload 6, 2)) rfl rfl
  · intro d a v0 x L M Q; exact Wp_sim (by decide +kernel : decode (cd 69) 2 = .ok (.aload_n 1, 1)) rfl rfl
  · intro d a b v0 v1 v2 v3 x L M Q; exact Wp_sim (by decide +kernel : decode (cd 69) 3 = .ok (.iload 4, 2)) rfl rfl
  · intro d a b c L M Q; exact Wp_sim (by decide +kernel : decode (cd 69) 5 = .ok (.iconst (-1), 1)) rfl rfl
  · intro d a b c d2 L M Q; exact q_invV (pz := 717) (n := 2) (c := 1) (m := 7) (k := c) (As := [.int b, .int a]) (rest := [.int d2]) (by decide +kernel : decode (cd 69) 6 = .ok (.invokevirtual 28, 3)) (by decide +kernel) (by decide +kernel) rfl rfl (Nat.le_of_ble_eq_true rfl) (Nat.le_of_ble_eq_true rfl) rfl
  · intro d a b L M Q; exact Wp_sim (by decide +kernel : decode (cd 69) 9 = .ok (.iadd , 1)) rfl rfl
  · intro d a v0 v1 v2 v3 v4 v5 v6 v7 x L M Q; exact Wp_sim (by decide +kernel : decode (cd 69) 10 = .ok (.istore 8, 2)) rfl rfl
  · intro d v0 v1 x L M Q; exact Wp_sim (by decide +kernel : decode (cd 69) 12 = .ok (.iload_n 2, 1)) rfl rfl
  · intro d a L M Q; exact Wp_sim (by decide +kernel : decode (cd 69) 13 = .ok (.bipush 6, 2)) rfl rfl
  · intro d a b L M Q; exact q_igt (by decide +kernel : decode (cd 69) 15 = .ok (.if_icmp .gt 12, 3)) (by decide)
  · intro d v0 v1 v2 v3 v4 v5 v6 v7 x L M Q; exact Wp_sim (by decide +kernel : decode (cd 69) 18 = .ok (.iload 8, 2)) rfl rfl
  · intro d a x L M Q; exact Wp_sim (by decide +kernel : decode (cd 69) 20 = .ok (.aload_n 0, 1)) rfl rfl
  · intro d a b L M Q; exact q_getI (p := 211) (by decide +kernel : decode (cd 69) 21 = .ok (.getfield 9, 3)) (by decide +kernel) (by decide +kernel)
  · intro d a b L M Q; exact q_ile (by decide +kernel : decode (cd 69) 24 = .ok (.if_icmp .le 4, 3)) (by decide)
  · intro d L M Q; exact q_vret (by decide +kernel : decode (cd 69) 27 = .ok (.return_ , 1)) (by decide +kernel)
  · intro d x L M Q; exact Wp_sim (by decide +kernel : decode (cd 69) 28 = .ok (.aload_n 0, 1)) rfl rfl
  · intro d a v0 v1 v2 v3 v4 x L M Q; exact Wp_sim (by decide +kernel : decode (cd 69) 29 = .ok (.iload 5, 2)) rfl rfl
  · intro d a b v0 v1 v2 v3 v4 v5 v6 v7 x L M Q; exact Wp_sim (by decide +kernel : decode (cd 69) 31 = .ok (.iload 8, 2)) rfl rfl
  · intro d a b c v0 v1 v2 v3 v4 v5 v6 x L M Q; exact Wp_sim (by decide +kernel : decode (cd 69) 33 = .ok (.iload 7, 2)) rfl rfl
  · intro d a b c d2 L M Q; exact q_invV (pz := 724) (n := 3) (c := 10) (m := 4) (k := d2) (As := [.int c, .int b, .int a]) (rest := []) (by decide +kernel : decode (cd 69) 35 = .ok (.invokevirtual 34, 3)) (by decide +kernel) (by decide +kernel) rfl rfl (Nat.le_of_ble_eq_true rfl) (Nat.le_of_ble_eq_true rfl) rfl
  · intro d a L M Q; exact q_zeq (by decide +kernel : decode (cd 69) 38 = .ok (.ifCond .eq 21, 3)) (by decide)
  · intro d x L M Q; exact Wp_sim (by decide +kernel : decode (cd 69) 41 = .ok (.aload_n 0, 1)) rfl rfl
  · intro d a v0 v1 v2 v3 v4 x L M Q; exact Wp_sim (by decide +kernel : decode (cd 69) 42 = .ok (.iload 5, 2)) rfl rfl
  · intro d a b L M Q; exact q_putI (p := 212) (by decide +kernel : decode (cd 69) 44 = .ok (.putfield 15, 3)) (by decide +kernel) (by decide +kernel)
  · intro d x L M Q; exact Wp_sim (by decide +kernel : decode (cd 69) 47 = .ok (.aload_n 0, 1)) rfl rfl
  · intro d a v0 v1 v2 v3 v4 v5 v6 v7 x L M Q; exact Wp_sim (by decide +kernel : decode (cd 69) 48 = .ok (.iload 8, 2)) rfl rfl
  · intro d a b L M Q; exact q_putI (p := 214) (by decide +kernel : decode (cd 69) 50 = .ok (.putfield 18, 3)) (by decide +kernel) (by decide +kernel)
  · intro d x L M Q; exact Wp_sim (by decide +kernel : decode (cd 69) 53 = .ok (.aload_n 0, 1)) rfl rfl
  · intro d a v0 v1 v2 v3 v4 v5 v6 x L M Q; exact Wp_sim (by decide +kernel : decode (cd 69) 54 = .ok (.iload 7, 2)) rfl rfl
  · intro d a b L M Q; exact q_putI (p := 216) (by decide +kernel : decode (cd 69) 56 = .ok (.putfield 21, 3)) (by decide +kernel) (by decide +kernel)
  · intro d L M Q; exact Wp_sim (by decide +kernel : decode (cd 69) 59 = .ok (.iconst 0, 1)) rfl rfl
  · intro d a v0 v1 v2 v3 v4 v5 v6 v7 v8 x L M Q; exact Wp_sim (by decide +kernel : decode (cd 69) 60 = .ok (.istore 9, 2)) rfl rfl
  · intro d a v0 x L M Q; exact Wp_sim (by decide +kernel : decode (cd 69) 64 = .ok (.aload_n 1, 1)) rfl rfl
  · intro d a b L M Q; exact q_getI (p := 106) (by decide +kernel : decode (cd 69) 65 = .ok (.getfield 38, 3)) (by decide +kernel) (by decide +kernel)
  · intro d a b L M Q; exact q_ige (by decide +kernel : decode (cd 69) 68 = .ok (.if_icmp .ge 72, 3)) (by decide)
  · intro d v0 v1 v2 x L M Q; exact Wp_sim (by decide +kernel : decode (cd 69) 71 = .ok (.iload_n 3, 1)) rfl rfl
  · intro d a v0 v1 v2 v3 v4 v5 v6 v7 v8 x L M Q; exact Wp_sim (by decide +kernel : decode (cd 69) 72 = .ok (.iload 9, 2)) rfl rfl
  · intro d a b L M Q; exact Wp_sim (by decide +kernel : decode (cd 69) 74 = .ok (.ishr , 1)) rfl rfl
  · intro d a L M Q; exact Wp_sim (by decide +kernel : decode (cd 69) 75 = .ok (.iconst 1, 1)) rfl rfl
  · intro d a b L M Q; exact Wp_sim (by decide +kernel : decode (cd 69) 76 = .ok (.iand , 1)) rfl rfl
  · intro d a L M Q; exact q_zeq (by decide +kernel : decode (cd 69) 77 = .ok (.ifCond .eq 6, 3)) (by decide)
  · intro d L M Q; exact q_goto (by decide +kernel : decode (cd 69) 80 = .ok (.goto 54, 3)) (by decide)
  · intro d v0 v1 v2 v3 v4 v5 x L M Q; exact Wp_sim (by decide +kernel : decode (cd 69) 83 = .ok (.iload 6, 2)) rfl rfl
  · intro d a v0 x L M Q; exact Wp_sim (by decide +kernel : decode (cd 69) 85 = .ok (.aload_n 1, 1)) rfl rfl
  · intro d a b v0 v1 v2 v3 x L M Q; exact Wp_sim (by decide +kernel : decode (cd 69) 86 = .ok (.iload 4, 2)) rfl rfl
  · intro d a b c v0 v1 v2 v3 v4 v5 v6 v7 v8 x L M Q; exact Wp_sim (by decide +kernel : decode (cd 69) 88 = .ok (.iload 9, 2)) rfl rfl
  · intro d a b c d2 L M Q; exact q_invV (pz := 717) (n := 2) (c := 1) (m := 7) (k := c) (As := [.int b, .int a]) (rest := [.int d2]) (by decide +kernel : decode (cd 69) 90 = .ok (.invokevirtual 28, 3)) (by decide +kernel) (by decide +kernel) rfl rfl (Nat.le_of_ble_eq_true rfl) (Nat.le_of_ble_eq_true rfl) rfl
  · intro d a b L M Q; exact Wp_sim (by decide +kernel : decode (cd 69) 93 = .ok (.iadd , 1)) rfl rfl
  · intro d a v0 v1 v2 v3 v4 v5 v6 v7 v8 v9 x L M Q; exact Wp_sim (by decide +kernel : decode (cd 69) 94 = .ok (.istore 10, 2)) rfl rfl
  · intro d x L M Q; exact Wp_sim (by decide +kernel : decode (cd 69) 96 = .ok (.aload_n 0, 1)) rfl rfl
  · intro d a v0 x L M Q; exact Wp_sim (by decide +kernel : decode (cd 69) 97 = .ok (.aload_n 1, 1)) rfl rfl
  · intro d a b v0 v1 x L M Q; exact Wp_sim (by decide +kernel : decode (cd 69) 98 = .ok (.iload_n 2, 1)) rfl rfl
  · intro d a b c L M Q; exact Wp_sim (by decide +kernel : decode (cd 69) 99 = .ok (.iconst 1, 1)) rfl rfl
  · intro d a b c d2 L M Q; exact Wp_sim (by decide +kernel : decode (cd 69) 100 = .ok (.iadd , 1)) rfl rfl
  · intro d a b c v0 v1 v2 x L M Q; exact Wp_sim (by decide +kernel : decode (cd 69) 101 = .ok (.iload_n 3, 1)) rfl rfl
  · intro d a b c d2 L M Q; exact Wp_sim (by decide +kernel : decode (cd 69) 102 = .ok (.iconst 1, 1)) rfl rfl
  · intro d a b c d2 e v0 v1 v2 v3 v4 v5 v6 v7 v8 x L M Q; exact Wp_sim (by decide +kernel : decode (cd 69) 103 = .ok (.iload 9, 2)) rfl rfl
  · intro d a b c d2 e f L M Q; exact Wp_sim (by decide +kernel : decode (cd 69) 105 = .ok (.ishl , 1)) rfl rfl
  · intro d a b c d2 e L M Q; exact Wp_sim (by decide +kernel : decode (cd 69) 106 = .ok (.ior , 1)) rfl rfl
  · intro d a b c d2 v0 v1 v2 v3 v4 v5 v6 v7 v8 x L M Q; exact Wp_sim (by decide +kernel : decode (cd 69) 107 = .ok (.iload 9, 2)) rfl rfl
set_option maxRecDepth 10000 in
theorem e69_1 : (∀ (d : Nat) (a : Int32) (b : Int32) (c : Int32) (d2 : Nat) (e : Nat) (v0 : Value) (v1 : Value) (v2 : Value) (v3 : Value) (v4 : Value) (x : Int32) (L : List Value) (M : Mem) (Q : Option Value → Mem → Prop), Wp d 69 109 (v0 :: v1 :: v2 :: v3 :: v4 :: .int x :: L) [.int a, .int b, .int c, .ref d2, .ref e] M Q ↔ Wp d 69 111 (v0 :: v1 :: v2 :: v3 :: v4 :: .int x :: L) [.int x, .int a, .int b, .int c, .ref d2, .ref e] M Q) ∧
    (∀ (d : Nat) (a : Int32) (b : Int32) (c : Int32) (d2 : Int32) (e : Nat) (f : Nat) (v0 : Value) (x : Nat) (L : List Value) (M : Mem) (Q : Option Value → Mem → Prop), Wp d 69 111 (v0 :: .ref x :: L) [.int a, .int b, .int c, .int d2, .ref e, .ref f] M Q ↔ Wp d 69 112 (v0 :: .ref x :: L) [.ref x, .int a, .int b, .int c, .int d2, .ref e, .ref f] M Q) ∧
    (∀ (d : Nat) (a : Nat) (b : Int32) (c : Int32) (d2 : Int32) (e : Int32) (f : Nat) (g : Nat) (L : List Value) (M : Mem) (Q : Option Value → Mem → Prop), Wp d 69 112 L [.ref a, .int b, .int c, .int d2, .int e, .ref f, .ref g] M Q ↔ (isK a 1 = true ∧ Wp d 69 115 L [.ref (rt a 7), .int b, .int c, .int d2, .int e, .ref f, .ref g] M Q)) ∧
    (∀ (d : Nat) (a : Nat) (b : Int32) (c : Int32) (d2 : Int32) (e : Int32) (f : Nat) (g : Nat) (v0 : Value) (v1 : Value) (v2 : Value) (v3 : Value) (v4 : Value) (v5 : Value) (v6 : Value) (v7 : Value) (v8 : Value) (x : Int32) (L : List Value) (M : Mem) (Q : Option Value → Mem → Prop), Wp d 69 115 (v0 :: v1 :: v2 :: v3 :: v4 :: v5 :: v6 :: v7 :: v8 :: .int x :: L) [.ref a, .int b, .int c, .int d2, .int e, .ref f, .ref g] M Q ↔ Wp d 69 117 (v0 :: v1 :: v2 :: v3 :: v4 :: v5 :: v6 :: v7 :: v8 :: .int x :: L) [.int x, .ref a, .int b, .int c, .int d2, .int e, .ref f, .ref g] M Q) ∧
    (∀ (d : Nat) (a : Int32) (b : Nat) (c : Int32) (d2 : Int32) (e : Int32) (f : Int32) (g : Nat) (h : Nat) (L : List Value) (M : Mem) (Q : Option Value → Mem → Prop), Wp d 69 117 L [.int a, .ref b, .int c, .int d2, .int e, .int f, .ref g, .ref h] M Q ↔ ((isR b = true ∧ inr a (lnm M b)) ∧ Wp d 69 118 L [.int (M b a.toNatClampNeg), .int c, .int d2, .int e, .int f, .ref g, .ref h] M Q)) ∧
    (∀ (d : Nat) (a : Int32) (b : Int32) (c : Int32) (d2 : Int32) (e : Int32) (f : Nat) (g : Nat) (L : List Value) (M : Mem) (Q : Option Value → Mem → Prop), Wp d 69 118 L [.int a, .int b, .int c, .int d2, .int e, .ref f, .ref g] M Q ↔ Wp d 69 119 L [.int (b + a), .int c, .int d2, .int e, .ref f, .ref g] M Q) ∧
    (∀ (d : Nat) (a : Int32) (b : Int32) (c : Int32) (d2 : Int32) (e : Nat) (f : Nat) (v0 : Value) (v1 : Value) (v2 : Value) (v3 : Value) (v4 : Value) (v5 : Value) (v6 : Value) (v7 : Value) (v8 : Value) (v9 : Value) (x : Int32) (L : List Value) (M : Mem) (Q : Option Value → Mem → Prop), Wp d 69 119 (v0 :: v1 :: v2 :: v3 :: v4 :: v5 :: v6 :: v7 :: v8 :: v9 :: .int x :: L) [.int a, .int b, .int c, .int d2, .ref e, .ref f] M Q ↔ Wp d 69 121 (v0 :: v1 :: v2 :: v3 :: v4 :: v5 :: v6 :: v7 :: v8 :: v9 :: .int x :: L) [.int x, .int a, .int b, .int c, .int d2, .ref e, .ref f] M Q) ∧
    (∀ (d : Nat) (a : Int32) (b : Int32) (c : Int32) (d2 : Int32) (e : Int32) (f : Nat) (g : Nat) (v0 : Value) (v1 : Value) (v2 : Value) (v3 : Value) (v4 : Value) (v5 : Value) (v6 : Value) (x : Int32) (L : List Value) (M : Mem) (Q : Option Value → Mem → Prop), Wp d 69 121 (v0 :: v1 :: v2 :: v3 :: v4 :: v5 :: v6 :: .int x :: L) [.int a, .int b, .int c, .int d2, .int e, .ref f, .ref g] M Q ↔ Wp d 69 123 (v0 :: v1 :: v2 :: v3 :: v4 :: v5 :: v6 :: .int x :: L) [.int x, .int a, .int b, .int c, .int d2, .int e, .ref f, .ref g] M Q) ∧
    (∀ (d : Nat) (a : Int32) (b : Int32) (c : Int32) (d2 : Int32) (e : Int32) (f : Int32) (g : Nat) (h : Nat) (L : List Value) (M : Mem) (Q : Option Value → Mem → Prop), Wp d 69 123 L [.int a, .int b, .int c, .int d2, .int e, .int f, .ref g, .ref h] M Q ↔ Wp d 69 125 L [.int 10, .int a, .int b, .int c, .int d2, .int e, .int f, .ref g, .ref h] M Q) ∧
    (∀ (d : Nat) (a : Int32) (b : Int32) (c : Int32) (d2 : Int32) (e : Int32) (f : Int32) (g : Int32) (h : Nat) (i : Nat) (L : List Value) (M : Mem) (Q : Option Value → Mem → Prop), Wp d 69 125 L [.int a, .int b, .int c, .int d2, .int e, .int f, .int g, .ref h, .ref i] M Q ↔ Wp d 69 126 L [.int (b * a), .int c, .int d2, .int e, .int f, .int g, .ref h, .ref i] M Q) ∧
    (∀ (d : Nat) (a : Int32) (b : Int32) (c : Int32) (d2 : Int32) (e : Int32) (f : Int32) (g : Nat) (h : Nat) (v0 : Value) (v1 : Value) (v2 : Value) (v3 : Value) (v4 : Value) (v5 : Value) (v6 : Value) (v7 : Value) (v8 : Value) (x : Int32) (L : List Value) (M : Mem) (Q : Option Value → Mem → Prop), Wp d 69 126 (v0 :: v1 :: v2 :: v3 :: v4 :: v5 :: v6 :: v7 :: v8 :: .int x :: L) [.int a, .int b, .int c, .int d2, .int e, .int f, .ref g, .ref h] M Q ↔ Wp d 69 128 (v0 :: v1 :: v2 :: v3 :: v4 :: v5 :: v6 :: v7 :: v8 :: .int x :: L) [.int x, .int a, .int b, .int c, .int d2, .int e, .int f, .ref g, .ref h] M Q) ∧
    (∀ (d : Nat) (a : Int32) (b : Int32) (c : Int32) (d2 : Int32) (e : Int32) (f : Int32) (g : Int32) (h : Nat) (i : Nat) (L : List Value) (M : Mem) (Q : Option Value → Mem → Prop), Wp d 69 128 L [.int a, .int b, .int c, .int d2, .int e, .int f, .int g, .ref h, .ref i] M Q ↔ Wp d 69 129 L [.int (b + a), .int c, .int d2, .int e, .int f, .int g, .ref h, .ref i] M Q) ∧
    (∀ (d : Nat) (a : Int32) (b : Int32) (c : Int32) (d2 : Int32) (e : Int32) (f : Int32) (g : Nat) (h : Nat) (L : List Value) (M : Mem) (Q : Option Value → Mem → Prop), Wp d 69 129 L [.int a, .int b, .int c, .int d2, .int e, .int f, .ref g, .ref h] M Q ↔ Wp d 69 130 L [.int 1, .int a, .int b, .int c, .int d2, .int e, .int f, .ref g, .ref h] M Q) ∧
    (∀ (d : Nat) (a : Int32) (b : Int32) (c : Int32) (d2 : Int32) (e : Int32) (f : Int32) (g : Int32) (h : Nat) (i : Nat) (L : List Value) (M : Mem) (Q : Option Value → Mem → Prop), Wp d 69 130 L [.int a, .int b, .int c, .int d2, .int e, .int f, .int g, .ref h, .ref i] M Q ↔ Wp d 69 131 L [.int (b + a), .int c, .int d2, .int e, .int f, .int g, .ref h, .ref i] M Q) ∧
    (∀ (d : Nat) (a : Int32) (b : Int32) (c : Int32) (d2 : Int32) (e : Int32) (f : Int32) (g : Nat) (h : Nat) (L : List Value) (M : Mem) (Q : Option Value → Mem → Prop), Wp (d + 1) 69 131 L [.int a, .int b, .int c, .int d2, .int e, .int f, .ref g, .ref h] M Q ↔ (isK h 10 = true ∧ Wp d 69 0 [.ref h, .ref g, .int f, .int e, .int d2, .int c, .int b, .int a, .null, .null, .null] [] M (fun r M2 => Wp (d + 1) 69 134 L (r.toList ++ []) M2 Q))) ∧
    (∀ (d : Nat) (v0 : Value) (v1 : Value) (v2 : Value) (v3 : Value) (v4 : Value) (v5 : Value) (v6 : Value) (v7 : Value) (v8 : Value) (x : Int32) (L : List Value) (M : Mem) (Q : Option Value → Mem → Prop), Wp d 69 134 (v0 :: v1 :: v2 :: v3 :: v4 :: v5 :: v6 :: v7 :: v8 :: .int x :: L) [] M Q ↔ Wp d 69 137 (v0 :: v1 :: v2 :: v3 :: v4 :: v5 :: v6 :: v7 :: clr v8 :: .int (x + 1) :: L) [] M Q) ∧
    (∀ (d : Nat) (L : List Value) (M : Mem) (Q : Option Value → Mem → Prop), Wp d 69 137 L [] M Q ↔ Wp d 69 62 L [] M Q) ∧
    (∀ (d : Nat) (L : List Value) (M : Mem) (Q : Option Value → Mem → Prop), Wp d 69 140 L [] M Q ↔ Q none M) := by
  refine ⟨?_, ?_, ?_, ?_, ?_, ?_, ?_, ?_, ?_, ?_, ?_, ?_, ?_, ?_, ?_, ?_, ?_, ?_⟩
  · intro d a b c d2 e v0 v1 v2 v3 v4 x L M Q; exact Wp_sim (by decide +kernel : decode (cd 69) 109 = .ok (.iload 5, 2)) rfl rfl
  · intro d a b c d2 e f v0 x L M Q; exact Wp_sim (by decide +kernel : decode (cd 69) 111 = .ok (.aload_n 1, 1)) rfl rfl
  · intro d a b c d2 e f g L M Q; exact q_getR (p := 84) (by decide +kernel : decode (cd 69) 112 = .ok (.getfield 41, 3)) (by decide +kernel) (by decide +kernel)
  · intro d a b c d2 e f g v0 v1 v2 v3 v4 v5 v6 v7 v8 x L M Q; exact Wp_sim (by decide +kernel : decode (cd 69) 115 = .ok (.iload 9, 2)) rfl rfl
  · intro d a b c d2 e f g h L M Q; exact q_ald (by decide +kernel : decode (cd 69) 117 = .ok (.iaload , 1))
  · intro d a b c d2 e f g L M Q; exact Wp_sim (by decide +kernel : decode (cd 69) 118 = .ok (.iadd , 1)) rfl rfl
  · intro d a b c d2 e f v0 v1 v2 v3 v4 v5 v6 v7 v8 v9 x L M Q; exact Wp_sim (by decide +kernel : decode (cd 69) 119 = .ok (.iload 10, 2)) rfl rfl
  · intro d a b c d2 e f g v0 v1 v2 v3 v4 v5 v6 x L M Q; exact Wp_sim (by decide +kernel : decode (cd 69) 121 = .ok (.iload 7, 2)) rfl rfl
  · intro d a b c d2 e f g h L M Q; exact Wp_sim (by decide +kernel : decode (cd 69) 123 = .ok (.bipush 10, 2)) rfl rfl
  · intro d a b c d2 e f g h i L M Q; exact Wp_sim (by decide +kernel : decode (cd 69) 125 = .ok (.imul , 1)) rfl rfl
  · intro d a b c d2 e f g h v0 v1 v2 v3 v4 v5 v6 v7 v8 x L M Q; exact Wp_sim (by decide +kernel : decode (cd 69) 126 = .ok (.iload 9, 2)) rfl rfl
  · intro d a b c d2 e f g h i L M Q; exact Wp_sim (by decide +kernel : decode (cd 69) 128 = .ok (.iadd , 1)) rfl rfl
  · intro d a b c d2 e f g h L M Q; exact Wp_sim (by decide +kernel : decode (cd 69) 129 = .ok (.iconst 1, 1)) rfl rfl
  · intro d a b c d2 e f g h i L M Q; exact Wp_sim (by decide +kernel : decode (cd 69) 130 = .ok (.iadd , 1)) rfl rfl
  · intro d a b c d2 e f g h L M Q; exact q_invV (pz := 713) (n := 7) (c := 10) (m := 11) (k := h) (As := [.ref g, .int f, .int e, .int d2, .int c, .int b, .int a]) (rest := []) (by decide +kernel : decode (cd 69) 131 = .ok (.invokevirtual 24, 3)) (by decide +kernel) (by decide +kernel) rfl rfl (Nat.le_of_ble_eq_true rfl) (Nat.le_of_ble_eq_true rfl) rfl
  · intro d v0 v1 v2 v3 v4 v5 v6 v7 v8 x L M Q; exact Wp_sim (by decide +kernel : decode (cd 69) 134 = .ok (.iinc 9 1, 3)) rfl rfl
  · intro d L M Q; exact q_goto (by decide +kernel : decode (cd 69) 137 = .ok (.goto (-75), 3)) (by decide)
  · intro d L M Q; exact q_vret (by decide +kernel : decode (cd 69) 140 = .ok (.return_ , 1)) (by decide +kernel)
theorem h69_62 : (∀ (d : Nat) (v0 : Value) (v1 : Value) (v2 : Value) (v3 : Value) (v4 : Value) (v5 : Value) (v6 : Value) (v7 : Value) (v8 : Value) (x : Int32) (L : List Value) (M : Mem) (Q : Option Value → Mem → Prop), Wp d 69 62 (v0 :: v1 :: v2 :: v3 :: v4 :: v5 :: v6 :: v7 :: v8 :: .int x :: L) [] M Q ↔ Wp d 69 64 (v0 :: v1 :: v2 :: v3 :: v4 :: v5 :: v6 :: v7 :: v8 :: .int x :: L) [.int x] M Q) := by
  intro d v0 v1 v2 v3 v4 v5 v6 v7 v8 x L M Q; exact Wp_sim (by decide +kernel : decode (cd 69) 62 = .ok (.iload 9, 2)) rfl rfl

/- 70: Walk.isBetter -/
set_option maxRecDepth 10000 in
theorem e70 : (∀ (d : Nat) (v0 : Value) (x : Int32) (L : List Value) (M : Mem) (Q : Option Value → Mem → Prop), Wp d 70 0 (v0 :: .int x :: L) [] M Q ↔ Wp d 70 1 (v0 :: .int x :: L) [.int x] M Q) ∧
    (∀ (d : Nat) (a : Int32) (x : Nat) (L : List Value) (M : Mem) (Q : Option Value → Mem → Prop), Wp d 70 1 (.ref x :: L) [.int a] M Q ↔ Wp d 70 2 (.ref x :: L) [.ref x, .int a] M Q) ∧
    (∀ (d : Nat) (a : Nat) (b : Int32) (L : List Value) (M : Mem) (Q : Option Value → Mem → Prop), Wp d 70 2 L [.ref a, .int b] M Q ↔ (isK a 10 = true ∧ Wp d 70 5 L [.int (M a 1), .int b] M Q)) ∧
    (∀ (d : Nat) (a : Int32) (b : Int32) (L : List Value) (M : Mem) (Q : Option Value → Mem → Prop), Wp d 70 5 L [.int a, .int b] M Q ↔ (if b = a then Wp d 70 22 L [] M Q else Wp d 70 8 L [] M Q)) ∧
    (∀ (d : Nat) (v0 : Value) (x : Int32) (L : List Value) (M : Mem) (Q : Option Value → Mem → Prop), Wp d 70 8 (v0 :: .int x :: L) [] M Q ↔ Wp d 70 9 (v0 :: .int x :: L) [.int x] M Q) ∧
    (∀ (d : Nat) (a : Int32) (x : Nat) (L : List Value) (M : Mem) (Q : Option Value → Mem → Prop), Wp d 70 9 (.ref x :: L) [.int a] M Q ↔ Wp d 70 10 (.ref x :: L) [.ref x, .int a] M Q) ∧
    (∀ (d : Nat) (a : Nat) (b : Int32) (L : List Value) (M : Mem) (Q : Option Value → Mem → Prop), Wp d 70 10 L [.ref a, .int b] M Q ↔ (isK a 10 = true ∧ Wp d 70 13 L [.int (M a 1), .int b] M Q)) ∧
    (∀ (d : Nat) (a : Int32) (b : Int32) (L : List Value) (M : Mem) (Q : Option Value → Mem → Prop), Wp d 70 13 L [.int a, .int b] M Q ↔ (if a < b then Wp d 70 16 L [] M Q else Wp d 70 20 L [] M Q)) ∧
    (∀ (d : Nat) (L : List Value) (M : Mem) (Q : Option Value → Mem → Prop), Wp d 70 16 L [] M Q ↔ Wp d 70 17 L [.int 1] M Q) ∧
    (∀ (d : Nat) (a : Int32) (L : List Value) (M : Mem) (Q : Option Value → Mem → Prop), Wp d 70 17 L [.int a] M Q ↔ Wp d 70 21 L [.int a] M Q) ∧
    (∀ (d : Nat) (L : List Value) (M : Mem) (Q : Option Value → Mem → Prop), Wp d 70 20 L [] M Q ↔ Wp d 70 21 L [.int 0] M Q) ∧
    (∀ (d : Nat) (a : Int32) (L : List Value) (M : Mem) (Q : Option Value → Mem → Prop), Wp d 70 21 L [.int a] M Q ↔ ((a = 0 ∨ a = 1) ∧ Q (some (.int a)) M)) ∧
    (∀ (d : Nat) (v0 : Value) (v1 : Value) (x : Int32) (L : List Value) (M : Mem) (Q : Option Value → Mem → Prop), Wp d 70 22 (v0 :: v1 :: .int x :: L) [] M Q ↔ Wp d 70 23 (v0 :: v1 :: .int x :: L) [.int x] M Q) ∧
    (∀ (d : Nat) (a : Int32) (x : Nat) (L : List Value) (M : Mem) (Q : Option Value → Mem → Prop), Wp d 70 23 (.ref x :: L) [.int a] M Q ↔ Wp d 70 24 (.ref x :: L) [.ref x, .int a] M Q) ∧
    (∀ (d : Nat) (a : Nat) (b : Int32) (L : List Value) (M : Mem) (Q : Option Value → Mem → Prop), Wp d 70 24 L [.ref a, .int b] M Q ↔ (isK a 10 = true ∧ Wp d 70 27 L [.int (M a 2), .int b] M Q)) ∧
    (∀ (d : Nat) (a : Int32) (b : Int32) (L : List Value) (M : Mem) (Q : Option Value → Mem → Prop), Wp d 70 27 L [.int a, .int b] M Q ↔ (if b = a then Wp d 70 44 L [] M Q else Wp d 70 30 L [] M Q)) ∧
    (∀ (d : Nat) (v0 : Value) (v1 : Value) (x : Int32) (L : List Value) (M : Mem) (Q : Option Value → Mem → Prop), Wp d 70 30 (v0 :: v1 :: .int x :: L) [] M Q ↔ Wp d 70 31 (v0 :: v1 :: .int x :: L) [.int x] M Q) ∧
    (∀ (d : Nat) (a : Int32) (x : Nat) (L : List Value) (M : Mem) (Q : Option Value → Mem → Prop), Wp d 70 31 (.ref x :: L) [.int a] M Q ↔ Wp d 70 32 (.ref x :: L) [.ref x, .int a] M Q) ∧
    (∀ (d : Nat) (a : Nat) (b : Int32) (L : List Value) (M : Mem) (Q : Option Value → Mem → Prop), Wp d 70 32 L [.ref a, .int b] M Q ↔ (isK a 10 = true ∧ Wp d 70 35 L [.int (M a 2), .int b] M Q)) ∧
    (∀ (d : Nat) (a : Int32) (b : Int32) (L : List Value) (M : Mem) (Q : Option Value → Mem → Prop), Wp d 70 35 L [.int a, .int b] M Q ↔ (if b < a then Wp d 70 38 L [] M Q else Wp d 70 42 L [] M Q)) ∧
    (∀ (d : Nat) (L : List Value) (M : Mem) (Q : Option Value → Mem → Prop), Wp d 70 38 L [] M Q ↔ Wp d 70 39 L [.int 1] M Q) ∧
    (∀ (d : Nat) (a : Int32) (L : List Value) (M : Mem) (Q : Option Value → Mem → Prop), Wp d 70 39 L [.int a] M Q ↔ Wp d 70 43 L [.int a] M Q) ∧
    (∀ (d : Nat) (L : List Value) (M : Mem) (Q : Option Value → Mem → Prop), Wp d 70 42 L [] M Q ↔ Wp d 70 43 L [.int 0] M Q) ∧
    (∀ (d : Nat) (a : Int32) (L : List Value) (M : Mem) (Q : Option Value → Mem → Prop), Wp d 70 43 L [.int a] M Q ↔ ((a = 0 ∨ a = 1) ∧ Q (some (.int a)) M)) ∧
    (∀ (d : Nat) (v0 : Value) (v1 : Value) (v2 : Value) (x : Int32) (L : List Value) (M : Mem) (Q : Option Value → Mem → Prop), Wp d 70 44 (v0 :: v1 :: v2 :: .int x :: L) [] M Q ↔ Wp d 70 45 (v0 :: v1 :: v2 :: .int x :: L) [.int x] M Q) ∧
    (∀ (d : Nat) (a : Int32) (x : Nat) (L : List Value) (M : Mem) (Q : Option Value → Mem → Prop), Wp d 70 45 (.ref x :: L) [.int a] M Q ↔ Wp d 70 46 (.ref x :: L) [.ref x, .int a] M Q) ∧
    (∀ (d : Nat) (a : Nat) (b : Int32) (L : List Value) (M : Mem) (Q : Option Value → Mem → Prop), Wp d 70 46 L [.ref a, .int b] M Q ↔ (isK a 10 = true ∧ Wp d 70 49 L [.int (M a 3), .int b] M Q)) ∧
    (∀ (d : Nat) (a : Int32) (b : Int32) (L : List Value) (M : Mem) (Q : Option Value → Mem → Prop), Wp d 70 49 L [.int a, .int b] M Q ↔ (if b < a then Wp d 70 52 L [] M Q else Wp d 70 56 L [] M Q)) ∧
    (∀ (d : Nat) (L : List Value) (M : Mem) (Q : Option Value → Mem → Prop), Wp d 70 52 L [] M Q ↔ Wp d 70 53 L [.int 1] M Q) ∧
    (∀ (d : Nat) (a : Int32) (L : List Value) (M : Mem) (Q : Option Value → Mem → Prop), Wp d 70 53 L [.int a] M Q ↔ Wp d 70 57 L [.int a] M Q) ∧
    (∀ (d : Nat) (L : List Value) (M : Mem) (Q : Option Value → Mem → Prop), Wp d 70 56 L [] M Q ↔ Wp d 70 57 L [.int 0] M Q) ∧
    (∀ (d : Nat) (a : Int32) (L : List Value) (M : Mem) (Q : Option Value → Mem → Prop), Wp d 70 57 L [.int a] M Q ↔ ((a = 0 ∨ a = 1) ∧ Q (some (.int a)) M)) := by
  refine ⟨?_, ?_, ?_, ?_, ?_, ?_, ?_, ?_, ?_, ?_, ?_, ?_, ?_, ?_, ?_, ?_, ?_, ?_, ?_, ?_, ?_, ?_, ?_, ?_, ?_, ?_, ?_, ?_, ?_, ?_, ?_, ?_⟩
  · intro d v0 x L M Q; exact Wp_sim (by decide +kernel : decode (cd 70) 0 = .ok (.iload_n 1, 1)) rfl rfl
  · intro d a x L M Q; exact Wp_sim (by decide +kernel : decode (cd 70) 1 = .ok (.aload_n 0, 1)) rfl rfl
  · intro d a b L M Q; exact q_getI (p := 212) (by decide +kernel : decode (cd 70) 2 = .ok (.getfield 15, 3)) (by decide +kernel) (by decide +kernel)
  · intro d a b L M Q; exact q_ieq (by decide +kernel : decode (cd 70) 5 = .ok (.if_icmp .eq 17, 3)) (by decide)
  · intro d v0 x L M Q; exact Wp_sim (by decide +kernel : decode (cd 70) 8 = .ok (.iload_n 1, 1)) rfl rfl
  · intro d a x L M Q; exact Wp_sim (by decide +kernel : decode (cd 70) 9 = .ok (.aload_n 0, 1)) rfl rfl
  · intro d a b L M Q; exact q_getI (p := 212) (by decide +kernel : decode (cd 70) 10 = .ok (.getfield 15, 3)) (by decide +kernel) (by decide +kernel)
  · intro d a b L M Q; exact q_ile (by decide +kernel : decode (cd 70) 13 = .ok (.if_icmp .le 7, 3)) (by decide)
  · intro d L M Q; exact Wp_sim (by decide +kernel : decode (cd 70) 16 = .ok (.iconst 1, 1)) rfl rfl
  · intro d a L M Q; exact q_goto (by decide +kernel : decode (cd 70) 17 = .ok (.goto 4, 3)) (by decide)
  · intro d L M Q; exact Wp_sim (by decide +kernel : decode (cd 70) 20 = .ok (.iconst 0, 1)) rfl rfl
  · intro d a L M Q; exact q_zret (by decide +kernel : decode (cd 70) 21 = .ok (.ireturn , 1)) (by decide +kernel)
  · intro d v0 v1 x L M Q; exact Wp_sim (by decide +kernel : decode (cd 70) 22 = .ok (.iload_n 2, 1)) rfl rfl
  · intro d a x L M Q; exact Wp_sim (by decide +kernel : decode (cd 70) 23 = .ok (.aload_n 0, 1)) rfl rfl
  · intro d a b L M Q; exact q_getI (p := 214) (by decide +kernel : decode (cd 70) 24 = .ok (.getfield 18, 3)) (by decide +kernel) (by decide +kernel)
  · intro d a b L M Q; exact q_ieq (by decide +kernel : decode (cd 70) 27 = .ok (.if_icmp .eq 17, 3)) (by decide)
  · intro d v0 v1 x L M Q; exact Wp_sim (by decide +kernel : decode (cd 70) 30 = .ok (.iload_n 2, 1)) rfl rfl
  · intro d a x L M Q; exact Wp_sim (by decide +kernel : decode (cd 70) 31 = .ok (.aload_n 0, 1)) rfl rfl
  · intro d a b L M Q; exact q_getI (p := 214) (by decide +kernel : decode (cd 70) 32 = .ok (.getfield 18, 3)) (by decide +kernel) (by decide +kernel)
  · intro d a b L M Q; exact q_ige (by decide +kernel : decode (cd 70) 35 = .ok (.if_icmp .ge 7, 3)) (by decide)
  · intro d L M Q; exact Wp_sim (by decide +kernel : decode (cd 70) 38 = .ok (.iconst 1, 1)) rfl rfl
  · intro d a L M Q; exact q_goto (by decide +kernel : decode (cd 70) 39 = .ok (.goto 4, 3)) (by decide)
  · intro d L M Q; exact Wp_sim (by decide +kernel : decode (cd 70) 42 = .ok (.iconst 0, 1)) rfl rfl
  · intro d a L M Q; exact q_zret (by decide +kernel : decode (cd 70) 43 = .ok (.ireturn , 1)) (by decide +kernel)
  · intro d v0 v1 v2 x L M Q; exact Wp_sim (by decide +kernel : decode (cd 70) 44 = .ok (.iload_n 3, 1)) rfl rfl
  · intro d a x L M Q; exact Wp_sim (by decide +kernel : decode (cd 70) 45 = .ok (.aload_n 0, 1)) rfl rfl
  · intro d a b L M Q; exact q_getI (p := 216) (by decide +kernel : decode (cd 70) 46 = .ok (.getfield 21, 3)) (by decide +kernel) (by decide +kernel)
  · intro d a b L M Q; exact q_ige (by decide +kernel : decode (cd 70) 49 = .ok (.if_icmp .ge 7, 3)) (by decide)
  · intro d L M Q; exact Wp_sim (by decide +kernel : decode (cd 70) 52 = .ok (.iconst 1, 1)) rfl rfl
  · intro d a L M Q; exact q_goto (by decide +kernel : decode (cd 70) 53 = .ok (.goto 4, 3)) (by decide)
  · intro d L M Q; exact Wp_sim (by decide +kernel : decode (cd 70) 56 = .ok (.iconst 0, 1)) rfl rfl
  · intro d a L M Q; exact q_zret (by decide +kernel : decode (cd 70) 57 = .ok (.ireturn , 1)) (by decide +kernel)
