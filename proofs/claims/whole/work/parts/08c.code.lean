/-! part 08c: the instructions of the methods 71 to 110 -/
/- 71: PalaceYard.feed -/
set_option maxRecDepth 10000 in
theorem e71 : (∀ (d : Nat) (v0 : Value) (x : Int32) (L : List Value) (M : Mem) (Q : Option Value → Mem → Prop), Wp d 71 0 (v0 :: .int x :: L) [] M Q ↔ Wp d 71 1 (v0 :: .int x :: L) [.int x] M Q) ∧
    (∀ (d : Nat) (a : Int32) (L : List Value) (M : Mem) (Q : Option Value → Mem → Prop), Wp d 71 1 L [.int a] M Q ↔ (if a < 0 then Wp d 71 11 L [] M Q else Wp d 71 4 L [] M Q)) ∧
    (∀ (d : Nat) (v0 : Value) (x : Int32) (L : List Value) (M : Mem) (Q : Option Value → Mem → Prop), Wp d 71 4 (v0 :: .int x :: L) [] M Q ↔ Wp d 71 5 (v0 :: .int x :: L) [.int x] M Q) ∧
    (∀ (d : Nat) (a : Int32) (L : List Value) (M : Mem) (Q : Option Value → Mem → Prop), Wp d 71 5 L [.int a] M Q ↔ Wp d 71 8 L [.int 255, .int a] M Q) ∧
    (∀ (d : Nat) (a : Int32) (b : Int32) (L : List Value) (M : Mem) (Q : Option Value → Mem → Prop), Wp d 71 8 L [.int a, .int b] M Q ↔ (if a < b then Wp d 71 11 L [] M Q else Wp d 71 14 L [] M Q)) ∧
    (∀ (d : Nat) (L : List Value) (M : Mem) (Q : Option Value → Mem → Prop), Wp d 71 11 L [] M Q ↔ Wp d 71 13 L [.int (-1000000002)] M Q) ∧
    (∀ (d : Nat) (a : Int32) (L : List Value) (M : Mem) (Q : Option Value → Mem → Prop), Wp d 71 13 L [.int a] M Q ↔ Q (some (.int a)) M) ∧
    (∀ (d : Nat) (x : Nat) (L : List Value) (M : Mem) (Q : Option Value → Mem → Prop), Wp d 71 14 (.ref x :: L) [] M Q ↔ Wp d 71 15 (.ref x :: L) [.ref x] M Q) ∧
    (∀ (d : Nat) (a : Nat) (L : List Value) (M : Mem) (Q : Option Value → Mem → Prop), Wp d 71 15 L [.ref a] M Q ↔ (isK a 11 = true ∧ Wp d 71 18 L [.ref (rt a 0)] M Q)) ∧
    (∀ (d : Nat) (a : Nat) (L : List Value) (M : Mem) (Q : Option Value → Mem → Prop), Wp d 71 18 L [.ref a] M Q ↔ (isK a 5 = true ∧ Wp d 71 21 L [.int (M a 1)] M Q)) ∧
    (∀ (d : Nat) (a : Int32) (L : List Value) (M : Mem) (Q : Option Value → Mem → Prop), Wp d 71 21 L [.int a] M Q ↔ Wp d 71 24 L [.int 240, .int a] M Q) ∧
    (∀ (d : Nat) (a : Int32) (b : Int32) (L : List Value) (M : Mem) (Q : Option Value → Mem → Prop), Wp d 71 24 L [.int a, .int b] M Q ↔ (if b < a then Wp d 71 30 L [] M Q else Wp d 71 27 L [] M Q)) ∧
    (∀ (d : Nat) (L : List Value) (M : Mem) (Q : Option Value → Mem → Prop), Wp d 71 27 L [] M Q ↔ Wp d 71 29 L [.int (-1000000004)] M Q) ∧
    (∀ (d : Nat) (a : Int32) (L : List Value) (M : Mem) (Q : Option Value → Mem → Prop), Wp d 71 29 L [.int a] M Q ↔ Q (some (.int a)) M) ∧
    (∀ (d : Nat) (x : Nat) (L : List Value) (M : Mem) (Q : Option Value → Mem → Prop), Wp d 71 30 (.ref x :: L) [] M Q ↔ Wp d 71 31 (.ref x :: L) [.ref x] M Q) ∧
    (∀ (d : Nat) (a : Nat) (L : List Value) (M : Mem) (Q : Option Value → Mem → Prop), Wp d 71 31 L [.ref a] M Q ↔ (isK a 11 = true ∧ Wp d 71 34 L [.ref (rt a 0)] M Q)) ∧
    (∀ (d : Nat) (a : Nat) (v0 : Value) (x : Int32) (L : List Value) (M : Mem) (Q : Option Value → Mem → Prop), Wp d 71 34 (v0 :: .int x :: L) [.ref a] M Q ↔ Wp d 71 35 (v0 :: .int x :: L) [.int x, .ref a] M Q) ∧
    (∀ (d : Nat) (a : Int32) (b : Nat) (L : List Value) (M : Mem) (Q : Option Value → Mem → Prop), Wp (d + 1) 71 35 L [.int a, .ref b] M Q ↔ (isK b 5 = true ∧ Wp d 23 0 [.ref b, .int a] [] M (fun r M2 => Wp (d + 1) 71 38 L (r.toList ++ []) M2 Q))) ∧
    (∀ (d : Nat) (x : Nat) (L : List Value) (M : Mem) (Q : Option Value → Mem → Prop), Wp d 71 38 (.ref x :: L) [] M Q ↔ Wp d 71 39 (.ref x :: L) [.ref x] M Q) ∧
    (∀ (d : Nat) (a : Nat) (L : List Value) (M : Mem) (Q : Option Value → Mem → Prop), Wp d 71 39 L [.ref a] M Q ↔ (isK a 11 = true ∧ Wp d 71 42 L [.ref (rt a 0)] M Q)) ∧
    (∀ (d : Nat) (a : Nat) (L : List Value) (M : Mem) (Q : Option Value → Mem → Prop), Wp d 71 42 L [.ref a] M Q ↔ (isK a 5 = true ∧ Wp d 71 45 L [.int (M a 1)] M Q)) ∧
    (∀ (d : Nat) (a : Int32) (L : List Value) (M : Mem) (Q : Option Value → Mem → Prop), Wp d 71 45 L [.int a] M Q ↔ Q (some (.int a)) M) := by
  refine ⟨?_, ?_, ?_, ?_, ?_, ?_, ?_, ?_, ?_, ?_, ?_, ?_, ?_, ?_, ?_, ?_, ?_, ?_, ?_, ?_, ?_, ?_⟩
  · intro d v0 x L M Q; exact Wp_sim (by decide +kernel : decode (cd 71) 0 = .ok (.iload_n 1, 1)) rfl rfl
  · intro d a L M Q; exact q_zlt (by decide +kernel : decode (cd 71) 1 = .ok (.ifCond .lt 10, 3)) (by decide)
  · intro d v0 x L M Q; exact Wp_sim (by decide +kernel : decode (cd 71) 4 = .ok (.iload_n 1, 1)) rfl rfl
  · intro d a L M Q; exact Wp_sim (by decide +kernel : decode (cd 71) 5 = .ok (.sipush 255, 3)) rfl rfl
  · intro d a b L M Q; exact q_ile (by decide +kernel : decode (cd 71) 8 = .ok (.if_icmp .le 6, 3)) (by decide)
  · intro d L M Q; exact q_ldc (p := 339) (by decide +kernel : decode (cd 71) 11 = .ok (.ldc 82, 2)) (by decide +kernel)
  · intro d a L M Q; exact q_iret (by decide +kernel : decode (cd 71) 13 = .ok (.ireturn , 1)) (by decide +kernel)
  · intro d x L M Q; exact Wp_sim (by decide +kernel : decode (cd 71) 14 = .ok (.aload_n 0, 1)) rfl rfl
  · intro d a L M Q; exact q_getR (p := 298) (by decide +kernel : decode (cd 71) 15 = .ok (.getfield 10, 3)) (by decide +kernel) (by decide +kernel)
  · intro d a L M Q; exact q_getI (p := 34) (by decide +kernel : decode (cd 71) 18 = .ok (.getfield 83, 3)) (by decide +kernel) (by decide +kernel)
  · intro d a L M Q; exact Wp_sim (by decide +kernel : decode (cd 71) 21 = .ok (.sipush 240, 3)) rfl rfl
  · intro d a b L M Q; exact q_ilt (by decide +kernel : decode (cd 71) 24 = .ok (.if_icmp .lt 6, 3)) (by decide)
  · intro d L M Q; exact q_ldc (p := 340) (by decide +kernel : decode (cd 71) 27 = .ok (.ldc 86, 2)) (by decide +kernel)
  · intro d a L M Q; exact q_iret (by decide +kernel : decode (cd 71) 29 = .ok (.ireturn , 1)) (by decide +kernel)
  · intro d x L M Q; exact Wp_sim (by decide +kernel : decode (cd 71) 30 = .ok (.aload_n 0, 1)) rfl rfl
  · intro d a L M Q; exact q_getR (p := 298) (by decide +kernel : decode (cd 71) 31 = .ok (.getfield 10, 3)) (by decide +kernel) (by decide +kernel)
  · intro d a v0 x L M Q; exact Wp_sim (by decide +kernel : decode (cd 71) 34 = .ok (.iload_n 1, 1)) rfl rfl
  · intro d a b L M Q; exact q_invV (pz := 341) (n := 1) (c := 5) (m := 2) (k := b) (As := [.int a]) (rest := []) (by decide +kernel : decode (cd 71) 35 = .ok (.invokevirtual 87, 3)) (by decide +kernel) (by decide +kernel) rfl rfl (Nat.le_of_ble_eq_true rfl) (Nat.le_of_ble_eq_true rfl) rfl
  · intro d x L M Q; exact Wp_sim (by decide +kernel : decode (cd 71) 38 = .ok (.aload_n 0, 1)) rfl rfl
  · intro d a L M Q; exact q_getR (p := 298) (by decide +kernel : decode (cd 71) 39 = .ok (.getfield 10, 3)) (by decide +kernel) (by decide +kernel)
  · intro d a L M Q; exact q_getI (p := 34) (by decide +kernel : decode (cd 71) 42 = .ok (.getfield 83, 3)) (by decide +kernel) (by decide +kernel)
  · intro d a L M Q; exact q_iret (by decide +kernel : decode (cd 71) 45 = .ok (.ireturn , 1)) (by decide +kernel)

/- 72: PalaceYard.yard -/
set_option maxRecDepth 10000 in
theorem e72 : (∀ (d : Nat) (x : Nat) (L : List Value) (M : Mem) (Q : Option Value → Mem → Prop), Wp d 72 0 (.ref x :: L) [] M Q ↔ Wp d 72 1 (.ref x :: L) [.ref x] M Q) ∧
    (∀ (d : Nat) (a : Nat) (L : List Value) (M : Mem) (Q : Option Value → Mem → Prop), Wp d 72 1 L [.ref a] M Q ↔ (isK a 11 = true ∧ Wp d 72 4 L [.ref (rt a 1)] M Q)) ∧
    (∀ (d : Nat) (a : Nat) (x : Nat) (L : List Value) (M : Mem) (Q : Option Value → Mem → Prop), Wp d 72 4 (.ref x :: L) [.ref a] M Q ↔ Wp d 72 5 (.ref x :: L) [.ref x, .ref a] M Q) ∧
    (∀ (d : Nat) (a : Nat) (b : Nat) (L : List Value) (M : Mem) (Q : Option Value → Mem → Prop), Wp d 72 5 L [.ref a, .ref b] M Q ↔ (isK a 11 = true ∧ Wp d 72 8 L [.ref (rt a 0), .ref b] M Q)) ∧
    (∀ (d : Nat) (a : Nat) (b : Nat) (x : Nat) (L : List Value) (M : Mem) (Q : Option Value → Mem → Prop), Wp d 72 8 (.ref x :: L) [.ref a, .ref b] M Q ↔ Wp d 72 9 (.ref x :: L) [.ref x, .ref a, .ref b] M Q) ∧
    (∀ (d : Nat) (a : Nat) (b : Nat) (c : Nat) (L : List Value) (M : Mem) (Q : Option Value → Mem → Prop), Wp d 72 9 L [.ref a, .ref b, .ref c] M Q ↔ (isK a 11 = true ∧ Wp d 72 12 L [.ref (rt a 2), .ref b, .ref c] M Q)) ∧
    (∀ (d : Nat) (a : Nat) (b : Nat) (c : Nat) (L : List Value) (M : Mem) (Q : Option Value → Mem → Prop), Wp (d + 1) 72 12 L [.ref a, .ref b, .ref c] M Q ↔ (isK c 8 = true ∧ Wp d 31 0 [.ref c, .ref b, .ref a, .null] [] M (fun r M2 => Wp (d + 1) 72 15 L (r.toList ++ []) M2 Q))) ∧
    (∀ (d : Nat) (a : Int32) (v0 : Value) (x : Value) (L : List Value) (M : Mem) (Q : Option Value → Mem → Prop), Wp d 72 15 (v0 :: x :: L) [.int a] M Q ↔ Wp d 72 16 (clr v0 :: .int a :: L) [] M Q) ∧
    (∀ (d : Nat) (x : Nat) (L : List Value) (M : Mem) (Q : Option Value → Mem → Prop), Wp d 72 16 (.ref x :: L) [] M Q ↔ Wp d 72 17 (.ref x :: L) [.ref x] M Q) ∧
    (∀ (d : Nat) (a : Nat) (L : List Value) (M : Mem) (Q : Option Value → Mem → Prop), Wp d 72 17 L [.ref a] M Q ↔ (isK a 11 = true ∧ Wp d 72 20 L [.ref (rt a 0)] M Q)) ∧
    (∀ (d : Nat) (a : Nat) (L : List Value) (M : Mem) (Q : Option Value → Mem → Prop), Wp d 72 20 L [.ref a] M Q ↔ Wp d 72 21 L [.int 0, .ref a] M Q) ∧
    (∀ (d : Nat) (a : Int32) (b : Nat) (L : List Value) (M : Mem) (Q : Option Value → Mem → Prop), Wp d 72 21 L [.int a, .ref b] M Q ↔ (isK b 5 = true ∧ Wp d 72 24 L [] (up2 M b 1 a) Q)) ∧
    (∀ (d : Nat) (x : Nat) (L : List Value) (M : Mem) (Q : Option Value → Mem → Prop), Wp d 72 24 (.ref x :: L) [] M Q ↔ Wp d 72 25 (.ref x :: L) [.ref x] M Q) ∧
    (∀ (d : Nat) (a : Nat) (x : Nat) (L : List Value) (M : Mem) (Q : Option Value → Mem → Prop), Wp d 72 25 (.ref x :: L) [.ref a] M Q ↔ Wp d 72 26 (.ref x :: L) [.ref x, .ref a] M Q) ∧
    (∀ (d : Nat) (a : Nat) (b : Nat) (L : List Value) (M : Mem) (Q : Option Value → Mem → Prop), Wp d 72 26 L [.ref a, .ref b] M Q ↔ (isK a 11 = true ∧ Wp d 72 29 L [.ref (rt a 1), .ref b] M Q)) ∧
    (∀ (d : Nat) (a : Nat) (b : Nat) (L : List Value) (M : Mem) (Q : Option Value → Mem → Prop), Wp d 72 29 L [.ref a, .ref b] M Q ↔ (isK a 8 = true ∧ Wp d 72 32 L [.int (M a 3), .ref b] M Q)) ∧
    (∀ (d : Nat) (a : Int32) (b : Nat) (L : List Value) (M : Mem) (Q : Option Value → Mem → Prop), Wp d 72 32 L [.int a, .ref b] M Q ↔ (isK b 11 = true ∧ Wp d 72 35 L [] (up2 M b 10 a) Q)) ∧
    (∀ (d : Nat) (v0 : Value) (x : Int32) (L : List Value) (M : Mem) (Q : Option Value → Mem → Prop), Wp d 72 35 (v0 :: .int x :: L) [] M Q ↔ Wp d 72 36 (v0 :: .int x :: L) [.int x] M Q) ∧
    (∀ (d : Nat) (a : Int32) (L : List Value) (M : Mem) (Q : Option Value → Mem → Prop), Wp d 72 36 L [.int a] M Q ↔ (if a = 0 then Wp d 72 44 L [] M Q else Wp d 72 39 L [] M Q)) ∧
    (∀ (d : Nat) (L : List Value) (M : Mem) (Q : Option Value → Mem → Prop), Wp d 72 39 L [] M Q ↔ Wp d 72 41 L [.int (-10)] M Q) ∧
    (∀ (d : Nat) (a : Int32) (v0 : Value) (x : Int32) (L : List Value) (M : Mem) (Q : Option Value → Mem → Prop), Wp d 72 41 (v0 :: .int x :: L) [.int a] M Q ↔ Wp d 72 42 (v0 :: .int x :: L) [.int x, .int a] M Q) ∧
    (∀ (d : Nat) (a : Int32) (b : Int32) (L : List Value) (M : Mem) (Q : Option Value → Mem → Prop), Wp d 72 42 L [.int a, .int b] M Q ↔ Wp d 72 43 L [.int (b - a)] M Q) ∧
    (∀ (d : Nat) (a : Int32) (L : List Value) (M : Mem) (Q : Option Value → Mem → Prop), Wp d 72 43 L [.int a] M Q ↔ Q (some (.int a)) M) ∧
    (∀ (d : Nat) (x : Nat) (L : List Value) (M : Mem) (Q : Option Value → Mem → Prop), Wp d 72 44 (.ref x :: L) [] M Q ↔ Wp d 72 45 (.ref x :: L) [.ref x] M Q) ∧
    (∀ (d : Nat) (a : Nat) (L : List Value) (M : Mem) (Q : Option Value → Mem → Prop), Wp d 72 45 L [.ref a] M Q ↔ (isK a 11 = true ∧ Wp d 72 48 L [.ref (rt a 3)] M Q)) ∧
    (∀ (d : Nat) (a : Nat) (x : Nat) (L : List Value) (M : Mem) (Q : Option Value → Mem → Prop), Wp d 72 48 (.ref x :: L) [.ref a] M Q ↔ Wp d 72 49 (.ref x :: L) [.ref x, .ref a] M Q) ∧
    (∀ (d : Nat) (a : Nat) (b : Nat) (L : List Value) (M : Mem) (Q : Option Value → Mem → Prop), Wp d 72 49 L [.ref a, .ref b] M Q ↔ (isK a 11 = true ∧ Wp d 72 52 L [.ref (rt a 2), .ref b] M Q)) ∧
    (∀ (d : Nat) (a : Nat) (b : Nat) (L : List Value) (M : Mem) (Q : Option Value → Mem → Prop), Wp (d + 1) 72 52 L [.ref a, .ref b] M Q ↔ (isK b 9 = true ∧ Wp d 41 0 [.ref b, .ref a] [] M (fun r M2 => Wp (d + 1) 72 55 L (r.toList ++ []) M2 Q))) ∧
    (∀ (d : Nat) (x : Nat) (L : List Value) (M : Mem) (Q : Option Value → Mem → Prop), Wp d 72 55 (.ref x :: L) [] M Q ↔ Wp d 72 56 (.ref x :: L) [.ref x] M Q) ∧
    (∀ (d : Nat) (a : Nat) (L : List Value) (M : Mem) (Q : Option Value → Mem → Prop), Wp d 72 56 L [.ref a] M Q ↔ (isK a 11 = true ∧ Wp d 72 59 L [.ref (rt a 5)] M Q)) ∧
    (∀ (d : Nat) (a : Nat) (L : List Value) (M : Mem) (Q : Option Value → Mem → Prop), Wp (d + 1) 72 59 L [.ref a] M Q ↔ (isK a 7 = true ∧ Wp d 28 0 [.ref a] [] M (fun r M2 => Wp (d + 1) 72 62 L (r.toList ++ []) M2 Q))) ∧
    (∀ (d : Nat) (x : Nat) (L : List Value) (M : Mem) (Q : Option Value → Mem → Prop), Wp d 72 62 (.ref x :: L) [] M Q ↔ Wp d 72 63 (.ref x :: L) [.ref x] M Q) ∧
    (∀ (d : Nat) (a : Nat) (L : List Value) (M : Mem) (Q : Option Value → Mem → Prop), Wp d 72 63 L [.ref a] M Q ↔ (isK a 11 = true ∧ Wp d 72 66 L [.ref (rt a 6)] M Q)) ∧
    (∀ (d : Nat) (a : Nat) (L : List Value) (M : Mem) (Q : Option Value → Mem → Prop), Wp d 72 66 L [.ref a] M Q ↔ Wp d 72 67 L [.int 0, .ref a] M Q) ∧
    (∀ (d : Nat) (a : Int32) (b : Nat) (L : List Value) (M : Mem) (Q : Option Value → Mem → Prop), Wp d 72 67 L [.int a, .ref b] M Q ↔ ((isK b 4 = true ∧ (a = 0 ∨ a = 1)) ∧ Wp d 72 70 L [] (up2 M b 1 a) Q)) ∧
    (∀ (d : Nat) (x : Nat) (L : List Value) (M : Mem) (Q : Option Value → Mem → Prop), Wp d 72 70 (.ref x :: L) [] M Q ↔ Wp d 72 71 (.ref x :: L) [.ref x] M Q) ∧
    (∀ (d : Nat) (a : Nat) (L : List Value) (M : Mem) (Q : Option Value → Mem → Prop), Wp d 72 71 L [.ref a] M Q ↔ (isK a 11 = true ∧ Wp d 72 74 L [.ref (rt a 7)] M Q)) ∧
    (∀ (d : Nat) (a : Nat) (L : List Value) (M : Mem) (Q : Option Value → Mem → Prop), Wp d 72 74 L [.ref a] M Q ↔ Wp d 72 75 L [.int 0, .ref a] M Q) ∧
    (∀ (d : Nat) (a : Int32) (b : Nat) (L : List Value) (M : Mem) (Q : Option Value → Mem → Prop), Wp d 72 75 L [.int a, .ref b] M Q ↔ ((isK b 4 = true ∧ (a = 0 ∨ a = 1)) ∧ Wp d 72 78 L [] (up2 M b 1 a) Q)) ∧
    (∀ (d : Nat) (x : Nat) (L : List Value) (M : Mem) (Q : Option Value → Mem → Prop), Wp d 72 78 (.ref x :: L) [] M Q ↔ Wp d 72 79 (.ref x :: L) [.ref x] M Q) ∧
    (∀ (d : Nat) (a : Nat) (L : List Value) (M : Mem) (Q : Option Value → Mem → Prop), Wp d 72 79 L [.ref a] M Q ↔ (isK a 11 = true ∧ Wp d 72 82 L [.ref (rt a 8)] M Q)) ∧
    (∀ (d : Nat) (a : Nat) (L : List Value) (M : Mem) (Q : Option Value → Mem → Prop), Wp (d + 1) 72 82 L [.ref a] M Q ↔ (isK a 3 = true ∧ Wp d 17 0 [.ref a] [] M (fun r M2 => Wp (d + 1) 72 85 L (r.toList ++ []) M2 Q))) ∧
    (∀ (d : Nat) (x : Nat) (L : List Value) (M : Mem) (Q : Option Value → Mem → Prop), Wp d 72 85 (.ref x :: L) [] M Q ↔ Wp d 72 86 (.ref x :: L) [.ref x] M Q) ∧
    (∀ (d : Nat) (a : Nat) (L : List Value) (M : Mem) (Q : Option Value → Mem → Prop), Wp d 72 86 L [.ref a] M Q ↔ (isK a 11 = true ∧ Wp d 72 89 L [.ref (rt a 9)] M Q)) ∧
    (∀ (d : Nat) (a : Nat) (L : List Value) (M : Mem) (Q : Option Value → Mem → Prop), Wp d 72 89 L [.ref a] M Q ↔ Wp d 72 90 L [.int 0, .ref a] M Q) ∧
    (∀ (d : Nat) (a : Int32) (b : Nat) (L : List Value) (M : Mem) (Q : Option Value → Mem → Prop), Wp d 72 90 L [.int a, .ref b] M Q ↔ (isK b 0 = true ∧ Wp d 72 93 L [] (up2 M b 2 a) Q)) ∧
    (∀ (d : Nat) (x : Nat) (L : List Value) (M : Mem) (Q : Option Value → Mem → Prop), Wp d 72 93 (.ref x :: L) [] M Q ↔ Wp d 72 94 (.ref x :: L) [.ref x] M Q) ∧
    (∀ (d : Nat) (a : Nat) (L : List Value) (M : Mem) (Q : Option Value → Mem → Prop), Wp d 72 94 L [.ref a] M Q ↔ (isK a 11 = true ∧ Wp d 72 97 L [.ref (rt a 3)] M Q)) ∧
    (∀ (d : Nat) (a : Nat) (L : List Value) (M : Mem) (Q : Option Value → Mem → Prop), Wp d 72 97 L [.ref a] M Q ↔ (isK a 9 = true ∧ Wp d 72 100 L [.ref (rt a 0)] M Q)) ∧
    (∀ (d : Nat) (a : Nat) (L : List Value) (M : Mem) (Q : Option Value → Mem → Prop), Wp d 72 100 L [.ref a] M Q ↔ (isK a 1 = true ∧ Wp d 72 103 L [.int (M a 13)] M Q)) ∧
    (∀ (d : Nat) (a : Int32) (L : List Value) (M : Mem) (Q : Option Value → Mem → Prop), Wp d 72 103 L [.int a] M Q ↔ Q (some (.int a)) M) := by
  refine ⟨?_, ?_, ?_, ?_, ?_, ?_, ?_, ?_, ?_, ?_, ?_, ?_, ?_, ?_, ?_, ?_, ?_, ?_, ?_, ?_, ?_, ?_, ?_, ?_, ?_, ?_, ?_, ?_, ?_, ?_, ?_, ?_, ?_, ?_, ?_, ?_, ?_, ?_, ?_, ?_, ?_, ?_, ?_, ?_, ?_, ?_, ?_, ?_, ?_, ?_, ?_⟩
  · intro d x L M Q; exact Wp_sim (by decide +kernel : decode (cd 72) 0 = .ok (.aload_n 0, 1)) rfl rfl
  · intro d a L M Q; exact q_getR (p := 299) (by decide +kernel : decode (cd 72) 1 = .ok (.getfield 19, 3)) (by decide +kernel) (by decide +kernel)
  · intro d a x L M Q; exact Wp_sim (by decide +kernel : decode (cd 72) 4 = .ok (.aload_n 0, 1)) rfl rfl
  · intro d a b L M Q; exact q_getR (p := 298) (by decide +kernel : decode (cd 72) 5 = .ok (.getfield 10, 3)) (by decide +kernel) (by decide +kernel)
  · intro d a b x L M Q; exact Wp_sim (by decide +kernel : decode (cd 72) 8 = .ok (.aload_n 0, 1)) rfl rfl
  · intro d a b c L M Q; exact q_getR (p := 300) (by decide +kernel : decode (cd 72) 9 = .ok (.getfield 26, 3)) (by decide +kernel) (by decide +kernel)
  · intro d a b c L M Q; exact q_invV (pz := 349) (n := 2) (c := 8) (m := 4) (k := c) (As := [.ref b, .ref a]) (rest := []) (by decide +kernel : decode (cd 72) 12 = .ok (.invokevirtual 91, 3)) (by decide +kernel) (by decide +kernel) rfl rfl (Nat.le_of_ble_eq_true rfl) (Nat.le_of_ble_eq_true rfl) rfl
  · intro d a v0 x L M Q; exact Wp_sim (by decide +kernel : decode (cd 72) 15 = .ok (.istore_n 1, 1)) rfl rfl
  · intro d x L M Q; exact Wp_sim (by decide +kernel : decode (cd 72) 16 = .ok (.aload_n 0, 1)) rfl rfl
  · intro d a L M Q; exact q_getR (p := 298) (by decide +kernel : decode (cd 72) 17 = .ok (.getfield 10, 3)) (by decide +kernel) (by decide +kernel)
  · intro d a L M Q; exact Wp_sim (by decide +kernel : decode (cd 72) 20 = .ok (.iconst 0, 1)) rfl rfl
  · intro d a b L M Q; exact q_putI (p := 34) (by decide +kernel : decode (cd 72) 21 = .ok (.putfield 83, 3)) (by decide +kernel) (by decide +kernel)
  · intro d x L M Q; exact Wp_sim (by decide +kernel : decode (cd 72) 24 = .ok (.aload_n 0, 1)) rfl rfl
  · intro d a x L M Q; exact Wp_sim (by decide +kernel : decode (cd 72) 25 = .ok (.aload_n 0, 1)) rfl rfl
  · intro d a b L M Q; exact q_getR (p := 299) (by decide +kernel : decode (cd 72) 26 = .ok (.getfield 19, 3)) (by decide +kernel) (by decide +kernel)
  · intro d a b L M Q; exact q_getI (p := 52) (by decide +kernel : decode (cd 72) 29 = .ok (.getfield 95, 3)) (by decide +kernel) (by decide +kernel)
  · intro d a b L M Q; exact q_putI (p := 308) (by decide +kernel : decode (cd 72) 32 = .ok (.putfield 75, 3)) (by decide +kernel) (by decide +kernel)
  · intro d v0 x L M Q; exact Wp_sim (by decide +kernel : decode (cd 72) 35 = .ok (.iload_n 1, 1)) rfl rfl
  · intro d a L M Q; exact q_zeq (by decide +kernel : decode (cd 72) 36 = .ok (.ifCond .eq 8, 3)) (by decide)
  · intro d L M Q; exact Wp_sim (by decide +kernel : decode (cd 72) 39 = .ok (.bipush (-10), 2)) rfl rfl
  · intro d a v0 x L M Q; exact Wp_sim (by decide +kernel : decode (cd 72) 41 = .ok (.iload_n 1, 1)) rfl rfl
  · intro d a b L M Q; exact Wp_sim (by decide +kernel : decode (cd 72) 42 = .ok (.isub , 1)) rfl rfl
  · intro d a L M Q; exact q_iret (by decide +kernel : decode (cd 72) 43 = .ok (.ireturn , 1)) (by decide +kernel)
  · intro d x L M Q; exact Wp_sim (by decide +kernel : decode (cd 72) 44 = .ok (.aload_n 0, 1)) rfl rfl
  · intro d a L M Q; exact q_getR (p := 301) (by decide +kernel : decode (cd 72) 45 = .ok (.getfield 33, 3)) (by decide +kernel) (by decide +kernel)
  · intro d a x L M Q; exact Wp_sim (by decide +kernel : decode (cd 72) 48 = .ok (.aload_n 0, 1)) rfl rfl
  · intro d a b L M Q; exact q_getR (p := 300) (by decide +kernel : decode (cd 72) 49 = .ok (.getfield 26, 3)) (by decide +kernel) (by decide +kernel)
  · intro d a b L M Q; exact q_invV (pz := 409) (n := 1) (c := 9) (m := 2) (k := b) (As := [.ref a]) (rest := []) (by decide +kernel : decode (cd 72) 52 = .ok (.invokevirtual 96, 3)) (by decide +kernel) (by decide +kernel) rfl rfl (Nat.le_of_ble_eq_true rfl) (Nat.le_of_ble_eq_true rfl) rfl
  · intro d x L M Q; exact Wp_sim (by decide +kernel : decode (cd 72) 55 = .ok (.aload_n 0, 1)) rfl rfl
  · intro d a L M Q; exact q_getR (p := 303) (by decide +kernel : decode (cd 72) 56 = .ok (.getfield 47, 3)) (by decide +kernel) (by decide +kernel)
  · intro d a L M Q; exact q_invV (pz := 427) (n := 0) (c := 7) (m := 1) (k := a) (As := []) (rest := []) (by decide +kernel : decode (cd 72) 59 = .ok (.invokevirtual 100, 3)) (by decide +kernel) (by decide +kernel) rfl rfl (Nat.le_of_ble_eq_true rfl) (Nat.le_of_ble_eq_true rfl) rfl
  · intro d x L M Q; exact Wp_sim (by decide +kernel : decode (cd 72) 62 = .ok (.aload_n 0, 1)) rfl rfl
  · intro d a L M Q; exact q_getR (p := 304) (by decide +kernel : decode (cd 72) 63 = .ok (.getfield 54, 3)) (by decide +kernel) (by decide +kernel)
  · intro d a L M Q; exact Wp_sim (by decide +kernel : decode (cd 72) 66 = .ok (.iconst 0, 1)) rfl rfl
  · intro d a b L M Q; exact q_putZ (p := 252) (by decide +kernel : decode (cd 72) 67 = .ok (.putfield 103, 3)) (by decide +kernel) (by decide +kernel)
  · intro d x L M Q; exact Wp_sim (by decide +kernel : decode (cd 72) 70 = .ok (.aload_n 0, 1)) rfl rfl
  · intro d a L M Q; exact q_getR (p := 305) (by decide +kernel : decode (cd 72) 71 = .ok (.getfield 58, 3)) (by decide +kernel) (by decide +kernel)
  · intro d a L M Q; exact Wp_sim (by decide +kernel : decode (cd 72) 74 = .ok (.iconst 0, 1)) rfl rfl
  · intro d a b L M Q; exact q_putZ (p := 252) (by decide +kernel : decode (cd 72) 75 = .ok (.putfield 103, 3)) (by decide +kernel) (by decide +kernel)
  · intro d x L M Q; exact Wp_sim (by decide +kernel : decode (cd 72) 78 = .ok (.aload_n 0, 1)) rfl rfl
  · intro d a L M Q; exact q_getR (p := 306) (by decide +kernel : decode (cd 72) 79 = .ok (.getfield 64, 3)) (by decide +kernel) (by decide +kernel)
  · intro d a L M Q; exact q_invV (pz := 431) (n := 0) (c := 3) (m := 1) (k := a) (As := []) (rest := []) (by decide +kernel : decode (cd 72) 82 = .ok (.invokevirtual 107, 3)) (by decide +kernel) (by decide +kernel) rfl rfl (Nat.le_of_ble_eq_true rfl) (Nat.le_of_ble_eq_true rfl) rfl
  · intro d x L M Q; exact Wp_sim (by decide +kernel : decode (cd 72) 85 = .ok (.aload_n 0, 1)) rfl rfl
  · intro d a L M Q; exact q_getR (p := 307) (by decide +kernel : decode (cd 72) 86 = .ok (.getfield 71, 3)) (by decide +kernel) (by decide +kernel)
  · intro d a L M Q; exact Wp_sim (by decide +kernel : decode (cd 72) 89 = .ok (.iconst 0, 1)) rfl rfl
  · intro d a b L M Q; exact q_putI (p := 290) (by decide +kernel : decode (cd 72) 90 = .ok (.putfield 110, 3)) (by decide +kernel) (by decide +kernel)
  · intro d x L M Q; exact Wp_sim (by decide +kernel : decode (cd 72) 93 = .ok (.aload_n 0, 1)) rfl rfl
  · intro d a L M Q; exact q_getR (p := 301) (by decide +kernel : decode (cd 72) 94 = .ok (.getfield 33, 3)) (by decide +kernel) (by decide +kernel)
  · intro d a L M Q; exact q_getR (p := 197) (by decide +kernel : decode (cd 72) 97 = .ok (.getfield 111, 3)) (by decide +kernel) (by decide +kernel)
  · intro d a L M Q; exact q_getI (p := 104) (by decide +kernel : decode (cd 72) 100 = .ok (.getfield 114, 3)) (by decide +kernel) (by decide +kernel)
  · intro d a L M Q; exact q_iret (by decide +kernel : decode (cd 72) 103 = .ok (.ireturn , 1)) (by decide +kernel)

/- 73: PalaceYard.fault -/
set_option maxRecDepth 10000 in
theorem e73 : (∀ (d : Nat) (x : Nat) (L : List Value) (M : Mem) (Q : Option Value → Mem → Prop), Wp d 73 0 (.ref x :: L) [] M Q ↔ Wp d 73 1 (.ref x :: L) [.ref x] M Q) ∧
    (∀ (d : Nat) (a : Nat) (L : List Value) (M : Mem) (Q : Option Value → Mem → Prop), Wp d 73 1 L [.ref a] M Q ↔ (isK a 11 = true ∧ Wp d 73 4 L [.int (M a 10)] M Q)) ∧
    (∀ (d : Nat) (a : Int32) (L : List Value) (M : Mem) (Q : Option Value → Mem → Prop), Wp d 73 4 L [.int a] M Q ↔ Q (some (.int a)) M) := by
  refine ⟨?_, ?_, ?_⟩
  · intro d x L M Q; exact Wp_sim (by decide +kernel : decode (cd 73) 0 = .ok (.aload_n 0, 1)) rfl rfl
  · intro d a L M Q; exact q_getI (p := 308) (by decide +kernel : decode (cd 73) 1 = .ok (.getfield 75, 3)) (by decide +kernel) (by decide +kernel)
  · intro d a L M Q; exact q_iret (by decide +kernel : decode (cd 73) 4 = .ok (.ireturn , 1)) (by decide +kernel)

/- 74: PalaceYard.told -/
set_option maxRecDepth 10000 in
theorem e74_0 : (∀ (d : Nat) (v0 : Value) (x : Int32) (L : List Value) (M : Mem) (Q : Option Value → Mem → Prop), Wp d 74 0 (v0 :: .int x :: L) [] M Q ↔ Wp d 74 1 (v0 :: .int x :: L) [.int x] M Q) ∧
    (∀ (d : Nat) (a : Int32) (L : List Value) (M : Mem) (Q : Option Value → Mem → Prop), Wp d 74 1 L [.int a] M Q ↔ (if a = 0 then Wp d 74 100 L [] M Q else (if a = 1 then Wp d 74 111 L [] M Q else (if a = 2 then Wp d 74 122 L [] M Q else (if a = 3 then Wp d 74 133 L [] M Q else (if a = 4 then Wp d 74 144 L [] M Q else (if a = 5 then Wp d 74 155 L [] M Q else (if a = 6 then Wp d 74 166 L [] M Q else (if a = 7 then Wp d 74 174 L [] M Q else (if a = 8 then Wp d 74 185 L [] M Q else (if a = 9 then Wp d 74 194 L [] M Q else (if a = 10 then Wp d 74 203 L [] M Q else (if a = 11 then Wp d 74 212 L [] M Q else (if a = 12 then Wp d 74 230 L [] M Q else (if a = 13 then Wp d 74 238 L [] M Q else (if a = 14 then Wp d 74 246 L [] M Q else (if a = 15 then Wp d 74 257 L [] M Q else (if a = 16 then Wp d 74 268 L [] M Q else (if a = 17 then Wp d 74 276 L [] M Q else (if a = 18 then Wp d 74 290 L [] M Q else (if a = 19 then Wp d 74 298 L [] M Q else (if a = 20 then Wp d 74 306 L [] M Q else Wp d 74 314 L [] M Q)))))))))))))))))))))) ∧
    (∀ (d : Nat) (x : Nat) (L : List Value) (M : Mem) (Q : Option Value → Mem → Prop), Wp d 74 100 (.ref x :: L) [] M Q ↔ Wp d 74 101 (.ref x :: L) [.ref x] M Q) ∧
    (∀ (d : Nat) (a : Nat) (L : List Value) (M : Mem) (Q : Option Value → Mem → Prop), Wp d 74 101 L [.ref a] M Q ↔ (isK a 11 = true ∧ Wp d 74 104 L [.ref (rt a 3)] M Q)) ∧
    (∀ (d : Nat) (a : Nat) (L : List Value) (M : Mem) (Q : Option Value → Mem → Prop), Wp d 74 104 L [.ref a] M Q ↔ (isK a 9 = true ∧ Wp d 74 107 L [.ref (rt a 0)] M Q)) ∧
    (∀ (d : Nat) (a : Nat) (L : List Value) (M : Mem) (Q : Option Value → Mem → Prop), Wp d 74 107 L [.ref a] M Q ↔ (isK a 1 = true ∧ Wp d 74 110 L [.int (M a 9)] M Q)) ∧
    (∀ (d : Nat) (a : Int32) (L : List Value) (M : Mem) (Q : Option Value → Mem → Prop), Wp d 74 110 L [.int a] M Q ↔ Q (some (.int a)) M) ∧
    (∀ (d : Nat) (x : Nat) (L : List Value) (M : Mem) (Q : Option Value → Mem → Prop), Wp d 74 111 (.ref x :: L) [] M Q ↔ Wp d 74 112 (.ref x :: L) [.ref x] M Q) ∧
    (∀ (d : Nat) (a : Nat) (L : List Value) (M : Mem) (Q : Option Value → Mem → Prop), Wp d 74 112 L [.ref a] M Q ↔ (isK a 11 = true ∧ Wp d 74 115 L [.ref (rt a 3)] M Q)) ∧
    (∀ (d : Nat) (a : Nat) (L : List Value) (M : Mem) (Q : Option Value → Mem → Prop), Wp d 74 115 L [.ref a] M Q ↔ (isK a 9 = true ∧ Wp d 74 118 L [.ref (rt a 0)] M Q)) ∧
    (∀ (d : Nat) (a : Nat) (L : List Value) (M : Mem) (Q : Option Value → Mem → Prop), Wp d 74 118 L [.ref a] M Q ↔ (isK a 1 = true ∧ Wp d 74 121 L [.int (M a 10)] M Q)) ∧
    (∀ (d : Nat) (a : Int32) (L : List Value) (M : Mem) (Q : Option Value → Mem → Prop), Wp d 74 121 L [.int a] M Q ↔ Q (some (.int a)) M) ∧
    (∀ (d : Nat) (x : Nat) (L : List Value) (M : Mem) (Q : Option Value → Mem → Prop), Wp d 74 122 (.ref x :: L) [] M Q ↔ Wp d 74 123 (.ref x :: L) [.ref x] M Q) ∧
    (∀ (d : Nat) (a : Nat) (L : List Value) (M : Mem) (Q : Option Value → Mem → Prop), Wp d 74 123 L [.ref a] M Q ↔ (isK a 11 = true ∧ Wp d 74 126 L [.ref (rt a 3)] M Q)) ∧
    (∀ (d : Nat) (a : Nat) (L : List Value) (M : Mem) (Q : Option Value → Mem → Prop), Wp d 74 126 L [.ref a] M Q ↔ (isK a 9 = true ∧ Wp d 74 129 L [.ref (rt a 0)] M Q)) ∧
    (∀ (d : Nat) (a : Nat) (L : List Value) (M : Mem) (Q : Option Value → Mem → Prop), Wp d 74 129 L [.ref a] M Q ↔ (isK a 1 = true ∧ Wp d 74 132 L [.int (M a 11)] M Q)) ∧
    (∀ (d : Nat) (a : Int32) (L : List Value) (M : Mem) (Q : Option Value → Mem → Prop), Wp d 74 132 L [.int a] M Q ↔ Q (some (.int a)) M) ∧
    (∀ (d : Nat) (x : Nat) (L : List Value) (M : Mem) (Q : Option Value → Mem → Prop), Wp d 74 133 (.ref x :: L) [] M Q ↔ Wp d 74 134 (.ref x :: L) [.ref x] M Q) ∧
    (∀ (d : Nat) (a : Nat) (L : List Value) (M : Mem) (Q : Option Value → Mem → Prop), Wp d 74 134 L [.ref a] M Q ↔ (isK a 11 = true ∧ Wp d 74 137 L [.ref (rt a 3)] M Q)) ∧
    (∀ (d : Nat) (a : Nat) (L : List Value) (M : Mem) (Q : Option Value → Mem → Prop), Wp d 74 137 L [.ref a] M Q ↔ (isK a 9 = true ∧ Wp d 74 140 L [.ref (rt a 0)] M Q)) ∧
    (∀ (d : Nat) (a : Nat) (L : List Value) (M : Mem) (Q : Option Value → Mem → Prop), Wp d 74 140 L [.ref a] M Q ↔ (isK a 1 = true ∧ Wp d 74 143 L [.int (M a 12)] M Q)) ∧
    (∀ (d : Nat) (a : Int32) (L : List Value) (M : Mem) (Q : Option Value → Mem → Prop), Wp d 74 143 L [.int a] M Q ↔ Q (some (.int a)) M) ∧
    (∀ (d : Nat) (x : Nat) (L : List Value) (M : Mem) (Q : Option Value → Mem → Prop), Wp d 74 144 (.ref x :: L) [] M Q ↔ Wp d 74 145 (.ref x :: L) [.ref x] M Q) ∧
    (∀ (d : Nat) (a : Nat) (L : List Value) (M : Mem) (Q : Option Value → Mem → Prop), Wp d 74 145 L [.ref a] M Q ↔ (isK a 11 = true ∧ Wp d 74 148 L [.ref (rt a 3)] M Q)) ∧
    (∀ (d : Nat) (a : Nat) (L : List Value) (M : Mem) (Q : Option Value → Mem → Prop), Wp d 74 148 L [.ref a] M Q ↔ (isK a 9 = true ∧ Wp d 74 151 L [.ref (rt a 0)] M Q)) ∧
    (∀ (d : Nat) (a : Nat) (L : List Value) (M : Mem) (Q : Option Value → Mem → Prop), Wp d 74 151 L [.ref a] M Q ↔ (isK a 1 = true ∧ Wp d 74 154 L [.int (M a 13)] M Q)) ∧
    (∀ (d : Nat) (a : Int32) (L : List Value) (M : Mem) (Q : Option Value → Mem → Prop), Wp d 74 154 L [.int a] M Q ↔ Q (some (.int a)) M) ∧
    (∀ (d : Nat) (x : Nat) (L : List Value) (M : Mem) (Q : Option Value → Mem → Prop), Wp d 74 155 (.ref x :: L) [] M Q ↔ Wp d 74 156 (.ref x :: L) [.ref x] M Q) ∧
    (∀ (d : Nat) (a : Nat) (L : List Value) (M : Mem) (Q : Option Value → Mem → Prop), Wp d 74 156 L [.ref a] M Q ↔ (isK a 11 = true ∧ Wp d 74 159 L [.ref (rt a 3)] M Q)) ∧
    (∀ (d : Nat) (a : Nat) (L : List Value) (M : Mem) (Q : Option Value → Mem → Prop), Wp d 74 159 L [.ref a] M Q ↔ (isK a 9 = true ∧ Wp d 74 162 L [.ref (rt a 0)] M Q)) ∧
    (∀ (d : Nat) (a : Nat) (L : List Value) (M : Mem) (Q : Option Value → Mem → Prop), Wp d 74 162 L [.ref a] M Q ↔ (isK a 1 = true ∧ Wp d 74 165 L [.int (M a 14)] M Q)) ∧
    (∀ (d : Nat) (a : Int32) (L : List Value) (M : Mem) (Q : Option Value → Mem → Prop), Wp d 74 165 L [.int a] M Q ↔ Q (some (.int a)) M) ∧
    (∀ (d : Nat) (x : Nat) (L : List Value) (M : Mem) (Q : Option Value → Mem → Prop), Wp d 74 166 (.ref x :: L) [] M Q ↔ Wp d 74 167 (.ref x :: L) [.ref x] M Q) ∧
    (∀ (d : Nat) (a : Nat) (L : List Value) (M : Mem) (Q : Option Value → Mem → Prop), Wp d 74 167 L [.ref a] M Q ↔ (isK a 11 = true ∧ Wp d 74 170 L [.ref (rt a 0)] M Q)) ∧
    (∀ (d : Nat) (a : Nat) (L : List Value) (M : Mem) (Q : Option Value → Mem → Prop), Wp d 74 170 L [.ref a] M Q ↔ (isK a 5 = true ∧ Wp d 74 173 L [.int (M a 1)] M Q)) ∧
    (∀ (d : Nat) (a : Int32) (L : List Value) (M : Mem) (Q : Option Value → Mem → Prop), Wp d 74 173 L [.int a] M Q ↔ Q (some (.int a)) M) ∧
    (∀ (d : Nat) (x : Nat) (L : List Value) (M : Mem) (Q : Option Value → Mem → Prop), Wp d 74 174 (.ref x :: L) [] M Q ↔ Wp d 74 175 (.ref x :: L) [.ref x] M Q) ∧
    (∀ (d : Nat) (a : Nat) (L : List Value) (M : Mem) (Q : Option Value → Mem → Prop), Wp d 74 175 L [.ref a] M Q ↔ (isK a 11 = true ∧ Wp d 74 178 L [.ref (rt a 3)] M Q)) ∧
    (∀ (d : Nat) (a : Nat) (L : List Value) (M : Mem) (Q : Option Value → Mem → Prop), Wp d 74 178 L [.ref a] M Q ↔ (isK a 9 = true ∧ Wp d 74 181 L [.ref (rt a 1)] M Q)) ∧
    (∀ (d : Nat) (a : Nat) (L : List Value) (M : Mem) (Q : Option Value → Mem → Prop), Wp d 74 181 L [.ref a] M Q ↔ (isK a 6 = true ∧ Wp d 74 184 L [.int (M a 3)] M Q)) ∧
    (∀ (d : Nat) (a : Int32) (L : List Value) (M : Mem) (Q : Option Value → Mem → Prop), Wp d 74 184 L [.int a] M Q ↔ Q (some (.int a)) M) ∧
    (∀ (d : Nat) (x : Nat) (L : List Value) (M : Mem) (Q : Option Value → Mem → Prop), Wp d 74 185 (.ref x :: L) [] M Q ↔ Wp d 74 186 (.ref x :: L) [.ref x] M Q) ∧
    (∀ (d : Nat) (a : Nat) (L : List Value) (M : Mem) (Q : Option Value → Mem → Prop), Wp d 74 186 L [.ref a] M Q ↔ (isK a 11 = true ∧ Wp d 74 189 L [.ref (rt a 3)] M Q)) ∧
    (∀ (d : Nat) (a : Nat) (L : List Value) (M : Mem) (Q : Option Value → Mem → Prop), Wp d 74 189 L [.ref a] M Q ↔ Wp d 74 190 L [.int 1, .ref a] M Q) ∧
    (∀ (d : Nat) (a : Int32) (b : Nat) (L : List Value) (M : Mem) (Q : Option Value → Mem → Prop), Wp (d + 1) 74 190 L [.int a, .ref b] M Q ↔ (isK b 9 = true ∧ Wp d 42 0 [.ref b, .int a, .null, .null] [] M (fun r M2 => Wp (d + 1) 74 193 L (r.toList ++ []) M2 Q))) ∧
    (∀ (d : Nat) (a : Int32) (L : List Value) (M : Mem) (Q : Option Value → Mem → Prop), Wp d 74 193 L [.int a] M Q ↔ Q (some (.int a)) M) ∧
    (∀ (d : Nat) (x : Nat) (L : List Value) (M : Mem) (Q : Option Value → Mem → Prop), Wp d 74 194 (.ref x :: L) [] M Q ↔ Wp d 74 195 (.ref x :: L) [.ref x] M Q) ∧
    (∀ (d : Nat) (a : Nat) (L : List Value) (M : Mem) (Q : Option Value → Mem → Prop), Wp d 74 195 L [.ref a] M Q ↔ (isK a 11 = true ∧ Wp d 74 198 L [.ref (rt a 3)] M Q)) ∧
    (∀ (d : Nat) (a : Nat) (L : List Value) (M : Mem) (Q : Option Value → Mem → Prop), Wp d 74 198 L [.ref a] M Q ↔ Wp d 74 199 L [.int 0, .ref a] M Q) ∧
    (∀ (d : Nat) (a : Int32) (b : Nat) (L : List Value) (M : Mem) (Q : Option Value → Mem → Prop), Wp (d + 1) 74 199 L [.int a, .ref b] M Q ↔ (isK b 9 = true ∧ Wp d 42 0 [.ref b, .int a, .null, .null] [] M (fun r M2 => Wp (d + 1) 74 202 L (r.toList ++ []) M2 Q))) ∧
    (∀ (d : Nat) (a : Int32) (L : List Value) (M : Mem) (Q : Option Value → Mem → Prop), Wp d 74 202 L [.int a] M Q ↔ Q (some (.int a)) M) ∧
    (∀ (d : Nat) (x : Nat) (L : List Value) (M : Mem) (Q : Option Value → Mem → Prop), Wp d 74 203 (.ref x :: L) [] M Q ↔ Wp d 74 204 (.ref x :: L) [.ref x] M Q) ∧
    (∀ (d : Nat) (a : Nat) (L : List Value) (M : Mem) (Q : Option Value → Mem → Prop), Wp d 74 204 L [.ref a] M Q ↔ (isK a 11 = true ∧ Wp d 74 207 L [.ref (rt a 3)] M Q)) ∧
    (∀ (d : Nat) (a : Nat) (L : List Value) (M : Mem) (Q : Option Value → Mem → Prop), Wp d 74 207 L [.ref a] M Q ↔ Wp d 74 208 L [.int 3, .ref a] M Q) ∧
    (∀ (d : Nat) (a : Int32) (b : Nat) (L : List Value) (M : Mem) (Q : Option Value → Mem → Prop), Wp (d + 1) 74 208 L [.int a, .ref b] M Q ↔ (isK b 9 = true ∧ Wp d 42 0 [.ref b, .int a, .null, .null] [] M (fun r M2 => Wp (d + 1) 74 211 L (r.toList ++ []) M2 Q))) ∧
    (∀ (d : Nat) (a : Int32) (L : List Value) (M : Mem) (Q : Option Value → Mem → Prop), Wp d 74 211 L [.int a] M Q ↔ Q (some (.int a)) M) ∧
    (∀ (d : Nat) (x : Nat) (L : List Value) (M : Mem) (Q : Option Value → Mem → Prop), Wp d 74 212 (.ref x :: L) [] M Q ↔ Wp d 74 213 (.ref x :: L) [.ref x] M Q) ∧
    (∀ (d : Nat) (a : Nat) (L : List Value) (M : Mem) (Q : Option Value → Mem → Prop), Wp d 74 213 L [.ref a] M Q ↔ (isK a 11 = true ∧ Wp d 74 216 L [.ref (rt a 3)] M Q)) ∧
    (∀ (d : Nat) (a : Nat) (L : List Value) (M : Mem) (Q : Option Value → Mem → Prop), Wp d 74 216 L [.ref a] M Q ↔ Wp d 74 217 L [.int 2, .ref a] M Q) ∧
    (∀ (d : Nat) (a : Int32) (b : Nat) (L : List Value) (M : Mem) (Q : Option Value → Mem → Prop), Wp (d + 1) 74 217 L [.int a, .ref b] M Q ↔ (isK b 9 = true ∧ Wp d 42 0 [.ref b, .int a, .null, .null] [] M (fun r M2 => Wp (d + 1) 74 220 L (r.toList ++ []) M2 Q))) := by
  refine ⟨?_, ?_, ?_, ?_, ?_, ?_, ?_, ?_, ?_, ?_, ?_, ?_, ?_, ?_, ?_, ?_, ?_, ?_, ?_, ?_, ?_, ?_, ?_, ?_, ?_, ?_, ?_, ?_, ?_, ?_, ?_, ?_, ?_, ?_, ?_, ?_, ?_, ?_, ?_, ?_, ?_, ?_, ?_, ?_, ?_, ?_, ?_, ?_, ?_, ?_, ?_, ?_, ?_, ?_, ?_, ?_, ?_, ?_, ?_, ?_⟩
  · intro d v0 x L M Q; exact Wp_sim (by decide +kernel : decode (cd 74) 0 = .ok (.iload_n 1, 1)) rfl rfl
  · intro d a L M Q
    by_cases h0 : a = 0
    · subst h0; rw [if_pos rfl]; exact q_tsw (by decide +kernel : decode (cd 74) 1 = .ok (.tableswitch 313 0 20 #[99, 110, 121, 132, 143, 154, 165, 173, 184, 193, 202, 211, 229, 237, 245, 256, 267, 275, 289, 297, 305], 99)) (by decide) (by decide +kernel)
    rw [if_neg h0]
    by_cases h1 : a = 1
    · subst h1; rw [if_pos rfl]; exact q_tsw (by decide +kernel : decode (cd 74) 1 = .ok (.tableswitch 313 0 20 #[99, 110, 121, 132, 143, 154, 165, 173, 184, 193, 202, 211, 229, 237, 245, 256, 267, 275, 289, 297, 305], 99)) (by decide) (by decide +kernel)
    rw [if_neg h1]
    by_cases h2 : a = 2
    · subst h2; rw [if_pos rfl]; exact q_tsw (by decide +kernel : decode (cd 74) 1 = .ok (.tableswitch 313 0 20 #[99, 110, 121, 132, 143, 154, 165, 173, 184, 193, 202, 211, 229, 237, 245, 256, 267, 275, 289, 297, 305], 99)) (by decide) (by decide +kernel)
    rw [if_neg h2]
    by_cases h3 : a = 3
    · subst h3; rw [if_pos rfl]; exact q_tsw (by decide +kernel : decode (cd 74) 1 = .ok (.tableswitch 313 0 20 #[99, 110, 121, 132, 143, 154, 165, 173, 184, 193, 202, 211, 229, 237, 245, 256, 267, 275, 289, 297, 305], 99)) (by decide) (by decide +kernel)
    rw [if_neg h3]
    by_cases h4 : a = 4
    · subst h4; rw [if_pos rfl]; exact q_tsw (by decide +kernel : decode (cd 74) 1 = .ok (.tableswitch 313 0 20 #[99, 110, 121, 132, 143, 154, 165, 173, 184, 193, 202, 211, 229, 237, 245, 256, 267, 275, 289, 297, 305], 99)) (by decide) (by decide +kernel)
    rw [if_neg h4]
    by_cases h5 : a = 5
    · subst h5; rw [if_pos rfl]; exact q_tsw (by decide +kernel : decode (cd 74) 1 = .ok (.tableswitch 313 0 20 #[99, 110, 121, 132, 143, 154, 165, 173, 184, 193, 202, 211, 229, 237, 245, 256, 267, 275, 289, 297, 305], 99)) (by decide) (by decide +kernel)
    rw [if_neg h5]
    by_cases h6 : a = 6
    · subst h6; rw [if_pos rfl]; exact q_tsw (by decide +kernel : decode (cd 74) 1 = .ok (.tableswitch 313 0 20 #[99, 110, 121, 132, 143, 154, 165, 173, 184, 193, 202, 211, 229, 237, 245, 256, 267, 275, 289, 297, 305], 99)) (by decide) (by decide +kernel)
    rw [if_neg h6]
    by_cases h7 : a = 7
    · subst h7; rw [if_pos rfl]; exact q_tsw (by decide +kernel : decode (cd 74) 1 = .ok (.tableswitch 313 0 20 #[99, 110, 121, 132, 143, 154, 165, 173, 184, 193, 202, 211, 229, 237, 245, 256, 267, 275, 289, 297, 305], 99)) (by decide) (by decide +kernel)
    rw [if_neg h7]
    by_cases h8 : a = 8
    · subst h8; rw [if_pos rfl]; exact q_tsw (by decide +kernel : decode (cd 74) 1 = .ok (.tableswitch 313 0 20 #[99, 110, 121, 132, 143, 154, 165, 173, 184, 193, 202, 211, 229, 237, 245, 256, 267, 275, 289, 297, 305], 99)) (by decide) (by decide +kernel)
    rw [if_neg h8]
    by_cases h9 : a = 9
    · subst h9; rw [if_pos rfl]; exact q_tsw (by decide +kernel : decode (cd 74) 1 = .ok (.tableswitch 313 0 20 #[99, 110, 121, 132, 143, 154, 165, 173, 184, 193, 202, 211, 229, 237, 245, 256, 267, 275, 289, 297, 305], 99)) (by decide) (by decide +kernel)
    rw [if_neg h9]
    by_cases h10 : a = 10
    · subst h10; rw [if_pos rfl]; exact q_tsw (by decide +kernel : decode (cd 74) 1 = .ok (.tableswitch 313 0 20 #[99, 110, 121, 132, 143, 154, 165, 173, 184, 193, 202, 211, 229, 237, 245, 256, 267, 275, 289, 297, 305], 99)) (by decide) (by decide +kernel)
    rw [if_neg h10]
    by_cases h11 : a = 11
    · subst h11; rw [if_pos rfl]; exact q_tsw (by decide +kernel : decode (cd 74) 1 = .ok (.tableswitch 313 0 20 #[99, 110, 121, 132, 143, 154, 165, 173, 184, 193, 202, 211, 229, 237, 245, 256, 267, 275, 289, 297, 305], 99)) (by decide) (by decide +kernel)
    rw [if_neg h11]
    by_cases h12 : a = 12
    · subst h12; rw [if_pos rfl]; exact q_tsw (by decide +kernel : decode (cd 74) 1 = .ok (.tableswitch 313 0 20 #[99, 110, 121, 132, 143, 154, 165, 173, 184, 193, 202, 211, 229, 237, 245, 256, 267, 275, 289, 297, 305], 99)) (by decide) (by decide +kernel)
    rw [if_neg h12]
    by_cases h13 : a = 13
    · subst h13; rw [if_pos rfl]; exact q_tsw (by decide +kernel : decode (cd 74) 1 = .ok (.tableswitch 313 0 20 #[99, 110, 121, 132, 143, 154, 165, 173, 184, 193, 202, 211, 229, 237, 245, 256, 267, 275, 289, 297, 305], 99)) (by decide) (by decide +kernel)
    rw [if_neg h13]
    by_cases h14 : a = 14
    · subst h14; rw [if_pos rfl]; exact q_tsw (by decide +kernel : decode (cd 74) 1 = .ok (.tableswitch 313 0 20 #[99, 110, 121, 132, 143, 154, 165, 173, 184, 193, 202, 211, 229, 237, 245, 256, 267, 275, 289, 297, 305], 99)) (by decide) (by decide +kernel)
    rw [if_neg h14]
    by_cases h15 : a = 15
    · subst h15; rw [if_pos rfl]; exact q_tsw (by decide +kernel : decode (cd 74) 1 = .ok (.tableswitch 313 0 20 #[99, 110, 121, 132, 143, 154, 165, 173, 184, 193, 202, 211, 229, 237, 245, 256, 267, 275, 289, 297, 305], 99)) (by decide) (by decide +kernel)
    rw [if_neg h15]
    by_cases h16 : a = 16
    · subst h16; rw [if_pos rfl]; exact q_tsw (by decide +kernel : decode (cd 74) 1 = .ok (.tableswitch 313 0 20 #[99, 110, 121, 132, 143, 154, 165, 173, 184, 193, 202, 211, 229, 237, 245, 256, 267, 275, 289, 297, 305], 99)) (by decide) (by decide +kernel)
    rw [if_neg h16]
    by_cases h17 : a = 17
    · subst h17; rw [if_pos rfl]; exact q_tsw (by decide +kernel : decode (cd 74) 1 = .ok (.tableswitch 313 0 20 #[99, 110, 121, 132, 143, 154, 165, 173, 184, 193, 202, 211, 229, 237, 245, 256, 267, 275, 289, 297, 305], 99)) (by decide) (by decide +kernel)
    rw [if_neg h17]
    by_cases h18 : a = 18
    · subst h18; rw [if_pos rfl]; exact q_tsw (by decide +kernel : decode (cd 74) 1 = .ok (.tableswitch 313 0 20 #[99, 110, 121, 132, 143, 154, 165, 173, 184, 193, 202, 211, 229, 237, 245, 256, 267, 275, 289, 297, 305], 99)) (by decide) (by decide +kernel)
    rw [if_neg h18]
    by_cases h19 : a = 19
    · subst h19; rw [if_pos rfl]; exact q_tsw (by decide +kernel : decode (cd 74) 1 = .ok (.tableswitch 313 0 20 #[99, 110, 121, 132, 143, 154, 165, 173, 184, 193, 202, 211, 229, 237, 245, 256, 267, 275, 289, 297, 305], 99)) (by decide) (by decide +kernel)
    rw [if_neg h19]
    by_cases h20 : a = 20
    · subst h20; rw [if_pos rfl]; exact q_tsw (by decide +kernel : decode (cd 74) 1 = .ok (.tableswitch 313 0 20 #[99, 110, 121, 132, 143, 154, 165, 173, 184, 193, 202, 211, 229, 237, 245, 256, 267, 275, 289, 297, 305], 99)) (by decide) (by decide +kernel)
    rw [if_neg h20]
    refine q_tsw (by decide +kernel : decode (cd 74) 1 = .ok (.tableswitch 313 0 20 #[99, 110, 121, 132, 143, 154, 165, 173, 184, 193, 202, 211, 229, 237, 245, 256, 267, 275, 289, 297, 305], 99)) (by decide) ?_
    rw [tsw_out ?_]
    · decide
    have g0 := lv_neT h0 (a := 0) (by decide)
    have g1 := lv_neT h1 (a := 1) (by decide)
    have g2 := lv_neT h2 (a := 2) (by decide)
    have g3 := lv_neT h3 (a := 3) (by decide)
    have g4 := lv_neT h4 (a := 4) (by decide)
    have g5 := lv_neT h5 (a := 5) (by decide)
    have g6 := lv_neT h6 (a := 6) (by decide)
    have g7 := lv_neT h7 (a := 7) (by decide)
    have g8 := lv_neT h8 (a := 8) (by decide)
    have g9 := lv_neT h9 (a := 9) (by decide)
    have g10 := lv_neT h10 (a := 10) (by decide)
    have g11 := lv_neT h11 (a := 11) (by decide)
    have g12 := lv_neT h12 (a := 12) (by decide)
    have g13 := lv_neT h13 (a := 13) (by decide)
    have g14 := lv_neT h14 (a := 14) (by decide)
    have g15 := lv_neT h15 (a := 15) (by decide)
    have g16 := lv_neT h16 (a := 16) (by decide)
    have g17 := lv_neT h17 (a := 17) (by decide)
    have g18 := lv_neT h18 (a := 18) (by decide)
    have g19 := lv_neT h19 (a := 19) (by decide)
    have g20 := lv_neT h20 (a := 20) (by decide)
    omega
  · intro d x L M Q; exact Wp_sim (by decide +kernel : decode (cd 74) 100 = .ok (.aload_n 0, 1)) rfl rfl
  · intro d a L M Q; exact q_getR (p := 301) (by decide +kernel : decode (cd 74) 101 = .ok (.getfield 33, 3)) (by decide +kernel) (by decide +kernel)
  · intro d a L M Q; exact q_getR (p := 197) (by decide +kernel : decode (cd 74) 104 = .ok (.getfield 111, 3)) (by decide +kernel) (by decide +kernel)
  · intro d a L M Q; exact q_getI (p := 90) (by decide +kernel : decode (cd 74) 107 = .ok (.getfield 117, 3)) (by decide +kernel) (by decide +kernel)
  · intro d a L M Q; exact q_iret (by decide +kernel : decode (cd 74) 110 = .ok (.ireturn , 1)) (by decide +kernel)
  · intro d x L M Q; exact Wp_sim (by decide +kernel : decode (cd 74) 111 = .ok (.aload_n 0, 1)) rfl rfl
  · intro d a L M Q; exact q_getR (p := 301) (by decide +kernel : decode (cd 74) 112 = .ok (.getfield 33, 3)) (by decide +kernel) (by decide +kernel)
  · intro d a L M Q; exact q_getR (p := 197) (by decide +kernel : decode (cd 74) 115 = .ok (.getfield 111, 3)) (by decide +kernel) (by decide +kernel)
  · intro d a L M Q; exact q_getI (p := 94) (by decide +kernel : decode (cd 74) 118 = .ok (.getfield 120, 3)) (by decide +kernel) (by decide +kernel)
  · intro d a L M Q; exact q_iret (by decide +kernel : decode (cd 74) 121 = .ok (.ireturn , 1)) (by decide +kernel)
  · intro d x L M Q; exact Wp_sim (by decide +kernel : decode (cd 74) 122 = .ok (.aload_n 0, 1)) rfl rfl
  · intro d a L M Q; exact q_getR (p := 301) (by decide +kernel : decode (cd 74) 123 = .ok (.getfield 33, 3)) (by decide +kernel) (by decide +kernel)
  · intro d a L M Q; exact q_getR (p := 197) (by decide +kernel : decode (cd 74) 126 = .ok (.getfield 111, 3)) (by decide +kernel) (by decide +kernel)
  · intro d a L M Q; exact q_getI (p := 96) (by decide +kernel : decode (cd 74) 129 = .ok (.getfield 123, 3)) (by decide +kernel) (by decide +kernel)
  · intro d a L M Q; exact q_iret (by decide +kernel : decode (cd 74) 132 = .ok (.ireturn , 1)) (by decide +kernel)
  · intro d x L M Q; exact Wp_sim (by decide +kernel : decode (cd 74) 133 = .ok (.aload_n 0, 1)) rfl rfl
  · intro d a L M Q; exact q_getR (p := 301) (by decide +kernel : decode (cd 74) 134 = .ok (.getfield 33, 3)) (by decide +kernel) (by decide +kernel)
  · intro d a L M Q; exact q_getR (p := 197) (by decide +kernel : decode (cd 74) 137 = .ok (.getfield 111, 3)) (by decide +kernel) (by decide +kernel)
  · intro d a L M Q; exact q_getI (p := 99) (by decide +kernel : decode (cd 74) 140 = .ok (.getfield 126, 3)) (by decide +kernel) (by decide +kernel)
  · intro d a L M Q; exact q_iret (by decide +kernel : decode (cd 74) 143 = .ok (.ireturn , 1)) (by decide +kernel)
  · intro d x L M Q; exact Wp_sim (by decide +kernel : decode (cd 74) 144 = .ok (.aload_n 0, 1)) rfl rfl
  · intro d a L M Q; exact q_getR (p := 301) (by decide +kernel : decode (cd 74) 145 = .ok (.getfield 33, 3)) (by decide +kernel) (by decide +kernel)
  · intro d a L M Q; exact q_getR (p := 197) (by decide +kernel : decode (cd 74) 148 = .ok (.getfield 111, 3)) (by decide +kernel) (by decide +kernel)
  · intro d a L M Q; exact q_getI (p := 104) (by decide +kernel : decode (cd 74) 151 = .ok (.getfield 114, 3)) (by decide +kernel) (by decide +kernel)
  · intro d a L M Q; exact q_iret (by decide +kernel : decode (cd 74) 154 = .ok (.ireturn , 1)) (by decide +kernel)
  · intro d x L M Q; exact Wp_sim (by decide +kernel : decode (cd 74) 155 = .ok (.aload_n 0, 1)) rfl rfl
  · intro d a L M Q; exact q_getR (p := 301) (by decide +kernel : decode (cd 74) 156 = .ok (.getfield 33, 3)) (by decide +kernel) (by decide +kernel)
  · intro d a L M Q; exact q_getR (p := 197) (by decide +kernel : decode (cd 74) 159 = .ok (.getfield 111, 3)) (by decide +kernel) (by decide +kernel)
  · intro d a L M Q; exact q_getI (p := 107) (by decide +kernel : decode (cd 74) 162 = .ok (.getfield 129, 3)) (by decide +kernel) (by decide +kernel)
  · intro d a L M Q; exact q_iret (by decide +kernel : decode (cd 74) 165 = .ok (.ireturn , 1)) (by decide +kernel)
  · intro d x L M Q; exact Wp_sim (by decide +kernel : decode (cd 74) 166 = .ok (.aload_n 0, 1)) rfl rfl
  · intro d a L M Q; exact q_getR (p := 298) (by decide +kernel : decode (cd 74) 167 = .ok (.getfield 10, 3)) (by decide +kernel) (by decide +kernel)
  · intro d a L M Q; exact q_getI (p := 34) (by decide +kernel : decode (cd 74) 170 = .ok (.getfield 83, 3)) (by decide +kernel) (by decide +kernel)
  · intro d a L M Q; exact q_iret (by decide +kernel : decode (cd 74) 173 = .ok (.ireturn , 1)) (by decide +kernel)
  · intro d x L M Q; exact Wp_sim (by decide +kernel : decode (cd 74) 174 = .ok (.aload_n 0, 1)) rfl rfl
  · intro d a L M Q; exact q_getR (p := 301) (by decide +kernel : decode (cd 74) 175 = .ok (.getfield 33, 3)) (by decide +kernel) (by decide +kernel)
  · intro d a L M Q; exact q_getR (p := 199) (by decide +kernel : decode (cd 74) 178 = .ok (.getfield 132, 3)) (by decide +kernel) (by decide +kernel)
  · intro d a L M Q; exact q_getI (p := 175) (by decide +kernel : decode (cd 74) 181 = .ok (.getfield 136, 3)) (by decide +kernel) (by decide +kernel)
  · intro d a L M Q; exact q_iret (by decide +kernel : decode (cd 74) 184 = .ok (.ireturn , 1)) (by decide +kernel)
  · intro d x L M Q; exact Wp_sim (by decide +kernel : decode (cd 74) 185 = .ok (.aload_n 0, 1)) rfl rfl
  · intro d a L M Q; exact q_getR (p := 301) (by decide +kernel : decode (cd 74) 186 = .ok (.getfield 33, 3)) (by decide +kernel) (by decide +kernel)
  · intro d a L M Q; exact Wp_sim (by decide +kernel : decode (cd 74) 189 = .ok (.iconst 1, 1)) rfl rfl
  · intro d a b L M Q; exact q_invV (pz := 443) (n := 1) (c := 9) (m := 4) (k := b) (As := [.int a]) (rest := []) (by decide +kernel : decode (cd 74) 190 = .ok (.invokevirtual 141, 3)) (by decide +kernel) (by decide +kernel) rfl rfl (Nat.le_of_ble_eq_true rfl) (Nat.le_of_ble_eq_true rfl) rfl
  · intro d a L M Q; exact q_iret (by decide +kernel : decode (cd 74) 193 = .ok (.ireturn , 1)) (by decide +kernel)
  · intro d x L M Q; exact Wp_sim (by decide +kernel : decode (cd 74) 194 = .ok (.aload_n 0, 1)) rfl rfl
  · intro d a L M Q; exact q_getR (p := 301) (by decide +kernel : decode (cd 74) 195 = .ok (.getfield 33, 3)) (by decide +kernel) (by decide +kernel)
  · intro d a L M Q; exact Wp_sim (by decide +kernel : decode (cd 74) 198 = .ok (.iconst 0, 1)) rfl rfl
  · intro d a b L M Q; exact q_invV (pz := 443) (n := 1) (c := 9) (m := 4) (k := b) (As := [.int a]) (rest := []) (by decide +kernel : decode (cd 74) 199 = .ok (.invokevirtual 141, 3)) (by decide +kernel) (by decide +kernel) rfl rfl (Nat.le_of_ble_eq_true rfl) (Nat.le_of_ble_eq_true rfl) rfl
  · intro d a L M Q; exact q_iret (by decide +kernel : decode (cd 74) 202 = .ok (.ireturn , 1)) (by decide +kernel)
  · intro d x L M Q; exact Wp_sim (by decide +kernel : decode (cd 74) 203 = .ok (.aload_n 0, 1)) rfl rfl
  · intro d a L M Q; exact q_getR (p := 301) (by decide +kernel : decode (cd 74) 204 = .ok (.getfield 33, 3)) (by decide +kernel) (by decide +kernel)
  · intro d a L M Q; exact Wp_sim (by decide +kernel : decode (cd 74) 207 = .ok (.iconst 3, 1)) rfl rfl
  · intro d a b L M Q; exact q_invV (pz := 443) (n := 1) (c := 9) (m := 4) (k := b) (As := [.int a]) (rest := []) (by decide +kernel : decode (cd 74) 208 = .ok (.invokevirtual 141, 3)) (by decide +kernel) (by decide +kernel) rfl rfl (Nat.le_of_ble_eq_true rfl) (Nat.le_of_ble_eq_true rfl) rfl
  · intro d a L M Q; exact q_iret (by decide +kernel : decode (cd 74) 211 = .ok (.ireturn , 1)) (by decide +kernel)
  · intro d x L M Q; exact Wp_sim (by decide +kernel : decode (cd 74) 212 = .ok (.aload_n 0, 1)) rfl rfl
  · intro d a L M Q; exact q_getR (p := 301) (by decide +kernel : decode (cd 74) 213 = .ok (.getfield 33, 3)) (by decide +kernel) (by decide +kernel)
  · intro d a L M Q; exact Wp_sim (by decide +kernel : decode (cd 74) 216 = .ok (.iconst 2, 1)) rfl rfl
  · intro d a b L M Q; exact q_invV (pz := 443) (n := 1) (c := 9) (m := 4) (k := b) (As := [.int a]) (rest := []) (by decide +kernel : decode (cd 74) 217 = .ok (.invokevirtual 141, 3)) (by decide +kernel) (by decide +kernel) rfl rfl (Nat.le_of_ble_eq_true rfl) (Nat.le_of_ble_eq_true rfl) rfl
set_option maxRecDepth 10000 in
theorem e74_1 : (∀ (d : Nat) (a : Int32) (x : Nat) (L : List Value) (M : Mem) (Q : Option Value → Mem → Prop), Wp d 74 220 (.ref x :: L) [.int a] M Q ↔ Wp d 74 221 (.ref x :: L) [.ref x, .int a] M Q) ∧
    (∀ (d : Nat) (a : Nat) (b : Int32) (L : List Value) (M : Mem) (Q : Option Value → Mem → Prop), Wp d 74 221 L [.ref a, .int b] M Q ↔ (isK a 11 = true ∧ Wp d 74 224 L [.ref (rt a 3), .int b] M Q)) ∧
    (∀ (d : Nat) (a : Nat) (b : Int32) (L : List Value) (M : Mem) (Q : Option Value → Mem → Prop), Wp d 74 224 L [.ref a, .int b] M Q ↔ Wp d 74 225 L [.int 4, .ref a, .int b] M Q) ∧
    (∀ (d : Nat) (a : Int32) (b : Nat) (c : Int32) (L : List Value) (M : Mem) (Q : Option Value → Mem → Prop), Wp (d + 1) 74 225 L [.int a, .ref b, .int c] M Q ↔ (isK b 9 = true ∧ Wp d 42 0 [.ref b, .int a, .null, .null] [] M (fun r M2 => Wp (d + 1) 74 228 L (r.toList ++ [.int c]) M2 Q))) ∧
    (∀ (d : Nat) (a : Int32) (b : Int32) (L : List Value) (M : Mem) (Q : Option Value → Mem → Prop), Wp d 74 228 L [.int a, .int b] M Q ↔ Wp d 74 229 L [.int (b ||| a)] M Q) ∧
    (∀ (d : Nat) (a : Int32) (L : List Value) (M : Mem) (Q : Option Value → Mem → Prop), Wp d 74 229 L [.int a] M Q ↔ Q (some (.int a)) M) ∧
    (∀ (d : Nat) (x : Nat) (L : List Value) (M : Mem) (Q : Option Value → Mem → Prop), Wp d 74 230 (.ref x :: L) [] M Q ↔ Wp d 74 231 (.ref x :: L) [.ref x] M Q) ∧
    (∀ (d : Nat) (a : Nat) (L : List Value) (M : Mem) (Q : Option Value → Mem → Prop), Wp d 74 231 L [.ref a] M Q ↔ (isK a 11 = true ∧ Wp d 74 234 L [.ref (rt a 3)] M Q)) ∧
    (∀ (d : Nat) (a : Nat) (L : List Value) (M : Mem) (Q : Option Value → Mem → Prop), Wp (d + 1) 74 234 L [.ref a] M Q ↔ (isK a 9 = true ∧ Wp d 43 0 [.ref a, .null, .null, .null, .null] [] M (fun r M2 => Wp (d + 1) 74 237 L (r.toList ++ []) M2 Q))) ∧
    (∀ (d : Nat) (a : Int32) (L : List Value) (M : Mem) (Q : Option Value → Mem → Prop), Wp d 74 237 L [.int a] M Q ↔ Q (some (.int a)) M) ∧
    (∀ (d : Nat) (x : Nat) (L : List Value) (M : Mem) (Q : Option Value → Mem → Prop), Wp d 74 238 (.ref x :: L) [] M Q ↔ Wp d 74 239 (.ref x :: L) [.ref x] M Q) ∧
    (∀ (d : Nat) (a : Nat) (L : List Value) (M : Mem) (Q : Option Value → Mem → Prop), Wp d 74 239 L [.ref a] M Q ↔ (isK a 11 = true ∧ Wp d 74 242 L [.ref (rt a 3)] M Q)) ∧
    (∀ (d : Nat) (a : Nat) (L : List Value) (M : Mem) (Q : Option Value → Mem → Prop), Wp (d + 1) 74 242 L [.ref a] M Q ↔ (isK a 9 = true ∧ Wp d 45 0 [.ref a, .null, .null] [] M (fun r M2 => Wp (d + 1) 74 245 L (r.toList ++ []) M2 Q))) ∧
    (∀ (d : Nat) (a : Int32) (L : List Value) (M : Mem) (Q : Option Value → Mem → Prop), Wp d 74 245 L [.int a] M Q ↔ Q (some (.int a)) M) ∧
    (∀ (d : Nat) (x : Nat) (L : List Value) (M : Mem) (Q : Option Value → Mem → Prop), Wp d 74 246 (.ref x :: L) [] M Q ↔ Wp d 74 247 (.ref x :: L) [.ref x] M Q) ∧
    (∀ (d : Nat) (a : Nat) (L : List Value) (M : Mem) (Q : Option Value → Mem → Prop), Wp d 74 247 L [.ref a] M Q ↔ (isK a 11 = true ∧ Wp d 74 250 L [.ref (rt a 3)] M Q)) ∧
    (∀ (d : Nat) (a : Nat) (L : List Value) (M : Mem) (Q : Option Value → Mem → Prop), Wp d 74 250 L [.ref a] M Q ↔ (isK a 9 = true ∧ Wp d 74 253 L [.ref (rt a 1)] M Q)) ∧
    (∀ (d : Nat) (a : Nat) (L : List Value) (M : Mem) (Q : Option Value → Mem → Prop), Wp d 74 253 L [.ref a] M Q ↔ (isK a 6 = true ∧ Wp d 74 256 L [.int (M a 4)] M Q)) ∧
    (∀ (d : Nat) (a : Int32) (L : List Value) (M : Mem) (Q : Option Value → Mem → Prop), Wp d 74 256 L [.int a] M Q ↔ Q (some (.int a)) M) ∧
    (∀ (d : Nat) (x : Nat) (L : List Value) (M : Mem) (Q : Option Value → Mem → Prop), Wp d 74 257 (.ref x :: L) [] M Q ↔ Wp d 74 258 (.ref x :: L) [.ref x] M Q) ∧
    (∀ (d : Nat) (a : Nat) (L : List Value) (M : Mem) (Q : Option Value → Mem → Prop), Wp d 74 258 L [.ref a] M Q ↔ (isK a 11 = true ∧ Wp d 74 261 L [.ref (rt a 3)] M Q)) ∧
    (∀ (d : Nat) (a : Nat) (L : List Value) (M : Mem) (Q : Option Value → Mem → Prop), Wp d 74 261 L [.ref a] M Q ↔ (isK a 9 = true ∧ Wp d 74 264 L [.ref (rt a 1)] M Q)) ∧
    (∀ (d : Nat) (a : Nat) (L : List Value) (M : Mem) (Q : Option Value → Mem → Prop), Wp d 74 264 L [.ref a] M Q ↔ (isK a 6 = true ∧ Wp d 74 267 L [.int (M a 5)] M Q)) ∧
    (∀ (d : Nat) (a : Int32) (L : List Value) (M : Mem) (Q : Option Value → Mem → Prop), Wp d 74 267 L [.int a] M Q ↔ Q (some (.int a)) M) ∧
    (∀ (d : Nat) (x : Nat) (L : List Value) (M : Mem) (Q : Option Value → Mem → Prop), Wp d 74 268 (.ref x :: L) [] M Q ↔ Wp d 74 269 (.ref x :: L) [.ref x] M Q) ∧
    (∀ (d : Nat) (a : Nat) (L : List Value) (M : Mem) (Q : Option Value → Mem → Prop), Wp d 74 269 L [.ref a] M Q ↔ (isK a 11 = true ∧ Wp d 74 272 L [.ref (rt a 3)] M Q)) ∧
    (∀ (d : Nat) (a : Nat) (L : List Value) (M : Mem) (Q : Option Value → Mem → Prop), Wp (d + 1) 74 272 L [.ref a] M Q ↔ (isK a 9 = true ∧ Wp d 49 0 [.ref a, .null, .null, .null] [] M (fun r M2 => Wp (d + 1) 74 275 L (r.toList ++ []) M2 Q))) ∧
    (∀ (d : Nat) (a : Int32) (L : List Value) (M : Mem) (Q : Option Value → Mem → Prop), Wp d 74 275 L [.int a] M Q ↔ Q (some (.int a)) M) ∧
    (∀ (d : Nat) (x : Nat) (L : List Value) (M : Mem) (Q : Option Value → Mem → Prop), Wp d 74 276 (.ref x :: L) [] M Q ↔ Wp d 74 277 (.ref x :: L) [.ref x] M Q) ∧
    (∀ (d : Nat) (a : Nat) (L : List Value) (M : Mem) (Q : Option Value → Mem → Prop), Wp d 74 277 L [.ref a] M Q ↔ (isK a 11 = true ∧ Wp d 74 280 L [.ref (rt a 3)] M Q)) ∧
    (∀ (d : Nat) (a : Nat) (L : List Value) (M : Mem) (Q : Option Value → Mem → Prop), Wp d 74 280 L [.ref a] M Q ↔ (isK a 9 = true ∧ Wp d 74 283 L [.ref (rt a 1)] M Q)) ∧
    (∀ (d : Nat) (a : Nat) (L : List Value) (M : Mem) (Q : Option Value → Mem → Prop), Wp d 74 283 L [.ref a] M Q ↔ (isK a 6 = true ∧ Wp d 74 286 L [.ref (rt a 2)] M Q)) ∧
    (∀ (d : Nat) (a : Nat) (L : List Value) (M : Mem) (Q : Option Value → Mem → Prop), Wp (d + 1) 74 286 L [.ref a] M Q ↔ (isK a 2 = true ∧ Wp d 8 0 [.ref a, .null, .null, .null] [] M (fun r M2 => Wp (d + 1) 74 289 L (r.toList ++ []) M2 Q))) ∧
    (∀ (d : Nat) (a : Int32) (L : List Value) (M : Mem) (Q : Option Value → Mem → Prop), Wp d 74 289 L [.int a] M Q ↔ Q (some (.int a)) M) ∧
    (∀ (d : Nat) (x : Nat) (L : List Value) (M : Mem) (Q : Option Value → Mem → Prop), Wp d 74 290 (.ref x :: L) [] M Q ↔ Wp d 74 291 (.ref x :: L) [.ref x] M Q) ∧
    (∀ (d : Nat) (a : Nat) (L : List Value) (M : Mem) (Q : Option Value → Mem → Prop), Wp d 74 291 L [.ref a] M Q ↔ (isK a 11 = true ∧ Wp d 74 294 L [.ref (rt a 8)] M Q)) ∧
    (∀ (d : Nat) (a : Nat) (L : List Value) (M : Mem) (Q : Option Value → Mem → Prop), Wp d 74 294 L [.ref a] M Q ↔ (isK a 3 = true ∧ Wp d 74 297 L [.int (M a 0)] M Q)) ∧
    (∀ (d : Nat) (a : Int32) (L : List Value) (M : Mem) (Q : Option Value → Mem → Prop), Wp d 74 297 L [.int a] M Q ↔ Q (some (.int a)) M) ∧
    (∀ (d : Nat) (x : Nat) (L : List Value) (M : Mem) (Q : Option Value → Mem → Prop), Wp d 74 298 (.ref x :: L) [] M Q ↔ Wp d 74 299 (.ref x :: L) [.ref x] M Q) ∧
    (∀ (d : Nat) (a : Nat) (L : List Value) (M : Mem) (Q : Option Value → Mem → Prop), Wp d 74 299 L [.ref a] M Q ↔ (isK a 11 = true ∧ Wp d 74 302 L [.ref (rt a 9)] M Q)) ∧
    (∀ (d : Nat) (a : Nat) (L : List Value) (M : Mem) (Q : Option Value → Mem → Prop), Wp d 74 302 L [.ref a] M Q ↔ (isK a 0 = true ∧ Wp d 74 305 L [.int (M a 2)] M Q)) ∧
    (∀ (d : Nat) (a : Int32) (L : List Value) (M : Mem) (Q : Option Value → Mem → Prop), Wp d 74 305 L [.int a] M Q ↔ Q (some (.int a)) M) ∧
    (∀ (d : Nat) (x : Nat) (L : List Value) (M : Mem) (Q : Option Value → Mem → Prop), Wp d 74 306 (.ref x :: L) [] M Q ↔ Wp d 74 307 (.ref x :: L) [.ref x] M Q) ∧
    (∀ (d : Nat) (a : Nat) (L : List Value) (M : Mem) (Q : Option Value → Mem → Prop), Wp d 74 307 L [.ref a] M Q ↔ (isK a 11 = true ∧ Wp d 74 310 L [.ref (rt a 5)] M Q)) ∧
    (∀ (d : Nat) (a : Nat) (L : List Value) (M : Mem) (Q : Option Value → Mem → Prop), Wp d 74 310 L [.ref a] M Q ↔ (isK a 7 = true ∧ Wp d 74 313 L [.int (M a 2)] M Q)) ∧
    (∀ (d : Nat) (a : Int32) (L : List Value) (M : Mem) (Q : Option Value → Mem → Prop), Wp d 74 313 L [.int a] M Q ↔ Q (some (.int a)) M) ∧
    (∀ (d : Nat) (L : List Value) (M : Mem) (Q : Option Value → Mem → Prop), Wp d 74 314 L [] M Q ↔ Wp d 74 316 L [.int (-1000000002)] M Q) ∧
    (∀ (d : Nat) (a : Int32) (L : List Value) (M : Mem) (Q : Option Value → Mem → Prop), Wp d 74 316 L [.int a] M Q ↔ Q (some (.int a)) M) := by
  refine ⟨?_, ?_, ?_, ?_, ?_, ?_, ?_, ?_, ?_, ?_, ?_, ?_, ?_, ?_, ?_, ?_, ?_, ?_, ?_, ?_, ?_, ?_, ?_, ?_, ?_, ?_, ?_, ?_, ?_, ?_, ?_, ?_, ?_, ?_, ?_, ?_, ?_, ?_, ?_, ?_, ?_, ?_, ?_, ?_, ?_, ?_, ?_, ?_⟩
  · intro d a x L M Q; exact Wp_sim (by decide +kernel : decode (cd 74) 220 = .ok (.aload_n 0, 1)) rfl rfl
  · intro d a b L M Q; exact q_getR (p := 301) (by decide +kernel : decode (cd 74) 221 = .ok (.getfield 33, 3)) (by decide +kernel) (by decide +kernel)
  · intro d a b L M Q; exact Wp_sim (by decide +kernel : decode (cd 74) 224 = .ok (.iconst 4, 1)) rfl rfl
  · intro d a b c L M Q; exact q_invV (pz := 443) (n := 1) (c := 9) (m := 4) (k := b) (As := [.int a]) (rest := [.int c]) (by decide +kernel : decode (cd 74) 225 = .ok (.invokevirtual 141, 3)) (by decide +kernel) (by decide +kernel) rfl rfl (Nat.le_of_ble_eq_true rfl) (Nat.le_of_ble_eq_true rfl) rfl
  · intro d a b L M Q; exact Wp_sim (by decide +kernel : decode (cd 74) 228 = .ok (.ior , 1)) rfl rfl
  · intro d a L M Q; exact q_iret (by decide +kernel : decode (cd 74) 229 = .ok (.ireturn , 1)) (by decide +kernel)
  · intro d x L M Q; exact Wp_sim (by decide +kernel : decode (cd 74) 230 = .ok (.aload_n 0, 1)) rfl rfl
  · intro d a L M Q; exact q_getR (p := 301) (by decide +kernel : decode (cd 74) 231 = .ok (.getfield 33, 3)) (by decide +kernel) (by decide +kernel)
  · intro d a L M Q; exact q_invV (pz := 447) (n := 0) (c := 9) (m := 5) (k := a) (As := []) (rest := []) (by decide +kernel : decode (cd 74) 234 = .ok (.invokevirtual 145, 3)) (by decide +kernel) (by decide +kernel) rfl rfl (Nat.le_of_ble_eq_true rfl) (Nat.le_of_ble_eq_true rfl) rfl
  · intro d a L M Q; exact q_iret (by decide +kernel : decode (cd 74) 237 = .ok (.ireturn , 1)) (by decide +kernel)
  · intro d x L M Q; exact Wp_sim (by decide +kernel : decode (cd 74) 238 = .ok (.aload_n 0, 1)) rfl rfl
  · intro d a L M Q; exact q_getR (p := 301) (by decide +kernel : decode (cd 74) 239 = .ok (.getfield 33, 3)) (by decide +kernel) (by decide +kernel)
  · intro d a L M Q; exact q_invV (pz := 456) (n := 0) (c := 9) (m := 3) (k := a) (As := []) (rest := []) (by decide +kernel : decode (cd 74) 242 = .ok (.invokevirtual 149, 3)) (by decide +kernel) (by decide +kernel) rfl rfl (Nat.le_of_ble_eq_true rfl) (Nat.le_of_ble_eq_true rfl) rfl
  · intro d a L M Q; exact q_iret (by decide +kernel : decode (cd 74) 245 = .ok (.ireturn , 1)) (by decide +kernel)
  · intro d x L M Q; exact Wp_sim (by decide +kernel : decode (cd 74) 246 = .ok (.aload_n 0, 1)) rfl rfl
  · intro d a L M Q; exact q_getR (p := 301) (by decide +kernel : decode (cd 74) 247 = .ok (.getfield 33, 3)) (by decide +kernel) (by decide +kernel)
  · intro d a L M Q; exact q_getR (p := 199) (by decide +kernel : decode (cd 74) 250 = .ok (.getfield 132, 3)) (by decide +kernel) (by decide +kernel)
  · intro d a L M Q; exact q_getI (p := 178) (by decide +kernel : decode (cd 74) 253 = .ok (.getfield 152, 3)) (by decide +kernel) (by decide +kernel)
  · intro d a L M Q; exact q_iret (by decide +kernel : decode (cd 74) 256 = .ok (.ireturn , 1)) (by decide +kernel)
  · intro d x L M Q; exact Wp_sim (by decide +kernel : decode (cd 74) 257 = .ok (.aload_n 0, 1)) rfl rfl
  · intro d a L M Q; exact q_getR (p := 301) (by decide +kernel : decode (cd 74) 258 = .ok (.getfield 33, 3)) (by decide +kernel) (by decide +kernel)
  · intro d a L M Q; exact q_getR (p := 199) (by decide +kernel : decode (cd 74) 261 = .ok (.getfield 132, 3)) (by decide +kernel) (by decide +kernel)
  · intro d a L M Q; exact q_getI (p := 181) (by decide +kernel : decode (cd 74) 264 = .ok (.getfield 155, 3)) (by decide +kernel) (by decide +kernel)
  · intro d a L M Q; exact q_iret (by decide +kernel : decode (cd 74) 267 = .ok (.ireturn , 1)) (by decide +kernel)
  · intro d x L M Q; exact Wp_sim (by decide +kernel : decode (cd 74) 268 = .ok (.aload_n 0, 1)) rfl rfl
  · intro d a L M Q; exact q_getR (p := 301) (by decide +kernel : decode (cd 74) 269 = .ok (.getfield 33, 3)) (by decide +kernel) (by decide +kernel)
  · intro d a L M Q; exact q_invV (pz := 477) (n := 0) (c := 9) (m := 4) (k := a) (As := []) (rest := []) (by decide +kernel : decode (cd 74) 272 = .ok (.invokevirtual 156, 3)) (by decide +kernel) (by decide +kernel) rfl rfl (Nat.le_of_ble_eq_true rfl) (Nat.le_of_ble_eq_true rfl) rfl
  · intro d a L M Q; exact q_iret (by decide +kernel : decode (cd 74) 275 = .ok (.ireturn , 1)) (by decide +kernel)
  · intro d x L M Q; exact Wp_sim (by decide +kernel : decode (cd 74) 276 = .ok (.aload_n 0, 1)) rfl rfl
  · intro d a L M Q; exact q_getR (p := 301) (by decide +kernel : decode (cd 74) 277 = .ok (.getfield 33, 3)) (by decide +kernel) (by decide +kernel)
  · intro d a L M Q; exact q_getR (p := 199) (by decide +kernel : decode (cd 74) 280 = .ok (.getfield 132, 3)) (by decide +kernel) (by decide +kernel)
  · intro d a L M Q; exact q_getR (p := 172) (by decide +kernel : decode (cd 74) 283 = .ok (.getfield 159, 3)) (by decide +kernel) (by decide +kernel)
  · intro d a L M Q; exact q_invV (pz := 481) (n := 0) (c := 2) (m := 4) (k := a) (As := []) (rest := []) (by decide +kernel : decode (cd 74) 286 = .ok (.invokevirtual 163, 3)) (by decide +kernel) (by decide +kernel) rfl rfl (Nat.le_of_ble_eq_true rfl) (Nat.le_of_ble_eq_true rfl) rfl
  · intro d a L M Q; exact q_iret (by decide +kernel : decode (cd 74) 289 = .ok (.ireturn , 1)) (by decide +kernel)
  · intro d x L M Q; exact Wp_sim (by decide +kernel : decode (cd 74) 290 = .ok (.aload_n 0, 1)) rfl rfl
  · intro d a L M Q; exact q_getR (p := 306) (by decide +kernel : decode (cd 74) 291 = .ok (.getfield 64, 3)) (by decide +kernel) (by decide +kernel)
  · intro d a L M Q; exact q_getI (p := 269) (by decide +kernel : decode (cd 74) 294 = .ok (.getfield 168, 3)) (by decide +kernel) (by decide +kernel)
  · intro d a L M Q; exact q_iret (by decide +kernel : decode (cd 74) 297 = .ok (.ireturn , 1)) (by decide +kernel)
  · intro d x L M Q; exact Wp_sim (by decide +kernel : decode (cd 74) 298 = .ok (.aload_n 0, 1)) rfl rfl
  · intro d a L M Q; exact q_getR (p := 307) (by decide +kernel : decode (cd 74) 299 = .ok (.getfield 71, 3)) (by decide +kernel) (by decide +kernel)
  · intro d a L M Q; exact q_getI (p := 290) (by decide +kernel : decode (cd 74) 302 = .ok (.getfield 110, 3)) (by decide +kernel) (by decide +kernel)
  · intro d a L M Q; exact q_iret (by decide +kernel : decode (cd 74) 305 = .ok (.ireturn , 1)) (by decide +kernel)
  · intro d x L M Q; exact Wp_sim (by decide +kernel : decode (cd 74) 306 = .ok (.aload_n 0, 1)) rfl rfl
  · intro d a L M Q; exact q_getR (p := 303) (by decide +kernel : decode (cd 74) 307 = .ok (.getfield 47, 3)) (by decide +kernel) (by decide +kernel)
  · intro d a L M Q; exact q_getI (p := 236) (by decide +kernel : decode (cd 74) 310 = .ok (.getfield 169, 3)) (by decide +kernel) (by decide +kernel)
  · intro d a L M Q; exact q_iret (by decide +kernel : decode (cd 74) 313 = .ok (.ireturn , 1)) (by decide +kernel)
  · intro d L M Q; exact q_ldc (p := 339) (by decide +kernel : decode (cd 74) 314 = .ok (.ldc 82, 2)) (by decide +kernel)
  · intro d a L M Q; exact q_iret (by decide +kernel : decode (cd 74) 316 = .ok (.ireturn , 1)) (by decide +kernel)

/- 75: PalaceYard.accepts -/
set_option maxRecDepth 10000 in
theorem e75 : (∀ (d : Nat) (v0 : Value) (x : Int32) (L : List Value) (M : Mem) (Q : Option Value → Mem → Prop), Wp d 75 0 (v0 :: .int x :: L) [] M Q ↔ Wp d 75 1 (v0 :: .int x :: L) [.int x] M Q) ∧
    (∀ (d : Nat) (a : Int32) (L : List Value) (M : Mem) (Q : Option Value → Mem → Prop), Wp d 75 1 L [.int a] M Q ↔ (if a < 0 then Wp d 75 18 L [] M Q else Wp d 75 4 L [] M Q)) ∧
    (∀ (d : Nat) (v0 : Value) (x : Int32) (L : List Value) (M : Mem) (Q : Option Value → Mem → Prop), Wp d 75 4 (v0 :: .int x :: L) [] M Q ↔ Wp d 75 5 (v0 :: .int x :: L) [.int x] M Q) ∧
    (∀ (d : Nat) (a : Int32) (x : Nat) (L : List Value) (M : Mem) (Q : Option Value → Mem → Prop), Wp d 75 5 (.ref x :: L) [.int a] M Q ↔ Wp d 75 6 (.ref x :: L) [.ref x, .int a] M Q) ∧
    (∀ (d : Nat) (a : Nat) (b : Int32) (L : List Value) (M : Mem) (Q : Option Value → Mem → Prop), Wp d 75 6 L [.ref a, .int b] M Q ↔ (isK a 11 = true ∧ Wp d 75 9 L [.ref (rt a 3), .int b] M Q)) ∧
    (∀ (d : Nat) (a : Nat) (b : Int32) (L : List Value) (M : Mem) (Q : Option Value → Mem → Prop), Wp d 75 9 L [.ref a, .int b] M Q ↔ (isK a 9 = true ∧ Wp d 75 12 L [.ref (rt a 0), .int b] M Q)) ∧
    (∀ (d : Nat) (a : Nat) (b : Int32) (L : List Value) (M : Mem) (Q : Option Value → Mem → Prop), Wp d 75 12 L [.ref a, .int b] M Q ↔ (isK a 1 = true ∧ Wp d 75 15 L [.int (M a 12), .int b] M Q)) ∧
    (∀ (d : Nat) (a : Int32) (b : Int32) (L : List Value) (M : Mem) (Q : Option Value → Mem → Prop), Wp d 75 15 L [.int a, .int b] M Q ↔ (if b < a then Wp d 75 21 L [] M Q else Wp d 75 18 L [] M Q)) ∧
    (∀ (d : Nat) (L : List Value) (M : Mem) (Q : Option Value → Mem → Prop), Wp d 75 18 L [] M Q ↔ Wp d 75 20 L [.int (-1000000001)] M Q) ∧
    (∀ (d : Nat) (a : Int32) (L : List Value) (M : Mem) (Q : Option Value → Mem → Prop), Wp d 75 20 L [.int a] M Q ↔ Q (some (.int a)) M) ∧
    (∀ (d : Nat) (v0 : Value) (v1 : Value) (x : Int32) (L : List Value) (M : Mem) (Q : Option Value → Mem → Prop), Wp d 75 21 (v0 :: v1 :: .int x :: L) [] M Q ↔ Wp d 75 22 (v0 :: v1 :: .int x :: L) [.int x] M Q) ∧
    (∀ (d : Nat) (a : Int32) (L : List Value) (M : Mem) (Q : Option Value → Mem → Prop), Wp d 75 22 L [.int a] M Q ↔ (if a < 0 then Wp d 75 32 L [] M Q else Wp d 75 25 L [] M Q)) ∧
    (∀ (d : Nat) (v0 : Value) (v1 : Value) (x : Int32) (L : List Value) (M : Mem) (Q : Option Value → Mem → Prop), Wp d 75 25 (v0 :: v1 :: .int x :: L) [] M Q ↔ Wp d 75 26 (v0 :: v1 :: .int x :: L) [.int x] M Q) ∧
    (∀ (d : Nat) (a : Int32) (L : List Value) (M : Mem) (Q : Option Value → Mem → Prop), Wp d 75 26 L [.int a] M Q ↔ Wp d 75 29 L [.int 9999, .int a] M Q) ∧
    (∀ (d : Nat) (a : Int32) (b : Int32) (L : List Value) (M : Mem) (Q : Option Value → Mem → Prop), Wp d 75 29 L [.int a, .int b] M Q ↔ (if a < b then Wp d 75 32 L [] M Q else Wp d 75 35 L [] M Q)) ∧
    (∀ (d : Nat) (L : List Value) (M : Mem) (Q : Option Value → Mem → Prop), Wp d 75 32 L [] M Q ↔ Wp d 75 34 L [.int (-1000000002)] M Q) ∧
    (∀ (d : Nat) (a : Int32) (L : List Value) (M : Mem) (Q : Option Value → Mem → Prop), Wp d 75 34 L [.int a] M Q ↔ Q (some (.int a)) M) ∧
    (∀ (d : Nat) (x : Nat) (L : List Value) (M : Mem) (Q : Option Value → Mem → Prop), Wp d 75 35 (.ref x :: L) [] M Q ↔ Wp d 75 36 (.ref x :: L) [.ref x] M Q) ∧
    (∀ (d : Nat) (a : Nat) (L : List Value) (M : Mem) (Q : Option Value → Mem → Prop), Wp d 75 36 L [.ref a] M Q ↔ (isK a 11 = true ∧ Wp d 75 39 L [.ref (rt a 3)] M Q)) ∧
    (∀ (d : Nat) (a : Nat) (L : List Value) (M : Mem) (Q : Option Value → Mem → Prop), Wp d 75 39 L [.ref a] M Q ↔ (isK a 9 = true ∧ Wp d 75 42 L [.ref (rt a 0)] M Q)) ∧
    (∀ (d : Nat) (a : Nat) (v0 : Value) (x : Int32) (L : List Value) (M : Mem) (Q : Option Value → Mem → Prop), Wp d 75 42 (v0 :: .int x :: L) [.ref a] M Q ↔ Wp d 75 43 (v0 :: .int x :: L) [.int x, .ref a] M Q) ∧
    (∀ (d : Nat) (a : Int32) (b : Nat) (v0 : Value) (v1 : Value) (x : Int32) (L : List Value) (M : Mem) (Q : Option Value → Mem → Prop), Wp d 75 43 (v0 :: v1 :: .int x :: L) [.int a, .ref b] M Q ↔ Wp d 75 44 (v0 :: v1 :: .int x :: L) [.int x, .int a, .ref b] M Q) ∧
    (∀ (d : Nat) (a : Int32) (b : Int32) (c : Nat) (L : List Value) (M : Mem) (Q : Option Value → Mem → Prop), Wp (d + 1) 75 44 L [.int a, .int b, .ref c] M Q ↔ (isK c 1 = true ∧ Wp d 6 0 [.ref c, .int b, .int a, .null] [] M (fun r M2 => Wp (d + 1) 75 47 L (r.toList ++ []) M2 Q))) ∧
    (∀ (d : Nat) (a : Int32) (L : List Value) (M : Mem) (Q : Option Value → Mem → Prop), Wp d 75 47 L [.int a] M Q ↔ Q (some (.int a)) M) := by
  refine ⟨?_, ?_, ?_, ?_, ?_, ?_, ?_, ?_, ?_, ?_, ?_, ?_, ?_, ?_, ?_, ?_, ?_, ?_, ?_, ?_, ?_, ?_, ?_, ?_⟩
  · intro d v0 x L M Q; exact Wp_sim (by decide +kernel : decode (cd 75) 0 = .ok (.iload_n 1, 1)) rfl rfl
  · intro d a L M Q; exact q_zlt (by decide +kernel : decode (cd 75) 1 = .ok (.ifCond .lt 17, 3)) (by decide)
  · intro d v0 x L M Q; exact Wp_sim (by decide +kernel : decode (cd 75) 4 = .ok (.iload_n 1, 1)) rfl rfl
  · intro d a x L M Q; exact Wp_sim (by decide +kernel : decode (cd 75) 5 = .ok (.aload_n 0, 1)) rfl rfl
  · intro d a b L M Q; exact q_getR (p := 301) (by decide +kernel : decode (cd 75) 6 = .ok (.getfield 33, 3)) (by decide +kernel) (by decide +kernel)
  · intro d a b L M Q; exact q_getR (p := 197) (by decide +kernel : decode (cd 75) 9 = .ok (.getfield 111, 3)) (by decide +kernel) (by decide +kernel)
  · intro d a b L M Q; exact q_getI (p := 99) (by decide +kernel : decode (cd 75) 12 = .ok (.getfield 126, 3)) (by decide +kernel) (by decide +kernel)
  · intro d a b L M Q; exact q_ilt (by decide +kernel : decode (cd 75) 15 = .ok (.if_icmp .lt 6, 3)) (by decide)
  · intro d L M Q; exact q_ldc (p := 505) (by decide +kernel : decode (cd 75) 18 = .ok (.ldc 170, 2)) (by decide +kernel)
  · intro d a L M Q; exact q_iret (by decide +kernel : decode (cd 75) 20 = .ok (.ireturn , 1)) (by decide +kernel)
  · intro d v0 v1 x L M Q; exact Wp_sim (by decide +kernel : decode (cd 75) 21 = .ok (.iload_n 2, 1)) rfl rfl
  · intro d a L M Q; exact q_zlt (by decide +kernel : decode (cd 75) 22 = .ok (.ifCond .lt 10, 3)) (by decide)
  · intro d v0 v1 x L M Q; exact Wp_sim (by decide +kernel : decode (cd 75) 25 = .ok (.iload_n 2, 1)) rfl rfl
  · intro d a L M Q; exact Wp_sim (by decide +kernel : decode (cd 75) 26 = .ok (.sipush 9999, 3)) rfl rfl
  · intro d a b L M Q; exact q_ile (by decide +kernel : decode (cd 75) 29 = .ok (.if_icmp .le 6, 3)) (by decide)
  · intro d L M Q; exact q_ldc (p := 339) (by decide +kernel : decode (cd 75) 32 = .ok (.ldc 82, 2)) (by decide +kernel)
  · intro d a L M Q; exact q_iret (by decide +kernel : decode (cd 75) 34 = .ok (.ireturn , 1)) (by decide +kernel)
  · intro d x L M Q; exact Wp_sim (by decide +kernel : decode (cd 75) 35 = .ok (.aload_n 0, 1)) rfl rfl
  · intro d a L M Q; exact q_getR (p := 301) (by decide +kernel : decode (cd 75) 36 = .ok (.getfield 33, 3)) (by decide +kernel) (by decide +kernel)
  · intro d a L M Q; exact q_getR (p := 197) (by decide +kernel : decode (cd 75) 39 = .ok (.getfield 111, 3)) (by decide +kernel) (by decide +kernel)
  · intro d a v0 x L M Q; exact Wp_sim (by decide +kernel : decode (cd 75) 42 = .ok (.iload_n 1, 1)) rfl rfl
  · intro d a b v0 v1 x L M Q; exact Wp_sim (by decide +kernel : decode (cd 75) 43 = .ok (.iload_n 2, 1)) rfl rfl
  · intro d a b c L M Q; exact q_invV (pz := 506) (n := 2) (c := 1) (m := 4) (k := c) (As := [.int b, .int a]) (rest := []) (by decide +kernel : decode (cd 75) 44 = .ok (.invokevirtual 171, 3)) (by decide +kernel) (by decide +kernel) rfl rfl (Nat.le_of_ble_eq_true rfl) (Nat.le_of_ble_eq_true rfl) rfl
  · intro d a L M Q; exact q_iret (by decide +kernel : decode (cd 75) 47 = .ok (.ireturn , 1)) (by decide +kernel)

/- 76: PalaceYard.debtor -/
set_option maxRecDepth 10000 in
theorem e76_0 : (∀ (d : Nat) (x : Nat) (L : List Value) (M : Mem) (Q : Option Value → Mem → Prop), Wp d 76 0 (.ref x :: L) [] M Q ↔ Wp d 76 1 (.ref x :: L) [.ref x] M Q) ∧
    (∀ (d : Nat) (a : Nat) (v0 : Value) (x : Int32) (L : List Value) (M : Mem) (Q : Option Value → Mem → Prop), Wp d 76 1 (v0 :: .int x :: L) [.ref a] M Q ↔ Wp d 76 2 (v0 :: .int x :: L) [.int x, .ref a] M Q) ∧
    (∀ (d : Nat) (a : Int32) (b : Nat) (L : List Value) (M : Mem) (Q : Option Value → Mem → Prop), Wp (d + 1) 76 2 L [.int a, .ref b] M Q ↔ (isK b 11 = true ∧ Wp d 77 0 [.ref b, .int a] [] M (fun r M2 => Wp (d + 1) 76 5 L (r.toList ++ []) M2 Q))) ∧
    (∀ (d : Nat) (a : Int32) (L : List Value) (M : Mem) (Q : Option Value → Mem → Prop), Wp d 76 5 L [.int a] M Q ↔ (if a = 0 then Wp d 76 8 L [] M Q else Wp d 76 11 L [] M Q)) ∧
    (∀ (d : Nat) (L : List Value) (M : Mem) (Q : Option Value → Mem → Prop), Wp d 76 8 L [] M Q ↔ Wp d 76 10 L [.int (-1000000001)] M Q) ∧
    (∀ (d : Nat) (a : Int32) (L : List Value) (M : Mem) (Q : Option Value → Mem → Prop), Wp d 76 10 L [.int a] M Q ↔ Q (some (.int a)) M) ∧
    (∀ (d : Nat) (v0 : Value) (v1 : Value) (x : Int32) (L : List Value) (M : Mem) (Q : Option Value → Mem → Prop), Wp d 76 11 (v0 :: v1 :: .int x :: L) [] M Q ↔ Wp d 76 12 (v0 :: v1 :: .int x :: L) [.int x] M Q) ∧
    (∀ (d : Nat) (a : Int32) (L : List Value) (M : Mem) (Q : Option Value → Mem → Prop), Wp d 76 12 L [.int a] M Q ↔ (if a = 0 then Wp d 76 56 L [] M Q else (if a = 1 then Wp d 76 69 L [] M Q else (if a = 2 then Wp d 76 82 L [] M Q else (if a = 3 then Wp d 76 95 L [] M Q else (if a = 4 then Wp d 76 108 L [] M Q else (if a = 5 then Wp d 76 125 L [] M Q else (if a = 6 then Wp d 76 144 L [] M Q else Wp d 76 163 L [] M Q)))))))) ∧
    (∀ (d : Nat) (x : Nat) (L : List Value) (M : Mem) (Q : Option Value → Mem → Prop), Wp d 76 56 (.ref x :: L) [] M Q ↔ Wp d 76 57 (.ref x :: L) [.ref x] M Q) ∧
    (∀ (d : Nat) (a : Nat) (L : List Value) (M : Mem) (Q : Option Value → Mem → Prop), Wp d 76 57 L [.ref a] M Q ↔ (isK a 11 = true ∧ Wp d 76 60 L [.ref (rt a 3)] M Q)) ∧
    (∀ (d : Nat) (a : Nat) (L : List Value) (M : Mem) (Q : Option Value → Mem → Prop), Wp d 76 60 L [.ref a] M Q ↔ (isK a 9 = true ∧ Wp d 76 63 L [.ref (rt a 0)] M Q)) ∧
    (∀ (d : Nat) (a : Nat) (L : List Value) (M : Mem) (Q : Option Value → Mem → Prop), Wp d 76 63 L [.ref a] M Q ↔ (isK a 1 = true ∧ Wp d 76 66 L [.ref (rt a 2)] M Q)) ∧
    (∀ (d : Nat) (a : Nat) (v0 : Value) (x : Int32) (L : List Value) (M : Mem) (Q : Option Value → Mem → Prop), Wp d 76 66 (v0 :: .int x :: L) [.ref a] M Q ↔ Wp d 76 67 (v0 :: .int x :: L) [.int x, .ref a] M Q) ∧
    (∀ (d : Nat) (a : Int32) (b : Nat) (L : List Value) (M : Mem) (Q : Option Value → Mem → Prop), Wp d 76 67 L [.int a, .ref b] M Q ↔ ((isR b = true ∧ inr a (lnm M b)) ∧ Wp d 76 68 L [.int (M b a.toNatClampNeg)] M Q)) ∧
    (∀ (d : Nat) (a : Int32) (L : List Value) (M : Mem) (Q : Option Value → Mem → Prop), Wp d 76 68 L [.int a] M Q ↔ Q (some (.int a)) M) ∧
    (∀ (d : Nat) (x : Nat) (L : List Value) (M : Mem) (Q : Option Value → Mem → Prop), Wp d 76 69 (.ref x :: L) [] M Q ↔ Wp d 76 70 (.ref x :: L) [.ref x] M Q) ∧
    (∀ (d : Nat) (a : Nat) (L : List Value) (M : Mem) (Q : Option Value → Mem → Prop), Wp d 76 70 L [.ref a] M Q ↔ (isK a 11 = true ∧ Wp d 76 73 L [.ref (rt a 3)] M Q)) ∧
    (∀ (d : Nat) (a : Nat) (L : List Value) (M : Mem) (Q : Option Value → Mem → Prop), Wp d 76 73 L [.ref a] M Q ↔ (isK a 9 = true ∧ Wp d 76 76 L [.ref (rt a 0)] M Q)) ∧
    (∀ (d : Nat) (a : Nat) (L : List Value) (M : Mem) (Q : Option Value → Mem → Prop), Wp d 76 76 L [.ref a] M Q ↔ (isK a 1 = true ∧ Wp d 76 79 L [.ref (rt a 3)] M Q)) ∧
    (∀ (d : Nat) (a : Nat) (v0 : Value) (x : Int32) (L : List Value) (M : Mem) (Q : Option Value → Mem → Prop), Wp d 76 79 (v0 :: .int x :: L) [.ref a] M Q ↔ Wp d 76 80 (v0 :: .int x :: L) [.int x, .ref a] M Q) ∧
    (∀ (d : Nat) (a : Int32) (b : Nat) (L : List Value) (M : Mem) (Q : Option Value → Mem → Prop), Wp d 76 80 L [.int a, .ref b] M Q ↔ ((isR b = true ∧ inr a (lnm M b)) ∧ Wp d 76 81 L [.int (M b a.toNatClampNeg)] M Q)) ∧
    (∀ (d : Nat) (a : Int32) (L : List Value) (M : Mem) (Q : Option Value → Mem → Prop), Wp d 76 81 L [.int a] M Q ↔ Q (some (.int a)) M) ∧
    (∀ (d : Nat) (x : Nat) (L : List Value) (M : Mem) (Q : Option Value → Mem → Prop), Wp d 76 82 (.ref x :: L) [] M Q ↔ Wp d 76 83 (.ref x :: L) [.ref x] M Q) ∧
    (∀ (d : Nat) (a : Nat) (L : List Value) (M : Mem) (Q : Option Value → Mem → Prop), Wp d 76 83 L [.ref a] M Q ↔ (isK a 11 = true ∧ Wp d 76 86 L [.ref (rt a 3)] M Q)) ∧
    (∀ (d : Nat) (a : Nat) (L : List Value) (M : Mem) (Q : Option Value → Mem → Prop), Wp d 76 86 L [.ref a] M Q ↔ (isK a 9 = true ∧ Wp d 76 89 L [.ref (rt a 0)] M Q)) ∧
    (∀ (d : Nat) (a : Nat) (L : List Value) (M : Mem) (Q : Option Value → Mem → Prop), Wp d 76 89 L [.ref a] M Q ↔ (isK a 1 = true ∧ Wp d 76 92 L [.ref (rt a 4)] M Q)) ∧
    (∀ (d : Nat) (a : Nat) (v0 : Value) (x : Int32) (L : List Value) (M : Mem) (Q : Option Value → Mem → Prop), Wp d 76 92 (v0 :: .int x :: L) [.ref a] M Q ↔ Wp d 76 93 (v0 :: .int x :: L) [.int x, .ref a] M Q) ∧
    (∀ (d : Nat) (a : Int32) (b : Nat) (L : List Value) (M : Mem) (Q : Option Value → Mem → Prop), Wp d 76 93 L [.int a, .ref b] M Q ↔ ((isR b = true ∧ inr a (lnm M b)) ∧ Wp d 76 94 L [.int (M b a.toNatClampNeg)] M Q)) ∧
    (∀ (d : Nat) (a : Int32) (L : List Value) (M : Mem) (Q : Option Value → Mem → Prop), Wp d 76 94 L [.int a] M Q ↔ Q (some (.int a)) M) ∧
    (∀ (d : Nat) (x : Nat) (L : List Value) (M : Mem) (Q : Option Value → Mem → Prop), Wp d 76 95 (.ref x :: L) [] M Q ↔ Wp d 76 96 (.ref x :: L) [.ref x] M Q) ∧
    (∀ (d : Nat) (a : Nat) (L : List Value) (M : Mem) (Q : Option Value → Mem → Prop), Wp d 76 96 L [.ref a] M Q ↔ (isK a 11 = true ∧ Wp d 76 99 L [.ref (rt a 3)] M Q)) ∧
    (∀ (d : Nat) (a : Nat) (L : List Value) (M : Mem) (Q : Option Value → Mem → Prop), Wp d 76 99 L [.ref a] M Q ↔ (isK a 9 = true ∧ Wp d 76 102 L [.ref (rt a 1)] M Q)) ∧
    (∀ (d : Nat) (a : Nat) (L : List Value) (M : Mem) (Q : Option Value → Mem → Prop), Wp d 76 102 L [.ref a] M Q ↔ (isK a 6 = true ∧ Wp d 76 105 L [.ref (rt a 0)] M Q)) ∧
    (∀ (d : Nat) (a : Nat) (v0 : Value) (x : Int32) (L : List Value) (M : Mem) (Q : Option Value → Mem → Prop), Wp d 76 105 (v0 :: .int x :: L) [.ref a] M Q ↔ Wp d 76 106 (v0 :: .int x :: L) [.int x, .ref a] M Q) ∧
    (∀ (d : Nat) (a : Int32) (b : Nat) (L : List Value) (M : Mem) (Q : Option Value → Mem → Prop), Wp d 76 106 L [.int a, .ref b] M Q ↔ ((isR b = true ∧ inr a (lnm M b)) ∧ Wp d 76 107 L [.int (M b a.toNatClampNeg)] M Q)) ∧
    (∀ (d : Nat) (a : Int32) (L : List Value) (M : Mem) (Q : Option Value → Mem → Prop), Wp d 76 107 L [.int a] M Q ↔ Q (some (.int a)) M) ∧
    (∀ (d : Nat) (x : Nat) (L : List Value) (M : Mem) (Q : Option Value → Mem → Prop), Wp d 76 108 (.ref x :: L) [] M Q ↔ Wp d 76 109 (.ref x :: L) [.ref x] M Q) ∧
    (∀ (d : Nat) (a : Nat) (L : List Value) (M : Mem) (Q : Option Value → Mem → Prop), Wp d 76 109 L [.ref a] M Q ↔ (isK a 11 = true ∧ Wp d 76 112 L [.ref (rt a 3)] M Q)) ∧
    (∀ (d : Nat) (a : Nat) (L : List Value) (M : Mem) (Q : Option Value → Mem → Prop), Wp d 76 112 L [.ref a] M Q ↔ (isK a 9 = true ∧ Wp d 76 115 L [.ref (rt a 1)] M Q)) ∧
    (∀ (d : Nat) (a : Nat) (L : List Value) (M : Mem) (Q : Option Value → Mem → Prop), Wp d 76 115 L [.ref a] M Q ↔ (isK a 6 = true ∧ Wp d 76 118 L [.ref (rt a 1)] M Q)) ∧
    (∀ (d : Nat) (a : Nat) (v0 : Value) (x : Int32) (L : List Value) (M : Mem) (Q : Option Value → Mem → Prop), Wp d 76 118 (v0 :: .int x :: L) [.ref a] M Q ↔ Wp d 76 119 (v0 :: .int x :: L) [.int x, .ref a] M Q) ∧
    (∀ (d : Nat) (a : Int32) (b : Nat) (L : List Value) (M : Mem) (Q : Option Value → Mem → Prop), Wp d 76 119 L [.int a, .ref b] M Q ↔ ((isR b = true ∧ inr a (lnm M b)) ∧ Wp d 76 120 L [.int (M b a.toNatClampNeg)] M Q)) ∧
    (∀ (d : Nat) (a : Int32) (L : List Value) (M : Mem) (Q : Option Value → Mem → Prop), Wp d 76 120 L [.int a] M Q ↔ Wp d 76 123 L [.int 10000, .int a] M Q) ∧
    (∀ (d : Nat) (a : Int32) (b : Int32) (L : List Value) (M : Mem) (Q : Option Value → Mem → Prop), Wp d 76 123 L [.int a, .int b] M Q ↔ Wp d 76 124 L [.int (b + a)] M Q) ∧
    (∀ (d : Nat) (a : Int32) (L : List Value) (M : Mem) (Q : Option Value → Mem → Prop), Wp d 76 124 L [.int a] M Q ↔ Q (some (.int a)) M) ∧
    (∀ (d : Nat) (x : Nat) (L : List Value) (M : Mem) (Q : Option Value → Mem → Prop), Wp d 76 125 (.ref x :: L) [] M Q ↔ Wp d 76 126 (.ref x :: L) [.ref x] M Q) ∧
    (∀ (d : Nat) (a : Nat) (L : List Value) (M : Mem) (Q : Option Value → Mem → Prop), Wp d 76 126 L [.ref a] M Q ↔ (isK a 11 = true ∧ Wp d 76 129 L [.ref (rt a 3)] M Q)) ∧
    (∀ (d : Nat) (a : Nat) (v0 : Value) (x : Int32) (L : List Value) (M : Mem) (Q : Option Value → Mem → Prop), Wp d 76 129 (v0 :: .int x :: L) [.ref a] M Q ↔ Wp d 76 130 (v0 :: .int x :: L) [.int x, .ref a] M Q) ∧
    (∀ (d : Nat) (a : Int32) (b : Nat) (x : Nat) (L : List Value) (M : Mem) (Q : Option Value → Mem → Prop), Wp d 76 130 (.ref x :: L) [.int a, .ref b] M Q ↔ Wp d 76 131 (.ref x :: L) [.ref x, .int a, .ref b] M Q) ∧
    (∀ (d : Nat) (a : Nat) (b : Int32) (c : Nat) (L : List Value) (M : Mem) (Q : Option Value → Mem → Prop), Wp d 76 131 L [.ref a, .int b, .ref c] M Q ↔ (isK a 11 = true ∧ Wp d 76 134 L [.ref (rt a 3), .int b, .ref c] M Q)) ∧
    (∀ (d : Nat) (a : Nat) (b : Int32) (c : Nat) (L : List Value) (M : Mem) (Q : Option Value → Mem → Prop), Wp d 76 134 L [.ref a, .int b, .ref c] M Q ↔ (isK a 9 = true ∧ Wp d 76 137 L [.ref (rt a 1), .int b, .ref c] M Q)) ∧
    (∀ (d : Nat) (a : Nat) (b : Int32) (c : Nat) (L : List Value) (M : Mem) (Q : Option Value → Mem → Prop), Wp d 76 137 L [.ref a, .int b, .ref c] M Q ↔ (isK a 6 = true ∧ Wp d 76 140 L [.int (M a 3), .int b, .ref c] M Q)) ∧
    (∀ (d : Nat) (a : Int32) (b : Int32) (c : Nat) (L : List Value) (M : Mem) (Q : Option Value → Mem → Prop), Wp (d + 1) 76 140 L [.int a, .int b, .ref c] M Q ↔ (isK c 9 = true ∧ Wp d 50 0 [.ref c, .int b, .int a, .null] [] M (fun r M2 => Wp (d + 1) 76 143 L (r.toList ++ []) M2 Q))) ∧
    (∀ (d : Nat) (a : Int32) (L : List Value) (M : Mem) (Q : Option Value → Mem → Prop), Wp d 76 143 L [.int a] M Q ↔ Q (some (.int a)) M) ∧
    (∀ (d : Nat) (x : Nat) (L : List Value) (M : Mem) (Q : Option Value → Mem → Prop), Wp d 76 144 (.ref x :: L) [] M Q ↔ Wp d 76 145 (.ref x :: L) [.ref x] M Q) ∧
    (∀ (d : Nat) (a : Nat) (L : List Value) (M : Mem) (Q : Option Value → Mem → Prop), Wp d 76 145 L [.ref a] M Q ↔ (isK a 11 = true ∧ Wp d 76 148 L [.ref (rt a 3)] M Q)) ∧
    (∀ (d : Nat) (a : Nat) (L : List Value) (M : Mem) (Q : Option Value → Mem → Prop), Wp d 76 148 L [.ref a] M Q ↔ (isK a 9 = true ∧ Wp d 76 151 L [.ref (rt a 1)] M Q)) ∧
    (∀ (d : Nat) (a : Nat) (L : List Value) (M : Mem) (Q : Option Value → Mem → Prop), Wp d 76 151 L [.ref a] M Q ↔ (isK a 6 = true ∧ Wp d 76 154 L [.ref (rt a 2)] M Q)) ∧
    (∀ (d : Nat) (a : Nat) (v0 : Value) (x : Int32) (L : List Value) (M : Mem) (Q : Option Value → Mem → Prop), Wp d 76 154 (v0 :: .int x :: L) [.ref a] M Q ↔ Wp d 76 155 (v0 :: .int x :: L) [.int x, .ref a] M Q) ∧
    (∀ (d : Nat) (a : Int32) (b : Nat) (L : List Value) (M : Mem) (Q : Option Value → Mem → Prop), Wp (d + 1) 76 155 L [.int a, .ref b] M Q ↔ (isK b 2 = true ∧ Wp d 9 0 [.ref b, .int a, .null, .null] [] M (fun r M2 => Wp (d + 1) 76 158 L (r.toList ++ []) M2 Q))) := by
  refine ⟨?_, ?_, ?_, ?_, ?_, ?_, ?_, ?_, ?_, ?_, ?_, ?_, ?_, ?_, ?_, ?_, ?_, ?_, ?_, ?_, ?_, ?_, ?_, ?_, ?_, ?_, ?_, ?_, ?_, ?_, ?_, ?_, ?_, ?_, ?_, ?_, ?_, ?_, ?_, ?_, ?_, ?_, ?_, ?_, ?_, ?_, ?_, ?_, ?_, ?_, ?_, ?_, ?_, ?_, ?_, ?_, ?_, ?_, ?_, ?_⟩
  · intro d x L M Q; exact Wp_sim (by decide +kernel : decode (cd 76) 0 = .ok (.aload_n 0, 1)) rfl rfl
  · intro d a v0 x L M Q; exact Wp_sim (by decide +kernel : decode (cd 76) 1 = .ok (.iload_n 1, 1)) rfl rfl
  · intro d a b L M Q; exact q_invV (pz := 516) (n := 1) (c := 11) (m := 2) (k := b) (As := [.int a]) (rest := []) (by decide +kernel : decode (cd 76) 2 = .ok (.invokevirtual 175, 3)) (by decide +kernel) (by decide +kernel) rfl rfl (Nat.le_of_ble_eq_true rfl) (Nat.le_of_ble_eq_true rfl) rfl
  · intro d a L M Q; exact q_zne (by decide +kernel : decode (cd 76) 5 = .ok (.ifCond .ne 6, 3)) (by decide)
  · intro d L M Q; exact q_ldc (p := 505) (by decide +kernel : decode (cd 76) 8 = .ok (.ldc 170, 2)) (by decide +kernel)
  · intro d a L M Q; exact q_iret (by decide +kernel : decode (cd 76) 10 = .ok (.ireturn , 1)) (by decide +kernel)
  · intro d v0 v1 x L M Q; exact Wp_sim (by decide +kernel : decode (cd 76) 11 = .ok (.iload_n 2, 1)) rfl rfl
  · intro d a L M Q
    by_cases h0 : a = 0
    · subst h0; rw [if_pos rfl]; exact q_tsw (by decide +kernel : decode (cd 76) 12 = .ok (.tableswitch 151 0 6 #[44, 57, 70, 83, 96, 113, 132], 44)) (by decide) (by decide +kernel)
    rw [if_neg h0]
    by_cases h1 : a = 1
    · subst h1; rw [if_pos rfl]; exact q_tsw (by decide +kernel : decode (cd 76) 12 = .ok (.tableswitch 151 0 6 #[44, 57, 70, 83, 96, 113, 132], 44)) (by decide) (by decide +kernel)
    rw [if_neg h1]
    by_cases h2 : a = 2
    · subst h2; rw [if_pos rfl]; exact q_tsw (by decide +kernel : decode (cd 76) 12 = .ok (.tableswitch 151 0 6 #[44, 57, 70, 83, 96, 113, 132], 44)) (by decide) (by decide +kernel)
    rw [if_neg h2]
    by_cases h3 : a = 3
    · subst h3; rw [if_pos rfl]; exact q_tsw (by decide +kernel : decode (cd 76) 12 = .ok (.tableswitch 151 0 6 #[44, 57, 70, 83, 96, 113, 132], 44)) (by decide) (by decide +kernel)
    rw [if_neg h3]
    by_cases h4 : a = 4
    · subst h4; rw [if_pos rfl]; exact q_tsw (by decide +kernel : decode (cd 76) 12 = .ok (.tableswitch 151 0 6 #[44, 57, 70, 83, 96, 113, 132], 44)) (by decide) (by decide +kernel)
    rw [if_neg h4]
    by_cases h5 : a = 5
    · subst h5; rw [if_pos rfl]; exact q_tsw (by decide +kernel : decode (cd 76) 12 = .ok (.tableswitch 151 0 6 #[44, 57, 70, 83, 96, 113, 132], 44)) (by decide) (by decide +kernel)
    rw [if_neg h5]
    by_cases h6 : a = 6
    · subst h6; rw [if_pos rfl]; exact q_tsw (by decide +kernel : decode (cd 76) 12 = .ok (.tableswitch 151 0 6 #[44, 57, 70, 83, 96, 113, 132], 44)) (by decide) (by decide +kernel)
    rw [if_neg h6]
    refine q_tsw (by decide +kernel : decode (cd 76) 12 = .ok (.tableswitch 151 0 6 #[44, 57, 70, 83, 96, 113, 132], 44)) (by decide) ?_
    rw [tsw_out ?_]
    · decide
    have g0 := lv_neT h0 (a := 0) (by decide)
    have g1 := lv_neT h1 (a := 1) (by decide)
    have g2 := lv_neT h2 (a := 2) (by decide)
    have g3 := lv_neT h3 (a := 3) (by decide)
    have g4 := lv_neT h4 (a := 4) (by decide)
    have g5 := lv_neT h5 (a := 5) (by decide)
    have g6 := lv_neT h6 (a := 6) (by decide)
    omega
  · intro d x L M Q; exact Wp_sim (by decide +kernel : decode (cd 76) 56 = .ok (.aload_n 0, 1)) rfl rfl
  · intro d a L M Q; exact q_getR (p := 301) (by decide +kernel : decode (cd 76) 57 = .ok (.getfield 33, 3)) (by decide +kernel) (by decide +kernel)
  · intro d a L M Q; exact q_getR (p := 197) (by decide +kernel : decode (cd 76) 60 = .ok (.getfield 111, 3)) (by decide +kernel) (by decide +kernel)
  · intro d a L M Q; exact q_getR (p := 72) (by decide +kernel : decode (cd 76) 63 = .ok (.getfield 179, 3)) (by decide +kernel) (by decide +kernel)
  · intro d a v0 x L M Q; exact Wp_sim (by decide +kernel : decode (cd 76) 66 = .ok (.iload_n 1, 1)) rfl rfl
  · intro d a b L M Q; exact q_ald (by decide +kernel : decode (cd 76) 67 = .ok (.iaload , 1))
  · intro d a L M Q; exact q_iret (by decide +kernel : decode (cd 76) 68 = .ok (.ireturn , 1)) (by decide +kernel)
  · intro d x L M Q; exact Wp_sim (by decide +kernel : decode (cd 76) 69 = .ok (.aload_n 0, 1)) rfl rfl
  · intro d a L M Q; exact q_getR (p := 301) (by decide +kernel : decode (cd 76) 70 = .ok (.getfield 33, 3)) (by decide +kernel) (by decide +kernel)
  · intro d a L M Q; exact q_getR (p := 197) (by decide +kernel : decode (cd 76) 73 = .ok (.getfield 111, 3)) (by decide +kernel) (by decide +kernel)
  · intro d a L M Q; exact q_getR (p := 75) (by decide +kernel : decode (cd 76) 76 = .ok (.getfield 183, 3)) (by decide +kernel) (by decide +kernel)
  · intro d a v0 x L M Q; exact Wp_sim (by decide +kernel : decode (cd 76) 79 = .ok (.iload_n 1, 1)) rfl rfl
  · intro d a b L M Q; exact q_ald (by decide +kernel : decode (cd 76) 80 = .ok (.iaload , 1))
  · intro d a L M Q; exact q_iret (by decide +kernel : decode (cd 76) 81 = .ok (.ireturn , 1)) (by decide +kernel)
  · intro d x L M Q; exact Wp_sim (by decide +kernel : decode (cd 76) 82 = .ok (.aload_n 0, 1)) rfl rfl
  · intro d a L M Q; exact q_getR (p := 301) (by decide +kernel : decode (cd 76) 83 = .ok (.getfield 33, 3)) (by decide +kernel) (by decide +kernel)
  · intro d a L M Q; exact q_getR (p := 197) (by decide +kernel : decode (cd 76) 86 = .ok (.getfield 111, 3)) (by decide +kernel) (by decide +kernel)
  · intro d a L M Q; exact q_getR (p := 77) (by decide +kernel : decode (cd 76) 89 = .ok (.getfield 186, 3)) (by decide +kernel) (by decide +kernel)
  · intro d a v0 x L M Q; exact Wp_sim (by decide +kernel : decode (cd 76) 92 = .ok (.iload_n 1, 1)) rfl rfl
  · intro d a b L M Q; exact q_ald (by decide +kernel : decode (cd 76) 93 = .ok (.iaload , 1))
  · intro d a L M Q; exact q_iret (by decide +kernel : decode (cd 76) 94 = .ok (.ireturn , 1)) (by decide +kernel)
  · intro d x L M Q; exact Wp_sim (by decide +kernel : decode (cd 76) 95 = .ok (.aload_n 0, 1)) rfl rfl
  · intro d a L M Q; exact q_getR (p := 301) (by decide +kernel : decode (cd 76) 96 = .ok (.getfield 33, 3)) (by decide +kernel) (by decide +kernel)
  · intro d a L M Q; exact q_getR (p := 199) (by decide +kernel : decode (cd 76) 99 = .ok (.getfield 132, 3)) (by decide +kernel) (by decide +kernel)
  · intro d a L M Q; exact q_getR (p := 167) (by decide +kernel : decode (cd 76) 102 = .ok (.getfield 189, 3)) (by decide +kernel) (by decide +kernel)
  · intro d a v0 x L M Q; exact Wp_sim (by decide +kernel : decode (cd 76) 105 = .ok (.iload_n 1, 1)) rfl rfl
  · intro d a b L M Q; exact q_ald (by decide +kernel : decode (cd 76) 106 = .ok (.iaload , 1))
  · intro d a L M Q; exact q_iret (by decide +kernel : decode (cd 76) 107 = .ok (.ireturn , 1)) (by decide +kernel)
  · intro d x L M Q; exact Wp_sim (by decide +kernel : decode (cd 76) 108 = .ok (.aload_n 0, 1)) rfl rfl
  · intro d a L M Q; exact q_getR (p := 301) (by decide +kernel : decode (cd 76) 109 = .ok (.getfield 33, 3)) (by decide +kernel) (by decide +kernel)
  · intro d a L M Q; exact q_getR (p := 199) (by decide +kernel : decode (cd 76) 112 = .ok (.getfield 132, 3)) (by decide +kernel) (by decide +kernel)
  · intro d a L M Q; exact q_getR (p := 170) (by decide +kernel : decode (cd 76) 115 = .ok (.getfield 192, 3)) (by decide +kernel) (by decide +kernel)
  · intro d a v0 x L M Q; exact Wp_sim (by decide +kernel : decode (cd 76) 118 = .ok (.iload_n 1, 1)) rfl rfl
  · intro d a b L M Q; exact q_ald (by decide +kernel : decode (cd 76) 119 = .ok (.iaload , 1))
  · intro d a L M Q; exact Wp_sim (by decide +kernel : decode (cd 76) 120 = .ok (.sipush 10000, 3)) rfl rfl
  · intro d a b L M Q; exact Wp_sim (by decide +kernel : decode (cd 76) 123 = .ok (.iadd , 1)) rfl rfl
  · intro d a L M Q; exact q_iret (by decide +kernel : decode (cd 76) 124 = .ok (.ireturn , 1)) (by decide +kernel)
  · intro d x L M Q; exact Wp_sim (by decide +kernel : decode (cd 76) 125 = .ok (.aload_n 0, 1)) rfl rfl
  · intro d a L M Q; exact q_getR (p := 301) (by decide +kernel : decode (cd 76) 126 = .ok (.getfield 33, 3)) (by decide +kernel) (by decide +kernel)
  · intro d a v0 x L M Q; exact Wp_sim (by decide +kernel : decode (cd 76) 129 = .ok (.iload_n 1, 1)) rfl rfl
  · intro d a b x L M Q; exact Wp_sim (by decide +kernel : decode (cd 76) 130 = .ok (.aload_n 0, 1)) rfl rfl
  · intro d a b c L M Q; exact q_getR (p := 301) (by decide +kernel : decode (cd 76) 131 = .ok (.getfield 33, 3)) (by decide +kernel) (by decide +kernel)
  · intro d a b c L M Q; exact q_getR (p := 199) (by decide +kernel : decode (cd 76) 134 = .ok (.getfield 132, 3)) (by decide +kernel) (by decide +kernel)
  · intro d a b c L M Q; exact q_getI (p := 175) (by decide +kernel : decode (cd 76) 137 = .ok (.getfield 136, 3)) (by decide +kernel) (by decide +kernel)
  · intro d a b c L M Q; exact q_invV (pz := 520) (n := 2) (c := 9) (m := 4) (k := c) (As := [.int b, .int a]) (rest := []) (by decide +kernel : decode (cd 76) 140 = .ok (.invokevirtual 195, 3)) (by decide +kernel) (by decide +kernel) rfl rfl (Nat.le_of_ble_eq_true rfl) (Nat.le_of_ble_eq_true rfl) rfl
  · intro d a L M Q; exact q_iret (by decide +kernel : decode (cd 76) 143 = .ok (.ireturn , 1)) (by decide +kernel)
  · intro d x L M Q; exact Wp_sim (by decide +kernel : decode (cd 76) 144 = .ok (.aload_n 0, 1)) rfl rfl
  · intro d a L M Q; exact q_getR (p := 301) (by decide +kernel : decode (cd 76) 145 = .ok (.getfield 33, 3)) (by decide +kernel) (by decide +kernel)
  · intro d a L M Q; exact q_getR (p := 199) (by decide +kernel : decode (cd 76) 148 = .ok (.getfield 132, 3)) (by decide +kernel) (by decide +kernel)
  · intro d a L M Q; exact q_getR (p := 172) (by decide +kernel : decode (cd 76) 151 = .ok (.getfield 159, 3)) (by decide +kernel) (by decide +kernel)
  · intro d a v0 x L M Q; exact Wp_sim (by decide +kernel : decode (cd 76) 154 = .ok (.iload_n 1, 1)) rfl rfl
  · intro d a b L M Q; exact q_invV (pz := 525) (n := 1) (c := 2) (m := 4) (k := b) (As := [.int a]) (rest := []) (by decide +kernel : decode (cd 76) 155 = .ok (.invokevirtual 198, 3)) (by decide +kernel) (by decide +kernel) rfl rfl (Nat.le_of_ble_eq_true rfl) (Nat.le_of_ble_eq_true rfl) rfl
set_option maxRecDepth 10000 in
theorem e76_1 : (∀ (d : Nat) (a : Int32) (L : List Value) (M : Mem) (Q : Option Value → Mem → Prop), Wp d 76 158 L [.int a] M Q ↔ Wp d 76 161 L [.int 10000, .int a] M Q) ∧
    (∀ (d : Nat) (a : Int32) (b : Int32) (L : List Value) (M : Mem) (Q : Option Value → Mem → Prop), Wp d 76 161 L [.int a, .int b] M Q ↔ Wp d 76 162 L [.int (b + a)] M Q) ∧
    (∀ (d : Nat) (a : Int32) (L : List Value) (M : Mem) (Q : Option Value → Mem → Prop), Wp d 76 162 L [.int a] M Q ↔ Q (some (.int a)) M) ∧
    (∀ (d : Nat) (L : List Value) (M : Mem) (Q : Option Value → Mem → Prop), Wp d 76 163 L [] M Q ↔ Wp d 76 165 L [.int (-1000000002)] M Q) ∧
    (∀ (d : Nat) (a : Int32) (L : List Value) (M : Mem) (Q : Option Value → Mem → Prop), Wp d 76 165 L [.int a] M Q ↔ Q (some (.int a)) M) := by
  refine ⟨?_, ?_, ?_, ?_, ?_⟩
  · intro d a L M Q; exact Wp_sim (by decide +kernel : decode (cd 76) 158 = .ok (.sipush 10000, 3)) rfl rfl
  · intro d a b L M Q; exact Wp_sim (by decide +kernel : decode (cd 76) 161 = .ok (.iadd , 1)) rfl rfl
  · intro d a L M Q; exact q_iret (by decide +kernel : decode (cd 76) 162 = .ok (.ireturn , 1)) (by decide +kernel)
  · intro d L M Q; exact q_ldc (p := 339) (by decide +kernel : decode (cd 76) 163 = .ok (.ldc 82, 2)) (by decide +kernel)
  · intro d a L M Q; exact q_iret (by decide +kernel : decode (cd 76) 165 = .ok (.ireturn , 1)) (by decide +kernel)

/- 77: PalaceYard.isDebtor -/
set_option maxRecDepth 10000 in
theorem e77 : (∀ (d : Nat) (v0 : Value) (x : Int32) (L : List Value) (M : Mem) (Q : Option Value → Mem → Prop), Wp d 77 0 (v0 :: .int x :: L) [] M Q ↔ Wp d 77 1 (v0 :: .int x :: L) [.int x] M Q) ∧
    (∀ (d : Nat) (a : Int32) (L : List Value) (M : Mem) (Q : Option Value → Mem → Prop), Wp d 77 1 L [.int a] M Q ↔ (if a < 0 then Wp d 77 22 L [] M Q else Wp d 77 4 L [] M Q)) ∧
    (∀ (d : Nat) (v0 : Value) (x : Int32) (L : List Value) (M : Mem) (Q : Option Value → Mem → Prop), Wp d 77 4 (v0 :: .int x :: L) [] M Q ↔ Wp d 77 5 (v0 :: .int x :: L) [.int x] M Q) ∧
    (∀ (d : Nat) (a : Int32) (x : Nat) (L : List Value) (M : Mem) (Q : Option Value → Mem → Prop), Wp d 77 5 (.ref x :: L) [.int a] M Q ↔ Wp d 77 6 (.ref x :: L) [.ref x, .int a] M Q) ∧
    (∀ (d : Nat) (a : Nat) (b : Int32) (L : List Value) (M : Mem) (Q : Option Value → Mem → Prop), Wp d 77 6 L [.ref a, .int b] M Q ↔ (isK a 11 = true ∧ Wp d 77 9 L [.ref (rt a 3), .int b] M Q)) ∧
    (∀ (d : Nat) (a : Nat) (b : Int32) (L : List Value) (M : Mem) (Q : Option Value → Mem → Prop), Wp d 77 9 L [.ref a, .int b] M Q ↔ (isK a 9 = true ∧ Wp d 77 12 L [.ref (rt a 0), .int b] M Q)) ∧
    (∀ (d : Nat) (a : Nat) (b : Int32) (L : List Value) (M : Mem) (Q : Option Value → Mem → Prop), Wp d 77 12 L [.ref a, .int b] M Q ↔ (isK a 1 = true ∧ Wp d 77 15 L [.int (M a 13), .int b] M Q)) ∧
    (∀ (d : Nat) (a : Int32) (b : Int32) (L : List Value) (M : Mem) (Q : Option Value → Mem → Prop), Wp d 77 15 L [.int a, .int b] M Q ↔ (if b < a then Wp d 77 18 L [] M Q else Wp d 77 22 L [] M Q)) ∧
    (∀ (d : Nat) (L : List Value) (M : Mem) (Q : Option Value → Mem → Prop), Wp d 77 18 L [] M Q ↔ Wp d 77 19 L [.int 1] M Q) ∧
    (∀ (d : Nat) (a : Int32) (L : List Value) (M : Mem) (Q : Option Value → Mem → Prop), Wp d 77 19 L [.int a] M Q ↔ Wp d 77 23 L [.int a] M Q) ∧
    (∀ (d : Nat) (L : List Value) (M : Mem) (Q : Option Value → Mem → Prop), Wp d 77 22 L [] M Q ↔ Wp d 77 23 L [.int 0] M Q) ∧
    (∀ (d : Nat) (a : Int32) (L : List Value) (M : Mem) (Q : Option Value → Mem → Prop), Wp d 77 23 L [.int a] M Q ↔ ((a = 0 ∨ a = 1) ∧ Q (some (.int a)) M)) := by
  refine ⟨?_, ?_, ?_, ?_, ?_, ?_, ?_, ?_, ?_, ?_, ?_, ?_⟩
  · intro d v0 x L M Q; exact Wp_sim (by decide +kernel : decode (cd 77) 0 = .ok (.iload_n 1, 1)) rfl rfl
  · intro d a L M Q; exact q_zlt (by decide +kernel : decode (cd 77) 1 = .ok (.ifCond .lt 21, 3)) (by decide)
  · intro d v0 x L M Q; exact Wp_sim (by decide +kernel : decode (cd 77) 4 = .ok (.iload_n 1, 1)) rfl rfl
  · intro d a x L M Q; exact Wp_sim (by decide +kernel : decode (cd 77) 5 = .ok (.aload_n 0, 1)) rfl rfl
  · intro d a b L M Q; exact q_getR (p := 301) (by decide +kernel : decode (cd 77) 6 = .ok (.getfield 33, 3)) (by decide +kernel) (by decide +kernel)
  · intro d a b L M Q; exact q_getR (p := 197) (by decide +kernel : decode (cd 77) 9 = .ok (.getfield 111, 3)) (by decide +kernel) (by decide +kernel)
  · intro d a b L M Q; exact q_getI (p := 104) (by decide +kernel : decode (cd 77) 12 = .ok (.getfield 114, 3)) (by decide +kernel) (by decide +kernel)
  · intro d a b L M Q; exact q_ige (by decide +kernel : decode (cd 77) 15 = .ok (.if_icmp .ge 7, 3)) (by decide)
  · intro d L M Q; exact Wp_sim (by decide +kernel : decode (cd 77) 18 = .ok (.iconst 1, 1)) rfl rfl
  · intro d a L M Q; exact q_goto (by decide +kernel : decode (cd 77) 19 = .ok (.goto 4, 3)) (by decide)
  · intro d L M Q; exact Wp_sim (by decide +kernel : decode (cd 77) 22 = .ok (.iconst 0, 1)) rfl rfl
  · intro d a L M Q; exact q_zret (by decide +kernel : decode (cd 77) 23 = .ok (.ireturn , 1)) (by decide +kernel)

/- 78: PalaceYard.owes -/
set_option maxRecDepth 10000 in
theorem e78 : (∀ (d : Nat) (x : Nat) (L : List Value) (M : Mem) (Q : Option Value → Mem → Prop), Wp d 78 0 (.ref x :: L) [] M Q ↔ Wp d 78 1 (.ref x :: L) [.ref x] M Q) ∧
    (∀ (d : Nat) (a : Nat) (v0 : Value) (x : Int32) (L : List Value) (M : Mem) (Q : Option Value → Mem → Prop), Wp d 78 1 (v0 :: .int x :: L) [.ref a] M Q ↔ Wp d 78 2 (v0 :: .int x :: L) [.int x, .ref a] M Q) ∧
    (∀ (d : Nat) (a : Int32) (b : Nat) (v0 : Value) (v1 : Value) (x : Int32) (L : List Value) (M : Mem) (Q : Option Value → Mem → Prop), Wp d 78 2 (v0 :: v1 :: .int x :: L) [.int a, .ref b] M Q ↔ Wp d 78 3 (v0 :: v1 :: .int x :: L) [.int x, .int a, .ref b] M Q) ∧
    (∀ (d : Nat) (a : Int32) (b : Int32) (c : Nat) (L : List Value) (M : Mem) (Q : Option Value → Mem → Prop), Wp (d + 1) 78 3 L [.int a, .int b, .ref c] M Q ↔ (isK c 11 = true ∧ Wp d 79 0 [.ref c, .int b, .int a] [] M (fun r M2 => Wp (d + 1) 78 6 L (r.toList ++ []) M2 Q))) ∧
    (∀ (d : Nat) (a : Int32) (L : List Value) (M : Mem) (Q : Option Value → Mem → Prop), Wp d 78 6 L [.int a] M Q ↔ (if a = 0 then Wp d 78 9 L [] M Q else Wp d 78 12 L [] M Q)) ∧
    (∀ (d : Nat) (L : List Value) (M : Mem) (Q : Option Value → Mem → Prop), Wp d 78 9 L [] M Q ↔ Wp d 78 11 L [.int (-1000000001)] M Q) ∧
    (∀ (d : Nat) (a : Int32) (L : List Value) (M : Mem) (Q : Option Value → Mem → Prop), Wp d 78 11 L [.int a] M Q ↔ Q (some (.int a)) M) ∧
    (∀ (d : Nat) (x : Nat) (L : List Value) (M : Mem) (Q : Option Value → Mem → Prop), Wp d 78 12 (.ref x :: L) [] M Q ↔ Wp d 78 13 (.ref x :: L) [.ref x] M Q) ∧
    (∀ (d : Nat) (a : Nat) (L : List Value) (M : Mem) (Q : Option Value → Mem → Prop), Wp d 78 13 L [.ref a] M Q ↔ (isK a 11 = true ∧ Wp d 78 16 L [.ref (rt a 3)] M Q)) ∧
    (∀ (d : Nat) (a : Nat) (L : List Value) (M : Mem) (Q : Option Value → Mem → Prop), Wp d 78 16 L [.ref a] M Q ↔ (isK a 9 = true ∧ Wp d 78 19 L [.ref (rt a 1)] M Q)) ∧
    (∀ (d : Nat) (a : Nat) (L : List Value) (M : Mem) (Q : Option Value → Mem → Prop), Wp d 78 19 L [.ref a] M Q ↔ (isK a 6 = true ∧ Wp d 78 22 L [.ref (rt a 2)] M Q)) ∧
    (∀ (d : Nat) (a : Nat) (v0 : Value) (x : Int32) (L : List Value) (M : Mem) (Q : Option Value → Mem → Prop), Wp d 78 22 (v0 :: .int x :: L) [.ref a] M Q ↔ Wp d 78 23 (v0 :: .int x :: L) [.int x, .ref a] M Q) ∧
    (∀ (d : Nat) (a : Int32) (b : Nat) (v0 : Value) (v1 : Value) (x : Int32) (L : List Value) (M : Mem) (Q : Option Value → Mem → Prop), Wp d 78 23 (v0 :: v1 :: .int x :: L) [.int a, .ref b] M Q ↔ Wp d 78 24 (v0 :: v1 :: .int x :: L) [.int x, .int a, .ref b] M Q) ∧
    (∀ (d : Nat) (a : Int32) (b : Int32) (c : Nat) (L : List Value) (M : Mem) (Q : Option Value → Mem → Prop), Wp (d + 1) 78 24 L [.int a, .int b, .ref c] M Q ↔ (isK c 2 = true ∧ Wp d 12 0 [.ref c, .int b, .int a] [] M (fun r M2 => Wp (d + 1) 78 27 L (r.toList ++ []) M2 Q))) ∧
    (∀ (d : Nat) (a : Int32) (L : List Value) (M : Mem) (Q : Option Value → Mem → Prop), Wp d 78 27 L [.int a] M Q ↔ Q (some (.int a)) M) := by
  refine ⟨?_, ?_, ?_, ?_, ?_, ?_, ?_, ?_, ?_, ?_, ?_, ?_, ?_, ?_, ?_⟩
  · intro d x L M Q; exact Wp_sim (by decide +kernel : decode (cd 78) 0 = .ok (.aload_n 0, 1)) rfl rfl
  · intro d a v0 x L M Q; exact Wp_sim (by decide +kernel : decode (cd 78) 1 = .ok (.iload_n 1, 1)) rfl rfl
  · intro d a b v0 v1 x L M Q; exact Wp_sim (by decide +kernel : decode (cd 78) 2 = .ok (.iload_n 2, 1)) rfl rfl
  · intro d a b c L M Q; exact q_invV (pz := 530) (n := 2) (c := 11) (m := 3) (k := c) (As := [.int b, .int a]) (rest := []) (by decide +kernel : decode (cd 78) 3 = .ok (.invokevirtual 201, 3)) (by decide +kernel) (by decide +kernel) rfl rfl (Nat.le_of_ble_eq_true rfl) (Nat.le_of_ble_eq_true rfl) rfl
  · intro d a L M Q; exact q_zne (by decide +kernel : decode (cd 78) 6 = .ok (.ifCond .ne 6, 3)) (by decide)
  · intro d L M Q; exact q_ldc (p := 505) (by decide +kernel : decode (cd 78) 9 = .ok (.ldc 170, 2)) (by decide +kernel)
  · intro d a L M Q; exact q_iret (by decide +kernel : decode (cd 78) 11 = .ok (.ireturn , 1)) (by decide +kernel)
  · intro d x L M Q; exact Wp_sim (by decide +kernel : decode (cd 78) 12 = .ok (.aload_n 0, 1)) rfl rfl
  · intro d a L M Q; exact q_getR (p := 301) (by decide +kernel : decode (cd 78) 13 = .ok (.getfield 33, 3)) (by decide +kernel) (by decide +kernel)
  · intro d a L M Q; exact q_getR (p := 199) (by decide +kernel : decode (cd 78) 16 = .ok (.getfield 132, 3)) (by decide +kernel) (by decide +kernel)
  · intro d a L M Q; exact q_getR (p := 172) (by decide +kernel : decode (cd 78) 19 = .ok (.getfield 159, 3)) (by decide +kernel) (by decide +kernel)
  · intro d a v0 x L M Q; exact Wp_sim (by decide +kernel : decode (cd 78) 22 = .ok (.iload_n 1, 1)) rfl rfl
  · intro d a b v0 v1 x L M Q; exact Wp_sim (by decide +kernel : decode (cd 78) 23 = .ok (.iload_n 2, 1)) rfl rfl
  · intro d a b c L M Q; exact q_invV (pz := 534) (n := 2) (c := 2) (m := 3) (k := c) (As := [.int b, .int a]) (rest := []) (by decide +kernel : decode (cd 78) 24 = .ok (.invokevirtual 205, 3)) (by decide +kernel) (by decide +kernel) rfl rfl (Nat.le_of_ble_eq_true rfl) (Nat.le_of_ble_eq_true rfl) rfl
  · intro d a L M Q; exact q_iret (by decide +kernel : decode (cd 78) 27 = .ok (.ireturn , 1)) (by decide +kernel)

/- 79: PalaceYard.areTwoDebtors -/
set_option maxRecDepth 10000 in
theorem e79 : (∀ (d : Nat) (x : Nat) (L : List Value) (M : Mem) (Q : Option Value → Mem → Prop), Wp d 79 0 (.ref x :: L) [] M Q ↔ Wp d 79 1 (.ref x :: L) [.ref x] M Q) ∧
    (∀ (d : Nat) (a : Nat) (v0 : Value) (x : Int32) (L : List Value) (M : Mem) (Q : Option Value → Mem → Prop), Wp d 79 1 (v0 :: .int x :: L) [.ref a] M Q ↔ Wp d 79 2 (v0 :: .int x :: L) [.int x, .ref a] M Q) ∧
    (∀ (d : Nat) (a : Int32) (b : Nat) (L : List Value) (M : Mem) (Q : Option Value → Mem → Prop), Wp (d + 1) 79 2 L [.int a, .ref b] M Q ↔ (isK b 11 = true ∧ Wp d 77 0 [.ref b, .int a] [] M (fun r M2 => Wp (d + 1) 79 5 L (r.toList ++ []) M2 Q))) ∧
    (∀ (d : Nat) (a : Int32) (L : List Value) (M : Mem) (Q : Option Value → Mem → Prop), Wp d 79 5 L [.int a] M Q ↔ (if a = 0 then Wp d 79 25 L [] M Q else Wp d 79 8 L [] M Q)) ∧
    (∀ (d : Nat) (x : Nat) (L : List Value) (M : Mem) (Q : Option Value → Mem → Prop), Wp d 79 8 (.ref x :: L) [] M Q ↔ Wp d 79 9 (.ref x :: L) [.ref x] M Q) ∧
    (∀ (d : Nat) (a : Nat) (v0 : Value) (v1 : Value) (x : Int32) (L : List Value) (M : Mem) (Q : Option Value → Mem → Prop), Wp d 79 9 (v0 :: v1 :: .int x :: L) [.ref a] M Q ↔ Wp d 79 10 (v0 :: v1 :: .int x :: L) [.int x, .ref a] M Q) ∧
    (∀ (d : Nat) (a : Int32) (b : Nat) (L : List Value) (M : Mem) (Q : Option Value → Mem → Prop), Wp (d + 1) 79 10 L [.int a, .ref b] M Q ↔ (isK b 11 = true ∧ Wp d 77 0 [.ref b, .int a] [] M (fun r M2 => Wp (d + 1) 79 13 L (r.toList ++ []) M2 Q))) ∧
    (∀ (d : Nat) (a : Int32) (L : List Value) (M : Mem) (Q : Option Value → Mem → Prop), Wp d 79 13 L [.int a] M Q ↔ (if a = 0 then Wp d 79 25 L [] M Q else Wp d 79 16 L [] M Q)) ∧
    (∀ (d : Nat) (v0 : Value) (x : Int32) (L : List Value) (M : Mem) (Q : Option Value → Mem → Prop), Wp d 79 16 (v0 :: .int x :: L) [] M Q ↔ Wp d 79 17 (v0 :: .int x :: L) [.int x] M Q) ∧
    (∀ (d : Nat) (a : Int32) (v0 : Value) (v1 : Value) (x : Int32) (L : List Value) (M : Mem) (Q : Option Value → Mem → Prop), Wp d 79 17 (v0 :: v1 :: .int x :: L) [.int a] M Q ↔ Wp d 79 18 (v0 :: v1 :: .int x :: L) [.int x, .int a] M Q) ∧
    (∀ (d : Nat) (a : Int32) (b : Int32) (L : List Value) (M : Mem) (Q : Option Value → Mem → Prop), Wp d 79 18 L [.int a, .int b] M Q ↔ (if b = a then Wp d 79 25 L [] M Q else Wp d 79 21 L [] M Q)) ∧
    (∀ (d : Nat) (L : List Value) (M : Mem) (Q : Option Value → Mem → Prop), Wp d 79 21 L [] M Q ↔ Wp d 79 22 L [.int 1] M Q) ∧
    (∀ (d : Nat) (a : Int32) (L : List Value) (M : Mem) (Q : Option Value → Mem → Prop), Wp d 79 22 L [.int a] M Q ↔ Wp d 79 26 L [.int a] M Q) ∧
    (∀ (d : Nat) (L : List Value) (M : Mem) (Q : Option Value → Mem → Prop), Wp d 79 25 L [] M Q ↔ Wp d 79 26 L [.int 0] M Q) ∧
    (∀ (d : Nat) (a : Int32) (L : List Value) (M : Mem) (Q : Option Value → Mem → Prop), Wp d 79 26 L [.int a] M Q ↔ ((a = 0 ∨ a = 1) ∧ Q (some (.int a)) M)) := by
  refine ⟨?_, ?_, ?_, ?_, ?_, ?_, ?_, ?_, ?_, ?_, ?_, ?_, ?_, ?_, ?_⟩
  · intro d x L M Q; exact Wp_sim (by decide +kernel : decode (cd 79) 0 = .ok (.aload_n 0, 1)) rfl rfl
  · intro d a v0 x L M Q; exact Wp_sim (by decide +kernel : decode (cd 79) 1 = .ok (.iload_n 1, 1)) rfl rfl
  · intro d a b L M Q; exact q_invV (pz := 516) (n := 1) (c := 11) (m := 2) (k := b) (As := [.int a]) (rest := []) (by decide +kernel : decode (cd 79) 2 = .ok (.invokevirtual 175, 3)) (by decide +kernel) (by decide +kernel) rfl rfl (Nat.le_of_ble_eq_true rfl) (Nat.le_of_ble_eq_true rfl) rfl
  · intro d a L M Q; exact q_zeq (by decide +kernel : decode (cd 79) 5 = .ok (.ifCond .eq 20, 3)) (by decide)
  · intro d x L M Q; exact Wp_sim (by decide +kernel : decode (cd 79) 8 = .ok (.aload_n 0, 1)) rfl rfl
  · intro d a v0 v1 x L M Q; exact Wp_sim (by decide +kernel : decode (cd 79) 9 = .ok (.iload_n 2, 1)) rfl rfl
  · intro d a b L M Q; exact q_invV (pz := 516) (n := 1) (c := 11) (m := 2) (k := b) (As := [.int a]) (rest := []) (by decide +kernel : decode (cd 79) 10 = .ok (.invokevirtual 175, 3)) (by decide +kernel) (by decide +kernel) rfl rfl (Nat.le_of_ble_eq_true rfl) (Nat.le_of_ble_eq_true rfl) rfl
  · intro d a L M Q; exact q_zeq (by decide +kernel : decode (cd 79) 13 = .ok (.ifCond .eq 12, 3)) (by decide)
  · intro d v0 x L M Q; exact Wp_sim (by decide +kernel : decode (cd 79) 16 = .ok (.iload_n 1, 1)) rfl rfl
  · intro d a v0 v1 x L M Q; exact Wp_sim (by decide +kernel : decode (cd 79) 17 = .ok (.iload_n 2, 1)) rfl rfl
  · intro d a b L M Q; exact q_ieq (by decide +kernel : decode (cd 79) 18 = .ok (.if_icmp .eq 7, 3)) (by decide)
  · intro d L M Q; exact Wp_sim (by decide +kernel : decode (cd 79) 21 = .ok (.iconst 1, 1)) rfl rfl
  · intro d a L M Q; exact q_goto (by decide +kernel : decode (cd 79) 22 = .ok (.goto 4, 3)) (by decide)
  · intro d L M Q; exact Wp_sim (by decide +kernel : decode (cd 79) 25 = .ok (.iconst 0, 1)) rfl rfl
  · intro d a L M Q; exact q_zret (by decide +kernel : decode (cd 79) 26 = .ok (.ireturn , 1)) (by decide +kernel)

/- 80: PalaceYard.place -/
set_option maxRecDepth 10000 in
theorem e80 : (∀ (d : Nat) (v0 : Value) (x : Int32) (L : List Value) (M : Mem) (Q : Option Value → Mem → Prop), Wp d 80 0 (v0 :: .int x :: L) [] M Q ↔ Wp d 80 1 (v0 :: .int x :: L) [.int x] M Q) ∧
    (∀ (d : Nat) (a : Int32) (L : List Value) (M : Mem) (Q : Option Value → Mem → Prop), Wp d 80 1 L [.int a] M Q ↔ (if a < 0 then Wp d 80 18 L [] M Q else Wp d 80 4 L [] M Q)) ∧
    (∀ (d : Nat) (v0 : Value) (x : Int32) (L : List Value) (M : Mem) (Q : Option Value → Mem → Prop), Wp d 80 4 (v0 :: .int x :: L) [] M Q ↔ Wp d 80 5 (v0 :: .int x :: L) [.int x] M Q) ∧
    (∀ (d : Nat) (a : Int32) (x : Nat) (L : List Value) (M : Mem) (Q : Option Value → Mem → Prop), Wp d 80 5 (.ref x :: L) [.int a] M Q ↔ Wp d 80 6 (.ref x :: L) [.ref x, .int a] M Q) ∧
    (∀ (d : Nat) (a : Nat) (b : Int32) (L : List Value) (M : Mem) (Q : Option Value → Mem → Prop), Wp d 80 6 L [.ref a, .int b] M Q ↔ (isK a 11 = true ∧ Wp d 80 9 L [.ref (rt a 3), .int b] M Q)) ∧
    (∀ (d : Nat) (a : Nat) (b : Int32) (L : List Value) (M : Mem) (Q : Option Value → Mem → Prop), Wp d 80 9 L [.ref a, .int b] M Q ↔ (isK a 9 = true ∧ Wp d 80 12 L [.ref (rt a 0), .int b] M Q)) ∧
    (∀ (d : Nat) (a : Nat) (b : Int32) (L : List Value) (M : Mem) (Q : Option Value → Mem → Prop), Wp d 80 12 L [.ref a, .int b] M Q ↔ (isK a 1 = true ∧ Wp d 80 15 L [.int (M a 14), .int b] M Q)) ∧
    (∀ (d : Nat) (a : Int32) (b : Int32) (L : List Value) (M : Mem) (Q : Option Value → Mem → Prop), Wp d 80 15 L [.int a, .int b] M Q ↔ (if b < a then Wp d 80 21 L [] M Q else Wp d 80 18 L [] M Q)) ∧
    (∀ (d : Nat) (L : List Value) (M : Mem) (Q : Option Value → Mem → Prop), Wp d 80 18 L [] M Q ↔ Wp d 80 20 L [.int (-1000000001)] M Q) ∧
    (∀ (d : Nat) (a : Int32) (L : List Value) (M : Mem) (Q : Option Value → Mem → Prop), Wp d 80 20 L [.int a] M Q ↔ Q (some (.int a)) M) ∧
    (∀ (d : Nat) (v0 : Value) (v1 : Value) (x : Int32) (L : List Value) (M : Mem) (Q : Option Value → Mem → Prop), Wp d 80 21 (v0 :: v1 :: .int x :: L) [] M Q ↔ Wp d 80 22 (v0 :: v1 :: .int x :: L) [.int x] M Q) ∧
    (∀ (d : Nat) (a : Int32) (L : List Value) (M : Mem) (Q : Option Value → Mem → Prop), Wp d 80 22 L [.int a] M Q ↔ (if a = 0 then Wp d 80 48 L [] M Q else (if a = 1 then Wp d 80 61 L [] M Q else (if a = 2 then Wp d 80 74 L [] M Q else Wp d 80 87 L [] M Q)))) ∧
    (∀ (d : Nat) (x : Nat) (L : List Value) (M : Mem) (Q : Option Value → Mem → Prop), Wp d 80 48 (.ref x :: L) [] M Q ↔ Wp d 80 49 (.ref x :: L) [.ref x] M Q) ∧
    (∀ (d : Nat) (a : Nat) (L : List Value) (M : Mem) (Q : Option Value → Mem → Prop), Wp d 80 49 L [.ref a] M Q ↔ (isK a 11 = true ∧ Wp d 80 52 L [.ref (rt a 3)] M Q)) ∧
    (∀ (d : Nat) (a : Nat) (L : List Value) (M : Mem) (Q : Option Value → Mem → Prop), Wp d 80 52 L [.ref a] M Q ↔ (isK a 9 = true ∧ Wp d 80 55 L [.ref (rt a 0)] M Q)) ∧
    (∀ (d : Nat) (a : Nat) (L : List Value) (M : Mem) (Q : Option Value → Mem → Prop), Wp d 80 55 L [.ref a] M Q ↔ (isK a 1 = true ∧ Wp d 80 58 L [.ref (rt a 5)] M Q)) ∧
    (∀ (d : Nat) (a : Nat) (v0 : Value) (x : Int32) (L : List Value) (M : Mem) (Q : Option Value → Mem → Prop), Wp d 80 58 (v0 :: .int x :: L) [.ref a] M Q ↔ Wp d 80 59 (v0 :: .int x :: L) [.int x, .ref a] M Q) ∧
    (∀ (d : Nat) (a : Int32) (b : Nat) (L : List Value) (M : Mem) (Q : Option Value → Mem → Prop), Wp d 80 59 L [.int a, .ref b] M Q ↔ ((isR b = true ∧ inr a (lnm M b)) ∧ Wp d 80 60 L [.int (M b a.toNatClampNeg)] M Q)) ∧
    (∀ (d : Nat) (a : Int32) (L : List Value) (M : Mem) (Q : Option Value → Mem → Prop), Wp d 80 60 L [.int a] M Q ↔ Q (some (.int a)) M) ∧
    (∀ (d : Nat) (x : Nat) (L : List Value) (M : Mem) (Q : Option Value → Mem → Prop), Wp d 80 61 (.ref x :: L) [] M Q ↔ Wp d 80 62 (.ref x :: L) [.ref x] M Q) ∧
    (∀ (d : Nat) (a : Nat) (L : List Value) (M : Mem) (Q : Option Value → Mem → Prop), Wp d 80 62 L [.ref a] M Q ↔ (isK a 11 = true ∧ Wp d 80 65 L [.ref (rt a 3)] M Q)) ∧
    (∀ (d : Nat) (a : Nat) (L : List Value) (M : Mem) (Q : Option Value → Mem → Prop), Wp d 80 65 L [.ref a] M Q ↔ (isK a 9 = true ∧ Wp d 80 68 L [.ref (rt a 0)] M Q)) ∧
    (∀ (d : Nat) (a : Nat) (L : List Value) (M : Mem) (Q : Option Value → Mem → Prop), Wp d 80 68 L [.ref a] M Q ↔ (isK a 1 = true ∧ Wp d 80 71 L [.ref (rt a 6)] M Q)) ∧
    (∀ (d : Nat) (a : Nat) (v0 : Value) (x : Int32) (L : List Value) (M : Mem) (Q : Option Value → Mem → Prop), Wp d 80 71 (v0 :: .int x :: L) [.ref a] M Q ↔ Wp d 80 72 (v0 :: .int x :: L) [.int x, .ref a] M Q) ∧
    (∀ (d : Nat) (a : Int32) (b : Nat) (L : List Value) (M : Mem) (Q : Option Value → Mem → Prop), Wp d 80 72 L [.int a, .ref b] M Q ↔ ((isR b = true ∧ inr a (lnm M b)) ∧ Wp d 80 73 L [.int (M b a.toNatClampNeg)] M Q)) ∧
    (∀ (d : Nat) (a : Int32) (L : List Value) (M : Mem) (Q : Option Value → Mem → Prop), Wp d 80 73 L [.int a] M Q ↔ Q (some (.int a)) M) ∧
    (∀ (d : Nat) (x : Nat) (L : List Value) (M : Mem) (Q : Option Value → Mem → Prop), Wp d 80 74 (.ref x :: L) [] M Q ↔ Wp d 80 75 (.ref x :: L) [.ref x] M Q) ∧
    (∀ (d : Nat) (a : Nat) (L : List Value) (M : Mem) (Q : Option Value → Mem → Prop), Wp d 80 75 L [.ref a] M Q ↔ (isK a 11 = true ∧ Wp d 80 78 L [.ref (rt a 3)] M Q)) ∧
    (∀ (d : Nat) (a : Nat) (L : List Value) (M : Mem) (Q : Option Value → Mem → Prop), Wp d 80 78 L [.ref a] M Q ↔ (isK a 9 = true ∧ Wp d 80 81 L [.ref (rt a 0)] M Q)) ∧
    (∀ (d : Nat) (a : Nat) (L : List Value) (M : Mem) (Q : Option Value → Mem → Prop), Wp d 80 81 L [.ref a] M Q ↔ (isK a 1 = true ∧ Wp d 80 84 L [.ref (rt a 7)] M Q)) ∧
    (∀ (d : Nat) (a : Nat) (v0 : Value) (x : Int32) (L : List Value) (M : Mem) (Q : Option Value → Mem → Prop), Wp d 80 84 (v0 :: .int x :: L) [.ref a] M Q ↔ Wp d 80 85 (v0 :: .int x :: L) [.int x, .ref a] M Q) ∧
    (∀ (d : Nat) (a : Int32) (b : Nat) (L : List Value) (M : Mem) (Q : Option Value → Mem → Prop), Wp d 80 85 L [.int a, .ref b] M Q ↔ ((isR b = true ∧ inr a (lnm M b)) ∧ Wp d 80 86 L [.int (M b a.toNatClampNeg)] M Q)) ∧
    (∀ (d : Nat) (a : Int32) (L : List Value) (M : Mem) (Q : Option Value → Mem → Prop), Wp d 80 86 L [.int a] M Q ↔ Q (some (.int a)) M) ∧
    (∀ (d : Nat) (L : List Value) (M : Mem) (Q : Option Value → Mem → Prop), Wp d 80 87 L [] M Q ↔ Wp d 80 89 L [.int (-1000000002)] M Q) ∧
    (∀ (d : Nat) (a : Int32) (L : List Value) (M : Mem) (Q : Option Value → Mem → Prop), Wp d 80 89 L [.int a] M Q ↔ Q (some (.int a)) M) := by
  refine ⟨?_, ?_, ?_, ?_, ?_, ?_, ?_, ?_, ?_, ?_, ?_, ?_, ?_, ?_, ?_, ?_, ?_, ?_, ?_, ?_, ?_, ?_, ?_, ?_, ?_, ?_, ?_, ?_, ?_, ?_, ?_, ?_, ?_, ?_, ?_⟩
  · intro d v0 x L M Q; exact Wp_sim (by decide +kernel : decode (cd 80) 0 = .ok (.iload_n 1, 1)) rfl rfl
  · intro d a L M Q; exact q_zlt (by decide +kernel : decode (cd 80) 1 = .ok (.ifCond .lt 17, 3)) (by decide)
  · intro d v0 x L M Q; exact Wp_sim (by decide +kernel : decode (cd 80) 4 = .ok (.iload_n 1, 1)) rfl rfl
  · intro d a x L M Q; exact Wp_sim (by decide +kernel : decode (cd 80) 5 = .ok (.aload_n 0, 1)) rfl rfl
  · intro d a b L M Q; exact q_getR (p := 301) (by decide +kernel : decode (cd 80) 6 = .ok (.getfield 33, 3)) (by decide +kernel) (by decide +kernel)
  · intro d a b L M Q; exact q_getR (p := 197) (by decide +kernel : decode (cd 80) 9 = .ok (.getfield 111, 3)) (by decide +kernel) (by decide +kernel)
  · intro d a b L M Q; exact q_getI (p := 107) (by decide +kernel : decode (cd 80) 12 = .ok (.getfield 129, 3)) (by decide +kernel) (by decide +kernel)
  · intro d a b L M Q; exact q_ilt (by decide +kernel : decode (cd 80) 15 = .ok (.if_icmp .lt 6, 3)) (by decide)
  · intro d L M Q; exact q_ldc (p := 505) (by decide +kernel : decode (cd 80) 18 = .ok (.ldc 170, 2)) (by decide +kernel)
  · intro d a L M Q; exact q_iret (by decide +kernel : decode (cd 80) 20 = .ok (.ireturn , 1)) (by decide +kernel)
  · intro d v0 v1 x L M Q; exact Wp_sim (by decide +kernel : decode (cd 80) 21 = .ok (.iload_n 2, 1)) rfl rfl
  · intro d a L M Q
    by_cases h0 : a = 0
    · subst h0; rw [if_pos rfl]; exact q_tsw (by decide +kernel : decode (cd 80) 22 = .ok (.tableswitch 65 0 2 #[26, 39, 52], 26)) (by decide) (by decide +kernel)
    rw [if_neg h0]
    by_cases h1 : a = 1
    · subst h1; rw [if_pos rfl]; exact q_tsw (by decide +kernel : decode (cd 80) 22 = .ok (.tableswitch 65 0 2 #[26, 39, 52], 26)) (by decide) (by decide +kernel)
    rw [if_neg h1]
    by_cases h2 : a = 2
    · subst h2; rw [if_pos rfl]; exact q_tsw (by decide +kernel : decode (cd 80) 22 = .ok (.tableswitch 65 0 2 #[26, 39, 52], 26)) (by decide) (by decide +kernel)
    rw [if_neg h2]
    refine q_tsw (by decide +kernel : decode (cd 80) 22 = .ok (.tableswitch 65 0 2 #[26, 39, 52], 26)) (by decide) ?_
    rw [tsw_out ?_]
    · decide
    have g0 := lv_neT h0 (a := 0) (by decide)
    have g1 := lv_neT h1 (a := 1) (by decide)
    have g2 := lv_neT h2 (a := 2) (by decide)
    omega
  · intro d x L M Q; exact Wp_sim (by decide +kernel : decode (cd 80) 48 = .ok (.aload_n 0, 1)) rfl rfl
  · intro d a L M Q; exact q_getR (p := 301) (by decide +kernel : decode (cd 80) 49 = .ok (.getfield 33, 3)) (by decide +kernel) (by decide +kernel)
  · intro d a L M Q; exact q_getR (p := 197) (by decide +kernel : decode (cd 80) 52 = .ok (.getfield 111, 3)) (by decide +kernel) (by decide +kernel)
  · intro d a L M Q; exact q_getR (p := 80) (by decide +kernel : decode (cd 80) 55 = .ok (.getfield 208, 3)) (by decide +kernel) (by decide +kernel)
  · intro d a v0 x L M Q; exact Wp_sim (by decide +kernel : decode (cd 80) 58 = .ok (.iload_n 1, 1)) rfl rfl
  · intro d a b L M Q; exact q_ald (by decide +kernel : decode (cd 80) 59 = .ok (.iaload , 1))
  · intro d a L M Q; exact q_iret (by decide +kernel : decode (cd 80) 60 = .ok (.ireturn , 1)) (by decide +kernel)
  · intro d x L M Q; exact Wp_sim (by decide +kernel : decode (cd 80) 61 = .ok (.aload_n 0, 1)) rfl rfl
  · intro d a L M Q; exact q_getR (p := 301) (by decide +kernel : decode (cd 80) 62 = .ok (.getfield 33, 3)) (by decide +kernel) (by decide +kernel)
  · intro d a L M Q; exact q_getR (p := 197) (by decide +kernel : decode (cd 80) 65 = .ok (.getfield 111, 3)) (by decide +kernel) (by decide +kernel)
  · intro d a L M Q; exact q_getR (p := 82) (by decide +kernel : decode (cd 80) 68 = .ok (.getfield 211, 3)) (by decide +kernel) (by decide +kernel)
  · intro d a v0 x L M Q; exact Wp_sim (by decide +kernel : decode (cd 80) 71 = .ok (.iload_n 1, 1)) rfl rfl
  · intro d a b L M Q; exact q_ald (by decide +kernel : decode (cd 80) 72 = .ok (.iaload , 1))
  · intro d a L M Q; exact q_iret (by decide +kernel : decode (cd 80) 73 = .ok (.ireturn , 1)) (by decide +kernel)
  · intro d x L M Q; exact Wp_sim (by decide +kernel : decode (cd 80) 74 = .ok (.aload_n 0, 1)) rfl rfl
  · intro d a L M Q; exact q_getR (p := 301) (by decide +kernel : decode (cd 80) 75 = .ok (.getfield 33, 3)) (by decide +kernel) (by decide +kernel)
  · intro d a L M Q; exact q_getR (p := 197) (by decide +kernel : decode (cd 80) 78 = .ok (.getfield 111, 3)) (by decide +kernel) (by decide +kernel)
  · intro d a L M Q; exact q_getR (p := 85) (by decide +kernel : decode (cd 80) 81 = .ok (.getfield 214, 3)) (by decide +kernel) (by decide +kernel)
  · intro d a v0 x L M Q; exact Wp_sim (by decide +kernel : decode (cd 80) 84 = .ok (.iload_n 1, 1)) rfl rfl
  · intro d a b L M Q; exact q_ald (by decide +kernel : decode (cd 80) 85 = .ok (.iaload , 1))
  · intro d a L M Q; exact q_iret (by decide +kernel : decode (cd 80) 86 = .ok (.ireturn , 1)) (by decide +kernel)
  · intro d L M Q; exact q_ldc (p := 339) (by decide +kernel : decode (cd 80) 87 = .ok (.ldc 82, 2)) (by decide +kernel)
  · intro d a L M Q; exact q_iret (by decide +kernel : decode (cd 80) 89 = .ok (.ireturn , 1)) (by decide +kernel)

/- 81: PalaceYard.week -/
set_option maxRecDepth 10000 in
theorem e81 : (∀ (d : Nat) (x : Nat) (L : List Value) (M : Mem) (Q : Option Value → Mem → Prop), Wp d 81 0 (.ref x :: L) [] M Q ↔ Wp d 81 1 (.ref x :: L) [.ref x] M Q) ∧
    (∀ (d : Nat) (a : Nat) (v0 : Value) (x : Int32) (L : List Value) (M : Mem) (Q : Option Value → Mem → Prop), Wp d 81 1 (v0 :: .int x :: L) [.ref a] M Q ↔ Wp d 81 2 (v0 :: .int x :: L) [.int x, .ref a] M Q) ∧
    (∀ (d : Nat) (a : Int32) (b : Nat) (L : List Value) (M : Mem) (Q : Option Value → Mem → Prop), Wp (d + 1) 81 2 L [.int a, .ref b] M Q ↔ (isK b 11 = true ∧ Wp d 82 0 [.ref b, .int a] [] M (fun r M2 => Wp (d + 1) 81 5 L (r.toList ++ []) M2 Q))) ∧
    (∀ (d : Nat) (a : Int32) (v0 : Value) (v1 : Value) (x : Value) (L : List Value) (M : Mem) (Q : Option Value → Mem → Prop), Wp d 81 5 (v0 :: v1 :: x :: L) [.int a] M Q ↔ Wp d 81 6 (v0 :: clr v1 :: .int a :: L) [] M Q) ∧
    (∀ (d : Nat) (v0 : Value) (v1 : Value) (x : Int32) (L : List Value) (M : Mem) (Q : Option Value → Mem → Prop), Wp d 81 6 (v0 :: v1 :: .int x :: L) [] M Q ↔ Wp d 81 7 (v0 :: v1 :: .int x :: L) [.int x] M Q) ∧
    (∀ (d : Nat) (a : Int32) (L : List Value) (M : Mem) (Q : Option Value → Mem → Prop), Wp d 81 7 L [.int a] M Q ↔ (if a = 0 then Wp d 81 12 L [] M Q else Wp d 81 10 L [] M Q)) ∧
    (∀ (d : Nat) (v0 : Value) (v1 : Value) (x : Int32) (L : List Value) (M : Mem) (Q : Option Value → Mem → Prop), Wp d 81 10 (v0 :: v1 :: .int x :: L) [] M Q ↔ Wp d 81 11 (v0 :: v1 :: .int x :: L) [.int x] M Q) ∧
    (∀ (d : Nat) (a : Int32) (L : List Value) (M : Mem) (Q : Option Value → Mem → Prop), Wp d 81 11 L [.int a] M Q ↔ Q (some (.int a)) M) ∧
    (∀ (d : Nat) (x : Nat) (L : List Value) (M : Mem) (Q : Option Value → Mem → Prop), Wp d 81 12 (.ref x :: L) [] M Q ↔ Wp d 81 13 (.ref x :: L) [.ref x] M Q) ∧
    (∀ (d : Nat) (a : Nat) (L : List Value) (M : Mem) (Q : Option Value → Mem → Prop), Wp d 81 13 L [.ref a] M Q ↔ (isK a 11 = true ∧ Wp d 81 16 L [.ref (rt a 5)] M Q)) ∧
    (∀ (d : Nat) (a : Nat) (x : Nat) (L : List Value) (M : Mem) (Q : Option Value → Mem → Prop), Wp d 81 16 (.ref x :: L) [.ref a] M Q ↔ Wp d 81 17 (.ref x :: L) [.ref x, .ref a] M Q) ∧
    (∀ (d : Nat) (a : Nat) (b : Nat) (L : List Value) (M : Mem) (Q : Option Value → Mem → Prop), Wp d 81 17 L [.ref a, .ref b] M Q ↔ (isK a 11 = true ∧ Wp d 81 20 L [.ref (rt a 3), .ref b] M Q)) ∧
    (∀ (d : Nat) (a : Nat) (b : Nat) (L : List Value) (M : Mem) (Q : Option Value → Mem → Prop), Wp d 81 20 L [.ref a, .ref b] M Q ↔ (isK a 9 = true ∧ Wp d 81 23 L [.ref (rt a 1), .ref b] M Q)) ∧
    (∀ (d : Nat) (a : Nat) (b : Nat) (L : List Value) (M : Mem) (Q : Option Value → Mem → Prop), Wp (d + 1) 81 23 L [.ref a, .ref b] M Q ↔ (isK b 7 = true ∧ Wp d 29 0 [.ref b, .ref a] [] M (fun r M2 => Wp (d + 1) 81 26 L (r.toList ++ []) M2 Q))) ∧
    (∀ (d : Nat) (L : List Value) (M : Mem) (Q : Option Value → Mem → Prop), Wp d 81 26 L [] M Q ↔ Wp d 81 27 L [.int 0] M Q) ∧
    (∀ (d : Nat) (a : Int32) (v0 : Value) (v1 : Value) (v2 : Value) (x : Value) (L : List Value) (M : Mem) (Q : Option Value → Mem → Prop), Wp d 81 27 (v0 :: v1 :: v2 :: x :: L) [.int a] M Q ↔ Wp d 81 28 (v0 :: v1 :: clr v2 :: .int a :: L) [] M Q) ∧
    (∀ (d : Nat) (a : Int32) (v0 : Value) (x : Int32) (L : List Value) (M : Mem) (Q : Option Value → Mem → Prop), Wp d 81 29 (v0 :: .int x :: L) [.int a] M Q ↔ Wp d 81 30 (v0 :: .int x :: L) [.int x, .int a] M Q) ∧
    (∀ (d : Nat) (a : Int32) (b : Int32) (L : List Value) (M : Mem) (Q : Option Value → Mem → Prop), Wp d 81 30 L [.int a, .int b] M Q ↔ (if b < a then Wp d 81 33 L [] M Q else Wp d 81 46 L [] M Q)) ∧
    (∀ (d : Nat) (x : Nat) (L : List Value) (M : Mem) (Q : Option Value → Mem → Prop), Wp d 81 33 (.ref x :: L) [] M Q ↔ Wp d 81 34 (.ref x :: L) [.ref x] M Q) ∧
    (∀ (d : Nat) (a : Nat) (L : List Value) (M : Mem) (Q : Option Value → Mem → Prop), Wp d 81 34 L [.ref a] M Q ↔ (isK a 11 = true ∧ Wp d 81 37 L [.ref (rt a 3)] M Q)) ∧
    (∀ (d : Nat) (a : Nat) (L : List Value) (M : Mem) (Q : Option Value → Mem → Prop), Wp (d + 1) 81 37 L [.ref a] M Q ↔ (isK a 9 = true ∧ Wp d 51 0 [.ref a, .null] [] M (fun r M2 => Wp (d + 1) 81 40 L (r.toList ++ []) M2 Q))) ∧
    (∀ (d : Nat) (v0 : Value) (v1 : Value) (v2 : Value) (x : Int32) (L : List Value) (M : Mem) (Q : Option Value → Mem → Prop), Wp d 81 40 (v0 :: v1 :: v2 :: .int x :: L) [] M Q ↔ Wp d 81 43 (v0 :: v1 :: clr v2 :: .int (x + 1) :: L) [] M Q) ∧
    (∀ (d : Nat) (L : List Value) (M : Mem) (Q : Option Value → Mem → Prop), Wp d 81 43 L [] M Q ↔ Wp d 81 28 L [] M Q) ∧
    (∀ (d : Nat) (x : Nat) (L : List Value) (M : Mem) (Q : Option Value → Mem → Prop), Wp d 81 46 (.ref x :: L) [] M Q ↔ Wp d 81 47 (.ref x :: L) [.ref x] M Q) ∧
    (∀ (d : Nat) (a : Nat) (L : List Value) (M : Mem) (Q : Option Value → Mem → Prop), Wp d 81 47 L [.ref a] M Q ↔ (isK a 11 = true ∧ Wp d 81 50 L [.ref (rt a 3)] M Q)) ∧
    (∀ (d : Nat) (a : Nat) (L : List Value) (M : Mem) (Q : Option Value → Mem → Prop), Wp d 81 50 L [.ref a] M Q ↔ (isK a 9 = true ∧ Wp d 81 53 L [.ref (rt a 1)] M Q)) ∧
    (∀ (d : Nat) (a : Nat) (L : List Value) (M : Mem) (Q : Option Value → Mem → Prop), Wp d 81 53 L [.ref a] M Q ↔ (isK a 6 = true ∧ Wp d 81 56 L [.int (M a 3)] M Q)) ∧
    (∀ (d : Nat) (a : Int32) (L : List Value) (M : Mem) (Q : Option Value → Mem → Prop), Wp d 81 56 L [.int a] M Q ↔ Q (some (.int a)) M) := by
  refine ⟨?_, ?_, ?_, ?_, ?_, ?_, ?_, ?_, ?_, ?_, ?_, ?_, ?_, ?_, ?_, ?_, ?_, ?_, ?_, ?_, ?_, ?_, ?_, ?_, ?_, ?_, ?_, ?_⟩
  · intro d x L M Q; exact Wp_sim (by decide +kernel : decode (cd 81) 0 = .ok (.aload_n 0, 1)) rfl rfl
  · intro d a v0 x L M Q; exact Wp_sim (by decide +kernel : decode (cd 81) 1 = .ok (.iload_n 1, 1)) rfl rfl
  · intro d a b L M Q; exact q_invV (pz := 543) (n := 1) (c := 11) (m := 2) (k := b) (As := [.int a]) (rest := []) (by decide +kernel : decode (cd 81) 2 = .ok (.invokevirtual 217, 3)) (by decide +kernel) (by decide +kernel) rfl rfl (Nat.le_of_ble_eq_true rfl) (Nat.le_of_ble_eq_true rfl) rfl
  · intro d a v0 v1 x L M Q; exact Wp_sim (by decide +kernel : decode (cd 81) 5 = .ok (.istore_n 2, 1)) rfl rfl
  · intro d v0 v1 x L M Q; exact Wp_sim (by decide +kernel : decode (cd 81) 6 = .ok (.iload_n 2, 1)) rfl rfl
  · intro d a L M Q; exact q_zeq (by decide +kernel : decode (cd 81) 7 = .ok (.ifCond .eq 5, 3)) (by decide)
  · intro d v0 v1 x L M Q; exact Wp_sim (by decide +kernel : decode (cd 81) 10 = .ok (.iload_n 2, 1)) rfl rfl
  · intro d a L M Q; exact q_iret (by decide +kernel : decode (cd 81) 11 = .ok (.ireturn , 1)) (by decide +kernel)
  · intro d x L M Q; exact Wp_sim (by decide +kernel : decode (cd 81) 12 = .ok (.aload_n 0, 1)) rfl rfl
  · intro d a L M Q; exact q_getR (p := 303) (by decide +kernel : decode (cd 81) 13 = .ok (.getfield 47, 3)) (by decide +kernel) (by decide +kernel)
  · intro d a x L M Q; exact Wp_sim (by decide +kernel : decode (cd 81) 16 = .ok (.aload_n 0, 1)) rfl rfl
  · intro d a b L M Q; exact q_getR (p := 301) (by decide +kernel : decode (cd 81) 17 = .ok (.getfield 33, 3)) (by decide +kernel) (by decide +kernel)
  · intro d a b L M Q; exact q_getR (p := 199) (by decide +kernel : decode (cd 81) 20 = .ok (.getfield 132, 3)) (by decide +kernel) (by decide +kernel)
  · intro d a b L M Q; exact q_invV (pz := 548) (n := 1) (c := 7) (m := 2) (k := b) (As := [.ref a]) (rest := []) (by decide +kernel : decode (cd 81) 23 = .ok (.invokevirtual 220, 3)) (by decide +kernel) (by decide +kernel) rfl rfl (Nat.le_of_ble_eq_true rfl) (Nat.le_of_ble_eq_true rfl) rfl
  · intro d L M Q; exact Wp_sim (by decide +kernel : decode (cd 81) 26 = .ok (.iconst 0, 1)) rfl rfl
  · intro d a v0 v1 v2 x L M Q; exact Wp_sim (by decide +kernel : decode (cd 81) 27 = .ok (.istore_n 3, 1)) rfl rfl
  · intro d a v0 x L M Q; exact Wp_sim (by decide +kernel : decode (cd 81) 29 = .ok (.iload_n 1, 1)) rfl rfl
  · intro d a b L M Q; exact q_ige (by decide +kernel : decode (cd 81) 30 = .ok (.if_icmp .ge 16, 3)) (by decide)
  · intro d x L M Q; exact Wp_sim (by decide +kernel : decode (cd 81) 33 = .ok (.aload_n 0, 1)) rfl rfl
  · intro d a L M Q; exact q_getR (p := 301) (by decide +kernel : decode (cd 81) 34 = .ok (.getfield 33, 3)) (by decide +kernel) (by decide +kernel)
  · intro d a L M Q; exact q_invV (pz := 558) (n := 0) (c := 9) (m := 2) (k := a) (As := []) (rest := []) (by decide +kernel : decode (cd 81) 37 = .ok (.invokevirtual 224, 3)) (by decide +kernel) (by decide +kernel) rfl rfl (Nat.le_of_ble_eq_true rfl) (Nat.le_of_ble_eq_true rfl) rfl
  · intro d v0 v1 v2 x L M Q; exact Wp_sim (by decide +kernel : decode (cd 81) 40 = .ok (.iinc 3 1, 3)) rfl rfl
  · intro d L M Q; exact q_goto (by decide +kernel : decode (cd 81) 43 = .ok (.goto (-15), 3)) (by decide)
  · intro d x L M Q; exact Wp_sim (by decide +kernel : decode (cd 81) 46 = .ok (.aload_n 0, 1)) rfl rfl
  · intro d a L M Q; exact q_getR (p := 301) (by decide +kernel : decode (cd 81) 47 = .ok (.getfield 33, 3)) (by decide +kernel) (by decide +kernel)
  · intro d a L M Q; exact q_getR (p := 199) (by decide +kernel : decode (cd 81) 50 = .ok (.getfield 132, 3)) (by decide +kernel) (by decide +kernel)
  · intro d a L M Q; exact q_getI (p := 175) (by decide +kernel : decode (cd 81) 53 = .ok (.getfield 136, 3)) (by decide +kernel) (by decide +kernel)
  · intro d a L M Q; exact q_iret (by decide +kernel : decode (cd 81) 56 = .ok (.ireturn , 1)) (by decide +kernel)
theorem h81_28 : (∀ (d : Nat) (v0 : Value) (v1 : Value) (v2 : Value) (x : Int32) (L : List Value) (M : Mem) (Q : Option Value → Mem → Prop), Wp d 81 28 (v0 :: v1 :: v2 :: .int x :: L) [] M Q ↔ Wp d 81 29 (v0 :: v1 :: v2 :: .int x :: L) [.int x] M Q) := by
  intro d v0 v1 v2 x L M Q; exact Wp_sim (by decide +kernel : decode (cd 81) 28 = .ok (.iload_n 3, 1)) rfl rfl

/- 82: PalaceYard.refusalOfWeeks -/
set_option maxRecDepth 10000 in
theorem e82 : (∀ (d : Nat) (v0 : Value) (x : Int32) (L : List Value) (M : Mem) (Q : Option Value → Mem → Prop), Wp d 82 0 (v0 :: .int x :: L) [] M Q ↔ Wp d 82 1 (v0 :: .int x :: L) [.int x] M Q) ∧
    (∀ (d : Nat) (a : Int32) (L : List Value) (M : Mem) (Q : Option Value → Mem → Prop), Wp d 82 1 L [.int a] M Q ↔ Wp d 82 2 L [.int 1, .int a] M Q) ∧
    (∀ (d : Nat) (a : Int32) (b : Int32) (L : List Value) (M : Mem) (Q : Option Value → Mem → Prop), Wp d 82 2 L [.int a, .int b] M Q ↔ (if b < a then Wp d 82 11 L [] M Q else Wp d 82 5 L [] M Q)) ∧
    (∀ (d : Nat) (v0 : Value) (x : Int32) (L : List Value) (M : Mem) (Q : Option Value → Mem → Prop), Wp d 82 5 (v0 :: .int x :: L) [] M Q ↔ Wp d 82 6 (v0 :: .int x :: L) [.int x] M Q) ∧
    (∀ (d : Nat) (a : Int32) (L : List Value) (M : Mem) (Q : Option Value → Mem → Prop), Wp d 82 6 L [.int a] M Q ↔ Wp d 82 8 L [.int 60, .int a] M Q) ∧
    (∀ (d : Nat) (a : Int32) (b : Int32) (L : List Value) (M : Mem) (Q : Option Value → Mem → Prop), Wp d 82 8 L [.int a, .int b] M Q ↔ (if a < b then Wp d 82 11 L [] M Q else Wp d 82 14 L [] M Q)) ∧
    (∀ (d : Nat) (L : List Value) (M : Mem) (Q : Option Value → Mem → Prop), Wp d 82 11 L [] M Q ↔ Wp d 82 13 L [.int (-1000000002)] M Q) ∧
    (∀ (d : Nat) (a : Int32) (L : List Value) (M : Mem) (Q : Option Value → Mem → Prop), Wp d 82 13 L [.int a] M Q ↔ Q (some (.int a)) M) ∧
    (∀ (d : Nat) (x : Nat) (L : List Value) (M : Mem) (Q : Option Value → Mem → Prop), Wp d 82 14 (.ref x :: L) [] M Q ↔ Wp d 82 15 (.ref x :: L) [.ref x] M Q) ∧
    (∀ (d : Nat) (a : Nat) (L : List Value) (M : Mem) (Q : Option Value → Mem → Prop), Wp d 82 15 L [.ref a] M Q ↔ (isK a 11 = true ∧ Wp d 82 18 L [.ref (rt a 3)] M Q)) ∧
    (∀ (d : Nat) (a : Nat) (L : List Value) (M : Mem) (Q : Option Value → Mem → Prop), Wp d 82 18 L [.ref a] M Q ↔ (isK a 9 = true ∧ Wp d 82 21 L [.ref (rt a 0)] M Q)) ∧
    (∀ (d : Nat) (a : Nat) (L : List Value) (M : Mem) (Q : Option Value → Mem → Prop), Wp d 82 21 L [.ref a] M Q ↔ (isK a 1 = true ∧ Wp d 82 24 L [.int (M a 8)] M Q)) ∧
    (∀ (d : Nat) (a : Int32) (L : List Value) (M : Mem) (Q : Option Value → Mem → Prop), Wp d 82 24 L [.int a] M Q ↔ (if a = 0 then Wp d 82 27 L [] M Q else Wp d 82 30 L [] M Q)) ∧
    (∀ (d : Nat) (L : List Value) (M : Mem) (Q : Option Value → Mem → Prop), Wp d 82 27 L [] M Q ↔ Wp d 82 29 L [.int (-1000000003)] M Q) ∧
    (∀ (d : Nat) (a : Int32) (L : List Value) (M : Mem) (Q : Option Value → Mem → Prop), Wp d 82 29 L [.int a] M Q ↔ Q (some (.int a)) M) ∧
    (∀ (d : Nat) (x : Nat) (L : List Value) (M : Mem) (Q : Option Value → Mem → Prop), Wp d 82 30 (.ref x :: L) [] M Q ↔ Wp d 82 31 (.ref x :: L) [.ref x] M Q) ∧
    (∀ (d : Nat) (a : Nat) (L : List Value) (M : Mem) (Q : Option Value → Mem → Prop), Wp d 82 31 L [.ref a] M Q ↔ (isK a 11 = true ∧ Wp d 82 34 L [.ref (rt a 3)] M Q)) ∧
    (∀ (d : Nat) (a : Nat) (L : List Value) (M : Mem) (Q : Option Value → Mem → Prop), Wp d 82 34 L [.ref a] M Q ↔ (isK a 9 = true ∧ Wp d 82 37 L [.ref (rt a 1)] M Q)) ∧
    (∀ (d : Nat) (a : Nat) (L : List Value) (M : Mem) (Q : Option Value → Mem → Prop), Wp d 82 37 L [.ref a] M Q ↔ (isK a 6 = true ∧ Wp d 82 40 L [.int (M a 3)] M Q)) ∧
    (∀ (d : Nat) (a : Int32) (L : List Value) (M : Mem) (Q : Option Value → Mem → Prop), Wp d 82 40 L [.int a] M Q ↔ Wp d 82 43 L [.int 9000, .int a] M Q) ∧
    (∀ (d : Nat) (a : Int32) (b : Int32) (L : List Value) (M : Mem) (Q : Option Value → Mem → Prop), Wp d 82 43 L [.int a, .int b] M Q ↔ (if a < b then Wp d 82 46 L [] M Q else Wp d 82 51 L [] M Q)) ∧
    (∀ (d : Nat) (L : List Value) (M : Mem) (Q : Option Value → Mem → Prop), Wp d 82 46 L [] M Q ↔ Wp d 82 48 L [.int (-1000000004)] M Q) ∧
    (∀ (d : Nat) (a : Int32) (L : List Value) (M : Mem) (Q : Option Value → Mem → Prop), Wp d 82 48 L [.int a] M Q ↔ Wp d 82 52 L [.int a] M Q) ∧
    (∀ (d : Nat) (L : List Value) (M : Mem) (Q : Option Value → Mem → Prop), Wp d 82 51 L [] M Q ↔ Wp d 82 52 L [.int 0] M Q) ∧
    (∀ (d : Nat) (a : Int32) (L : List Value) (M : Mem) (Q : Option Value → Mem → Prop), Wp d 82 52 L [.int a] M Q ↔ Q (some (.int a)) M) := by
  refine ⟨?_, ?_, ?_, ?_, ?_, ?_, ?_, ?_, ?_, ?_, ?_, ?_, ?_, ?_, ?_, ?_, ?_, ?_, ?_, ?_, ?_, ?_, ?_, ?_, ?_⟩
  · intro d v0 x L M Q; exact Wp_sim (by decide +kernel : decode (cd 82) 0 = .ok (.iload_n 1, 1)) rfl rfl
  · intro d a L M Q; exact Wp_sim (by decide +kernel : decode (cd 82) 1 = .ok (.iconst 1, 1)) rfl rfl
  · intro d a b L M Q; exact q_ilt (by decide +kernel : decode (cd 82) 2 = .ok (.if_icmp .lt 9, 3)) (by decide)
  · intro d v0 x L M Q; exact Wp_sim (by decide +kernel : decode (cd 82) 5 = .ok (.iload_n 1, 1)) rfl rfl
  · intro d a L M Q; exact Wp_sim (by decide +kernel : decode (cd 82) 6 = .ok (.bipush 60, 2)) rfl rfl
  · intro d a b L M Q; exact q_ile (by decide +kernel : decode (cd 82) 8 = .ok (.if_icmp .le 6, 3)) (by decide)
  · intro d L M Q; exact q_ldc (p := 339) (by decide +kernel : decode (cd 82) 11 = .ok (.ldc 82, 2)) (by decide +kernel)
  · intro d a L M Q; exact q_iret (by decide +kernel : decode (cd 82) 13 = .ok (.ireturn , 1)) (by decide +kernel)
  · intro d x L M Q; exact Wp_sim (by decide +kernel : decode (cd 82) 14 = .ok (.aload_n 0, 1)) rfl rfl
  · intro d a L M Q; exact q_getR (p := 301) (by decide +kernel : decode (cd 82) 15 = .ok (.getfield 33, 3)) (by decide +kernel) (by decide +kernel)
  · intro d a L M Q; exact q_getR (p := 197) (by decide +kernel : decode (cd 82) 18 = .ok (.getfield 111, 3)) (by decide +kernel) (by decide +kernel)
  · intro d a L M Q; exact q_getI (p := 88) (by decide +kernel : decode (cd 82) 21 = .ok (.getfield 336, 3)) (by decide +kernel) (by decide +kernel)
  · intro d a L M Q; exact q_zne (by decide +kernel : decode (cd 82) 24 = .ok (.ifCond .ne 6, 3)) (by decide)
  · intro d L M Q; exact q_ldc (p := 547) (by decide +kernel : decode (cd 82) 27 = .ok (.ldc 230, 2)) (by decide +kernel)
  · intro d a L M Q; exact q_iret (by decide +kernel : decode (cd 82) 29 = .ok (.ireturn , 1)) (by decide +kernel)
  · intro d x L M Q; exact Wp_sim (by decide +kernel : decode (cd 82) 30 = .ok (.aload_n 0, 1)) rfl rfl
  · intro d a L M Q; exact q_getR (p := 301) (by decide +kernel : decode (cd 82) 31 = .ok (.getfield 33, 3)) (by decide +kernel) (by decide +kernel)
  · intro d a L M Q; exact q_getR (p := 199) (by decide +kernel : decode (cd 82) 34 = .ok (.getfield 132, 3)) (by decide +kernel) (by decide +kernel)
  · intro d a L M Q; exact q_getI (p := 175) (by decide +kernel : decode (cd 82) 37 = .ok (.getfield 136, 3)) (by decide +kernel) (by decide +kernel)
  · intro d a L M Q; exact Wp_sim (by decide +kernel : decode (cd 82) 40 = .ok (.sipush 9000, 3)) rfl rfl
  · intro d a b L M Q; exact q_ile (by decide +kernel : decode (cd 82) 43 = .ok (.if_icmp .le 8, 3)) (by decide)
  · intro d L M Q; exact q_ldc (p := 340) (by decide +kernel : decode (cd 82) 46 = .ok (.ldc 86, 2)) (by decide +kernel)
  · intro d a L M Q; exact q_goto (by decide +kernel : decode (cd 82) 48 = .ok (.goto 4, 3)) (by decide)
  · intro d L M Q; exact Wp_sim (by decide +kernel : decode (cd 82) 51 = .ok (.iconst 0, 1)) rfl rfl
  · intro d a L M Q; exact q_iret (by decide +kernel : decode (cd 82) 52 = .ok (.ireturn , 1)) (by decide +kernel)

/- 83: PalaceYard.goIn -/
set_option maxRecDepth 10000 in
theorem e83 : (∀ (d : Nat) (x : Nat) (L : List Value) (M : Mem) (Q : Option Value → Mem → Prop), Wp d 83 0 (.ref x :: L) [] M Q ↔ Wp d 83 1 (.ref x :: L) [.ref x] M Q) ∧
    (∀ (d : Nat) (a : Nat) (v0 : Value) (x : Int32) (L : List Value) (M : Mem) (Q : Option Value → Mem → Prop), Wp d 83 1 (v0 :: .int x :: L) [.ref a] M Q ↔ Wp d 83 2 (v0 :: .int x :: L) [.int x, .ref a] M Q) ∧
    (∀ (d : Nat) (a : Int32) (b : Nat) (L : List Value) (M : Mem) (Q : Option Value → Mem → Prop), Wp (d + 1) 83 2 L [.int a, .ref b] M Q ↔ (isK b 11 = true ∧ Wp d 77 0 [.ref b, .int a] [] M (fun r M2 => Wp (d + 1) 83 5 L (r.toList ++ []) M2 Q))) ∧
    (∀ (d : Nat) (a : Int32) (L : List Value) (M : Mem) (Q : Option Value → Mem → Prop), Wp d 83 5 L [.int a] M Q ↔ (if a = 0 then Wp d 83 8 L [] M Q else Wp d 83 11 L [] M Q)) ∧
    (∀ (d : Nat) (L : List Value) (M : Mem) (Q : Option Value → Mem → Prop), Wp d 83 8 L [] M Q ↔ Wp d 83 10 L [.int (-1000000001)] M Q) ∧
    (∀ (d : Nat) (a : Int32) (L : List Value) (M : Mem) (Q : Option Value → Mem → Prop), Wp d 83 10 L [.int a] M Q ↔ Q (some (.int a)) M) ∧
    (∀ (d : Nat) (x : Nat) (L : List Value) (M : Mem) (Q : Option Value → Mem → Prop), Wp d 83 11 (.ref x :: L) [] M Q ↔ Wp d 83 12 (.ref x :: L) [.ref x] M Q) ∧
    (∀ (d : Nat) (a : Nat) (L : List Value) (M : Mem) (Q : Option Value → Mem → Prop), Wp d 83 12 L [.ref a] M Q ↔ (isK a 11 = true ∧ Wp d 83 15 L [.ref (rt a 3)] M Q)) ∧
    (∀ (d : Nat) (a : Nat) (v0 : Value) (x : Int32) (L : List Value) (M : Mem) (Q : Option Value → Mem → Prop), Wp d 83 15 (v0 :: .int x :: L) [.ref a] M Q ↔ Wp d 83 16 (v0 :: .int x :: L) [.int x, .ref a] M Q) ∧
    (∀ (d : Nat) (a : Int32) (b : Nat) (L : List Value) (M : Mem) (Q : Option Value → Mem → Prop), Wp (d + 1) 83 16 L [.int a, .ref b] M Q ↔ (isK b 9 = true ∧ Wp d 55 0 [.ref b, .int a] [] M (fun r M2 => Wp (d + 1) 83 19 L (r.toList ++ []) M2 Q))) ∧
    (∀ (d : Nat) (a : Int32) (L : List Value) (M : Mem) (Q : Option Value → Mem → Prop), Wp d 83 19 L [.int a] M Q ↔ (if a = 0 then Wp d 83 22 L [] M Q else Wp d 83 25 L [] M Q)) ∧
    (∀ (d : Nat) (L : List Value) (M : Mem) (Q : Option Value → Mem → Prop), Wp d 83 22 L [] M Q ↔ Wp d 83 24 L [.int (-1000000003)] M Q) ∧
    (∀ (d : Nat) (a : Int32) (L : List Value) (M : Mem) (Q : Option Value → Mem → Prop), Wp d 83 24 L [.int a] M Q ↔ Q (some (.int a)) M) ∧
    (∀ (d : Nat) (x : Nat) (L : List Value) (M : Mem) (Q : Option Value → Mem → Prop), Wp d 83 25 (.ref x :: L) [] M Q ↔ Wp d 83 26 (.ref x :: L) [.ref x] M Q) ∧
    (∀ (d : Nat) (a : Nat) (L : List Value) (M : Mem) (Q : Option Value → Mem → Prop), Wp d 83 26 L [.ref a] M Q ↔ (isK a 11 = true ∧ Wp d 83 29 L [.ref (rt a 5)] M Q)) ∧
    (∀ (d : Nat) (a : Nat) (x : Nat) (L : List Value) (M : Mem) (Q : Option Value → Mem → Prop), Wp d 83 29 (.ref x :: L) [.ref a] M Q ↔ Wp d 83 30 (.ref x :: L) [.ref x, .ref a] M Q) ∧
    (∀ (d : Nat) (a : Nat) (b : Nat) (L : List Value) (M : Mem) (Q : Option Value → Mem → Prop), Wp d 83 30 L [.ref a, .ref b] M Q ↔ (isK a 11 = true ∧ Wp d 83 33 L [.ref (rt a 3), .ref b] M Q)) ∧
    (∀ (d : Nat) (a : Nat) (b : Nat) (L : List Value) (M : Mem) (Q : Option Value → Mem → Prop), Wp d 83 33 L [.ref a, .ref b] M Q ↔ (isK a 9 = true ∧ Wp d 83 36 L [.ref (rt a 1), .ref b] M Q)) ∧
    (∀ (d : Nat) (a : Nat) (b : Nat) (L : List Value) (M : Mem) (Q : Option Value → Mem → Prop), Wp (d + 1) 83 36 L [.ref a, .ref b] M Q ↔ (isK b 7 = true ∧ Wp d 29 0 [.ref b, .ref a] [] M (fun r M2 => Wp (d + 1) 83 39 L (r.toList ++ []) M2 Q))) ∧
    (∀ (d : Nat) (x : Nat) (L : List Value) (M : Mem) (Q : Option Value → Mem → Prop), Wp d 83 39 (.ref x :: L) [] M Q ↔ Wp d 83 40 (.ref x :: L) [.ref x] M Q) ∧
    (∀ (d : Nat) (a : Nat) (L : List Value) (M : Mem) (Q : Option Value → Mem → Prop), Wp d 83 40 L [.ref a] M Q ↔ (isK a 11 = true ∧ Wp d 83 43 L [.ref (rt a 3)] M Q)) ∧
    (∀ (d : Nat) (a : Nat) (L : List Value) (M : Mem) (Q : Option Value → Mem → Prop), Wp d 83 43 L [.ref a] M Q ↔ (isK a 9 = true ∧ Wp d 83 46 L [.ref (rt a 1)] M Q)) ∧
    (∀ (d : Nat) (a : Nat) (L : List Value) (M : Mem) (Q : Option Value → Mem → Prop), Wp d 83 46 L [.ref a] M Q ↔ (isK a 6 = true ∧ Wp d 83 49 L [.ref (rt a 0)] M Q)) ∧
    (∀ (d : Nat) (a : Nat) (v0 : Value) (x : Int32) (L : List Value) (M : Mem) (Q : Option Value → Mem → Prop), Wp d 83 49 (v0 :: .int x :: L) [.ref a] M Q ↔ Wp d 83 50 (v0 :: .int x :: L) [.int x, .ref a] M Q) ∧
    (∀ (d : Nat) (a : Int32) (b : Nat) (L : List Value) (M : Mem) (Q : Option Value → Mem → Prop), Wp d 83 50 L [.int a, .ref b] M Q ↔ Wp d 83 51 L [.int 1, .int a, .ref b] M Q) ∧
    (∀ (d : Nat) (a : Int32) (b : Int32) (c : Nat) (L : List Value) (M : Mem) (Q : Option Value → Mem → Prop), Wp d 83 51 L [.int a, .int b, .ref c] M Q ↔ ((isK c 13 = true ∧ inr b (lnm M c)) ∧ Wp d 83 52 L [] (up2 M c b.toNatClampNeg a) Q)) ∧
    (∀ (d : Nat) (x : Nat) (L : List Value) (M : Mem) (Q : Option Value → Mem → Prop), Wp d 83 52 (.ref x :: L) [] M Q ↔ Wp d 83 53 (.ref x :: L) [.ref x] M Q) ∧
    (∀ (d : Nat) (a : Nat) (L : List Value) (M : Mem) (Q : Option Value → Mem → Prop), Wp d 83 53 L [.ref a] M Q ↔ (isK a 11 = true ∧ Wp d 83 56 L [.ref (rt a 3)] M Q)) ∧
    (∀ (d : Nat) (a : Nat) (L : List Value) (M : Mem) (Q : Option Value → Mem → Prop), Wp d 83 56 L [.ref a] M Q ↔ Wp d 83 57 L [.int 1, .ref a] M Q) ∧
    (∀ (d : Nat) (a : Int32) (b : Nat) (L : List Value) (M : Mem) (Q : Option Value → Mem → Prop), Wp (d + 1) 83 57 L [.int a, .ref b] M Q ↔ (isK b 9 = true ∧ Wp d 42 0 [.ref b, .int a, .null, .null] [] M (fun r M2 => Wp (d + 1) 83 60 L (r.toList ++ []) M2 Q))) ∧
    (∀ (d : Nat) (a : Int32) (L : List Value) (M : Mem) (Q : Option Value → Mem → Prop), Wp d 83 60 L [.int a] M Q ↔ Q (some (.int a)) M) := by
  refine ⟨?_, ?_, ?_, ?_, ?_, ?_, ?_, ?_, ?_, ?_, ?_, ?_, ?_, ?_, ?_, ?_, ?_, ?_, ?_, ?_, ?_, ?_, ?_, ?_, ?_, ?_, ?_, ?_, ?_, ?_, ?_⟩
  · intro d x L M Q; exact Wp_sim (by decide +kernel : decode (cd 83) 0 = .ok (.aload_n 0, 1)) rfl rfl
  · intro d a v0 x L M Q; exact Wp_sim (by decide +kernel : decode (cd 83) 1 = .ok (.iload_n 1, 1)) rfl rfl
  · intro d a b L M Q; exact q_invV (pz := 516) (n := 1) (c := 11) (m := 2) (k := b) (As := [.int a]) (rest := []) (by decide +kernel : decode (cd 83) 2 = .ok (.invokevirtual 175, 3)) (by decide +kernel) (by decide +kernel) rfl rfl (Nat.le_of_ble_eq_true rfl) (Nat.le_of_ble_eq_true rfl) rfl
  · intro d a L M Q; exact q_zne (by decide +kernel : decode (cd 83) 5 = .ok (.ifCond .ne 6, 3)) (by decide)
  · intro d L M Q; exact q_ldc (p := 505) (by decide +kernel : decode (cd 83) 8 = .ok (.ldc 170, 2)) (by decide +kernel)
  · intro d a L M Q; exact q_iret (by decide +kernel : decode (cd 83) 10 = .ok (.ireturn , 1)) (by decide +kernel)
  · intro d x L M Q; exact Wp_sim (by decide +kernel : decode (cd 83) 11 = .ok (.aload_n 0, 1)) rfl rfl
  · intro d a L M Q; exact q_getR (p := 301) (by decide +kernel : decode (cd 83) 12 = .ok (.getfield 33, 3)) (by decide +kernel) (by decide +kernel)
  · intro d a v0 x L M Q; exact Wp_sim (by decide +kernel : decode (cd 83) 15 = .ok (.iload_n 1, 1)) rfl rfl
  · intro d a b L M Q; exact q_invV (pz := 580) (n := 1) (c := 9) (m := 2) (k := b) (As := [.int a]) (rest := []) (by decide +kernel : decode (cd 83) 16 = .ok (.invokevirtual 227, 3)) (by decide +kernel) (by decide +kernel) rfl rfl (Nat.le_of_ble_eq_true rfl) (Nat.le_of_ble_eq_true rfl) rfl
  · intro d a L M Q; exact q_zne (by decide +kernel : decode (cd 83) 19 = .ok (.ifCond .ne 6, 3)) (by decide)
  · intro d L M Q; exact q_ldc (p := 547) (by decide +kernel : decode (cd 83) 22 = .ok (.ldc 230, 2)) (by decide +kernel)
  · intro d a L M Q; exact q_iret (by decide +kernel : decode (cd 83) 24 = .ok (.ireturn , 1)) (by decide +kernel)
  · intro d x L M Q; exact Wp_sim (by decide +kernel : decode (cd 83) 25 = .ok (.aload_n 0, 1)) rfl rfl
  · intro d a L M Q; exact q_getR (p := 303) (by decide +kernel : decode (cd 83) 26 = .ok (.getfield 47, 3)) (by decide +kernel) (by decide +kernel)
  · intro d a x L M Q; exact Wp_sim (by decide +kernel : decode (cd 83) 29 = .ok (.aload_n 0, 1)) rfl rfl
  · intro d a b L M Q; exact q_getR (p := 301) (by decide +kernel : decode (cd 83) 30 = .ok (.getfield 33, 3)) (by decide +kernel) (by decide +kernel)
  · intro d a b L M Q; exact q_getR (p := 199) (by decide +kernel : decode (cd 83) 33 = .ok (.getfield 132, 3)) (by decide +kernel) (by decide +kernel)
  · intro d a b L M Q; exact q_invV (pz := 548) (n := 1) (c := 7) (m := 2) (k := b) (As := [.ref a]) (rest := []) (by decide +kernel : decode (cd 83) 36 = .ok (.invokevirtual 220, 3)) (by decide +kernel) (by decide +kernel) rfl rfl (Nat.le_of_ble_eq_true rfl) (Nat.le_of_ble_eq_true rfl) rfl
  · intro d x L M Q; exact Wp_sim (by decide +kernel : decode (cd 83) 39 = .ok (.aload_n 0, 1)) rfl rfl
  · intro d a L M Q; exact q_getR (p := 301) (by decide +kernel : decode (cd 83) 40 = .ok (.getfield 33, 3)) (by decide +kernel) (by decide +kernel)
  · intro d a L M Q; exact q_getR (p := 199) (by decide +kernel : decode (cd 83) 43 = .ok (.getfield 132, 3)) (by decide +kernel) (by decide +kernel)
  · intro d a L M Q; exact q_getR (p := 167) (by decide +kernel : decode (cd 83) 46 = .ok (.getfield 189, 3)) (by decide +kernel) (by decide +kernel)
  · intro d a v0 x L M Q; exact Wp_sim (by decide +kernel : decode (cd 83) 49 = .ok (.iload_n 1, 1)) rfl rfl
  · intro d a b L M Q; exact Wp_sim (by decide +kernel : decode (cd 83) 50 = .ok (.iconst 1, 1)) rfl rfl
  · intro d a b c L M Q; exact q_ast (by decide +kernel : decode (cd 83) 51 = .ok (.iastore , 1))
  · intro d x L M Q; exact Wp_sim (by decide +kernel : decode (cd 83) 52 = .ok (.aload_n 0, 1)) rfl rfl
  · intro d a L M Q; exact q_getR (p := 301) (by decide +kernel : decode (cd 83) 53 = .ok (.getfield 33, 3)) (by decide +kernel) (by decide +kernel)
  · intro d a L M Q; exact Wp_sim (by decide +kernel : decode (cd 83) 56 = .ok (.iconst 1, 1)) rfl rfl
  · intro d a b L M Q; exact q_invV (pz := 443) (n := 1) (c := 9) (m := 4) (k := b) (As := [.int a]) (rest := []) (by decide +kernel : decode (cd 83) 57 = .ok (.invokevirtual 141, 3)) (by decide +kernel) (by decide +kernel) rfl rfl (Nat.le_of_ble_eq_true rfl) (Nat.le_of_ble_eq_true rfl) rfl
  · intro d a L M Q; exact q_iret (by decide +kernel : decode (cd 83) 60 = .ok (.ireturn , 1)) (by decide +kernel)

/- 84: PalaceYard.goOut -/
set_option maxRecDepth 10000 in
theorem e84 : (∀ (d : Nat) (x : Nat) (L : List Value) (M : Mem) (Q : Option Value → Mem → Prop), Wp d 84 0 (.ref x :: L) [] M Q ↔ Wp d 84 1 (.ref x :: L) [.ref x] M Q) ∧
    (∀ (d : Nat) (a : Nat) (v0 : Value) (x : Int32) (L : List Value) (M : Mem) (Q : Option Value → Mem → Prop), Wp d 84 1 (v0 :: .int x :: L) [.ref a] M Q ↔ Wp d 84 2 (v0 :: .int x :: L) [.int x, .ref a] M Q) ∧
    (∀ (d : Nat) (a : Int32) (b : Nat) (L : List Value) (M : Mem) (Q : Option Value → Mem → Prop), Wp (d + 1) 84 2 L [.int a, .ref b] M Q ↔ (isK b 11 = true ∧ Wp d 77 0 [.ref b, .int a] [] M (fun r M2 => Wp (d + 1) 84 5 L (r.toList ++ []) M2 Q))) ∧
    (∀ (d : Nat) (a : Int32) (L : List Value) (M : Mem) (Q : Option Value → Mem → Prop), Wp d 84 5 L [.int a] M Q ↔ (if a = 0 then Wp d 84 8 L [] M Q else Wp d 84 11 L [] M Q)) ∧
    (∀ (d : Nat) (L : List Value) (M : Mem) (Q : Option Value → Mem → Prop), Wp d 84 8 L [] M Q ↔ Wp d 84 10 L [.int (-1000000001)] M Q) ∧
    (∀ (d : Nat) (a : Int32) (L : List Value) (M : Mem) (Q : Option Value → Mem → Prop), Wp d 84 10 L [.int a] M Q ↔ Q (some (.int a)) M) ∧
    (∀ (d : Nat) (x : Nat) (L : List Value) (M : Mem) (Q : Option Value → Mem → Prop), Wp d 84 11 (.ref x :: L) [] M Q ↔ Wp d 84 12 (.ref x :: L) [.ref x] M Q) ∧
    (∀ (d : Nat) (a : Nat) (L : List Value) (M : Mem) (Q : Option Value → Mem → Prop), Wp d 84 12 L [.ref a] M Q ↔ (isK a 11 = true ∧ Wp d 84 15 L [.ref (rt a 3)] M Q)) ∧
    (∀ (d : Nat) (a : Nat) (L : List Value) (M : Mem) (Q : Option Value → Mem → Prop), Wp d 84 15 L [.ref a] M Q ↔ (isK a 9 = true ∧ Wp d 84 18 L [.ref (rt a 1)] M Q)) ∧
    (∀ (d : Nat) (a : Nat) (L : List Value) (M : Mem) (Q : Option Value → Mem → Prop), Wp d 84 18 L [.ref a] M Q ↔ (isK a 6 = true ∧ Wp d 84 21 L [.ref (rt a 0)] M Q)) ∧
    (∀ (d : Nat) (a : Nat) (v0 : Value) (x : Int32) (L : List Value) (M : Mem) (Q : Option Value → Mem → Prop), Wp d 84 21 (v0 :: .int x :: L) [.ref a] M Q ↔ Wp d 84 22 (v0 :: .int x :: L) [.int x, .ref a] M Q) ∧
    (∀ (d : Nat) (a : Int32) (b : Nat) (L : List Value) (M : Mem) (Q : Option Value → Mem → Prop), Wp d 84 22 L [.int a, .ref b] M Q ↔ ((isR b = true ∧ inr a (lnm M b)) ∧ Wp d 84 23 L [.int (M b a.toNatClampNeg)] M Q)) ∧
    (∀ (d : Nat) (a : Int32) (L : List Value) (M : Mem) (Q : Option Value → Mem → Prop), Wp d 84 23 L [.int a] M Q ↔ Wp d 84 24 L [.int 1, .int a] M Q) ∧
    (∀ (d : Nat) (a : Int32) (b : Int32) (L : List Value) (M : Mem) (Q : Option Value → Mem → Prop), Wp d 84 24 L [.int a, .int b] M Q ↔ (if b = a then Wp d 84 30 L [] M Q else Wp d 84 27 L [] M Q)) ∧
    (∀ (d : Nat) (L : List Value) (M : Mem) (Q : Option Value → Mem → Prop), Wp d 84 27 L [] M Q ↔ Wp d 84 29 L [.int (-1000000003)] M Q) ∧
    (∀ (d : Nat) (a : Int32) (L : List Value) (M : Mem) (Q : Option Value → Mem → Prop), Wp d 84 29 L [.int a] M Q ↔ Q (some (.int a)) M) ∧
    (∀ (d : Nat) (x : Nat) (L : List Value) (M : Mem) (Q : Option Value → Mem → Prop), Wp d 84 30 (.ref x :: L) [] M Q ↔ Wp d 84 31 (.ref x :: L) [.ref x] M Q) ∧
    (∀ (d : Nat) (a : Nat) (L : List Value) (M : Mem) (Q : Option Value → Mem → Prop), Wp d 84 31 L [.ref a] M Q ↔ (isK a 11 = true ∧ Wp d 84 34 L [.ref (rt a 5)] M Q)) ∧
    (∀ (d : Nat) (a : Nat) (x : Nat) (L : List Value) (M : Mem) (Q : Option Value → Mem → Prop), Wp d 84 34 (.ref x :: L) [.ref a] M Q ↔ Wp d 84 35 (.ref x :: L) [.ref x, .ref a] M Q) ∧
    (∀ (d : Nat) (a : Nat) (b : Nat) (L : List Value) (M : Mem) (Q : Option Value → Mem → Prop), Wp d 84 35 L [.ref a, .ref b] M Q ↔ (isK a 11 = true ∧ Wp d 84 38 L [.ref (rt a 3), .ref b] M Q)) ∧
    (∀ (d : Nat) (a : Nat) (b : Nat) (L : List Value) (M : Mem) (Q : Option Value → Mem → Prop), Wp d 84 38 L [.ref a, .ref b] M Q ↔ (isK a 9 = true ∧ Wp d 84 41 L [.ref (rt a 1), .ref b] M Q)) ∧
    (∀ (d : Nat) (a : Nat) (b : Nat) (L : List Value) (M : Mem) (Q : Option Value → Mem → Prop), Wp (d + 1) 84 41 L [.ref a, .ref b] M Q ↔ (isK b 7 = true ∧ Wp d 29 0 [.ref b, .ref a] [] M (fun r M2 => Wp (d + 1) 84 44 L (r.toList ++ []) M2 Q))) ∧
    (∀ (d : Nat) (x : Nat) (L : List Value) (M : Mem) (Q : Option Value → Mem → Prop), Wp d 84 44 (.ref x :: L) [] M Q ↔ Wp d 84 45 (.ref x :: L) [.ref x] M Q) ∧
    (∀ (d : Nat) (a : Nat) (L : List Value) (M : Mem) (Q : Option Value → Mem → Prop), Wp d 84 45 L [.ref a] M Q ↔ (isK a 11 = true ∧ Wp d 84 48 L [.ref (rt a 3)] M Q)) ∧
    (∀ (d : Nat) (a : Nat) (L : List Value) (M : Mem) (Q : Option Value → Mem → Prop), Wp d 84 48 L [.ref a] M Q ↔ (isK a 9 = true ∧ Wp d 84 51 L [.ref (rt a 1)] M Q)) ∧
    (∀ (d : Nat) (a : Nat) (L : List Value) (M : Mem) (Q : Option Value → Mem → Prop), Wp d 84 51 L [.ref a] M Q ↔ (isK a 6 = true ∧ Wp d 84 54 L [.ref (rt a 0)] M Q)) ∧
    (∀ (d : Nat) (a : Nat) (v0 : Value) (x : Int32) (L : List Value) (M : Mem) (Q : Option Value → Mem → Prop), Wp d 84 54 (v0 :: .int x :: L) [.ref a] M Q ↔ Wp d 84 55 (v0 :: .int x :: L) [.int x, .ref a] M Q) ∧
    (∀ (d : Nat) (a : Int32) (b : Nat) (L : List Value) (M : Mem) (Q : Option Value → Mem → Prop), Wp d 84 55 L [.int a, .ref b] M Q ↔ Wp d 84 56 L [.int 0, .int a, .ref b] M Q) ∧
    (∀ (d : Nat) (a : Int32) (b : Int32) (c : Nat) (L : List Value) (M : Mem) (Q : Option Value → Mem → Prop), Wp d 84 56 L [.int a, .int b, .ref c] M Q ↔ ((isK c 13 = true ∧ inr b (lnm M c)) ∧ Wp d 84 57 L [] (up2 M c b.toNatClampNeg a) Q)) ∧
    (∀ (d : Nat) (x : Nat) (L : List Value) (M : Mem) (Q : Option Value → Mem → Prop), Wp d 84 57 (.ref x :: L) [] M Q ↔ Wp d 84 58 (.ref x :: L) [.ref x] M Q) ∧
    (∀ (d : Nat) (a : Nat) (L : List Value) (M : Mem) (Q : Option Value → Mem → Prop), Wp d 84 58 L [.ref a] M Q ↔ (isK a 11 = true ∧ Wp d 84 61 L [.ref (rt a 3)] M Q)) ∧
    (∀ (d : Nat) (a : Nat) (L : List Value) (M : Mem) (Q : Option Value → Mem → Prop), Wp d 84 61 L [.ref a] M Q ↔ Wp d 84 62 L [.int 0, .ref a] M Q) ∧
    (∀ (d : Nat) (a : Int32) (b : Nat) (L : List Value) (M : Mem) (Q : Option Value → Mem → Prop), Wp (d + 1) 84 62 L [.int a, .ref b] M Q ↔ (isK b 9 = true ∧ Wp d 42 0 [.ref b, .int a, .null, .null] [] M (fun r M2 => Wp (d + 1) 84 65 L (r.toList ++ []) M2 Q))) ∧
    (∀ (d : Nat) (a : Int32) (L : List Value) (M : Mem) (Q : Option Value → Mem → Prop), Wp d 84 65 L [.int a] M Q ↔ Q (some (.int a)) M) := by
  refine ⟨?_, ?_, ?_, ?_, ?_, ?_, ?_, ?_, ?_, ?_, ?_, ?_, ?_, ?_, ?_, ?_, ?_, ?_, ?_, ?_, ?_, ?_, ?_, ?_, ?_, ?_, ?_, ?_, ?_, ?_, ?_, ?_, ?_, ?_⟩
  · intro d x L M Q; exact Wp_sim (by decide +kernel : decode (cd 84) 0 = .ok (.aload_n 0, 1)) rfl rfl
  · intro d a v0 x L M Q; exact Wp_sim (by decide +kernel : decode (cd 84) 1 = .ok (.iload_n 1, 1)) rfl rfl
  · intro d a b L M Q; exact q_invV (pz := 516) (n := 1) (c := 11) (m := 2) (k := b) (As := [.int a]) (rest := []) (by decide +kernel : decode (cd 84) 2 = .ok (.invokevirtual 175, 3)) (by decide +kernel) (by decide +kernel) rfl rfl (Nat.le_of_ble_eq_true rfl) (Nat.le_of_ble_eq_true rfl) rfl
  · intro d a L M Q; exact q_zne (by decide +kernel : decode (cd 84) 5 = .ok (.ifCond .ne 6, 3)) (by decide)
  · intro d L M Q; exact q_ldc (p := 505) (by decide +kernel : decode (cd 84) 8 = .ok (.ldc 170, 2)) (by decide +kernel)
  · intro d a L M Q; exact q_iret (by decide +kernel : decode (cd 84) 10 = .ok (.ireturn , 1)) (by decide +kernel)
  · intro d x L M Q; exact Wp_sim (by decide +kernel : decode (cd 84) 11 = .ok (.aload_n 0, 1)) rfl rfl
  · intro d a L M Q; exact q_getR (p := 301) (by decide +kernel : decode (cd 84) 12 = .ok (.getfield 33, 3)) (by decide +kernel) (by decide +kernel)
  · intro d a L M Q; exact q_getR (p := 199) (by decide +kernel : decode (cd 84) 15 = .ok (.getfield 132, 3)) (by decide +kernel) (by decide +kernel)
  · intro d a L M Q; exact q_getR (p := 167) (by decide +kernel : decode (cd 84) 18 = .ok (.getfield 189, 3)) (by decide +kernel) (by decide +kernel)
  · intro d a v0 x L M Q; exact Wp_sim (by decide +kernel : decode (cd 84) 21 = .ok (.iload_n 1, 1)) rfl rfl
  · intro d a b L M Q; exact q_ald (by decide +kernel : decode (cd 84) 22 = .ok (.iaload , 1))
  · intro d a L M Q; exact Wp_sim (by decide +kernel : decode (cd 84) 23 = .ok (.iconst 1, 1)) rfl rfl
  · intro d a b L M Q; exact q_ieq (by decide +kernel : decode (cd 84) 24 = .ok (.if_icmp .eq 6, 3)) (by decide)
  · intro d L M Q; exact q_ldc (p := 547) (by decide +kernel : decode (cd 84) 27 = .ok (.ldc 230, 2)) (by decide +kernel)
  · intro d a L M Q; exact q_iret (by decide +kernel : decode (cd 84) 29 = .ok (.ireturn , 1)) (by decide +kernel)
  · intro d x L M Q; exact Wp_sim (by decide +kernel : decode (cd 84) 30 = .ok (.aload_n 0, 1)) rfl rfl
  · intro d a L M Q; exact q_getR (p := 303) (by decide +kernel : decode (cd 84) 31 = .ok (.getfield 47, 3)) (by decide +kernel) (by decide +kernel)
  · intro d a x L M Q; exact Wp_sim (by decide +kernel : decode (cd 84) 34 = .ok (.aload_n 0, 1)) rfl rfl
  · intro d a b L M Q; exact q_getR (p := 301) (by decide +kernel : decode (cd 84) 35 = .ok (.getfield 33, 3)) (by decide +kernel) (by decide +kernel)
  · intro d a b L M Q; exact q_getR (p := 199) (by decide +kernel : decode (cd 84) 38 = .ok (.getfield 132, 3)) (by decide +kernel) (by decide +kernel)
  · intro d a b L M Q; exact q_invV (pz := 548) (n := 1) (c := 7) (m := 2) (k := b) (As := [.ref a]) (rest := []) (by decide +kernel : decode (cd 84) 41 = .ok (.invokevirtual 220, 3)) (by decide +kernel) (by decide +kernel) rfl rfl (Nat.le_of_ble_eq_true rfl) (Nat.le_of_ble_eq_true rfl) rfl
  · intro d x L M Q; exact Wp_sim (by decide +kernel : decode (cd 84) 44 = .ok (.aload_n 0, 1)) rfl rfl
  · intro d a L M Q; exact q_getR (p := 301) (by decide +kernel : decode (cd 84) 45 = .ok (.getfield 33, 3)) (by decide +kernel) (by decide +kernel)
  · intro d a L M Q; exact q_getR (p := 199) (by decide +kernel : decode (cd 84) 48 = .ok (.getfield 132, 3)) (by decide +kernel) (by decide +kernel)
  · intro d a L M Q; exact q_getR (p := 167) (by decide +kernel : decode (cd 84) 51 = .ok (.getfield 189, 3)) (by decide +kernel) (by decide +kernel)
  · intro d a v0 x L M Q; exact Wp_sim (by decide +kernel : decode (cd 84) 54 = .ok (.iload_n 1, 1)) rfl rfl
  · intro d a b L M Q; exact Wp_sim (by decide +kernel : decode (cd 84) 55 = .ok (.iconst 0, 1)) rfl rfl
  · intro d a b c L M Q; exact q_ast (by decide +kernel : decode (cd 84) 56 = .ok (.iastore , 1))
  · intro d x L M Q; exact Wp_sim (by decide +kernel : decode (cd 84) 57 = .ok (.aload_n 0, 1)) rfl rfl
  · intro d a L M Q; exact q_getR (p := 301) (by decide +kernel : decode (cd 84) 58 = .ok (.getfield 33, 3)) (by decide +kernel) (by decide +kernel)
  · intro d a L M Q; exact Wp_sim (by decide +kernel : decode (cd 84) 61 = .ok (.iconst 0, 1)) rfl rfl
  · intro d a b L M Q; exact q_invV (pz := 443) (n := 1) (c := 9) (m := 4) (k := b) (As := [.int a]) (rest := []) (by decide +kernel : decode (cd 84) 62 = .ok (.invokevirtual 141, 3)) (by decide +kernel) (by decide +kernel) rfl rfl (Nat.le_of_ble_eq_true rfl) (Nat.le_of_ble_eq_true rfl) rfl
  · intro d a L M Q; exact q_iret (by decide +kernel : decode (cd 84) 65 = .ok (.ireturn , 1)) (by decide +kernel)

/- 85: PalaceYard.settle -/
set_option maxRecDepth 10000 in
theorem e85 : (∀ (d : Nat) (x : Nat) (L : List Value) (M : Mem) (Q : Option Value → Mem → Prop), Wp d 85 0 (.ref x :: L) [] M Q ↔ Wp d 85 1 (.ref x :: L) [.ref x] M Q) ∧
    (∀ (d : Nat) (a : Nat) (v0 : Value) (x : Int32) (L : List Value) (M : Mem) (Q : Option Value → Mem → Prop), Wp d 85 1 (v0 :: .int x :: L) [.ref a] M Q ↔ Wp d 85 2 (v0 :: .int x :: L) [.int x, .ref a] M Q) ∧
    (∀ (d : Nat) (a : Int32) (b : Nat) (L : List Value) (M : Mem) (Q : Option Value → Mem → Prop), Wp (d + 1) 85 2 L [.int a, .ref b] M Q ↔ (isK b 11 = true ∧ Wp d 77 0 [.ref b, .int a] [] M (fun r M2 => Wp (d + 1) 85 5 L (r.toList ++ []) M2 Q))) ∧
    (∀ (d : Nat) (a : Int32) (L : List Value) (M : Mem) (Q : Option Value → Mem → Prop), Wp d 85 5 L [.int a] M Q ↔ (if a = 0 then Wp d 85 8 L [] M Q else Wp d 85 11 L [] M Q)) ∧
    (∀ (d : Nat) (L : List Value) (M : Mem) (Q : Option Value → Mem → Prop), Wp d 85 8 L [] M Q ↔ Wp d 85 10 L [.int (-1000000001)] M Q) ∧
    (∀ (d : Nat) (a : Int32) (L : List Value) (M : Mem) (Q : Option Value → Mem → Prop), Wp d 85 10 L [.int a] M Q ↔ Q (some (.int a)) M) ∧
    (∀ (d : Nat) (x : Nat) (L : List Value) (M : Mem) (Q : Option Value → Mem → Prop), Wp d 85 11 (.ref x :: L) [] M Q ↔ Wp d 85 12 (.ref x :: L) [.ref x] M Q) ∧
    (∀ (d : Nat) (a : Nat) (L : List Value) (M : Mem) (Q : Option Value → Mem → Prop), Wp d 85 12 L [.ref a] M Q ↔ (isK a 11 = true ∧ Wp d 85 15 L [.ref (rt a 3)] M Q)) ∧
    (∀ (d : Nat) (a : Nat) (v0 : Value) (x : Int32) (L : List Value) (M : Mem) (Q : Option Value → Mem → Prop), Wp d 85 15 (v0 :: .int x :: L) [.ref a] M Q ↔ Wp d 85 16 (v0 :: .int x :: L) [.int x, .ref a] M Q) ∧
    (∀ (d : Nat) (a : Int32) (b : Nat) (L : List Value) (M : Mem) (Q : Option Value → Mem → Prop), Wp (d + 1) 85 16 L [.int a, .ref b] M Q ↔ (isK b 9 = true ∧ Wp d 56 0 [.ref b, .int a] [] M (fun r M2 => Wp (d + 1) 85 19 L (r.toList ++ []) M2 Q))) ∧
    (∀ (d : Nat) (a : Int32) (L : List Value) (M : Mem) (Q : Option Value → Mem → Prop), Wp d 85 19 L [.int a] M Q ↔ (if a = 0 then Wp d 85 22 L [] M Q else Wp d 85 25 L [] M Q)) ∧
    (∀ (d : Nat) (L : List Value) (M : Mem) (Q : Option Value → Mem → Prop), Wp d 85 22 L [] M Q ↔ Wp d 85 24 L [.int (-1000000003)] M Q) ∧
    (∀ (d : Nat) (a : Int32) (L : List Value) (M : Mem) (Q : Option Value → Mem → Prop), Wp d 85 24 L [.int a] M Q ↔ Q (some (.int a)) M) ∧
    (∀ (d : Nat) (x : Nat) (L : List Value) (M : Mem) (Q : Option Value → Mem → Prop), Wp d 85 25 (.ref x :: L) [] M Q ↔ Wp d 85 26 (.ref x :: L) [.ref x] M Q) ∧
    (∀ (d : Nat) (a : Nat) (L : List Value) (M : Mem) (Q : Option Value → Mem → Prop), Wp d 85 26 L [.ref a] M Q ↔ (isK a 11 = true ∧ Wp d 85 29 L [.ref (rt a 5)] M Q)) ∧
    (∀ (d : Nat) (a : Nat) (x : Nat) (L : List Value) (M : Mem) (Q : Option Value → Mem → Prop), Wp d 85 29 (.ref x :: L) [.ref a] M Q ↔ Wp d 85 30 (.ref x :: L) [.ref x, .ref a] M Q) ∧
    (∀ (d : Nat) (a : Nat) (b : Nat) (L : List Value) (M : Mem) (Q : Option Value → Mem → Prop), Wp d 85 30 L [.ref a, .ref b] M Q ↔ (isK a 11 = true ∧ Wp d 85 33 L [.ref (rt a 3), .ref b] M Q)) ∧
    (∀ (d : Nat) (a : Nat) (b : Nat) (L : List Value) (M : Mem) (Q : Option Value → Mem → Prop), Wp d 85 33 L [.ref a, .ref b] M Q ↔ (isK a 9 = true ∧ Wp d 85 36 L [.ref (rt a 1), .ref b] M Q)) ∧
    (∀ (d : Nat) (a : Nat) (b : Nat) (L : List Value) (M : Mem) (Q : Option Value → Mem → Prop), Wp (d + 1) 85 36 L [.ref a, .ref b] M Q ↔ (isK b 7 = true ∧ Wp d 29 0 [.ref b, .ref a] [] M (fun r M2 => Wp (d + 1) 85 39 L (r.toList ++ []) M2 Q))) ∧
    (∀ (d : Nat) (x : Nat) (L : List Value) (M : Mem) (Q : Option Value → Mem → Prop), Wp d 85 39 (.ref x :: L) [] M Q ↔ Wp d 85 40 (.ref x :: L) [.ref x] M Q) ∧
    (∀ (d : Nat) (a : Nat) (L : List Value) (M : Mem) (Q : Option Value → Mem → Prop), Wp d 85 40 L [.ref a] M Q ↔ (isK a 11 = true ∧ Wp d 85 43 L [.ref (rt a 3)] M Q)) ∧
    (∀ (d : Nat) (a : Nat) (v0 : Value) (x : Int32) (L : List Value) (M : Mem) (Q : Option Value → Mem → Prop), Wp d 85 43 (v0 :: .int x :: L) [.ref a] M Q ↔ Wp d 85 44 (v0 :: .int x :: L) [.int x, .ref a] M Q) ∧
    (∀ (d : Nat) (a : Int32) (b : Nat) (L : List Value) (M : Mem) (Q : Option Value → Mem → Prop), Wp (d + 1) 85 44 L [.int a, .ref b] M Q ↔ (isK b 9 = true ∧ Wp d 57 0 [.ref b, .int a, .null] [] M (fun r M2 => Wp (d + 1) 85 47 L (r.toList ++ []) M2 Q))) ∧
    (∀ (d : Nat) (a : Int32) (L : List Value) (M : Mem) (Q : Option Value → Mem → Prop), Wp d 85 47 L [.int a] M Q ↔ Q (some (.int a)) M) := by
  refine ⟨?_, ?_, ?_, ?_, ?_, ?_, ?_, ?_, ?_, ?_, ?_, ?_, ?_, ?_, ?_, ?_, ?_, ?_, ?_, ?_, ?_, ?_, ?_, ?_⟩
  · intro d x L M Q; exact Wp_sim (by decide +kernel : decode (cd 85) 0 = .ok (.aload_n 0, 1)) rfl rfl
  · intro d a v0 x L M Q; exact Wp_sim (by decide +kernel : decode (cd 85) 1 = .ok (.iload_n 1, 1)) rfl rfl
  · intro d a b L M Q; exact q_invV (pz := 516) (n := 1) (c := 11) (m := 2) (k := b) (As := [.int a]) (rest := []) (by decide +kernel : decode (cd 85) 2 = .ok (.invokevirtual 175, 3)) (by decide +kernel) (by decide +kernel) rfl rfl (Nat.le_of_ble_eq_true rfl) (Nat.le_of_ble_eq_true rfl) rfl
  · intro d a L M Q; exact q_zne (by decide +kernel : decode (cd 85) 5 = .ok (.ifCond .ne 6, 3)) (by decide)
  · intro d L M Q; exact q_ldc (p := 505) (by decide +kernel : decode (cd 85) 8 = .ok (.ldc 170, 2)) (by decide +kernel)
  · intro d a L M Q; exact q_iret (by decide +kernel : decode (cd 85) 10 = .ok (.ireturn , 1)) (by decide +kernel)
  · intro d x L M Q; exact Wp_sim (by decide +kernel : decode (cd 85) 11 = .ok (.aload_n 0, 1)) rfl rfl
  · intro d a L M Q; exact q_getR (p := 301) (by decide +kernel : decode (cd 85) 12 = .ok (.getfield 33, 3)) (by decide +kernel) (by decide +kernel)
  · intro d a v0 x L M Q; exact Wp_sim (by decide +kernel : decode (cd 85) 15 = .ok (.iload_n 1, 1)) rfl rfl
  · intro d a b L M Q; exact q_invV (pz := 598) (n := 1) (c := 9) (m := 2) (k := b) (As := [.int a]) (rest := []) (by decide +kernel : decode (cd 85) 16 = .ok (.invokevirtual 231, 3)) (by decide +kernel) (by decide +kernel) rfl rfl (Nat.le_of_ble_eq_true rfl) (Nat.le_of_ble_eq_true rfl) rfl
  · intro d a L M Q; exact q_zne (by decide +kernel : decode (cd 85) 19 = .ok (.ifCond .ne 6, 3)) (by decide)
  · intro d L M Q; exact q_ldc (p := 547) (by decide +kernel : decode (cd 85) 22 = .ok (.ldc 230, 2)) (by decide +kernel)
  · intro d a L M Q; exact q_iret (by decide +kernel : decode (cd 85) 24 = .ok (.ireturn , 1)) (by decide +kernel)
  · intro d x L M Q; exact Wp_sim (by decide +kernel : decode (cd 85) 25 = .ok (.aload_n 0, 1)) rfl rfl
  · intro d a L M Q; exact q_getR (p := 303) (by decide +kernel : decode (cd 85) 26 = .ok (.getfield 47, 3)) (by decide +kernel) (by decide +kernel)
  · intro d a x L M Q; exact Wp_sim (by decide +kernel : decode (cd 85) 29 = .ok (.aload_n 0, 1)) rfl rfl
  · intro d a b L M Q; exact q_getR (p := 301) (by decide +kernel : decode (cd 85) 30 = .ok (.getfield 33, 3)) (by decide +kernel) (by decide +kernel)
  · intro d a b L M Q; exact q_getR (p := 199) (by decide +kernel : decode (cd 85) 33 = .ok (.getfield 132, 3)) (by decide +kernel) (by decide +kernel)
  · intro d a b L M Q; exact q_invV (pz := 548) (n := 1) (c := 7) (m := 2) (k := b) (As := [.ref a]) (rest := []) (by decide +kernel : decode (cd 85) 36 = .ok (.invokevirtual 220, 3)) (by decide +kernel) (by decide +kernel) rfl rfl (Nat.le_of_ble_eq_true rfl) (Nat.le_of_ble_eq_true rfl) rfl
  · intro d x L M Q; exact Wp_sim (by decide +kernel : decode (cd 85) 39 = .ok (.aload_n 0, 1)) rfl rfl
  · intro d a L M Q; exact q_getR (p := 301) (by decide +kernel : decode (cd 85) 40 = .ok (.getfield 33, 3)) (by decide +kernel) (by decide +kernel)
  · intro d a v0 x L M Q; exact Wp_sim (by decide +kernel : decode (cd 85) 43 = .ok (.iload_n 1, 1)) rfl rfl
  · intro d a b L M Q; exact q_invV (pz := 603) (n := 1) (c := 9) (m := 3) (k := b) (As := [.int a]) (rest := []) (by decide +kernel : decode (cd 85) 44 = .ok (.invokevirtual 234, 3)) (by decide +kernel) (by decide +kernel) rfl rfl (Nat.le_of_ble_eq_true rfl) (Nat.le_of_ble_eq_true rfl) rfl
  · intro d a L M Q; exact q_iret (by decide +kernel : decode (cd 85) 47 = .ok (.ireturn , 1)) (by decide +kernel)

/- 86: PalaceYard.lend -/
set_option maxRecDepth 10000 in
theorem e86 : (∀ (d : Nat) (x : Nat) (L : List Value) (M : Mem) (Q : Option Value → Mem → Prop), Wp d 86 0 (.ref x :: L) [] M Q ↔ Wp d 86 1 (.ref x :: L) [.ref x] M Q) ∧
    (∀ (d : Nat) (a : Nat) (v0 : Value) (x : Int32) (L : List Value) (M : Mem) (Q : Option Value → Mem → Prop), Wp d 86 1 (v0 :: .int x :: L) [.ref a] M Q ↔ Wp d 86 2 (v0 :: .int x :: L) [.int x, .ref a] M Q) ∧
    (∀ (d : Nat) (a : Int32) (b : Nat) (v0 : Value) (v1 : Value) (x : Int32) (L : List Value) (M : Mem) (Q : Option Value → Mem → Prop), Wp d 86 2 (v0 :: v1 :: .int x :: L) [.int a, .ref b] M Q ↔ Wp d 86 3 (v0 :: v1 :: .int x :: L) [.int x, .int a, .ref b] M Q) ∧
    (∀ (d : Nat) (a : Int32) (b : Int32) (c : Nat) (L : List Value) (M : Mem) (Q : Option Value → Mem → Prop), Wp (d + 1) 86 3 L [.int a, .int b, .ref c] M Q ↔ (isK c 11 = true ∧ Wp d 79 0 [.ref c, .int b, .int a] [] M (fun r M2 => Wp (d + 1) 86 6 L (r.toList ++ []) M2 Q))) ∧
    (∀ (d : Nat) (a : Int32) (L : List Value) (M : Mem) (Q : Option Value → Mem → Prop), Wp d 86 6 L [.int a] M Q ↔ (if a = 0 then Wp d 86 9 L [] M Q else Wp d 86 12 L [] M Q)) ∧
    (∀ (d : Nat) (L : List Value) (M : Mem) (Q : Option Value → Mem → Prop), Wp d 86 9 L [] M Q ↔ Wp d 86 11 L [.int (-1000000001)] M Q) ∧
    (∀ (d : Nat) (a : Int32) (L : List Value) (M : Mem) (Q : Option Value → Mem → Prop), Wp d 86 11 L [.int a] M Q ↔ Q (some (.int a)) M) ∧
    (∀ (d : Nat) (v0 : Value) (v1 : Value) (v2 : Value) (x : Int32) (L : List Value) (M : Mem) (Q : Option Value → Mem → Prop), Wp d 86 12 (v0 :: v1 :: v2 :: .int x :: L) [] M Q ↔ Wp d 86 13 (v0 :: v1 :: v2 :: .int x :: L) [.int x] M Q) ∧
    (∀ (d : Nat) (a : Int32) (L : List Value) (M : Mem) (Q : Option Value → Mem → Prop), Wp d 86 13 L [.int a] M Q ↔ Wp d 86 14 L [.int 1, .int a] M Q) ∧
    (∀ (d : Nat) (a : Int32) (b : Int32) (L : List Value) (M : Mem) (Q : Option Value → Mem → Prop), Wp d 86 14 L [.int a, .int b] M Q ↔ (if b < a then Wp d 86 24 L [] M Q else Wp d 86 17 L [] M Q)) ∧
    (∀ (d : Nat) (v0 : Value) (v1 : Value) (v2 : Value) (x : Int32) (L : List Value) (M : Mem) (Q : Option Value → Mem → Prop), Wp d 86 17 (v0 :: v1 :: v2 :: .int x :: L) [] M Q ↔ Wp d 86 18 (v0 :: v1 :: v2 :: .int x :: L) [.int x] M Q) ∧
    (∀ (d : Nat) (a : Int32) (L : List Value) (M : Mem) (Q : Option Value → Mem → Prop), Wp d 86 18 L [.int a] M Q ↔ Wp d 86 21 L [.int 999, .int a] M Q) ∧
    (∀ (d : Nat) (a : Int32) (b : Int32) (L : List Value) (M : Mem) (Q : Option Value → Mem → Prop), Wp d 86 21 L [.int a, .int b] M Q ↔ (if a < b then Wp d 86 24 L [] M Q else Wp d 86 27 L [] M Q)) ∧
    (∀ (d : Nat) (L : List Value) (M : Mem) (Q : Option Value → Mem → Prop), Wp d 86 24 L [] M Q ↔ Wp d 86 26 L [.int (-1000000002)] M Q) ∧
    (∀ (d : Nat) (a : Int32) (L : List Value) (M : Mem) (Q : Option Value → Mem → Prop), Wp d 86 26 L [.int a] M Q ↔ Q (some (.int a)) M) ∧
    (∀ (d : Nat) (x : Nat) (L : List Value) (M : Mem) (Q : Option Value → Mem → Prop), Wp d 86 27 (.ref x :: L) [] M Q ↔ Wp d 86 28 (.ref x :: L) [.ref x] M Q) ∧
    (∀ (d : Nat) (a : Nat) (L : List Value) (M : Mem) (Q : Option Value → Mem → Prop), Wp d 86 28 L [.ref a] M Q ↔ (isK a 11 = true ∧ Wp d 86 31 L [.ref (rt a 3)] M Q)) ∧
    (∀ (d : Nat) (a : Nat) (v0 : Value) (x : Int32) (L : List Value) (M : Mem) (Q : Option Value → Mem → Prop), Wp d 86 31 (v0 :: .int x :: L) [.ref a] M Q ↔ Wp d 86 32 (v0 :: .int x :: L) [.int x, .ref a] M Q) ∧
    (∀ (d : Nat) (a : Int32) (b : Nat) (v0 : Value) (v1 : Value) (x : Int32) (L : List Value) (M : Mem) (Q : Option Value → Mem → Prop), Wp d 86 32 (v0 :: v1 :: .int x :: L) [.int a, .ref b] M Q ↔ Wp d 86 33 (v0 :: v1 :: .int x :: L) [.int x, .int a, .ref b] M Q) ∧
    (∀ (d : Nat) (a : Int32) (b : Int32) (c : Nat) (v0 : Value) (v1 : Value) (v2 : Value) (x : Int32) (L : List Value) (M : Mem) (Q : Option Value → Mem → Prop), Wp d 86 33 (v0 :: v1 :: v2 :: .int x :: L) [.int a, .int b, .ref c] M Q ↔ Wp d 86 34 (v0 :: v1 :: v2 :: .int x :: L) [.int x, .int a, .int b, .ref c] M Q) ∧
    (∀ (d : Nat) (a : Int32) (b : Int32) (c : Int32) (d2 : Nat) (L : List Value) (M : Mem) (Q : Option Value → Mem → Prop), Wp (d + 1) 86 34 L [.int a, .int b, .int c, .ref d2] M Q ↔ (isK d2 9 = true ∧ Wp d 59 0 [.ref d2, .int c, .int b, .int a] [] M (fun r M2 => Wp (d + 1) 86 37 L (r.toList ++ []) M2 Q))) ∧
    (∀ (d : Nat) (a : Int32) (v0 : Value) (v1 : Value) (v2 : Value) (v3 : Value) (x : Value) (L : List Value) (M : Mem) (Q : Option Value → Mem → Prop), Wp d 86 37 (v0 :: v1 :: v2 :: v3 :: x :: L) [.int a] M Q ↔ Wp d 86 39 (v0 :: v1 :: v2 :: clr v3 :: .int a :: L) [] M Q) ∧
    (∀ (d : Nat) (v0 : Value) (v1 : Value) (v2 : Value) (v3 : Value) (x : Int32) (L : List Value) (M : Mem) (Q : Option Value → Mem → Prop), Wp d 86 39 (v0 :: v1 :: v2 :: v3 :: .int x :: L) [] M Q ↔ Wp d 86 41 (v0 :: v1 :: v2 :: v3 :: .int x :: L) [.int x] M Q) ∧
    (∀ (d : Nat) (a : Int32) (L : List Value) (M : Mem) (Q : Option Value → Mem → Prop), Wp d 86 41 L [.int a] M Q ↔ (if a = 0 then Wp d 86 47 L [] M Q else Wp d 86 44 L [] M Q)) ∧
    (∀ (d : Nat) (v0 : Value) (v1 : Value) (v2 : Value) (v3 : Value) (x : Int32) (L : List Value) (M : Mem) (Q : Option Value → Mem → Prop), Wp d 86 44 (v0 :: v1 :: v2 :: v3 :: .int x :: L) [] M Q ↔ Wp d 86 46 (v0 :: v1 :: v2 :: v3 :: .int x :: L) [.int x] M Q) ∧
    (∀ (d : Nat) (a : Int32) (L : List Value) (M : Mem) (Q : Option Value → Mem → Prop), Wp d 86 46 L [.int a] M Q ↔ Q (some (.int a)) M) ∧
    (∀ (d : Nat) (x : Nat) (L : List Value) (M : Mem) (Q : Option Value → Mem → Prop), Wp d 86 47 (.ref x :: L) [] M Q ↔ Wp d 86 48 (.ref x :: L) [.ref x] M Q) ∧
    (∀ (d : Nat) (a : Nat) (L : List Value) (M : Mem) (Q : Option Value → Mem → Prop), Wp d 86 48 L [.ref a] M Q ↔ (isK a 11 = true ∧ Wp d 86 51 L [.ref (rt a 5)] M Q)) ∧
    (∀ (d : Nat) (a : Nat) (x : Nat) (L : List Value) (M : Mem) (Q : Option Value → Mem → Prop), Wp d 86 51 (.ref x :: L) [.ref a] M Q ↔ Wp d 86 52 (.ref x :: L) [.ref x, .ref a] M Q) ∧
    (∀ (d : Nat) (a : Nat) (b : Nat) (L : List Value) (M : Mem) (Q : Option Value → Mem → Prop), Wp d 86 52 L [.ref a, .ref b] M Q ↔ (isK a 11 = true ∧ Wp d 86 55 L [.ref (rt a 3), .ref b] M Q)) ∧
    (∀ (d : Nat) (a : Nat) (b : Nat) (L : List Value) (M : Mem) (Q : Option Value → Mem → Prop), Wp d 86 55 L [.ref a, .ref b] M Q ↔ (isK a 9 = true ∧ Wp d 86 58 L [.ref (rt a 1), .ref b] M Q)) ∧
    (∀ (d : Nat) (a : Nat) (b : Nat) (L : List Value) (M : Mem) (Q : Option Value → Mem → Prop), Wp (d + 1) 86 58 L [.ref a, .ref b] M Q ↔ (isK b 7 = true ∧ Wp d 29 0 [.ref b, .ref a] [] M (fun r M2 => Wp (d + 1) 86 61 L (r.toList ++ []) M2 Q))) ∧
    (∀ (d : Nat) (x : Nat) (L : List Value) (M : Mem) (Q : Option Value → Mem → Prop), Wp d 86 61 (.ref x :: L) [] M Q ↔ Wp d 86 62 (.ref x :: L) [.ref x] M Q) ∧
    (∀ (d : Nat) (a : Nat) (L : List Value) (M : Mem) (Q : Option Value → Mem → Prop), Wp d 86 62 L [.ref a] M Q ↔ (isK a 11 = true ∧ Wp d 86 65 L [.ref (rt a 3)] M Q)) ∧
    (∀ (d : Nat) (a : Nat) (v0 : Value) (x : Int32) (L : List Value) (M : Mem) (Q : Option Value → Mem → Prop), Wp d 86 65 (v0 :: .int x :: L) [.ref a] M Q ↔ Wp d 86 66 (v0 :: .int x :: L) [.int x, .ref a] M Q) ∧
    (∀ (d : Nat) (a : Int32) (b : Nat) (v0 : Value) (v1 : Value) (x : Int32) (L : List Value) (M : Mem) (Q : Option Value → Mem → Prop), Wp d 86 66 (v0 :: v1 :: .int x :: L) [.int a, .ref b] M Q ↔ Wp d 86 67 (v0 :: v1 :: .int x :: L) [.int x, .int a, .ref b] M Q) ∧
    (∀ (d : Nat) (a : Int32) (b : Int32) (c : Nat) (v0 : Value) (v1 : Value) (v2 : Value) (x : Int32) (L : List Value) (M : Mem) (Q : Option Value → Mem → Prop), Wp d 86 67 (v0 :: v1 :: v2 :: .int x :: L) [.int a, .int b, .ref c] M Q ↔ Wp d 86 68 (v0 :: v1 :: v2 :: .int x :: L) [.int x, .int a, .int b, .ref c] M Q) ∧
    (∀ (d : Nat) (a : Int32) (b : Int32) (c : Int32) (d2 : Nat) (L : List Value) (M : Mem) (Q : Option Value → Mem → Prop), Wp (d + 1) 86 68 L [.int a, .int b, .int c, .ref d2] M Q ↔ (isK d2 9 = true ∧ Wp d 60 0 [.ref d2, .int c, .int b, .int a] [] M (fun r M2 => Wp (d + 1) 86 71 L (r.toList ++ []) M2 Q))) ∧
    (∀ (d : Nat) (x : Nat) (L : List Value) (M : Mem) (Q : Option Value → Mem → Prop), Wp d 86 71 (.ref x :: L) [] M Q ↔ Wp d 86 72 (.ref x :: L) [.ref x] M Q) ∧
    (∀ (d : Nat) (a : Nat) (L : List Value) (M : Mem) (Q : Option Value → Mem → Prop), Wp d 86 72 L [.ref a] M Q ↔ (isK a 11 = true ∧ Wp d 86 75 L [.ref (rt a 3)] M Q)) ∧
    (∀ (d : Nat) (a : Nat) (L : List Value) (M : Mem) (Q : Option Value → Mem → Prop), Wp d 86 75 L [.ref a] M Q ↔ (isK a 9 = true ∧ Wp d 86 78 L [.ref (rt a 1)] M Q)) ∧
    (∀ (d : Nat) (a : Nat) (L : List Value) (M : Mem) (Q : Option Value → Mem → Prop), Wp d 86 78 L [.ref a] M Q ↔ (isK a 6 = true ∧ Wp d 86 81 L [.ref (rt a 2)] M Q)) ∧
    (∀ (d : Nat) (a : Nat) (v0 : Value) (v1 : Value) (x : Int32) (L : List Value) (M : Mem) (Q : Option Value → Mem → Prop), Wp d 86 81 (v0 :: v1 :: .int x :: L) [.ref a] M Q ↔ Wp d 86 82 (v0 :: v1 :: .int x :: L) [.int x, .ref a] M Q) ∧
    (∀ (d : Nat) (a : Int32) (b : Nat) (v0 : Value) (x : Int32) (L : List Value) (M : Mem) (Q : Option Value → Mem → Prop), Wp d 86 82 (v0 :: .int x :: L) [.int a, .ref b] M Q ↔ Wp d 86 83 (v0 :: .int x :: L) [.int x, .int a, .ref b] M Q) ∧
    (∀ (d : Nat) (a : Int32) (b : Int32) (c : Nat) (L : List Value) (M : Mem) (Q : Option Value → Mem → Prop), Wp (d + 1) 86 83 L [.int a, .int b, .ref c] M Q ↔ (isK c 2 = true ∧ Wp d 12 0 [.ref c, .int b, .int a] [] M (fun r M2 => Wp (d + 1) 86 86 L (r.toList ++ []) M2 Q))) ∧
    (∀ (d : Nat) (a : Int32) (L : List Value) (M : Mem) (Q : Option Value → Mem → Prop), Wp d 86 86 L [.int a] M Q ↔ Q (some (.int a)) M) := by
  refine ⟨?_, ?_, ?_, ?_, ?_, ?_, ?_, ?_, ?_, ?_, ?_, ?_, ?_, ?_, ?_, ?_, ?_, ?_, ?_, ?_, ?_, ?_, ?_, ?_, ?_, ?_, ?_, ?_, ?_, ?_, ?_, ?_, ?_, ?_, ?_, ?_, ?_, ?_, ?_, ?_, ?_, ?_, ?_, ?_, ?_, ?_⟩
  · intro d x L M Q; exact Wp_sim (by decide +kernel : decode (cd 86) 0 = .ok (.aload_n 0, 1)) rfl rfl
  · intro d a v0 x L M Q; exact Wp_sim (by decide +kernel : decode (cd 86) 1 = .ok (.iload_n 1, 1)) rfl rfl
  · intro d a b v0 v1 x L M Q; exact Wp_sim (by decide +kernel : decode (cd 86) 2 = .ok (.iload_n 2, 1)) rfl rfl
  · intro d a b c L M Q; exact q_invV (pz := 530) (n := 2) (c := 11) (m := 3) (k := c) (As := [.int b, .int a]) (rest := []) (by decide +kernel : decode (cd 86) 3 = .ok (.invokevirtual 201, 3)) (by decide +kernel) (by decide +kernel) rfl rfl (Nat.le_of_ble_eq_true rfl) (Nat.le_of_ble_eq_true rfl) rfl
  · intro d a L M Q; exact q_zne (by decide +kernel : decode (cd 86) 6 = .ok (.ifCond .ne 6, 3)) (by decide)
  · intro d L M Q; exact q_ldc (p := 505) (by decide +kernel : decode (cd 86) 9 = .ok (.ldc 170, 2)) (by decide +kernel)
  · intro d a L M Q; exact q_iret (by decide +kernel : decode (cd 86) 11 = .ok (.ireturn , 1)) (by decide +kernel)
  · intro d v0 v1 v2 x L M Q; exact Wp_sim (by decide +kernel : decode (cd 86) 12 = .ok (.iload_n 3, 1)) rfl rfl
  · intro d a L M Q; exact Wp_sim (by decide +kernel : decode (cd 86) 13 = .ok (.iconst 1, 1)) rfl rfl
  · intro d a b L M Q; exact q_ilt (by decide +kernel : decode (cd 86) 14 = .ok (.if_icmp .lt 10, 3)) (by decide)
  · intro d v0 v1 v2 x L M Q; exact Wp_sim (by decide +kernel : decode (cd 86) 17 = .ok (.iload_n 3, 1)) rfl rfl
  · intro d a L M Q; exact Wp_sim (by decide +kernel : decode (cd 86) 18 = .ok (.sipush 999, 3)) rfl rfl
  · intro d a b L M Q; exact q_ile (by decide +kernel : decode (cd 86) 21 = .ok (.if_icmp .le 6, 3)) (by decide)
  · intro d L M Q; exact q_ldc (p := 339) (by decide +kernel : decode (cd 86) 24 = .ok (.ldc 82, 2)) (by decide +kernel)
  · intro d a L M Q; exact q_iret (by decide +kernel : decode (cd 86) 26 = .ok (.ireturn , 1)) (by decide +kernel)
  · intro d x L M Q; exact Wp_sim (by decide +kernel : decode (cd 86) 27 = .ok (.aload_n 0, 1)) rfl rfl
  · intro d a L M Q; exact q_getR (p := 301) (by decide +kernel : decode (cd 86) 28 = .ok (.getfield 33, 3)) (by decide +kernel) (by decide +kernel)
  · intro d a v0 x L M Q; exact Wp_sim (by decide +kernel : decode (cd 86) 31 = .ok (.iload_n 1, 1)) rfl rfl
  · intro d a b v0 v1 x L M Q; exact Wp_sim (by decide +kernel : decode (cd 86) 32 = .ok (.iload_n 2, 1)) rfl rfl
  · intro d a b c v0 v1 v2 x L M Q; exact Wp_sim (by decide +kernel : decode (cd 86) 33 = .ok (.iload_n 3, 1)) rfl rfl
  · intro d a b c d2 L M Q; exact q_invV (pz := 615) (n := 3) (c := 9) (m := 4) (k := d2) (As := [.int c, .int b, .int a]) (rest := []) (by decide +kernel : decode (cd 86) 34 = .ok (.invokevirtual 237, 3)) (by decide +kernel) (by decide +kernel) rfl rfl (Nat.le_of_ble_eq_true rfl) (Nat.le_of_ble_eq_true rfl) rfl
  · intro d a v0 v1 v2 v3 x L M Q; exact Wp_sim (by decide +kernel : decode (cd 86) 37 = .ok (.istore 4, 2)) rfl rfl
  · intro d v0 v1 v2 v3 x L M Q; exact Wp_sim (by decide +kernel : decode (cd 86) 39 = .ok (.iload 4, 2)) rfl rfl
  · intro d a L M Q; exact q_zeq (by decide +kernel : decode (cd 86) 41 = .ok (.ifCond .eq 6, 3)) (by decide)
  · intro d v0 v1 v2 v3 x L M Q; exact Wp_sim (by decide +kernel : decode (cd 86) 44 = .ok (.iload 4, 2)) rfl rfl
  · intro d a L M Q; exact q_iret (by decide +kernel : decode (cd 86) 46 = .ok (.ireturn , 1)) (by decide +kernel)
  · intro d x L M Q; exact Wp_sim (by decide +kernel : decode (cd 86) 47 = .ok (.aload_n 0, 1)) rfl rfl
  · intro d a L M Q; exact q_getR (p := 303) (by decide +kernel : decode (cd 86) 48 = .ok (.getfield 47, 3)) (by decide +kernel) (by decide +kernel)
  · intro d a x L M Q; exact Wp_sim (by decide +kernel : decode (cd 86) 51 = .ok (.aload_n 0, 1)) rfl rfl
  · intro d a b L M Q; exact q_getR (p := 301) (by decide +kernel : decode (cd 86) 52 = .ok (.getfield 33, 3)) (by decide +kernel) (by decide +kernel)
  · intro d a b L M Q; exact q_getR (p := 199) (by decide +kernel : decode (cd 86) 55 = .ok (.getfield 132, 3)) (by decide +kernel) (by decide +kernel)
  · intro d a b L M Q; exact q_invV (pz := 548) (n := 1) (c := 7) (m := 2) (k := b) (As := [.ref a]) (rest := []) (by decide +kernel : decode (cd 86) 58 = .ok (.invokevirtual 220, 3)) (by decide +kernel) (by decide +kernel) rfl rfl (Nat.le_of_ble_eq_true rfl) (Nat.le_of_ble_eq_true rfl) rfl
  · intro d x L M Q; exact Wp_sim (by decide +kernel : decode (cd 86) 61 = .ok (.aload_n 0, 1)) rfl rfl
  · intro d a L M Q; exact q_getR (p := 301) (by decide +kernel : decode (cd 86) 62 = .ok (.getfield 33, 3)) (by decide +kernel) (by decide +kernel)
  · intro d a v0 x L M Q; exact Wp_sim (by decide +kernel : decode (cd 86) 65 = .ok (.iload_n 1, 1)) rfl rfl
  · intro d a b v0 v1 x L M Q; exact Wp_sim (by decide +kernel : decode (cd 86) 66 = .ok (.iload_n 2, 1)) rfl rfl
  · intro d a b c v0 v1 v2 x L M Q; exact Wp_sim (by decide +kernel : decode (cd 86) 67 = .ok (.iload_n 3, 1)) rfl rfl
  · intro d a b c d2 L M Q; exact q_invV (pz := 622) (n := 3) (c := 9) (m := 4) (k := d2) (As := [.int c, .int b, .int a]) (rest := []) (by decide +kernel : decode (cd 86) 68 = .ok (.invokevirtual 241, 3)) (by decide +kernel) (by decide +kernel) rfl rfl (Nat.le_of_ble_eq_true rfl) (Nat.le_of_ble_eq_true rfl) rfl
  · intro d x L M Q; exact Wp_sim (by decide +kernel : decode (cd 86) 71 = .ok (.aload_n 0, 1)) rfl rfl
  · intro d a L M Q; exact q_getR (p := 301) (by decide +kernel : decode (cd 86) 72 = .ok (.getfield 33, 3)) (by decide +kernel) (by decide +kernel)
  · intro d a L M Q; exact q_getR (p := 199) (by decide +kernel : decode (cd 86) 75 = .ok (.getfield 132, 3)) (by decide +kernel) (by decide +kernel)
  · intro d a L M Q; exact q_getR (p := 172) (by decide +kernel : decode (cd 86) 78 = .ok (.getfield 159, 3)) (by decide +kernel) (by decide +kernel)
  · intro d a v0 v1 x L M Q; exact Wp_sim (by decide +kernel : decode (cd 86) 81 = .ok (.iload_n 2, 1)) rfl rfl
  · intro d a b v0 x L M Q; exact Wp_sim (by decide +kernel : decode (cd 86) 82 = .ok (.iload_n 1, 1)) rfl rfl
  · intro d a b c L M Q; exact q_invV (pz := 534) (n := 2) (c := 2) (m := 3) (k := c) (As := [.int b, .int a]) (rest := []) (by decide +kernel : decode (cd 86) 83 = .ok (.invokevirtual 205, 3)) (by decide +kernel) (by decide +kernel) rfl rfl (Nat.le_of_ble_eq_true rfl) (Nat.le_of_ble_eq_true rfl) rfl
  · intro d a L M Q; exact q_iret (by decide +kernel : decode (cd 86) 86 = .ok (.ireturn , 1)) (by decide +kernel)

/- 87: PalaceYard.sue -/
set_option maxRecDepth 10000 in
theorem e87 : (∀ (d : Nat) (x : Nat) (L : List Value) (M : Mem) (Q : Option Value → Mem → Prop), Wp d 87 0 (.ref x :: L) [] M Q ↔ Wp d 87 1 (.ref x :: L) [.ref x] M Q) ∧
    (∀ (d : Nat) (a : Nat) (v0 : Value) (x : Int32) (L : List Value) (M : Mem) (Q : Option Value → Mem → Prop), Wp d 87 1 (v0 :: .int x :: L) [.ref a] M Q ↔ Wp d 87 2 (v0 :: .int x :: L) [.int x, .ref a] M Q) ∧
    (∀ (d : Nat) (a : Int32) (b : Nat) (v0 : Value) (v1 : Value) (x : Int32) (L : List Value) (M : Mem) (Q : Option Value → Mem → Prop), Wp d 87 2 (v0 :: v1 :: .int x :: L) [.int a, .ref b] M Q ↔ Wp d 87 3 (v0 :: v1 :: .int x :: L) [.int x, .int a, .ref b] M Q) ∧
    (∀ (d : Nat) (a : Int32) (b : Int32) (c : Nat) (L : List Value) (M : Mem) (Q : Option Value → Mem → Prop), Wp (d + 1) 87 3 L [.int a, .int b, .ref c] M Q ↔ (isK c 11 = true ∧ Wp d 79 0 [.ref c, .int b, .int a] [] M (fun r M2 => Wp (d + 1) 87 6 L (r.toList ++ []) M2 Q))) ∧
    (∀ (d : Nat) (a : Int32) (L : List Value) (M : Mem) (Q : Option Value → Mem → Prop), Wp d 87 6 L [.int a] M Q ↔ (if a = 0 then Wp d 87 9 L [] M Q else Wp d 87 12 L [] M Q)) ∧
    (∀ (d : Nat) (L : List Value) (M : Mem) (Q : Option Value → Mem → Prop), Wp d 87 9 L [] M Q ↔ Wp d 87 11 L [.int (-1000000001)] M Q) ∧
    (∀ (d : Nat) (a : Int32) (L : List Value) (M : Mem) (Q : Option Value → Mem → Prop), Wp d 87 11 L [.int a] M Q ↔ Q (some (.int a)) M) ∧
    (∀ (d : Nat) (x : Nat) (L : List Value) (M : Mem) (Q : Option Value → Mem → Prop), Wp d 87 12 (.ref x :: L) [] M Q ↔ Wp d 87 13 (.ref x :: L) [.ref x] M Q) ∧
    (∀ (d : Nat) (a : Nat) (L : List Value) (M : Mem) (Q : Option Value → Mem → Prop), Wp d 87 13 L [.ref a] M Q ↔ (isK a 11 = true ∧ Wp d 87 16 L [.ref (rt a 3)] M Q)) ∧
    (∀ (d : Nat) (a : Nat) (v0 : Value) (x : Int32) (L : List Value) (M : Mem) (Q : Option Value → Mem → Prop), Wp d 87 16 (v0 :: .int x :: L) [.ref a] M Q ↔ Wp d 87 17 (v0 :: .int x :: L) [.int x, .ref a] M Q) ∧
    (∀ (d : Nat) (a : Int32) (b : Nat) (v0 : Value) (v1 : Value) (x : Int32) (L : List Value) (M : Mem) (Q : Option Value → Mem → Prop), Wp d 87 17 (v0 :: v1 :: .int x :: L) [.int a, .ref b] M Q ↔ Wp d 87 18 (v0 :: v1 :: .int x :: L) [.int x, .int a, .ref b] M Q) ∧
    (∀ (d : Nat) (a : Int32) (b : Int32) (c : Nat) (L : List Value) (M : Mem) (Q : Option Value → Mem → Prop), Wp (d + 1) 87 18 L [.int a, .int b, .ref c] M Q ↔ (isK c 9 = true ∧ Wp d 61 0 [.ref c, .int b, .int a] [] M (fun r M2 => Wp (d + 1) 87 21 L (r.toList ++ []) M2 Q))) ∧
    (∀ (d : Nat) (a : Int32) (L : List Value) (M : Mem) (Q : Option Value → Mem → Prop), Wp d 87 21 L [.int a] M Q ↔ (if a = 0 then Wp d 87 24 L [] M Q else Wp d 87 27 L [] M Q)) ∧
    (∀ (d : Nat) (L : List Value) (M : Mem) (Q : Option Value → Mem → Prop), Wp d 87 24 L [] M Q ↔ Wp d 87 26 L [.int (-1000000003)] M Q) ∧
    (∀ (d : Nat) (a : Int32) (L : List Value) (M : Mem) (Q : Option Value → Mem → Prop), Wp d 87 26 L [.int a] M Q ↔ Q (some (.int a)) M) ∧
    (∀ (d : Nat) (x : Nat) (L : List Value) (M : Mem) (Q : Option Value → Mem → Prop), Wp d 87 27 (.ref x :: L) [] M Q ↔ Wp d 87 28 (.ref x :: L) [.ref x] M Q) ∧
    (∀ (d : Nat) (a : Nat) (L : List Value) (M : Mem) (Q : Option Value → Mem → Prop), Wp d 87 28 L [.ref a] M Q ↔ (isK a 11 = true ∧ Wp d 87 31 L [.ref (rt a 5)] M Q)) ∧
    (∀ (d : Nat) (a : Nat) (x : Nat) (L : List Value) (M : Mem) (Q : Option Value → Mem → Prop), Wp d 87 31 (.ref x :: L) [.ref a] M Q ↔ Wp d 87 32 (.ref x :: L) [.ref x, .ref a] M Q) ∧
    (∀ (d : Nat) (a : Nat) (b : Nat) (L : List Value) (M : Mem) (Q : Option Value → Mem → Prop), Wp d 87 32 L [.ref a, .ref b] M Q ↔ (isK a 11 = true ∧ Wp d 87 35 L [.ref (rt a 3), .ref b] M Q)) ∧
    (∀ (d : Nat) (a : Nat) (b : Nat) (L : List Value) (M : Mem) (Q : Option Value → Mem → Prop), Wp d 87 35 L [.ref a, .ref b] M Q ↔ (isK a 9 = true ∧ Wp d 87 38 L [.ref (rt a 1), .ref b] M Q)) ∧
    (∀ (d : Nat) (a : Nat) (b : Nat) (L : List Value) (M : Mem) (Q : Option Value → Mem → Prop), Wp (d + 1) 87 38 L [.ref a, .ref b] M Q ↔ (isK b 7 = true ∧ Wp d 29 0 [.ref b, .ref a] [] M (fun r M2 => Wp (d + 1) 87 41 L (r.toList ++ []) M2 Q))) ∧
    (∀ (d : Nat) (x : Nat) (L : List Value) (M : Mem) (Q : Option Value → Mem → Prop), Wp d 87 41 (.ref x :: L) [] M Q ↔ Wp d 87 42 (.ref x :: L) [.ref x] M Q) ∧
    (∀ (d : Nat) (a : Nat) (L : List Value) (M : Mem) (Q : Option Value → Mem → Prop), Wp d 87 42 L [.ref a] M Q ↔ (isK a 11 = true ∧ Wp d 87 45 L [.ref (rt a 3)] M Q)) ∧
    (∀ (d : Nat) (a : Nat) (v0 : Value) (x : Int32) (L : List Value) (M : Mem) (Q : Option Value → Mem → Prop), Wp d 87 45 (v0 :: .int x :: L) [.ref a] M Q ↔ Wp d 87 46 (v0 :: .int x :: L) [.int x, .ref a] M Q) ∧
    (∀ (d : Nat) (a : Int32) (b : Nat) (v0 : Value) (v1 : Value) (x : Int32) (L : List Value) (M : Mem) (Q : Option Value → Mem → Prop), Wp d 87 46 (v0 :: v1 :: .int x :: L) [.int a, .ref b] M Q ↔ Wp d 87 47 (v0 :: v1 :: .int x :: L) [.int x, .int a, .ref b] M Q) ∧
    (∀ (d : Nat) (a : Int32) (b : Int32) (c : Nat) (L : List Value) (M : Mem) (Q : Option Value → Mem → Prop), Wp (d + 1) 87 47 L [.int a, .int b, .ref c] M Q ↔ (isK c 9 = true ∧ Wp d 62 0 [.ref c, .int b, .int a, .null, .null] [] M (fun r M2 => Wp (d + 1) 87 50 L (r.toList ++ []) M2 Q))) ∧
    (∀ (d : Nat) (a : Int32) (L : List Value) (M : Mem) (Q : Option Value → Mem → Prop), Wp d 87 50 L [.int a] M Q ↔ Q (some (.int a)) M) := by
  refine ⟨?_, ?_, ?_, ?_, ?_, ?_, ?_, ?_, ?_, ?_, ?_, ?_, ?_, ?_, ?_, ?_, ?_, ?_, ?_, ?_, ?_, ?_, ?_, ?_, ?_, ?_, ?_⟩
  · intro d x L M Q; exact Wp_sim (by decide +kernel : decode (cd 87) 0 = .ok (.aload_n 0, 1)) rfl rfl
  · intro d a v0 x L M Q; exact Wp_sim (by decide +kernel : decode (cd 87) 1 = .ok (.iload_n 1, 1)) rfl rfl
  · intro d a b v0 v1 x L M Q; exact Wp_sim (by decide +kernel : decode (cd 87) 2 = .ok (.iload_n 2, 1)) rfl rfl
  · intro d a b c L M Q; exact q_invV (pz := 530) (n := 2) (c := 11) (m := 3) (k := c) (As := [.int b, .int a]) (rest := []) (by decide +kernel : decode (cd 87) 3 = .ok (.invokevirtual 201, 3)) (by decide +kernel) (by decide +kernel) rfl rfl (Nat.le_of_ble_eq_true rfl) (Nat.le_of_ble_eq_true rfl) rfl
  · intro d a L M Q; exact q_zne (by decide +kernel : decode (cd 87) 6 = .ok (.ifCond .ne 6, 3)) (by decide)
  · intro d L M Q; exact q_ldc (p := 505) (by decide +kernel : decode (cd 87) 9 = .ok (.ldc 170, 2)) (by decide +kernel)
  · intro d a L M Q; exact q_iret (by decide +kernel : decode (cd 87) 11 = .ok (.ireturn , 1)) (by decide +kernel)
  · intro d x L M Q; exact Wp_sim (by decide +kernel : decode (cd 87) 12 = .ok (.aload_n 0, 1)) rfl rfl
  · intro d a L M Q; exact q_getR (p := 301) (by decide +kernel : decode (cd 87) 13 = .ok (.getfield 33, 3)) (by decide +kernel) (by decide +kernel)
  · intro d a v0 x L M Q; exact Wp_sim (by decide +kernel : decode (cd 87) 16 = .ok (.iload_n 1, 1)) rfl rfl
  · intro d a b v0 v1 x L M Q; exact Wp_sim (by decide +kernel : decode (cd 87) 17 = .ok (.iload_n 2, 1)) rfl rfl
  · intro d a b c L M Q; exact q_invV (pz := 634) (n := 2) (c := 9) (m := 3) (k := c) (As := [.int b, .int a]) (rest := []) (by decide +kernel : decode (cd 87) 18 = .ok (.invokevirtual 245, 3)) (by decide +kernel) (by decide +kernel) rfl rfl (Nat.le_of_ble_eq_true rfl) (Nat.le_of_ble_eq_true rfl) rfl
  · intro d a L M Q; exact q_zne (by decide +kernel : decode (cd 87) 21 = .ok (.ifCond .ne 6, 3)) (by decide)
  · intro d L M Q; exact q_ldc (p := 547) (by decide +kernel : decode (cd 87) 24 = .ok (.ldc 230, 2)) (by decide +kernel)
  · intro d a L M Q; exact q_iret (by decide +kernel : decode (cd 87) 26 = .ok (.ireturn , 1)) (by decide +kernel)
  · intro d x L M Q; exact Wp_sim (by decide +kernel : decode (cd 87) 27 = .ok (.aload_n 0, 1)) rfl rfl
  · intro d a L M Q; exact q_getR (p := 303) (by decide +kernel : decode (cd 87) 28 = .ok (.getfield 47, 3)) (by decide +kernel) (by decide +kernel)
  · intro d a x L M Q; exact Wp_sim (by decide +kernel : decode (cd 87) 31 = .ok (.aload_n 0, 1)) rfl rfl
  · intro d a b L M Q; exact q_getR (p := 301) (by decide +kernel : decode (cd 87) 32 = .ok (.getfield 33, 3)) (by decide +kernel) (by decide +kernel)
  · intro d a b L M Q; exact q_getR (p := 199) (by decide +kernel : decode (cd 87) 35 = .ok (.getfield 132, 3)) (by decide +kernel) (by decide +kernel)
  · intro d a b L M Q; exact q_invV (pz := 548) (n := 1) (c := 7) (m := 2) (k := b) (As := [.ref a]) (rest := []) (by decide +kernel : decode (cd 87) 38 = .ok (.invokevirtual 220, 3)) (by decide +kernel) (by decide +kernel) rfl rfl (Nat.le_of_ble_eq_true rfl) (Nat.le_of_ble_eq_true rfl) rfl
  · intro d x L M Q; exact Wp_sim (by decide +kernel : decode (cd 87) 41 = .ok (.aload_n 0, 1)) rfl rfl
  · intro d a L M Q; exact q_getR (p := 301) (by decide +kernel : decode (cd 87) 42 = .ok (.getfield 33, 3)) (by decide +kernel) (by decide +kernel)
  · intro d a v0 x L M Q; exact Wp_sim (by decide +kernel : decode (cd 87) 45 = .ok (.iload_n 1, 1)) rfl rfl
  · intro d a b v0 v1 x L M Q; exact Wp_sim (by decide +kernel : decode (cd 87) 46 = .ok (.iload_n 2, 1)) rfl rfl
  · intro d a b c L M Q; exact q_invV (pz := 639) (n := 2) (c := 9) (m := 5) (k := c) (As := [.int b, .int a]) (rest := []) (by decide +kernel : decode (cd 87) 47 = .ok (.invokevirtual 248, 3)) (by decide +kernel) (by decide +kernel) rfl rfl (Nat.le_of_ble_eq_true rfl) (Nat.le_of_ble_eq_true rfl) rfl
  · intro d a L M Q; exact q_iret (by decide +kernel : decode (cd 87) 50 = .ok (.ireturn , 1)) (by decide +kernel)

/- 88: PalaceYard.drift -/
set_option maxRecDepth 10000 in
theorem e88 : (∀ (d : Nat) (x : Nat) (L : List Value) (M : Mem) (Q : Option Value → Mem → Prop), Wp d 88 0 (.ref x :: L) [] M Q ↔ Wp d 88 1 (.ref x :: L) [.ref x] M Q) ∧
    (∀ (d : Nat) (a : Nat) (v0 : Value) (x : Int32) (L : List Value) (M : Mem) (Q : Option Value → Mem → Prop), Wp d 88 1 (v0 :: .int x :: L) [.ref a] M Q ↔ Wp d 88 2 (v0 :: .int x :: L) [.int x, .ref a] M Q) ∧
    (∀ (d : Nat) (a : Int32) (b : Nat) (L : List Value) (M : Mem) (Q : Option Value → Mem → Prop), Wp (d + 1) 88 2 L [.int a, .ref b] M Q ↔ (isK b 11 = true ∧ Wp d 82 0 [.ref b, .int a] [] M (fun r M2 => Wp (d + 1) 88 5 L (r.toList ++ []) M2 Q))) ∧
    (∀ (d : Nat) (a : Int32) (v0 : Value) (v1 : Value) (x : Value) (L : List Value) (M : Mem) (Q : Option Value → Mem → Prop), Wp d 88 5 (v0 :: v1 :: x :: L) [.int a] M Q ↔ Wp d 88 6 (v0 :: clr v1 :: .int a :: L) [] M Q) ∧
    (∀ (d : Nat) (v0 : Value) (v1 : Value) (x : Int32) (L : List Value) (M : Mem) (Q : Option Value → Mem → Prop), Wp d 88 6 (v0 :: v1 :: .int x :: L) [] M Q ↔ Wp d 88 7 (v0 :: v1 :: .int x :: L) [.int x] M Q) ∧
    (∀ (d : Nat) (a : Int32) (L : List Value) (M : Mem) (Q : Option Value → Mem → Prop), Wp d 88 7 L [.int a] M Q ↔ (if a = 0 then Wp d 88 12 L [] M Q else Wp d 88 10 L [] M Q)) ∧
    (∀ (d : Nat) (v0 : Value) (v1 : Value) (x : Int32) (L : List Value) (M : Mem) (Q : Option Value → Mem → Prop), Wp d 88 10 (v0 :: v1 :: .int x :: L) [] M Q ↔ Wp d 88 11 (v0 :: v1 :: .int x :: L) [.int x] M Q) ∧
    (∀ (d : Nat) (a : Int32) (L : List Value) (M : Mem) (Q : Option Value → Mem → Prop), Wp d 88 11 L [.int a] M Q ↔ Q (some (.int a)) M) ∧
    (∀ (d : Nat) (x : Nat) (L : List Value) (M : Mem) (Q : Option Value → Mem → Prop), Wp d 88 12 (.ref x :: L) [] M Q ↔ Wp d 88 13 (.ref x :: L) [.ref x] M Q) ∧
    (∀ (d : Nat) (a : Nat) (L : List Value) (M : Mem) (Q : Option Value → Mem → Prop), Wp d 88 13 L [.ref a] M Q ↔ (isK a 11 = true ∧ Wp d 88 16 L [.ref (rt a 5)] M Q)) ∧
    (∀ (d : Nat) (a : Nat) (x : Nat) (L : List Value) (M : Mem) (Q : Option Value → Mem → Prop), Wp d 88 16 (.ref x :: L) [.ref a] M Q ↔ Wp d 88 17 (.ref x :: L) [.ref x, .ref a] M Q) ∧
    (∀ (d : Nat) (a : Nat) (b : Nat) (L : List Value) (M : Mem) (Q : Option Value → Mem → Prop), Wp d 88 17 L [.ref a, .ref b] M Q ↔ (isK a 11 = true ∧ Wp d 88 20 L [.ref (rt a 3), .ref b] M Q)) ∧
    (∀ (d : Nat) (a : Nat) (b : Nat) (L : List Value) (M : Mem) (Q : Option Value → Mem → Prop), Wp d 88 20 L [.ref a, .ref b] M Q ↔ (isK a 9 = true ∧ Wp d 88 23 L [.ref (rt a 1), .ref b] M Q)) ∧
    (∀ (d : Nat) (a : Nat) (b : Nat) (L : List Value) (M : Mem) (Q : Option Value → Mem → Prop), Wp (d + 1) 88 23 L [.ref a, .ref b] M Q ↔ (isK b 7 = true ∧ Wp d 29 0 [.ref b, .ref a] [] M (fun r M2 => Wp (d + 1) 88 26 L (r.toList ++ []) M2 Q))) ∧
    (∀ (d : Nat) (L : List Value) (M : Mem) (Q : Option Value → Mem → Prop), Wp d 88 26 L [] M Q ↔ Wp d 88 27 L [.int 0] M Q) ∧
    (∀ (d : Nat) (a : Int32) (v0 : Value) (v1 : Value) (v2 : Value) (x : Value) (L : List Value) (M : Mem) (Q : Option Value → Mem → Prop), Wp d 88 27 (v0 :: v1 :: v2 :: x :: L) [.int a] M Q ↔ Wp d 88 28 (v0 :: v1 :: clr v2 :: .int a :: L) [] M Q) ∧
    (∀ (d : Nat) (a : Int32) (v0 : Value) (x : Int32) (L : List Value) (M : Mem) (Q : Option Value → Mem → Prop), Wp d 88 29 (v0 :: .int x :: L) [.int a] M Q ↔ Wp d 88 30 (v0 :: .int x :: L) [.int x, .int a] M Q) ∧
    (∀ (d : Nat) (a : Int32) (b : Int32) (L : List Value) (M : Mem) (Q : Option Value → Mem → Prop), Wp d 88 30 L [.int a, .int b] M Q ↔ (if b < a then Wp d 88 33 L [] M Q else Wp d 88 63 L [] M Q)) ∧
    (∀ (d : Nat) (x : Nat) (L : List Value) (M : Mem) (Q : Option Value → Mem → Prop), Wp d 88 33 (.ref x :: L) [] M Q ↔ Wp d 88 34 (.ref x :: L) [.ref x] M Q) ∧
    (∀ (d : Nat) (a : Nat) (L : List Value) (M : Mem) (Q : Option Value → Mem → Prop), Wp d 88 34 L [.ref a] M Q ↔ (isK a 11 = true ∧ Wp d 88 37 L [.ref (rt a 3)] M Q)) ∧
    (∀ (d : Nat) (a : Nat) (L : List Value) (M : Mem) (Q : Option Value → Mem → Prop), Wp d 88 37 L [.ref a] M Q ↔ (isK a 9 = true ∧ Wp d 88 40 L [.ref (rt a 0)] M Q)) ∧
    (∀ (d : Nat) (a : Nat) (L : List Value) (M : Mem) (Q : Option Value → Mem → Prop), Wp d 88 40 L [.ref a] M Q ↔ (isK a 1 = true ∧ Wp d 88 43 L [.int (M a 13)] M Q)) ∧
    (∀ (d : Nat) (a : Int32) (L : List Value) (M : Mem) (Q : Option Value → Mem → Prop), Wp d 88 43 L [.int a] M Q ↔ (if 0 < a then Wp d 88 46 L [] M Q else Wp d 88 50 L [] M Q)) ∧
    (∀ (d : Nat) (x : Nat) (L : List Value) (M : Mem) (Q : Option Value → Mem → Prop), Wp d 88 46 (.ref x :: L) [] M Q ↔ Wp d 88 47 (.ref x :: L) [.ref x] M Q) ∧
    (∀ (d : Nat) (a : Nat) (L : List Value) (M : Mem) (Q : Option Value → Mem → Prop), Wp (d + 1) 88 47 L [.ref a] M Q ↔ (isK a 11 = true ∧ Wp d 89 0 [.ref a, .null] [] M (fun r M2 => Wp (d + 1) 88 50 L (r.toList ++ []) M2 Q))) ∧
    (∀ (d : Nat) (x : Nat) (L : List Value) (M : Mem) (Q : Option Value → Mem → Prop), Wp d 88 50 (.ref x :: L) [] M Q ↔ Wp d 88 51 (.ref x :: L) [.ref x] M Q) ∧
    (∀ (d : Nat) (a : Nat) (L : List Value) (M : Mem) (Q : Option Value → Mem → Prop), Wp d 88 51 L [.ref a] M Q ↔ (isK a 11 = true ∧ Wp d 88 54 L [.ref (rt a 3)] M Q)) ∧
    (∀ (d : Nat) (a : Nat) (L : List Value) (M : Mem) (Q : Option Value → Mem → Prop), Wp (d + 1) 88 54 L [.ref a] M Q ↔ (isK a 9 = true ∧ Wp d 51 0 [.ref a, .null] [] M (fun r M2 => Wp (d + 1) 88 57 L (r.toList ++ []) M2 Q))) ∧
    (∀ (d : Nat) (v0 : Value) (v1 : Value) (v2 : Value) (x : Int32) (L : List Value) (M : Mem) (Q : Option Value → Mem → Prop), Wp d 88 57 (v0 :: v1 :: v2 :: .int x :: L) [] M Q ↔ Wp d 88 60 (v0 :: v1 :: clr v2 :: .int (x + 1) :: L) [] M Q) ∧
    (∀ (d : Nat) (L : List Value) (M : Mem) (Q : Option Value → Mem → Prop), Wp d 88 60 L [] M Q ↔ Wp d 88 28 L [] M Q) ∧
    (∀ (d : Nat) (x : Nat) (L : List Value) (M : Mem) (Q : Option Value → Mem → Prop), Wp d 88 63 (.ref x :: L) [] M Q ↔ Wp d 88 64 (.ref x :: L) [.ref x] M Q) ∧
    (∀ (d : Nat) (a : Nat) (L : List Value) (M : Mem) (Q : Option Value → Mem → Prop), Wp d 88 64 L [.ref a] M Q ↔ (isK a 11 = true ∧ Wp d 88 67 L [.ref (rt a 3)] M Q)) ∧
    (∀ (d : Nat) (a : Nat) (L : List Value) (M : Mem) (Q : Option Value → Mem → Prop), Wp d 88 67 L [.ref a] M Q ↔ (isK a 9 = true ∧ Wp d 88 70 L [.ref (rt a 1)] M Q)) ∧
    (∀ (d : Nat) (a : Nat) (L : List Value) (M : Mem) (Q : Option Value → Mem → Prop), Wp d 88 70 L [.ref a] M Q ↔ (isK a 6 = true ∧ Wp d 88 73 L [.int (M a 4)] M Q)) ∧
    (∀ (d : Nat) (a : Int32) (L : List Value) (M : Mem) (Q : Option Value → Mem → Prop), Wp d 88 73 L [.int a] M Q ↔ Q (some (.int a)) M) := by
  refine ⟨?_, ?_, ?_, ?_, ?_, ?_, ?_, ?_, ?_, ?_, ?_, ?_, ?_, ?_, ?_, ?_, ?_, ?_, ?_, ?_, ?_, ?_, ?_, ?_, ?_, ?_, ?_, ?_, ?_, ?_, ?_, ?_, ?_, ?_, ?_⟩
  · intro d x L M Q; exact Wp_sim (by decide +kernel : decode (cd 88) 0 = .ok (.aload_n 0, 1)) rfl rfl
  · intro d a v0 x L M Q; exact Wp_sim (by decide +kernel : decode (cd 88) 1 = .ok (.iload_n 1, 1)) rfl rfl
  · intro d a b L M Q; exact q_invV (pz := 543) (n := 1) (c := 11) (m := 2) (k := b) (As := [.int a]) (rest := []) (by decide +kernel : decode (cd 88) 2 = .ok (.invokevirtual 217, 3)) (by decide +kernel) (by decide +kernel) rfl rfl (Nat.le_of_ble_eq_true rfl) (Nat.le_of_ble_eq_true rfl) rfl
  · intro d a v0 v1 x L M Q; exact Wp_sim (by decide +kernel : decode (cd 88) 5 = .ok (.istore_n 2, 1)) rfl rfl
  · intro d v0 v1 x L M Q; exact Wp_sim (by decide +kernel : decode (cd 88) 6 = .ok (.iload_n 2, 1)) rfl rfl
  · intro d a L M Q; exact q_zeq (by decide +kernel : decode (cd 88) 7 = .ok (.ifCond .eq 5, 3)) (by decide)
  · intro d v0 v1 x L M Q; exact Wp_sim (by decide +kernel : decode (cd 88) 10 = .ok (.iload_n 2, 1)) rfl rfl
  · intro d a L M Q; exact q_iret (by decide +kernel : decode (cd 88) 11 = .ok (.ireturn , 1)) (by decide +kernel)
  · intro d x L M Q; exact Wp_sim (by decide +kernel : decode (cd 88) 12 = .ok (.aload_n 0, 1)) rfl rfl
  · intro d a L M Q; exact q_getR (p := 303) (by decide +kernel : decode (cd 88) 13 = .ok (.getfield 47, 3)) (by decide +kernel) (by decide +kernel)
  · intro d a x L M Q; exact Wp_sim (by decide +kernel : decode (cd 88) 16 = .ok (.aload_n 0, 1)) rfl rfl
  · intro d a b L M Q; exact q_getR (p := 301) (by decide +kernel : decode (cd 88) 17 = .ok (.getfield 33, 3)) (by decide +kernel) (by decide +kernel)
  · intro d a b L M Q; exact q_getR (p := 199) (by decide +kernel : decode (cd 88) 20 = .ok (.getfield 132, 3)) (by decide +kernel) (by decide +kernel)
  · intro d a b L M Q; exact q_invV (pz := 548) (n := 1) (c := 7) (m := 2) (k := b) (As := [.ref a]) (rest := []) (by decide +kernel : decode (cd 88) 23 = .ok (.invokevirtual 220, 3)) (by decide +kernel) (by decide +kernel) rfl rfl (Nat.le_of_ble_eq_true rfl) (Nat.le_of_ble_eq_true rfl) rfl
  · intro d L M Q; exact Wp_sim (by decide +kernel : decode (cd 88) 26 = .ok (.iconst 0, 1)) rfl rfl
  · intro d a v0 v1 v2 x L M Q; exact Wp_sim (by decide +kernel : decode (cd 88) 27 = .ok (.istore_n 3, 1)) rfl rfl
  · intro d a v0 x L M Q; exact Wp_sim (by decide +kernel : decode (cd 88) 29 = .ok (.iload_n 1, 1)) rfl rfl
  · intro d a b L M Q; exact q_ige (by decide +kernel : decode (cd 88) 30 = .ok (.if_icmp .ge 33, 3)) (by decide)
  · intro d x L M Q; exact Wp_sim (by decide +kernel : decode (cd 88) 33 = .ok (.aload_n 0, 1)) rfl rfl
  · intro d a L M Q; exact q_getR (p := 301) (by decide +kernel : decode (cd 88) 34 = .ok (.getfield 33, 3)) (by decide +kernel) (by decide +kernel)
  · intro d a L M Q; exact q_getR (p := 197) (by decide +kernel : decode (cd 88) 37 = .ok (.getfield 111, 3)) (by decide +kernel) (by decide +kernel)
  · intro d a L M Q; exact q_getI (p := 104) (by decide +kernel : decode (cd 88) 40 = .ok (.getfield 114, 3)) (by decide +kernel) (by decide +kernel)
  · intro d a L M Q; exact q_zle (by decide +kernel : decode (cd 88) 43 = .ok (.ifCond .le 7, 3)) (by decide)
  · intro d x L M Q; exact Wp_sim (by decide +kernel : decode (cd 88) 46 = .ok (.aload_n 0, 1)) rfl rfl
  · intro d a L M Q; exact q_invV (pz := 647) (n := 0) (c := 11) (m := 2) (k := a) (As := []) (rest := []) (by decide +kernel : decode (cd 88) 47 = .ok (.invokevirtual 251, 3)) (by decide +kernel) (by decide +kernel) rfl rfl (Nat.le_of_ble_eq_true rfl) (Nat.le_of_ble_eq_true rfl) rfl
  · intro d x L M Q; exact Wp_sim (by decide +kernel : decode (cd 88) 50 = .ok (.aload_n 0, 1)) rfl rfl
  · intro d a L M Q; exact q_getR (p := 301) (by decide +kernel : decode (cd 88) 51 = .ok (.getfield 33, 3)) (by decide +kernel) (by decide +kernel)
  · intro d a L M Q; exact q_invV (pz := 558) (n := 0) (c := 9) (m := 2) (k := a) (As := []) (rest := []) (by decide +kernel : decode (cd 88) 54 = .ok (.invokevirtual 224, 3)) (by decide +kernel) (by decide +kernel) rfl rfl (Nat.le_of_ble_eq_true rfl) (Nat.le_of_ble_eq_true rfl) rfl
  · intro d v0 v1 v2 x L M Q; exact Wp_sim (by decide +kernel : decode (cd 88) 57 = .ok (.iinc 3 1, 3)) rfl rfl
  · intro d L M Q; exact q_goto (by decide +kernel : decode (cd 88) 60 = .ok (.goto (-32), 3)) (by decide)
  · intro d x L M Q; exact Wp_sim (by decide +kernel : decode (cd 88) 63 = .ok (.aload_n 0, 1)) rfl rfl
  · intro d a L M Q; exact q_getR (p := 301) (by decide +kernel : decode (cd 88) 64 = .ok (.getfield 33, 3)) (by decide +kernel) (by decide +kernel)
  · intro d a L M Q; exact q_getR (p := 199) (by decide +kernel : decode (cd 88) 67 = .ok (.getfield 132, 3)) (by decide +kernel) (by decide +kernel)
  · intro d a L M Q; exact q_getI (p := 178) (by decide +kernel : decode (cd 88) 70 = .ok (.getfield 152, 3)) (by decide +kernel) (by decide +kernel)
  · intro d a L M Q; exact q_iret (by decide +kernel : decode (cd 88) 73 = .ok (.ireturn , 1)) (by decide +kernel)
theorem h88_28 : (∀ (d : Nat) (v0 : Value) (v1 : Value) (v2 : Value) (x : Int32) (L : List Value) (M : Mem) (Q : Option Value → Mem → Prop), Wp d 88 28 (v0 :: v1 :: v2 :: .int x :: L) [] M Q ↔ Wp d 88 29 (v0 :: v1 :: v2 :: .int x :: L) [.int x] M Q) := by
  intro d v0 v1 v2 x L M Q; exact Wp_sim (by decide +kernel : decode (cd 88) 28 = .ok (.iload_n 3, 1)) rfl rfl

/- 89: PalaceYard.actByDraws -/
set_option maxRecDepth 10000 in
theorem e89_0 : (∀ (d : Nat) (x : Nat) (L : List Value) (M : Mem) (Q : Option Value → Mem → Prop), Wp d 89 0 (.ref x :: L) [] M Q ↔ Wp d 89 1 (.ref x :: L) [.ref x] M Q) ∧
    (∀ (d : Nat) (a : Nat) (x : Nat) (L : List Value) (M : Mem) (Q : Option Value → Mem → Prop), Wp d 89 1 (.ref x :: L) [.ref a] M Q ↔ Wp d 89 2 (.ref x :: L) [.ref x, .ref a] M Q) ∧
    (∀ (d : Nat) (a : Nat) (b : Nat) (L : List Value) (M : Mem) (Q : Option Value → Mem → Prop), Wp d 89 2 L [.ref a, .ref b] M Q ↔ (isK a 11 = true ∧ Wp d 89 5 L [.ref (rt a 3), .ref b] M Q)) ∧
    (∀ (d : Nat) (a : Nat) (b : Nat) (L : List Value) (M : Mem) (Q : Option Value → Mem → Prop), Wp d 89 5 L [.ref a, .ref b] M Q ↔ (isK a 9 = true ∧ Wp d 89 8 L [.ref (rt a 0), .ref b] M Q)) ∧
    (∀ (d : Nat) (a : Nat) (b : Nat) (L : List Value) (M : Mem) (Q : Option Value → Mem → Prop), Wp d 89 8 L [.ref a, .ref b] M Q ↔ (isK a 1 = true ∧ Wp d 89 11 L [.int (M a 13), .ref b] M Q)) ∧
    (∀ (d : Nat) (a : Int32) (b : Nat) (L : List Value) (M : Mem) (Q : Option Value → Mem → Prop), Wp (d + 1) 89 11 L [.int a, .ref b] M Q ↔ (isK b 11 = true ∧ Wp d 90 0 [.ref b, .int a] [] M (fun r M2 => Wp (d + 1) 89 14 L (r.toList ++ []) M2 Q))) ∧
    (∀ (d : Nat) (a : Int32) (v0 : Value) (x : Value) (L : List Value) (M : Mem) (Q : Option Value → Mem → Prop), Wp d 89 14 (v0 :: x :: L) [.int a] M Q ↔ Wp d 89 15 (clr v0 :: .int a :: L) [] M Q) ∧
    (∀ (d : Nat) (x : Nat) (L : List Value) (M : Mem) (Q : Option Value → Mem → Prop), Wp d 89 15 (.ref x :: L) [] M Q ↔ Wp d 89 16 (.ref x :: L) [.ref x] M Q) ∧
    (∀ (d : Nat) (a : Nat) (v0 : Value) (x : Int32) (L : List Value) (M : Mem) (Q : Option Value → Mem → Prop), Wp d 89 16 (v0 :: .int x :: L) [.ref a] M Q ↔ Wp d 89 17 (v0 :: .int x :: L) [.int x, .ref a] M Q) ∧
    (∀ (d : Nat) (a : Int32) (b : Nat) (L : List Value) (M : Mem) (Q : Option Value → Mem → Prop), Wp (d + 1) 89 17 L [.int a, .ref b] M Q ↔ (isK b 11 = true ∧ Wp d 77 0 [.ref b, .int a] [] M (fun r M2 => Wp (d + 1) 89 20 L (r.toList ++ []) M2 Q))) ∧
    (∀ (d : Nat) (a : Int32) (L : List Value) (M : Mem) (Q : Option Value → Mem → Prop), Wp d 89 20 L [.int a] M Q ↔ (if a = 0 then Wp d 89 23 L [] M Q else Wp d 89 24 L [] M Q)) ∧
    (∀ (d : Nat) (L : List Value) (M : Mem) (Q : Option Value → Mem → Prop), Wp d 89 23 L [] M Q ↔ Q none M) ∧
    (∀ (d : Nat) (x : Nat) (L : List Value) (M : Mem) (Q : Option Value → Mem → Prop), Wp d 89 24 (.ref x :: L) [] M Q ↔ Wp d 89 25 (.ref x :: L) [.ref x] M Q) ∧
    (∀ (d : Nat) (a : Nat) (L : List Value) (M : Mem) (Q : Option Value → Mem → Prop), Wp d 89 25 L [.ref a] M Q ↔ Wp d 89 26 L [.int 5, .ref a] M Q) ∧
    (∀ (d : Nat) (a : Int32) (b : Nat) (L : List Value) (M : Mem) (Q : Option Value → Mem → Prop), Wp (d + 1) 89 26 L [.int a, .ref b] M Q ↔ (isK b 11 = true ∧ Wp d 90 0 [.ref b, .int a] [] M (fun r M2 => Wp (d + 1) 89 29 L (r.toList ++ []) M2 Q))) ∧
    (∀ (d : Nat) (a : Int32) (L : List Value) (M : Mem) (Q : Option Value → Mem → Prop), Wp d 89 29 L [.int a] M Q ↔ (if a = 0 then Wp d 89 60 L [] M Q else (if a = 1 then Wp d 89 87 L [] M Q else (if a = 2 then Wp d 89 119 L [] M Q else (if a = 3 then Wp d 89 142 L [] M Q else Wp d 89 150 L [] M Q))))) ∧
    (∀ (d : Nat) (x : Nat) (L : List Value) (M : Mem) (Q : Option Value → Mem → Prop), Wp d 89 60 (.ref x :: L) [] M Q ↔ Wp d 89 61 (.ref x :: L) [.ref x] M Q) ∧
    (∀ (d : Nat) (a : Nat) (L : List Value) (M : Mem) (Q : Option Value → Mem → Prop), Wp d 89 61 L [.ref a] M Q ↔ (isK a 11 = true ∧ Wp d 89 64 L [.ref (rt a 3)] M Q)) ∧
    (∀ (d : Nat) (a : Nat) (v0 : Value) (x : Int32) (L : List Value) (M : Mem) (Q : Option Value → Mem → Prop), Wp d 89 64 (v0 :: .int x :: L) [.ref a] M Q ↔ Wp d 89 65 (v0 :: .int x :: L) [.int x, .ref a] M Q) ∧
    (∀ (d : Nat) (a : Int32) (b : Nat) (L : List Value) (M : Mem) (Q : Option Value → Mem → Prop), Wp (d + 1) 89 65 L [.int a, .ref b] M Q ↔ (isK b 9 = true ∧ Wp d 55 0 [.ref b, .int a] [] M (fun r M2 => Wp (d + 1) 89 68 L (r.toList ++ []) M2 Q))) ∧
    (∀ (d : Nat) (a : Int32) (L : List Value) (M : Mem) (Q : Option Value → Mem → Prop), Wp d 89 68 L [.int a] M Q ↔ (if a = 0 then Wp d 89 155 L [] M Q else Wp d 89 71 L [] M Q)) ∧
    (∀ (d : Nat) (x : Nat) (L : List Value) (M : Mem) (Q : Option Value → Mem → Prop), Wp d 89 71 (.ref x :: L) [] M Q ↔ Wp d 89 72 (.ref x :: L) [.ref x] M Q) ∧
    (∀ (d : Nat) (a : Nat) (L : List Value) (M : Mem) (Q : Option Value → Mem → Prop), Wp d 89 72 L [.ref a] M Q ↔ (isK a 11 = true ∧ Wp d 89 75 L [.ref (rt a 3)] M Q)) ∧
    (∀ (d : Nat) (a : Nat) (L : List Value) (M : Mem) (Q : Option Value → Mem → Prop), Wp d 89 75 L [.ref a] M Q ↔ (isK a 9 = true ∧ Wp d 89 78 L [.ref (rt a 1)] M Q)) ∧
    (∀ (d : Nat) (a : Nat) (L : List Value) (M : Mem) (Q : Option Value → Mem → Prop), Wp d 89 78 L [.ref a] M Q ↔ (isK a 6 = true ∧ Wp d 89 81 L [.ref (rt a 0)] M Q)) ∧
    (∀ (d : Nat) (a : Nat) (v0 : Value) (x : Int32) (L : List Value) (M : Mem) (Q : Option Value → Mem → Prop), Wp d 89 81 (v0 :: .int x :: L) [.ref a] M Q ↔ Wp d 89 82 (v0 :: .int x :: L) [.int x, .ref a] M Q) ∧
    (∀ (d : Nat) (a : Int32) (b : Nat) (L : List Value) (M : Mem) (Q : Option Value → Mem → Prop), Wp d 89 82 L [.int a, .ref b] M Q ↔ Wp d 89 83 L [.int 1, .int a, .ref b] M Q) ∧
    (∀ (d : Nat) (a : Int32) (b : Int32) (c : Nat) (L : List Value) (M : Mem) (Q : Option Value → Mem → Prop), Wp d 89 83 L [.int a, .int b, .ref c] M Q ↔ ((isK c 13 = true ∧ inr b (lnm M c)) ∧ Wp d 89 84 L [] (up2 M c b.toNatClampNeg a) Q)) ∧
    (∀ (d : Nat) (L : List Value) (M : Mem) (Q : Option Value → Mem → Prop), Wp d 89 84 L [] M Q ↔ Wp d 89 155 L [] M Q) ∧
    (∀ (d : Nat) (x : Nat) (L : List Value) (M : Mem) (Q : Option Value → Mem → Prop), Wp d 89 87 (.ref x :: L) [] M Q ↔ Wp d 89 88 (.ref x :: L) [.ref x] M Q) ∧
    (∀ (d : Nat) (a : Nat) (L : List Value) (M : Mem) (Q : Option Value → Mem → Prop), Wp d 89 88 L [.ref a] M Q ↔ (isK a 11 = true ∧ Wp d 89 91 L [.ref (rt a 3)] M Q)) ∧
    (∀ (d : Nat) (a : Nat) (L : List Value) (M : Mem) (Q : Option Value → Mem → Prop), Wp d 89 91 L [.ref a] M Q ↔ (isK a 9 = true ∧ Wp d 89 94 L [.ref (rt a 1)] M Q)) ∧
    (∀ (d : Nat) (a : Nat) (L : List Value) (M : Mem) (Q : Option Value → Mem → Prop), Wp d 89 94 L [.ref a] M Q ↔ (isK a 6 = true ∧ Wp d 89 97 L [.ref (rt a 0)] M Q)) ∧
    (∀ (d : Nat) (a : Nat) (v0 : Value) (x : Int32) (L : List Value) (M : Mem) (Q : Option Value → Mem → Prop), Wp d 89 97 (v0 :: .int x :: L) [.ref a] M Q ↔ Wp d 89 98 (v0 :: .int x :: L) [.int x, .ref a] M Q) ∧
    (∀ (d : Nat) (a : Int32) (b : Nat) (L : List Value) (M : Mem) (Q : Option Value → Mem → Prop), Wp d 89 98 L [.int a, .ref b] M Q ↔ ((isR b = true ∧ inr a (lnm M b)) ∧ Wp d 89 99 L [.int (M b a.toNatClampNeg)] M Q)) ∧
    (∀ (d : Nat) (a : Int32) (L : List Value) (M : Mem) (Q : Option Value → Mem → Prop), Wp d 89 99 L [.int a] M Q ↔ Wp d 89 100 L [.int 1, .int a] M Q) ∧
    (∀ (d : Nat) (a : Int32) (b : Int32) (L : List Value) (M : Mem) (Q : Option Value → Mem → Prop), Wp d 89 100 L [.int a, .int b] M Q ↔ (if b = a then Wp d 89 103 L [] M Q else Wp d 89 155 L [] M Q)) ∧
    (∀ (d : Nat) (x : Nat) (L : List Value) (M : Mem) (Q : Option Value → Mem → Prop), Wp d 89 103 (.ref x :: L) [] M Q ↔ Wp d 89 104 (.ref x :: L) [.ref x] M Q) ∧
    (∀ (d : Nat) (a : Nat) (L : List Value) (M : Mem) (Q : Option Value → Mem → Prop), Wp d 89 104 L [.ref a] M Q ↔ (isK a 11 = true ∧ Wp d 89 107 L [.ref (rt a 3)] M Q)) ∧
    (∀ (d : Nat) (a : Nat) (L : List Value) (M : Mem) (Q : Option Value → Mem → Prop), Wp d 89 107 L [.ref a] M Q ↔ (isK a 9 = true ∧ Wp d 89 110 L [.ref (rt a 1)] M Q)) ∧
    (∀ (d : Nat) (a : Nat) (L : List Value) (M : Mem) (Q : Option Value → Mem → Prop), Wp d 89 110 L [.ref a] M Q ↔ (isK a 6 = true ∧ Wp d 89 113 L [.ref (rt a 0)] M Q)) ∧
    (∀ (d : Nat) (a : Nat) (v0 : Value) (x : Int32) (L : List Value) (M : Mem) (Q : Option Value → Mem → Prop), Wp d 89 113 (v0 :: .int x :: L) [.ref a] M Q ↔ Wp d 89 114 (v0 :: .int x :: L) [.int x, .ref a] M Q) ∧
    (∀ (d : Nat) (a : Int32) (b : Nat) (L : List Value) (M : Mem) (Q : Option Value → Mem → Prop), Wp d 89 114 L [.int a, .ref b] M Q ↔ Wp d 89 115 L [.int 0, .int a, .ref b] M Q) ∧
    (∀ (d : Nat) (a : Int32) (b : Int32) (c : Nat) (L : List Value) (M : Mem) (Q : Option Value → Mem → Prop), Wp d 89 115 L [.int a, .int b, .ref c] M Q ↔ ((isK c 13 = true ∧ inr b (lnm M c)) ∧ Wp d 89 116 L [] (up2 M c b.toNatClampNeg a) Q)) ∧
    (∀ (d : Nat) (L : List Value) (M : Mem) (Q : Option Value → Mem → Prop), Wp d 89 116 L [] M Q ↔ Wp d 89 155 L [] M Q) ∧
    (∀ (d : Nat) (x : Nat) (L : List Value) (M : Mem) (Q : Option Value → Mem → Prop), Wp d 89 119 (.ref x :: L) [] M Q ↔ Wp d 89 120 (.ref x :: L) [.ref x] M Q) ∧
    (∀ (d : Nat) (a : Nat) (L : List Value) (M : Mem) (Q : Option Value → Mem → Prop), Wp d 89 120 L [.ref a] M Q ↔ (isK a 11 = true ∧ Wp d 89 123 L [.ref (rt a 3)] M Q)) ∧
    (∀ (d : Nat) (a : Nat) (v0 : Value) (x : Int32) (L : List Value) (M : Mem) (Q : Option Value → Mem → Prop), Wp d 89 123 (v0 :: .int x :: L) [.ref a] M Q ↔ Wp d 89 124 (v0 :: .int x :: L) [.int x, .ref a] M Q) ∧
    (∀ (d : Nat) (a : Int32) (b : Nat) (L : List Value) (M : Mem) (Q : Option Value → Mem → Prop), Wp (d + 1) 89 124 L [.int a, .ref b] M Q ↔ (isK b 9 = true ∧ Wp d 56 0 [.ref b, .int a] [] M (fun r M2 => Wp (d + 1) 89 127 L (r.toList ++ []) M2 Q))) ∧
    (∀ (d : Nat) (a : Int32) (L : List Value) (M : Mem) (Q : Option Value → Mem → Prop), Wp d 89 127 L [.int a] M Q ↔ (if a = 0 then Wp d 89 155 L [] M Q else Wp d 89 130 L [] M Q)) ∧
    (∀ (d : Nat) (x : Nat) (L : List Value) (M : Mem) (Q : Option Value → Mem → Prop), Wp d 89 130 (.ref x :: L) [] M Q ↔ Wp d 89 131 (.ref x :: L) [.ref x] M Q) ∧
    (∀ (d : Nat) (a : Nat) (L : List Value) (M : Mem) (Q : Option Value → Mem → Prop), Wp d 89 131 L [.ref a] M Q ↔ (isK a 11 = true ∧ Wp d 89 134 L [.ref (rt a 3)] M Q)) ∧
    (∀ (d : Nat) (a : Nat) (v0 : Value) (x : Int32) (L : List Value) (M : Mem) (Q : Option Value → Mem → Prop), Wp d 89 134 (v0 :: .int x :: L) [.ref a] M Q ↔ Wp d 89 135 (v0 :: .int x :: L) [.int x, .ref a] M Q) ∧
    (∀ (d : Nat) (a : Int32) (b : Nat) (L : List Value) (M : Mem) (Q : Option Value → Mem → Prop), Wp (d + 1) 89 135 L [.int a, .ref b] M Q ↔ (isK b 9 = true ∧ Wp d 57 0 [.ref b, .int a, .null] [] M (fun r M2 => Wp (d + 1) 89 138 L (r.toList ++ []) M2 Q))) ∧
    (∀ (d : Nat) (a : Int32) (L : List Value) (M : Mem) (Q : Option Value → Mem → Prop), Wp d 89 138 L [.int a] M Q ↔ Wp d 89 139 L [] M Q) ∧
    (∀ (d : Nat) (L : List Value) (M : Mem) (Q : Option Value → Mem → Prop), Wp d 89 139 L [] M Q ↔ Wp d 89 155 L [] M Q) ∧
    (∀ (d : Nat) (x : Nat) (L : List Value) (M : Mem) (Q : Option Value → Mem → Prop), Wp d 89 142 (.ref x :: L) [] M Q ↔ Wp d 89 143 (.ref x :: L) [.ref x] M Q) ∧
    (∀ (d : Nat) (a : Nat) (v0 : Value) (x : Int32) (L : List Value) (M : Mem) (Q : Option Value → Mem → Prop), Wp d 89 143 (v0 :: .int x :: L) [.ref a] M Q ↔ Wp d 89 144 (v0 :: .int x :: L) [.int x, .ref a] M Q) ∧
    (∀ (d : Nat) (a : Int32) (b : Nat) (L : List Value) (M : Mem) (Q : Option Value → Mem → Prop), Wp (d + 1) 89 144 L [.int a, .ref b] M Q ↔ (isK b 11 = true ∧ Wp d 91 0 [.ref b, .int a, .null, .null] [] M (fun r M2 => Wp (d + 1) 89 147 L (r.toList ++ []) M2 Q))) ∧
    (∀ (d : Nat) (L : List Value) (M : Mem) (Q : Option Value → Mem → Prop), Wp d 89 147 L [] M Q ↔ Wp d 89 155 L [] M Q) := by
  refine ⟨?_, ?_, ?_, ?_, ?_, ?_, ?_, ?_, ?_, ?_, ?_, ?_, ?_, ?_, ?_, ?_, ?_, ?_, ?_, ?_, ?_, ?_, ?_, ?_, ?_, ?_, ?_, ?_, ?_, ?_, ?_, ?_, ?_, ?_, ?_, ?_, ?_, ?_, ?_, ?_, ?_, ?_, ?_, ?_, ?_, ?_, ?_, ?_, ?_, ?_, ?_, ?_, ?_, ?_, ?_, ?_, ?_, ?_, ?_, ?_⟩
  · intro d x L M Q; exact Wp_sim (by decide +kernel : decode (cd 89) 0 = .ok (.aload_n 0, 1)) rfl rfl
  · intro d a x L M Q; exact Wp_sim (by decide +kernel : decode (cd 89) 1 = .ok (.aload_n 0, 1)) rfl rfl
  · intro d a b L M Q; exact q_getR (p := 301) (by decide +kernel : decode (cd 89) 2 = .ok (.getfield 33, 3)) (by decide +kernel) (by decide +kernel)
  · intro d a b L M Q; exact q_getR (p := 197) (by decide +kernel : decode (cd 89) 5 = .ok (.getfield 111, 3)) (by decide +kernel) (by decide +kernel)
  · intro d a b L M Q; exact q_getI (p := 104) (by decide +kernel : decode (cd 89) 8 = .ok (.getfield 114, 3)) (by decide +kernel) (by decide +kernel)
  · intro d a b L M Q; exact q_invV (pz := 651) (n := 1) (c := 11) (m := 2) (k := b) (As := [.int a]) (rest := []) (by decide +kernel : decode (cd 89) 11 = .ok (.invokevirtual 346, 3)) (by decide +kernel) (by decide +kernel) rfl rfl (Nat.le_of_ble_eq_true rfl) (Nat.le_of_ble_eq_true rfl) rfl
  · intro d a v0 x L M Q; exact Wp_sim (by decide +kernel : decode (cd 89) 14 = .ok (.istore_n 1, 1)) rfl rfl
  · intro d x L M Q; exact Wp_sim (by decide +kernel : decode (cd 89) 15 = .ok (.aload_n 0, 1)) rfl rfl
  · intro d a v0 x L M Q; exact Wp_sim (by decide +kernel : decode (cd 89) 16 = .ok (.iload_n 1, 1)) rfl rfl
  · intro d a b L M Q; exact q_invV (pz := 516) (n := 1) (c := 11) (m := 2) (k := b) (As := [.int a]) (rest := []) (by decide +kernel : decode (cd 89) 17 = .ok (.invokevirtual 175, 3)) (by decide +kernel) (by decide +kernel) rfl rfl (Nat.le_of_ble_eq_true rfl) (Nat.le_of_ble_eq_true rfl) rfl
  · intro d a L M Q; exact q_zne (by decide +kernel : decode (cd 89) 20 = .ok (.ifCond .ne 4, 3)) (by decide)
  · intro d L M Q; exact q_vret (by decide +kernel : decode (cd 89) 23 = .ok (.return_ , 1)) (by decide +kernel)
  · intro d x L M Q; exact Wp_sim (by decide +kernel : decode (cd 89) 24 = .ok (.aload_n 0, 1)) rfl rfl
  · intro d a L M Q; exact Wp_sim (by decide +kernel : decode (cd 89) 25 = .ok (.iconst 5, 1)) rfl rfl
  · intro d a b L M Q; exact q_invV (pz := 651) (n := 1) (c := 11) (m := 2) (k := b) (As := [.int a]) (rest := []) (by decide +kernel : decode (cd 89) 26 = .ok (.invokevirtual 346, 3)) (by decide +kernel) (by decide +kernel) rfl rfl (Nat.le_of_ble_eq_true rfl) (Nat.le_of_ble_eq_true rfl) rfl
  · intro d a L M Q
    by_cases h0 : a = 0
    · subst h0; rw [if_pos rfl]; exact q_tsw (by decide +kernel : decode (cd 89) 29 = .ok (.tableswitch 121 0 3 #[31, 58, 90, 113], 31)) (by decide) (by decide +kernel)
    rw [if_neg h0]
    by_cases h1 : a = 1
    · subst h1; rw [if_pos rfl]; exact q_tsw (by decide +kernel : decode (cd 89) 29 = .ok (.tableswitch 121 0 3 #[31, 58, 90, 113], 31)) (by decide) (by decide +kernel)
    rw [if_neg h1]
    by_cases h2 : a = 2
    · subst h2; rw [if_pos rfl]; exact q_tsw (by decide +kernel : decode (cd 89) 29 = .ok (.tableswitch 121 0 3 #[31, 58, 90, 113], 31)) (by decide) (by decide +kernel)
    rw [if_neg h2]
    by_cases h3 : a = 3
    · subst h3; rw [if_pos rfl]; exact q_tsw (by decide +kernel : decode (cd 89) 29 = .ok (.tableswitch 121 0 3 #[31, 58, 90, 113], 31)) (by decide) (by decide +kernel)
    rw [if_neg h3]
    refine q_tsw (by decide +kernel : decode (cd 89) 29 = .ok (.tableswitch 121 0 3 #[31, 58, 90, 113], 31)) (by decide) ?_
    rw [tsw_out ?_]
    · decide
    have g0 := lv_neT h0 (a := 0) (by decide)
    have g1 := lv_neT h1 (a := 1) (by decide)
    have g2 := lv_neT h2 (a := 2) (by decide)
    have g3 := lv_neT h3 (a := 3) (by decide)
    omega
  · intro d x L M Q; exact Wp_sim (by decide +kernel : decode (cd 89) 60 = .ok (.aload_n 0, 1)) rfl rfl
  · intro d a L M Q; exact q_getR (p := 301) (by decide +kernel : decode (cd 89) 61 = .ok (.getfield 33, 3)) (by decide +kernel) (by decide +kernel)
  · intro d a v0 x L M Q; exact Wp_sim (by decide +kernel : decode (cd 89) 64 = .ok (.iload_n 1, 1)) rfl rfl
  · intro d a b L M Q; exact q_invV (pz := 580) (n := 1) (c := 9) (m := 2) (k := b) (As := [.int a]) (rest := []) (by decide +kernel : decode (cd 89) 65 = .ok (.invokevirtual 227, 3)) (by decide +kernel) (by decide +kernel) rfl rfl (Nat.le_of_ble_eq_true rfl) (Nat.le_of_ble_eq_true rfl) rfl
  · intro d a L M Q; exact q_zeq (by decide +kernel : decode (cd 89) 68 = .ok (.ifCond .eq 87, 3)) (by decide)
  · intro d x L M Q; exact Wp_sim (by decide +kernel : decode (cd 89) 71 = .ok (.aload_n 0, 1)) rfl rfl
  · intro d a L M Q; exact q_getR (p := 301) (by decide +kernel : decode (cd 89) 72 = .ok (.getfield 33, 3)) (by decide +kernel) (by decide +kernel)
  · intro d a L M Q; exact q_getR (p := 199) (by decide +kernel : decode (cd 89) 75 = .ok (.getfield 132, 3)) (by decide +kernel) (by decide +kernel)
  · intro d a L M Q; exact q_getR (p := 167) (by decide +kernel : decode (cd 89) 78 = .ok (.getfield 189, 3)) (by decide +kernel) (by decide +kernel)
  · intro d a v0 x L M Q; exact Wp_sim (by decide +kernel : decode (cd 89) 81 = .ok (.iload_n 1, 1)) rfl rfl
  · intro d a b L M Q; exact Wp_sim (by decide +kernel : decode (cd 89) 82 = .ok (.iconst 1, 1)) rfl rfl
  · intro d a b c L M Q; exact q_ast (by decide +kernel : decode (cd 89) 83 = .ok (.iastore , 1))
  · intro d L M Q; exact q_goto (by decide +kernel : decode (cd 89) 84 = .ok (.goto 71, 3)) (by decide)
  · intro d x L M Q; exact Wp_sim (by decide +kernel : decode (cd 89) 87 = .ok (.aload_n 0, 1)) rfl rfl
  · intro d a L M Q; exact q_getR (p := 301) (by decide +kernel : decode (cd 89) 88 = .ok (.getfield 33, 3)) (by decide +kernel) (by decide +kernel)
  · intro d a L M Q; exact q_getR (p := 199) (by decide +kernel : decode (cd 89) 91 = .ok (.getfield 132, 3)) (by decide +kernel) (by decide +kernel)
  · intro d a L M Q; exact q_getR (p := 167) (by decide +kernel : decode (cd 89) 94 = .ok (.getfield 189, 3)) (by decide +kernel) (by decide +kernel)
  · intro d a v0 x L M Q; exact Wp_sim (by decide +kernel : decode (cd 89) 97 = .ok (.iload_n 1, 1)) rfl rfl
  · intro d a b L M Q; exact q_ald (by decide +kernel : decode (cd 89) 98 = .ok (.iaload , 1))
  · intro d a L M Q; exact Wp_sim (by decide +kernel : decode (cd 89) 99 = .ok (.iconst 1, 1)) rfl rfl
  · intro d a b L M Q; exact q_ine (by decide +kernel : decode (cd 89) 100 = .ok (.if_icmp .ne 55, 3)) (by decide)
  · intro d x L M Q; exact Wp_sim (by decide +kernel : decode (cd 89) 103 = .ok (.aload_n 0, 1)) rfl rfl
  · intro d a L M Q; exact q_getR (p := 301) (by decide +kernel : decode (cd 89) 104 = .ok (.getfield 33, 3)) (by decide +kernel) (by decide +kernel)
  · intro d a L M Q; exact q_getR (p := 199) (by decide +kernel : decode (cd 89) 107 = .ok (.getfield 132, 3)) (by decide +kernel) (by decide +kernel)
  · intro d a L M Q; exact q_getR (p := 167) (by decide +kernel : decode (cd 89) 110 = .ok (.getfield 189, 3)) (by decide +kernel) (by decide +kernel)
  · intro d a v0 x L M Q; exact Wp_sim (by decide +kernel : decode (cd 89) 113 = .ok (.iload_n 1, 1)) rfl rfl
  · intro d a b L M Q; exact Wp_sim (by decide +kernel : decode (cd 89) 114 = .ok (.iconst 0, 1)) rfl rfl
  · intro d a b c L M Q; exact q_ast (by decide +kernel : decode (cd 89) 115 = .ok (.iastore , 1))
  · intro d L M Q; exact q_goto (by decide +kernel : decode (cd 89) 116 = .ok (.goto 39, 3)) (by decide)
  · intro d x L M Q; exact Wp_sim (by decide +kernel : decode (cd 89) 119 = .ok (.aload_n 0, 1)) rfl rfl
  · intro d a L M Q; exact q_getR (p := 301) (by decide +kernel : decode (cd 89) 120 = .ok (.getfield 33, 3)) (by decide +kernel) (by decide +kernel)
  · intro d a v0 x L M Q; exact Wp_sim (by decide +kernel : decode (cd 89) 123 = .ok (.iload_n 1, 1)) rfl rfl
  · intro d a b L M Q; exact q_invV (pz := 598) (n := 1) (c := 9) (m := 2) (k := b) (As := [.int a]) (rest := []) (by decide +kernel : decode (cd 89) 124 = .ok (.invokevirtual 231, 3)) (by decide +kernel) (by decide +kernel) rfl rfl (Nat.le_of_ble_eq_true rfl) (Nat.le_of_ble_eq_true rfl) rfl
  · intro d a L M Q; exact q_zeq (by decide +kernel : decode (cd 89) 127 = .ok (.ifCond .eq 28, 3)) (by decide)
  · intro d x L M Q; exact Wp_sim (by decide +kernel : decode (cd 89) 130 = .ok (.aload_n 0, 1)) rfl rfl
  · intro d a L M Q; exact q_getR (p := 301) (by decide +kernel : decode (cd 89) 131 = .ok (.getfield 33, 3)) (by decide +kernel) (by decide +kernel)
  · intro d a v0 x L M Q; exact Wp_sim (by decide +kernel : decode (cd 89) 134 = .ok (.iload_n 1, 1)) rfl rfl
  · intro d a b L M Q; exact q_invV (pz := 603) (n := 1) (c := 9) (m := 3) (k := b) (As := [.int a]) (rest := []) (by decide +kernel : decode (cd 89) 135 = .ok (.invokevirtual 234, 3)) (by decide +kernel) (by decide +kernel) rfl rfl (Nat.le_of_ble_eq_true rfl) (Nat.le_of_ble_eq_true rfl) rfl
  · intro d a L M Q; exact Wp_sim (by decide +kernel : decode (cd 89) 138 = .ok (.pop , 1)) rfl rfl
  · intro d L M Q; exact q_goto (by decide +kernel : decode (cd 89) 139 = .ok (.goto 16, 3)) (by decide)
  · intro d x L M Q; exact Wp_sim (by decide +kernel : decode (cd 89) 142 = .ok (.aload_n 0, 1)) rfl rfl
  · intro d a v0 x L M Q; exact Wp_sim (by decide +kernel : decode (cd 89) 143 = .ok (.iload_n 1, 1)) rfl rfl
  · intro d a b L M Q; exact q_invV (pz := 659) (n := 1) (c := 11) (m := 4) (k := b) (As := [.int a]) (rest := []) (by decide +kernel : decode (cd 89) 144 = .ok (.invokevirtual 349, 3)) (by decide +kernel) (by decide +kernel) rfl rfl (Nat.le_of_ble_eq_true rfl) (Nat.le_of_ble_eq_true rfl) rfl
  · intro d L M Q; exact q_goto (by decide +kernel : decode (cd 89) 147 = .ok (.goto 8, 3)) (by decide)
set_option maxRecDepth 10000 in
theorem e89_1 : (∀ (d : Nat) (x : Nat) (L : List Value) (M : Mem) (Q : Option Value → Mem → Prop), Wp d 89 150 (.ref x :: L) [] M Q ↔ Wp d 89 151 (.ref x :: L) [.ref x] M Q) ∧
    (∀ (d : Nat) (a : Nat) (v0 : Value) (x : Int32) (L : List Value) (M : Mem) (Q : Option Value → Mem → Prop), Wp d 89 151 (v0 :: .int x :: L) [.ref a] M Q ↔ Wp d 89 152 (v0 :: .int x :: L) [.int x, .ref a] M Q) ∧
    (∀ (d : Nat) (a : Int32) (b : Nat) (L : List Value) (M : Mem) (Q : Option Value → Mem → Prop), Wp (d + 1) 89 152 L [.int a, .ref b] M Q ↔ (isK b 11 = true ∧ Wp d 92 0 [.ref b, .int a, .null] [] M (fun r M2 => Wp (d + 1) 89 155 L (r.toList ++ []) M2 Q))) ∧
    (∀ (d : Nat) (L : List Value) (M : Mem) (Q : Option Value → Mem → Prop), Wp d 89 155 L [] M Q ↔ Q none M) := by
  refine ⟨?_, ?_, ?_, ?_⟩
  · intro d x L M Q; exact Wp_sim (by decide +kernel : decode (cd 89) 150 = .ok (.aload_n 0, 1)) rfl rfl
  · intro d a v0 x L M Q; exact Wp_sim (by decide +kernel : decode (cd 89) 151 = .ok (.iload_n 1, 1)) rfl rfl
  · intro d a b L M Q; exact q_invV (pz := 663) (n := 1) (c := 11) (m := 3) (k := b) (As := [.int a]) (rest := []) (by decide +kernel : decode (cd 89) 152 = .ok (.invokevirtual 352, 3)) (by decide +kernel) (by decide +kernel) rfl rfl (Nat.le_of_ble_eq_true rfl) (Nat.le_of_ble_eq_true rfl) rfl
  · intro d L M Q; exact q_vret (by decide +kernel : decode (cd 89) 155 = .ok (.return_ , 1)) (by decide +kernel)

/- 90: PalaceYard.draw -/
set_option maxRecDepth 10000 in
theorem e90 : (∀ (d : Nat) (x : Nat) (L : List Value) (M : Mem) (Q : Option Value → Mem → Prop), Wp d 90 0 (.ref x :: L) [] M Q ↔ Wp d 90 1 (.ref x :: L) [.ref x] M Q) ∧
    (∀ (d : Nat) (a : Nat) (x : Nat) (L : List Value) (M : Mem) (Q : Option Value → Mem → Prop), Wp d 90 1 (.ref x :: L) [.ref a] M Q ↔ Wp d 90 2 (.ref x :: L) [.ref x, .ref a] M Q) ∧
    (∀ (d : Nat) (a : Nat) (b : Nat) (L : List Value) (M : Mem) (Q : Option Value → Mem → Prop), Wp d 90 2 L [.ref a, .ref b] M Q ↔ (isK a 11 = true ∧ Wp d 90 5 L [.int (M a 11), .ref b] M Q)) ∧
    (∀ (d : Nat) (a : Int32) (b : Nat) (L : List Value) (M : Mem) (Q : Option Value → Mem → Prop), Wp d 90 5 L [.int a, .ref b] M Q ↔ Wp d 90 6 L [.long a.toInt64, .ref b] M Q) ∧
    (∀ (d : Nat) (a : Int64) (b : Nat) (L : List Value) (M : Mem) (Q : Option Value → Mem → Prop), Wp d 90 6 L [.long a, .ref b] M Q ↔ Wp d 90 9 L [.long 1103515245, .long a, .ref b] M Q) ∧
    (∀ (d : Nat) (a : Int64) (b : Int64) (c : Nat) (L : List Value) (M : Mem) (Q : Option Value → Mem → Prop), Wp d 90 9 L [.long a, .long b, .ref c] M Q ↔ Wp d 90 10 L [.long (b * a), .ref c] M Q) ∧
    (∀ (d : Nat) (a : Int64) (b : Nat) (L : List Value) (M : Mem) (Q : Option Value → Mem → Prop), Wp d 90 10 L [.long a, .ref b] M Q ↔ Wp d 90 13 L [.long 12345, .long a, .ref b] M Q) ∧
    (∀ (d : Nat) (a : Int64) (b : Int64) (c : Nat) (L : List Value) (M : Mem) (Q : Option Value → Mem → Prop), Wp d 90 13 L [.long a, .long b, .ref c] M Q ↔ Wp d 90 14 L [.long (b + a), .ref c] M Q) ∧
    (∀ (d : Nat) (a : Int64) (b : Nat) (L : List Value) (M : Mem) (Q : Option Value → Mem → Prop), Wp d 90 14 L [.long a, .ref b] M Q ↔ Wp d 90 17 L [.long 2147483647, .long a, .ref b] M Q) ∧
    (∀ (d : Nat) (a : Int64) (b : Int64) (c : Nat) (L : List Value) (M : Mem) (Q : Option Value → Mem → Prop), Wp d 90 17 L [.long a, .long b, .ref c] M Q ↔ Wp d 90 18 L [.long (b &&& a), .ref c] M Q) ∧
    (∀ (d : Nat) (a : Int64) (b : Nat) (L : List Value) (M : Mem) (Q : Option Value → Mem → Prop), Wp d 90 18 L [.long a, .ref b] M Q ↔ Wp d 90 19 L [.int a.toInt32, .ref b] M Q) ∧
    (∀ (d : Nat) (a : Int32) (b : Nat) (L : List Value) (M : Mem) (Q : Option Value → Mem → Prop), Wp d 90 19 L [.int a, .ref b] M Q ↔ (isK b 11 = true ∧ Wp d 90 22 L [] (up2 M b 11 a) Q)) ∧
    (∀ (d : Nat) (v0 : Value) (x : Int32) (L : List Value) (M : Mem) (Q : Option Value → Mem → Prop), Wp d 90 22 (v0 :: .int x :: L) [] M Q ↔ Wp d 90 23 (v0 :: .int x :: L) [.int x] M Q) ∧
    (∀ (d : Nat) (a : Int32) (L : List Value) (M : Mem) (Q : Option Value → Mem → Prop), Wp d 90 23 L [.int a] M Q ↔ (if 0 < a then Wp d 90 26 L [] M Q else Wp d 90 39 L [] M Q)) ∧
    (∀ (d : Nat) (x : Nat) (L : List Value) (M : Mem) (Q : Option Value → Mem → Prop), Wp d 90 26 (.ref x :: L) [] M Q ↔ Wp d 90 27 (.ref x :: L) [.ref x] M Q) ∧
    (∀ (d : Nat) (a : Nat) (L : List Value) (M : Mem) (Q : Option Value → Mem → Prop), Wp d 90 27 L [.ref a] M Q ↔ (isK a 11 = true ∧ Wp d 90 30 L [.int (M a 11)] M Q)) ∧
    (∀ (d : Nat) (a : Int32) (L : List Value) (M : Mem) (Q : Option Value → Mem → Prop), Wp d 90 30 L [.int a] M Q ↔ Wp d 90 33 L [.int 65536, .int a] M Q) ∧
    (∀ (d : Nat) (a : Int32) (b : Int32) (L : List Value) (M : Mem) (Q : Option Value → Mem → Prop), Wp d 90 33 L [.int a, .int b] M Q ↔ (¬ a = 0 ∧ Wp d 90 34 L [.int (b / a)] M Q)) ∧
    (∀ (d : Nat) (a : Int32) (v0 : Value) (x : Int32) (L : List Value) (M : Mem) (Q : Option Value → Mem → Prop), Wp d 90 34 (v0 :: .int x :: L) [.int a] M Q ↔ Wp d 90 35 (v0 :: .int x :: L) [.int x, .int a] M Q) ∧
    (∀ (d : Nat) (a : Int32) (b : Int32) (L : List Value) (M : Mem) (Q : Option Value → Mem → Prop), Wp d 90 35 L [.int a, .int b] M Q ↔ (¬ a = 0 ∧ Wp d 90 36 L [.int (b - b / a * a)] M Q)) ∧
    (∀ (d : Nat) (a : Int32) (L : List Value) (M : Mem) (Q : Option Value → Mem → Prop), Wp d 90 36 L [.int a] M Q ↔ Wp d 90 40 L [.int a] M Q) ∧
    (∀ (d : Nat) (L : List Value) (M : Mem) (Q : Option Value → Mem → Prop), Wp d 90 39 L [] M Q ↔ Wp d 90 40 L [.int 0] M Q) ∧
    (∀ (d : Nat) (a : Int32) (L : List Value) (M : Mem) (Q : Option Value → Mem → Prop), Wp d 90 40 L [.int a] M Q ↔ Q (some (.int a)) M) := by
  refine ⟨?_, ?_, ?_, ?_, ?_, ?_, ?_, ?_, ?_, ?_, ?_, ?_, ?_, ?_, ?_, ?_, ?_, ?_, ?_, ?_, ?_, ?_, ?_⟩
  · intro d x L M Q; exact Wp_sim (by decide +kernel : decode (cd 90) 0 = .ok (.aload_n 0, 1)) rfl rfl
  · intro d a x L M Q; exact Wp_sim (by decide +kernel : decode (cd 90) 1 = .ok (.aload_n 0, 1)) rfl rfl
  · intro d a b L M Q; exact q_getI (p := 309) (by decide +kernel : decode (cd 90) 2 = .ok (.getfield 79, 3)) (by decide +kernel) (by decide +kernel)
  · intro d a b L M Q; exact Wp_sim (by decide +kernel : decode (cd 90) 5 = .ok (.i2l , 1)) rfl rfl
  · intro d a b L M Q; exact q_ldc2 (p := 655) (by decide +kernel : decode (cd 90) 6 = .ok (.ldc2_w 339, 3)) (by decide +kernel)
  · intro d a b c L M Q; exact Wp_sim (by decide +kernel : decode (cd 90) 9 = .ok (.lmul , 1)) rfl rfl
  · intro d a b L M Q; exact q_ldc2 (p := 656) (by decide +kernel : decode (cd 90) 10 = .ok (.ldc2_w 341, 3)) (by decide +kernel)
  · intro d a b c L M Q; exact Wp_sim (by decide +kernel : decode (cd 90) 13 = .ok (.ladd , 1)) rfl rfl
  · intro d a b L M Q; exact q_ldc2 (p := 657) (by decide +kernel : decode (cd 90) 14 = .ok (.ldc2_w 343, 3)) (by decide +kernel)
  · intro d a b c L M Q; exact Wp_sim (by decide +kernel : decode (cd 90) 17 = .ok (.land , 1)) rfl rfl
  · intro d a b L M Q; exact Wp_sim (by decide +kernel : decode (cd 90) 18 = .ok (.l2i , 1)) rfl rfl
  · intro d a b L M Q; exact q_putI (p := 309) (by decide +kernel : decode (cd 90) 19 = .ok (.putfield 79, 3)) (by decide +kernel) (by decide +kernel)
  · intro d v0 x L M Q; exact Wp_sim (by decide +kernel : decode (cd 90) 22 = .ok (.iload_n 1, 1)) rfl rfl
  · intro d a L M Q; exact q_zle (by decide +kernel : decode (cd 90) 23 = .ok (.ifCond .le 16, 3)) (by decide)
  · intro d x L M Q; exact Wp_sim (by decide +kernel : decode (cd 90) 26 = .ok (.aload_n 0, 1)) rfl rfl
  · intro d a L M Q; exact q_getI (p := 309) (by decide +kernel : decode (cd 90) 27 = .ok (.getfield 79, 3)) (by decide +kernel) (by decide +kernel)
  · intro d a L M Q; exact q_ldcw (p := 658) (by decide +kernel : decode (cd 90) 30 = .ok (.ldc_w 345, 3)) (by decide +kernel)
  · intro d a b L M Q; exact q_idiv (by decide +kernel : decode (cd 90) 33 = .ok (.idiv , 1))
  · intro d a v0 x L M Q; exact Wp_sim (by decide +kernel : decode (cd 90) 34 = .ok (.iload_n 1, 1)) rfl rfl
  · intro d a b L M Q; exact q_irem (by decide +kernel : decode (cd 90) 35 = .ok (.irem , 1))
  · intro d a L M Q; exact q_goto (by decide +kernel : decode (cd 90) 36 = .ok (.goto 4, 3)) (by decide)
  · intro d L M Q; exact Wp_sim (by decide +kernel : decode (cd 90) 39 = .ok (.iconst 0, 1)) rfl rfl
  · intro d a L M Q; exact q_iret (by decide +kernel : decode (cd 90) 40 = .ok (.ireturn , 1)) (by decide +kernel)

/- 91: PalaceYard.lendByDraws -/
set_option maxRecDepth 10000 in
theorem e91 : (∀ (d : Nat) (x : Nat) (L : List Value) (M : Mem) (Q : Option Value → Mem → Prop), Wp d 91 0 (.ref x :: L) [] M Q ↔ Wp d 91 1 (.ref x :: L) [.ref x] M Q) ∧
    (∀ (d : Nat) (a : Nat) (L : List Value) (M : Mem) (Q : Option Value → Mem → Prop), Wp d 91 1 L [.ref a] M Q ↔ Wp d 91 3 L [.int 20, .ref a] M Q) ∧
    (∀ (d : Nat) (a : Int32) (b : Nat) (L : List Value) (M : Mem) (Q : Option Value → Mem → Prop), Wp (d + 1) 91 3 L [.int a, .ref b] M Q ↔ (isK b 11 = true ∧ Wp d 90 0 [.ref b, .int a] [] M (fun r M2 => Wp (d + 1) 91 6 L (r.toList ++ []) M2 Q))) ∧
    (∀ (d : Nat) (a : Int32) (L : List Value) (M : Mem) (Q : Option Value → Mem → Prop), Wp d 91 6 L [.int a] M Q ↔ Wp d 91 7 L [.int 1, .int a] M Q) ∧
    (∀ (d : Nat) (a : Int32) (b : Int32) (L : List Value) (M : Mem) (Q : Option Value → Mem → Prop), Wp d 91 7 L [.int a, .int b] M Q ↔ Wp d 91 8 L [.int (b + a)] M Q) ∧
    (∀ (d : Nat) (a : Int32) (v0 : Value) (v1 : Value) (x : Value) (L : List Value) (M : Mem) (Q : Option Value → Mem → Prop), Wp d 91 8 (v0 :: v1 :: x :: L) [.int a] M Q ↔ Wp d 91 9 (v0 :: clr v1 :: .int a :: L) [] M Q) ∧
    (∀ (d : Nat) (x : Nat) (L : List Value) (M : Mem) (Q : Option Value → Mem → Prop), Wp d 91 9 (.ref x :: L) [] M Q ↔ Wp d 91 10 (.ref x :: L) [.ref x] M Q) ∧
    (∀ (d : Nat) (a : Nat) (x : Nat) (L : List Value) (M : Mem) (Q : Option Value → Mem → Prop), Wp d 91 10 (.ref x :: L) [.ref a] M Q ↔ Wp d 91 11 (.ref x :: L) [.ref x, .ref a] M Q) ∧
    (∀ (d : Nat) (a : Nat) (b : Nat) (L : List Value) (M : Mem) (Q : Option Value → Mem → Prop), Wp d 91 11 L [.ref a, .ref b] M Q ↔ (isK a 11 = true ∧ Wp d 91 14 L [.ref (rt a 3), .ref b] M Q)) ∧
    (∀ (d : Nat) (a : Nat) (b : Nat) (L : List Value) (M : Mem) (Q : Option Value → Mem → Prop), Wp d 91 14 L [.ref a, .ref b] M Q ↔ (isK a 9 = true ∧ Wp d 91 17 L [.ref (rt a 0), .ref b] M Q)) ∧
    (∀ (d : Nat) (a : Nat) (b : Nat) (L : List Value) (M : Mem) (Q : Option Value → Mem → Prop), Wp d 91 17 L [.ref a, .ref b] M Q ↔ (isK a 1 = true ∧ Wp d 91 20 L [.int (M a 13), .ref b] M Q)) ∧
    (∀ (d : Nat) (a : Int32) (b : Nat) (L : List Value) (M : Mem) (Q : Option Value → Mem → Prop), Wp (d + 1) 91 20 L [.int a, .ref b] M Q ↔ (isK b 11 = true ∧ Wp d 90 0 [.ref b, .int a] [] M (fun r M2 => Wp (d + 1) 91 23 L (r.toList ++ []) M2 Q))) ∧
    (∀ (d : Nat) (a : Int32) (v0 : Value) (v1 : Value) (v2 : Value) (x : Value) (L : List Value) (M : Mem) (Q : Option Value → Mem → Prop), Wp d 91 23 (v0 :: v1 :: v2 :: x :: L) [.int a] M Q ↔ Wp d 91 24 (v0 :: v1 :: clr v2 :: .int a :: L) [] M Q) ∧
    (∀ (d : Nat) (x : Nat) (L : List Value) (M : Mem) (Q : Option Value → Mem → Prop), Wp d 91 24 (.ref x :: L) [] M Q ↔ Wp d 91 25 (.ref x :: L) [.ref x] M Q) ∧
    (∀ (d : Nat) (a : Nat) (v0 : Value) (x : Int32) (L : List Value) (M : Mem) (Q : Option Value → Mem → Prop), Wp d 91 25 (v0 :: .int x :: L) [.ref a] M Q ↔ Wp d 91 26 (v0 :: .int x :: L) [.int x, .ref a] M Q) ∧
    (∀ (d : Nat) (a : Int32) (b : Nat) (v0 : Value) (v1 : Value) (v2 : Value) (x : Int32) (L : List Value) (M : Mem) (Q : Option Value → Mem → Prop), Wp d 91 26 (v0 :: v1 :: v2 :: .int x :: L) [.int a, .ref b] M Q ↔ Wp d 91 27 (v0 :: v1 :: v2 :: .int x :: L) [.int x, .int a, .ref b] M Q) ∧
    (∀ (d : Nat) (a : Int32) (b : Int32) (c : Nat) (L : List Value) (M : Mem) (Q : Option Value → Mem → Prop), Wp (d + 1) 91 27 L [.int a, .int b, .ref c] M Q ↔ (isK c 11 = true ∧ Wp d 79 0 [.ref c, .int b, .int a] [] M (fun r M2 => Wp (d + 1) 91 30 L (r.toList ++ []) M2 Q))) ∧
    (∀ (d : Nat) (a : Int32) (L : List Value) (M : Mem) (Q : Option Value → Mem → Prop), Wp d 91 30 L [.int a] M Q ↔ (if a = 0 then Wp d 91 56 L [] M Q else Wp d 91 33 L [] M Q)) ∧
    (∀ (d : Nat) (x : Nat) (L : List Value) (M : Mem) (Q : Option Value → Mem → Prop), Wp d 91 33 (.ref x :: L) [] M Q ↔ Wp d 91 34 (.ref x :: L) [.ref x] M Q) ∧
    (∀ (d : Nat) (a : Nat) (L : List Value) (M : Mem) (Q : Option Value → Mem → Prop), Wp d 91 34 L [.ref a] M Q ↔ (isK a 11 = true ∧ Wp d 91 37 L [.ref (rt a 3)] M Q)) ∧
    (∀ (d : Nat) (a : Nat) (v0 : Value) (x : Int32) (L : List Value) (M : Mem) (Q : Option Value → Mem → Prop), Wp d 91 37 (v0 :: .int x :: L) [.ref a] M Q ↔ Wp d 91 38 (v0 :: .int x :: L) [.int x, .ref a] M Q) ∧
    (∀ (d : Nat) (a : Int32) (b : Nat) (v0 : Value) (v1 : Value) (v2 : Value) (x : Int32) (L : List Value) (M : Mem) (Q : Option Value → Mem → Prop), Wp d 91 38 (v0 :: v1 :: v2 :: .int x :: L) [.int a, .ref b] M Q ↔ Wp d 91 39 (v0 :: v1 :: v2 :: .int x :: L) [.int x, .int a, .ref b] M Q) ∧
    (∀ (d : Nat) (a : Int32) (b : Int32) (c : Nat) (v0 : Value) (v1 : Value) (x : Int32) (L : List Value) (M : Mem) (Q : Option Value → Mem → Prop), Wp d 91 39 (v0 :: v1 :: .int x :: L) [.int a, .int b, .ref c] M Q ↔ Wp d 91 40 (v0 :: v1 :: .int x :: L) [.int x, .int a, .int b, .ref c] M Q) ∧
    (∀ (d : Nat) (a : Int32) (b : Int32) (c : Int32) (d2 : Nat) (L : List Value) (M : Mem) (Q : Option Value → Mem → Prop), Wp (d + 1) 91 40 L [.int a, .int b, .int c, .ref d2] M Q ↔ (isK d2 9 = true ∧ Wp d 59 0 [.ref d2, .int c, .int b, .int a] [] M (fun r M2 => Wp (d + 1) 91 43 L (r.toList ++ []) M2 Q))) ∧
    (∀ (d : Nat) (a : Int32) (L : List Value) (M : Mem) (Q : Option Value → Mem → Prop), Wp d 91 43 L [.int a] M Q ↔ (if a = 0 then Wp d 91 46 L [] M Q else Wp d 91 56 L [] M Q)) ∧
    (∀ (d : Nat) (x : Nat) (L : List Value) (M : Mem) (Q : Option Value → Mem → Prop), Wp d 91 46 (.ref x :: L) [] M Q ↔ Wp d 91 47 (.ref x :: L) [.ref x] M Q) ∧
    (∀ (d : Nat) (a : Nat) (L : List Value) (M : Mem) (Q : Option Value → Mem → Prop), Wp d 91 47 L [.ref a] M Q ↔ (isK a 11 = true ∧ Wp d 91 50 L [.ref (rt a 3)] M Q)) ∧
    (∀ (d : Nat) (a : Nat) (v0 : Value) (x : Int32) (L : List Value) (M : Mem) (Q : Option Value → Mem → Prop), Wp d 91 50 (v0 :: .int x :: L) [.ref a] M Q ↔ Wp d 91 51 (v0 :: .int x :: L) [.int x, .ref a] M Q) ∧
    (∀ (d : Nat) (a : Int32) (b : Nat) (v0 : Value) (v1 : Value) (v2 : Value) (x : Int32) (L : List Value) (M : Mem) (Q : Option Value → Mem → Prop), Wp d 91 51 (v0 :: v1 :: v2 :: .int x :: L) [.int a, .ref b] M Q ↔ Wp d 91 52 (v0 :: v1 :: v2 :: .int x :: L) [.int x, .int a, .ref b] M Q) ∧
    (∀ (d : Nat) (a : Int32) (b : Int32) (c : Nat) (v0 : Value) (v1 : Value) (x : Int32) (L : List Value) (M : Mem) (Q : Option Value → Mem → Prop), Wp d 91 52 (v0 :: v1 :: .int x :: L) [.int a, .int b, .ref c] M Q ↔ Wp d 91 53 (v0 :: v1 :: .int x :: L) [.int x, .int a, .int b, .ref c] M Q) ∧
    (∀ (d : Nat) (a : Int32) (b : Int32) (c : Int32) (d2 : Nat) (L : List Value) (M : Mem) (Q : Option Value → Mem → Prop), Wp (d + 1) 91 53 L [.int a, .int b, .int c, .ref d2] M Q ↔ (isK d2 9 = true ∧ Wp d 60 0 [.ref d2, .int c, .int b, .int a] [] M (fun r M2 => Wp (d + 1) 91 56 L (r.toList ++ []) M2 Q))) ∧
    (∀ (d : Nat) (L : List Value) (M : Mem) (Q : Option Value → Mem → Prop), Wp d 91 56 L [] M Q ↔ Q none M) := by
  refine ⟨?_, ?_, ?_, ?_, ?_, ?_, ?_, ?_, ?_, ?_, ?_, ?_, ?_, ?_, ?_, ?_, ?_, ?_, ?_, ?_, ?_, ?_, ?_, ?_, ?_, ?_, ?_, ?_, ?_, ?_, ?_, ?_⟩
  · intro d x L M Q; exact Wp_sim (by decide +kernel : decode (cd 91) 0 = .ok (.aload_n 0, 1)) rfl rfl
  · intro d a L M Q; exact Wp_sim (by decide +kernel : decode (cd 91) 1 = .ok (.bipush 20, 2)) rfl rfl
  · intro d a b L M Q; exact q_invV (pz := 651) (n := 1) (c := 11) (m := 2) (k := b) (As := [.int a]) (rest := []) (by decide +kernel : decode (cd 91) 3 = .ok (.invokevirtual 346, 3)) (by decide +kernel) (by decide +kernel) rfl rfl (Nat.le_of_ble_eq_true rfl) (Nat.le_of_ble_eq_true rfl) rfl
  · intro d a L M Q; exact Wp_sim (by decide +kernel : decode (cd 91) 6 = .ok (.iconst 1, 1)) rfl rfl
  · intro d a b L M Q; exact Wp_sim (by decide +kernel : decode (cd 91) 7 = .ok (.iadd , 1)) rfl rfl
  · intro d a v0 v1 x L M Q; exact Wp_sim (by decide +kernel : decode (cd 91) 8 = .ok (.istore_n 2, 1)) rfl rfl
  · intro d x L M Q; exact Wp_sim (by decide +kernel : decode (cd 91) 9 = .ok (.aload_n 0, 1)) rfl rfl
  · intro d a x L M Q; exact Wp_sim (by decide +kernel : decode (cd 91) 10 = .ok (.aload_n 0, 1)) rfl rfl
  · intro d a b L M Q; exact q_getR (p := 301) (by decide +kernel : decode (cd 91) 11 = .ok (.getfield 33, 3)) (by decide +kernel) (by decide +kernel)
  · intro d a b L M Q; exact q_getR (p := 197) (by decide +kernel : decode (cd 91) 14 = .ok (.getfield 111, 3)) (by decide +kernel) (by decide +kernel)
  · intro d a b L M Q; exact q_getI (p := 104) (by decide +kernel : decode (cd 91) 17 = .ok (.getfield 114, 3)) (by decide +kernel) (by decide +kernel)
  · intro d a b L M Q; exact q_invV (pz := 651) (n := 1) (c := 11) (m := 2) (k := b) (As := [.int a]) (rest := []) (by decide +kernel : decode (cd 91) 20 = .ok (.invokevirtual 346, 3)) (by decide +kernel) (by decide +kernel) rfl rfl (Nat.le_of_ble_eq_true rfl) (Nat.le_of_ble_eq_true rfl) rfl
  · intro d a v0 v1 v2 x L M Q; exact Wp_sim (by decide +kernel : decode (cd 91) 23 = .ok (.istore_n 3, 1)) rfl rfl
  · intro d x L M Q; exact Wp_sim (by decide +kernel : decode (cd 91) 24 = .ok (.aload_n 0, 1)) rfl rfl
  · intro d a v0 x L M Q; exact Wp_sim (by decide +kernel : decode (cd 91) 25 = .ok (.iload_n 1, 1)) rfl rfl
  · intro d a b v0 v1 v2 x L M Q; exact Wp_sim (by decide +kernel : decode (cd 91) 26 = .ok (.iload_n 3, 1)) rfl rfl
  · intro d a b c L M Q; exact q_invV (pz := 530) (n := 2) (c := 11) (m := 3) (k := c) (As := [.int b, .int a]) (rest := []) (by decide +kernel : decode (cd 91) 27 = .ok (.invokevirtual 201, 3)) (by decide +kernel) (by decide +kernel) rfl rfl (Nat.le_of_ble_eq_true rfl) (Nat.le_of_ble_eq_true rfl) rfl
  · intro d a L M Q; exact q_zeq (by decide +kernel : decode (cd 91) 30 = .ok (.ifCond .eq 26, 3)) (by decide)
  · intro d x L M Q; exact Wp_sim (by decide +kernel : decode (cd 91) 33 = .ok (.aload_n 0, 1)) rfl rfl
  · intro d a L M Q; exact q_getR (p := 301) (by decide +kernel : decode (cd 91) 34 = .ok (.getfield 33, 3)) (by decide +kernel) (by decide +kernel)
  · intro d a v0 x L M Q; exact Wp_sim (by decide +kernel : decode (cd 91) 37 = .ok (.iload_n 1, 1)) rfl rfl
  · intro d a b v0 v1 v2 x L M Q; exact Wp_sim (by decide +kernel : decode (cd 91) 38 = .ok (.iload_n 3, 1)) rfl rfl
  · intro d a b c v0 v1 x L M Q; exact Wp_sim (by decide +kernel : decode (cd 91) 39 = .ok (.iload_n 2, 1)) rfl rfl
  · intro d a b c d2 L M Q; exact q_invV (pz := 615) (n := 3) (c := 9) (m := 4) (k := d2) (As := [.int c, .int b, .int a]) (rest := []) (by decide +kernel : decode (cd 91) 40 = .ok (.invokevirtual 237, 3)) (by decide +kernel) (by decide +kernel) rfl rfl (Nat.le_of_ble_eq_true rfl) (Nat.le_of_ble_eq_true rfl) rfl
  · intro d a L M Q; exact q_zne (by decide +kernel : decode (cd 91) 43 = .ok (.ifCond .ne 13, 3)) (by decide)
  · intro d x L M Q; exact Wp_sim (by decide +kernel : decode (cd 91) 46 = .ok (.aload_n 0, 1)) rfl rfl
  · intro d a L M Q; exact q_getR (p := 301) (by decide +kernel : decode (cd 91) 47 = .ok (.getfield 33, 3)) (by decide +kernel) (by decide +kernel)
  · intro d a v0 x L M Q; exact Wp_sim (by decide +kernel : decode (cd 91) 50 = .ok (.iload_n 1, 1)) rfl rfl
  · intro d a b v0 v1 v2 x L M Q; exact Wp_sim (by decide +kernel : decode (cd 91) 51 = .ok (.iload_n 3, 1)) rfl rfl
  · intro d a b c v0 v1 x L M Q; exact Wp_sim (by decide +kernel : decode (cd 91) 52 = .ok (.iload_n 2, 1)) rfl rfl
  · intro d a b c d2 L M Q; exact q_invV (pz := 622) (n := 3) (c := 9) (m := 4) (k := d2) (As := [.int c, .int b, .int a]) (rest := []) (by decide +kernel : decode (cd 91) 53 = .ok (.invokevirtual 241, 3)) (by decide +kernel) (by decide +kernel) rfl rfl (Nat.le_of_ble_eq_true rfl) (Nat.le_of_ble_eq_true rfl) rfl
  · intro d L M Q; exact q_vret (by decide +kernel : decode (cd 91) 56 = .ok (.return_ , 1)) (by decide +kernel)

/- 92: PalaceYard.sueFirst -/
set_option maxRecDepth 10000 in
theorem e92 : (∀ (d : Nat) (x : Nat) (L : List Value) (M : Mem) (Q : Option Value → Mem → Prop), Wp d 92 0 (.ref x :: L) [] M Q ↔ Wp d 92 1 (.ref x :: L) [.ref x] M Q) ∧
    (∀ (d : Nat) (a : Nat) (L : List Value) (M : Mem) (Q : Option Value → Mem → Prop), Wp d 92 1 L [.ref a] M Q ↔ (isK a 11 = true ∧ Wp d 92 4 L [.ref (rt a 3)] M Q)) ∧
    (∀ (d : Nat) (a : Nat) (L : List Value) (M : Mem) (Q : Option Value → Mem → Prop), Wp d 92 4 L [.ref a] M Q ↔ (isK a 9 = true ∧ Wp d 92 7 L [.ref (rt a 1)] M Q)) ∧
    (∀ (d : Nat) (a : Nat) (L : List Value) (M : Mem) (Q : Option Value → Mem → Prop), Wp d 92 7 L [.ref a] M Q ↔ (isK a 6 = true ∧ Wp d 92 10 L [.ref (rt a 2)] M Q)) ∧
    (∀ (d : Nat) (a : Nat) (v0 : Value) (x : Int32) (L : List Value) (M : Mem) (Q : Option Value → Mem → Prop), Wp d 92 10 (v0 :: .int x :: L) [.ref a] M Q ↔ Wp d 92 11 (v0 :: .int x :: L) [.int x, .ref a] M Q) ∧
    (∀ (d : Nat) (a : Int32) (b : Nat) (L : List Value) (M : Mem) (Q : Option Value → Mem → Prop), Wp (d + 1) 92 11 L [.int a, .ref b] M Q ↔ (isK b 2 = true ∧ Wp d 14 0 [.ref b, .int a, .null] [] M (fun r M2 => Wp (d + 1) 92 14 L (r.toList ++ []) M2 Q))) ∧
    (∀ (d : Nat) (a : Int32) (v0 : Value) (v1 : Value) (x : Value) (L : List Value) (M : Mem) (Q : Option Value → Mem → Prop), Wp d 92 14 (v0 :: v1 :: x :: L) [.int a] M Q ↔ Wp d 92 15 (v0 :: clr v1 :: .int a :: L) [] M Q) ∧
    (∀ (d : Nat) (x : Nat) (L : List Value) (M : Mem) (Q : Option Value → Mem → Prop), Wp d 92 15 (.ref x :: L) [] M Q ↔ Wp d 92 16 (.ref x :: L) [.ref x] M Q) ∧
    (∀ (d : Nat) (a : Nat) (v0 : Value) (x : Int32) (L : List Value) (M : Mem) (Q : Option Value → Mem → Prop), Wp d 92 16 (v0 :: .int x :: L) [.ref a] M Q ↔ Wp d 92 17 (v0 :: .int x :: L) [.int x, .ref a] M Q) ∧
    (∀ (d : Nat) (a : Int32) (b : Nat) (v0 : Value) (v1 : Value) (x : Int32) (L : List Value) (M : Mem) (Q : Option Value → Mem → Prop), Wp d 92 17 (v0 :: v1 :: .int x :: L) [.int a, .ref b] M Q ↔ Wp d 92 18 (v0 :: v1 :: .int x :: L) [.int x, .int a, .ref b] M Q) ∧
    (∀ (d : Nat) (a : Int32) (b : Int32) (c : Nat) (L : List Value) (M : Mem) (Q : Option Value → Mem → Prop), Wp (d + 1) 92 18 L [.int a, .int b, .ref c] M Q ↔ (isK c 11 = true ∧ Wp d 79 0 [.ref c, .int b, .int a] [] M (fun r M2 => Wp (d + 1) 92 21 L (r.toList ++ []) M2 Q))) ∧
    (∀ (d : Nat) (a : Int32) (L : List Value) (M : Mem) (Q : Option Value → Mem → Prop), Wp d 92 21 L [.int a] M Q ↔ (if a = 0 then Wp d 92 46 L [] M Q else Wp d 92 24 L [] M Q)) ∧
    (∀ (d : Nat) (x : Nat) (L : List Value) (M : Mem) (Q : Option Value → Mem → Prop), Wp d 92 24 (.ref x :: L) [] M Q ↔ Wp d 92 25 (.ref x :: L) [.ref x] M Q) ∧
    (∀ (d : Nat) (a : Nat) (L : List Value) (M : Mem) (Q : Option Value → Mem → Prop), Wp d 92 25 L [.ref a] M Q ↔ (isK a 11 = true ∧ Wp d 92 28 L [.ref (rt a 3)] M Q)) ∧
    (∀ (d : Nat) (a : Nat) (v0 : Value) (x : Int32) (L : List Value) (M : Mem) (Q : Option Value → Mem → Prop), Wp d 92 28 (v0 :: .int x :: L) [.ref a] M Q ↔ Wp d 92 29 (v0 :: .int x :: L) [.int x, .ref a] M Q) ∧
    (∀ (d : Nat) (a : Int32) (b : Nat) (v0 : Value) (v1 : Value) (x : Int32) (L : List Value) (M : Mem) (Q : Option Value → Mem → Prop), Wp d 92 29 (v0 :: v1 :: .int x :: L) [.int a, .ref b] M Q ↔ Wp d 92 30 (v0 :: v1 :: .int x :: L) [.int x, .int a, .ref b] M Q) ∧
    (∀ (d : Nat) (a : Int32) (b : Int32) (c : Nat) (L : List Value) (M : Mem) (Q : Option Value → Mem → Prop), Wp (d + 1) 92 30 L [.int a, .int b, .ref c] M Q ↔ (isK c 9 = true ∧ Wp d 61 0 [.ref c, .int b, .int a] [] M (fun r M2 => Wp (d + 1) 92 33 L (r.toList ++ []) M2 Q))) ∧
    (∀ (d : Nat) (a : Int32) (L : List Value) (M : Mem) (Q : Option Value → Mem → Prop), Wp d 92 33 L [.int a] M Q ↔ (if a = 0 then Wp d 92 46 L [] M Q else Wp d 92 36 L [] M Q)) ∧
    (∀ (d : Nat) (x : Nat) (L : List Value) (M : Mem) (Q : Option Value → Mem → Prop), Wp d 92 36 (.ref x :: L) [] M Q ↔ Wp d 92 37 (.ref x :: L) [.ref x] M Q) ∧
    (∀ (d : Nat) (a : Nat) (L : List Value) (M : Mem) (Q : Option Value → Mem → Prop), Wp d 92 37 L [.ref a] M Q ↔ (isK a 11 = true ∧ Wp d 92 40 L [.ref (rt a 3)] M Q)) ∧
    (∀ (d : Nat) (a : Nat) (v0 : Value) (x : Int32) (L : List Value) (M : Mem) (Q : Option Value → Mem → Prop), Wp d 92 40 (v0 :: .int x :: L) [.ref a] M Q ↔ Wp d 92 41 (v0 :: .int x :: L) [.int x, .ref a] M Q) ∧
    (∀ (d : Nat) (a : Int32) (b : Nat) (v0 : Value) (v1 : Value) (x : Int32) (L : List Value) (M : Mem) (Q : Option Value → Mem → Prop), Wp d 92 41 (v0 :: v1 :: .int x :: L) [.int a, .ref b] M Q ↔ Wp d 92 42 (v0 :: v1 :: .int x :: L) [.int x, .int a, .ref b] M Q) ∧
    (∀ (d : Nat) (a : Int32) (b : Int32) (c : Nat) (L : List Value) (M : Mem) (Q : Option Value → Mem → Prop), Wp (d + 1) 92 42 L [.int a, .int b, .ref c] M Q ↔ (isK c 9 = true ∧ Wp d 62 0 [.ref c, .int b, .int a, .null, .null] [] M (fun r M2 => Wp (d + 1) 92 45 L (r.toList ++ []) M2 Q))) ∧
    (∀ (d : Nat) (a : Int32) (L : List Value) (M : Mem) (Q : Option Value → Mem → Prop), Wp d 92 45 L [.int a] M Q ↔ Wp d 92 46 L [] M Q) ∧
    (∀ (d : Nat) (L : List Value) (M : Mem) (Q : Option Value → Mem → Prop), Wp d 92 46 L [] M Q ↔ Q none M) := by
  refine ⟨?_, ?_, ?_, ?_, ?_, ?_, ?_, ?_, ?_, ?_, ?_, ?_, ?_, ?_, ?_, ?_, ?_, ?_, ?_, ?_, ?_, ?_, ?_, ?_, ?_⟩
  · intro d x L M Q; exact Wp_sim (by decide +kernel : decode (cd 92) 0 = .ok (.aload_n 0, 1)) rfl rfl
  · intro d a L M Q; exact q_getR (p := 301) (by decide +kernel : decode (cd 92) 1 = .ok (.getfield 33, 3)) (by decide +kernel) (by decide +kernel)
  · intro d a L M Q; exact q_getR (p := 199) (by decide +kernel : decode (cd 92) 4 = .ok (.getfield 132, 3)) (by decide +kernel) (by decide +kernel)
  · intro d a L M Q; exact q_getR (p := 172) (by decide +kernel : decode (cd 92) 7 = .ok (.getfield 159, 3)) (by decide +kernel) (by decide +kernel)
  · intro d a v0 x L M Q; exact Wp_sim (by decide +kernel : decode (cd 92) 10 = .ok (.iload_n 1, 1)) rfl rfl
  · intro d a b L M Q; exact q_invV (pz := 667) (n := 1) (c := 2) (m := 3) (k := b) (As := [.int a]) (rest := []) (by decide +kernel : decode (cd 92) 11 = .ok (.invokevirtual 355, 3)) (by decide +kernel) (by decide +kernel) rfl rfl (Nat.le_of_ble_eq_true rfl) (Nat.le_of_ble_eq_true rfl) rfl
  · intro d a v0 v1 x L M Q; exact Wp_sim (by decide +kernel : decode (cd 92) 14 = .ok (.istore_n 2, 1)) rfl rfl
  · intro d x L M Q; exact Wp_sim (by decide +kernel : decode (cd 92) 15 = .ok (.aload_n 0, 1)) rfl rfl
  · intro d a v0 x L M Q; exact Wp_sim (by decide +kernel : decode (cd 92) 16 = .ok (.iload_n 1, 1)) rfl rfl
  · intro d a b v0 v1 x L M Q; exact Wp_sim (by decide +kernel : decode (cd 92) 17 = .ok (.iload_n 2, 1)) rfl rfl
  · intro d a b c L M Q; exact q_invV (pz := 530) (n := 2) (c := 11) (m := 3) (k := c) (As := [.int b, .int a]) (rest := []) (by decide +kernel : decode (cd 92) 18 = .ok (.invokevirtual 201, 3)) (by decide +kernel) (by decide +kernel) rfl rfl (Nat.le_of_ble_eq_true rfl) (Nat.le_of_ble_eq_true rfl) rfl
  · intro d a L M Q; exact q_zeq (by decide +kernel : decode (cd 92) 21 = .ok (.ifCond .eq 25, 3)) (by decide)
  · intro d x L M Q; exact Wp_sim (by decide +kernel : decode (cd 92) 24 = .ok (.aload_n 0, 1)) rfl rfl
  · intro d a L M Q; exact q_getR (p := 301) (by decide +kernel : decode (cd 92) 25 = .ok (.getfield 33, 3)) (by decide +kernel) (by decide +kernel)
  · intro d a v0 x L M Q; exact Wp_sim (by decide +kernel : decode (cd 92) 28 = .ok (.iload_n 1, 1)) rfl rfl
  · intro d a b v0 v1 x L M Q; exact Wp_sim (by decide +kernel : decode (cd 92) 29 = .ok (.iload_n 2, 1)) rfl rfl
  · intro d a b c L M Q; exact q_invV (pz := 634) (n := 2) (c := 9) (m := 3) (k := c) (As := [.int b, .int a]) (rest := []) (by decide +kernel : decode (cd 92) 30 = .ok (.invokevirtual 245, 3)) (by decide +kernel) (by decide +kernel) rfl rfl (Nat.le_of_ble_eq_true rfl) (Nat.le_of_ble_eq_true rfl) rfl
  · intro d a L M Q; exact q_zeq (by decide +kernel : decode (cd 92) 33 = .ok (.ifCond .eq 13, 3)) (by decide)
  · intro d x L M Q; exact Wp_sim (by decide +kernel : decode (cd 92) 36 = .ok (.aload_n 0, 1)) rfl rfl
  · intro d a L M Q; exact q_getR (p := 301) (by decide +kernel : decode (cd 92) 37 = .ok (.getfield 33, 3)) (by decide +kernel) (by decide +kernel)
  · intro d a v0 x L M Q; exact Wp_sim (by decide +kernel : decode (cd 92) 40 = .ok (.iload_n 1, 1)) rfl rfl
  · intro d a b v0 v1 x L M Q; exact Wp_sim (by decide +kernel : decode (cd 92) 41 = .ok (.iload_n 2, 1)) rfl rfl
  · intro d a b c L M Q; exact q_invV (pz := 639) (n := 2) (c := 9) (m := 5) (k := c) (As := [.int b, .int a]) (rest := []) (by decide +kernel : decode (cd 92) 42 = .ok (.invokevirtual 248, 3)) (by decide +kernel) (by decide +kernel) rfl rfl (Nat.le_of_ble_eq_true rfl) (Nat.le_of_ble_eq_true rfl) rfl
  · intro d a L M Q; exact Wp_sim (by decide +kernel : decode (cd 92) 45 = .ok (.pop , 1)) rfl rfl
  · intro d L M Q; exact q_vret (by decide +kernel : decode (cd 92) 46 = .ok (.return_ , 1)) (by decide +kernel)

/- 93: PalaceYard.undo -/
set_option maxRecDepth 10000 in
theorem e93 : (∀ (d : Nat) (x : Nat) (L : List Value) (M : Mem) (Q : Option Value → Mem → Prop), Wp d 93 0 (.ref x :: L) [] M Q ↔ Wp d 93 1 (.ref x :: L) [.ref x] M Q) ∧
    (∀ (d : Nat) (a : Nat) (L : List Value) (M : Mem) (Q : Option Value → Mem → Prop), Wp d 93 1 L [.ref a] M Q ↔ (isK a 11 = true ∧ Wp d 93 4 L [.ref (rt a 5)] M Q)) ∧
    (∀ (d : Nat) (a : Nat) (L : List Value) (M : Mem) (Q : Option Value → Mem → Prop), Wp d 93 4 L [.ref a] M Q ↔ (isK a 7 = true ∧ Wp d 93 7 L [.int (M a 2)] M Q)) ∧
    (∀ (d : Nat) (a : Int32) (L : List Value) (M : Mem) (Q : Option Value → Mem → Prop), Wp d 93 7 L [.int a] M Q ↔ (if a = 0 then Wp d 93 10 L [] M Q else Wp d 93 13 L [] M Q)) ∧
    (∀ (d : Nat) (L : List Value) (M : Mem) (Q : Option Value → Mem → Prop), Wp d 93 10 L [] M Q ↔ Wp d 93 12 L [.int (-1000000003)] M Q) ∧
    (∀ (d : Nat) (a : Int32) (L : List Value) (M : Mem) (Q : Option Value → Mem → Prop), Wp d 93 12 L [.int a] M Q ↔ Q (some (.int a)) M) ∧
    (∀ (d : Nat) (x : Nat) (L : List Value) (M : Mem) (Q : Option Value → Mem → Prop), Wp d 93 13 (.ref x :: L) [] M Q ↔ Wp d 93 14 (.ref x :: L) [.ref x] M Q) ∧
    (∀ (d : Nat) (a : Nat) (L : List Value) (M : Mem) (Q : Option Value → Mem → Prop), Wp d 93 14 L [.ref a] M Q ↔ (isK a 11 = true ∧ Wp d 93 17 L [.ref (rt a 5)] M Q)) ∧
    (∀ (d : Nat) (a : Nat) (x : Nat) (L : List Value) (M : Mem) (Q : Option Value → Mem → Prop), Wp d 93 17 (.ref x :: L) [.ref a] M Q ↔ Wp d 93 18 (.ref x :: L) [.ref x, .ref a] M Q) ∧
    (∀ (d : Nat) (a : Nat) (b : Nat) (L : List Value) (M : Mem) (Q : Option Value → Mem → Prop), Wp d 93 18 L [.ref a, .ref b] M Q ↔ (isK a 11 = true ∧ Wp d 93 21 L [.ref (rt a 3), .ref b] M Q)) ∧
    (∀ (d : Nat) (a : Nat) (b : Nat) (L : List Value) (M : Mem) (Q : Option Value → Mem → Prop), Wp d 93 21 L [.ref a, .ref b] M Q ↔ (isK a 9 = true ∧ Wp d 93 24 L [.ref (rt a 1), .ref b] M Q)) ∧
    (∀ (d : Nat) (a : Nat) (b : Nat) (L : List Value) (M : Mem) (Q : Option Value → Mem → Prop), Wp (d + 1) 93 24 L [.ref a, .ref b] M Q ↔ (isK b 7 = true ∧ Wp d 30 0 [.ref b, .ref a] [] M (fun r M2 => Wp (d + 1) 93 27 L (r.toList ++ []) M2 Q))) ∧
    (∀ (d : Nat) (x : Nat) (L : List Value) (M : Mem) (Q : Option Value → Mem → Prop), Wp d 93 27 (.ref x :: L) [] M Q ↔ Wp d 93 28 (.ref x :: L) [.ref x] M Q) ∧
    (∀ (d : Nat) (a : Nat) (L : List Value) (M : Mem) (Q : Option Value → Mem → Prop), Wp d 93 28 L [.ref a] M Q ↔ (isK a 11 = true ∧ Wp d 93 31 L [.ref (rt a 5)] M Q)) ∧
    (∀ (d : Nat) (a : Nat) (L : List Value) (M : Mem) (Q : Option Value → Mem → Prop), Wp d 93 31 L [.ref a] M Q ↔ (isK a 7 = true ∧ Wp d 93 34 L [.int (M a 2)] M Q)) ∧
    (∀ (d : Nat) (a : Int32) (L : List Value) (M : Mem) (Q : Option Value → Mem → Prop), Wp d 93 34 L [.int a] M Q ↔ Q (some (.int a)) M) := by
  refine ⟨?_, ?_, ?_, ?_, ?_, ?_, ?_, ?_, ?_, ?_, ?_, ?_, ?_, ?_, ?_, ?_⟩
  · intro d x L M Q; exact Wp_sim (by decide +kernel : decode (cd 93) 0 = .ok (.aload_n 0, 1)) rfl rfl
  · intro d a L M Q; exact q_getR (p := 303) (by decide +kernel : decode (cd 93) 1 = .ok (.getfield 47, 3)) (by decide +kernel) (by decide +kernel)
  · intro d a L M Q; exact q_getI (p := 236) (by decide +kernel : decode (cd 93) 4 = .ok (.getfield 169, 3)) (by decide +kernel) (by decide +kernel)
  · intro d a L M Q; exact q_zne (by decide +kernel : decode (cd 93) 7 = .ok (.ifCond .ne 6, 3)) (by decide)
  · intro d L M Q; exact q_ldc (p := 547) (by decide +kernel : decode (cd 93) 10 = .ok (.ldc 230, 2)) (by decide +kernel)
  · intro d a L M Q; exact q_iret (by decide +kernel : decode (cd 93) 12 = .ok (.ireturn , 1)) (by decide +kernel)
  · intro d x L M Q; exact Wp_sim (by decide +kernel : decode (cd 93) 13 = .ok (.aload_n 0, 1)) rfl rfl
  · intro d a L M Q; exact q_getR (p := 303) (by decide +kernel : decode (cd 93) 14 = .ok (.getfield 47, 3)) (by decide +kernel) (by decide +kernel)
  · intro d a x L M Q; exact Wp_sim (by decide +kernel : decode (cd 93) 17 = .ok (.aload_n 0, 1)) rfl rfl
  · intro d a b L M Q; exact q_getR (p := 301) (by decide +kernel : decode (cd 93) 18 = .ok (.getfield 33, 3)) (by decide +kernel) (by decide +kernel)
  · intro d a b L M Q; exact q_getR (p := 199) (by decide +kernel : decode (cd 93) 21 = .ok (.getfield 132, 3)) (by decide +kernel) (by decide +kernel)
  · intro d a b L M Q; exact q_invV (pz := 675) (n := 1) (c := 7) (m := 2) (k := b) (As := [.ref a]) (rest := []) (by decide +kernel : decode (cd 93) 24 = .ok (.invokevirtual 254, 3)) (by decide +kernel) (by decide +kernel) rfl rfl (Nat.le_of_ble_eq_true rfl) (Nat.le_of_ble_eq_true rfl) rfl
  · intro d x L M Q; exact Wp_sim (by decide +kernel : decode (cd 93) 27 = .ok (.aload_n 0, 1)) rfl rfl
  · intro d a L M Q; exact q_getR (p := 303) (by decide +kernel : decode (cd 93) 28 = .ok (.getfield 47, 3)) (by decide +kernel) (by decide +kernel)
  · intro d a L M Q; exact q_getI (p := 236) (by decide +kernel : decode (cd 93) 31 = .ok (.getfield 169, 3)) (by decide +kernel) (by decide +kernel)
  · intro d a L M Q; exact q_iret (by decide +kernel : decode (cd 93) 34 = .ok (.ireturn , 1)) (by decide +kernel)

/- 94: PalaceYard.soon -/
set_option maxRecDepth 10000 in
theorem e94 : (∀ (d : Nat) (x : Nat) (L : List Value) (M : Mem) (Q : Option Value → Mem → Prop), Wp d 94 0 (.ref x :: L) [] M Q ↔ Wp d 94 1 (.ref x :: L) [.ref x] M Q) ∧
    (∀ (d : Nat) (a : Nat) (v0 : Value) (x : Int32) (L : List Value) (M : Mem) (Q : Option Value → Mem → Prop), Wp d 94 1 (v0 :: .int x :: L) [.ref a] M Q ↔ Wp d 94 2 (v0 :: .int x :: L) [.int x, .ref a] M Q) ∧
    (∀ (d : Nat) (a : Int32) (b : Nat) (L : List Value) (M : Mem) (Q : Option Value → Mem → Prop), Wp (d + 1) 94 2 L [.int a, .ref b] M Q ↔ (isK b 11 = true ∧ Wp d 77 0 [.ref b, .int a] [] M (fun r M2 => Wp (d + 1) 94 5 L (r.toList ++ []) M2 Q))) ∧
    (∀ (d : Nat) (a : Int32) (L : List Value) (M : Mem) (Q : Option Value → Mem → Prop), Wp d 94 5 L [.int a] M Q ↔ (if a = 0 then Wp d 94 8 L [] M Q else Wp d 94 11 L [] M Q)) ∧
    (∀ (d : Nat) (L : List Value) (M : Mem) (Q : Option Value → Mem → Prop), Wp d 94 8 L [] M Q ↔ Wp d 94 10 L [.int (-1000000001)] M Q) ∧
    (∀ (d : Nat) (a : Int32) (L : List Value) (M : Mem) (Q : Option Value → Mem → Prop), Wp d 94 10 L [.int a] M Q ↔ Q (some (.int a)) M) ∧
    (∀ (d : Nat) (x : Nat) (L : List Value) (M : Mem) (Q : Option Value → Mem → Prop), Wp d 94 11 (.ref x :: L) [] M Q ↔ Wp d 94 12 (.ref x :: L) [.ref x] M Q) ∧
    (∀ (d : Nat) (a : Nat) (L : List Value) (M : Mem) (Q : Option Value → Mem → Prop), Wp d 94 12 L [.ref a] M Q ↔ (isK a 11 = true ∧ Wp d 94 15 L [.ref (rt a 3)] M Q)) ∧
    (∀ (d : Nat) (a : Nat) (v0 : Value) (x : Int32) (L : List Value) (M : Mem) (Q : Option Value → Mem → Prop), Wp d 94 15 (v0 :: .int x :: L) [.ref a] M Q ↔ Wp d 94 16 (v0 :: .int x :: L) [.int x, .ref a] M Q) ∧
    (∀ (d : Nat) (a : Int32) (b : Nat) (L : List Value) (M : Mem) (Q : Option Value → Mem → Prop), Wp (d + 1) 94 16 L [.int a, .ref b] M Q ↔ (isK b 9 = true ∧ Wp d 52 0 [.ref b, .int a] [] M (fun r M2 => Wp (d + 1) 94 19 L (r.toList ++ []) M2 Q))) ∧
    (∀ (d : Nat) (a : Int32) (L : List Value) (M : Mem) (Q : Option Value → Mem → Prop), Wp d 94 19 L [.int a] M Q ↔ (if a = 0 then Wp d 94 22 L [] M Q else Wp d 94 25 L [] M Q)) ∧
    (∀ (d : Nat) (L : List Value) (M : Mem) (Q : Option Value → Mem → Prop), Wp d 94 22 L [] M Q ↔ Wp d 94 24 L [.int (-1000000003)] M Q) ∧
    (∀ (d : Nat) (a : Int32) (L : List Value) (M : Mem) (Q : Option Value → Mem → Prop), Wp d 94 24 L [.int a] M Q ↔ Q (some (.int a)) M) ∧
    (∀ (d : Nat) (x : Nat) (L : List Value) (M : Mem) (Q : Option Value → Mem → Prop), Wp d 94 25 (.ref x :: L) [] M Q ↔ Wp d 94 26 (.ref x :: L) [.ref x] M Q) ∧
    (∀ (d : Nat) (a : Nat) (L : List Value) (M : Mem) (Q : Option Value → Mem → Prop), Wp d 94 26 L [.ref a] M Q ↔ (isK a 11 = true ∧ Wp d 94 29 L [.ref (rt a 3)] M Q)) ∧
    (∀ (d : Nat) (a : Nat) (v0 : Value) (x : Int32) (L : List Value) (M : Mem) (Q : Option Value → Mem → Prop), Wp d 94 29 (v0 :: .int x :: L) [.ref a] M Q ↔ Wp d 94 30 (v0 :: .int x :: L) [.int x, .ref a] M Q) ∧
    (∀ (d : Nat) (a : Int32) (b : Nat) (L : List Value) (M : Mem) (Q : Option Value → Mem → Prop), Wp (d + 1) 94 30 L [.int a, .ref b] M Q ↔ (isK b 9 = true ∧ Wp d 63 0 [.ref b, .int a, .null, .null] [] M (fun r M2 => Wp (d + 1) 94 33 L (r.toList ++ []) M2 Q))) ∧
    (∀ (d : Nat) (a : Int32) (L : List Value) (M : Mem) (Q : Option Value → Mem → Prop), Wp d 94 33 L [.int a] M Q ↔ Q (some (.int a)) M) := by
  refine ⟨?_, ?_, ?_, ?_, ?_, ?_, ?_, ?_, ?_, ?_, ?_, ?_, ?_, ?_, ?_, ?_, ?_, ?_⟩
  · intro d x L M Q; exact Wp_sim (by decide +kernel : decode (cd 94) 0 = .ok (.aload_n 0, 1)) rfl rfl
  · intro d a v0 x L M Q; exact Wp_sim (by decide +kernel : decode (cd 94) 1 = .ok (.iload_n 1, 1)) rfl rfl
  · intro d a b L M Q; exact q_invV (pz := 516) (n := 1) (c := 11) (m := 2) (k := b) (As := [.int a]) (rest := []) (by decide +kernel : decode (cd 94) 2 = .ok (.invokevirtual 175, 3)) (by decide +kernel) (by decide +kernel) rfl rfl (Nat.le_of_ble_eq_true rfl) (Nat.le_of_ble_eq_true rfl) rfl
  · intro d a L M Q; exact q_zne (by decide +kernel : decode (cd 94) 5 = .ok (.ifCond .ne 6, 3)) (by decide)
  · intro d L M Q; exact q_ldc (p := 505) (by decide +kernel : decode (cd 94) 8 = .ok (.ldc 170, 2)) (by decide +kernel)
  · intro d a L M Q; exact q_iret (by decide +kernel : decode (cd 94) 10 = .ok (.ireturn , 1)) (by decide +kernel)
  · intro d x L M Q; exact Wp_sim (by decide +kernel : decode (cd 94) 11 = .ok (.aload_n 0, 1)) rfl rfl
  · intro d a L M Q; exact q_getR (p := 301) (by decide +kernel : decode (cd 94) 12 = .ok (.getfield 33, 3)) (by decide +kernel) (by decide +kernel)
  · intro d a v0 x L M Q; exact Wp_sim (by decide +kernel : decode (cd 94) 15 = .ok (.iload_n 1, 1)) rfl rfl
  · intro d a b L M Q; exact q_invV (pz := 687) (n := 1) (c := 9) (m := 2) (k := b) (As := [.int a]) (rest := []) (by decide +kernel : decode (cd 94) 16 = .ok (.invokevirtual 257, 3)) (by decide +kernel) (by decide +kernel) rfl rfl (Nat.le_of_ble_eq_true rfl) (Nat.le_of_ble_eq_true rfl) rfl
  · intro d a L M Q; exact q_zne (by decide +kernel : decode (cd 94) 19 = .ok (.ifCond .ne 6, 3)) (by decide)
  · intro d L M Q; exact q_ldc (p := 547) (by decide +kernel : decode (cd 94) 22 = .ok (.ldc 230, 2)) (by decide +kernel)
  · intro d a L M Q; exact q_iret (by decide +kernel : decode (cd 94) 24 = .ok (.ireturn , 1)) (by decide +kernel)
  · intro d x L M Q; exact Wp_sim (by decide +kernel : decode (cd 94) 25 = .ok (.aload_n 0, 1)) rfl rfl
  · intro d a L M Q; exact q_getR (p := 301) (by decide +kernel : decode (cd 94) 26 = .ok (.getfield 33, 3)) (by decide +kernel) (by decide +kernel)
  · intro d a v0 x L M Q; exact Wp_sim (by decide +kernel : decode (cd 94) 29 = .ok (.iload_n 1, 1)) rfl rfl
  · intro d a b L M Q; exact q_invV (pz := 688) (n := 1) (c := 9) (m := 4) (k := b) (As := [.int a]) (rest := []) (by decide +kernel : decode (cd 94) 30 = .ok (.invokevirtual 260, 3)) (by decide +kernel) (by decide +kernel) rfl rfl (Nat.le_of_ble_eq_true rfl) (Nat.le_of_ble_eq_true rfl) rfl
  · intro d a L M Q; exact q_iret (by decide +kernel : decode (cd 94) 33 = .ok (.ireturn , 1)) (by decide +kernel)

/- 95: PalaceYard.cheapest -/
set_option maxRecDepth 10000 in
theorem e95 : (∀ (d : Nat) (x : Nat) (L : List Value) (M : Mem) (Q : Option Value → Mem → Prop), Wp d 95 0 (.ref x :: L) [] M Q ↔ Wp d 95 1 (.ref x :: L) [.ref x] M Q) ∧
    (∀ (d : Nat) (a : Nat) (v0 : Value) (x : Int32) (L : List Value) (M : Mem) (Q : Option Value → Mem → Prop), Wp d 95 1 (v0 :: .int x :: L) [.ref a] M Q ↔ Wp d 95 2 (v0 :: .int x :: L) [.int x, .ref a] M Q) ∧
    (∀ (d : Nat) (a : Int32) (b : Nat) (L : List Value) (M : Mem) (Q : Option Value → Mem → Prop), Wp (d + 1) 95 2 L [.int a, .ref b] M Q ↔ (isK b 11 = true ∧ Wp d 77 0 [.ref b, .int a] [] M (fun r M2 => Wp (d + 1) 95 5 L (r.toList ++ []) M2 Q))) ∧
    (∀ (d : Nat) (a : Int32) (L : List Value) (M : Mem) (Q : Option Value → Mem → Prop), Wp d 95 5 L [.int a] M Q ↔ (if a = 0 then Wp d 95 8 L [] M Q else Wp d 95 11 L [] M Q)) ∧
    (∀ (d : Nat) (L : List Value) (M : Mem) (Q : Option Value → Mem → Prop), Wp d 95 8 L [] M Q ↔ Wp d 95 10 L [.int (-1000000001)] M Q) ∧
    (∀ (d : Nat) (a : Int32) (L : List Value) (M : Mem) (Q : Option Value → Mem → Prop), Wp d 95 10 L [.int a] M Q ↔ Q (some (.int a)) M) ∧
    (∀ (d : Nat) (v0 : Value) (v1 : Value) (x : Int32) (L : List Value) (M : Mem) (Q : Option Value → Mem → Prop), Wp d 95 11 (v0 :: v1 :: .int x :: L) [] M Q ↔ Wp d 95 12 (v0 :: v1 :: .int x :: L) [.int x] M Q) ∧
    (∀ (d : Nat) (a : Int32) (L : List Value) (M : Mem) (Q : Option Value → Mem → Prop), Wp d 95 12 L [.int a] M Q ↔ (if a < 0 then Wp d 95 20 L [] M Q else Wp d 95 15 L [] M Q)) ∧
    (∀ (d : Nat) (v0 : Value) (v1 : Value) (x : Int32) (L : List Value) (M : Mem) (Q : Option Value → Mem → Prop), Wp d 95 15 (v0 :: v1 :: .int x :: L) [] M Q ↔ Wp d 95 16 (v0 :: v1 :: .int x :: L) [.int x] M Q) ∧
    (∀ (d : Nat) (a : Int32) (L : List Value) (M : Mem) (Q : Option Value → Mem → Prop), Wp d 95 16 L [.int a] M Q ↔ Wp d 95 17 L [.int 1, .int a] M Q) ∧
    (∀ (d : Nat) (a : Int32) (b : Int32) (L : List Value) (M : Mem) (Q : Option Value → Mem → Prop), Wp d 95 17 L [.int a, .int b] M Q ↔ (if a < b then Wp d 95 20 L [] M Q else Wp d 95 23 L [] M Q)) ∧
    (∀ (d : Nat) (L : List Value) (M : Mem) (Q : Option Value → Mem → Prop), Wp d 95 20 L [] M Q ↔ Wp d 95 22 L [.int (-1000000002)] M Q) ∧
    (∀ (d : Nat) (a : Int32) (L : List Value) (M : Mem) (Q : Option Value → Mem → Prop), Wp d 95 22 L [.int a] M Q ↔ Q (some (.int a)) M) ∧
    (∀ (d : Nat) (x : Nat) (L : List Value) (M : Mem) (Q : Option Value → Mem → Prop), Wp d 95 23 (.ref x :: L) [] M Q ↔ Wp d 95 24 (.ref x :: L) [.ref x] M Q) ∧
    (∀ (d : Nat) (a : Nat) (L : List Value) (M : Mem) (Q : Option Value → Mem → Prop), Wp d 95 24 L [.ref a] M Q ↔ (isK a 11 = true ∧ Wp d 95 27 L [.ref (rt a 3)] M Q)) ∧
    (∀ (d : Nat) (a : Nat) (v0 : Value) (x : Int32) (L : List Value) (M : Mem) (Q : Option Value → Mem → Prop), Wp d 95 27 (v0 :: .int x :: L) [.ref a] M Q ↔ Wp d 95 28 (v0 :: .int x :: L) [.int x, .ref a] M Q) ∧
    (∀ (d : Nat) (a : Int32) (b : Nat) (L : List Value) (M : Mem) (Q : Option Value → Mem → Prop), Wp (d + 1) 95 28 L [.int a, .ref b] M Q ↔ (isK b 9 = true ∧ Wp d 52 0 [.ref b, .int a] [] M (fun r M2 => Wp (d + 1) 95 31 L (r.toList ++ []) M2 Q))) ∧
    (∀ (d : Nat) (a : Int32) (L : List Value) (M : Mem) (Q : Option Value → Mem → Prop), Wp d 95 31 L [.int a] M Q ↔ (if a = 0 then Wp d 95 34 L [] M Q else Wp d 95 37 L [] M Q)) ∧
    (∀ (d : Nat) (L : List Value) (M : Mem) (Q : Option Value → Mem → Prop), Wp d 95 34 L [] M Q ↔ Wp d 95 36 L [.int (-1000000003)] M Q) ∧
    (∀ (d : Nat) (a : Int32) (L : List Value) (M : Mem) (Q : Option Value → Mem → Prop), Wp d 95 36 L [.int a] M Q ↔ Q (some (.int a)) M) ∧
    (∀ (d : Nat) (x : Nat) (L : List Value) (M : Mem) (Q : Option Value → Mem → Prop), Wp d 95 37 (.ref x :: L) [] M Q ↔ Wp d 95 38 (.ref x :: L) [.ref x] M Q) ∧
    (∀ (d : Nat) (a : Nat) (L : List Value) (M : Mem) (Q : Option Value → Mem → Prop), Wp d 95 38 L [.ref a] M Q ↔ (isK a 11 = true ∧ Wp d 95 41 L [.ref (rt a 3)] M Q)) ∧
    (∀ (d : Nat) (a : Nat) (v0 : Value) (x : Int32) (L : List Value) (M : Mem) (Q : Option Value → Mem → Prop), Wp d 95 41 (v0 :: .int x :: L) [.ref a] M Q ↔ Wp d 95 42 (v0 :: .int x :: L) [.int x, .ref a] M Q) ∧
    (∀ (d : Nat) (a : Int32) (b : Nat) (L : List Value) (M : Mem) (Q : Option Value → Mem → Prop), Wp (d + 1) 95 42 L [.int a, .ref b] M Q ↔ (isK b 9 = true ∧ Wp d 64 0 [.ref b, .int a, .null, .null, .null, .null, .null, .null] [] M (fun r M2 => Wp (d + 1) 95 45 L (r.toList ++ []) M2 Q))) ∧
    (∀ (d : Nat) (a : Int32) (v0 : Value) (v1 : Value) (v2 : Value) (x : Value) (L : List Value) (M : Mem) (Q : Option Value → Mem → Prop), Wp d 95 45 (v0 :: v1 :: v2 :: x :: L) [.int a] M Q ↔ Wp d 95 46 (v0 :: v1 :: clr v2 :: .int a :: L) [] M Q) ∧
    (∀ (d : Nat) (v0 : Value) (v1 : Value) (v2 : Value) (x : Int32) (L : List Value) (M : Mem) (Q : Option Value → Mem → Prop), Wp d 95 46 (v0 :: v1 :: v2 :: .int x :: L) [] M Q ↔ Wp d 95 47 (v0 :: v1 :: v2 :: .int x :: L) [.int x] M Q) ∧
    (∀ (d : Nat) (a : Int32) (L : List Value) (M : Mem) (Q : Option Value → Mem → Prop), Wp d 95 47 L [.int a] M Q ↔ Wp d 95 48 L [.int (-1), .int a] M Q) ∧
    (∀ (d : Nat) (a : Int32) (b : Int32) (L : List Value) (M : Mem) (Q : Option Value → Mem → Prop), Wp d 95 48 L [.int a, .int b] M Q ↔ (if b = a then Wp d 95 55 L [] M Q else Wp d 95 51 L [] M Q)) ∧
    (∀ (d : Nat) (v0 : Value) (v1 : Value) (x : Int32) (L : List Value) (M : Mem) (Q : Option Value → Mem → Prop), Wp d 95 51 (v0 :: v1 :: .int x :: L) [] M Q ↔ Wp d 95 52 (v0 :: v1 :: .int x :: L) [.int x] M Q) ∧
    (∀ (d : Nat) (a : Int32) (L : List Value) (M : Mem) (Q : Option Value → Mem → Prop), Wp d 95 52 L [.int a] M Q ↔ (if a = 0 then Wp d 95 55 L [] M Q else Wp d 95 57 L [] M Q)) ∧
    (∀ (d : Nat) (v0 : Value) (v1 : Value) (v2 : Value) (x : Int32) (L : List Value) (M : Mem) (Q : Option Value → Mem → Prop), Wp d 95 55 (v0 :: v1 :: v2 :: .int x :: L) [] M Q ↔ Wp d 95 56 (v0 :: v1 :: v2 :: .int x :: L) [.int x] M Q) ∧
    (∀ (d : Nat) (a : Int32) (L : List Value) (M : Mem) (Q : Option Value → Mem → Prop), Wp d 95 56 L [.int a] M Q ↔ Q (some (.int a)) M) ∧
    (∀ (d : Nat) (x : Nat) (L : List Value) (M : Mem) (Q : Option Value → Mem → Prop), Wp d 95 57 (.ref x :: L) [] M Q ↔ Wp d 95 58 (.ref x :: L) [.ref x] M Q) ∧
    (∀ (d : Nat) (a : Nat) (L : List Value) (M : Mem) (Q : Option Value → Mem → Prop), Wp d 95 58 L [.ref a] M Q ↔ (isK a 11 = true ∧ Wp d 95 61 L [.ref (rt a 3)] M Q)) ∧
    (∀ (d : Nat) (a : Nat) (v0 : Value) (x : Int32) (L : List Value) (M : Mem) (Q : Option Value → Mem → Prop), Wp d 95 61 (v0 :: .int x :: L) [.ref a] M Q ↔ Wp d 95 62 (v0 :: .int x :: L) [.int x, .ref a] M Q) ∧
    (∀ (d : Nat) (a : Int32) (b : Nat) (v0 : Value) (v1 : Value) (v2 : Value) (x : Int32) (L : List Value) (M : Mem) (Q : Option Value → Mem → Prop), Wp d 95 62 (v0 :: v1 :: v2 :: .int x :: L) [.int a, .ref b] M Q ↔ Wp d 95 63 (v0 :: v1 :: v2 :: .int x :: L) [.int x, .int a, .ref b] M Q) ∧
    (∀ (d : Nat) (a : Int32) (b : Int32) (c : Nat) (L : List Value) (M : Mem) (Q : Option Value → Mem → Prop), Wp (d + 1) 95 63 L [.int a, .int b, .ref c] M Q ↔ (isK c 9 = true ∧ Wp d 65 0 [.ref c, .int b, .int a, .null] [] M (fun r M2 => Wp (d + 1) 95 66 L (r.toList ++ []) M2 Q))) ∧
    (∀ (d : Nat) (a : Int32) (L : List Value) (M : Mem) (Q : Option Value → Mem → Prop), Wp d 95 66 L [.int a] M Q ↔ Q (some (.int a)) M) := by
  refine ⟨?_, ?_, ?_, ?_, ?_, ?_, ?_, ?_, ?_, ?_, ?_, ?_, ?_, ?_, ?_, ?_, ?_, ?_, ?_, ?_, ?_, ?_, ?_, ?_, ?_, ?_, ?_, ?_, ?_, ?_, ?_, ?_, ?_, ?_, ?_, ?_, ?_, ?_⟩
  · intro d x L M Q; exact Wp_sim (by decide +kernel : decode (cd 95) 0 = .ok (.aload_n 0, 1)) rfl rfl
  · intro d a v0 x L M Q; exact Wp_sim (by decide +kernel : decode (cd 95) 1 = .ok (.iload_n 1, 1)) rfl rfl
  · intro d a b L M Q; exact q_invV (pz := 516) (n := 1) (c := 11) (m := 2) (k := b) (As := [.int a]) (rest := []) (by decide +kernel : decode (cd 95) 2 = .ok (.invokevirtual 175, 3)) (by decide +kernel) (by decide +kernel) rfl rfl (Nat.le_of_ble_eq_true rfl) (Nat.le_of_ble_eq_true rfl) rfl
  · intro d a L M Q; exact q_zne (by decide +kernel : decode (cd 95) 5 = .ok (.ifCond .ne 6, 3)) (by decide)
  · intro d L M Q; exact q_ldc (p := 505) (by decide +kernel : decode (cd 95) 8 = .ok (.ldc 170, 2)) (by decide +kernel)
  · intro d a L M Q; exact q_iret (by decide +kernel : decode (cd 95) 10 = .ok (.ireturn , 1)) (by decide +kernel)
  · intro d v0 v1 x L M Q; exact Wp_sim (by decide +kernel : decode (cd 95) 11 = .ok (.iload_n 2, 1)) rfl rfl
  · intro d a L M Q; exact q_zlt (by decide +kernel : decode (cd 95) 12 = .ok (.ifCond .lt 8, 3)) (by decide)
  · intro d v0 v1 x L M Q; exact Wp_sim (by decide +kernel : decode (cd 95) 15 = .ok (.iload_n 2, 1)) rfl rfl
  · intro d a L M Q; exact Wp_sim (by decide +kernel : decode (cd 95) 16 = .ok (.iconst 1, 1)) rfl rfl
  · intro d a b L M Q; exact q_ile (by decide +kernel : decode (cd 95) 17 = .ok (.if_icmp .le 6, 3)) (by decide)
  · intro d L M Q; exact q_ldc (p := 339) (by decide +kernel : decode (cd 95) 20 = .ok (.ldc 82, 2)) (by decide +kernel)
  · intro d a L M Q; exact q_iret (by decide +kernel : decode (cd 95) 22 = .ok (.ireturn , 1)) (by decide +kernel)
  · intro d x L M Q; exact Wp_sim (by decide +kernel : decode (cd 95) 23 = .ok (.aload_n 0, 1)) rfl rfl
  · intro d a L M Q; exact q_getR (p := 301) (by decide +kernel : decode (cd 95) 24 = .ok (.getfield 33, 3)) (by decide +kernel) (by decide +kernel)
  · intro d a v0 x L M Q; exact Wp_sim (by decide +kernel : decode (cd 95) 27 = .ok (.iload_n 1, 1)) rfl rfl
  · intro d a b L M Q; exact q_invV (pz := 687) (n := 1) (c := 9) (m := 2) (k := b) (As := [.int a]) (rest := []) (by decide +kernel : decode (cd 95) 28 = .ok (.invokevirtual 257, 3)) (by decide +kernel) (by decide +kernel) rfl rfl (Nat.le_of_ble_eq_true rfl) (Nat.le_of_ble_eq_true rfl) rfl
  · intro d a L M Q; exact q_zne (by decide +kernel : decode (cd 95) 31 = .ok (.ifCond .ne 6, 3)) (by decide)
  · intro d L M Q; exact q_ldc (p := 547) (by decide +kernel : decode (cd 95) 34 = .ok (.ldc 230, 2)) (by decide +kernel)
  · intro d a L M Q; exact q_iret (by decide +kernel : decode (cd 95) 36 = .ok (.ireturn , 1)) (by decide +kernel)
  · intro d x L M Q; exact Wp_sim (by decide +kernel : decode (cd 95) 37 = .ok (.aload_n 0, 1)) rfl rfl
  · intro d a L M Q; exact q_getR (p := 301) (by decide +kernel : decode (cd 95) 38 = .ok (.getfield 33, 3)) (by decide +kernel) (by decide +kernel)
  · intro d a v0 x L M Q; exact Wp_sim (by decide +kernel : decode (cd 95) 41 = .ok (.iload_n 1, 1)) rfl rfl
  · intro d a b L M Q; exact q_invV (pz := 696) (n := 1) (c := 9) (m := 8) (k := b) (As := [.int a]) (rest := []) (by decide +kernel : decode (cd 95) 42 = .ok (.invokevirtual 263, 3)) (by decide +kernel) (by decide +kernel) rfl rfl (Nat.le_of_ble_eq_true rfl) (Nat.le_of_ble_eq_true rfl) rfl
  · intro d a v0 v1 v2 x L M Q; exact Wp_sim (by decide +kernel : decode (cd 95) 45 = .ok (.istore_n 3, 1)) rfl rfl
  · intro d v0 v1 v2 x L M Q; exact Wp_sim (by decide +kernel : decode (cd 95) 46 = .ok (.iload_n 3, 1)) rfl rfl
  · intro d a L M Q; exact Wp_sim (by decide +kernel : decode (cd 95) 47 = .ok (.iconst (-1), 1)) rfl rfl
  · intro d a b L M Q; exact q_ieq (by decide +kernel : decode (cd 95) 48 = .ok (.if_icmp .eq 7, 3)) (by decide)
  · intro d v0 v1 x L M Q; exact Wp_sim (by decide +kernel : decode (cd 95) 51 = .ok (.iload_n 2, 1)) rfl rfl
  · intro d a L M Q; exact q_zne (by decide +kernel : decode (cd 95) 52 = .ok (.ifCond .ne 5, 3)) (by decide)
  · intro d v0 v1 v2 x L M Q; exact Wp_sim (by decide +kernel : decode (cd 95) 55 = .ok (.iload_n 3, 1)) rfl rfl
  · intro d a L M Q; exact q_iret (by decide +kernel : decode (cd 95) 56 = .ok (.ireturn , 1)) (by decide +kernel)
  · intro d x L M Q; exact Wp_sim (by decide +kernel : decode (cd 95) 57 = .ok (.aload_n 0, 1)) rfl rfl
  · intro d a L M Q; exact q_getR (p := 301) (by decide +kernel : decode (cd 95) 58 = .ok (.getfield 33, 3)) (by decide +kernel) (by decide +kernel)
  · intro d a v0 x L M Q; exact Wp_sim (by decide +kernel : decode (cd 95) 61 = .ok (.iload_n 1, 1)) rfl rfl
  · intro d a b v0 v1 v2 x L M Q; exact Wp_sim (by decide +kernel : decode (cd 95) 62 = .ok (.iload_n 3, 1)) rfl rfl
  · intro d a b c L M Q; exact q_invV (pz := 704) (n := 2) (c := 9) (m := 4) (k := c) (As := [.int b, .int a]) (rest := []) (by decide +kernel : decode (cd 95) 63 = .ok (.invokevirtual 266, 3)) (by decide +kernel) (by decide +kernel) rfl rfl (Nat.le_of_ble_eq_true rfl) (Nat.le_of_ble_eq_true rfl) rfl
  · intro d a L M Q; exact q_iret (by decide +kernel : decode (cd 95) 66 = .ok (.ireturn , 1)) (by decide +kernel)

/- 96: PalaceYard.outing -/
set_option maxRecDepth 10000 in
theorem e96 : (∀ (d : Nat) (v0 : Value) (x : Int32) (L : List Value) (M : Mem) (Q : Option Value → Mem → Prop), Wp d 96 0 (v0 :: .int x :: L) [] M Q ↔ Wp d 96 1 (v0 :: .int x :: L) [.int x] M Q) ∧
    (∀ (d : Nat) (a : Int32) (L : List Value) (M : Mem) (Q : Option Value → Mem → Prop), Wp d 96 1 L [.int a] M Q ↔ (if a < 0 then Wp d 96 19 L [] M Q else Wp d 96 4 L [] M Q)) ∧
    (∀ (d : Nat) (v0 : Value) (x : Int32) (L : List Value) (M : Mem) (Q : Option Value → Mem → Prop), Wp d 96 4 (v0 :: .int x :: L) [] M Q ↔ Wp d 96 5 (v0 :: .int x :: L) [.int x] M Q) ∧
    (∀ (d : Nat) (a : Int32) (L : List Value) (M : Mem) (Q : Option Value → Mem → Prop), Wp d 96 5 L [.int a] M Q ↔ Wp d 96 7 L [.int 99, .int a] M Q) ∧
    (∀ (d : Nat) (a : Int32) (b : Int32) (L : List Value) (M : Mem) (Q : Option Value → Mem → Prop), Wp d 96 7 L [.int a, .int b] M Q ↔ (if a < b then Wp d 96 19 L [] M Q else Wp d 96 10 L [] M Q)) ∧
    (∀ (d : Nat) (v0 : Value) (v1 : Value) (x : Int32) (L : List Value) (M : Mem) (Q : Option Value → Mem → Prop), Wp d 96 10 (v0 :: v1 :: .int x :: L) [] M Q ↔ Wp d 96 11 (v0 :: v1 :: .int x :: L) [.int x] M Q) ∧
    (∀ (d : Nat) (a : Int32) (L : List Value) (M : Mem) (Q : Option Value → Mem → Prop), Wp d 96 11 L [.int a] M Q ↔ (if a < 0 then Wp d 96 19 L [] M Q else Wp d 96 14 L [] M Q)) ∧
    (∀ (d : Nat) (v0 : Value) (v1 : Value) (x : Int32) (L : List Value) (M : Mem) (Q : Option Value → Mem → Prop), Wp d 96 14 (v0 :: v1 :: .int x :: L) [] M Q ↔ Wp d 96 15 (v0 :: v1 :: .int x :: L) [.int x] M Q) ∧
    (∀ (d : Nat) (a : Int32) (L : List Value) (M : Mem) (Q : Option Value → Mem → Prop), Wp d 96 15 L [.int a] M Q ↔ Wp d 96 16 L [.int 2, .int a] M Q) ∧
    (∀ (d : Nat) (a : Int32) (b : Int32) (L : List Value) (M : Mem) (Q : Option Value → Mem → Prop), Wp d 96 16 L [.int a, .int b] M Q ↔ (if a < b then Wp d 96 19 L [] M Q else Wp d 96 22 L [] M Q)) ∧
    (∀ (d : Nat) (L : List Value) (M : Mem) (Q : Option Value → Mem → Prop), Wp d 96 19 L [] M Q ↔ Wp d 96 21 L [.int (-1000000002)] M Q) ∧
    (∀ (d : Nat) (a : Int32) (L : List Value) (M : Mem) (Q : Option Value → Mem → Prop), Wp d 96 21 L [.int a] M Q ↔ Q (some (.int a)) M) ∧
    (∀ (d : Nat) (x : Nat) (L : List Value) (M : Mem) (Q : Option Value → Mem → Prop), Wp d 96 22 (.ref x :: L) [] M Q ↔ Wp d 96 23 (.ref x :: L) [.ref x] M Q) ∧
    (∀ (d : Nat) (a : Nat) (L : List Value) (M : Mem) (Q : Option Value → Mem → Prop), Wp d 96 23 L [.ref a] M Q ↔ (isK a 11 = true ∧ Wp d 96 26 L [.ref (rt a 4)] M Q)) ∧
    (∀ (d : Nat) (a : Nat) (x : Nat) (L : List Value) (M : Mem) (Q : Option Value → Mem → Prop), Wp d 96 26 (.ref x :: L) [.ref a] M Q ↔ Wp d 96 27 (.ref x :: L) [.ref x, .ref a] M Q) ∧
    (∀ (d : Nat) (a : Nat) (b : Nat) (L : List Value) (M : Mem) (Q : Option Value → Mem → Prop), Wp d 96 27 L [.ref a, .ref b] M Q ↔ (isK a 11 = true ∧ Wp d 96 30 L [.ref (rt a 3), .ref b] M Q)) ∧
    (∀ (d : Nat) (a : Nat) (b : Nat) (L : List Value) (M : Mem) (Q : Option Value → Mem → Prop), Wp d 96 30 L [.ref a, .ref b] M Q ↔ (isK a 9 = true ∧ Wp d 96 33 L [.ref (rt a 0), .ref b] M Q)) ∧
    (∀ (d : Nat) (a : Nat) (b : Nat) (v0 : Value) (x : Int32) (L : List Value) (M : Mem) (Q : Option Value → Mem → Prop), Wp d 96 33 (v0 :: .int x :: L) [.ref a, .ref b] M Q ↔ Wp d 96 34 (v0 :: .int x :: L) [.int x, .ref a, .ref b] M Q) ∧
    (∀ (d : Nat) (a : Int32) (b : Nat) (c : Nat) (L : List Value) (M : Mem) (Q : Option Value → Mem → Prop), Wp (d + 1) 96 34 L [.int a, .ref b, .ref c] M Q ↔ (isK c 10 = true ∧ Wp d 68 0 [.ref c, .ref b, .int a] [] M (fun r M2 => Wp (d + 1) 96 37 L (r.toList ++ []) M2 Q))) ∧
    (∀ (d : Nat) (v0 : Value) (v1 : Value) (x : Int32) (L : List Value) (M : Mem) (Q : Option Value → Mem → Prop), Wp d 96 37 (v0 :: v1 :: .int x :: L) [] M Q ↔ Wp d 96 38 (v0 :: v1 :: .int x :: L) [.int x] M Q) ∧
    (∀ (d : Nat) (a : Int32) (L : List Value) (M : Mem) (Q : Option Value → Mem → Prop), Wp d 96 38 L [.int a] M Q ↔ (if a = 0 then Wp d 96 41 L [] M Q else Wp d 96 49 L [] M Q)) ∧
    (∀ (d : Nat) (x : Nat) (L : List Value) (M : Mem) (Q : Option Value → Mem → Prop), Wp d 96 41 (.ref x :: L) [] M Q ↔ Wp d 96 42 (.ref x :: L) [.ref x] M Q) ∧
    (∀ (d : Nat) (a : Nat) (L : List Value) (M : Mem) (Q : Option Value → Mem → Prop), Wp d 96 42 L [.ref a] M Q ↔ (isK a 11 = true ∧ Wp d 96 45 L [.ref (rt a 4)] M Q)) ∧
    (∀ (d : Nat) (a : Nat) (L : List Value) (M : Mem) (Q : Option Value → Mem → Prop), Wp d 96 45 L [.ref a] M Q ↔ (isK a 10 = true ∧ Wp d 96 48 L [.int (M a 1)] M Q)) ∧
    (∀ (d : Nat) (a : Int32) (L : List Value) (M : Mem) (Q : Option Value → Mem → Prop), Wp d 96 48 L [.int a] M Q ↔ Q (some (.int a)) M) ∧
    (∀ (d : Nat) (v0 : Value) (v1 : Value) (x : Int32) (L : List Value) (M : Mem) (Q : Option Value → Mem → Prop), Wp d 96 49 (v0 :: v1 :: .int x :: L) [] M Q ↔ Wp d 96 50 (v0 :: v1 :: .int x :: L) [.int x] M Q) ∧
    (∀ (d : Nat) (a : Int32) (L : List Value) (M : Mem) (Q : Option Value → Mem → Prop), Wp d 96 50 L [.int a] M Q ↔ Wp d 96 51 L [.int 1, .int a] M Q) ∧
    (∀ (d : Nat) (a : Int32) (b : Int32) (L : List Value) (M : Mem) (Q : Option Value → Mem → Prop), Wp d 96 51 L [.int a, .int b] M Q ↔ (if b = a then Wp d 96 54 L [] M Q else Wp d 96 64 L [] M Q)) ∧
    (∀ (d : Nat) (x : Nat) (L : List Value) (M : Mem) (Q : Option Value → Mem → Prop), Wp d 96 54 (.ref x :: L) [] M Q ↔ Wp d 96 55 (.ref x :: L) [.ref x] M Q) ∧
    (∀ (d : Nat) (a : Nat) (L : List Value) (M : Mem) (Q : Option Value → Mem → Prop), Wp d 96 55 L [.ref a] M Q ↔ (isK a 11 = true ∧ Wp d 96 58 L [.ref (rt a 4)] M Q)) ∧
    (∀ (d : Nat) (a : Nat) (L : List Value) (M : Mem) (Q : Option Value → Mem → Prop), Wp d 96 58 L [.ref a] M Q ↔ (isK a 10 = true ∧ Wp d 96 61 L [.int (M a 2)] M Q)) ∧
    (∀ (d : Nat) (a : Int32) (L : List Value) (M : Mem) (Q : Option Value → Mem → Prop), Wp d 96 61 L [.int a] M Q ↔ Wp d 96 71 L [.int a] M Q) ∧
    (∀ (d : Nat) (x : Nat) (L : List Value) (M : Mem) (Q : Option Value → Mem → Prop), Wp d 96 64 (.ref x :: L) [] M Q ↔ Wp d 96 65 (.ref x :: L) [.ref x] M Q) ∧
    (∀ (d : Nat) (a : Nat) (L : List Value) (M : Mem) (Q : Option Value → Mem → Prop), Wp d 96 65 L [.ref a] M Q ↔ (isK a 11 = true ∧ Wp d 96 68 L [.ref (rt a 4)] M Q)) ∧
    (∀ (d : Nat) (a : Nat) (L : List Value) (M : Mem) (Q : Option Value → Mem → Prop), Wp d 96 68 L [.ref a] M Q ↔ (isK a 10 = true ∧ Wp d 96 71 L [.int (M a 3)] M Q)) ∧
    (∀ (d : Nat) (a : Int32) (L : List Value) (M : Mem) (Q : Option Value → Mem → Prop), Wp d 96 71 L [.int a] M Q ↔ Q (some (.int a)) M) := by
  refine ⟨?_, ?_, ?_, ?_, ?_, ?_, ?_, ?_, ?_, ?_, ?_, ?_, ?_, ?_, ?_, ?_, ?_, ?_, ?_, ?_, ?_, ?_, ?_, ?_, ?_, ?_, ?_, ?_, ?_, ?_, ?_, ?_, ?_, ?_, ?_, ?_⟩
  · intro d v0 x L M Q; exact Wp_sim (by decide +kernel : decode (cd 96) 0 = .ok (.iload_n 1, 1)) rfl rfl
  · intro d a L M Q; exact q_zlt (by decide +kernel : decode (cd 96) 1 = .ok (.ifCond .lt 18, 3)) (by decide)
  · intro d v0 x L M Q; exact Wp_sim (by decide +kernel : decode (cd 96) 4 = .ok (.iload_n 1, 1)) rfl rfl
  · intro d a L M Q; exact Wp_sim (by decide +kernel : decode (cd 96) 5 = .ok (.bipush 99, 2)) rfl rfl
  · intro d a b L M Q; exact q_igt (by decide +kernel : decode (cd 96) 7 = .ok (.if_icmp .gt 12, 3)) (by decide)
  · intro d v0 v1 x L M Q; exact Wp_sim (by decide +kernel : decode (cd 96) 10 = .ok (.iload_n 2, 1)) rfl rfl
  · intro d a L M Q; exact q_zlt (by decide +kernel : decode (cd 96) 11 = .ok (.ifCond .lt 8, 3)) (by decide)
  · intro d v0 v1 x L M Q; exact Wp_sim (by decide +kernel : decode (cd 96) 14 = .ok (.iload_n 2, 1)) rfl rfl
  · intro d a L M Q; exact Wp_sim (by decide +kernel : decode (cd 96) 15 = .ok (.iconst 2, 1)) rfl rfl
  · intro d a b L M Q; exact q_ile (by decide +kernel : decode (cd 96) 16 = .ok (.if_icmp .le 6, 3)) (by decide)
  · intro d L M Q; exact q_ldc (p := 339) (by decide +kernel : decode (cd 96) 19 = .ok (.ldc 82, 2)) (by decide +kernel)
  · intro d a L M Q; exact q_iret (by decide +kernel : decode (cd 96) 21 = .ok (.ireturn , 1)) (by decide +kernel)
  · intro d x L M Q; exact Wp_sim (by decide +kernel : decode (cd 96) 22 = .ok (.aload_n 0, 1)) rfl rfl
  · intro d a L M Q; exact q_getR (p := 302) (by decide +kernel : decode (cd 96) 23 = .ok (.getfield 40, 3)) (by decide +kernel) (by decide +kernel)
  · intro d a x L M Q; exact Wp_sim (by decide +kernel : decode (cd 96) 26 = .ok (.aload_n 0, 1)) rfl rfl
  · intro d a b L M Q; exact q_getR (p := 301) (by decide +kernel : decode (cd 96) 27 = .ok (.getfield 33, 3)) (by decide +kernel) (by decide +kernel)
  · intro d a b L M Q; exact q_getR (p := 197) (by decide +kernel : decode (cd 96) 30 = .ok (.getfield 111, 3)) (by decide +kernel) (by decide +kernel)
  · intro d a b v0 x L M Q; exact Wp_sim (by decide +kernel : decode (cd 96) 33 = .ok (.iload_n 1, 1)) rfl rfl
  · intro d a b c L M Q; exact q_invV (pz := 709) (n := 2) (c := 10) (m := 3) (k := c) (As := [.ref b, .int a]) (rest := []) (by decide +kernel : decode (cd 96) 34 = .ok (.invokevirtual 269, 3)) (by decide +kernel) (by decide +kernel) rfl rfl (Nat.le_of_ble_eq_true rfl) (Nat.le_of_ble_eq_true rfl) rfl
  · intro d v0 v1 x L M Q; exact Wp_sim (by decide +kernel : decode (cd 96) 37 = .ok (.iload_n 2, 1)) rfl rfl
  · intro d a L M Q; exact q_zne (by decide +kernel : decode (cd 96) 38 = .ok (.ifCond .ne 11, 3)) (by decide)
  · intro d x L M Q; exact Wp_sim (by decide +kernel : decode (cd 96) 41 = .ok (.aload_n 0, 1)) rfl rfl
  · intro d a L M Q; exact q_getR (p := 302) (by decide +kernel : decode (cd 96) 42 = .ok (.getfield 40, 3)) (by decide +kernel) (by decide +kernel)
  · intro d a L M Q; exact q_getI (p := 213) (by decide +kernel : decode (cd 96) 45 = .ok (.getfield 273, 3)) (by decide +kernel) (by decide +kernel)
  · intro d a L M Q; exact q_iret (by decide +kernel : decode (cd 96) 48 = .ok (.ireturn , 1)) (by decide +kernel)
  · intro d v0 v1 x L M Q; exact Wp_sim (by decide +kernel : decode (cd 96) 49 = .ok (.iload_n 2, 1)) rfl rfl
  · intro d a L M Q; exact Wp_sim (by decide +kernel : decode (cd 96) 50 = .ok (.iconst 1, 1)) rfl rfl
  · intro d a b L M Q; exact q_ine (by decide +kernel : decode (cd 96) 51 = .ok (.if_icmp .ne 13, 3)) (by decide)
  · intro d x L M Q; exact Wp_sim (by decide +kernel : decode (cd 96) 54 = .ok (.aload_n 0, 1)) rfl rfl
  · intro d a L M Q; exact q_getR (p := 302) (by decide +kernel : decode (cd 96) 55 = .ok (.getfield 40, 3)) (by decide +kernel) (by decide +kernel)
  · intro d a L M Q; exact q_getI (p := 215) (by decide +kernel : decode (cd 96) 58 = .ok (.getfield 276, 3)) (by decide +kernel) (by decide +kernel)
  · intro d a L M Q; exact q_goto (by decide +kernel : decode (cd 96) 61 = .ok (.goto 10, 3)) (by decide)
  · intro d x L M Q; exact Wp_sim (by decide +kernel : decode (cd 96) 64 = .ok (.aload_n 0, 1)) rfl rfl
  · intro d a L M Q; exact q_getR (p := 302) (by decide +kernel : decode (cd 96) 65 = .ok (.getfield 40, 3)) (by decide +kernel) (by decide +kernel)
  · intro d a L M Q; exact q_getI (p := 217) (by decide +kernel : decode (cd 96) 68 = .ok (.getfield 279, 3)) (by decide +kernel) (by decide +kernel)
  · intro d a L M Q; exact q_iret (by decide +kernel : decode (cd 96) 71 = .ok (.ireturn , 1)) (by decide +kernel)

/- 97: PalaceYard.composition -/
set_option maxRecDepth 10000 in
theorem e97 : (∀ (d : Nat) (v0 : Value) (x : Int32) (L : List Value) (M : Mem) (Q : Option Value → Mem → Prop), Wp d 97 0 (v0 :: .int x :: L) [] M Q ↔ Wp d 97 1 (v0 :: .int x :: L) [.int x] M Q) ∧
    (∀ (d : Nat) (a : Int32) (L : List Value) (M : Mem) (Q : Option Value → Mem → Prop), Wp d 97 1 L [.int a] M Q ↔ (if a < 0 then Wp d 97 19 L [] M Q else Wp d 97 4 L [] M Q)) ∧
    (∀ (d : Nat) (v0 : Value) (x : Int32) (L : List Value) (M : Mem) (Q : Option Value → Mem → Prop), Wp d 97 4 (v0 :: .int x :: L) [] M Q ↔ Wp d 97 5 (v0 :: .int x :: L) [.int x] M Q) ∧
    (∀ (d : Nat) (a : Int32) (L : List Value) (M : Mem) (Q : Option Value → Mem → Prop), Wp d 97 5 L [.int a] M Q ↔ Wp d 97 7 L [.int 100, .int a] M Q) ∧
    (∀ (d : Nat) (a : Int32) (b : Int32) (L : List Value) (M : Mem) (Q : Option Value → Mem → Prop), Wp d 97 7 L [.int a, .int b] M Q ↔ (if a < b then Wp d 97 19 L [] M Q else Wp d 97 10 L [] M Q)) ∧
    (∀ (d : Nat) (v0 : Value) (v1 : Value) (x : Int32) (L : List Value) (M : Mem) (Q : Option Value → Mem → Prop), Wp d 97 10 (v0 :: v1 :: .int x :: L) [] M Q ↔ Wp d 97 11 (v0 :: v1 :: .int x :: L) [.int x] M Q) ∧
    (∀ (d : Nat) (a : Int32) (L : List Value) (M : Mem) (Q : Option Value → Mem → Prop), Wp d 97 11 L [.int a] M Q ↔ (if a < 0 then Wp d 97 19 L [] M Q else Wp d 97 14 L [] M Q)) ∧
    (∀ (d : Nat) (v0 : Value) (v1 : Value) (x : Int32) (L : List Value) (M : Mem) (Q : Option Value → Mem → Prop), Wp d 97 14 (v0 :: v1 :: .int x :: L) [] M Q ↔ Wp d 97 15 (v0 :: v1 :: .int x :: L) [.int x] M Q) ∧
    (∀ (d : Nat) (a : Int32) (L : List Value) (M : Mem) (Q : Option Value → Mem → Prop), Wp d 97 15 L [.int a] M Q ↔ Wp d 97 16 L [.int 1, .int a] M Q) ∧
    (∀ (d : Nat) (a : Int32) (b : Int32) (L : List Value) (M : Mem) (Q : Option Value → Mem → Prop), Wp d 97 16 L [.int a, .int b] M Q ↔ (if a < b then Wp d 97 19 L [] M Q else Wp d 97 22 L [] M Q)) ∧
    (∀ (d : Nat) (L : List Value) (M : Mem) (Q : Option Value → Mem → Prop), Wp d 97 19 L [] M Q ↔ Wp d 97 21 L [.int (-1000000002)] M Q) ∧
    (∀ (d : Nat) (a : Int32) (L : List Value) (M : Mem) (Q : Option Value → Mem → Prop), Wp d 97 21 L [.int a] M Q ↔ Q (some (.int a)) M) ∧
    (∀ (d : Nat) (x : Nat) (L : List Value) (M : Mem) (Q : Option Value → Mem → Prop), Wp d 97 22 (.ref x :: L) [] M Q ↔ Wp d 97 23 (.ref x :: L) [.ref x] M Q) ∧
    (∀ (d : Nat) (a : Nat) (L : List Value) (M : Mem) (Q : Option Value → Mem → Prop), Wp d 97 23 L [.ref a] M Q ↔ (isK a 11 = true ∧ Wp d 97 26 L [.ref (rt a 3)] M Q)) ∧
    (∀ (d : Nat) (a : Nat) (v0 : Value) (x : Int32) (L : List Value) (M : Mem) (Q : Option Value → Mem → Prop), Wp d 97 26 (v0 :: .int x :: L) [.ref a] M Q ↔ Wp d 97 27 (v0 :: .int x :: L) [.int x, .ref a] M Q) ∧
    (∀ (d : Nat) (a : Int32) (b : Nat) (L : List Value) (M : Mem) (Q : Option Value → Mem → Prop), Wp (d + 1) 97 27 L [.int a, .ref b] M Q ↔ (isK b 9 = true ∧ Wp d 66 0 [.ref b, .int a, .null, .null] [] M (fun r M2 => Wp (d + 1) 97 30 L (r.toList ++ []) M2 Q))) ∧
    (∀ (d : Nat) (a : Int32) (v0 : Value) (v1 : Value) (v2 : Value) (x : Value) (L : List Value) (M : Mem) (Q : Option Value → Mem → Prop), Wp d 97 30 (v0 :: v1 :: v2 :: x :: L) [.int a] M Q ↔ Wp d 97 31 (v0 :: v1 :: clr v2 :: .int a :: L) [] M Q) ∧
    (∀ (d : Nat) (v0 : Value) (v1 : Value) (x : Int32) (L : List Value) (M : Mem) (Q : Option Value → Mem → Prop), Wp d 97 31 (v0 :: v1 :: .int x :: L) [] M Q ↔ Wp d 97 32 (v0 :: v1 :: .int x :: L) [.int x] M Q) ∧
    (∀ (d : Nat) (a : Int32) (L : List Value) (M : Mem) (Q : Option Value → Mem → Prop), Wp d 97 32 L [.int a] M Q ↔ (if a = 0 then Wp d 97 35 L [] M Q else Wp d 97 37 L [] M Q)) ∧
    (∀ (d : Nat) (v0 : Value) (v1 : Value) (v2 : Value) (x : Int32) (L : List Value) (M : Mem) (Q : Option Value → Mem → Prop), Wp d 97 35 (v0 :: v1 :: v2 :: .int x :: L) [] M Q ↔ Wp d 97 36 (v0 :: v1 :: v2 :: .int x :: L) [.int x] M Q) ∧
    (∀ (d : Nat) (a : Int32) (L : List Value) (M : Mem) (Q : Option Value → Mem → Prop), Wp d 97 36 L [.int a] M Q ↔ Q (some (.int a)) M) ∧
    (∀ (d : Nat) (x : Nat) (L : List Value) (M : Mem) (Q : Option Value → Mem → Prop), Wp d 97 37 (.ref x :: L) [] M Q ↔ Wp d 97 38 (.ref x :: L) [.ref x] M Q) ∧
    (∀ (d : Nat) (a : Nat) (L : List Value) (M : Mem) (Q : Option Value → Mem → Prop), Wp d 97 38 L [.ref a] M Q ↔ (isK a 11 = true ∧ Wp d 97 41 L [.ref (rt a 3)] M Q)) ∧
    (∀ (d : Nat) (a : Nat) (v0 : Value) (v1 : Value) (v2 : Value) (x : Int32) (L : List Value) (M : Mem) (Q : Option Value → Mem → Prop), Wp d 97 41 (v0 :: v1 :: v2 :: .int x :: L) [.ref a] M Q ↔ Wp d 97 42 (v0 :: v1 :: v2 :: .int x :: L) [.int x, .ref a] M Q) ∧
    (∀ (d : Nat) (a : Int32) (b : Nat) (L : List Value) (M : Mem) (Q : Option Value → Mem → Prop), Wp (d + 1) 97 42 L [.int a, .ref b] M Q ↔ (isK b 9 = true ∧ Wp d 67 0 [.ref b, .int a, .null, .null, .null] [] M (fun r M2 => Wp (d + 1) 97 45 L (r.toList ++ []) M2 Q))) ∧
    (∀ (d : Nat) (a : Int32) (L : List Value) (M : Mem) (Q : Option Value → Mem → Prop), Wp d 97 45 L [.int a] M Q ↔ (if a = 0 then Wp d 97 52 L [] M Q else Wp d 97 48 L [] M Q)) ∧
    (∀ (d : Nat) (L : List Value) (M : Mem) (Q : Option Value → Mem → Prop), Wp d 97 48 L [] M Q ↔ Wp d 97 49 L [.int 1] M Q) ∧
    (∀ (d : Nat) (a : Int32) (L : List Value) (M : Mem) (Q : Option Value → Mem → Prop), Wp d 97 49 L [.int a] M Q ↔ Wp d 97 53 L [.int a] M Q) ∧
    (∀ (d : Nat) (L : List Value) (M : Mem) (Q : Option Value → Mem → Prop), Wp d 97 52 L [] M Q ↔ Wp d 97 53 L [.int 0] M Q) ∧
    (∀ (d : Nat) (a : Int32) (L : List Value) (M : Mem) (Q : Option Value → Mem → Prop), Wp d 97 53 L [.int a] M Q ↔ Q (some (.int a)) M) := by
  refine ⟨?_, ?_, ?_, ?_, ?_, ?_, ?_, ?_, ?_, ?_, ?_, ?_, ?_, ?_, ?_, ?_, ?_, ?_, ?_, ?_, ?_, ?_, ?_, ?_, ?_, ?_, ?_, ?_, ?_, ?_⟩
  · intro d v0 x L M Q; exact Wp_sim (by decide +kernel : decode (cd 97) 0 = .ok (.iload_n 1, 1)) rfl rfl
  · intro d a L M Q; exact q_zlt (by decide +kernel : decode (cd 97) 1 = .ok (.ifCond .lt 18, 3)) (by decide)
  · intro d v0 x L M Q; exact Wp_sim (by decide +kernel : decode (cd 97) 4 = .ok (.iload_n 1, 1)) rfl rfl
  · intro d a L M Q; exact Wp_sim (by decide +kernel : decode (cd 97) 5 = .ok (.bipush 100, 2)) rfl rfl
  · intro d a b L M Q; exact q_igt (by decide +kernel : decode (cd 97) 7 = .ok (.if_icmp .gt 12, 3)) (by decide)
  · intro d v0 v1 x L M Q; exact Wp_sim (by decide +kernel : decode (cd 97) 10 = .ok (.iload_n 2, 1)) rfl rfl
  · intro d a L M Q; exact q_zlt (by decide +kernel : decode (cd 97) 11 = .ok (.ifCond .lt 8, 3)) (by decide)
  · intro d v0 v1 x L M Q; exact Wp_sim (by decide +kernel : decode (cd 97) 14 = .ok (.iload_n 2, 1)) rfl rfl
  · intro d a L M Q; exact Wp_sim (by decide +kernel : decode (cd 97) 15 = .ok (.iconst 1, 1)) rfl rfl
  · intro d a b L M Q; exact q_ile (by decide +kernel : decode (cd 97) 16 = .ok (.if_icmp .le 6, 3)) (by decide)
  · intro d L M Q; exact q_ldc (p := 339) (by decide +kernel : decode (cd 97) 19 = .ok (.ldc 82, 2)) (by decide +kernel)
  · intro d a L M Q; exact q_iret (by decide +kernel : decode (cd 97) 21 = .ok (.ireturn , 1)) (by decide +kernel)
  · intro d x L M Q; exact Wp_sim (by decide +kernel : decode (cd 97) 22 = .ok (.aload_n 0, 1)) rfl rfl
  · intro d a L M Q; exact q_getR (p := 301) (by decide +kernel : decode (cd 97) 23 = .ok (.getfield 33, 3)) (by decide +kernel) (by decide +kernel)
  · intro d a v0 x L M Q; exact Wp_sim (by decide +kernel : decode (cd 97) 26 = .ok (.iload_n 1, 1)) rfl rfl
  · intro d a b L M Q; exact q_invV (pz := 732) (n := 1) (c := 9) (m := 4) (k := b) (As := [.int a]) (rest := []) (by decide +kernel : decode (cd 97) 27 = .ok (.invokevirtual 282, 3)) (by decide +kernel) (by decide +kernel) rfl rfl (Nat.le_of_ble_eq_true rfl) (Nat.le_of_ble_eq_true rfl) rfl
  · intro d a v0 v1 v2 x L M Q; exact Wp_sim (by decide +kernel : decode (cd 97) 30 = .ok (.istore_n 3, 1)) rfl rfl
  · intro d v0 v1 x L M Q; exact Wp_sim (by decide +kernel : decode (cd 97) 31 = .ok (.iload_n 2, 1)) rfl rfl
  · intro d a L M Q; exact q_zne (by decide +kernel : decode (cd 97) 32 = .ok (.ifCond .ne 5, 3)) (by decide)
  · intro d v0 v1 v2 x L M Q; exact Wp_sim (by decide +kernel : decode (cd 97) 35 = .ok (.iload_n 3, 1)) rfl rfl
  · intro d a L M Q; exact q_iret (by decide +kernel : decode (cd 97) 36 = .ok (.ireturn , 1)) (by decide +kernel)
  · intro d x L M Q; exact Wp_sim (by decide +kernel : decode (cd 97) 37 = .ok (.aload_n 0, 1)) rfl rfl
  · intro d a L M Q; exact q_getR (p := 301) (by decide +kernel : decode (cd 97) 38 = .ok (.getfield 33, 3)) (by decide +kernel) (by decide +kernel)
  · intro d a v0 v1 v2 x L M Q; exact Wp_sim (by decide +kernel : decode (cd 97) 41 = .ok (.iload_n 3, 1)) rfl rfl
  · intro d a b L M Q; exact q_invV (pz := 736) (n := 1) (c := 9) (m := 5) (k := b) (As := [.int a]) (rest := []) (by decide +kernel : decode (cd 97) 42 = .ok (.invokevirtual 285, 3)) (by decide +kernel) (by decide +kernel) rfl rfl (Nat.le_of_ble_eq_true rfl) (Nat.le_of_ble_eq_true rfl) rfl
  · intro d a L M Q; exact q_zeq (by decide +kernel : decode (cd 97) 45 = .ok (.ifCond .eq 7, 3)) (by decide)
  · intro d L M Q; exact Wp_sim (by decide +kernel : decode (cd 97) 48 = .ok (.iconst 1, 1)) rfl rfl
  · intro d a L M Q; exact q_goto (by decide +kernel : decode (cd 97) 49 = .ok (.goto 4, 3)) (by decide)
  · intro d L M Q; exact Wp_sim (by decide +kernel : decode (cd 97) 52 = .ok (.iconst 0, 1)) rfl rfl
  · intro d a L M Q; exact q_iret (by decide +kernel : decode (cd 97) 53 = .ok (.ireturn , 1)) (by decide +kernel)

/- 98: PalaceYard.year -/
set_option maxRecDepth 10000 in
theorem e98 : (∀ (d : Nat) (x : Nat) (L : List Value) (M : Mem) (Q : Option Value → Mem → Prop), Wp d 98 0 (.ref x :: L) [] M Q ↔ Wp d 98 1 (.ref x :: L) [.ref x] M Q) ∧
    (∀ (d : Nat) (a : Nat) (v0 : Value) (x : Int32) (L : List Value) (M : Mem) (Q : Option Value → Mem → Prop), Wp d 98 1 (v0 :: .int x :: L) [.ref a] M Q ↔ Wp d 98 2 (v0 :: .int x :: L) [.int x, .ref a] M Q) ∧
    (∀ (d : Nat) (a : Int32) (b : Nat) (L : List Value) (M : Mem) (Q : Option Value → Mem → Prop), Wp (d + 1) 98 2 L [.int a, .ref b] M Q ↔ (isK b 11 = true ∧ Wp d 77 0 [.ref b, .int a] [] M (fun r M2 => Wp (d + 1) 98 5 L (r.toList ++ []) M2 Q))) ∧
    (∀ (d : Nat) (a : Int32) (L : List Value) (M : Mem) (Q : Option Value → Mem → Prop), Wp d 98 5 L [.int a] M Q ↔ (if a = 0 then Wp d 98 8 L [] M Q else Wp d 98 11 L [] M Q)) ∧
    (∀ (d : Nat) (L : List Value) (M : Mem) (Q : Option Value → Mem → Prop), Wp d 98 8 L [] M Q ↔ Wp d 98 10 L [.int (-1000000001)] M Q) ∧
    (∀ (d : Nat) (a : Int32) (L : List Value) (M : Mem) (Q : Option Value → Mem → Prop), Wp d 98 10 L [.int a] M Q ↔ Q (some (.int a)) M) ∧
    (∀ (d : Nat) (v0 : Value) (v1 : Value) (x : Int32) (L : List Value) (M : Mem) (Q : Option Value → Mem → Prop), Wp d 98 11 (v0 :: v1 :: .int x :: L) [] M Q ↔ Wp d 98 12 (v0 :: v1 :: .int x :: L) [.int x] M Q) ∧
    (∀ (d : Nat) (a : Int32) (L : List Value) (M : Mem) (Q : Option Value → Mem → Prop), Wp d 98 12 L [.int a] M Q ↔ (if a < 0 then Wp d 98 21 L [] M Q else Wp d 98 15 L [] M Q)) ∧
    (∀ (d : Nat) (v0 : Value) (v1 : Value) (x : Int32) (L : List Value) (M : Mem) (Q : Option Value → Mem → Prop), Wp d 98 15 (v0 :: v1 :: .int x :: L) [] M Q ↔ Wp d 98 16 (v0 :: v1 :: .int x :: L) [.int x] M Q) ∧
    (∀ (d : Nat) (a : Int32) (L : List Value) (M : Mem) (Q : Option Value → Mem → Prop), Wp d 98 16 L [.int a] M Q ↔ Wp d 98 18 L [.int 60, .int a] M Q) ∧
    (∀ (d : Nat) (a : Int32) (b : Int32) (L : List Value) (M : Mem) (Q : Option Value → Mem → Prop), Wp d 98 18 L [.int a, .int b] M Q ↔ (if a < b then Wp d 98 21 L [] M Q else Wp d 98 24 L [] M Q)) ∧
    (∀ (d : Nat) (L : List Value) (M : Mem) (Q : Option Value → Mem → Prop), Wp d 98 21 L [] M Q ↔ Wp d 98 23 L [.int (-1000000002)] M Q) ∧
    (∀ (d : Nat) (a : Int32) (L : List Value) (M : Mem) (Q : Option Value → Mem → Prop), Wp d 98 23 L [.int a] M Q ↔ Q (some (.int a)) M) ∧
    (∀ (d : Nat) (x : Nat) (L : List Value) (M : Mem) (Q : Option Value → Mem → Prop), Wp d 98 24 (.ref x :: L) [] M Q ↔ Wp d 98 25 (.ref x :: L) [.ref x] M Q) ∧
    (∀ (d : Nat) (a : Nat) (L : List Value) (M : Mem) (Q : Option Value → Mem → Prop), Wp d 98 25 L [.ref a] M Q ↔ (isK a 11 = true ∧ Wp d 98 28 L [.ref (rt a 3)] M Q)) ∧
    (∀ (d : Nat) (a : Nat) (L : List Value) (M : Mem) (Q : Option Value → Mem → Prop), Wp d 98 28 L [.ref a] M Q ↔ (isK a 9 = true ∧ Wp d 98 31 L [.ref (rt a 1)] M Q)) ∧
    (∀ (d : Nat) (a : Nat) (L : List Value) (M : Mem) (Q : Option Value → Mem → Prop), Wp d 98 31 L [.ref a] M Q ↔ (isK a 6 = true ∧ Wp d 98 34 L [.ref (rt a 1)] M Q)) ∧
    (∀ (d : Nat) (a : Nat) (v0 : Value) (x : Int32) (L : List Value) (M : Mem) (Q : Option Value → Mem → Prop), Wp d 98 34 (v0 :: .int x :: L) [.ref a] M Q ↔ Wp d 98 35 (v0 :: .int x :: L) [.int x, .ref a] M Q) ∧
    (∀ (d : Nat) (a : Int32) (b : Nat) (L : List Value) (M : Mem) (Q : Option Value → Mem → Prop), Wp d 98 35 L [.int a, .ref b] M Q ↔ ((isR b = true ∧ inr a (lnm M b)) ∧ Wp d 98 36 L [.int (M b a.toNatClampNeg)] M Q)) ∧
    (∀ (d : Nat) (a : Int32) (v0 : Value) (v1 : Value) (v2 : Value) (x : Value) (L : List Value) (M : Mem) (Q : Option Value → Mem → Prop), Wp d 98 36 (v0 :: v1 :: v2 :: x :: L) [.int a] M Q ↔ Wp d 98 37 (v0 :: v1 :: clr v2 :: .int a :: L) [] M Q) ∧
    (∀ (d : Nat) (L : List Value) (M : Mem) (Q : Option Value → Mem → Prop), Wp d 98 37 L [] M Q ↔ Wp d 98 38 L [.int 0] M Q) ∧
    (∀ (d : Nat) (a : Int32) (v0 : Value) (v1 : Value) (v2 : Value) (v3 : Value) (x : Value) (L : List Value) (M : Mem) (Q : Option Value → Mem → Prop), Wp d 98 38 (v0 :: v1 :: v2 :: v3 :: x :: L) [.int a] M Q ↔ Wp d 98 40 (v0 :: v1 :: v2 :: clr v3 :: .int a :: L) [] M Q) ∧
    (∀ (d : Nat) (a : Int32) (v0 : Value) (v1 : Value) (x : Int32) (L : List Value) (M : Mem) (Q : Option Value → Mem → Prop), Wp d 98 42 (v0 :: v1 :: .int x :: L) [.int a] M Q ↔ Wp d 98 43 (v0 :: v1 :: .int x :: L) [.int x, .int a] M Q) ∧
    (∀ (d : Nat) (a : Int32) (b : Int32) (L : List Value) (M : Mem) (Q : Option Value → Mem → Prop), Wp d 98 43 L [.int a, .int b] M Q ↔ (if b < a then Wp d 98 46 L [] M Q else Wp d 98 63 L [] M Q)) ∧
    (∀ (d : Nat) (x : Nat) (L : List Value) (M : Mem) (Q : Option Value → Mem → Prop), Wp d 98 46 (.ref x :: L) [] M Q ↔ Wp d 98 47 (.ref x :: L) [.ref x] M Q) ∧
    (∀ (d : Nat) (a : Nat) (L : List Value) (M : Mem) (Q : Option Value → Mem → Prop), Wp d 98 47 L [.ref a] M Q ↔ (isK a 11 = true ∧ Wp d 98 50 L [.ref (rt a 3)] M Q)) ∧
    (∀ (d : Nat) (a : Nat) (v0 : Value) (v1 : Value) (v2 : Value) (x : Int32) (L : List Value) (M : Mem) (Q : Option Value → Mem → Prop), Wp d 98 50 (v0 :: v1 :: v2 :: .int x :: L) [.ref a] M Q ↔ Wp d 98 51 (v0 :: v1 :: v2 :: .int x :: L) [.int x, .ref a] M Q) ∧
    (∀ (d : Nat) (a : Int32) (b : Nat) (v0 : Value) (x : Int32) (L : List Value) (M : Mem) (Q : Option Value → Mem → Prop), Wp d 98 51 (v0 :: .int x :: L) [.int a, .ref b] M Q ↔ Wp d 98 52 (v0 :: .int x :: L) [.int x, .int a, .ref b] M Q) ∧
    (∀ (d : Nat) (a : Int32) (b : Int32) (c : Nat) (L : List Value) (M : Mem) (Q : Option Value → Mem → Prop), Wp d 98 52 L [.int a, .int b, .ref c] M Q ↔ Wp d 98 53 L [.int 1, .int a, .int b, .ref c] M Q) ∧
    (∀ (d : Nat) (a : Int32) (b : Int32) (c : Int32) (d2 : Nat) (L : List Value) (M : Mem) (Q : Option Value → Mem → Prop), Wp (d + 1) 98 53 L [.int a, .int b, .int c, .ref d2] M Q ↔ (isK d2 9 = true ∧ Wp d 47 0 [.ref d2, .int c, .int b, .int a, .null] [] M (fun r M2 => Wp (d + 1) 98 56 L (r.toList ++ []) M2 Q))) ∧
    (∀ (d : Nat) (a : Int32) (v0 : Value) (v1 : Value) (v2 : Value) (x : Value) (L : List Value) (M : Mem) (Q : Option Value → Mem → Prop), Wp d 98 56 (v0 :: v1 :: v2 :: x :: L) [.int a] M Q ↔ Wp d 98 57 (v0 :: v1 :: clr v2 :: .int a :: L) [] M Q) ∧
    (∀ (d : Nat) (v0 : Value) (v1 : Value) (v2 : Value) (v3 : Value) (x : Int32) (L : List Value) (M : Mem) (Q : Option Value → Mem → Prop), Wp d 98 57 (v0 :: v1 :: v2 :: v3 :: .int x :: L) [] M Q ↔ Wp d 98 60 (v0 :: v1 :: v2 :: clr v3 :: .int (x + 1) :: L) [] M Q) ∧
    (∀ (d : Nat) (L : List Value) (M : Mem) (Q : Option Value → Mem → Prop), Wp d 98 60 L [] M Q ↔ Wp d 98 40 L [] M Q) ∧
    (∀ (d : Nat) (v0 : Value) (v1 : Value) (v2 : Value) (x : Int32) (L : List Value) (M : Mem) (Q : Option Value → Mem → Prop), Wp d 98 63 (v0 :: v1 :: v2 :: .int x :: L) [] M Q ↔ Wp d 98 64 (v0 :: v1 :: v2 :: .int x :: L) [.int x] M Q) ∧
    (∀ (d : Nat) (a : Int32) (L : List Value) (M : Mem) (Q : Option Value → Mem → Prop), Wp d 98 64 L [.int a] M Q ↔ Wp d 98 67 L [.int 10000, .int a] M Q) ∧
    (∀ (d : Nat) (a : Int32) (b : Int32) (L : List Value) (M : Mem) (Q : Option Value → Mem → Prop), Wp d 98 67 L [.int a, .int b] M Q ↔ Wp d 98 68 L [.int (b + a)] M Q) ∧
    (∀ (d : Nat) (a : Int32) (L : List Value) (M : Mem) (Q : Option Value → Mem → Prop), Wp d 98 68 L [.int a] M Q ↔ Q (some (.int a)) M) := by
  refine ⟨?_, ?_, ?_, ?_, ?_, ?_, ?_, ?_, ?_, ?_, ?_, ?_, ?_, ?_, ?_, ?_, ?_, ?_, ?_, ?_, ?_, ?_, ?_, ?_, ?_, ?_, ?_, ?_, ?_, ?_, ?_, ?_, ?_, ?_, ?_, ?_, ?_⟩
  · intro d x L M Q; exact Wp_sim (by decide +kernel : decode (cd 98) 0 = .ok (.aload_n 0, 1)) rfl rfl
  · intro d a v0 x L M Q; exact Wp_sim (by decide +kernel : decode (cd 98) 1 = .ok (.iload_n 1, 1)) rfl rfl
  · intro d a b L M Q; exact q_invV (pz := 516) (n := 1) (c := 11) (m := 2) (k := b) (As := [.int a]) (rest := []) (by decide +kernel : decode (cd 98) 2 = .ok (.invokevirtual 175, 3)) (by decide +kernel) (by decide +kernel) rfl rfl (Nat.le_of_ble_eq_true rfl) (Nat.le_of_ble_eq_true rfl) rfl
  · intro d a L M Q; exact q_zne (by decide +kernel : decode (cd 98) 5 = .ok (.ifCond .ne 6, 3)) (by decide)
  · intro d L M Q; exact q_ldc (p := 505) (by decide +kernel : decode (cd 98) 8 = .ok (.ldc 170, 2)) (by decide +kernel)
  · intro d a L M Q; exact q_iret (by decide +kernel : decode (cd 98) 10 = .ok (.ireturn , 1)) (by decide +kernel)
  · intro d v0 v1 x L M Q; exact Wp_sim (by decide +kernel : decode (cd 98) 11 = .ok (.iload_n 2, 1)) rfl rfl
  · intro d a L M Q; exact q_zlt (by decide +kernel : decode (cd 98) 12 = .ok (.ifCond .lt 9, 3)) (by decide)
  · intro d v0 v1 x L M Q; exact Wp_sim (by decide +kernel : decode (cd 98) 15 = .ok (.iload_n 2, 1)) rfl rfl
  · intro d a L M Q; exact Wp_sim (by decide +kernel : decode (cd 98) 16 = .ok (.bipush 60, 2)) rfl rfl
  · intro d a b L M Q; exact q_ile (by decide +kernel : decode (cd 98) 18 = .ok (.if_icmp .le 6, 3)) (by decide)
  · intro d L M Q; exact q_ldc (p := 339) (by decide +kernel : decode (cd 98) 21 = .ok (.ldc 82, 2)) (by decide +kernel)
  · intro d a L M Q; exact q_iret (by decide +kernel : decode (cd 98) 23 = .ok (.ireturn , 1)) (by decide +kernel)
  · intro d x L M Q; exact Wp_sim (by decide +kernel : decode (cd 98) 24 = .ok (.aload_n 0, 1)) rfl rfl
  · intro d a L M Q; exact q_getR (p := 301) (by decide +kernel : decode (cd 98) 25 = .ok (.getfield 33, 3)) (by decide +kernel) (by decide +kernel)
  · intro d a L M Q; exact q_getR (p := 199) (by decide +kernel : decode (cd 98) 28 = .ok (.getfield 132, 3)) (by decide +kernel) (by decide +kernel)
  · intro d a L M Q; exact q_getR (p := 170) (by decide +kernel : decode (cd 98) 31 = .ok (.getfield 192, 3)) (by decide +kernel) (by decide +kernel)
  · intro d a v0 x L M Q; exact Wp_sim (by decide +kernel : decode (cd 98) 34 = .ok (.iload_n 1, 1)) rfl rfl
  · intro d a b L M Q; exact q_ald (by decide +kernel : decode (cd 98) 35 = .ok (.iaload , 1))
  · intro d a v0 v1 v2 x L M Q; exact Wp_sim (by decide +kernel : decode (cd 98) 36 = .ok (.istore_n 3, 1)) rfl rfl
  · intro d L M Q; exact Wp_sim (by decide +kernel : decode (cd 98) 37 = .ok (.iconst 0, 1)) rfl rfl
  · intro d a v0 v1 v2 v3 x L M Q; exact Wp_sim (by decide +kernel : decode (cd 98) 38 = .ok (.istore 4, 2)) rfl rfl
  · intro d a v0 v1 x L M Q; exact Wp_sim (by decide +kernel : decode (cd 98) 42 = .ok (.iload_n 2, 1)) rfl rfl
  · intro d a b L M Q; exact q_ige (by decide +kernel : decode (cd 98) 43 = .ok (.if_icmp .ge 20, 3)) (by decide)
  · intro d x L M Q; exact Wp_sim (by decide +kernel : decode (cd 98) 46 = .ok (.aload_n 0, 1)) rfl rfl
  · intro d a L M Q; exact q_getR (p := 301) (by decide +kernel : decode (cd 98) 47 = .ok (.getfield 33, 3)) (by decide +kernel) (by decide +kernel)
  · intro d a v0 v1 v2 x L M Q; exact Wp_sim (by decide +kernel : decode (cd 98) 50 = .ok (.iload_n 3, 1)) rfl rfl
  · intro d a b v0 x L M Q; exact Wp_sim (by decide +kernel : decode (cd 98) 51 = .ok (.iload_n 1, 1)) rfl rfl
  · intro d a b c L M Q; exact Wp_sim (by decide +kernel : decode (cd 98) 52 = .ok (.iconst 1, 1)) rfl rfl
  · intro d a b c d2 L M Q; exact q_invV (pz := 744) (n := 3) (c := 9) (m := 5) (k := d2) (As := [.int c, .int b, .int a]) (rest := []) (by decide +kernel : decode (cd 98) 53 = .ok (.invokevirtual 288, 3)) (by decide +kernel) (by decide +kernel) rfl rfl (Nat.le_of_ble_eq_true rfl) (Nat.le_of_ble_eq_true rfl) rfl
  · intro d a v0 v1 v2 x L M Q; exact Wp_sim (by decide +kernel : decode (cd 98) 56 = .ok (.istore_n 3, 1)) rfl rfl
  · intro d v0 v1 v2 v3 x L M Q; exact Wp_sim (by decide +kernel : decode (cd 98) 57 = .ok (.iinc 4 1, 3)) rfl rfl
  · intro d L M Q; exact q_goto (by decide +kernel : decode (cd 98) 60 = .ok (.goto (-20), 3)) (by decide)
  · intro d v0 v1 v2 x L M Q; exact Wp_sim (by decide +kernel : decode (cd 98) 63 = .ok (.iload_n 3, 1)) rfl rfl
  · intro d a L M Q; exact Wp_sim (by decide +kernel : decode (cd 98) 64 = .ok (.sipush 10000, 3)) rfl rfl
  · intro d a b L M Q; exact Wp_sim (by decide +kernel : decode (cd 98) 67 = .ok (.iadd , 1)) rfl rfl
  · intro d a L M Q; exact q_iret (by decide +kernel : decode (cd 98) 68 = .ok (.ireturn , 1)) (by decide +kernel)
theorem h98_40 : (∀ (d : Nat) (v0 : Value) (v1 : Value) (v2 : Value) (v3 : Value) (x : Int32) (L : List Value) (M : Mem) (Q : Option Value → Mem → Prop), Wp d 98 40 (v0 :: v1 :: v2 :: v3 :: .int x :: L) [] M Q ↔ Wp d 98 42 (v0 :: v1 :: v2 :: v3 :: .int x :: L) [.int x] M Q) := by
  intro d v0 v1 v2 v3 x L M Q; exact Wp_sim (by decide +kernel : decode (cd 98) 40 = .ok (.iload 4, 2)) rfl rfl

/- 99: PalaceYard.chain -/
set_option maxRecDepth 10000 in
theorem e99 : (∀ (d : Nat) (x : Nat) (L : List Value) (M : Mem) (Q : Option Value → Mem → Prop), Wp d 99 0 (.ref x :: L) [] M Q ↔ Wp d 99 1 (.ref x :: L) [.ref x] M Q) ∧
    (∀ (d : Nat) (a : Nat) (v0 : Value) (x : Int32) (L : List Value) (M : Mem) (Q : Option Value → Mem → Prop), Wp d 99 1 (v0 :: .int x :: L) [.ref a] M Q ↔ Wp d 99 2 (v0 :: .int x :: L) [.int x, .ref a] M Q) ∧
    (∀ (d : Nat) (a : Int32) (b : Nat) (L : List Value) (M : Mem) (Q : Option Value → Mem → Prop), Wp (d + 1) 99 2 L [.int a, .ref b] M Q ↔ (isK b 11 = true ∧ Wp d 77 0 [.ref b, .int a] [] M (fun r M2 => Wp (d + 1) 99 5 L (r.toList ++ []) M2 Q))) ∧
    (∀ (d : Nat) (a : Int32) (L : List Value) (M : Mem) (Q : Option Value → Mem → Prop), Wp d 99 5 L [.int a] M Q ↔ (if a = 0 then Wp d 99 8 L [] M Q else Wp d 99 11 L [] M Q)) ∧
    (∀ (d : Nat) (L : List Value) (M : Mem) (Q : Option Value → Mem → Prop), Wp d 99 8 L [] M Q ↔ Wp d 99 10 L [.int (-1000000001)] M Q) ∧
    (∀ (d : Nat) (a : Int32) (L : List Value) (M : Mem) (Q : Option Value → Mem → Prop), Wp d 99 10 L [.int a] M Q ↔ Q (some (.int a)) M) ∧
    (∀ (d : Nat) (v0 : Value) (v1 : Value) (x : Int32) (L : List Value) (M : Mem) (Q : Option Value → Mem → Prop), Wp d 99 11 (v0 :: v1 :: .int x :: L) [] M Q ↔ Wp d 99 12 (v0 :: v1 :: .int x :: L) [.int x] M Q) ∧
    (∀ (d : Nat) (a : Int32) (L : List Value) (M : Mem) (Q : Option Value → Mem → Prop), Wp d 99 12 L [.int a] M Q ↔ (if a < 0 then Wp d 99 20 L [] M Q else Wp d 99 15 L [] M Q)) ∧
    (∀ (d : Nat) (v0 : Value) (v1 : Value) (x : Int32) (L : List Value) (M : Mem) (Q : Option Value → Mem → Prop), Wp d 99 15 (v0 :: v1 :: .int x :: L) [] M Q ↔ Wp d 99 16 (v0 :: v1 :: .int x :: L) [.int x] M Q) ∧
    (∀ (d : Nat) (a : Int32) (L : List Value) (M : Mem) (Q : Option Value → Mem → Prop), Wp d 99 16 L [.int a] M Q ↔ Wp d 99 17 L [.int 1, .int a] M Q) ∧
    (∀ (d : Nat) (a : Int32) (b : Int32) (L : List Value) (M : Mem) (Q : Option Value → Mem → Prop), Wp d 99 17 L [.int a, .int b] M Q ↔ (if a < b then Wp d 99 20 L [] M Q else Wp d 99 23 L [] M Q)) ∧
    (∀ (d : Nat) (L : List Value) (M : Mem) (Q : Option Value → Mem → Prop), Wp d 99 20 L [] M Q ↔ Wp d 99 22 L [.int (-1000000002)] M Q) ∧
    (∀ (d : Nat) (a : Int32) (L : List Value) (M : Mem) (Q : Option Value → Mem → Prop), Wp d 99 22 L [.int a] M Q ↔ Q (some (.int a)) M) ∧
    (∀ (d : Nat) (x : Nat) (L : List Value) (M : Mem) (Q : Option Value → Mem → Prop), Wp d 99 23 (.ref x :: L) [] M Q ↔ Wp d 99 24 (.ref x :: L) [.ref x] M Q) ∧
    (∀ (d : Nat) (a : Nat) (L : List Value) (M : Mem) (Q : Option Value → Mem → Prop), Wp d 99 24 L [.ref a] M Q ↔ (isK a 11 = true ∧ Wp d 99 27 L [.ref (rt a 3)] M Q)) ∧
    (∀ (d : Nat) (a : Nat) (L : List Value) (M : Mem) (Q : Option Value → Mem → Prop), Wp d 99 27 L [.ref a] M Q ↔ (isK a 9 = true ∧ Wp d 99 30 L [.ref (rt a 1)] M Q)) ∧
    (∀ (d : Nat) (a : Nat) (L : List Value) (M : Mem) (Q : Option Value → Mem → Prop), Wp d 99 30 L [.ref a] M Q ↔ (isK a 6 = true ∧ Wp d 99 33 L [.ref (rt a 2)] M Q)) ∧
    (∀ (d : Nat) (a : Nat) (v0 : Value) (x : Int32) (L : List Value) (M : Mem) (Q : Option Value → Mem → Prop), Wp d 99 33 (v0 :: .int x :: L) [.ref a] M Q ↔ Wp d 99 34 (v0 :: .int x :: L) [.int x, .ref a] M Q) ∧
    (∀ (d : Nat) (a : Int32) (b : Nat) (v0 : Value) (v1 : Value) (x : Int32) (L : List Value) (M : Mem) (Q : Option Value → Mem → Prop), Wp d 99 34 (v0 :: v1 :: .int x :: L) [.int a, .ref b] M Q ↔ Wp d 99 35 (v0 :: v1 :: .int x :: L) [.int x, .int a, .ref b] M Q) ∧
    (∀ (d : Nat) (a : Int32) (b : Int32) (c : Nat) (L : List Value) (M : Mem) (Q : Option Value → Mem → Prop), Wp d 99 35 L [.int a, .int b, .ref c] M Q ↔ Wp d 99 36 L [.int 1, .int a, .int b, .ref c] M Q) ∧
    (∀ (d : Nat) (a : Int32) (b : Int32) (c : Int32) (d2 : Nat) (L : List Value) (M : Mem) (Q : Option Value → Mem → Prop), Wp d 99 36 L [.int a, .int b, .int c, .ref d2] M Q ↔ (if b = a then Wp d 99 39 L [.int c, .ref d2] M Q else Wp d 99 43 L [.int c, .ref d2] M Q)) ∧
    (∀ (d : Nat) (a : Int32) (b : Nat) (L : List Value) (M : Mem) (Q : Option Value → Mem → Prop), Wp d 99 39 L [.int a, .ref b] M Q ↔ Wp d 99 40 L [.int 1, .int a, .ref b] M Q) ∧
    (∀ (d : Nat) (a : Int32) (b : Int32) (c : Nat) (L : List Value) (M : Mem) (Q : Option Value → Mem → Prop), Wp d 99 40 L [.int a, .int b, .ref c] M Q ↔ Wp d 99 44 L [.int a, .int b, .ref c] M Q) ∧
    (∀ (d : Nat) (a : Int32) (b : Nat) (L : List Value) (M : Mem) (Q : Option Value → Mem → Prop), Wp d 99 43 L [.int a, .ref b] M Q ↔ Wp d 99 44 L [.int 0, .int a, .ref b] M Q) ∧
    (∀ (d : Nat) (a : Int32) (b : Int32) (c : Nat) (L : List Value) (M : Mem) (Q : Option Value → Mem → Prop), Wp (d + 1) 99 44 L [.int a, .int b, .ref c] M Q ↔ (isK c 2 = true ∧ Wp d 15 0 [.ref c, .int b, .int a, .null, .null, .null, .null] [] M (fun r M2 => Wp (d + 1) 99 47 L (r.toList ++ []) M2 Q))) ∧
    (∀ (d : Nat) (a : Int32) (L : List Value) (M : Mem) (Q : Option Value → Mem → Prop), Wp d 99 47 L [.int a] M Q ↔ Q (some (.int a)) M) := by
  refine ⟨?_, ?_, ?_, ?_, ?_, ?_, ?_, ?_, ?_, ?_, ?_, ?_, ?_, ?_, ?_, ?_, ?_, ?_, ?_, ?_, ?_, ?_, ?_, ?_, ?_, ?_⟩
  · intro d x L M Q; exact Wp_sim (by decide +kernel : decode (cd 99) 0 = .ok (.aload_n 0, 1)) rfl rfl
  · intro d a v0 x L M Q; exact Wp_sim (by decide +kernel : decode (cd 99) 1 = .ok (.iload_n 1, 1)) rfl rfl
  · intro d a b L M Q; exact q_invV (pz := 516) (n := 1) (c := 11) (m := 2) (k := b) (As := [.int a]) (rest := []) (by decide +kernel : decode (cd 99) 2 = .ok (.invokevirtual 175, 3)) (by decide +kernel) (by decide +kernel) rfl rfl (Nat.le_of_ble_eq_true rfl) (Nat.le_of_ble_eq_true rfl) rfl
  · intro d a L M Q; exact q_zne (by decide +kernel : decode (cd 99) 5 = .ok (.ifCond .ne 6, 3)) (by decide)
  · intro d L M Q; exact q_ldc (p := 505) (by decide +kernel : decode (cd 99) 8 = .ok (.ldc 170, 2)) (by decide +kernel)
  · intro d a L M Q; exact q_iret (by decide +kernel : decode (cd 99) 10 = .ok (.ireturn , 1)) (by decide +kernel)
  · intro d v0 v1 x L M Q; exact Wp_sim (by decide +kernel : decode (cd 99) 11 = .ok (.iload_n 2, 1)) rfl rfl
  · intro d a L M Q; exact q_zlt (by decide +kernel : decode (cd 99) 12 = .ok (.ifCond .lt 8, 3)) (by decide)
  · intro d v0 v1 x L M Q; exact Wp_sim (by decide +kernel : decode (cd 99) 15 = .ok (.iload_n 2, 1)) rfl rfl
  · intro d a L M Q; exact Wp_sim (by decide +kernel : decode (cd 99) 16 = .ok (.iconst 1, 1)) rfl rfl
  · intro d a b L M Q; exact q_ile (by decide +kernel : decode (cd 99) 17 = .ok (.if_icmp .le 6, 3)) (by decide)
  · intro d L M Q; exact q_ldc (p := 339) (by decide +kernel : decode (cd 99) 20 = .ok (.ldc 82, 2)) (by decide +kernel)
  · intro d a L M Q; exact q_iret (by decide +kernel : decode (cd 99) 22 = .ok (.ireturn , 1)) (by decide +kernel)
  · intro d x L M Q; exact Wp_sim (by decide +kernel : decode (cd 99) 23 = .ok (.aload_n 0, 1)) rfl rfl
  · intro d a L M Q; exact q_getR (p := 301) (by decide +kernel : decode (cd 99) 24 = .ok (.getfield 33, 3)) (by decide +kernel) (by decide +kernel)
  · intro d a L M Q; exact q_getR (p := 199) (by decide +kernel : decode (cd 99) 27 = .ok (.getfield 132, 3)) (by decide +kernel) (by decide +kernel)
  · intro d a L M Q; exact q_getR (p := 172) (by decide +kernel : decode (cd 99) 30 = .ok (.getfield 159, 3)) (by decide +kernel) (by decide +kernel)
  · intro d a v0 x L M Q; exact Wp_sim (by decide +kernel : decode (cd 99) 33 = .ok (.iload_n 1, 1)) rfl rfl
  · intro d a b v0 v1 x L M Q; exact Wp_sim (by decide +kernel : decode (cd 99) 34 = .ok (.iload_n 2, 1)) rfl rfl
  · intro d a b c L M Q; exact Wp_sim (by decide +kernel : decode (cd 99) 35 = .ok (.iconst 1, 1)) rfl rfl
  · intro d a b c d2 L M Q; exact q_ine (by decide +kernel : decode (cd 99) 36 = .ok (.if_icmp .ne 7, 3)) (by decide)
  · intro d a b L M Q; exact Wp_sim (by decide +kernel : decode (cd 99) 39 = .ok (.iconst 1, 1)) rfl rfl
  · intro d a b c L M Q; exact q_goto (by decide +kernel : decode (cd 99) 40 = .ok (.goto 4, 3)) (by decide)
  · intro d a b L M Q; exact Wp_sim (by decide +kernel : decode (cd 99) 43 = .ok (.iconst 0, 1)) rfl rfl
  · intro d a b c L M Q; exact q_invV (pz := 749) (n := 2) (c := 2) (m := 7) (k := c) (As := [.int b, .int a]) (rest := []) (by decide +kernel : decode (cd 99) 44 = .ok (.invokevirtual 292, 3)) (by decide +kernel) (by decide +kernel) rfl rfl (Nat.le_of_ble_eq_true rfl) (Nat.le_of_ble_eq_true rfl) rfl
  · intro d a L M Q; exact q_iret (by decide +kernel : decode (cd 99) 47 = .ok (.ireturn , 1)) (by decide +kernel)

/- 100: PalaceYard.quiet -/
set_option maxRecDepth 10000 in
theorem e100 : (∀ (d : Nat) (v0 : Value) (x : Int32) (L : List Value) (M : Mem) (Q : Option Value → Mem → Prop), Wp d 100 0 (v0 :: .int x :: L) [] M Q ↔ Wp d 100 1 (v0 :: .int x :: L) [.int x] M Q) ∧
    (∀ (d : Nat) (a : Int32) (L : List Value) (M : Mem) (Q : Option Value → Mem → Prop), Wp d 100 1 L [.int a] M Q ↔ (if a < 0 then Wp d 100 20 L [] M Q else Wp d 100 4 L [] M Q)) ∧
    (∀ (d : Nat) (v0 : Value) (x : Int32) (L : List Value) (M : Mem) (Q : Option Value → Mem → Prop), Wp d 100 4 (v0 :: .int x :: L) [] M Q ↔ Wp d 100 5 (v0 :: .int x :: L) [.int x] M Q) ∧
    (∀ (d : Nat) (a : Int32) (L : List Value) (M : Mem) (Q : Option Value → Mem → Prop), Wp d 100 5 L [.int a] M Q ↔ Wp d 100 7 L [.int 60, .int a] M Q) ∧
    (∀ (d : Nat) (a : Int32) (b : Int32) (L : List Value) (M : Mem) (Q : Option Value → Mem → Prop), Wp d 100 7 L [.int a, .int b] M Q ↔ (if a < b then Wp d 100 20 L [] M Q else Wp d 100 10 L [] M Q)) ∧
    (∀ (d : Nat) (v0 : Value) (v1 : Value) (x : Int32) (L : List Value) (M : Mem) (Q : Option Value → Mem → Prop), Wp d 100 10 (v0 :: v1 :: .int x :: L) [] M Q ↔ Wp d 100 11 (v0 :: v1 :: .int x :: L) [.int x] M Q) ∧
    (∀ (d : Nat) (a : Int32) (L : List Value) (M : Mem) (Q : Option Value → Mem → Prop), Wp d 100 11 L [.int a] M Q ↔ (if a < 0 then Wp d 100 20 L [] M Q else Wp d 100 14 L [] M Q)) ∧
    (∀ (d : Nat) (v0 : Value) (v1 : Value) (x : Int32) (L : List Value) (M : Mem) (Q : Option Value → Mem → Prop), Wp d 100 14 (v0 :: v1 :: .int x :: L) [] M Q ↔ Wp d 100 15 (v0 :: v1 :: .int x :: L) [.int x] M Q) ∧
    (∀ (d : Nat) (a : Int32) (L : List Value) (M : Mem) (Q : Option Value → Mem → Prop), Wp d 100 15 L [.int a] M Q ↔ Wp d 100 17 L [.int 100, .int a] M Q) ∧
    (∀ (d : Nat) (a : Int32) (b : Int32) (L : List Value) (M : Mem) (Q : Option Value → Mem → Prop), Wp d 100 17 L [.int a, .int b] M Q ↔ (if a < b then Wp d 100 20 L [] M Q else Wp d 100 23 L [] M Q)) ∧
    (∀ (d : Nat) (L : List Value) (M : Mem) (Q : Option Value → Mem → Prop), Wp d 100 20 L [] M Q ↔ Wp d 100 22 L [.int (-1000000002)] M Q) ∧
    (∀ (d : Nat) (a : Int32) (L : List Value) (M : Mem) (Q : Option Value → Mem → Prop), Wp d 100 22 L [.int a] M Q ↔ Q (some (.int a)) M) ∧
    (∀ (d : Nat) (L : List Value) (M : Mem) (Q : Option Value → Mem → Prop), Wp d 100 23 L [] M Q ↔ Wp d 100 26 L [.long 1000000000] M Q) ∧
    (∀ (d : Nat) (a : Int64) (v0 : Value) (v1 : Value) (v2 : Value) (x x2 : Value) (L : List Value) (M : Mem) (Q : Option Value → Mem → Prop), Wp d 100 26 (v0 :: v1 :: v2 :: x :: x2 :: L) [.long a] M Q ↔ Wp d 100 27 (v0 :: v1 :: clr v2 :: .long a :: .null :: L) [] M Q) ∧
    (∀ (d : Nat) (L : List Value) (M : Mem) (Q : Option Value → Mem → Prop), Wp d 100 27 L [] M Q ↔ Wp d 100 28 L [.int 0] M Q) ∧
    (∀ (d : Nat) (a : Int32) (v0 : Value) (v1 : Value) (v2 : Value) (v3 : Value) (v4 : Value) (x : Value) (L : List Value) (M : Mem) (Q : Option Value → Mem → Prop), Wp d 100 28 (v0 :: v1 :: v2 :: v3 :: v4 :: x :: L) [.int a] M Q ↔ Wp d 100 30 (v0 :: v1 :: v2 :: v3 :: clr v4 :: .int a :: L) [] M Q) ∧
    (∀ (d : Nat) (a : Int32) (v0 : Value) (x : Int32) (L : List Value) (M : Mem) (Q : Option Value → Mem → Prop), Wp d 100 32 (v0 :: .int x :: L) [.int a] M Q ↔ Wp d 100 33 (v0 :: .int x :: L) [.int x, .int a] M Q) ∧
    (∀ (d : Nat) (a : Int32) (b : Int32) (L : List Value) (M : Mem) (Q : Option Value → Mem → Prop), Wp d 100 33 L [.int a, .int b] M Q ↔ (if b < a then Wp d 100 36 L [] M Q else Wp d 100 54 L [] M Q)) ∧
    (∀ (d : Nat) (v0 : Value) (v1 : Value) (v2 : Value) (x : Int64) (L : List Value) (M : Mem) (Q : Option Value → Mem → Prop), Wp d 100 36 (v0 :: v1 :: v2 :: .long x :: L) [] M Q ↔ Wp d 100 37 (v0 :: v1 :: v2 :: .long x :: L) [.long x] M Q) ∧
    (∀ (d : Nat) (a : Int64) (L : List Value) (M : Mem) (Q : Option Value → Mem → Prop), Wp d 100 37 L [.long a] M Q ↔ Wp d 100 39 L [.int 100, .long a] M Q) ∧
    (∀ (d : Nat) (a : Int32) (b : Int64) (v0 : Value) (v1 : Value) (x : Int32) (L : List Value) (M : Mem) (Q : Option Value → Mem → Prop), Wp d 100 39 (v0 :: v1 :: .int x :: L) [.int a, .long b] M Q ↔ Wp d 100 40 (v0 :: v1 :: .int x :: L) [.int x, .int a, .long b] M Q) ∧
    (∀ (d : Nat) (a : Int32) (b : Int32) (c : Int64) (L : List Value) (M : Mem) (Q : Option Value → Mem → Prop), Wp d 100 40 L [.int a, .int b, .long c] M Q ↔ Wp d 100 41 L [.int (b - a), .long c] M Q) ∧
    (∀ (d : Nat) (a : Int32) (b : Int64) (L : List Value) (M : Mem) (Q : Option Value → Mem → Prop), Wp d 100 41 L [.int a, .long b] M Q ↔ Wp d 100 42 L [.long a.toInt64, .long b] M Q) ∧
    (∀ (d : Nat) (a : Int64) (b : Int64) (L : List Value) (M : Mem) (Q : Option Value → Mem → Prop), Wp d 100 42 L [.long a, .long b] M Q ↔ Wp d 100 43 L [.long (b * a)] M Q) ∧
    (∀ (d : Nat) (a : Int64) (L : List Value) (M : Mem) (Q : Option Value → Mem → Prop), Wp d 100 43 L [.long a] M Q ↔ Wp d 100 46 L [.long 100, .long a] M Q) ∧
    (∀ (d : Nat) (a : Int64) (b : Int64) (L : List Value) (M : Mem) (Q : Option Value → Mem → Prop), Wp d 100 46 L [.long a, .long b] M Q ↔ (¬ a = 0 ∧ Wp d 100 47 L [.long (b / a)] M Q)) ∧
    (∀ (d : Nat) (a : Int64) (v0 : Value) (v1 : Value) (v2 : Value) (x x2 : Value) (L : List Value) (M : Mem) (Q : Option Value → Mem → Prop), Wp d 100 47 (v0 :: v1 :: v2 :: x :: x2 :: L) [.long a] M Q ↔ Wp d 100 48 (v0 :: v1 :: clr v2 :: .long a :: .null :: L) [] M Q) ∧
    (∀ (d : Nat) (v0 : Value) (v1 : Value) (v2 : Value) (v3 : Value) (v4 : Value) (x : Int32) (L : List Value) (M : Mem) (Q : Option Value → Mem → Prop), Wp d 100 48 (v0 :: v1 :: v2 :: v3 :: v4 :: .int x :: L) [] M Q ↔ Wp d 100 51 (v0 :: v1 :: v2 :: v3 :: clr v4 :: .int (x + 1) :: L) [] M Q) ∧
    (∀ (d : Nat) (L : List Value) (M : Mem) (Q : Option Value → Mem → Prop), Wp d 100 51 L [] M Q ↔ Wp d 100 30 L [] M Q) ∧
    (∀ (d : Nat) (v0 : Value) (v1 : Value) (v2 : Value) (x : Int64) (L : List Value) (M : Mem) (Q : Option Value → Mem → Prop), Wp d 100 54 (v0 :: v1 :: v2 :: .long x :: L) [] M Q ↔ Wp d 100 55 (v0 :: v1 :: v2 :: .long x :: L) [.long x] M Q) ∧
    (∀ (d : Nat) (a : Int64) (L : List Value) (M : Mem) (Q : Option Value → Mem → Prop), Wp d 100 55 L [.long a] M Q ↔ Wp d 100 56 L [.int a.toInt32] M Q) ∧
    (∀ (d : Nat) (a : Int32) (L : List Value) (M : Mem) (Q : Option Value → Mem → Prop), Wp d 100 56 L [.int a] M Q ↔ Q (some (.int a)) M) := by
  refine ⟨?_, ?_, ?_, ?_, ?_, ?_, ?_, ?_, ?_, ?_, ?_, ?_, ?_, ?_, ?_, ?_, ?_, ?_, ?_, ?_, ?_, ?_, ?_, ?_, ?_, ?_, ?_, ?_, ?_, ?_, ?_, ?_⟩
  · intro d v0 x L M Q; exact Wp_sim (by decide +kernel : decode (cd 100) 0 = .ok (.iload_n 1, 1)) rfl rfl
  · intro d a L M Q; exact q_zlt (by decide +kernel : decode (cd 100) 1 = .ok (.ifCond .lt 19, 3)) (by decide)
  · intro d v0 x L M Q; exact Wp_sim (by decide +kernel : decode (cd 100) 4 = .ok (.iload_n 1, 1)) rfl rfl
  · intro d a L M Q; exact Wp_sim (by decide +kernel : decode (cd 100) 5 = .ok (.bipush 60, 2)) rfl rfl
  · intro d a b L M Q; exact q_igt (by decide +kernel : decode (cd 100) 7 = .ok (.if_icmp .gt 13, 3)) (by decide)
  · intro d v0 v1 x L M Q; exact Wp_sim (by decide +kernel : decode (cd 100) 10 = .ok (.iload_n 2, 1)) rfl rfl
  · intro d a L M Q; exact q_zlt (by decide +kernel : decode (cd 100) 11 = .ok (.ifCond .lt 9, 3)) (by decide)
  · intro d v0 v1 x L M Q; exact Wp_sim (by decide +kernel : decode (cd 100) 14 = .ok (.iload_n 2, 1)) rfl rfl
  · intro d a L M Q; exact Wp_sim (by decide +kernel : decode (cd 100) 15 = .ok (.bipush 100, 2)) rfl rfl
  · intro d a b L M Q; exact q_ile (by decide +kernel : decode (cd 100) 17 = .ok (.if_icmp .le 6, 3)) (by decide)
  · intro d L M Q; exact q_ldc (p := 339) (by decide +kernel : decode (cd 100) 20 = .ok (.ldc 82, 2)) (by decide +kernel)
  · intro d a L M Q; exact q_iret (by decide +kernel : decode (cd 100) 22 = .ok (.ireturn , 1)) (by decide +kernel)
  · intro d L M Q; exact q_ldc2 (p := 762) (by decide +kernel : decode (cd 100) 23 = .ok (.ldc2_w 296, 3)) (by decide +kernel)
  · intro d a v0 v1 v2 x x2 L M Q; exact Wp_sim (by decide +kernel : decode (cd 100) 26 = .ok (.lstore_n 3, 1)) rfl rfl
  · intro d L M Q; exact Wp_sim (by decide +kernel : decode (cd 100) 27 = .ok (.iconst 0, 1)) rfl rfl
  · intro d a v0 v1 v2 v3 v4 x L M Q; exact Wp_sim (by decide +kernel : decode (cd 100) 28 = .ok (.istore 5, 2)) rfl rfl
  · intro d a v0 x L M Q; exact Wp_sim (by decide +kernel : decode (cd 100) 32 = .ok (.iload_n 1, 1)) rfl rfl
  · intro d a b L M Q; exact q_ige (by decide +kernel : decode (cd 100) 33 = .ok (.if_icmp .ge 21, 3)) (by decide)
  · intro d v0 v1 v2 x L M Q; exact Wp_sim (by decide +kernel : decode (cd 100) 36 = .ok (.lload_n 3, 1)) rfl rfl
  · intro d a L M Q; exact Wp_sim (by decide +kernel : decode (cd 100) 37 = .ok (.bipush 100, 2)) rfl rfl
  · intro d a b v0 v1 x L M Q; exact Wp_sim (by decide +kernel : decode (cd 100) 39 = .ok (.iload_n 2, 1)) rfl rfl
  · intro d a b c L M Q; exact Wp_sim (by decide +kernel : decode (cd 100) 40 = .ok (.isub , 1)) rfl rfl
  · intro d a b L M Q; exact Wp_sim (by decide +kernel : decode (cd 100) 41 = .ok (.i2l , 1)) rfl rfl
  · intro d a b L M Q; exact Wp_sim (by decide +kernel : decode (cd 100) 42 = .ok (.lmul , 1)) rfl rfl
  · intro d a L M Q; exact q_ldc2 (p := 763) (by decide +kernel : decode (cd 100) 43 = .ok (.ldc2_w 298, 3)) (by decide +kernel)
  · intro d a b L M Q; exact q_ldiv (by decide +kernel : decode (cd 100) 46 = .ok (.ldiv , 1))
  · intro d a v0 v1 v2 x x2 L M Q; exact Wp_sim (by decide +kernel : decode (cd 100) 47 = .ok (.lstore_n 3, 1)) rfl rfl
  · intro d v0 v1 v2 v3 v4 x L M Q; exact Wp_sim (by decide +kernel : decode (cd 100) 48 = .ok (.iinc 5 1, 3)) rfl rfl
  · intro d L M Q; exact q_goto (by decide +kernel : decode (cd 100) 51 = .ok (.goto (-21), 3)) (by decide)
  · intro d v0 v1 v2 x L M Q; exact Wp_sim (by decide +kernel : decode (cd 100) 54 = .ok (.lload_n 3, 1)) rfl rfl
  · intro d a L M Q; exact Wp_sim (by decide +kernel : decode (cd 100) 55 = .ok (.l2i , 1)) rfl rfl
  · intro d a L M Q; exact q_iret (by decide +kernel : decode (cd 100) 56 = .ok (.ireturn , 1)) (by decide +kernel)
theorem h100_30 : (∀ (d : Nat) (v0 : Value) (v1 : Value) (v2 : Value) (v3 : Value) (v4 : Value) (x : Int32) (L : List Value) (M : Mem) (Q : Option Value → Mem → Prop), Wp d 100 30 (v0 :: v1 :: v2 :: v3 :: v4 :: .int x :: L) [] M Q ↔ Wp d 100 32 (v0 :: v1 :: v2 :: v3 :: v4 :: .int x :: L) [.int x] M Q) := by
  intro d v0 v1 v2 v3 v4 x L M Q; exact Wp_sim (by decide +kernel : decode (cd 100) 30 = .ok (.iload 5, 2)) rfl rfl

/- 101: PalaceYard.hat -/
set_option maxRecDepth 10000 in
theorem e101 : (∀ (d : Nat) (v0 : Value) (x : Int32) (L : List Value) (M : Mem) (Q : Option Value → Mem → Prop), Wp d 101 0 (v0 :: .int x :: L) [] M Q ↔ Wp d 101 1 (v0 :: .int x :: L) [.int x] M Q) ∧
    (∀ (d : Nat) (a : Int32) (L : List Value) (M : Mem) (Q : Option Value → Mem → Prop), Wp d 101 1 L [.int a] M Q ↔ (if a < 0 then Wp d 101 10 L [] M Q else Wp d 101 4 L [] M Q)) ∧
    (∀ (d : Nat) (v0 : Value) (x : Int32) (L : List Value) (M : Mem) (Q : Option Value → Mem → Prop), Wp d 101 4 (v0 :: .int x :: L) [] M Q ↔ Wp d 101 5 (v0 :: .int x :: L) [.int x] M Q) ∧
    (∀ (d : Nat) (a : Int32) (L : List Value) (M : Mem) (Q : Option Value → Mem → Prop), Wp d 101 5 L [.int a] M Q ↔ Wp d 101 7 L [.int 60, .int a] M Q) ∧
    (∀ (d : Nat) (a : Int32) (b : Int32) (L : List Value) (M : Mem) (Q : Option Value → Mem → Prop), Wp d 101 7 L [.int a, .int b] M Q ↔ (if a < b then Wp d 101 10 L [] M Q else Wp d 101 13 L [] M Q)) ∧
    (∀ (d : Nat) (L : List Value) (M : Mem) (Q : Option Value → Mem → Prop), Wp d 101 10 L [] M Q ↔ Wp d 101 12 L [.int (-1000000002)] M Q) ∧
    (∀ (d : Nat) (a : Int32) (L : List Value) (M : Mem) (Q : Option Value → Mem → Prop), Wp d 101 12 L [.int a] M Q ↔ Q (some (.int a)) M) ∧
    (∀ (d : Nat) (x : Nat) (L : List Value) (M : Mem) (Q : Option Value → Mem → Prop), Wp d 101 13 (.ref x :: L) [] M Q ↔ Wp d 101 14 (.ref x :: L) [.ref x] M Q) ∧
    (∀ (d : Nat) (a : Nat) (L : List Value) (M : Mem) (Q : Option Value → Mem → Prop), Wp d 101 14 L [.ref a] M Q ↔ (isK a 11 = true ∧ Wp d 101 17 L [.ref (rt a 8)] M Q)) ∧
    (∀ (d : Nat) (a : Nat) (L : List Value) (M : Mem) (Q : Option Value → Mem → Prop), Wp d 101 17 L [.ref a] M Q ↔ (isK a 3 = true ∧ Wp d 101 20 L [.int (M a 0)] M Q)) ∧
    (∀ (d : Nat) (a : Int32) (L : List Value) (M : Mem) (Q : Option Value → Mem → Prop), Wp d 101 20 L [.int a] M Q ↔ Wp d 101 22 L [.int 6, .int a] M Q) ∧
    (∀ (d : Nat) (a : Int32) (b : Int32) (L : List Value) (M : Mem) (Q : Option Value → Mem → Prop), Wp d 101 22 L [.int a, .int b] M Q ↔ (if b < a then Wp d 101 28 L [] M Q else Wp d 101 25 L [] M Q)) ∧
    (∀ (d : Nat) (L : List Value) (M : Mem) (Q : Option Value → Mem → Prop), Wp d 101 25 L [] M Q ↔ Wp d 101 27 L [.int (-1000000004)] M Q) ∧
    (∀ (d : Nat) (a : Int32) (L : List Value) (M : Mem) (Q : Option Value → Mem → Prop), Wp d 101 27 L [.int a] M Q ↔ Q (some (.int a)) M) ∧
    (∀ (d : Nat) (x : Nat) (L : List Value) (M : Mem) (Q : Option Value → Mem → Prop), Wp d 101 28 (.ref x :: L) [] M Q ↔ Wp d 101 29 (.ref x :: L) [.ref x] M Q) ∧
    (∀ (d : Nat) (a : Nat) (L : List Value) (M : Mem) (Q : Option Value → Mem → Prop), Wp d 101 29 L [.ref a] M Q ↔ (isK a 11 = true ∧ Wp d 101 32 L [.ref (rt a 8)] M Q)) ∧
    (∀ (d : Nat) (a : Nat) (v0 : Value) (x : Int32) (L : List Value) (M : Mem) (Q : Option Value → Mem → Prop), Wp d 101 32 (v0 :: .int x :: L) [.ref a] M Q ↔ Wp d 101 33 (v0 :: .int x :: L) [.int x, .ref a] M Q) ∧
    (∀ (d : Nat) (a : Int32) (b : Nat) (v0 : Value) (v1 : Value) (x : Int32) (L : List Value) (M : Mem) (Q : Option Value → Mem → Prop), Wp d 101 33 (v0 :: v1 :: .int x :: L) [.int a, .ref b] M Q ↔ Wp d 101 34 (v0 :: v1 :: .int x :: L) [.int x, .int a, .ref b] M Q) ∧
    (∀ (d : Nat) (a : Int32) (b : Int32) (c : Nat) (L : List Value) (M : Mem) (Q : Option Value → Mem → Prop), Wp (d + 1) 101 34 L [.int a, .int b, .ref c] M Q ↔ (isK c 3 = true ∧ Wp d 18 0 [.ref c, .int b, .int a] [] M (fun r M2 => Wp (d + 1) 101 37 L (r.toList ++ []) M2 Q))) ∧
    (∀ (d : Nat) (x : Nat) (L : List Value) (M : Mem) (Q : Option Value → Mem → Prop), Wp d 101 37 (.ref x :: L) [] M Q ↔ Wp d 101 38 (.ref x :: L) [.ref x] M Q) ∧
    (∀ (d : Nat) (a : Nat) (L : List Value) (M : Mem) (Q : Option Value → Mem → Prop), Wp d 101 38 L [.ref a] M Q ↔ (isK a 11 = true ∧ Wp d 101 41 L [.ref (rt a 8)] M Q)) ∧
    (∀ (d : Nat) (a : Nat) (L : List Value) (M : Mem) (Q : Option Value → Mem → Prop), Wp d 101 41 L [.ref a] M Q ↔ (isK a 3 = true ∧ Wp d 101 44 L [.int (M a 0)] M Q)) ∧
    (∀ (d : Nat) (a : Int32) (L : List Value) (M : Mem) (Q : Option Value → Mem → Prop), Wp d 101 44 L [.int a] M Q ↔ Q (some (.int a)) M) := by
  refine ⟨?_, ?_, ?_, ?_, ?_, ?_, ?_, ?_, ?_, ?_, ?_, ?_, ?_, ?_, ?_, ?_, ?_, ?_, ?_, ?_, ?_, ?_, ?_⟩
  · intro d v0 x L M Q; exact Wp_sim (by decide +kernel : decode (cd 101) 0 = .ok (.iload_n 1, 1)) rfl rfl
  · intro d a L M Q; exact q_zlt (by decide +kernel : decode (cd 101) 1 = .ok (.ifCond .lt 9, 3)) (by decide)
  · intro d v0 x L M Q; exact Wp_sim (by decide +kernel : decode (cd 101) 4 = .ok (.iload_n 1, 1)) rfl rfl
  · intro d a L M Q; exact Wp_sim (by decide +kernel : decode (cd 101) 5 = .ok (.bipush 60, 2)) rfl rfl
  · intro d a b L M Q; exact q_ile (by decide +kernel : decode (cd 101) 7 = .ok (.if_icmp .le 6, 3)) (by decide)
  · intro d L M Q; exact q_ldc (p := 339) (by decide +kernel : decode (cd 101) 10 = .ok (.ldc 82, 2)) (by decide +kernel)
  · intro d a L M Q; exact q_iret (by decide +kernel : decode (cd 101) 12 = .ok (.ireturn , 1)) (by decide +kernel)
  · intro d x L M Q; exact Wp_sim (by decide +kernel : decode (cd 101) 13 = .ok (.aload_n 0, 1)) rfl rfl
  · intro d a L M Q; exact q_getR (p := 306) (by decide +kernel : decode (cd 101) 14 = .ok (.getfield 64, 3)) (by decide +kernel) (by decide +kernel)
  · intro d a L M Q; exact q_getI (p := 269) (by decide +kernel : decode (cd 101) 17 = .ok (.getfield 168, 3)) (by decide +kernel) (by decide +kernel)
  · intro d a L M Q; exact Wp_sim (by decide +kernel : decode (cd 101) 20 = .ok (.bipush 6, 2)) rfl rfl
  · intro d a b L M Q; exact q_ilt (by decide +kernel : decode (cd 101) 22 = .ok (.if_icmp .lt 6, 3)) (by decide)
  · intro d L M Q; exact q_ldc (p := 340) (by decide +kernel : decode (cd 101) 25 = .ok (.ldc 86, 2)) (by decide +kernel)
  · intro d a L M Q; exact q_iret (by decide +kernel : decode (cd 101) 27 = .ok (.ireturn , 1)) (by decide +kernel)
  · intro d x L M Q; exact Wp_sim (by decide +kernel : decode (cd 101) 28 = .ok (.aload_n 0, 1)) rfl rfl
  · intro d a L M Q; exact q_getR (p := 306) (by decide +kernel : decode (cd 101) 29 = .ok (.getfield 64, 3)) (by decide +kernel) (by decide +kernel)
  · intro d a v0 x L M Q; exact Wp_sim (by decide +kernel : decode (cd 101) 32 = .ok (.iload_n 1, 1)) rfl rfl
  · intro d a b v0 v1 x L M Q; exact Wp_sim (by decide +kernel : decode (cd 101) 33 = .ok (.iload_n 2, 1)) rfl rfl
  · intro d a b c L M Q; exact q_invV (pz := 768) (n := 2) (c := 3) (m := 3) (k := c) (As := [.int b, .int a]) (rest := []) (by decide +kernel : decode (cd 101) 34 = .ok (.invokevirtual 300, 3)) (by decide +kernel) (by decide +kernel) rfl rfl (Nat.le_of_ble_eq_true rfl) (Nat.le_of_ble_eq_true rfl) rfl
  · intro d x L M Q; exact Wp_sim (by decide +kernel : decode (cd 101) 37 = .ok (.aload_n 0, 1)) rfl rfl
  · intro d a L M Q; exact q_getR (p := 306) (by decide +kernel : decode (cd 101) 38 = .ok (.getfield 64, 3)) (by decide +kernel) (by decide +kernel)
  · intro d a L M Q; exact q_getI (p := 269) (by decide +kernel : decode (cd 101) 41 = .ok (.getfield 168, 3)) (by decide +kernel) (by decide +kernel)
  · intro d a L M Q; exact q_iret (by decide +kernel : decode (cd 101) 44 = .ok (.ireturn , 1)) (by decide +kernel)

/- 102: PalaceYard.over -/
set_option maxRecDepth 10000 in
theorem e102 : (∀ (d : Nat) (v0 : Value) (x : Int32) (L : List Value) (M : Mem) (Q : Option Value → Mem → Prop), Wp d 102 0 (v0 :: .int x :: L) [] M Q ↔ Wp d 102 1 (v0 :: .int x :: L) [.int x] M Q) ∧
    (∀ (d : Nat) (a : Int32) (L : List Value) (M : Mem) (Q : Option Value → Mem → Prop), Wp d 102 1 L [.int a] M Q ↔ (if a < 0 then Wp d 102 9 L [] M Q else Wp d 102 4 L [] M Q)) ∧
    (∀ (d : Nat) (v0 : Value) (x : Int32) (L : List Value) (M : Mem) (Q : Option Value → Mem → Prop), Wp d 102 4 (v0 :: .int x :: L) [] M Q ↔ Wp d 102 5 (v0 :: .int x :: L) [.int x] M Q) ∧
    (∀ (d : Nat) (a : Int32) (L : List Value) (M : Mem) (Q : Option Value → Mem → Prop), Wp d 102 5 L [.int a] M Q ↔ Wp d 102 6 L [.int 2, .int a] M Q) ∧
    (∀ (d : Nat) (a : Int32) (b : Int32) (L : List Value) (M : Mem) (Q : Option Value → Mem → Prop), Wp d 102 6 L [.int a, .int b] M Q ↔ (if a < b then Wp d 102 9 L [] M Q else Wp d 102 12 L [] M Q)) ∧
    (∀ (d : Nat) (L : List Value) (M : Mem) (Q : Option Value → Mem → Prop), Wp d 102 9 L [] M Q ↔ Wp d 102 11 L [.int (-1000000002)] M Q) ∧
    (∀ (d : Nat) (a : Int32) (L : List Value) (M : Mem) (Q : Option Value → Mem → Prop), Wp d 102 11 L [.int a] M Q ↔ Q (some (.int a)) M) ∧
    (∀ (d : Nat) (v0 : Value) (x : Int32) (L : List Value) (M : Mem) (Q : Option Value → Mem → Prop), Wp d 102 12 (v0 :: .int x :: L) [] M Q ↔ Wp d 102 13 (v0 :: .int x :: L) [.int x] M Q) ∧
    (∀ (d : Nat) (a : Int32) (L : List Value) (M : Mem) (Q : Option Value → Mem → Prop), Wp d 102 13 L [.int a] M Q ↔ (if a = 0 then Wp d 102 16 L [] M Q else Wp d 102 24 L [] M Q)) ∧
    (∀ (d : Nat) (x : Nat) (L : List Value) (M : Mem) (Q : Option Value → Mem → Prop), Wp d 102 16 (.ref x :: L) [] M Q ↔ Wp d 102 17 (.ref x :: L) [.ref x] M Q) ∧
    (∀ (d : Nat) (a : Nat) (L : List Value) (M : Mem) (Q : Option Value → Mem → Prop), Wp d 102 17 L [.ref a] M Q ↔ (isK a 11 = true ∧ Wp d 102 20 L [.ref (rt a 8)] M Q)) ∧
    (∀ (d : Nat) (a : Nat) (L : List Value) (M : Mem) (Q : Option Value → Mem → Prop), Wp (d + 1) 102 20 L [.ref a] M Q ↔ (isK a 3 = true ∧ Wp d 19 0 [.ref a] [] M (fun r M2 => Wp (d + 1) 102 23 L (r.toList ++ []) M2 Q))) ∧
    (∀ (d : Nat) (a : Int32) (L : List Value) (M : Mem) (Q : Option Value → Mem → Prop), Wp d 102 23 L [.int a] M Q ↔ Q (some (.int a)) M) ∧
    (∀ (d : Nat) (x : Nat) (L : List Value) (M : Mem) (Q : Option Value → Mem → Prop), Wp d 102 24 (.ref x :: L) [] M Q ↔ Wp d 102 25 (.ref x :: L) [.ref x] M Q) ∧
    (∀ (d : Nat) (a : Nat) (L : List Value) (M : Mem) (Q : Option Value → Mem → Prop), Wp d 102 25 L [.ref a] M Q ↔ (isK a 11 = true ∧ Wp d 102 28 L [.ref (rt a 8)] M Q)) ∧
    (∀ (d : Nat) (a : Nat) (L : List Value) (M : Mem) (Q : Option Value → Mem → Prop), Wp (d + 1) 102 28 L [.ref a] M Q ↔ (isK a 3 = true ∧ Wp d 19 0 [.ref a] [] M (fun r M2 => Wp (d + 1) 102 31 L (r.toList ++ []) M2 Q))) ∧
    (∀ (d : Nat) (a : Int32) (L : List Value) (M : Mem) (Q : Option Value → Mem → Prop), Wp d 102 31 L [.int a] M Q ↔ (if a = 0 then Wp d 102 34 L [] M Q else Wp d 102 36 L [] M Q)) ∧
    (∀ (d : Nat) (L : List Value) (M : Mem) (Q : Option Value → Mem → Prop), Wp d 102 34 L [] M Q ↔ Wp d 102 35 L [.int (-1)] M Q) ∧
    (∀ (d : Nat) (a : Int32) (L : List Value) (M : Mem) (Q : Option Value → Mem → Prop), Wp d 102 35 L [.int a] M Q ↔ Q (some (.int a)) M) ∧
    (∀ (d : Nat) (v0 : Value) (x : Int32) (L : List Value) (M : Mem) (Q : Option Value → Mem → Prop), Wp d 102 36 (v0 :: .int x :: L) [] M Q ↔ Wp d 102 37 (v0 :: .int x :: L) [.int x] M Q) ∧
    (∀ (d : Nat) (a : Int32) (L : List Value) (M : Mem) (Q : Option Value → Mem → Prop), Wp d 102 37 L [.int a] M Q ↔ Wp d 102 38 L [.int 1, .int a] M Q) ∧
    (∀ (d : Nat) (a : Int32) (b : Int32) (L : List Value) (M : Mem) (Q : Option Value → Mem → Prop), Wp d 102 38 L [.int a, .int b] M Q ↔ (if b = a then Wp d 102 41 L [] M Q else Wp d 102 51 L [] M Q)) ∧
    (∀ (d : Nat) (x : Nat) (L : List Value) (M : Mem) (Q : Option Value → Mem → Prop), Wp d 102 41 (.ref x :: L) [] M Q ↔ Wp d 102 42 (.ref x :: L) [.ref x] M Q) ∧
    (∀ (d : Nat) (a : Nat) (L : List Value) (M : Mem) (Q : Option Value → Mem → Prop), Wp d 102 42 L [.ref a] M Q ↔ (isK a 11 = true ∧ Wp d 102 45 L [.ref (rt a 8)] M Q)) ∧
    (∀ (d : Nat) (a : Nat) (L : List Value) (M : Mem) (Q : Option Value → Mem → Prop), Wp d 102 45 L [.ref a] M Q ↔ (isK a 3 = true ∧ Wp d 102 48 L [.int (M a 1)] M Q)) ∧
    (∀ (d : Nat) (a : Int32) (L : List Value) (M : Mem) (Q : Option Value → Mem → Prop), Wp d 102 48 L [.int a] M Q ↔ Wp d 102 58 L [.int a] M Q) ∧
    (∀ (d : Nat) (x : Nat) (L : List Value) (M : Mem) (Q : Option Value → Mem → Prop), Wp d 102 51 (.ref x :: L) [] M Q ↔ Wp d 102 52 (.ref x :: L) [.ref x] M Q) ∧
    (∀ (d : Nat) (a : Nat) (L : List Value) (M : Mem) (Q : Option Value → Mem → Prop), Wp d 102 52 L [.ref a] M Q ↔ (isK a 11 = true ∧ Wp d 102 55 L [.ref (rt a 8)] M Q)) ∧
    (∀ (d : Nat) (a : Nat) (L : List Value) (M : Mem) (Q : Option Value → Mem → Prop), Wp d 102 55 L [.ref a] M Q ↔ (isK a 3 = true ∧ Wp d 102 58 L [.int (M a 2)] M Q)) ∧
    (∀ (d : Nat) (a : Int32) (L : List Value) (M : Mem) (Q : Option Value → Mem → Prop), Wp d 102 58 L [.int a] M Q ↔ Q (some (.int a)) M) := by
  refine ⟨?_, ?_, ?_, ?_, ?_, ?_, ?_, ?_, ?_, ?_, ?_, ?_, ?_, ?_, ?_, ?_, ?_, ?_, ?_, ?_, ?_, ?_, ?_, ?_, ?_, ?_, ?_, ?_, ?_, ?_⟩
  · intro d v0 x L M Q; exact Wp_sim (by decide +kernel : decode (cd 102) 0 = .ok (.iload_n 1, 1)) rfl rfl
  · intro d a L M Q; exact q_zlt (by decide +kernel : decode (cd 102) 1 = .ok (.ifCond .lt 8, 3)) (by decide)
  · intro d v0 x L M Q; exact Wp_sim (by decide +kernel : decode (cd 102) 4 = .ok (.iload_n 1, 1)) rfl rfl
  · intro d a L M Q; exact Wp_sim (by decide +kernel : decode (cd 102) 5 = .ok (.iconst 2, 1)) rfl rfl
  · intro d a b L M Q; exact q_ile (by decide +kernel : decode (cd 102) 6 = .ok (.if_icmp .le 6, 3)) (by decide)
  · intro d L M Q; exact q_ldc (p := 339) (by decide +kernel : decode (cd 102) 9 = .ok (.ldc 82, 2)) (by decide +kernel)
  · intro d a L M Q; exact q_iret (by decide +kernel : decode (cd 102) 11 = .ok (.ireturn , 1)) (by decide +kernel)
  · intro d v0 x L M Q; exact Wp_sim (by decide +kernel : decode (cd 102) 12 = .ok (.iload_n 1, 1)) rfl rfl
  · intro d a L M Q; exact q_zne (by decide +kernel : decode (cd 102) 13 = .ok (.ifCond .ne 11, 3)) (by decide)
  · intro d x L M Q; exact Wp_sim (by decide +kernel : decode (cd 102) 16 = .ok (.aload_n 0, 1)) rfl rfl
  · intro d a L M Q; exact q_getR (p := 306) (by decide +kernel : decode (cd 102) 17 = .ok (.getfield 64, 3)) (by decide +kernel) (by decide +kernel)
  · intro d a L M Q; exact q_invV (pz := 778) (n := 0) (c := 3) (m := 1) (k := a) (As := []) (rest := []) (by decide +kernel : decode (cd 102) 20 = .ok (.invokevirtual 303, 3)) (by decide +kernel) (by decide +kernel) rfl rfl (Nat.le_of_ble_eq_true rfl) (Nat.le_of_ble_eq_true rfl) rfl
  · intro d a L M Q; exact q_iret (by decide +kernel : decode (cd 102) 23 = .ok (.ireturn , 1)) (by decide +kernel)
  · intro d x L M Q; exact Wp_sim (by decide +kernel : decode (cd 102) 24 = .ok (.aload_n 0, 1)) rfl rfl
  · intro d a L M Q; exact q_getR (p := 306) (by decide +kernel : decode (cd 102) 25 = .ok (.getfield 64, 3)) (by decide +kernel) (by decide +kernel)
  · intro d a L M Q; exact q_invV (pz := 778) (n := 0) (c := 3) (m := 1) (k := a) (As := []) (rest := []) (by decide +kernel : decode (cd 102) 28 = .ok (.invokevirtual 303, 3)) (by decide +kernel) (by decide +kernel) rfl rfl (Nat.le_of_ble_eq_true rfl) (Nat.le_of_ble_eq_true rfl) rfl
  · intro d a L M Q; exact q_zne (by decide +kernel : decode (cd 102) 31 = .ok (.ifCond .ne 5, 3)) (by decide)
  · intro d L M Q; exact Wp_sim (by decide +kernel : decode (cd 102) 34 = .ok (.iconst (-1), 1)) rfl rfl
  · intro d a L M Q; exact q_iret (by decide +kernel : decode (cd 102) 35 = .ok (.ireturn , 1)) (by decide +kernel)
  · intro d v0 x L M Q; exact Wp_sim (by decide +kernel : decode (cd 102) 36 = .ok (.iload_n 1, 1)) rfl rfl
  · intro d a L M Q; exact Wp_sim (by decide +kernel : decode (cd 102) 37 = .ok (.iconst 1, 1)) rfl rfl
  · intro d a b L M Q; exact q_ine (by decide +kernel : decode (cd 102) 38 = .ok (.if_icmp .ne 13, 3)) (by decide)
  · intro d x L M Q; exact Wp_sim (by decide +kernel : decode (cd 102) 41 = .ok (.aload_n 0, 1)) rfl rfl
  · intro d a L M Q; exact q_getR (p := 306) (by decide +kernel : decode (cd 102) 42 = .ok (.getfield 64, 3)) (by decide +kernel) (by decide +kernel)
  · intro d a L M Q; exact q_getI (p := 271) (by decide +kernel : decode (cd 102) 45 = .ok (.getfield 306, 3)) (by decide +kernel) (by decide +kernel)
  · intro d a L M Q; exact q_goto (by decide +kernel : decode (cd 102) 48 = .ok (.goto 10, 3)) (by decide)
  · intro d x L M Q; exact Wp_sim (by decide +kernel : decode (cd 102) 51 = .ok (.aload_n 0, 1)) rfl rfl
  · intro d a L M Q; exact q_getR (p := 306) (by decide +kernel : decode (cd 102) 52 = .ok (.getfield 64, 3)) (by decide +kernel) (by decide +kernel)
  · intro d a L M Q; exact q_getI (p := 273) (by decide +kernel : decode (cd 102) 55 = .ok (.getfield 309, 3)) (by decide +kernel) (by decide +kernel)
  · intro d a L M Q; exact q_iret (by decide +kernel : decode (cd 102) 58 = .ok (.ireturn , 1)) (by decide +kernel)

/- 103: PalaceYard.look -/
set_option maxRecDepth 10000 in
theorem e103 : (∀ (d : Nat) (x : Nat) (L : List Value) (M : Mem) (Q : Option Value → Mem → Prop), Wp d 103 0 (.ref x :: L) [] M Q ↔ Wp d 103 1 (.ref x :: L) [.ref x] M Q) ∧
    (∀ (d : Nat) (a : Nat) (L : List Value) (M : Mem) (Q : Option Value → Mem → Prop), Wp d 103 1 L [.ref a] M Q ↔ (isK a 11 = true ∧ Wp d 103 4 L [.ref (rt a 8)] M Q)) ∧
    (∀ (d : Nat) (a : Nat) (L : List Value) (M : Mem) (Q : Option Value → Mem → Prop), Wp (d + 1) 103 4 L [.ref a] M Q ↔ (isK a 3 = true ∧ Wp d 20 0 [.ref a, .null] [] M (fun r M2 => Wp (d + 1) 103 7 L (r.toList ++ []) M2 Q))) ∧
    (∀ (d : Nat) (a : Int32) (L : List Value) (M : Mem) (Q : Option Value → Mem → Prop), Wp d 103 7 L [.int a] M Q ↔ Q (some (.int a)) M) := by
  refine ⟨?_, ?_, ?_, ?_⟩
  · intro d x L M Q; exact Wp_sim (by decide +kernel : decode (cd 103) 0 = .ok (.aload_n 0, 1)) rfl rfl
  · intro d a L M Q; exact q_getR (p := 306) (by decide +kernel : decode (cd 103) 1 = .ok (.getfield 64, 3)) (by decide +kernel) (by decide +kernel)
  · intro d a L M Q; exact q_invV (pz := 786) (n := 0) (c := 3) (m := 2) (k := a) (As := []) (rest := []) (by decide +kernel : decode (cd 103) 4 = .ok (.invokevirtual 312, 3)) (by decide +kernel) (by decide +kernel) rfl rfl (Nat.le_of_ble_eq_true rfl) (Nat.le_of_ble_eq_true rfl) rfl
  · intro d a L M Q; exact q_iret (by decide +kernel : decode (cd 103) 7 = .ok (.ireturn , 1)) (by decide +kernel)

/- 104: PalaceYard.write -/
set_option maxRecDepth 10000 in
theorem e104 : (∀ (d : Nat) (x : Nat) (L : List Value) (M : Mem) (Q : Option Value → Mem → Prop), Wp d 104 0 (.ref x :: L) [] M Q ↔ Wp d 104 1 (.ref x :: L) [.ref x] M Q) ∧
    (∀ (d : Nat) (a : Nat) (v0 : Value) (x : Int32) (L : List Value) (M : Mem) (Q : Option Value → Mem → Prop), Wp d 104 1 (v0 :: .int x :: L) [.ref a] M Q ↔ Wp d 104 2 (v0 :: .int x :: L) [.int x, .ref a] M Q) ∧
    (∀ (d : Nat) (a : Int32) (b : Nat) (L : List Value) (M : Mem) (Q : Option Value → Mem → Prop), Wp (d + 1) 104 2 L [.int a, .ref b] M Q ↔ (isK b 11 = true ∧ Wp d 77 0 [.ref b, .int a] [] M (fun r M2 => Wp (d + 1) 104 5 L (r.toList ++ []) M2 Q))) ∧
    (∀ (d : Nat) (a : Int32) (L : List Value) (M : Mem) (Q : Option Value → Mem → Prop), Wp d 104 5 L [.int a] M Q ↔ (if a = 0 then Wp d 104 8 L [] M Q else Wp d 104 11 L [] M Q)) ∧
    (∀ (d : Nat) (L : List Value) (M : Mem) (Q : Option Value → Mem → Prop), Wp d 104 8 L [] M Q ↔ Wp d 104 10 L [.int (-1000000001)] M Q) ∧
    (∀ (d : Nat) (a : Int32) (L : List Value) (M : Mem) (Q : Option Value → Mem → Prop), Wp d 104 10 L [.int a] M Q ↔ Q (some (.int a)) M) ∧
    (∀ (d : Nat) (v0 : Value) (v1 : Value) (x : Int32) (L : List Value) (M : Mem) (Q : Option Value → Mem → Prop), Wp d 104 11 (v0 :: v1 :: .int x :: L) [] M Q ↔ Wp d 104 12 (v0 :: v1 :: .int x :: L) [.int x] M Q) ∧
    (∀ (d : Nat) (a : Int32) (L : List Value) (M : Mem) (Q : Option Value → Mem → Prop), Wp d 104 12 L [.int a] M Q ↔ (if a < 0 then Wp d 104 20 L [] M Q else Wp d 104 15 L [] M Q)) ∧
    (∀ (d : Nat) (v0 : Value) (v1 : Value) (x : Int32) (L : List Value) (M : Mem) (Q : Option Value → Mem → Prop), Wp d 104 15 (v0 :: v1 :: .int x :: L) [] M Q ↔ Wp d 104 16 (v0 :: v1 :: .int x :: L) [.int x] M Q) ∧
    (∀ (d : Nat) (a : Int32) (L : List Value) (M : Mem) (Q : Option Value → Mem → Prop), Wp d 104 16 L [.int a] M Q ↔ Wp d 104 17 L [.int 4, .int a] M Q) ∧
    (∀ (d : Nat) (a : Int32) (b : Int32) (L : List Value) (M : Mem) (Q : Option Value → Mem → Prop), Wp d 104 17 L [.int a, .int b] M Q ↔ (if a < b then Wp d 104 20 L [] M Q else Wp d 104 23 L [] M Q)) ∧
    (∀ (d : Nat) (L : List Value) (M : Mem) (Q : Option Value → Mem → Prop), Wp d 104 20 L [] M Q ↔ Wp d 104 22 L [.int (-1000000002)] M Q) ∧
    (∀ (d : Nat) (a : Int32) (L : List Value) (M : Mem) (Q : Option Value → Mem → Prop), Wp d 104 22 L [.int a] M Q ↔ Q (some (.int a)) M) ∧
    (∀ (d : Nat) (x : Nat) (L : List Value) (M : Mem) (Q : Option Value → Mem → Prop), Wp d 104 23 (.ref x :: L) [] M Q ↔ Wp d 104 24 (.ref x :: L) [.ref x] M Q) ∧
    (∀ (d : Nat) (a : Nat) (L : List Value) (M : Mem) (Q : Option Value → Mem → Prop), Wp d 104 24 L [.ref a] M Q ↔ (isK a 11 = true ∧ Wp d 104 27 L [.ref (rt a 9)] M Q)) ∧
    (∀ (d : Nat) (a : Nat) (L : List Value) (M : Mem) (Q : Option Value → Mem → Prop), Wp d 104 27 L [.ref a] M Q ↔ (isK a 0 = true ∧ Wp d 104 30 L [.int (M a 2)] M Q)) ∧
    (∀ (d : Nat) (a : Int32) (L : List Value) (M : Mem) (Q : Option Value → Mem → Prop), Wp d 104 30 L [.int a] M Q ↔ Wp d 104 32 L [.int 15, .int a] M Q) ∧
    (∀ (d : Nat) (a : Int32) (b : Int32) (L : List Value) (M : Mem) (Q : Option Value → Mem → Prop), Wp d 104 32 L [.int a, .int b] M Q ↔ (if b < a then Wp d 104 38 L [] M Q else Wp d 104 35 L [] M Q)) ∧
    (∀ (d : Nat) (L : List Value) (M : Mem) (Q : Option Value → Mem → Prop), Wp d 104 35 L [] M Q ↔ Wp d 104 37 L [.int (-1000000004)] M Q) ∧
    (∀ (d : Nat) (a : Int32) (L : List Value) (M : Mem) (Q : Option Value → Mem → Prop), Wp d 104 37 L [.int a] M Q ↔ Q (some (.int a)) M) ∧
    (∀ (d : Nat) (x : Nat) (L : List Value) (M : Mem) (Q : Option Value → Mem → Prop), Wp d 104 38 (.ref x :: L) [] M Q ↔ Wp d 104 39 (.ref x :: L) [.ref x] M Q) ∧
    (∀ (d : Nat) (a : Nat) (L : List Value) (M : Mem) (Q : Option Value → Mem → Prop), Wp d 104 39 L [.ref a] M Q ↔ (isK a 11 = true ∧ Wp d 104 42 L [.ref (rt a 9)] M Q)) ∧
    (∀ (d : Nat) (a : Nat) (v0 : Value) (x : Int32) (L : List Value) (M : Mem) (Q : Option Value → Mem → Prop), Wp d 104 42 (v0 :: .int x :: L) [.ref a] M Q ↔ Wp d 104 43 (v0 :: .int x :: L) [.int x, .ref a] M Q) ∧
    (∀ (d : Nat) (a : Int32) (b : Nat) (v0 : Value) (v1 : Value) (x : Int32) (L : List Value) (M : Mem) (Q : Option Value → Mem → Prop), Wp d 104 43 (v0 :: v1 :: .int x :: L) [.int a, .ref b] M Q ↔ Wp d 104 44 (v0 :: v1 :: .int x :: L) [.int x, .int a, .ref b] M Q) ∧
    (∀ (d : Nat) (a : Int32) (b : Int32) (c : Nat) (L : List Value) (M : Mem) (Q : Option Value → Mem → Prop), Wp (d + 1) 104 44 L [.int a, .int b, .ref c] M Q ↔ (isK c 0 = true ∧ Wp d 0 0 [.ref c, .int b, .int a] [] M (fun r M2 => Wp (d + 1) 104 47 L (r.toList ++ []) M2 Q))) ∧
    (∀ (d : Nat) (x : Nat) (L : List Value) (M : Mem) (Q : Option Value → Mem → Prop), Wp d 104 47 (.ref x :: L) [] M Q ↔ Wp d 104 48 (.ref x :: L) [.ref x] M Q) ∧
    (∀ (d : Nat) (a : Nat) (L : List Value) (M : Mem) (Q : Option Value → Mem → Prop), Wp d 104 48 L [.ref a] M Q ↔ (isK a 11 = true ∧ Wp d 104 51 L [.ref (rt a 9)] M Q)) ∧
    (∀ (d : Nat) (a : Nat) (L : List Value) (M : Mem) (Q : Option Value → Mem → Prop), Wp d 104 51 L [.ref a] M Q ↔ (isK a 0 = true ∧ Wp d 104 54 L [.int (M a 2)] M Q)) ∧
    (∀ (d : Nat) (a : Int32) (L : List Value) (M : Mem) (Q : Option Value → Mem → Prop), Wp d 104 54 L [.int a] M Q ↔ Q (some (.int a)) M) := by
  refine ⟨?_, ?_, ?_, ?_, ?_, ?_, ?_, ?_, ?_, ?_, ?_, ?_, ?_, ?_, ?_, ?_, ?_, ?_, ?_, ?_, ?_, ?_, ?_, ?_, ?_, ?_, ?_, ?_, ?_⟩
  · intro d x L M Q; exact Wp_sim (by decide +kernel : decode (cd 104) 0 = .ok (.aload_n 0, 1)) rfl rfl
  · intro d a v0 x L M Q; exact Wp_sim (by decide +kernel : decode (cd 104) 1 = .ok (.iload_n 1, 1)) rfl rfl
  · intro d a b L M Q; exact q_invV (pz := 516) (n := 1) (c := 11) (m := 2) (k := b) (As := [.int a]) (rest := []) (by decide +kernel : decode (cd 104) 2 = .ok (.invokevirtual 175, 3)) (by decide +kernel) (by decide +kernel) rfl rfl (Nat.le_of_ble_eq_true rfl) (Nat.le_of_ble_eq_true rfl) rfl
  · intro d a L M Q; exact q_zne (by decide +kernel : decode (cd 104) 5 = .ok (.ifCond .ne 6, 3)) (by decide)
  · intro d L M Q; exact q_ldc (p := 505) (by decide +kernel : decode (cd 104) 8 = .ok (.ldc 170, 2)) (by decide +kernel)
  · intro d a L M Q; exact q_iret (by decide +kernel : decode (cd 104) 10 = .ok (.ireturn , 1)) (by decide +kernel)
  · intro d v0 v1 x L M Q; exact Wp_sim (by decide +kernel : decode (cd 104) 11 = .ok (.iload_n 2, 1)) rfl rfl
  · intro d a L M Q; exact q_zlt (by decide +kernel : decode (cd 104) 12 = .ok (.ifCond .lt 8, 3)) (by decide)
  · intro d v0 v1 x L M Q; exact Wp_sim (by decide +kernel : decode (cd 104) 15 = .ok (.iload_n 2, 1)) rfl rfl
  · intro d a L M Q; exact Wp_sim (by decide +kernel : decode (cd 104) 16 = .ok (.iconst 4, 1)) rfl rfl
  · intro d a b L M Q; exact q_ile (by decide +kernel : decode (cd 104) 17 = .ok (.if_icmp .le 6, 3)) (by decide)
  · intro d L M Q; exact q_ldc (p := 339) (by decide +kernel : decode (cd 104) 20 = .ok (.ldc 82, 2)) (by decide +kernel)
  · intro d a L M Q; exact q_iret (by decide +kernel : decode (cd 104) 22 = .ok (.ireturn , 1)) (by decide +kernel)
  · intro d x L M Q; exact Wp_sim (by decide +kernel : decode (cd 104) 23 = .ok (.aload_n 0, 1)) rfl rfl
  · intro d a L M Q; exact q_getR (p := 307) (by decide +kernel : decode (cd 104) 24 = .ok (.getfield 71, 3)) (by decide +kernel) (by decide +kernel)
  · intro d a L M Q; exact q_getI (p := 290) (by decide +kernel : decode (cd 104) 27 = .ok (.getfield 110, 3)) (by decide +kernel) (by decide +kernel)
  · intro d a L M Q; exact Wp_sim (by decide +kernel : decode (cd 104) 30 = .ok (.bipush 15, 2)) rfl rfl
  · intro d a b L M Q; exact q_ilt (by decide +kernel : decode (cd 104) 32 = .ok (.if_icmp .lt 6, 3)) (by decide)
  · intro d L M Q; exact q_ldc (p := 340) (by decide +kernel : decode (cd 104) 35 = .ok (.ldc 86, 2)) (by decide +kernel)
  · intro d a L M Q; exact q_iret (by decide +kernel : decode (cd 104) 37 = .ok (.ireturn , 1)) (by decide +kernel)
  · intro d x L M Q; exact Wp_sim (by decide +kernel : decode (cd 104) 38 = .ok (.aload_n 0, 1)) rfl rfl
  · intro d a L M Q; exact q_getR (p := 307) (by decide +kernel : decode (cd 104) 39 = .ok (.getfield 71, 3)) (by decide +kernel) (by decide +kernel)
  · intro d a v0 x L M Q; exact Wp_sim (by decide +kernel : decode (cd 104) 42 = .ok (.iload_n 1, 1)) rfl rfl
  · intro d a b v0 v1 x L M Q; exact Wp_sim (by decide +kernel : decode (cd 104) 43 = .ok (.iload_n 2, 1)) rfl rfl
  · intro d a b c L M Q; exact q_invV (pz := 795) (n := 2) (c := 0) (m := 3) (k := c) (As := [.int b, .int a]) (rest := []) (by decide +kernel : decode (cd 104) 44 = .ok (.invokevirtual 315, 3)) (by decide +kernel) (by decide +kernel) rfl rfl (Nat.le_of_ble_eq_true rfl) (Nat.le_of_ble_eq_true rfl) rfl
  · intro d x L M Q; exact Wp_sim (by decide +kernel : decode (cd 104) 47 = .ok (.aload_n 0, 1)) rfl rfl
  · intro d a L M Q; exact q_getR (p := 307) (by decide +kernel : decode (cd 104) 48 = .ok (.getfield 71, 3)) (by decide +kernel) (by decide +kernel)
  · intro d a L M Q; exact q_getI (p := 290) (by decide +kernel : decode (cd 104) 51 = .ok (.getfield 110, 3)) (by decide +kernel) (by decide +kernel)
  · intro d a L M Q; exact q_iret (by decide +kernel : decode (cd 104) 54 = .ok (.ireturn , 1)) (by decide +kernel)

/- 105: PalaceYard.tear -/
set_option maxRecDepth 10000 in
theorem e105 : (∀ (d : Nat) (x : Nat) (L : List Value) (M : Mem) (Q : Option Value → Mem → Prop), Wp d 105 0 (.ref x :: L) [] M Q ↔ Wp d 105 1 (.ref x :: L) [.ref x] M Q) ∧
    (∀ (d : Nat) (a : Nat) (L : List Value) (M : Mem) (Q : Option Value → Mem → Prop), Wp d 105 1 L [.ref a] M Q ↔ (isK a 11 = true ∧ Wp d 105 4 L [.ref (rt a 8)] M Q)) ∧
    (∀ (d : Nat) (a : Nat) (L : List Value) (M : Mem) (Q : Option Value → Mem → Prop), Wp d 105 4 L [.ref a] M Q ↔ (isK a 3 = true ∧ Wp d 105 7 L [.int (M a 0)] M Q)) ∧
    (∀ (d : Nat) (a : Int32) (x : Nat) (L : List Value) (M : Mem) (Q : Option Value → Mem → Prop), Wp d 105 7 (.ref x :: L) [.int a] M Q ↔ Wp d 105 8 (.ref x :: L) [.ref x, .int a] M Q) ∧
    (∀ (d : Nat) (a : Nat) (b : Int32) (L : List Value) (M : Mem) (Q : Option Value → Mem → Prop), Wp d 105 8 L [.ref a, .int b] M Q ↔ (isK a 11 = true ∧ Wp d 105 11 L [.ref (rt a 9), .int b] M Q)) ∧
    (∀ (d : Nat) (a : Nat) (b : Int32) (L : List Value) (M : Mem) (Q : Option Value → Mem → Prop), Wp d 105 11 L [.ref a, .int b] M Q ↔ (isK a 0 = true ∧ Wp d 105 14 L [.int (M a 2), .int b] M Q)) ∧
    (∀ (d : Nat) (a : Int32) (b : Int32) (L : List Value) (M : Mem) (Q : Option Value → Mem → Prop), Wp d 105 14 L [.int a, .int b] M Q ↔ Wp d 105 15 L [.int (b + a)] M Q) ∧
    (∀ (d : Nat) (a : Int32) (v0 : Value) (x : Value) (L : List Value) (M : Mem) (Q : Option Value → Mem → Prop), Wp d 105 15 (v0 :: x :: L) [.int a] M Q ↔ Wp d 105 16 (clr v0 :: .int a :: L) [] M Q) ∧
    (∀ (d : Nat) (x : Nat) (L : List Value) (M : Mem) (Q : Option Value → Mem → Prop), Wp d 105 16 (.ref x :: L) [] M Q ↔ Wp d 105 17 (.ref x :: L) [.ref x] M Q) ∧
    (∀ (d : Nat) (a : Nat) (L : List Value) (M : Mem) (Q : Option Value → Mem → Prop), Wp d 105 17 L [.ref a] M Q ↔ (isK a 11 = true ∧ Wp d 105 20 L [.ref (rt a 8)] M Q)) ∧
    (∀ (d : Nat) (a : Nat) (L : List Value) (M : Mem) (Q : Option Value → Mem → Prop), Wp (d + 1) 105 20 L [.ref a] M Q ↔ (isK a 3 = true ∧ Wp d 17 0 [.ref a] [] M (fun r M2 => Wp (d + 1) 105 23 L (r.toList ++ []) M2 Q))) ∧
    (∀ (d : Nat) (x : Nat) (L : List Value) (M : Mem) (Q : Option Value → Mem → Prop), Wp d 105 23 (.ref x :: L) [] M Q ↔ Wp d 105 24 (.ref x :: L) [.ref x] M Q) ∧
    (∀ (d : Nat) (a : Nat) (L : List Value) (M : Mem) (Q : Option Value → Mem → Prop), Wp d 105 24 L [.ref a] M Q ↔ (isK a 11 = true ∧ Wp d 105 27 L [.ref (rt a 9)] M Q)) ∧
    (∀ (d : Nat) (a : Nat) (L : List Value) (M : Mem) (Q : Option Value → Mem → Prop), Wp d 105 27 L [.ref a] M Q ↔ Wp d 105 28 L [.int 0, .ref a] M Q) ∧
    (∀ (d : Nat) (a : Int32) (b : Nat) (L : List Value) (M : Mem) (Q : Option Value → Mem → Prop), Wp d 105 28 L [.int a, .ref b] M Q ↔ (isK b 0 = true ∧ Wp d 105 31 L [] (up2 M b 2 a) Q)) ∧
    (∀ (d : Nat) (v0 : Value) (x : Int32) (L : List Value) (M : Mem) (Q : Option Value → Mem → Prop), Wp d 105 31 (v0 :: .int x :: L) [] M Q ↔ Wp d 105 32 (v0 :: .int x :: L) [.int x] M Q) ∧
    (∀ (d : Nat) (a : Int32) (L : List Value) (M : Mem) (Q : Option Value → Mem → Prop), Wp d 105 32 L [.int a] M Q ↔ Q (some (.int a)) M) := by
  refine ⟨?_, ?_, ?_, ?_, ?_, ?_, ?_, ?_, ?_, ?_, ?_, ?_, ?_, ?_, ?_, ?_, ?_⟩
  · intro d x L M Q; exact Wp_sim (by decide +kernel : decode (cd 105) 0 = .ok (.aload_n 0, 1)) rfl rfl
  · intro d a L M Q; exact q_getR (p := 306) (by decide +kernel : decode (cd 105) 1 = .ok (.getfield 64, 3)) (by decide +kernel) (by decide +kernel)
  · intro d a L M Q; exact q_getI (p := 269) (by decide +kernel : decode (cd 105) 4 = .ok (.getfield 168, 3)) (by decide +kernel) (by decide +kernel)
  · intro d a x L M Q; exact Wp_sim (by decide +kernel : decode (cd 105) 7 = .ok (.aload_n 0, 1)) rfl rfl
  · intro d a b L M Q; exact q_getR (p := 307) (by decide +kernel : decode (cd 105) 8 = .ok (.getfield 71, 3)) (by decide +kernel) (by decide +kernel)
  · intro d a b L M Q; exact q_getI (p := 290) (by decide +kernel : decode (cd 105) 11 = .ok (.getfield 110, 3)) (by decide +kernel) (by decide +kernel)
  · intro d a b L M Q; exact Wp_sim (by decide +kernel : decode (cd 105) 14 = .ok (.iadd , 1)) rfl rfl
  · intro d a v0 x L M Q; exact Wp_sim (by decide +kernel : decode (cd 105) 15 = .ok (.istore_n 1, 1)) rfl rfl
  · intro d x L M Q; exact Wp_sim (by decide +kernel : decode (cd 105) 16 = .ok (.aload_n 0, 1)) rfl rfl
  · intro d a L M Q; exact q_getR (p := 306) (by decide +kernel : decode (cd 105) 17 = .ok (.getfield 64, 3)) (by decide +kernel) (by decide +kernel)
  · intro d a L M Q; exact q_invV (pz := 431) (n := 0) (c := 3) (m := 1) (k := a) (As := []) (rest := []) (by decide +kernel : decode (cd 105) 20 = .ok (.invokevirtual 107, 3)) (by decide +kernel) (by decide +kernel) rfl rfl (Nat.le_of_ble_eq_true rfl) (Nat.le_of_ble_eq_true rfl) rfl
  · intro d x L M Q; exact Wp_sim (by decide +kernel : decode (cd 105) 23 = .ok (.aload_n 0, 1)) rfl rfl
  · intro d a L M Q; exact q_getR (p := 307) (by decide +kernel : decode (cd 105) 24 = .ok (.getfield 71, 3)) (by decide +kernel) (by decide +kernel)
  · intro d a L M Q; exact Wp_sim (by decide +kernel : decode (cd 105) 27 = .ok (.iconst 0, 1)) rfl rfl
  · intro d a b L M Q; exact q_putI (p := 290) (by decide +kernel : decode (cd 105) 28 = .ok (.putfield 110, 3)) (by decide +kernel) (by decide +kernel)
  · intro d v0 x L M Q; exact Wp_sim (by decide +kernel : decode (cd 105) 31 = .ok (.iload_n 1, 1)) rfl rfl
  · intro d a L M Q; exact q_iret (by decide +kernel : decode (cd 105) 32 = .ok (.ireturn , 1)) (by decide +kernel)

/- 106: PalaceYard.judge -/
set_option maxRecDepth 10000 in
theorem e106 : (∀ (d : Nat) (x : Nat) (L : List Value) (M : Mem) (Q : Option Value → Mem → Prop), Wp d 106 0 (.ref x :: L) [] M Q ↔ Wp d 106 1 (.ref x :: L) [.ref x] M Q) ∧
    (∀ (d : Nat) (a : Nat) (L : List Value) (M : Mem) (Q : Option Value → Mem → Prop), Wp d 106 1 L [.ref a] M Q ↔ (isK a 11 = true ∧ Wp d 106 4 L [.ref (rt a 9)] M Q)) ∧
    (∀ (d : Nat) (a : Nat) (x : Nat) (L : List Value) (M : Mem) (Q : Option Value → Mem → Prop), Wp d 106 4 (.ref x :: L) [.ref a] M Q ↔ Wp d 106 5 (.ref x :: L) [.ref x, .ref a] M Q) ∧
    (∀ (d : Nat) (a : Nat) (b : Nat) (L : List Value) (M : Mem) (Q : Option Value → Mem → Prop), Wp d 106 5 L [.ref a, .ref b] M Q ↔ (isK a 11 = true ∧ Wp d 106 8 L [.ref (rt a 3), .ref b] M Q)) ∧
    (∀ (d : Nat) (a : Nat) (b : Nat) (L : List Value) (M : Mem) (Q : Option Value → Mem → Prop), Wp d 106 8 L [.ref a, .ref b] M Q ↔ (isK a 9 = true ∧ Wp d 106 11 L [.ref (rt a 1), .ref b] M Q)) ∧
    (∀ (d : Nat) (a : Nat) (b : Nat) (L : List Value) (M : Mem) (Q : Option Value → Mem → Prop), Wp (d + 1) 106 11 L [.ref a, .ref b] M Q ↔ (isK b 0 = true ∧ Wp d 1 0 [.ref b, .ref a, .null, .null] [] M (fun r M2 => Wp (d + 1) 106 14 L (r.toList ++ []) M2 Q))) ∧
    (∀ (d : Nat) (a : Int32) (L : List Value) (M : Mem) (Q : Option Value → Mem → Prop), Wp d 106 14 L [.int a] M Q ↔ Q (some (.int a)) M) := by
  refine ⟨?_, ?_, ?_, ?_, ?_, ?_, ?_⟩
  · intro d x L M Q; exact Wp_sim (by decide +kernel : decode (cd 106) 0 = .ok (.aload_n 0, 1)) rfl rfl
  · intro d a L M Q; exact q_getR (p := 307) (by decide +kernel : decode (cd 106) 1 = .ok (.getfield 71, 3)) (by decide +kernel) (by decide +kernel)
  · intro d a x L M Q; exact Wp_sim (by decide +kernel : decode (cd 106) 4 = .ok (.aload_n 0, 1)) rfl rfl
  · intro d a b L M Q; exact q_getR (p := 301) (by decide +kernel : decode (cd 106) 5 = .ok (.getfield 33, 3)) (by decide +kernel) (by decide +kernel)
  · intro d a b L M Q; exact q_getR (p := 199) (by decide +kernel : decode (cd 106) 8 = .ok (.getfield 132, 3)) (by decide +kernel) (by decide +kernel)
  · intro d a b L M Q; exact q_invV (pz := 807) (n := 1) (c := 0) (m := 4) (k := b) (As := [.ref a]) (rest := []) (by decide +kernel : decode (cd 106) 11 = .ok (.invokevirtual 318, 3)) (by decide +kernel) (by decide +kernel) rfl rfl (Nat.le_of_ble_eq_true rfl) (Nat.le_of_ble_eq_true rfl) rfl
  · intro d a L M Q; exact q_iret (by decide +kernel : decode (cd 106) 14 = .ok (.ireturn , 1)) (by decide +kernel)

/- 107: PalaceYard.seed -/
set_option maxRecDepth 10000 in
theorem e107 : (∀ (d : Nat) (v0 : Value) (x : Int32) (L : List Value) (M : Mem) (Q : Option Value → Mem → Prop), Wp d 107 0 (v0 :: .int x :: L) [] M Q ↔ Wp d 107 1 (v0 :: .int x :: L) [.int x] M Q) ∧
    (∀ (d : Nat) (a : Int32) (L : List Value) (M : Mem) (Q : Option Value → Mem → Prop), Wp d 107 1 L [.int a] M Q ↔ (if a < 0 then Wp d 107 4 L [] M Q else Wp d 107 7 L [] M Q)) ∧
    (∀ (d : Nat) (L : List Value) (M : Mem) (Q : Option Value → Mem → Prop), Wp d 107 4 L [] M Q ↔ Wp d 107 6 L [.int (-1000000002)] M Q) ∧
    (∀ (d : Nat) (a : Int32) (L : List Value) (M : Mem) (Q : Option Value → Mem → Prop), Wp d 107 6 L [.int a] M Q ↔ Q (some (.int a)) M) ∧
    (∀ (d : Nat) (x : Nat) (L : List Value) (M : Mem) (Q : Option Value → Mem → Prop), Wp d 107 7 (.ref x :: L) [] M Q ↔ Wp d 107 8 (.ref x :: L) [.ref x] M Q) ∧
    (∀ (d : Nat) (a : Nat) (L : List Value) (M : Mem) (Q : Option Value → Mem → Prop), Wp d 107 8 L [.ref a] M Q ↔ (isK a 11 = true ∧ Wp d 107 11 L [.int (M a 11)] M Q)) ∧
    (∀ (d : Nat) (a : Int32) (v0 : Value) (v1 : Value) (x : Value) (L : List Value) (M : Mem) (Q : Option Value → Mem → Prop), Wp d 107 11 (v0 :: v1 :: x :: L) [.int a] M Q ↔ Wp d 107 12 (v0 :: clr v1 :: .int a :: L) [] M Q) ∧
    (∀ (d : Nat) (x : Nat) (L : List Value) (M : Mem) (Q : Option Value → Mem → Prop), Wp d 107 12 (.ref x :: L) [] M Q ↔ Wp d 107 13 (.ref x :: L) [.ref x] M Q) ∧
    (∀ (d : Nat) (a : Nat) (v0 : Value) (x : Int32) (L : List Value) (M : Mem) (Q : Option Value → Mem → Prop), Wp d 107 13 (v0 :: .int x :: L) [.ref a] M Q ↔ Wp d 107 14 (v0 :: .int x :: L) [.int x, .ref a] M Q) ∧
    (∀ (d : Nat) (a : Int32) (b : Nat) (L : List Value) (M : Mem) (Q : Option Value → Mem → Prop), Wp d 107 14 L [.int a, .ref b] M Q ↔ (isK b 11 = true ∧ Wp d 107 17 L [] (up2 M b 11 a) Q)) ∧
    (∀ (d : Nat) (v0 : Value) (v1 : Value) (x : Int32) (L : List Value) (M : Mem) (Q : Option Value → Mem → Prop), Wp d 107 17 (v0 :: v1 :: .int x :: L) [] M Q ↔ Wp d 107 18 (v0 :: v1 :: .int x :: L) [.int x] M Q) ∧
    (∀ (d : Nat) (a : Int32) (L : List Value) (M : Mem) (Q : Option Value → Mem → Prop), Wp d 107 18 L [.int a] M Q ↔ Q (some (.int a)) M) := by
  refine ⟨?_, ?_, ?_, ?_, ?_, ?_, ?_, ?_, ?_, ?_, ?_, ?_⟩
  · intro d v0 x L M Q; exact Wp_sim (by decide +kernel : decode (cd 107) 0 = .ok (.iload_n 1, 1)) rfl rfl
  · intro d a L M Q; exact q_zge (by decide +kernel : decode (cd 107) 1 = .ok (.ifCond .ge 6, 3)) (by decide)
  · intro d L M Q; exact q_ldc (p := 339) (by decide +kernel : decode (cd 107) 4 = .ok (.ldc 82, 2)) (by decide +kernel)
  · intro d a L M Q; exact q_iret (by decide +kernel : decode (cd 107) 6 = .ok (.ireturn , 1)) (by decide +kernel)
  · intro d x L M Q; exact Wp_sim (by decide +kernel : decode (cd 107) 7 = .ok (.aload_n 0, 1)) rfl rfl
  · intro d a L M Q; exact q_getI (p := 309) (by decide +kernel : decode (cd 107) 8 = .ok (.getfield 79, 3)) (by decide +kernel) (by decide +kernel)
  · intro d a v0 v1 x L M Q; exact Wp_sim (by decide +kernel : decode (cd 107) 11 = .ok (.istore_n 2, 1)) rfl rfl
  · intro d x L M Q; exact Wp_sim (by decide +kernel : decode (cd 107) 12 = .ok (.aload_n 0, 1)) rfl rfl
  · intro d a v0 x L M Q; exact Wp_sim (by decide +kernel : decode (cd 107) 13 = .ok (.iload_n 1, 1)) rfl rfl
  · intro d a b L M Q; exact q_putI (p := 309) (by decide +kernel : decode (cd 107) 14 = .ok (.putfield 79, 3)) (by decide +kernel) (by decide +kernel)
  · intro d v0 v1 x L M Q; exact Wp_sim (by decide +kernel : decode (cd 107) 17 = .ok (.iload_n 2, 1)) rfl rfl
  · intro d a L M Q; exact q_iret (by decide +kernel : decode (cd 107) 18 = .ok (.ireturn , 1)) (by decide +kernel)

/- 108: PalaceYard.keep -/
set_option maxRecDepth 10000 in
theorem e108 : (∀ (d : Nat) (v0 : Value) (x : Int32) (L : List Value) (M : Mem) (Q : Option Value → Mem → Prop), Wp d 108 0 (v0 :: .int x :: L) [] M Q ↔ Wp d 108 1 (v0 :: .int x :: L) [.int x] M Q) ∧
    (∀ (d : Nat) (a : Int32) (L : List Value) (M : Mem) (Q : Option Value → Mem → Prop), Wp d 108 1 L [.int a] M Q ↔ (if a < 0 then Wp d 108 9 L [] M Q else Wp d 108 4 L [] M Q)) ∧
    (∀ (d : Nat) (v0 : Value) (x : Int32) (L : List Value) (M : Mem) (Q : Option Value → Mem → Prop), Wp d 108 4 (v0 :: .int x :: L) [] M Q ↔ Wp d 108 5 (v0 :: .int x :: L) [.int x] M Q) ∧
    (∀ (d : Nat) (a : Int32) (L : List Value) (M : Mem) (Q : Option Value → Mem → Prop), Wp d 108 5 L [.int a] M Q ↔ Wp d 108 6 L [.int 1, .int a] M Q) ∧
    (∀ (d : Nat) (a : Int32) (b : Int32) (L : List Value) (M : Mem) (Q : Option Value → Mem → Prop), Wp d 108 6 L [.int a, .int b] M Q ↔ (if a < b then Wp d 108 9 L [] M Q else Wp d 108 12 L [] M Q)) ∧
    (∀ (d : Nat) (L : List Value) (M : Mem) (Q : Option Value → Mem → Prop), Wp d 108 9 L [] M Q ↔ Wp d 108 11 L [.int (-1000000001)] M Q) ∧
    (∀ (d : Nat) (a : Int32) (L : List Value) (M : Mem) (Q : Option Value → Mem → Prop), Wp d 108 11 L [.int a] M Q ↔ Q (some (.int a)) M) ∧
    (∀ (d : Nat) (x : Nat) (L : List Value) (M : Mem) (Q : Option Value → Mem → Prop), Wp d 108 12 (.ref x :: L) [] M Q ↔ Wp d 108 13 (.ref x :: L) [.ref x] M Q) ∧
    (∀ (d : Nat) (a : Nat) (v0 : Value) (x : Int32) (L : List Value) (M : Mem) (Q : Option Value → Mem → Prop), Wp d 108 13 (v0 :: .int x :: L) [.ref a] M Q ↔ Wp d 108 14 (v0 :: .int x :: L) [.int x, .ref a] M Q) ∧
    (∀ (d : Nat) (a : Int32) (b : Nat) (L : List Value) (M : Mem) (Q : Option Value → Mem → Prop), Wp (d + 1) 108 14 L [.int a, .ref b] M Q ↔ (isK b 11 = true ∧ Wp d 109 0 [.ref b, .int a] [] M (fun r M2 => Wp (d + 1) 108 17 L (r.toList ++ []) M2 Q))) ∧
    (∀ (d : Nat) (a : Nat) (x : Nat) (L : List Value) (M : Mem) (Q : Option Value → Mem → Prop), Wp d 108 17 (.ref x :: L) [.ref a] M Q ↔ Wp d 108 18 (.ref x :: L) [.ref x, .ref a] M Q) ∧
    (∀ (d : Nat) (a : Nat) (b : Nat) (L : List Value) (M : Mem) (Q : Option Value → Mem → Prop), Wp d 108 18 L [.ref a, .ref b] M Q ↔ (isK a 11 = true ∧ Wp d 108 21 L [.ref (rt a 3), .ref b] M Q)) ∧
    (∀ (d : Nat) (a : Nat) (b : Nat) (L : List Value) (M : Mem) (Q : Option Value → Mem → Prop), Wp d 108 21 L [.ref a, .ref b] M Q ↔ (isK a 9 = true ∧ Wp d 108 24 L [.ref (rt a 1), .ref b] M Q)) ∧
    (∀ (d : Nat) (a : Nat) (b : Nat) (x : Nat) (L : List Value) (M : Mem) (Q : Option Value → Mem → Prop), Wp d 108 24 (.ref x :: L) [.ref a, .ref b] M Q ↔ Wp d 108 25 (.ref x :: L) [.ref x, .ref a, .ref b] M Q) ∧
    (∀ (d : Nat) (a : Nat) (b : Nat) (c : Nat) (L : List Value) (M : Mem) (Q : Option Value → Mem → Prop), Wp d 108 25 L [.ref a, .ref b, .ref c] M Q ↔ (isK a 11 = true ∧ Wp d 108 28 L [.int (M a 11), .ref b, .ref c] M Q)) ∧
    (∀ (d : Nat) (a : Int32) (b : Nat) (c : Nat) (L : List Value) (M : Mem) (Q : Option Value → Mem → Prop), Wp (d + 1) 108 28 L [.int a, .ref b, .ref c] M Q ↔ (isK c 4 = true ∧ Wp d 21 0 [.ref c, .ref b, .int a] [] M (fun r M2 => Wp (d + 1) 108 31 L (r.toList ++ []) M2 Q))) ∧
    (∀ (d : Nat) (x : Nat) (L : List Value) (M : Mem) (Q : Option Value → Mem → Prop), Wp d 108 31 (.ref x :: L) [] M Q ↔ Wp d 108 32 (.ref x :: L) [.ref x] M Q) ∧
    (∀ (d : Nat) (a : Nat) (L : List Value) (M : Mem) (Q : Option Value → Mem → Prop), Wp d 108 32 L [.ref a] M Q ↔ (isK a 11 = true ∧ Wp d 108 35 L [.ref (rt a 5)] M Q)) ∧
    (∀ (d : Nat) (a : Nat) (L : List Value) (M : Mem) (Q : Option Value → Mem → Prop), Wp (d + 1) 108 35 L [.ref a] M Q ↔ (isK a 7 = true ∧ Wp d 28 0 [.ref a] [] M (fun r M2 => Wp (d + 1) 108 38 L (r.toList ++ []) M2 Q))) ∧
    (∀ (d : Nat) (L : List Value) (M : Mem) (Q : Option Value → Mem → Prop), Wp d 108 38 L [] M Q ↔ Wp d 108 39 L [.int 1] M Q) ∧
    (∀ (d : Nat) (a : Int32) (L : List Value) (M : Mem) (Q : Option Value → Mem → Prop), Wp d 108 39 L [.int a] M Q ↔ Q (some (.int a)) M) := by
  refine ⟨?_, ?_, ?_, ?_, ?_, ?_, ?_, ?_, ?_, ?_, ?_, ?_, ?_, ?_, ?_, ?_, ?_, ?_, ?_, ?_, ?_⟩
  · intro d v0 x L M Q; exact Wp_sim (by decide +kernel : decode (cd 108) 0 = .ok (.iload_n 1, 1)) rfl rfl
  · intro d a L M Q; exact q_zlt (by decide +kernel : decode (cd 108) 1 = .ok (.ifCond .lt 8, 3)) (by decide)
  · intro d v0 x L M Q; exact Wp_sim (by decide +kernel : decode (cd 108) 4 = .ok (.iload_n 1, 1)) rfl rfl
  · intro d a L M Q; exact Wp_sim (by decide +kernel : decode (cd 108) 5 = .ok (.iconst 1, 1)) rfl rfl
  · intro d a b L M Q; exact q_ile (by decide +kernel : decode (cd 108) 6 = .ok (.if_icmp .le 6, 3)) (by decide)
  · intro d L M Q; exact q_ldc (p := 505) (by decide +kernel : decode (cd 108) 9 = .ok (.ldc 170, 2)) (by decide +kernel)
  · intro d a L M Q; exact q_iret (by decide +kernel : decode (cd 108) 11 = .ok (.ireturn , 1)) (by decide +kernel)
  · intro d x L M Q; exact Wp_sim (by decide +kernel : decode (cd 108) 12 = .ok (.aload_n 0, 1)) rfl rfl
  · intro d a v0 x L M Q; exact Wp_sim (by decide +kernel : decode (cd 108) 13 = .ok (.iload_n 1, 1)) rfl rfl
  · intro d a b L M Q; exact q_invV (pz := 819) (n := 1) (c := 11) (m := 2) (k := b) (As := [.int a]) (rest := []) (by decide +kernel : decode (cd 108) 14 = .ok (.invokevirtual 322, 3)) (by decide +kernel) (by decide +kernel) rfl rfl (Nat.le_of_ble_eq_true rfl) (Nat.le_of_ble_eq_true rfl) rfl
  · intro d a x L M Q; exact Wp_sim (by decide +kernel : decode (cd 108) 17 = .ok (.aload_n 0, 1)) rfl rfl
  · intro d a b L M Q; exact q_getR (p := 301) (by decide +kernel : decode (cd 108) 18 = .ok (.getfield 33, 3)) (by decide +kernel) (by decide +kernel)
  · intro d a b L M Q; exact q_getR (p := 199) (by decide +kernel : decode (cd 108) 21 = .ok (.getfield 132, 3)) (by decide +kernel) (by decide +kernel)
  · intro d a b x L M Q; exact Wp_sim (by decide +kernel : decode (cd 108) 24 = .ok (.aload_n 0, 1)) rfl rfl
  · intro d a b c L M Q; exact q_getI (p := 309) (by decide +kernel : decode (cd 108) 25 = .ok (.getfield 79, 3)) (by decide +kernel) (by decide +kernel)
  · intro d a b c L M Q; exact q_invV (pz := 823) (n := 2) (c := 4) (m := 3) (k := c) (As := [.ref b, .int a]) (rest := []) (by decide +kernel : decode (cd 108) 28 = .ok (.invokevirtual 326, 3)) (by decide +kernel) (by decide +kernel) rfl rfl (Nat.le_of_ble_eq_true rfl) (Nat.le_of_ble_eq_true rfl) rfl
  · intro d x L M Q; exact Wp_sim (by decide +kernel : decode (cd 108) 31 = .ok (.aload_n 0, 1)) rfl rfl
  · intro d a L M Q; exact q_getR (p := 303) (by decide +kernel : decode (cd 108) 32 = .ok (.getfield 47, 3)) (by decide +kernel) (by decide +kernel)
  · intro d a L M Q; exact q_invV (pz := 427) (n := 0) (c := 7) (m := 1) (k := a) (As := []) (rest := []) (by decide +kernel : decode (cd 108) 35 = .ok (.invokevirtual 100, 3)) (by decide +kernel) (by decide +kernel) rfl rfl (Nat.le_of_ble_eq_true rfl) (Nat.le_of_ble_eq_true rfl) rfl
  · intro d L M Q; exact Wp_sim (by decide +kernel : decode (cd 108) 38 = .ok (.iconst 1, 1)) rfl rfl
  · intro d a L M Q; exact q_iret (by decide +kernel : decode (cd 108) 39 = .ok (.ireturn , 1)) (by decide +kernel)

/- 109: PalaceYard.imageOf -/
set_option maxRecDepth 10000 in
theorem e109 : (∀ (d : Nat) (v0 : Value) (x : Int32) (L : List Value) (M : Mem) (Q : Option Value → Mem → Prop), Wp d 109 0 (v0 :: .int x :: L) [] M Q ↔ Wp d 109 1 (v0 :: .int x :: L) [.int x] M Q) ∧
    (∀ (d : Nat) (a : Int32) (L : List Value) (M : Mem) (Q : Option Value → Mem → Prop), Wp d 109 1 L [.int a] M Q ↔ (if a = 0 then Wp d 109 4 L [] M Q else Wp d 109 11 L [] M Q)) ∧
    (∀ (d : Nat) (x : Nat) (L : List Value) (M : Mem) (Q : Option Value → Mem → Prop), Wp d 109 4 (.ref x :: L) [] M Q ↔ Wp d 109 5 (.ref x :: L) [.ref x] M Q) ∧
    (∀ (d : Nat) (a : Nat) (L : List Value) (M : Mem) (Q : Option Value → Mem → Prop), Wp d 109 5 L [.ref a] M Q ↔ (isK a 11 = true ∧ Wp d 109 8 L [.ref (rt a 6)] M Q)) ∧
    (∀ (d : Nat) (a : Nat) (L : List Value) (M : Mem) (Q : Option Value → Mem → Prop), Wp d 109 8 L [.ref a] M Q ↔ Wp d 109 15 L [.ref a] M Q) ∧
    (∀ (d : Nat) (x : Nat) (L : List Value) (M : Mem) (Q : Option Value → Mem → Prop), Wp d 109 11 (.ref x :: L) [] M Q ↔ Wp d 109 12 (.ref x :: L) [.ref x] M Q) ∧
    (∀ (d : Nat) (a : Nat) (L : List Value) (M : Mem) (Q : Option Value → Mem → Prop), Wp d 109 12 L [.ref a] M Q ↔ (isK a 11 = true ∧ Wp d 109 15 L [.ref (rt a 7)] M Q)) ∧
    (∀ (d : Nat) (a : Nat) (L : List Value) (M : Mem) (Q : Option Value → Mem → Prop), Wp d 109 15 L [.ref a] M Q ↔ Q (some (.ref a)) M) := by
  refine ⟨?_, ?_, ?_, ?_, ?_, ?_, ?_, ?_⟩
  · intro d v0 x L M Q; exact Wp_sim (by decide +kernel : decode (cd 109) 0 = .ok (.iload_n 1, 1)) rfl rfl
  · intro d a L M Q; exact q_zne (by decide +kernel : decode (cd 109) 1 = .ok (.ifCond .ne 10, 3)) (by decide)
  · intro d x L M Q; exact Wp_sim (by decide +kernel : decode (cd 109) 4 = .ok (.aload_n 0, 1)) rfl rfl
  · intro d a L M Q; exact q_getR (p := 304) (by decide +kernel : decode (cd 109) 5 = .ok (.getfield 54, 3)) (by decide +kernel) (by decide +kernel)
  · intro d a L M Q; exact q_goto (by decide +kernel : decode (cd 109) 8 = .ok (.goto 7, 3)) (by decide)
  · intro d x L M Q; exact Wp_sim (by decide +kernel : decode (cd 109) 11 = .ok (.aload_n 0, 1)) rfl rfl
  · intro d a L M Q; exact q_getR (p := 305) (by decide +kernel : decode (cd 109) 12 = .ok (.getfield 58, 3)) (by decide +kernel) (by decide +kernel)
  · intro d a L M Q; exact q_aret (by decide +kernel : decode (cd 109) 15 = .ok (.areturn , 1)) (by decide +kernel)

/- 110: PalaceYard.goBack -/
set_option maxRecDepth 10000 in
theorem e110 : (∀ (d : Nat) (v0 : Value) (x : Int32) (L : List Value) (M : Mem) (Q : Option Value → Mem → Prop), Wp d 110 0 (v0 :: .int x :: L) [] M Q ↔ Wp d 110 1 (v0 :: .int x :: L) [.int x] M Q) ∧
    (∀ (d : Nat) (a : Int32) (L : List Value) (M : Mem) (Q : Option Value → Mem → Prop), Wp d 110 1 L [.int a] M Q ↔ (if a < 0 then Wp d 110 9 L [] M Q else Wp d 110 4 L [] M Q)) ∧
    (∀ (d : Nat) (v0 : Value) (x : Int32) (L : List Value) (M : Mem) (Q : Option Value → Mem → Prop), Wp d 110 4 (v0 :: .int x :: L) [] M Q ↔ Wp d 110 5 (v0 :: .int x :: L) [.int x] M Q) ∧
    (∀ (d : Nat) (a : Int32) (L : List Value) (M : Mem) (Q : Option Value → Mem → Prop), Wp d 110 5 L [.int a] M Q ↔ Wp d 110 6 L [.int 1, .int a] M Q) ∧
    (∀ (d : Nat) (a : Int32) (b : Int32) (L : List Value) (M : Mem) (Q : Option Value → Mem → Prop), Wp d 110 6 L [.int a, .int b] M Q ↔ (if a < b then Wp d 110 9 L [] M Q else Wp d 110 12 L [] M Q)) ∧
    (∀ (d : Nat) (L : List Value) (M : Mem) (Q : Option Value → Mem → Prop), Wp d 110 9 L [] M Q ↔ Wp d 110 11 L [.int (-1000000001)] M Q) ∧
    (∀ (d : Nat) (a : Int32) (L : List Value) (M : Mem) (Q : Option Value → Mem → Prop), Wp d 110 11 L [.int a] M Q ↔ Q (some (.int a)) M) ∧
    (∀ (d : Nat) (x : Nat) (L : List Value) (M : Mem) (Q : Option Value → Mem → Prop), Wp d 110 12 (.ref x :: L) [] M Q ↔ Wp d 110 13 (.ref x :: L) [.ref x] M Q) ∧
    (∀ (d : Nat) (a : Nat) (v0 : Value) (x : Int32) (L : List Value) (M : Mem) (Q : Option Value → Mem → Prop), Wp d 110 13 (v0 :: .int x :: L) [.ref a] M Q ↔ Wp d 110 14 (v0 :: .int x :: L) [.int x, .ref a] M Q) ∧
    (∀ (d : Nat) (a : Int32) (b : Nat) (L : List Value) (M : Mem) (Q : Option Value → Mem → Prop), Wp (d + 1) 110 14 L [.int a, .ref b] M Q ↔ (isK b 11 = true ∧ Wp d 109 0 [.ref b, .int a] [] M (fun r M2 => Wp (d + 1) 110 17 L (r.toList ++ []) M2 Q))) ∧
    (∀ (d : Nat) (a : Nat) (v0 : Value) (v1 : Value) (x : Value) (L : List Value) (M : Mem) (Q : Option Value → Mem → Prop), Wp d 110 17 (v0 :: v1 :: x :: L) [.ref a] M Q ↔ Wp d 110 18 (v0 :: clr v1 :: .ref a :: L) [] M Q) ∧
    (∀ (d : Nat) (v0 : Value) (v1 : Value) (x : Nat) (L : List Value) (M : Mem) (Q : Option Value → Mem → Prop), Wp d 110 18 (v0 :: v1 :: .ref x :: L) [] M Q ↔ Wp d 110 19 (v0 :: v1 :: .ref x :: L) [.ref x] M Q) ∧
    (∀ (d : Nat) (a : Nat) (L : List Value) (M : Mem) (Q : Option Value → Mem → Prop), Wp d 110 19 L [.ref a] M Q ↔ (isK a 4 = true ∧ Wp d 110 22 L [.int (M a 1)] M Q)) ∧
    (∀ (d : Nat) (a : Int32) (L : List Value) (M : Mem) (Q : Option Value → Mem → Prop), Wp d 110 22 L [.int a] M Q ↔ (if a = 0 then Wp d 110 25 L [] M Q else Wp d 110 28 L [] M Q)) ∧
    (∀ (d : Nat) (L : List Value) (M : Mem) (Q : Option Value → Mem → Prop), Wp d 110 25 L [] M Q ↔ Wp d 110 27 L [.int (-1000000003)] M Q) ∧
    (∀ (d : Nat) (a : Int32) (L : List Value) (M : Mem) (Q : Option Value → Mem → Prop), Wp d 110 27 L [.int a] M Q ↔ Q (some (.int a)) M) ∧
    (∀ (d : Nat) (v0 : Value) (v1 : Value) (x : Nat) (L : List Value) (M : Mem) (Q : Option Value → Mem → Prop), Wp d 110 28 (v0 :: v1 :: .ref x :: L) [] M Q ↔ Wp d 110 29 (v0 :: v1 :: .ref x :: L) [.ref x] M Q) ∧
    (∀ (d : Nat) (a : Nat) (x : Nat) (L : List Value) (M : Mem) (Q : Option Value → Mem → Prop), Wp d 110 29 (.ref x :: L) [.ref a] M Q ↔ Wp d 110 30 (.ref x :: L) [.ref x, .ref a] M Q) ∧
    (∀ (d : Nat) (a : Nat) (b : Nat) (L : List Value) (M : Mem) (Q : Option Value → Mem → Prop), Wp d 110 30 L [.ref a, .ref b] M Q ↔ (isK a 11 = true ∧ Wp d 110 33 L [.ref (rt a 3), .ref b] M Q)) ∧
    (∀ (d : Nat) (a : Nat) (b : Nat) (L : List Value) (M : Mem) (Q : Option Value → Mem → Prop), Wp d 110 33 L [.ref a, .ref b] M Q ↔ (isK a 9 = true ∧ Wp d 110 36 L [.ref (rt a 1), .ref b] M Q)) ∧
    (∀ (d : Nat) (a : Nat) (b : Nat) (L : List Value) (M : Mem) (Q : Option Value → Mem → Prop), Wp (d + 1) 110 36 L [.ref a, .ref b] M Q ↔ (isK b 4 = true ∧ Wp d 22 0 [.ref b, .ref a] [] M (fun r M2 => Wp (d + 1) 110 39 L (r.toList ++ []) M2 Q))) ∧
    (∀ (d : Nat) (x : Nat) (L : List Value) (M : Mem) (Q : Option Value → Mem → Prop), Wp d 110 39 (.ref x :: L) [] M Q ↔ Wp d 110 40 (.ref x :: L) [.ref x] M Q) ∧
    (∀ (d : Nat) (a : Nat) (v0 : Value) (v1 : Value) (x : Nat) (L : List Value) (M : Mem) (Q : Option Value → Mem → Prop), Wp d 110 40 (v0 :: v1 :: .ref x :: L) [.ref a] M Q ↔ Wp d 110 41 (v0 :: v1 :: .ref x :: L) [.ref x, .ref a] M Q) ∧
    (∀ (d : Nat) (a : Nat) (b : Nat) (L : List Value) (M : Mem) (Q : Option Value → Mem → Prop), Wp d 110 41 L [.ref a, .ref b] M Q ↔ (isK a 4 = true ∧ Wp d 110 44 L [.int (M a 2), .ref b] M Q)) ∧
    (∀ (d : Nat) (a : Int32) (b : Nat) (L : List Value) (M : Mem) (Q : Option Value → Mem → Prop), Wp d 110 44 L [.int a, .ref b] M Q ↔ (isK b 11 = true ∧ Wp d 110 47 L [] (up2 M b 11 a) Q)) ∧
    (∀ (d : Nat) (x : Nat) (L : List Value) (M : Mem) (Q : Option Value → Mem → Prop), Wp d 110 47 (.ref x :: L) [] M Q ↔ Wp d 110 48 (.ref x :: L) [.ref x] M Q) ∧
    (∀ (d : Nat) (a : Nat) (L : List Value) (M : Mem) (Q : Option Value → Mem → Prop), Wp d 110 48 L [.ref a] M Q ↔ (isK a 11 = true ∧ Wp d 110 51 L [.ref (rt a 5)] M Q)) ∧
    (∀ (d : Nat) (a : Nat) (L : List Value) (M : Mem) (Q : Option Value → Mem → Prop), Wp (d + 1) 110 51 L [.ref a] M Q ↔ (isK a 7 = true ∧ Wp d 28 0 [.ref a] [] M (fun r M2 => Wp (d + 1) 110 54 L (r.toList ++ []) M2 Q))) ∧
    (∀ (d : Nat) (L : List Value) (M : Mem) (Q : Option Value → Mem → Prop), Wp d 110 54 L [] M Q ↔ Wp d 110 55 L [.int 1] M Q) ∧
    (∀ (d : Nat) (a : Int32) (L : List Value) (M : Mem) (Q : Option Value → Mem → Prop), Wp d 110 55 L [.int a] M Q ↔ Q (some (.int a)) M) := by
  refine ⟨?_, ?_, ?_, ?_, ?_, ?_, ?_, ?_, ?_, ?_, ?_, ?_, ?_, ?_, ?_, ?_, ?_, ?_, ?_, ?_, ?_, ?_, ?_, ?_, ?_, ?_, ?_, ?_, ?_, ?_⟩
  · intro d v0 x L M Q; exact Wp_sim (by decide +kernel : decode (cd 110) 0 = .ok (.iload_n 1, 1)) rfl rfl
  · intro d a L M Q; exact q_zlt (by decide +kernel : decode (cd 110) 1 = .ok (.ifCond .lt 8, 3)) (by decide)
  · intro d v0 x L M Q; exact Wp_sim (by decide +kernel : decode (cd 110) 4 = .ok (.iload_n 1, 1)) rfl rfl
  · intro d a L M Q; exact Wp_sim (by decide +kernel : decode (cd 110) 5 = .ok (.iconst 1, 1)) rfl rfl
  · intro d a b L M Q; exact q_ile (by decide +kernel : decode (cd 110) 6 = .ok (.if_icmp .le 6, 3)) (by decide)
  · intro d L M Q; exact q_ldc (p := 505) (by decide +kernel : decode (cd 110) 9 = .ok (.ldc 170, 2)) (by decide +kernel)
  · intro d a L M Q; exact q_iret (by decide +kernel : decode (cd 110) 11 = .ok (.ireturn , 1)) (by decide +kernel)
  · intro d x L M Q; exact Wp_sim (by decide +kernel : decode (cd 110) 12 = .ok (.aload_n 0, 1)) rfl rfl
  · intro d a v0 x L M Q; exact Wp_sim (by decide +kernel : decode (cd 110) 13 = .ok (.iload_n 1, 1)) rfl rfl
  · intro d a b L M Q; exact q_invV (pz := 819) (n := 1) (c := 11) (m := 2) (k := b) (As := [.int a]) (rest := []) (by decide +kernel : decode (cd 110) 14 = .ok (.invokevirtual 322, 3)) (by decide +kernel) (by decide +kernel) rfl rfl (Nat.le_of_ble_eq_true rfl) (Nat.le_of_ble_eq_true rfl) rfl
  · intro d a v0 v1 x L M Q; exact Wp_sim (by decide +kernel : decode (cd 110) 17 = .ok (.astore_n 2, 1)) rfl rfl
  · intro d v0 v1 x L M Q; exact Wp_sim (by decide +kernel : decode (cd 110) 18 = .ok (.aload_n 2, 1)) rfl rfl
  · intro d a L M Q; exact q_getI (p := 252) (by decide +kernel : decode (cd 110) 19 = .ok (.getfield 103, 3)) (by decide +kernel) (by decide +kernel)
  · intro d a L M Q; exact q_zne (by decide +kernel : decode (cd 110) 22 = .ok (.ifCond .ne 6, 3)) (by decide)
  · intro d L M Q; exact q_ldc (p := 547) (by decide +kernel : decode (cd 110) 25 = .ok (.ldc 230, 2)) (by decide +kernel)
  · intro d a L M Q; exact q_iret (by decide +kernel : decode (cd 110) 27 = .ok (.ireturn , 1)) (by decide +kernel)
  · intro d v0 v1 x L M Q; exact Wp_sim (by decide +kernel : decode (cd 110) 28 = .ok (.aload_n 2, 1)) rfl rfl
  · intro d a x L M Q; exact Wp_sim (by decide +kernel : decode (cd 110) 29 = .ok (.aload_n 0, 1)) rfl rfl
  · intro d a b L M Q; exact q_getR (p := 301) (by decide +kernel : decode (cd 110) 30 = .ok (.getfield 33, 3)) (by decide +kernel) (by decide +kernel)
  · intro d a b L M Q; exact q_getR (p := 199) (by decide +kernel : decode (cd 110) 33 = .ok (.getfield 132, 3)) (by decide +kernel) (by decide +kernel)
  · intro d a b L M Q; exact q_invV (pz := 832) (n := 1) (c := 4) (m := 2) (k := b) (As := [.ref a]) (rest := []) (by decide +kernel : decode (cd 110) 36 = .ok (.invokevirtual 330, 3)) (by decide +kernel) (by decide +kernel) rfl rfl (Nat.le_of_ble_eq_true rfl) (Nat.le_of_ble_eq_true rfl) rfl
  · intro d x L M Q; exact Wp_sim (by decide +kernel : decode (cd 110) 39 = .ok (.aload_n 0, 1)) rfl rfl
  · intro d a v0 v1 x L M Q; exact Wp_sim (by decide +kernel : decode (cd 110) 40 = .ok (.aload_n 2, 1)) rfl rfl
  · intro d a b L M Q; exact q_getI (p := 254) (by decide +kernel : decode (cd 110) 41 = .ok (.getfield 333, 3)) (by decide +kernel) (by decide +kernel)
  · intro d a b L M Q; exact q_putI (p := 309) (by decide +kernel : decode (cd 110) 44 = .ok (.putfield 79, 3)) (by decide +kernel) (by decide +kernel)
  · intro d x L M Q; exact Wp_sim (by decide +kernel : decode (cd 110) 47 = .ok (.aload_n 0, 1)) rfl rfl
  · intro d a L M Q; exact q_getR (p := 303) (by decide +kernel : decode (cd 110) 48 = .ok (.getfield 47, 3)) (by decide +kernel) (by decide +kernel)
  · intro d a L M Q; exact q_invV (pz := 427) (n := 0) (c := 7) (m := 1) (k := a) (As := []) (rest := []) (by decide +kernel : decode (cd 110) 51 = .ok (.invokevirtual 100, 3)) (by decide +kernel) (by decide +kernel) rfl rfl (Nat.le_of_ble_eq_true rfl) (Nat.le_of_ble_eq_true rfl) rfl
  · intro d L M Q; exact Wp_sim (by decide +kernel : decode (cd 110) 54 = .ok (.iconst 1, 1)) rfl rfl
  · intro d a L M Q; exact q_iret (by decide +kernel : decode (cd 110) 55 = .ok (.ireturn , 1)) (by decide +kernel)
