/-! part 08d: the instructions of the methods 111 to 149 -/
/- 111: PalaceYardModel.feed -/
set_option maxRecDepth 10000 in
theorem e111 : (∀ (d : Nat) (v0 : Value) (x : Int32) (L : List Value) (M : Mem) (Q : Option Value → Mem → Prop), Wp d 111 0 (v0 :: .int x :: L) [] M Q ↔ Wp d 111 1 (v0 :: .int x :: L) [.int x] M Q) ∧
    (∀ (d : Nat) (a : Int32) (L : List Value) (M : Mem) (Q : Option Value → Mem → Prop), Wp d 111 1 L [.int a] M Q ↔ Wp d 111 2 L [.long a.toInt64] M Q) ∧
    (∀ (d : Nat) (a : Int64) (L : List Value) (M : Mem) (Q : Option Value → Mem → Prop), Wp d 111 2 L [.long a] M Q ↔ Wp d 111 3 L [.long 0, .long a] M Q) ∧
    (∀ (d : Nat) (a : Int64) (b : Int64) (L : List Value) (M : Mem) (Q : Option Value → Mem → Prop), Wp d 111 3 L [.long a, .long b] M Q ↔ Wp d 111 6 L [.long 255, .long a, .long b] M Q) ∧
    (∀ (d : Nat) (a : Int64) (b : Int64) (c : Int64) (L : List Value) (M : Mem) (Q : Option Value → Mem → Prop), Wp (d + 1) 111 6 L [.long a, .long b, .long c] M Q ↔ Wp d 112 0 [.long c, .null, .long b, .null, .long a, .null] [] M (fun r M2 => Wp (d + 1) 111 9 L (r.toList ++ []) M2 Q)) ∧
    (∀ (d : Nat) (a : Int32) (L : List Value) (M : Mem) (Q : Option Value → Mem → Prop), Wp d 111 9 L [.int a] M Q ↔ (if a = 0 then Wp d 111 12 L [] M Q else Wp d 111 15 L [] M Q)) ∧
    (∀ (d : Nat) (L : List Value) (M : Mem) (Q : Option Value → Mem → Prop), Wp d 111 12 L [] M Q ↔ Wp d 111 14 L [.int (-1000000002)] M Q) ∧
    (∀ (d : Nat) (a : Int32) (L : List Value) (M : Mem) (Q : Option Value → Mem → Prop), Wp d 111 14 L [.int a] M Q ↔ Q (some (.int a)) M) ∧
    (∀ (d : Nat) (x : Nat) (L : List Value) (M : Mem) (Q : Option Value → Mem → Prop), Wp d 111 15 (.ref x :: L) [] M Q ↔ Wp d 111 16 (.ref x :: L) [.ref x] M Q) ∧
    (∀ (d : Nat) (a : Nat) (L : List Value) (M : Mem) (Q : Option Value → Mem → Prop), Wp d 111 16 L [.ref a] M Q ↔ (isK a 12 = true ∧ Wp d 111 19 L [.int (M a 10)] M Q)) ∧
    (∀ (d : Nat) (a : Int32) (L : List Value) (M : Mem) (Q : Option Value → Mem → Prop), Wp d 111 19 L [.int a] M Q ↔ Wp d 111 22 L [.int 240, .int a] M Q) ∧
    (∀ (d : Nat) (a : Int32) (b : Int32) (L : List Value) (M : Mem) (Q : Option Value → Mem → Prop), Wp d 111 22 L [.int a, .int b] M Q ↔ (if b = a then Wp d 111 25 L [] M Q else Wp d 111 28 L [] M Q)) ∧
    (∀ (d : Nat) (L : List Value) (M : Mem) (Q : Option Value → Mem → Prop), Wp d 111 25 L [] M Q ↔ Wp d 111 27 L [.int (-1000000004)] M Q) ∧
    (∀ (d : Nat) (a : Int32) (L : List Value) (M : Mem) (Q : Option Value → Mem → Prop), Wp d 111 27 L [.int a] M Q ↔ Q (some (.int a)) M) ∧
    (∀ (d : Nat) (x : Nat) (L : List Value) (M : Mem) (Q : Option Value → Mem → Prop), Wp d 111 28 (.ref x :: L) [] M Q ↔ Wp d 111 29 (.ref x :: L) [.ref x] M Q) ∧
    (∀ (d : Nat) (a : Nat) (L : List Value) (M : Mem) (Q : Option Value → Mem → Prop), Wp d 111 29 L [.ref a] M Q ↔ (isK a 12 = true ∧ Wp d 111 32 L [.ref (rt a 9)] M Q)) ∧
    (∀ (d : Nat) (a : Nat) (x : Nat) (L : List Value) (M : Mem) (Q : Option Value → Mem → Prop), Wp d 111 32 (.ref x :: L) [.ref a] M Q ↔ Wp d 111 33 (.ref x :: L) [.ref x, .ref a] M Q) ∧
    (∀ (d : Nat) (a : Nat) (b : Nat) (L : List Value) (M : Mem) (Q : Option Value → Mem → Prop), Wp d 111 33 L [.ref a, .ref b] M Q ↔ (isK a 12 = true ∧ Wp d 111 36 L [.int (M a 10), .ref b] M Q)) ∧
    (∀ (d : Nat) (a : Int32) (b : Nat) (v0 : Value) (x : Int32) (L : List Value) (M : Mem) (Q : Option Value → Mem → Prop), Wp d 111 36 (v0 :: .int x :: L) [.int a, .ref b] M Q ↔ Wp d 111 37 (v0 :: .int x :: L) [.int x, .int a, .ref b] M Q) ∧
    (∀ (d : Nat) (a : Int32) (b : Int32) (c : Nat) (L : List Value) (M : Mem) (Q : Option Value → Mem → Prop), Wp d 111 37 L [.int a, .int b, .ref c] M Q ↔ ((isK c 13 = true ∧ inr b (lnm M c)) ∧ Wp d 111 38 L [] (up2 M c b.toNatClampNeg a) Q)) ∧
    (∀ (d : Nat) (x : Nat) (L : List Value) (M : Mem) (Q : Option Value → Mem → Prop), Wp d 111 38 (.ref x :: L) [] M Q ↔ Wp d 111 39 (.ref x :: L) [.ref x] M Q) ∧
    (∀ (d : Nat) (a : Nat) (L : List Value) (M : Mem) (Q : Option Value → Mem → Prop), Wp d 111 39 L [.ref a] M Q ↔ Wp d 111 40 L [.ref a, .ref a] M Q) ∧
    (∀ (d : Nat) (a : Nat) (b : Nat) (L : List Value) (M : Mem) (Q : Option Value → Mem → Prop), Wp d 111 40 L [.ref a, .ref b] M Q ↔ (isK a 12 = true ∧ Wp d 111 43 L [.int (M a 10), .ref b] M Q)) ∧
    (∀ (d : Nat) (a : Int32) (b : Nat) (L : List Value) (M : Mem) (Q : Option Value → Mem → Prop), Wp d 111 43 L [.int a, .ref b] M Q ↔ Wp d 111 44 L [.int 1, .int a, .ref b] M Q) ∧
    (∀ (d : Nat) (a : Int32) (b : Int32) (c : Nat) (L : List Value) (M : Mem) (Q : Option Value → Mem → Prop), Wp d 111 44 L [.int a, .int b, .ref c] M Q ↔ Wp d 111 45 L [.int (b + a), .ref c] M Q) ∧
    (∀ (d : Nat) (a : Int32) (b : Nat) (L : List Value) (M : Mem) (Q : Option Value → Mem → Prop), Wp d 111 45 L [.int a, .ref b] M Q ↔ (isK b 12 = true ∧ Wp d 111 48 L [] (up2 M b 10 a) Q)) ∧
    (∀ (d : Nat) (x : Nat) (L : List Value) (M : Mem) (Q : Option Value → Mem → Prop), Wp d 111 48 (.ref x :: L) [] M Q ↔ Wp d 111 49 (.ref x :: L) [.ref x] M Q) ∧
    (∀ (d : Nat) (a : Nat) (L : List Value) (M : Mem) (Q : Option Value → Mem → Prop), Wp d 111 49 L [.ref a] M Q ↔ (isK a 12 = true ∧ Wp d 111 52 L [.int (M a 10)] M Q)) ∧
    (∀ (d : Nat) (a : Int32) (L : List Value) (M : Mem) (Q : Option Value → Mem → Prop), Wp d 111 52 L [.int a] M Q ↔ Q (some (.int a)) M) := by
  refine ⟨?_, ?_, ?_, ?_, ?_, ?_, ?_, ?_, ?_, ?_, ?_, ?_, ?_, ?_, ?_, ?_, ?_, ?_, ?_, ?_, ?_, ?_, ?_, ?_, ?_, ?_, ?_, ?_, ?_⟩
  · intro d v0 x L M Q; exact Wp_sim (by decide +kernel : decode (cd 111) 0 = .ok (.iload_n 1, 1)) rfl rfl
  · intro d a L M Q; exact Wp_sim (by decide +kernel : decode (cd 111) 1 = .ok (.i2l , 1)) rfl rfl
  · intro d a L M Q; exact Wp_sim (by decide +kernel : decode (cd 111) 2 = .ok (.lconst 0, 1)) rfl rfl
  · intro d a b L M Q; exact q_ldc2 (p := 936) (by decide +kernel : decode (cd 111) 3 = .ok (.ldc2_w 73, 3)) (by decide +kernel)
  · intro d a b c L M Q; exact q_invS (pz := 937) (n := 3) (m := 6) (As := [.long c, .long b, .long a]) (rest := []) (by decide +kernel : decode (cd 111) 6 = .ok (.invokestatic 75, 3)) (by decide +kernel) (by decide +kernel) (by decide +kernel) rfl rfl (Nat.le_of_ble_eq_true rfl) (Nat.le_of_ble_eq_true rfl) rfl
  · intro d a L M Q; exact q_zne (by decide +kernel : decode (cd 111) 9 = .ok (.ifCond .ne 6, 3)) (by decide)
  · intro d L M Q; exact q_ldc (p := 940) (by decide +kernel : decode (cd 111) 12 = .ok (.ldc 79, 2)) (by decide +kernel)
  · intro d a L M Q; exact q_iret (by decide +kernel : decode (cd 111) 14 = .ok (.ireturn , 1)) (by decide +kernel)
  · intro d x L M Q; exact Wp_sim (by decide +kernel : decode (cd 111) 15 = .ok (.aload_n 0, 1)) rfl rfl
  · intro d a L M Q; exact q_getI (p := 853) (by decide +kernel : decode (cd 111) 16 = .ok (.getfield 80, 3)) (by decide +kernel) (by decide +kernel)
  · intro d a L M Q; exact Wp_sim (by decide +kernel : decode (cd 111) 19 = .ok (.sipush 240, 3)) rfl rfl
  · intro d a b L M Q; exact q_ine (by decide +kernel : decode (cd 111) 22 = .ok (.if_icmp .ne 6, 3)) (by decide)
  · intro d L M Q; exact q_ldc (p := 941) (by decide +kernel : decode (cd 111) 25 = .ok (.ldc 83, 2)) (by decide +kernel)
  · intro d a L M Q; exact q_iret (by decide +kernel : decode (cd 111) 27 = .ok (.ireturn , 1)) (by decide +kernel)
  · intro d x L M Q; exact Wp_sim (by decide +kernel : decode (cd 111) 28 = .ok (.aload_n 0, 1)) rfl rfl
  · intro d a L M Q; exact q_getR (p := 852) (by decide +kernel : decode (cd 111) 29 = .ok (.getfield 32, 3)) (by decide +kernel) (by decide +kernel)
  · intro d a x L M Q; exact Wp_sim (by decide +kernel : decode (cd 111) 32 = .ok (.aload_n 0, 1)) rfl rfl
  · intro d a b L M Q; exact q_getI (p := 853) (by decide +kernel : decode (cd 111) 33 = .ok (.getfield 80, 3)) (by decide +kernel) (by decide +kernel)
  · intro d a b v0 x L M Q; exact Wp_sim (by decide +kernel : decode (cd 111) 36 = .ok (.iload_n 1, 1)) rfl rfl
  · intro d a b c L M Q; exact q_ast (by decide +kernel : decode (cd 111) 37 = .ok (.iastore , 1))
  · intro d x L M Q; exact Wp_sim (by decide +kernel : decode (cd 111) 38 = .ok (.aload_n 0, 1)) rfl rfl
  · intro d a L M Q; exact Wp_sim (by decide +kernel : decode (cd 111) 39 = .ok (.dup , 1)) rfl rfl
  · intro d a b L M Q; exact q_getI (p := 853) (by decide +kernel : decode (cd 111) 40 = .ok (.getfield 80, 3)) (by decide +kernel) (by decide +kernel)
  · intro d a b L M Q; exact Wp_sim (by decide +kernel : decode (cd 111) 43 = .ok (.iconst 1, 1)) rfl rfl
  · intro d a b c L M Q; exact Wp_sim (by decide +kernel : decode (cd 111) 44 = .ok (.iadd , 1)) rfl rfl
  · intro d a b L M Q; exact q_putI (p := 853) (by decide +kernel : decode (cd 111) 45 = .ok (.putfield 80, 3)) (by decide +kernel) (by decide +kernel)
  · intro d x L M Q; exact Wp_sim (by decide +kernel : decode (cd 111) 48 = .ok (.aload_n 0, 1)) rfl rfl
  · intro d a L M Q; exact q_getI (p := 853) (by decide +kernel : decode (cd 111) 49 = .ok (.getfield 80, 3)) (by decide +kernel) (by decide +kernel)
  · intro d a L M Q; exact q_iret (by decide +kernel : decode (cd 111) 52 = .ok (.ireturn , 1)) (by decide +kernel)

/- 112: PalaceYardModel.in -/
set_option maxRecDepth 10000 in
theorem e112 : (∀ (d : Nat) (x : Int64) (L : List Value) (M : Mem) (Q : Option Value → Mem → Prop), Wp d 112 0 (.long x :: L) [] M Q ↔ Wp d 112 1 (.long x :: L) [.long x] M Q) ∧
    (∀ (d : Nat) (a : Int64) (v0 : Value) (v1 : Value) (x : Int64) (L : List Value) (M : Mem) (Q : Option Value → Mem → Prop), Wp d 112 1 (v0 :: v1 :: .long x :: L) [.long a] M Q ↔ Wp d 112 2 (v0 :: v1 :: .long x :: L) [.long x, .long a] M Q) ∧
    (∀ (d : Nat) (a : Int64) (b : Int64) (L : List Value) (M : Mem) (Q : Option Value → Mem → Prop), Wp d 112 2 L [.long a, .long b] M Q ↔ Wp d 112 3 L [.int (lg_cmp b a)] M Q) ∧
    (∀ (d : Nat) (a : Int32) (L : List Value) (M : Mem) (Q : Option Value → Mem → Prop), Wp d 112 3 L [.int a] M Q ↔ (if a < 0 then Wp d 112 17 L [] M Q else Wp d 112 6 L [] M Q)) ∧
    (∀ (d : Nat) (x : Int64) (L : List Value) (M : Mem) (Q : Option Value → Mem → Prop), Wp d 112 6 (.long x :: L) [] M Q ↔ Wp d 112 7 (.long x :: L) [.long x] M Q) ∧
    (∀ (d : Nat) (a : Int64) (v0 : Value) (v1 : Value) (v2 : Value) (v3 : Value) (x : Int64) (L : List Value) (M : Mem) (Q : Option Value → Mem → Prop), Wp d 112 7 (v0 :: v1 :: v2 :: v3 :: .long x :: L) [.long a] M Q ↔ Wp d 112 9 (v0 :: v1 :: v2 :: v3 :: .long x :: L) [.long x, .long a] M Q) ∧
    (∀ (d : Nat) (a : Int64) (b : Int64) (L : List Value) (M : Mem) (Q : Option Value → Mem → Prop), Wp d 112 9 L [.long a, .long b] M Q ↔ Wp d 112 10 L [.int (lg_cmp b a)] M Q) ∧
    (∀ (d : Nat) (a : Int32) (L : List Value) (M : Mem) (Q : Option Value → Mem → Prop), Wp d 112 10 L [.int a] M Q ↔ (if 0 < a then Wp d 112 17 L [] M Q else Wp d 112 13 L [] M Q)) ∧
    (∀ (d : Nat) (L : List Value) (M : Mem) (Q : Option Value → Mem → Prop), Wp d 112 13 L [] M Q ↔ Wp d 112 14 L [.int 1] M Q) ∧
    (∀ (d : Nat) (a : Int32) (L : List Value) (M : Mem) (Q : Option Value → Mem → Prop), Wp d 112 14 L [.int a] M Q ↔ Wp d 112 18 L [.int a] M Q) ∧
    (∀ (d : Nat) (L : List Value) (M : Mem) (Q : Option Value → Mem → Prop), Wp d 112 17 L [] M Q ↔ Wp d 112 18 L [.int 0] M Q) ∧
    (∀ (d : Nat) (a : Int32) (L : List Value) (M : Mem) (Q : Option Value → Mem → Prop), Wp d 112 18 L [.int a] M Q ↔ ((a = 0 ∨ a = 1) ∧ Q (some (.int a)) M)) := by
  refine ⟨?_, ?_, ?_, ?_, ?_, ?_, ?_, ?_, ?_, ?_, ?_, ?_⟩
  · intro d x L M Q; exact Wp_sim (by decide +kernel : decode (cd 112) 0 = .ok (.lload_n 0, 1)) rfl rfl
  · intro d a v0 v1 x L M Q; exact Wp_sim (by decide +kernel : decode (cd 112) 1 = .ok (.lload_n 2, 1)) rfl rfl
  · intro d a b L M Q; exact Wp_sim (by decide +kernel : decode (cd 112) 2 = .ok (.lcmp , 1)) rfl rfl
  · intro d a L M Q; exact q_zlt (by decide +kernel : decode (cd 112) 3 = .ok (.ifCond .lt 14, 3)) (by decide)
  · intro d x L M Q; exact Wp_sim (by decide +kernel : decode (cd 112) 6 = .ok (.lload_n 0, 1)) rfl rfl
  · intro d a v0 v1 v2 v3 x L M Q; exact Wp_sim (by decide +kernel : decode (cd 112) 7 = .ok (.lload 4, 2)) rfl rfl
  · intro d a b L M Q; exact Wp_sim (by decide +kernel : decode (cd 112) 9 = .ok (.lcmp , 1)) rfl rfl
  · intro d a L M Q; exact q_zgt (by decide +kernel : decode (cd 112) 10 = .ok (.ifCond .gt 7, 3)) (by decide)
  · intro d L M Q; exact Wp_sim (by decide +kernel : decode (cd 112) 13 = .ok (.iconst 1, 1)) rfl rfl
  · intro d a L M Q; exact q_goto (by decide +kernel : decode (cd 112) 14 = .ok (.goto 4, 3)) (by decide)
  · intro d L M Q; exact Wp_sim (by decide +kernel : decode (cd 112) 17 = .ok (.iconst 0, 1)) rfl rfl
  · intro d a L M Q; exact q_zret (by decide +kernel : decode (cd 112) 18 = .ok (.ireturn , 1)) (by decide +kernel)

/- 113: PalaceYardModel.yard -/
set_option maxRecDepth 10000 in
theorem e113_0 : (∀ (d : Nat) (L : List Value) (M : Mem) (Q : Option Value → Mem → Prop), Wp d 113 0 L [] M Q ↔ Wp d 113 1 L [.int 0] M Q) ∧
    (∀ (d : Nat) (a : Int32) (v0 : Value) (x : Value) (L : List Value) (M : Mem) (Q : Option Value → Mem → Prop), Wp d 113 1 (v0 :: x :: L) [.int a] M Q ↔ Wp d 113 2 (clr v0 :: .int a :: L) [] M Q) ∧
    (∀ (d : Nat) (a : Int32) (L : List Value) (M : Mem) (Q : Option Value → Mem → Prop), Wp d 113 3 L [.int a] M Q ↔ Wp d 113 5 L [.int 50, .int a] M Q) ∧
    (∀ (d : Nat) (a : Int32) (b : Int32) (L : List Value) (M : Mem) (Q : Option Value → Mem → Prop), Wp d 113 5 L [.int a, .int b] M Q ↔ (if b < a then Wp d 113 8 L [] M Q else Wp d 113 21 L [] M Q)) ∧
    (∀ (d : Nat) (x : Nat) (L : List Value) (M : Mem) (Q : Option Value → Mem → Prop), Wp d 113 8 (.ref x :: L) [] M Q ↔ Wp d 113 9 (.ref x :: L) [.ref x] M Q) ∧
    (∀ (d : Nat) (a : Nat) (L : List Value) (M : Mem) (Q : Option Value → Mem → Prop), Wp d 113 9 L [.ref a] M Q ↔ (isK a 12 = true ∧ Wp d 113 12 L [.ref (rt a 1)] M Q)) ∧
    (∀ (d : Nat) (a : Nat) (v0 : Value) (x : Int32) (L : List Value) (M : Mem) (Q : Option Value → Mem → Prop), Wp d 113 12 (v0 :: .int x :: L) [.ref a] M Q ↔ Wp d 113 13 (v0 :: .int x :: L) [.int x, .ref a] M Q) ∧
    (∀ (d : Nat) (a : Int32) (b : Nat) (L : List Value) (M : Mem) (Q : Option Value → Mem → Prop), Wp d 113 13 L [.int a, .ref b] M Q ↔ Wp d 113 14 L [.int 0, .int a, .ref b] M Q) ∧
    (∀ (d : Nat) (a : Int32) (b : Int32) (c : Nat) (L : List Value) (M : Mem) (Q : Option Value → Mem → Prop), Wp d 113 14 L [.int a, .int b, .ref c] M Q ↔ ((isK c 13 = true ∧ inr b (lnm M c)) ∧ Wp d 113 15 L [] (up2 M c b.toNatClampNeg a) Q)) ∧
    (∀ (d : Nat) (v0 : Value) (x : Int32) (L : List Value) (M : Mem) (Q : Option Value → Mem → Prop), Wp d 113 15 (v0 :: .int x :: L) [] M Q ↔ Wp d 113 18 (clr v0 :: .int (x + 1) :: L) [] M Q) ∧
    (∀ (d : Nat) (L : List Value) (M : Mem) (Q : Option Value → Mem → Prop), Wp d 113 18 L [] M Q ↔ Wp d 113 2 L [] M Q) ∧
    (∀ (d : Nat) (x : Nat) (L : List Value) (M : Mem) (Q : Option Value → Mem → Prop), Wp d 113 21 (.ref x :: L) [] M Q ↔ Wp d 113 22 (.ref x :: L) [.ref x] M Q) ∧
    (∀ (d : Nat) (a : Nat) (L : List Value) (M : Mem) (Q : Option Value → Mem → Prop), Wp d 113 22 L [.ref a] M Q ↔ Wp d 113 23 L [.int 0, .ref a] M Q) ∧
    (∀ (d : Nat) (a : Int32) (b : Nat) (L : List Value) (M : Mem) (Q : Option Value → Mem → Prop), Wp d 113 23 L [.int a, .ref b] M Q ↔ (isK b 12 = true ∧ Wp d 113 26 L [] (up2 M b 16 a) Q)) ∧
    (∀ (d : Nat) (x : Nat) (L : List Value) (M : Mem) (Q : Option Value → Mem → Prop), Wp d 113 26 (.ref x :: L) [] M Q ↔ Wp d 113 27 (.ref x :: L) [.ref x] M Q) ∧
    (∀ (d : Nat) (a : Nat) (L : List Value) (M : Mem) (Q : Option Value → Mem → Prop), Wp d 113 27 L [.ref a] M Q ↔ Wp d 113 28 L [.int (-1), .ref a] M Q) ∧
    (∀ (d : Nat) (a : Int32) (b : Nat) (L : List Value) (M : Mem) (Q : Option Value → Mem → Prop), Wp d 113 28 L [.int a, .ref b] M Q ↔ (isK b 12 = true ∧ Wp d 113 31 L [] (up2 M b 11 a) Q)) ∧
    (∀ (d : Nat) (L : List Value) (M : Mem) (Q : Option Value → Mem → Prop), Wp d 113 31 L [] M Q ↔ Wp d 113 32 L [.int 1] M Q) ∧
    (∀ (d : Nat) (a : Int32) (v0 : Value) (x : Value) (L : List Value) (M : Mem) (Q : Option Value → Mem → Prop), Wp d 113 32 (v0 :: x :: L) [.int a] M Q ↔ Wp d 113 33 (clr v0 :: .int a :: L) [] M Q) ∧
    (∀ (d : Nat) (x : Nat) (L : List Value) (M : Mem) (Q : Option Value → Mem → Prop), Wp d 113 33 (.ref x :: L) [] M Q ↔ Wp d 113 34 (.ref x :: L) [.ref x] M Q) ∧
    (∀ (d : Nat) (a : Nat) (L : List Value) (M : Mem) (Q : Option Value → Mem → Prop), Wp (d + 1) 113 34 L [.ref a] M Q ↔ (isK a 12 = true ∧ Wp d 114 0 [.ref a] [] M (fun r M2 => Wp (d + 1) 113 37 L (r.toList ++ []) M2 Q))) ∧
    (∀ (d : Nat) (a : Nat) (L : List Value) (M : Mem) (Q : Option Value → Mem → Prop), Wp d 113 38 L [.ref a] M Q ↔ (isK a 12 = true ∧ Wp d 113 41 L [.int (M a 18)] M Q)) ∧
    (∀ (d : Nat) (a : Int32) (L : List Value) (M : Mem) (Q : Option Value → Mem → Prop), Wp d 113 41 L [.int a] M Q ↔ (if a < 0 then Wp d 113 64 L [] M Q else Wp d 113 44 L [] M Q)) ∧
    (∀ (d : Nat) (v0 : Value) (x : Int32) (L : List Value) (M : Mem) (Q : Option Value → Mem → Prop), Wp d 113 44 (v0 :: .int x :: L) [] M Q ↔ Wp d 113 45 (v0 :: .int x :: L) [.int x] M Q) ∧
    (∀ (d : Nat) (a : Int32) (L : List Value) (M : Mem) (Q : Option Value → Mem → Prop), Wp d 113 45 L [.int a] M Q ↔ (if a = 0 then Wp d 113 64 L [] M Q else Wp d 113 48 L [] M Q)) ∧
    (∀ (d : Nat) (x : Nat) (L : List Value) (M : Mem) (Q : Option Value → Mem → Prop), Wp d 113 48 (.ref x :: L) [] M Q ↔ Wp d 113 49 (.ref x :: L) [.ref x] M Q) ∧
    (∀ (d : Nat) (a : Nat) (L : List Value) (M : Mem) (Q : Option Value → Mem → Prop), Wp (d + 1) 113 49 L [.ref a] M Q ↔ (isK a 12 = true ∧ Wp d 116 0 [.ref a] [] M (fun r M2 => Wp (d + 1) 113 52 L (r.toList ++ []) M2 Q))) ∧
    (∀ (d : Nat) (a : Int32) (v0 : Value) (x : Value) (L : List Value) (M : Mem) (Q : Option Value → Mem → Prop), Wp d 113 52 (v0 :: x :: L) [.int a] M Q ↔ Wp d 113 53 (clr v0 :: .int a :: L) [] M Q) ∧
    (∀ (d : Nat) (v0 : Value) (x : Int32) (L : List Value) (M : Mem) (Q : Option Value → Mem → Prop), Wp d 113 53 (v0 :: .int x :: L) [] M Q ↔ Wp d 113 54 (v0 :: .int x :: L) [.int x] M Q) ∧
    (∀ (d : Nat) (a : Int32) (L : List Value) (M : Mem) (Q : Option Value → Mem → Prop), Wp d 113 54 L [.int a] M Q ↔ (if a = 0 then Wp d 113 37 L [] M Q else Wp d 113 57 L [] M Q)) ∧
    (∀ (d : Nat) (x : Nat) (L : List Value) (M : Mem) (Q : Option Value → Mem → Prop), Wp d 113 57 (.ref x :: L) [] M Q ↔ Wp d 113 58 (.ref x :: L) [.ref x] M Q) ∧
    (∀ (d : Nat) (a : Nat) (L : List Value) (M : Mem) (Q : Option Value → Mem → Prop), Wp (d + 1) 113 58 L [.ref a] M Q ↔ (isK a 12 = true ∧ Wp d 114 0 [.ref a] [] M (fun r M2 => Wp (d + 1) 113 61 L (r.toList ++ []) M2 Q))) ∧
    (∀ (d : Nat) (L : List Value) (M : Mem) (Q : Option Value → Mem → Prop), Wp d 113 61 L [] M Q ↔ Wp d 113 37 L [] M Q) ∧
    (∀ (d : Nat) (x : Nat) (L : List Value) (M : Mem) (Q : Option Value → Mem → Prop), Wp d 113 64 (.ref x :: L) [] M Q ↔ Wp d 113 65 (.ref x :: L) [.ref x] M Q) ∧
    (∀ (d : Nat) (a : Nat) (L : List Value) (M : Mem) (Q : Option Value → Mem → Prop), Wp d 113 65 L [.ref a] M Q ↔ Wp d 113 66 L [.int 0, .ref a] M Q) ∧
    (∀ (d : Nat) (a : Int32) (b : Nat) (L : List Value) (M : Mem) (Q : Option Value → Mem → Prop), Wp d 113 66 L [.int a, .ref b] M Q ↔ (isK b 12 = true ∧ Wp d 113 69 L [] (up2 M b 10 a) Q)) ∧
    (∀ (d : Nat) (v0 : Value) (x : Int32) (L : List Value) (M : Mem) (Q : Option Value → Mem → Prop), Wp d 113 69 (v0 :: .int x :: L) [] M Q ↔ Wp d 113 70 (v0 :: .int x :: L) [.int x] M Q) ∧
    (∀ (d : Nat) (a : Int32) (L : List Value) (M : Mem) (Q : Option Value → Mem → Prop), Wp d 113 70 L [.int a] M Q ↔ (if a = 0 then Wp d 113 73 L [] M Q else Wp d 113 89 L [] M Q)) ∧
    (∀ (d : Nat) (x : Nat) (L : List Value) (M : Mem) (Q : Option Value → Mem → Prop), Wp d 113 73 (.ref x :: L) [] M Q ↔ Wp d 113 74 (.ref x :: L) [.ref x] M Q) ∧
    (∀ (d : Nat) (a : Nat) (x : Nat) (L : List Value) (M : Mem) (Q : Option Value → Mem → Prop), Wp d 113 74 (.ref x :: L) [.ref a] M Q ↔ Wp d 113 75 (.ref x :: L) [.ref x, .ref a] M Q) ∧
    (∀ (d : Nat) (a : Nat) (b : Nat) (L : List Value) (M : Mem) (Q : Option Value → Mem → Prop), Wp d 113 75 L [.ref a, .ref b] M Q ↔ (isK a 12 = true ∧ Wp d 113 78 L [.int (M a 17), .ref b] M Q)) ∧
    (∀ (d : Nat) (a : Int32) (b : Nat) (L : List Value) (M : Mem) (Q : Option Value → Mem → Prop), Wp d 113 78 L [.int a, .ref b] M Q ↔ (isK b 12 = true ∧ Wp d 113 81 L [] (up2 M b 11 a) Q)) ∧
    (∀ (d : Nat) (L : List Value) (M : Mem) (Q : Option Value → Mem → Prop), Wp d 113 81 L [] M Q ↔ Wp d 113 83 L [.int (-10)] M Q) ∧
    (∀ (d : Nat) (a : Int32) (x : Nat) (L : List Value) (M : Mem) (Q : Option Value → Mem → Prop), Wp d 113 83 (.ref x :: L) [.int a] M Q ↔ Wp d 113 84 (.ref x :: L) [.ref x, .int a] M Q) ∧
    (∀ (d : Nat) (a : Nat) (b : Int32) (L : List Value) (M : Mem) (Q : Option Value → Mem → Prop), Wp d 113 84 L [.ref a, .int b] M Q ↔ (isK a 12 = true ∧ Wp d 113 87 L [.int (M a 21), .int b] M Q)) ∧
    (∀ (d : Nat) (a : Int32) (b : Int32) (L : List Value) (M : Mem) (Q : Option Value → Mem → Prop), Wp d 113 87 L [.int a, .int b] M Q ↔ Wp d 113 88 L [.int (b - a)] M Q) ∧
    (∀ (d : Nat) (a : Int32) (L : List Value) (M : Mem) (Q : Option Value → Mem → Prop), Wp d 113 88 L [.int a] M Q ↔ Q (some (.int a)) M) ∧
    (∀ (d : Nat) (x : Nat) (L : List Value) (M : Mem) (Q : Option Value → Mem → Prop), Wp d 113 89 (.ref x :: L) [] M Q ↔ Wp d 113 90 (.ref x :: L) [.ref x] M Q) ∧
    (∀ (d : Nat) (a : Nat) (L : List Value) (M : Mem) (Q : Option Value → Mem → Prop), Wp d 113 90 L [.ref a] M Q ↔ (isK a 12 = true ∧ Wp d 113 93 L [.ref (rt a 1)] M Q)) ∧
    (∀ (d : Nat) (a : Nat) (L : List Value) (M : Mem) (Q : Option Value → Mem → Prop), Wp d 113 93 L [.ref a] M Q ↔ Wp d 113 94 L [.int 0, .ref a] M Q) ∧
    (∀ (d : Nat) (a : Int32) (b : Nat) (x : Nat) (L : List Value) (M : Mem) (Q : Option Value → Mem → Prop), Wp d 113 94 (.ref x :: L) [.int a, .ref b] M Q ↔ Wp d 113 95 (.ref x :: L) [.ref x, .int a, .ref b] M Q) ∧
    (∀ (d : Nat) (a : Nat) (b : Int32) (c : Nat) (L : List Value) (M : Mem) (Q : Option Value → Mem → Prop), Wp d 113 95 L [.ref a, .int b, .ref c] M Q ↔ (isK a 12 = true ∧ Wp d 113 98 L [.ref (rt a 0), .int b, .ref c] M Q)) ∧
    (∀ (d : Nat) (a : Nat) (b : Int32) (c : Nat) (L : List Value) (M : Mem) (Q : Option Value → Mem → Prop), Wp d 113 98 L [.ref a, .int b, .ref c] M Q ↔ Wp d 113 99 L [.int 0, .ref a, .int b, .ref c] M Q) ∧
    (∀ (d : Nat) (a : Int32) (b : Nat) (c : Int32) (d2 : Nat) (L : List Value) (M : Mem) (Q : Option Value → Mem → Prop), Wp d 113 99 L [.int a, .ref b, .int c, .ref d2] M Q ↔ Wp d 113 101 L [.int 50, .int a, .ref b, .int c, .ref d2] M Q) ∧
    (∀ (d : Nat) (a : Int32) (b : Int32) (c : Nat) (d2 : Int32) (e : Nat) (L : List Value) (M : Mem) (Q : Option Value → Mem → Prop), Wp (d + 1) 113 101 L [.int a, .int b, .ref c, .int d2, .ref e] M Q ↔ Wp d 123 0 [.ref e, .int d2, .ref c, .int b, .int a, .null] [] M (fun r M2 => Wp (d + 1) 113 104 L (r.toList ++ []) M2 Q)) ∧
    (∀ (d : Nat) (x : Nat) (L : List Value) (M : Mem) (Q : Option Value → Mem → Prop), Wp d 113 104 (.ref x :: L) [] M Q ↔ Wp d 113 105 (.ref x :: L) [.ref x] M Q) ∧
    (∀ (d : Nat) (a : Nat) (L : List Value) (M : Mem) (Q : Option Value → Mem → Prop), Wp (d + 1) 113 105 L [.ref a] M Q ↔ (isK a 12 = true ∧ Wp d 124 0 [.ref a, .null] [] M (fun r M2 => Wp (d + 1) 113 108 L (r.toList ++ []) M2 Q))) ∧
    (∀ (d : Nat) (x : Nat) (L : List Value) (M : Mem) (Q : Option Value → Mem → Prop), Wp d 113 108 (.ref x :: L) [] M Q ↔ Wp d 113 109 (.ref x :: L) [.ref x] M Q) ∧
    (∀ (d : Nat) (a : Nat) (L : List Value) (M : Mem) (Q : Option Value → Mem → Prop), Wp d 113 109 L [.ref a] M Q ↔ (isK a 12 = true ∧ Wp d 113 112 L [.ref (rt a 0)] M Q)) ∧
    (∀ (d : Nat) (a : Nat) (L : List Value) (M : Mem) (Q : Option Value → Mem → Prop), Wp d 113 112 L [.ref a] M Q ↔ Wp d 113 113 L [.int 4, .ref a] M Q) := by
  refine ⟨?_, ?_, ?_, ?_, ?_, ?_, ?_, ?_, ?_, ?_, ?_, ?_, ?_, ?_, ?_, ?_, ?_, ?_, ?_, ?_, ?_, ?_, ?_, ?_, ?_, ?_, ?_, ?_, ?_, ?_, ?_, ?_, ?_, ?_, ?_, ?_, ?_, ?_, ?_, ?_, ?_, ?_, ?_, ?_, ?_, ?_, ?_, ?_, ?_, ?_, ?_, ?_, ?_, ?_, ?_, ?_, ?_, ?_, ?_, ?_⟩
  · intro d L M Q; exact Wp_sim (by decide +kernel : decode (cd 113) 0 = .ok (.iconst 0, 1)) rfl rfl
  · intro d a v0 x L M Q; exact Wp_sim (by decide +kernel : decode (cd 113) 1 = .ok (.istore_n 1, 1)) rfl rfl
  · intro d a L M Q; exact Wp_sim (by decide +kernel : decode (cd 113) 3 = .ok (.bipush 50, 2)) rfl rfl
  · intro d a b L M Q; exact q_ige (by decide +kernel : decode (cd 113) 5 = .ok (.if_icmp .ge 16, 3)) (by decide)
  · intro d x L M Q; exact Wp_sim (by decide +kernel : decode (cd 113) 8 = .ok (.aload_n 0, 1)) rfl rfl
  · intro d a L M Q; exact q_getR (p := 844) (by decide +kernel : decode (cd 113) 9 = .ok (.getfield 13, 3)) (by decide +kernel) (by decide +kernel)
  · intro d a v0 x L M Q; exact Wp_sim (by decide +kernel : decode (cd 113) 12 = .ok (.iload_n 1, 1)) rfl rfl
  · intro d a b L M Q; exact Wp_sim (by decide +kernel : decode (cd 113) 13 = .ok (.iconst 0, 1)) rfl rfl
  · intro d a b c L M Q; exact q_ast (by decide +kernel : decode (cd 113) 14 = .ok (.iastore , 1))
  · intro d v0 x L M Q; exact Wp_sim (by decide +kernel : decode (cd 113) 15 = .ok (.iinc 1 1, 3)) rfl rfl
  · intro d L M Q; exact q_goto (by decide +kernel : decode (cd 113) 18 = .ok (.goto (-16), 3)) (by decide)
  · intro d x L M Q; exact Wp_sim (by decide +kernel : decode (cd 113) 21 = .ok (.aload_n 0, 1)) rfl rfl
  · intro d a L M Q; exact Wp_sim (by decide +kernel : decode (cd 113) 22 = .ok (.iconst 0, 1)) rfl rfl
  · intro d a b L M Q; exact q_putI (p := 859) (by decide +kernel : decode (cd 113) 23 = .ok (.putfield 84, 3)) (by decide +kernel) (by decide +kernel)
  · intro d x L M Q; exact Wp_sim (by decide +kernel : decode (cd 113) 26 = .ok (.aload_n 0, 1)) rfl rfl
  · intro d a L M Q; exact Wp_sim (by decide +kernel : decode (cd 113) 27 = .ok (.iconst (-1), 1)) rfl rfl
  · intro d a b L M Q; exact q_putI (p := 854) (by decide +kernel : decode (cd 113) 28 = .ok (.putfield 35, 3)) (by decide +kernel) (by decide +kernel)
  · intro d L M Q; exact Wp_sim (by decide +kernel : decode (cd 113) 31 = .ok (.iconst 1, 1)) rfl rfl
  · intro d a v0 x L M Q; exact Wp_sim (by decide +kernel : decode (cd 113) 32 = .ok (.istore_n 1, 1)) rfl rfl
  · intro d x L M Q; exact Wp_sim (by decide +kernel : decode (cd 113) 33 = .ok (.aload_n 0, 1)) rfl rfl
  · intro d a L M Q; exact q_invV (pz := 946) (n := 0) (c := 12) (m := 1) (k := a) (As := []) (rest := []) (by decide +kernel : decode (cd 113) 34 = .ok (.invokevirtual 110, 3)) (by decide +kernel) (by decide +kernel) rfl rfl (Nat.le_of_ble_eq_true rfl) (Nat.le_of_ble_eq_true rfl) rfl
  · intro d a L M Q; exact q_getI (p := 861) (by decide +kernel : decode (cd 113) 38 = .ok (.getfield 94, 3)) (by decide +kernel) (by decide +kernel)
  · intro d a L M Q; exact q_zlt (by decide +kernel : decode (cd 113) 41 = .ok (.ifCond .lt 23, 3)) (by decide)
  · intro d v0 x L M Q; exact Wp_sim (by decide +kernel : decode (cd 113) 44 = .ok (.iload_n 1, 1)) rfl rfl
  · intro d a L M Q; exact q_zeq (by decide +kernel : decode (cd 113) 45 = .ok (.ifCond .eq 19, 3)) (by decide)
  · intro d x L M Q; exact Wp_sim (by decide +kernel : decode (cd 113) 48 = .ok (.aload_n 0, 1)) rfl rfl
  · intro d a L M Q; exact q_invV (pz := 956) (n := 0) (c := 12) (m := 1) (k := a) (As := []) (rest := []) (by decide +kernel : decode (cd 113) 49 = .ok (.invokevirtual 134, 3)) (by decide +kernel) (by decide +kernel) rfl rfl (Nat.le_of_ble_eq_true rfl) (Nat.le_of_ble_eq_true rfl) rfl
  · intro d a v0 x L M Q; exact Wp_sim (by decide +kernel : decode (cd 113) 52 = .ok (.istore_n 1, 1)) rfl rfl
  · intro d v0 x L M Q; exact Wp_sim (by decide +kernel : decode (cd 113) 53 = .ok (.iload_n 1, 1)) rfl rfl
  · intro d a L M Q; exact q_zeq (by decide +kernel : decode (cd 113) 54 = .ok (.ifCond .eq (-17), 3)) (by decide)
  · intro d x L M Q; exact Wp_sim (by decide +kernel : decode (cd 113) 57 = .ok (.aload_n 0, 1)) rfl rfl
  · intro d a L M Q; exact q_invV (pz := 946) (n := 0) (c := 12) (m := 1) (k := a) (As := []) (rest := []) (by decide +kernel : decode (cd 113) 58 = .ok (.invokevirtual 110, 3)) (by decide +kernel) (by decide +kernel) rfl rfl (Nat.le_of_ble_eq_true rfl) (Nat.le_of_ble_eq_true rfl) rfl
  · intro d L M Q; exact q_goto (by decide +kernel : decode (cd 113) 61 = .ok (.goto (-24), 3)) (by decide)
  · intro d x L M Q; exact Wp_sim (by decide +kernel : decode (cd 113) 64 = .ok (.aload_n 0, 1)) rfl rfl
  · intro d a L M Q; exact Wp_sim (by decide +kernel : decode (cd 113) 65 = .ok (.iconst 0, 1)) rfl rfl
  · intro d a b L M Q; exact q_putI (p := 853) (by decide +kernel : decode (cd 113) 66 = .ok (.putfield 80, 3)) (by decide +kernel) (by decide +kernel)
  · intro d v0 x L M Q; exact Wp_sim (by decide +kernel : decode (cd 113) 69 = .ok (.iload_n 1, 1)) rfl rfl
  · intro d a L M Q; exact q_zne (by decide +kernel : decode (cd 113) 70 = .ok (.ifCond .ne 19, 3)) (by decide)
  · intro d x L M Q; exact Wp_sim (by decide +kernel : decode (cd 113) 73 = .ok (.aload_n 0, 1)) rfl rfl
  · intro d a x L M Q; exact Wp_sim (by decide +kernel : decode (cd 113) 74 = .ok (.aload_n 0, 1)) rfl rfl
  · intro d a b L M Q; exact q_getI (p := 860) (by decide +kernel : decode (cd 113) 75 = .ok (.getfield 91, 3)) (by decide +kernel) (by decide +kernel)
  · intro d a b L M Q; exact q_putI (p := 854) (by decide +kernel : decode (cd 113) 78 = .ok (.putfield 35, 3)) (by decide +kernel) (by decide +kernel)
  · intro d L M Q; exact Wp_sim (by decide +kernel : decode (cd 113) 81 = .ok (.bipush (-10), 2)) rfl rfl
  · intro d a x L M Q; exact Wp_sim (by decide +kernel : decode (cd 113) 83 = .ok (.aload_n 0, 1)) rfl rfl
  · intro d a b L M Q; exact q_getI (p := 864) (by decide +kernel : decode (cd 113) 84 = .ok (.getfield 107, 3)) (by decide +kernel) (by decide +kernel)
  · intro d a b L M Q; exact Wp_sim (by decide +kernel : decode (cd 113) 87 = .ok (.isub , 1)) rfl rfl
  · intro d a L M Q; exact q_iret (by decide +kernel : decode (cd 113) 88 = .ok (.ireturn , 1)) (by decide +kernel)
  · intro d x L M Q; exact Wp_sim (by decide +kernel : decode (cd 113) 89 = .ok (.aload_n 0, 1)) rfl rfl
  · intro d a L M Q; exact q_getR (p := 844) (by decide +kernel : decode (cd 113) 90 = .ok (.getfield 13, 3)) (by decide +kernel) (by decide +kernel)
  · intro d a L M Q; exact Wp_sim (by decide +kernel : decode (cd 113) 93 = .ok (.iconst 0, 1)) rfl rfl
  · intro d a b x L M Q; exact Wp_sim (by decide +kernel : decode (cd 113) 94 = .ok (.aload_n 0, 1)) rfl rfl
  · intro d a b c L M Q; exact q_getR (p := 843) (by decide +kernel : decode (cd 113) 95 = .ok (.getfield 7, 3)) (by decide +kernel) (by decide +kernel)
  · intro d a b c L M Q; exact Wp_sim (by decide +kernel : decode (cd 113) 98 = .ok (.iconst 0, 1)) rfl rfl
  · intro d a b c d2 L M Q; exact Wp_sim (by decide +kernel : decode (cd 113) 99 = .ok (.bipush 50, 2)) rfl rfl
  · intro d a b c d2 e L M Q; exact q_invS (pz := 984) (n := 5) (m := 6) (As := [.ref e, .int d2, .ref c, .int b, .int a]) (rest := []) (by decide +kernel : decode (cd 113) 101 = .ok (.invokestatic 137, 3)) (by decide +kernel) (by decide +kernel) (by decide +kernel) rfl rfl (Nat.le_of_ble_eq_true rfl) (Nat.le_of_ble_eq_true rfl) rfl
  · intro d x L M Q; exact Wp_sim (by decide +kernel : decode (cd 113) 104 = .ok (.aload_n 0, 1)) rfl rfl
  · intro d a L M Q; exact q_invV (pz := 987) (n := 0) (c := 12) (m := 2) (k := a) (As := []) (rest := []) (by decide +kernel : decode (cd 113) 105 = .ok (.invokevirtual 141, 3)) (by decide +kernel) (by decide +kernel) rfl rfl (Nat.le_of_ble_eq_true rfl) (Nat.le_of_ble_eq_true rfl) rfl
  · intro d x L M Q; exact Wp_sim (by decide +kernel : decode (cd 113) 108 = .ok (.aload_n 0, 1)) rfl rfl
  · intro d a L M Q; exact q_getR (p := 843) (by decide +kernel : decode (cd 113) 109 = .ok (.getfield 7, 3)) (by decide +kernel) (by decide +kernel)
  · intro d a L M Q; exact Wp_sim (by decide +kernel : decode (cd 113) 112 = .ok (.iconst 4, 1)) rfl rfl
set_option maxRecDepth 10000 in
theorem e113_1 : (∀ (d : Nat) (a : Int32) (b : Nat) (L : List Value) (M : Mem) (Q : Option Value → Mem → Prop), Wp d 113 113 L [.int a, .ref b] M Q ↔ ((isR b = true ∧ inr a (lnm M b)) ∧ Wp d 113 114 L [.int (M b a.toNatClampNeg)] M Q)) ∧
    (∀ (d : Nat) (a : Int32) (L : List Value) (M : Mem) (Q : Option Value → Mem → Prop), Wp d 113 114 L [.int a] M Q ↔ Q (some (.int a)) M) := by
  refine ⟨?_, ?_⟩
  · intro d a b L M Q; exact q_ald (by decide +kernel : decode (cd 113) 113 = .ok (.iaload , 1))
  · intro d a L M Q; exact q_iret (by decide +kernel : decode (cd 113) 114 = .ok (.ireturn , 1)) (by decide +kernel)
theorem h113_2 : (∀ (d : Nat) (v0 : Value) (x : Int32) (L : List Value) (M : Mem) (Q : Option Value → Mem → Prop), Wp d 113 2 (v0 :: .int x :: L) [] M Q ↔ Wp d 113 3 (v0 :: .int x :: L) [.int x] M Q) := by
  intro d v0 x L M Q; exact Wp_sim (by decide +kernel : decode (cd 113) 2 = .ok (.iload_n 1, 1)) rfl rfl
theorem h113_37 : (∀ (d : Nat) (x : Nat) (L : List Value) (M : Mem) (Q : Option Value → Mem → Prop), Wp d 113 37 (.ref x :: L) [] M Q ↔ Wp d 113 38 (.ref x :: L) [.ref x] M Q) := by
  intro d x L M Q; exact Wp_sim (by decide +kernel : decode (cd 113) 37 = .ok (.aload_n 0, 1)) rfl rfl

/- 114: PalaceYardModel.step -/
set_option maxRecDepth 10000 in
theorem e114_0 : (∀ (d : Nat) (a : Nat) (L : List Value) (M : Mem) (Q : Option Value → Mem → Prop), Wp (d + 1) 114 1 L [.ref a] M Q ↔ (isK a 12 = true ∧ Wp d 115 0 [.ref a] [] M (fun r M2 => Wp (d + 1) 114 4 L (r.toList ++ []) M2 Q))) ∧
    (∀ (d : Nat) (a : Int32) (L : List Value) (M : Mem) (Q : Option Value → Mem → Prop), Wp d 114 4 L [.int a] M Q ↔ Wp d 114 6 L [.int 32, .int a] M Q) ∧
    (∀ (d : Nat) (a : Int32) (b : Int32) (L : List Value) (M : Mem) (Q : Option Value → Mem → Prop), Wp d 114 6 L [.int a, .int b] M Q ↔ (if b = a then Wp d 114 9 L [] M Q else Wp d 114 22 L [] M Q)) ∧
    (∀ (d : Nat) (x : Nat) (L : List Value) (M : Mem) (Q : Option Value → Mem → Prop), Wp d 114 9 (.ref x :: L) [] M Q ↔ Wp d 114 10 (.ref x :: L) [.ref x] M Q) ∧
    (∀ (d : Nat) (a : Nat) (L : List Value) (M : Mem) (Q : Option Value → Mem → Prop), Wp d 114 10 L [.ref a] M Q ↔ Wp d 114 11 L [.ref a, .ref a] M Q) ∧
    (∀ (d : Nat) (a : Nat) (b : Nat) (L : List Value) (M : Mem) (Q : Option Value → Mem → Prop), Wp d 114 11 L [.ref a, .ref b] M Q ↔ (isK a 12 = true ∧ Wp d 114 14 L [.int (M a 16), .ref b] M Q)) ∧
    (∀ (d : Nat) (a : Int32) (b : Nat) (L : List Value) (M : Mem) (Q : Option Value → Mem → Prop), Wp d 114 14 L [.int a, .ref b] M Q ↔ Wp d 114 15 L [.int 1, .int a, .ref b] M Q) ∧
    (∀ (d : Nat) (a : Int32) (b : Int32) (c : Nat) (L : List Value) (M : Mem) (Q : Option Value → Mem → Prop), Wp d 114 15 L [.int a, .int b, .ref c] M Q ↔ Wp d 114 16 L [.int (b + a), .ref c] M Q) ∧
    (∀ (d : Nat) (a : Int32) (b : Nat) (L : List Value) (M : Mem) (Q : Option Value → Mem → Prop), Wp d 114 16 L [.int a, .ref b] M Q ↔ (isK b 12 = true ∧ Wp d 114 19 L [] (up2 M b 16 a) Q)) ∧
    (∀ (d : Nat) (L : List Value) (M : Mem) (Q : Option Value → Mem → Prop), Wp d 114 19 L [] M Q ↔ Wp d 114 0 L [] M Q) ∧
    (∀ (d : Nat) (x : Nat) (L : List Value) (M : Mem) (Q : Option Value → Mem → Prop), Wp d 114 22 (.ref x :: L) [] M Q ↔ Wp d 114 23 (.ref x :: L) [.ref x] M Q) ∧
    (∀ (d : Nat) (a : Nat) (x : Nat) (L : List Value) (M : Mem) (Q : Option Value → Mem → Prop), Wp d 114 23 (.ref x :: L) [.ref a] M Q ↔ Wp d 114 24 (.ref x :: L) [.ref x, .ref a] M Q) ∧
    (∀ (d : Nat) (a : Nat) (b : Nat) (L : List Value) (M : Mem) (Q : Option Value → Mem → Prop), Wp d 114 24 L [.ref a, .ref b] M Q ↔ (isK a 12 = true ∧ Wp d 114 27 L [.int (M a 16), .ref b] M Q)) ∧
    (∀ (d : Nat) (a : Int32) (b : Nat) (L : List Value) (M : Mem) (Q : Option Value → Mem → Prop), Wp d 114 27 L [.int a, .ref b] M Q ↔ (isK b 12 = true ∧ Wp d 114 30 L [] (up2 M b 17 a) Q)) ∧
    (∀ (d : Nat) (x : Nat) (L : List Value) (M : Mem) (Q : Option Value → Mem → Prop), Wp d 114 30 (.ref x :: L) [] M Q ↔ Wp d 114 31 (.ref x :: L) [.ref x] M Q) ∧
    (∀ (d : Nat) (a : Nat) (x : Nat) (L : List Value) (M : Mem) (Q : Option Value → Mem → Prop), Wp d 114 31 (.ref x :: L) [.ref a] M Q ↔ Wp d 114 32 (.ref x :: L) [.ref x, .ref a] M Q) ∧
    (∀ (d : Nat) (a : Nat) (b : Nat) (L : List Value) (M : Mem) (Q : Option Value → Mem → Prop), Wp (d + 1) 114 32 L [.ref a, .ref b] M Q ↔ (isK a 12 = true ∧ Wp d 115 0 [.ref a] [] M (fun r M2 => Wp (d + 1) 114 35 L (r.toList ++ [.ref b]) M2 Q))) ∧
    (∀ (d : Nat) (a : Int32) (b : Nat) (L : List Value) (M : Mem) (Q : Option Value → Mem → Prop), Wp d 114 35 L [.int a, .ref b] M Q ↔ (isK b 12 = true ∧ Wp d 114 38 L [] (up2 M b 18 a) Q)) ∧
    (∀ (d : Nat) (x : Nat) (L : List Value) (M : Mem) (Q : Option Value → Mem → Prop), Wp d 114 38 (.ref x :: L) [] M Q ↔ Wp d 114 39 (.ref x :: L) [.ref x] M Q) ∧
    (∀ (d : Nat) (a : Nat) (L : List Value) (M : Mem) (Q : Option Value → Mem → Prop), Wp d 114 39 L [.ref a] M Q ↔ Wp d 114 40 L [.int 0, .ref a] M Q) ∧
    (∀ (d : Nat) (a : Int32) (b : Nat) (L : List Value) (M : Mem) (Q : Option Value → Mem → Prop), Wp d 114 40 L [.int a, .ref b] M Q ↔ (isK b 12 = true ∧ Wp d 114 43 L [] (up2 M b 19 a) Q)) ∧
    (∀ (d : Nat) (x : Nat) (L : List Value) (M : Mem) (Q : Option Value → Mem → Prop), Wp d 114 43 (.ref x :: L) [] M Q ↔ Wp d 114 44 (.ref x :: L) [.ref x] M Q) ∧
    (∀ (d : Nat) (a : Nat) (L : List Value) (M : Mem) (Q : Option Value → Mem → Prop), Wp d 114 44 L [.ref a] M Q ↔ Wp d 114 45 L [.int 0, .ref a] M Q) ∧
    (∀ (d : Nat) (a : Int32) (b : Nat) (L : List Value) (M : Mem) (Q : Option Value → Mem → Prop), Wp d 114 45 L [.int a, .ref b] M Q ↔ (isK b 12 = true ∧ Wp d 114 48 L [] (up2 M b 20 a) Q)) ∧
    (∀ (d : Nat) (x : Nat) (L : List Value) (M : Mem) (Q : Option Value → Mem → Prop), Wp d 114 48 (.ref x :: L) [] M Q ↔ Wp d 114 49 (.ref x :: L) [.ref x] M Q) ∧
    (∀ (d : Nat) (a : Nat) (L : List Value) (M : Mem) (Q : Option Value → Mem → Prop), Wp d 114 49 L [.ref a] M Q ↔ (isK a 12 = true ∧ Wp d 114 52 L [.int (M a 18)] M Q)) ∧
    (∀ (d : Nat) (a : Int32) (L : List Value) (M : Mem) (Q : Option Value → Mem → Prop), Wp d 114 52 L [.int a] M Q ↔ Wp d 114 53 L [.long a.toInt64] M Q) ∧
    (∀ (d : Nat) (a : Int64) (L : List Value) (M : Mem) (Q : Option Value → Mem → Prop), Wp d 114 53 L [.long a] M Q ↔ Wp d 114 56 L [.long 48, .long a] M Q) ∧
    (∀ (d : Nat) (a : Int64) (b : Int64) (L : List Value) (M : Mem) (Q : Option Value → Mem → Prop), Wp d 114 56 L [.long a, .long b] M Q ↔ Wp d 114 59 L [.long 57, .long a, .long b] M Q) ∧
    (∀ (d : Nat) (a : Int64) (b : Int64) (c : Int64) (L : List Value) (M : Mem) (Q : Option Value → Mem → Prop), Wp (d + 1) 114 59 L [.long a, .long b, .long c] M Q ↔ Wp d 112 0 [.long c, .null, .long b, .null, .long a, .null] [] M (fun r M2 => Wp (d + 1) 114 62 L (r.toList ++ []) M2 Q)) ∧
    (∀ (d : Nat) (a : Int32) (L : List Value) (M : Mem) (Q : Option Value → Mem → Prop), Wp d 114 62 L [.int a] M Q ↔ (if a = 0 then Wp d 114 65 L [] M Q else Wp d 114 87 L [] M Q)) ∧
    (∀ (d : Nat) (x : Nat) (L : List Value) (M : Mem) (Q : Option Value → Mem → Prop), Wp d 114 65 (.ref x :: L) [] M Q ↔ Wp d 114 66 (.ref x :: L) [.ref x] M Q) ∧
    (∀ (d : Nat) (a : Nat) (L : List Value) (M : Mem) (Q : Option Value → Mem → Prop), Wp d 114 66 L [.ref a] M Q ↔ Wp d 114 67 L [.ref a, .ref a] M Q) ∧
    (∀ (d : Nat) (a : Nat) (b : Nat) (L : List Value) (M : Mem) (Q : Option Value → Mem → Prop), Wp d 114 67 L [.ref a, .ref b] M Q ↔ (isK a 12 = true ∧ Wp d 114 70 L [.int (M a 16), .ref b] M Q)) ∧
    (∀ (d : Nat) (a : Int32) (b : Nat) (x : Nat) (L : List Value) (M : Mem) (Q : Option Value → Mem → Prop), Wp d 114 70 (.ref x :: L) [.int a, .ref b] M Q ↔ Wp d 114 71 (.ref x :: L) [.ref x, .int a, .ref b] M Q) ∧
    (∀ (d : Nat) (a : Nat) (b : Int32) (c : Nat) (L : List Value) (M : Mem) (Q : Option Value → Mem → Prop), Wp d 114 71 L [.ref a, .int b, .ref c] M Q ↔ (isK a 12 = true ∧ Wp d 114 74 L [.int (M a 18), .int b, .ref c] M Q)) ∧
    (∀ (d : Nat) (a : Int32) (b : Int32) (c : Nat) (L : List Value) (M : Mem) (Q : Option Value → Mem → Prop), Wp d 114 74 L [.int a, .int b, .ref c] M Q ↔ (if a < 0 then Wp d 114 77 L [.int b, .ref c] M Q else Wp d 114 81 L [.int b, .ref c] M Q)) ∧
    (∀ (d : Nat) (a : Int32) (b : Nat) (L : List Value) (M : Mem) (Q : Option Value → Mem → Prop), Wp d 114 77 L [.int a, .ref b] M Q ↔ Wp d 114 78 L [.int 0, .int a, .ref b] M Q) ∧
    (∀ (d : Nat) (a : Int32) (b : Int32) (c : Nat) (L : List Value) (M : Mem) (Q : Option Value → Mem → Prop), Wp d 114 78 L [.int a, .int b, .ref c] M Q ↔ Wp d 114 82 L [.int a, .int b, .ref c] M Q) ∧
    (∀ (d : Nat) (a : Int32) (b : Nat) (L : List Value) (M : Mem) (Q : Option Value → Mem → Prop), Wp d 114 81 L [.int a, .ref b] M Q ↔ Wp d 114 82 L [.int 1, .int a, .ref b] M Q) ∧
    (∀ (d : Nat) (a : Int32) (b : Int32) (c : Nat) (L : List Value) (M : Mem) (Q : Option Value → Mem → Prop), Wp d 114 82 L [.int a, .int b, .ref c] M Q ↔ Wp d 114 83 L [.int (b + a), .ref c] M Q) ∧
    (∀ (d : Nat) (a : Int32) (b : Nat) (L : List Value) (M : Mem) (Q : Option Value → Mem → Prop), Wp d 114 83 L [.int a, .ref b] M Q ↔ (isK b 12 = true ∧ Wp d 114 86 L [] (up2 M b 16 a) Q)) ∧
    (∀ (d : Nat) (L : List Value) (M : Mem) (Q : Option Value → Mem → Prop), Wp d 114 86 L [] M Q ↔ Q none M) ∧
    (∀ (d : Nat) (x : Nat) (L : List Value) (M : Mem) (Q : Option Value → Mem → Prop), Wp d 114 87 (.ref x :: L) [] M Q ↔ Wp d 114 88 (.ref x :: L) [.ref x] M Q) ∧
    (∀ (d : Nat) (a : Nat) (L : List Value) (M : Mem) (Q : Option Value → Mem → Prop), Wp d 114 88 L [.ref a] M Q ↔ Wp d 114 90 L [.int 48, .ref a] M Q) ∧
    (∀ (d : Nat) (a : Int32) (b : Nat) (L : List Value) (M : Mem) (Q : Option Value → Mem → Prop), Wp d 114 90 L [.int a, .ref b] M Q ↔ (isK b 12 = true ∧ Wp d 114 93 L [] (up2 M b 18 a) Q)) ∧
    (∀ (d : Nat) (a : Nat) (L : List Value) (M : Mem) (Q : Option Value → Mem → Prop), Wp (d + 1) 114 94 L [.ref a] M Q ↔ (isK a 12 = true ∧ Wp d 115 0 [.ref a] [] M (fun r M2 => Wp (d + 1) 114 97 L (r.toList ++ []) M2 Q))) ∧
    (∀ (d : Nat) (a : Int32) (L : List Value) (M : Mem) (Q : Option Value → Mem → Prop), Wp d 114 97 L [.int a] M Q ↔ Wp d 114 98 L [.long a.toInt64] M Q) ∧
    (∀ (d : Nat) (a : Int64) (L : List Value) (M : Mem) (Q : Option Value → Mem → Prop), Wp d 114 98 L [.long a] M Q ↔ Wp d 114 101 L [.long 48, .long a] M Q) ∧
    (∀ (d : Nat) (a : Int64) (b : Int64) (L : List Value) (M : Mem) (Q : Option Value → Mem → Prop), Wp d 114 101 L [.long a, .long b] M Q ↔ Wp d 114 104 L [.long 57, .long a, .long b] M Q) ∧
    (∀ (d : Nat) (a : Int64) (b : Int64) (c : Int64) (L : List Value) (M : Mem) (Q : Option Value → Mem → Prop), Wp (d + 1) 114 104 L [.long a, .long b, .long c] M Q ↔ Wp d 112 0 [.long c, .null, .long b, .null, .long a, .null] [] M (fun r M2 => Wp (d + 1) 114 107 L (r.toList ++ []) M2 Q)) ∧
    (∀ (d : Nat) (a : Int32) (L : List Value) (M : Mem) (Q : Option Value → Mem → Prop), Wp d 114 107 L [.int a] M Q ↔ (if a = 0 then Wp d 114 167 L [] M Q else Wp d 114 110 L [] M Q)) ∧
    (∀ (d : Nat) (x : Nat) (L : List Value) (M : Mem) (Q : Option Value → Mem → Prop), Wp d 114 110 (.ref x :: L) [] M Q ↔ Wp d 114 111 (.ref x :: L) [.ref x] M Q) ∧
    (∀ (d : Nat) (a : Nat) (x : Nat) (L : List Value) (M : Mem) (Q : Option Value → Mem → Prop), Wp d 114 111 (.ref x :: L) [.ref a] M Q ↔ Wp d 114 112 (.ref x :: L) [.ref x, .ref a] M Q) ∧
    (∀ (d : Nat) (a : Nat) (b : Nat) (L : List Value) (M : Mem) (Q : Option Value → Mem → Prop), Wp d 114 112 L [.ref a, .ref b] M Q ↔ (isK a 12 = true ∧ Wp d 114 115 L [.int (M a 19), .ref b] M Q)) ∧
    (∀ (d : Nat) (a : Int32) (b : Nat) (L : List Value) (M : Mem) (Q : Option Value → Mem → Prop), Wp d 114 115 L [.int a, .ref b] M Q ↔ Wp d 114 116 L [.int 3, .int a, .ref b] M Q) ∧
    (∀ (d : Nat) (a : Int32) (b : Int32) (c : Nat) (L : List Value) (M : Mem) (Q : Option Value → Mem → Prop), Wp d 114 116 L [.int a, .int b, .ref c] M Q ↔ (if b < a then Wp d 114 119 L [.ref c] M Q else Wp d 114 137 L [.ref c] M Q)) ∧
    (∀ (d : Nat) (a : Nat) (L : List Value) (M : Mem) (Q : Option Value → Mem → Prop), Wp d 114 119 L [.ref a] M Q ↔ Wp d 114 121 L [.int 10, .ref a] M Q) ∧
    (∀ (d : Nat) (a : Int32) (b : Nat) (x : Nat) (L : List Value) (M : Mem) (Q : Option Value → Mem → Prop), Wp d 114 121 (.ref x :: L) [.int a, .ref b] M Q ↔ Wp d 114 122 (.ref x :: L) [.ref x, .int a, .ref b] M Q) ∧
    (∀ (d : Nat) (a : Nat) (b : Int32) (c : Nat) (L : List Value) (M : Mem) (Q : Option Value → Mem → Prop), Wp d 114 122 L [.ref a, .int b, .ref c] M Q ↔ (isK a 12 = true ∧ Wp d 114 125 L [.int (M a 20), .int b, .ref c] M Q)) := by
  refine ⟨?_, ?_, ?_, ?_, ?_, ?_, ?_, ?_, ?_, ?_, ?_, ?_, ?_, ?_, ?_, ?_, ?_, ?_, ?_, ?_, ?_, ?_, ?_, ?_, ?_, ?_, ?_, ?_, ?_, ?_, ?_, ?_, ?_, ?_, ?_, ?_, ?_, ?_, ?_, ?_, ?_, ?_, ?_, ?_, ?_, ?_, ?_, ?_, ?_, ?_, ?_, ?_, ?_, ?_, ?_, ?_, ?_, ?_, ?_, ?_⟩
  · intro d a L M Q; exact q_invV (pz := 950) (n := 0) (c := 12) (m := 1) (k := a) (As := []) (rest := []) (by decide +kernel : decode (cd 114) 1 = .ok (.invokevirtual 87, 3)) (by decide +kernel) (by decide +kernel) rfl rfl (Nat.le_of_ble_eq_true rfl) (Nat.le_of_ble_eq_true rfl) rfl
  · intro d a L M Q; exact Wp_sim (by decide +kernel : decode (cd 114) 4 = .ok (.bipush 32, 2)) rfl rfl
  · intro d a b L M Q; exact q_ine (by decide +kernel : decode (cd 114) 6 = .ok (.if_icmp .ne 16, 3)) (by decide)
  · intro d x L M Q; exact Wp_sim (by decide +kernel : decode (cd 114) 9 = .ok (.aload_n 0, 1)) rfl rfl
  · intro d a L M Q; exact Wp_sim (by decide +kernel : decode (cd 114) 10 = .ok (.dup , 1)) rfl rfl
  · intro d a b L M Q; exact q_getI (p := 859) (by decide +kernel : decode (cd 114) 11 = .ok (.getfield 84, 3)) (by decide +kernel) (by decide +kernel)
  · intro d a b L M Q; exact Wp_sim (by decide +kernel : decode (cd 114) 14 = .ok (.iconst 1, 1)) rfl rfl
  · intro d a b c L M Q; exact Wp_sim (by decide +kernel : decode (cd 114) 15 = .ok (.iadd , 1)) rfl rfl
  · intro d a b L M Q; exact q_putI (p := 859) (by decide +kernel : decode (cd 114) 16 = .ok (.putfield 84, 3)) (by decide +kernel) (by decide +kernel)
  · intro d L M Q; exact q_goto (by decide +kernel : decode (cd 114) 19 = .ok (.goto (-19), 3)) (by decide)
  · intro d x L M Q; exact Wp_sim (by decide +kernel : decode (cd 114) 22 = .ok (.aload_n 0, 1)) rfl rfl
  · intro d a x L M Q; exact Wp_sim (by decide +kernel : decode (cd 114) 23 = .ok (.aload_n 0, 1)) rfl rfl
  · intro d a b L M Q; exact q_getI (p := 859) (by decide +kernel : decode (cd 114) 24 = .ok (.getfield 84, 3)) (by decide +kernel) (by decide +kernel)
  · intro d a b L M Q; exact q_putI (p := 860) (by decide +kernel : decode (cd 114) 27 = .ok (.putfield 91, 3)) (by decide +kernel) (by decide +kernel)
  · intro d x L M Q; exact Wp_sim (by decide +kernel : decode (cd 114) 30 = .ok (.aload_n 0, 1)) rfl rfl
  · intro d a x L M Q; exact Wp_sim (by decide +kernel : decode (cd 114) 31 = .ok (.aload_n 0, 1)) rfl rfl
  · intro d a b L M Q; exact q_invV (pz := 950) (n := 0) (c := 12) (m := 1) (k := a) (As := []) (rest := [.ref b]) (by decide +kernel : decode (cd 114) 32 = .ok (.invokevirtual 87, 3)) (by decide +kernel) (by decide +kernel) rfl rfl (Nat.le_of_ble_eq_true rfl) (Nat.le_of_ble_eq_true rfl) rfl
  · intro d a b L M Q; exact q_putI (p := 861) (by decide +kernel : decode (cd 114) 35 = .ok (.putfield 94, 3)) (by decide +kernel) (by decide +kernel)
  · intro d x L M Q; exact Wp_sim (by decide +kernel : decode (cd 114) 38 = .ok (.aload_n 0, 1)) rfl rfl
  · intro d a L M Q; exact Wp_sim (by decide +kernel : decode (cd 114) 39 = .ok (.iconst 0, 1)) rfl rfl
  · intro d a b L M Q; exact q_putI (p := 862) (by decide +kernel : decode (cd 114) 40 = .ok (.putfield 97, 3)) (by decide +kernel) (by decide +kernel)
  · intro d x L M Q; exact Wp_sim (by decide +kernel : decode (cd 114) 43 = .ok (.aload_n 0, 1)) rfl rfl
  · intro d a L M Q; exact Wp_sim (by decide +kernel : decode (cd 114) 44 = .ok (.iconst 0, 1)) rfl rfl
  · intro d a b L M Q; exact q_putI (p := 863) (by decide +kernel : decode (cd 114) 45 = .ok (.putfield 100, 3)) (by decide +kernel) (by decide +kernel)
  · intro d x L M Q; exact Wp_sim (by decide +kernel : decode (cd 114) 48 = .ok (.aload_n 0, 1)) rfl rfl
  · intro d a L M Q; exact q_getI (p := 861) (by decide +kernel : decode (cd 114) 49 = .ok (.getfield 94, 3)) (by decide +kernel) (by decide +kernel)
  · intro d a L M Q; exact Wp_sim (by decide +kernel : decode (cd 114) 52 = .ok (.i2l , 1)) rfl rfl
  · intro d a L M Q; exact q_ldc2 (p := 954) (by decide +kernel : decode (cd 114) 53 = .ok (.ldc2_w 103, 3)) (by decide +kernel)
  · intro d a b L M Q; exact q_ldc2 (p := 955) (by decide +kernel : decode (cd 114) 56 = .ok (.ldc2_w 105, 3)) (by decide +kernel)
  · intro d a b c L M Q; exact q_invS (pz := 937) (n := 3) (m := 6) (As := [.long c, .long b, .long a]) (rest := []) (by decide +kernel : decode (cd 114) 59 = .ok (.invokestatic 75, 3)) (by decide +kernel) (by decide +kernel) (by decide +kernel) rfl rfl (Nat.le_of_ble_eq_true rfl) (Nat.le_of_ble_eq_true rfl) rfl
  · intro d a L M Q; exact q_zne (by decide +kernel : decode (cd 114) 62 = .ok (.ifCond .ne 25, 3)) (by decide)
  · intro d x L M Q; exact Wp_sim (by decide +kernel : decode (cd 114) 65 = .ok (.aload_n 0, 1)) rfl rfl
  · intro d a L M Q; exact Wp_sim (by decide +kernel : decode (cd 114) 66 = .ok (.dup , 1)) rfl rfl
  · intro d a b L M Q; exact q_getI (p := 859) (by decide +kernel : decode (cd 114) 67 = .ok (.getfield 84, 3)) (by decide +kernel) (by decide +kernel)
  · intro d a b x L M Q; exact Wp_sim (by decide +kernel : decode (cd 114) 70 = .ok (.aload_n 0, 1)) rfl rfl
  · intro d a b c L M Q; exact q_getI (p := 861) (by decide +kernel : decode (cd 114) 71 = .ok (.getfield 94, 3)) (by decide +kernel) (by decide +kernel)
  · intro d a b c L M Q; exact q_zge (by decide +kernel : decode (cd 114) 74 = .ok (.ifCond .ge 7, 3)) (by decide)
  · intro d a b L M Q; exact Wp_sim (by decide +kernel : decode (cd 114) 77 = .ok (.iconst 0, 1)) rfl rfl
  · intro d a b c L M Q; exact q_goto (by decide +kernel : decode (cd 114) 78 = .ok (.goto 4, 3)) (by decide)
  · intro d a b L M Q; exact Wp_sim (by decide +kernel : decode (cd 114) 81 = .ok (.iconst 1, 1)) rfl rfl
  · intro d a b c L M Q; exact Wp_sim (by decide +kernel : decode (cd 114) 82 = .ok (.iadd , 1)) rfl rfl
  · intro d a b L M Q; exact q_putI (p := 859) (by decide +kernel : decode (cd 114) 83 = .ok (.putfield 84, 3)) (by decide +kernel) (by decide +kernel)
  · intro d L M Q; exact q_vret (by decide +kernel : decode (cd 114) 86 = .ok (.return_ , 1)) (by decide +kernel)
  · intro d x L M Q; exact Wp_sim (by decide +kernel : decode (cd 114) 87 = .ok (.aload_n 0, 1)) rfl rfl
  · intro d a L M Q; exact Wp_sim (by decide +kernel : decode (cd 114) 88 = .ok (.bipush 48, 2)) rfl rfl
  · intro d a b L M Q; exact q_putI (p := 861) (by decide +kernel : decode (cd 114) 90 = .ok (.putfield 94, 3)) (by decide +kernel) (by decide +kernel)
  · intro d a L M Q; exact q_invV (pz := 950) (n := 0) (c := 12) (m := 1) (k := a) (As := []) (rest := []) (by decide +kernel : decode (cd 114) 94 = .ok (.invokevirtual 87, 3)) (by decide +kernel) (by decide +kernel) rfl rfl (Nat.le_of_ble_eq_true rfl) (Nat.le_of_ble_eq_true rfl) rfl
  · intro d a L M Q; exact Wp_sim (by decide +kernel : decode (cd 114) 97 = .ok (.i2l , 1)) rfl rfl
  · intro d a L M Q; exact q_ldc2 (p := 954) (by decide +kernel : decode (cd 114) 98 = .ok (.ldc2_w 103, 3)) (by decide +kernel)
  · intro d a b L M Q; exact q_ldc2 (p := 955) (by decide +kernel : decode (cd 114) 101 = .ok (.ldc2_w 105, 3)) (by decide +kernel)
  · intro d a b c L M Q; exact q_invS (pz := 937) (n := 3) (m := 6) (As := [.long c, .long b, .long a]) (rest := []) (by decide +kernel : decode (cd 114) 104 = .ok (.invokestatic 75, 3)) (by decide +kernel) (by decide +kernel) (by decide +kernel) rfl rfl (Nat.le_of_ble_eq_true rfl) (Nat.le_of_ble_eq_true rfl) rfl
  · intro d a L M Q; exact q_zeq (by decide +kernel : decode (cd 114) 107 = .ok (.ifCond .eq 60, 3)) (by decide)
  · intro d x L M Q; exact Wp_sim (by decide +kernel : decode (cd 114) 110 = .ok (.aload_n 0, 1)) rfl rfl
  · intro d a x L M Q; exact Wp_sim (by decide +kernel : decode (cd 114) 111 = .ok (.aload_n 0, 1)) rfl rfl
  · intro d a b L M Q; exact q_getI (p := 862) (by decide +kernel : decode (cd 114) 112 = .ok (.getfield 97, 3)) (by decide +kernel) (by decide +kernel)
  · intro d a b L M Q; exact Wp_sim (by decide +kernel : decode (cd 114) 115 = .ok (.iconst 3, 1)) rfl rfl
  · intro d a b c L M Q; exact q_ige (by decide +kernel : decode (cd 114) 116 = .ok (.if_icmp .ge 21, 3)) (by decide)
  · intro d a L M Q; exact Wp_sim (by decide +kernel : decode (cd 114) 119 = .ok (.bipush 10, 2)) rfl rfl
  · intro d a b x L M Q; exact Wp_sim (by decide +kernel : decode (cd 114) 121 = .ok (.aload_n 0, 1)) rfl rfl
  · intro d a b c L M Q; exact q_getI (p := 863) (by decide +kernel : decode (cd 114) 122 = .ok (.getfield 100, 3)) (by decide +kernel) (by decide +kernel)
set_option maxRecDepth 10000 in
theorem e114_1 : (∀ (d : Nat) (a : Int32) (b : Int32) (c : Nat) (L : List Value) (M : Mem) (Q : Option Value → Mem → Prop), Wp d 114 125 L [.int a, .int b, .ref c] M Q ↔ Wp d 114 126 L [.int (b * a), .ref c] M Q) ∧
    (∀ (d : Nat) (a : Int32) (b : Nat) (x : Nat) (L : List Value) (M : Mem) (Q : Option Value → Mem → Prop), Wp d 114 126 (.ref x :: L) [.int a, .ref b] M Q ↔ Wp d 114 127 (.ref x :: L) [.ref x, .int a, .ref b] M Q) ∧
    (∀ (d : Nat) (a : Nat) (b : Int32) (c : Nat) (L : List Value) (M : Mem) (Q : Option Value → Mem → Prop), Wp (d + 1) 114 127 L [.ref a, .int b, .ref c] M Q ↔ (isK a 12 = true ∧ Wp d 115 0 [.ref a] [] M (fun r M2 => Wp (d + 1) 114 130 L (r.toList ++ [.int b, .ref c]) M2 Q))) ∧
    (∀ (d : Nat) (a : Int32) (b : Int32) (c : Nat) (L : List Value) (M : Mem) (Q : Option Value → Mem → Prop), Wp d 114 130 L [.int a, .int b, .ref c] M Q ↔ Wp d 114 131 L [.int (b + a), .ref c] M Q) ∧
    (∀ (d : Nat) (a : Int32) (b : Nat) (L : List Value) (M : Mem) (Q : Option Value → Mem → Prop), Wp d 114 131 L [.int a, .ref b] M Q ↔ Wp d 114 133 L [.int 48, .int a, .ref b] M Q) ∧
    (∀ (d : Nat) (a : Int32) (b : Int32) (c : Nat) (L : List Value) (M : Mem) (Q : Option Value → Mem → Prop), Wp d 114 133 L [.int a, .int b, .ref c] M Q ↔ Wp d 114 134 L [.int (b - a), .ref c] M Q) ∧
    (∀ (d : Nat) (a : Int32) (b : Nat) (L : List Value) (M : Mem) (Q : Option Value → Mem → Prop), Wp d 114 134 L [.int a, .ref b] M Q ↔ Wp d 114 141 L [.int a, .ref b] M Q) ∧
    (∀ (d : Nat) (a : Nat) (x : Nat) (L : List Value) (M : Mem) (Q : Option Value → Mem → Prop), Wp d 114 137 (.ref x :: L) [.ref a] M Q ↔ Wp d 114 138 (.ref x :: L) [.ref x, .ref a] M Q) ∧
    (∀ (d : Nat) (a : Nat) (b : Nat) (L : List Value) (M : Mem) (Q : Option Value → Mem → Prop), Wp d 114 138 L [.ref a, .ref b] M Q ↔ (isK a 12 = true ∧ Wp d 114 141 L [.int (M a 20), .ref b] M Q)) ∧
    (∀ (d : Nat) (a : Int32) (b : Nat) (L : List Value) (M : Mem) (Q : Option Value → Mem → Prop), Wp d 114 141 L [.int a, .ref b] M Q ↔ (isK b 12 = true ∧ Wp d 114 144 L [] (up2 M b 20 a) Q)) ∧
    (∀ (d : Nat) (x : Nat) (L : List Value) (M : Mem) (Q : Option Value → Mem → Prop), Wp d 114 144 (.ref x :: L) [] M Q ↔ Wp d 114 145 (.ref x :: L) [.ref x] M Q) ∧
    (∀ (d : Nat) (a : Nat) (L : List Value) (M : Mem) (Q : Option Value → Mem → Prop), Wp d 114 145 L [.ref a] M Q ↔ Wp d 114 146 L [.ref a, .ref a] M Q) ∧
    (∀ (d : Nat) (a : Nat) (b : Nat) (L : List Value) (M : Mem) (Q : Option Value → Mem → Prop), Wp d 114 146 L [.ref a, .ref b] M Q ↔ (isK a 12 = true ∧ Wp d 114 149 L [.int (M a 19), .ref b] M Q)) ∧
    (∀ (d : Nat) (a : Int32) (b : Nat) (L : List Value) (M : Mem) (Q : Option Value → Mem → Prop), Wp d 114 149 L [.int a, .ref b] M Q ↔ Wp d 114 150 L [.int 1, .int a, .ref b] M Q) ∧
    (∀ (d : Nat) (a : Int32) (b : Int32) (c : Nat) (L : List Value) (M : Mem) (Q : Option Value → Mem → Prop), Wp d 114 150 L [.int a, .int b, .ref c] M Q ↔ Wp d 114 151 L [.int (b + a), .ref c] M Q) ∧
    (∀ (d : Nat) (a : Int32) (b : Nat) (L : List Value) (M : Mem) (Q : Option Value → Mem → Prop), Wp d 114 151 L [.int a, .ref b] M Q ↔ (isK b 12 = true ∧ Wp d 114 154 L [] (up2 M b 19 a) Q)) ∧
    (∀ (d : Nat) (x : Nat) (L : List Value) (M : Mem) (Q : Option Value → Mem → Prop), Wp d 114 154 (.ref x :: L) [] M Q ↔ Wp d 114 155 (.ref x :: L) [.ref x] M Q) ∧
    (∀ (d : Nat) (a : Nat) (L : List Value) (M : Mem) (Q : Option Value → Mem → Prop), Wp d 114 155 L [.ref a] M Q ↔ Wp d 114 156 L [.ref a, .ref a] M Q) ∧
    (∀ (d : Nat) (a : Nat) (b : Nat) (L : List Value) (M : Mem) (Q : Option Value → Mem → Prop), Wp d 114 156 L [.ref a, .ref b] M Q ↔ (isK a 12 = true ∧ Wp d 114 159 L [.int (M a 16), .ref b] M Q)) ∧
    (∀ (d : Nat) (a : Int32) (b : Nat) (L : List Value) (M : Mem) (Q : Option Value → Mem → Prop), Wp d 114 159 L [.int a, .ref b] M Q ↔ Wp d 114 160 L [.int 1, .int a, .ref b] M Q) ∧
    (∀ (d : Nat) (a : Int32) (b : Int32) (c : Nat) (L : List Value) (M : Mem) (Q : Option Value → Mem → Prop), Wp d 114 160 L [.int a, .int b, .ref c] M Q ↔ Wp d 114 161 L [.int (b + a), .ref c] M Q) ∧
    (∀ (d : Nat) (a : Int32) (b : Nat) (L : List Value) (M : Mem) (Q : Option Value → Mem → Prop), Wp d 114 161 L [.int a, .ref b] M Q ↔ (isK b 12 = true ∧ Wp d 114 164 L [] (up2 M b 16 a) Q)) ∧
    (∀ (d : Nat) (L : List Value) (M : Mem) (Q : Option Value → Mem → Prop), Wp d 114 164 L [] M Q ↔ Wp d 114 93 L [] M Q) ∧
    (∀ (d : Nat) (L : List Value) (M : Mem) (Q : Option Value → Mem → Prop), Wp d 114 167 L [] M Q ↔ Q none M) := by
  refine ⟨?_, ?_, ?_, ?_, ?_, ?_, ?_, ?_, ?_, ?_, ?_, ?_, ?_, ?_, ?_, ?_, ?_, ?_, ?_, ?_, ?_, ?_, ?_, ?_⟩
  · intro d a b c L M Q; exact Wp_sim (by decide +kernel : decode (cd 114) 125 = .ok (.imul , 1)) rfl rfl
  · intro d a b x L M Q; exact Wp_sim (by decide +kernel : decode (cd 114) 126 = .ok (.aload_n 0, 1)) rfl rfl
  · intro d a b c L M Q; exact q_invV (pz := 950) (n := 0) (c := 12) (m := 1) (k := a) (As := []) (rest := [.int b, .ref c]) (by decide +kernel : decode (cd 114) 127 = .ok (.invokevirtual 87, 3)) (by decide +kernel) (by decide +kernel) rfl rfl (Nat.le_of_ble_eq_true rfl) (Nat.le_of_ble_eq_true rfl) rfl
  · intro d a b c L M Q; exact Wp_sim (by decide +kernel : decode (cd 114) 130 = .ok (.iadd , 1)) rfl rfl
  · intro d a b L M Q; exact Wp_sim (by decide +kernel : decode (cd 114) 131 = .ok (.bipush 48, 2)) rfl rfl
  · intro d a b c L M Q; exact Wp_sim (by decide +kernel : decode (cd 114) 133 = .ok (.isub , 1)) rfl rfl
  · intro d a b L M Q; exact q_goto (by decide +kernel : decode (cd 114) 134 = .ok (.goto 7, 3)) (by decide)
  · intro d a x L M Q; exact Wp_sim (by decide +kernel : decode (cd 114) 137 = .ok (.aload_n 0, 1)) rfl rfl
  · intro d a b L M Q; exact q_getI (p := 863) (by decide +kernel : decode (cd 114) 138 = .ok (.getfield 100, 3)) (by decide +kernel) (by decide +kernel)
  · intro d a b L M Q; exact q_putI (p := 863) (by decide +kernel : decode (cd 114) 141 = .ok (.putfield 100, 3)) (by decide +kernel) (by decide +kernel)
  · intro d x L M Q; exact Wp_sim (by decide +kernel : decode (cd 114) 144 = .ok (.aload_n 0, 1)) rfl rfl
  · intro d a L M Q; exact Wp_sim (by decide +kernel : decode (cd 114) 145 = .ok (.dup , 1)) rfl rfl
  · intro d a b L M Q; exact q_getI (p := 862) (by decide +kernel : decode (cd 114) 146 = .ok (.getfield 97, 3)) (by decide +kernel) (by decide +kernel)
  · intro d a b L M Q; exact Wp_sim (by decide +kernel : decode (cd 114) 149 = .ok (.iconst 1, 1)) rfl rfl
  · intro d a b c L M Q; exact Wp_sim (by decide +kernel : decode (cd 114) 150 = .ok (.iadd , 1)) rfl rfl
  · intro d a b L M Q; exact q_putI (p := 862) (by decide +kernel : decode (cd 114) 151 = .ok (.putfield 97, 3)) (by decide +kernel) (by decide +kernel)
  · intro d x L M Q; exact Wp_sim (by decide +kernel : decode (cd 114) 154 = .ok (.aload_n 0, 1)) rfl rfl
  · intro d a L M Q; exact Wp_sim (by decide +kernel : decode (cd 114) 155 = .ok (.dup , 1)) rfl rfl
  · intro d a b L M Q; exact q_getI (p := 859) (by decide +kernel : decode (cd 114) 156 = .ok (.getfield 84, 3)) (by decide +kernel) (by decide +kernel)
  · intro d a b L M Q; exact Wp_sim (by decide +kernel : decode (cd 114) 159 = .ok (.iconst 1, 1)) rfl rfl
  · intro d a b c L M Q; exact Wp_sim (by decide +kernel : decode (cd 114) 160 = .ok (.iadd , 1)) rfl rfl
  · intro d a b L M Q; exact q_putI (p := 859) (by decide +kernel : decode (cd 114) 161 = .ok (.putfield 84, 3)) (by decide +kernel) (by decide +kernel)
  · intro d L M Q; exact q_goto (by decide +kernel : decode (cd 114) 164 = .ok (.goto (-71), 3)) (by decide)
  · intro d L M Q; exact q_vret (by decide +kernel : decode (cd 114) 167 = .ok (.return_ , 1)) (by decide +kernel)
theorem h114_0 : (∀ (d : Nat) (x : Nat) (L : List Value) (M : Mem) (Q : Option Value → Mem → Prop), Wp d 114 0 (.ref x :: L) [] M Q ↔ Wp d 114 1 (.ref x :: L) [.ref x] M Q) := by
  intro d x L M Q; exact Wp_sim (by decide +kernel : decode (cd 114) 0 = .ok (.aload_n 0, 1)) rfl rfl
theorem h114_93 : (∀ (d : Nat) (x : Nat) (L : List Value) (M : Mem) (Q : Option Value → Mem → Prop), Wp d 114 93 (.ref x :: L) [] M Q ↔ Wp d 114 94 (.ref x :: L) [.ref x] M Q) := by
  intro d x L M Q; exact Wp_sim (by decide +kernel : decode (cd 114) 93 = .ok (.aload_n 0, 1)) rfl rfl

/- 115: PalaceYardModel.here -/
set_option maxRecDepth 10000 in
theorem e115 : (∀ (d : Nat) (x : Nat) (L : List Value) (M : Mem) (Q : Option Value → Mem → Prop), Wp d 115 0 (.ref x :: L) [] M Q ↔ Wp d 115 1 (.ref x :: L) [.ref x] M Q) ∧
    (∀ (d : Nat) (a : Nat) (L : List Value) (M : Mem) (Q : Option Value → Mem → Prop), Wp d 115 1 L [.ref a] M Q ↔ (isK a 12 = true ∧ Wp d 115 4 L [.int (M a 16)] M Q)) ∧
    (∀ (d : Nat) (a : Int32) (x : Nat) (L : List Value) (M : Mem) (Q : Option Value → Mem → Prop), Wp d 115 4 (.ref x :: L) [.int a] M Q ↔ Wp d 115 5 (.ref x :: L) [.ref x, .int a] M Q) ∧
    (∀ (d : Nat) (a : Nat) (b : Int32) (L : List Value) (M : Mem) (Q : Option Value → Mem → Prop), Wp d 115 5 L [.ref a, .int b] M Q ↔ (isK a 12 = true ∧ Wp d 115 8 L [.int (M a 10), .int b] M Q)) ∧
    (∀ (d : Nat) (a : Int32) (b : Int32) (L : List Value) (M : Mem) (Q : Option Value → Mem → Prop), Wp d 115 8 L [.int a, .int b] M Q ↔ (if b < a then Wp d 115 11 L [] M Q else Wp d 115 23 L [] M Q)) ∧
    (∀ (d : Nat) (x : Nat) (L : List Value) (M : Mem) (Q : Option Value → Mem → Prop), Wp d 115 11 (.ref x :: L) [] M Q ↔ Wp d 115 12 (.ref x :: L) [.ref x] M Q) ∧
    (∀ (d : Nat) (a : Nat) (L : List Value) (M : Mem) (Q : Option Value → Mem → Prop), Wp d 115 12 L [.ref a] M Q ↔ (isK a 12 = true ∧ Wp d 115 15 L [.ref (rt a 9)] M Q)) ∧
    (∀ (d : Nat) (a : Nat) (x : Nat) (L : List Value) (M : Mem) (Q : Option Value → Mem → Prop), Wp d 115 15 (.ref x :: L) [.ref a] M Q ↔ Wp d 115 16 (.ref x :: L) [.ref x, .ref a] M Q) ∧
    (∀ (d : Nat) (a : Nat) (b : Nat) (L : List Value) (M : Mem) (Q : Option Value → Mem → Prop), Wp d 115 16 L [.ref a, .ref b] M Q ↔ (isK a 12 = true ∧ Wp d 115 19 L [.int (M a 16), .ref b] M Q)) ∧
    (∀ (d : Nat) (a : Int32) (b : Nat) (L : List Value) (M : Mem) (Q : Option Value → Mem → Prop), Wp d 115 19 L [.int a, .ref b] M Q ↔ ((isR b = true ∧ inr a (lnm M b)) ∧ Wp d 115 20 L [.int (M b a.toNatClampNeg)] M Q)) ∧
    (∀ (d : Nat) (a : Int32) (L : List Value) (M : Mem) (Q : Option Value → Mem → Prop), Wp d 115 20 L [.int a] M Q ↔ Wp d 115 24 L [.int a] M Q) ∧
    (∀ (d : Nat) (L : List Value) (M : Mem) (Q : Option Value → Mem → Prop), Wp d 115 23 L [] M Q ↔ Wp d 115 24 L [.int (-1)] M Q) ∧
    (∀ (d : Nat) (a : Int32) (L : List Value) (M : Mem) (Q : Option Value → Mem → Prop), Wp d 115 24 L [.int a] M Q ↔ Q (some (.int a)) M) := by
  refine ⟨?_, ?_, ?_, ?_, ?_, ?_, ?_, ?_, ?_, ?_, ?_, ?_, ?_⟩
  · intro d x L M Q; exact Wp_sim (by decide +kernel : decode (cd 115) 0 = .ok (.aload_n 0, 1)) rfl rfl
  · intro d a L M Q; exact q_getI (p := 859) (by decide +kernel : decode (cd 115) 1 = .ok (.getfield 84, 3)) (by decide +kernel) (by decide +kernel)
  · intro d a x L M Q; exact Wp_sim (by decide +kernel : decode (cd 115) 4 = .ok (.aload_n 0, 1)) rfl rfl
  · intro d a b L M Q; exact q_getI (p := 853) (by decide +kernel : decode (cd 115) 5 = .ok (.getfield 80, 3)) (by decide +kernel) (by decide +kernel)
  · intro d a b L M Q; exact q_ige (by decide +kernel : decode (cd 115) 8 = .ok (.if_icmp .ge 15, 3)) (by decide)
  · intro d x L M Q; exact Wp_sim (by decide +kernel : decode (cd 115) 11 = .ok (.aload_n 0, 1)) rfl rfl
  · intro d a L M Q; exact q_getR (p := 852) (by decide +kernel : decode (cd 115) 12 = .ok (.getfield 32, 3)) (by decide +kernel) (by decide +kernel)
  · intro d a x L M Q; exact Wp_sim (by decide +kernel : decode (cd 115) 15 = .ok (.aload_n 0, 1)) rfl rfl
  · intro d a b L M Q; exact q_getI (p := 859) (by decide +kernel : decode (cd 115) 16 = .ok (.getfield 84, 3)) (by decide +kernel) (by decide +kernel)
  · intro d a b L M Q; exact q_ald (by decide +kernel : decode (cd 115) 19 = .ok (.iaload , 1))
  · intro d a L M Q; exact q_goto (by decide +kernel : decode (cd 115) 20 = .ok (.goto 4, 3)) (by decide)
  · intro d L M Q; exact Wp_sim (by decide +kernel : decode (cd 115) 23 = .ok (.iconst (-1), 1)) rfl rfl
  · intro d a L M Q; exact q_iret (by decide +kernel : decode (cd 115) 24 = .ok (.ireturn , 1)) (by decide +kernel)

/- 116: PalaceYardModel.readsClause -/
set_option maxRecDepth 10000 in
theorem e116_0 : (∀ (d : Nat) (x : Nat) (L : List Value) (M : Mem) (Q : Option Value → Mem → Prop), Wp d 116 0 (.ref x :: L) [] M Q ↔ Wp d 116 1 (.ref x :: L) [.ref x] M Q) ∧
    (∀ (d : Nat) (a : Nat) (L : List Value) (M : Mem) (Q : Option Value → Mem → Prop), Wp d 116 1 L [.ref a] M Q ↔ (isK a 12 = true ∧ Wp d 116 4 L [.int (M a 18)] M Q)) ∧
    (∀ (d : Nat) (a : Int32) (L : List Value) (M : Mem) (Q : Option Value → Mem → Prop), Wp d 116 4 L [.int a] M Q ↔ Wp d 116 6 L [.int 121, .int a] M Q) ∧
    (∀ (d : Nat) (a : Int32) (b : Int32) (L : List Value) (M : Mem) (Q : Option Value → Mem → Prop), Wp d 116 6 L [.int a, .int b] M Q ↔ (if b = a then Wp d 116 9 L [] M Q else Wp d 116 72 L [] M Q)) ∧
    (∀ (d : Nat) (x : Nat) (L : List Value) (M : Mem) (Q : Option Value → Mem → Prop), Wp d 116 9 (.ref x :: L) [] M Q ↔ Wp d 116 10 (.ref x :: L) [.ref x] M Q) ∧
    (∀ (d : Nat) (a : Nat) (L : List Value) (M : Mem) (Q : Option Value → Mem → Prop), Wp d 116 10 L [.ref a] M Q ↔ (isK a 12 = true ∧ Wp d 116 13 L [.ref (rt a 1)] M Q)) ∧
    (∀ (d : Nat) (a : Nat) (L : List Value) (M : Mem) (Q : Option Value → Mem → Prop), Wp d 116 13 L [.ref a] M Q ↔ Wp d 116 14 L [.int 1, .ref a] M Q) ∧
    (∀ (d : Nat) (a : Int32) (b : Nat) (L : List Value) (M : Mem) (Q : Option Value → Mem → Prop), Wp d 116 14 L [.int a, .ref b] M Q ↔ ((isR b = true ∧ inr a (lnm M b)) ∧ Wp d 116 15 L [.int (M b a.toNatClampNeg)] M Q)) ∧
    (∀ (d : Nat) (a : Int32) (L : List Value) (M : Mem) (Q : Option Value → Mem → Prop), Wp d 116 15 L [.int a] M Q ↔ (if 0 < a then Wp d 116 18 L [] M Q else Wp d 116 26 L [] M Q)) ∧
    (∀ (d : Nat) (x : Nat) (L : List Value) (M : Mem) (Q : Option Value → Mem → Prop), Wp d 116 18 (.ref x :: L) [] M Q ↔ Wp d 116 19 (.ref x :: L) [.ref x] M Q) ∧
    (∀ (d : Nat) (a : Nat) (L : List Value) (M : Mem) (Q : Option Value → Mem → Prop), Wp d 116 19 L [.ref a] M Q ↔ Wp d 116 20 L [.int 3, .ref a] M Q) ∧
    (∀ (d : Nat) (a : Int32) (b : Nat) (L : List Value) (M : Mem) (Q : Option Value → Mem → Prop), Wp (d + 1) 116 20 L [.int a, .ref b] M Q ↔ (isK b 12 = true ∧ Wp d 117 0 [.ref b, .int a] [] M (fun r M2 => Wp (d + 1) 116 23 L (r.toList ++ []) M2 Q))) ∧
    (∀ (d : Nat) (a : Int32) (L : List Value) (M : Mem) (Q : Option Value → Mem → Prop), Wp d 116 23 L [.int a] M Q ↔ Wp d 116 71 L [.int a] M Q) ∧
    (∀ (d : Nat) (x : Nat) (L : List Value) (M : Mem) (Q : Option Value → Mem → Prop), Wp d 116 26 (.ref x :: L) [] M Q ↔ Wp d 116 27 (.ref x :: L) [.ref x] M Q) ∧
    (∀ (d : Nat) (a : Nat) (L : List Value) (M : Mem) (Q : Option Value → Mem → Prop), Wp d 116 27 L [.ref a] M Q ↔ Wp d 116 28 L [.int 0, .ref a] M Q) ∧
    (∀ (d : Nat) (a : Int32) (b : Nat) (L : List Value) (M : Mem) (Q : Option Value → Mem → Prop), Wp d 116 28 L [.int a, .ref b] M Q ↔ Wp d 116 29 L [.int 0, .int a, .ref b] M Q) ∧
    (∀ (d : Nat) (a : Int32) (b : Int32) (c : Nat) (L : List Value) (M : Mem) (Q : Option Value → Mem → Prop), Wp d 116 29 L [.int a, .int b, .ref c] M Q ↔ Wp d 116 31 L [.int 99, .int a, .int b, .ref c] M Q) ∧
    (∀ (d : Nat) (a : Int32) (b : Int32) (c : Int32) (d2 : Nat) (L : List Value) (M : Mem) (Q : Option Value → Mem → Prop), Wp (d + 1) 116 31 L [.int a, .int b, .int c, .ref d2] M Q ↔ (isK d2 12 = true ∧ Wp d 118 0 [.ref d2, .int c, .int b, .int a] [] M (fun r M2 => Wp (d + 1) 116 34 L (r.toList ++ []) M2 Q))) ∧
    (∀ (d : Nat) (a : Int32) (L : List Value) (M : Mem) (Q : Option Value → Mem → Prop), Wp d 116 34 L [.int a] M Q ↔ (if a = 0 then Wp d 116 70 L [] M Q else Wp d 116 37 L [] M Q)) ∧
    (∀ (d : Nat) (x : Nat) (L : List Value) (M : Mem) (Q : Option Value → Mem → Prop), Wp d 116 37 (.ref x :: L) [] M Q ↔ Wp d 116 38 (.ref x :: L) [.ref x] M Q) ∧
    (∀ (d : Nat) (a : Nat) (L : List Value) (M : Mem) (Q : Option Value → Mem → Prop), Wp d 116 38 L [.ref a] M Q ↔ Wp d 116 39 L [.int 1, .ref a] M Q) ∧
    (∀ (d : Nat) (a : Int32) (b : Nat) (L : List Value) (M : Mem) (Q : Option Value → Mem → Prop), Wp d 116 39 L [.int a, .ref b] M Q ↔ Wp d 116 40 L [.int 1, .int a, .ref b] M Q) ∧
    (∀ (d : Nat) (a : Int32) (b : Int32) (c : Nat) (L : List Value) (M : Mem) (Q : Option Value → Mem → Prop), Wp d 116 40 L [.int a, .int b, .ref c] M Q ↔ Wp d 116 42 L [.int 6, .int a, .int b, .ref c] M Q) ∧
    (∀ (d : Nat) (a : Int32) (b : Int32) (c : Int32) (d2 : Nat) (L : List Value) (M : Mem) (Q : Option Value → Mem → Prop), Wp (d + 1) 116 42 L [.int a, .int b, .int c, .ref d2] M Q ↔ (isK d2 12 = true ∧ Wp d 118 0 [.ref d2, .int c, .int b, .int a] [] M (fun r M2 => Wp (d + 1) 116 45 L (r.toList ++ []) M2 Q))) ∧
    (∀ (d : Nat) (a : Int32) (L : List Value) (M : Mem) (Q : Option Value → Mem → Prop), Wp d 116 45 L [.int a] M Q ↔ (if a = 0 then Wp d 116 70 L [] M Q else Wp d 116 48 L [] M Q)) ∧
    (∀ (d : Nat) (x : Nat) (L : List Value) (M : Mem) (Q : Option Value → Mem → Prop), Wp d 116 48 (.ref x :: L) [] M Q ↔ Wp d 116 49 (.ref x :: L) [.ref x] M Q) ∧
    (∀ (d : Nat) (a : Nat) (L : List Value) (M : Mem) (Q : Option Value → Mem → Prop), Wp d 116 49 L [.ref a] M Q ↔ Wp d 116 50 L [.int 2, .ref a] M Q) ∧
    (∀ (d : Nat) (a : Int32) (b : Nat) (L : List Value) (M : Mem) (Q : Option Value → Mem → Prop), Wp d 116 50 L [.int a, .ref b] M Q ↔ Wp d 116 51 L [.int 0, .int a, .ref b] M Q) ∧
    (∀ (d : Nat) (a : Int32) (b : Int32) (c : Nat) (L : List Value) (M : Mem) (Q : Option Value → Mem → Prop), Wp d 116 51 L [.int a, .int b, .ref c] M Q ↔ Wp d 116 53 L [.int 6, .int a, .int b, .ref c] M Q) ∧
    (∀ (d : Nat) (a : Int32) (b : Int32) (c : Int32) (d2 : Nat) (L : List Value) (M : Mem) (Q : Option Value → Mem → Prop), Wp (d + 1) 116 53 L [.int a, .int b, .int c, .ref d2] M Q ↔ (isK d2 12 = true ∧ Wp d 118 0 [.ref d2, .int c, .int b, .int a] [] M (fun r M2 => Wp (d + 1) 116 56 L (r.toList ++ []) M2 Q))) ∧
    (∀ (d : Nat) (a : Int32) (L : List Value) (M : Mem) (Q : Option Value → Mem → Prop), Wp d 116 56 L [.int a] M Q ↔ (if a = 0 then Wp d 116 70 L [] M Q else Wp d 116 59 L [] M Q)) ∧
    (∀ (d : Nat) (x : Nat) (L : List Value) (M : Mem) (Q : Option Value → Mem → Prop), Wp d 116 59 (.ref x :: L) [] M Q ↔ Wp d 116 60 (.ref x :: L) [.ref x] M Q) ∧
    (∀ (d : Nat) (a : Nat) (L : List Value) (M : Mem) (Q : Option Value → Mem → Prop), Wp (d + 1) 116 60 L [.ref a] M Q ↔ (isK a 12 = true ∧ Wp d 119 0 [.ref a] [] M (fun r M2 => Wp (d + 1) 116 63 L (r.toList ++ []) M2 Q))) ∧
    (∀ (d : Nat) (a : Int32) (L : List Value) (M : Mem) (Q : Option Value → Mem → Prop), Wp d 116 63 L [.int a] M Q ↔ (if a = 0 then Wp d 116 70 L [] M Q else Wp d 116 66 L [] M Q)) ∧
    (∀ (d : Nat) (L : List Value) (M : Mem) (Q : Option Value → Mem → Prop), Wp d 116 66 L [] M Q ↔ Wp d 116 67 L [.int 1] M Q) ∧
    (∀ (d : Nat) (a : Int32) (L : List Value) (M : Mem) (Q : Option Value → Mem → Prop), Wp d 116 67 L [.int a] M Q ↔ Wp d 116 71 L [.int a] M Q) ∧
    (∀ (d : Nat) (L : List Value) (M : Mem) (Q : Option Value → Mem → Prop), Wp d 116 70 L [] M Q ↔ Wp d 116 71 L [.int 0] M Q) ∧
    (∀ (d : Nat) (a : Int32) (L : List Value) (M : Mem) (Q : Option Value → Mem → Prop), Wp d 116 71 L [.int a] M Q ↔ ((a = 0 ∨ a = 1) ∧ Q (some (.int a)) M)) ∧
    (∀ (d : Nat) (x : Nat) (L : List Value) (M : Mem) (Q : Option Value → Mem → Prop), Wp d 116 72 (.ref x :: L) [] M Q ↔ Wp d 116 73 (.ref x :: L) [.ref x] M Q) ∧
    (∀ (d : Nat) (a : Nat) (L : List Value) (M : Mem) (Q : Option Value → Mem → Prop), Wp d 116 73 L [.ref a] M Q ↔ (isK a 12 = true ∧ Wp d 116 76 L [.ref (rt a 1)] M Q)) ∧
    (∀ (d : Nat) (a : Nat) (L : List Value) (M : Mem) (Q : Option Value → Mem → Prop), Wp d 116 76 L [.ref a] M Q ↔ Wp d 116 77 L [.int 1, .ref a] M Q) ∧
    (∀ (d : Nat) (a : Int32) (b : Nat) (L : List Value) (M : Mem) (Q : Option Value → Mem → Prop), Wp d 116 77 L [.int a, .ref b] M Q ↔ ((isR b = true ∧ inr a (lnm M b)) ∧ Wp d 116 78 L [.int (M b a.toNatClampNeg)] M Q)) ∧
    (∀ (d : Nat) (a : Int32) (L : List Value) (M : Mem) (Q : Option Value → Mem → Prop), Wp d 116 78 L [.int a] M Q ↔ (if a = 0 then Wp d 116 81 L [] M Q else Wp d 116 87 L [] M Q)) ∧
    (∀ (d : Nat) (x : Nat) (L : List Value) (M : Mem) (Q : Option Value → Mem → Prop), Wp d 116 81 (.ref x :: L) [] M Q ↔ Wp d 116 82 (.ref x :: L) [.ref x] M Q) ∧
    (∀ (d : Nat) (a : Nat) (L : List Value) (M : Mem) (Q : Option Value → Mem → Prop), Wp d 116 82 L [.ref a] M Q ↔ Wp d 116 83 L [.int 1, .ref a] M Q) ∧
    (∀ (d : Nat) (a : Int32) (b : Nat) (L : List Value) (M : Mem) (Q : Option Value → Mem → Prop), Wp (d + 1) 116 83 L [.int a, .ref b] M Q ↔ (isK b 12 = true ∧ Wp d 117 0 [.ref b, .int a] [] M (fun r M2 => Wp (d + 1) 116 86 L (r.toList ++ []) M2 Q))) ∧
    (∀ (d : Nat) (a : Int32) (L : List Value) (M : Mem) (Q : Option Value → Mem → Prop), Wp d 116 86 L [.int a] M Q ↔ ((a = 0 ∨ a = 1) ∧ Q (some (.int a)) M)) ∧
    (∀ (d : Nat) (x : Nat) (L : List Value) (M : Mem) (Q : Option Value → Mem → Prop), Wp d 116 87 (.ref x :: L) [] M Q ↔ Wp d 116 88 (.ref x :: L) [.ref x] M Q) ∧
    (∀ (d : Nat) (a : Nat) (L : List Value) (M : Mem) (Q : Option Value → Mem → Prop), Wp d 116 88 L [.ref a] M Q ↔ (isK a 12 = true ∧ Wp d 116 91 L [.int (M a 18)] M Q)) ∧
    (∀ (d : Nat) (a : Int32) (L : List Value) (M : Mem) (Q : Option Value → Mem → Prop), Wp d 116 91 L [.int a] M Q ↔ Wp d 116 93 L [.int 99, .int a] M Q) ∧
    (∀ (d : Nat) (a : Int32) (b : Int32) (L : List Value) (M : Mem) (Q : Option Value → Mem → Prop), Wp d 116 93 L [.int a, .int b] M Q ↔ (if b = a then Wp d 116 96 L [] M Q else Wp d 116 103 L [] M Q)) ∧
    (∀ (d : Nat) (x : Nat) (L : List Value) (M : Mem) (Q : Option Value → Mem → Prop), Wp d 116 96 (.ref x :: L) [] M Q ↔ Wp d 116 97 (.ref x :: L) [.ref x] M Q) ∧
    (∀ (d : Nat) (a : Nat) (L : List Value) (M : Mem) (Q : Option Value → Mem → Prop), Wp (d + 1) 116 97 L [.ref a] M Q ↔ (isK a 12 = true ∧ Wp d 120 0 [.ref a, .null] [] M (fun r M2 => Wp (d + 1) 116 100 L (r.toList ++ []) M2 Q))) ∧
    (∀ (d : Nat) (a : Int32) (L : List Value) (M : Mem) (Q : Option Value → Mem → Prop), Wp d 116 100 L [.int a] M Q ↔ Wp d 116 140 L [.int a] M Q) ∧
    (∀ (d : Nat) (x : Nat) (L : List Value) (M : Mem) (Q : Option Value → Mem → Prop), Wp d 116 103 (.ref x :: L) [] M Q ↔ Wp d 116 104 (.ref x :: L) [.ref x] M Q) ∧
    (∀ (d : Nat) (a : Nat) (L : List Value) (M : Mem) (Q : Option Value → Mem → Prop), Wp d 116 104 L [.ref a] M Q ↔ (isK a 12 = true ∧ Wp d 116 107 L [.int (M a 18)] M Q)) ∧
    (∀ (d : Nat) (a : Int32) (L : List Value) (M : Mem) (Q : Option Value → Mem → Prop), Wp d 116 107 L [.int a] M Q ↔ Wp d 116 109 L [.int 100, .int a] M Q) ∧
    (∀ (d : Nat) (a : Int32) (b : Int32) (L : List Value) (M : Mem) (Q : Option Value → Mem → Prop), Wp d 116 109 L [.int a, .int b] M Q ↔ (if b = a then Wp d 116 112 L [] M Q else Wp d 116 119 L [] M Q)) ∧
    (∀ (d : Nat) (x : Nat) (L : List Value) (M : Mem) (Q : Option Value → Mem → Prop), Wp d 116 112 (.ref x :: L) [] M Q ↔ Wp d 116 113 (.ref x :: L) [.ref x] M Q) ∧
    (∀ (d : Nat) (a : Nat) (L : List Value) (M : Mem) (Q : Option Value → Mem → Prop), Wp (d + 1) 116 113 L [.ref a] M Q ↔ (isK a 12 = true ∧ Wp d 121 0 [.ref a, .null] [] M (fun r M2 => Wp (d + 1) 116 116 L (r.toList ++ []) M2 Q))) := by
  refine ⟨?_, ?_, ?_, ?_, ?_, ?_, ?_, ?_, ?_, ?_, ?_, ?_, ?_, ?_, ?_, ?_, ?_, ?_, ?_, ?_, ?_, ?_, ?_, ?_, ?_, ?_, ?_, ?_, ?_, ?_, ?_, ?_, ?_, ?_, ?_, ?_, ?_, ?_, ?_, ?_, ?_, ?_, ?_, ?_, ?_, ?_, ?_, ?_, ?_, ?_, ?_, ?_, ?_, ?_, ?_, ?_, ?_, ?_, ?_, ?_⟩
  · intro d x L M Q; exact Wp_sim (by decide +kernel : decode (cd 116) 0 = .ok (.aload_n 0, 1)) rfl rfl
  · intro d a L M Q; exact q_getI (p := 861) (by decide +kernel : decode (cd 116) 1 = .ok (.getfield 94, 3)) (by decide +kernel) (by decide +kernel)
  · intro d a L M Q; exact Wp_sim (by decide +kernel : decode (cd 116) 4 = .ok (.bipush 121, 2)) rfl rfl
  · intro d a b L M Q; exact q_ine (by decide +kernel : decode (cd 116) 6 = .ok (.if_icmp .ne 66, 3)) (by decide)
  · intro d x L M Q; exact Wp_sim (by decide +kernel : decode (cd 116) 9 = .ok (.aload_n 0, 1)) rfl rfl
  · intro d a L M Q; exact q_getR (p := 844) (by decide +kernel : decode (cd 116) 10 = .ok (.getfield 13, 3)) (by decide +kernel) (by decide +kernel)
  · intro d a L M Q; exact Wp_sim (by decide +kernel : decode (cd 116) 13 = .ok (.iconst 1, 1)) rfl rfl
  · intro d a b L M Q; exact q_ald (by decide +kernel : decode (cd 116) 14 = .ok (.iaload , 1))
  · intro d a L M Q; exact q_zle (by decide +kernel : decode (cd 116) 15 = .ok (.ifCond .le 11, 3)) (by decide)
  · intro d x L M Q; exact Wp_sim (by decide +kernel : decode (cd 116) 18 = .ok (.aload_n 0, 1)) rfl rfl
  · intro d a L M Q; exact Wp_sim (by decide +kernel : decode (cd 116) 19 = .ok (.iconst 3, 1)) rfl rfl
  · intro d a b L M Q; exact q_invV (pz := 960) (n := 1) (c := 12) (m := 2) (k := b) (As := [.int a]) (rest := []) (by decide +kernel : decode (cd 116) 20 = .ok (.invokevirtual 113, 3)) (by decide +kernel) (by decide +kernel) rfl rfl (Nat.le_of_ble_eq_true rfl) (Nat.le_of_ble_eq_true rfl) rfl
  · intro d a L M Q; exact q_goto (by decide +kernel : decode (cd 116) 23 = .ok (.goto 48, 3)) (by decide)
  · intro d x L M Q; exact Wp_sim (by decide +kernel : decode (cd 116) 26 = .ok (.aload_n 0, 1)) rfl rfl
  · intro d a L M Q; exact Wp_sim (by decide +kernel : decode (cd 116) 27 = .ok (.iconst 0, 1)) rfl rfl
  · intro d a b L M Q; exact Wp_sim (by decide +kernel : decode (cd 116) 28 = .ok (.iconst 0, 1)) rfl rfl
  · intro d a b c L M Q; exact Wp_sim (by decide +kernel : decode (cd 116) 29 = .ok (.bipush 99, 2)) rfl rfl
  · intro d a b c d2 L M Q; exact q_invV (pz := 964) (n := 3) (c := 12) (m := 4) (k := d2) (As := [.int c, .int b, .int a]) (rest := []) (by decide +kernel : decode (cd 116) 31 = .ok (.invokevirtual 117, 3)) (by decide +kernel) (by decide +kernel) rfl rfl (Nat.le_of_ble_eq_true rfl) (Nat.le_of_ble_eq_true rfl) rfl
  · intro d a L M Q; exact q_zeq (by decide +kernel : decode (cd 116) 34 = .ok (.ifCond .eq 36, 3)) (by decide)
  · intro d x L M Q; exact Wp_sim (by decide +kernel : decode (cd 116) 37 = .ok (.aload_n 0, 1)) rfl rfl
  · intro d a L M Q; exact Wp_sim (by decide +kernel : decode (cd 116) 38 = .ok (.iconst 1, 1)) rfl rfl
  · intro d a b L M Q; exact Wp_sim (by decide +kernel : decode (cd 116) 39 = .ok (.iconst 1, 1)) rfl rfl
  · intro d a b c L M Q; exact Wp_sim (by decide +kernel : decode (cd 116) 40 = .ok (.bipush 6, 2)) rfl rfl
  · intro d a b c d2 L M Q; exact q_invV (pz := 964) (n := 3) (c := 12) (m := 4) (k := d2) (As := [.int c, .int b, .int a]) (rest := []) (by decide +kernel : decode (cd 116) 42 = .ok (.invokevirtual 117, 3)) (by decide +kernel) (by decide +kernel) rfl rfl (Nat.le_of_ble_eq_true rfl) (Nat.le_of_ble_eq_true rfl) rfl
  · intro d a L M Q; exact q_zeq (by decide +kernel : decode (cd 116) 45 = .ok (.ifCond .eq 25, 3)) (by decide)
  · intro d x L M Q; exact Wp_sim (by decide +kernel : decode (cd 116) 48 = .ok (.aload_n 0, 1)) rfl rfl
  · intro d a L M Q; exact Wp_sim (by decide +kernel : decode (cd 116) 49 = .ok (.iconst 2, 1)) rfl rfl
  · intro d a b L M Q; exact Wp_sim (by decide +kernel : decode (cd 116) 50 = .ok (.iconst 0, 1)) rfl rfl
  · intro d a b c L M Q; exact Wp_sim (by decide +kernel : decode (cd 116) 51 = .ok (.bipush 6, 2)) rfl rfl
  · intro d a b c d2 L M Q; exact q_invV (pz := 964) (n := 3) (c := 12) (m := 4) (k := d2) (As := [.int c, .int b, .int a]) (rest := []) (by decide +kernel : decode (cd 116) 53 = .ok (.invokevirtual 117, 3)) (by decide +kernel) (by decide +kernel) rfl rfl (Nat.le_of_ble_eq_true rfl) (Nat.le_of_ble_eq_true rfl) rfl
  · intro d a L M Q; exact q_zeq (by decide +kernel : decode (cd 116) 56 = .ok (.ifCond .eq 14, 3)) (by decide)
  · intro d x L M Q; exact Wp_sim (by decide +kernel : decode (cd 116) 59 = .ok (.aload_n 0, 1)) rfl rfl
  · intro d a L M Q; exact q_invV (pz := 968) (n := 0) (c := 12) (m := 1) (k := a) (As := []) (rest := []) (by decide +kernel : decode (cd 116) 60 = .ok (.invokevirtual 121, 3)) (by decide +kernel) (by decide +kernel) rfl rfl (Nat.le_of_ble_eq_true rfl) (Nat.le_of_ble_eq_true rfl) rfl
  · intro d a L M Q; exact q_zeq (by decide +kernel : decode (cd 116) 63 = .ok (.ifCond .eq 7, 3)) (by decide)
  · intro d L M Q; exact Wp_sim (by decide +kernel : decode (cd 116) 66 = .ok (.iconst 1, 1)) rfl rfl
  · intro d a L M Q; exact q_goto (by decide +kernel : decode (cd 116) 67 = .ok (.goto 4, 3)) (by decide)
  · intro d L M Q; exact Wp_sim (by decide +kernel : decode (cd 116) 70 = .ok (.iconst 0, 1)) rfl rfl
  · intro d a L M Q; exact q_zret (by decide +kernel : decode (cd 116) 71 = .ok (.ireturn , 1)) (by decide +kernel)
  · intro d x L M Q; exact Wp_sim (by decide +kernel : decode (cd 116) 72 = .ok (.aload_n 0, 1)) rfl rfl
  · intro d a L M Q; exact q_getR (p := 844) (by decide +kernel : decode (cd 116) 73 = .ok (.getfield 13, 3)) (by decide +kernel) (by decide +kernel)
  · intro d a L M Q; exact Wp_sim (by decide +kernel : decode (cd 116) 76 = .ok (.iconst 1, 1)) rfl rfl
  · intro d a b L M Q; exact q_ald (by decide +kernel : decode (cd 116) 77 = .ok (.iaload , 1))
  · intro d a L M Q; exact q_zne (by decide +kernel : decode (cd 116) 78 = .ok (.ifCond .ne 9, 3)) (by decide)
  · intro d x L M Q; exact Wp_sim (by decide +kernel : decode (cd 116) 81 = .ok (.aload_n 0, 1)) rfl rfl
  · intro d a L M Q; exact Wp_sim (by decide +kernel : decode (cd 116) 82 = .ok (.iconst 1, 1)) rfl rfl
  · intro d a b L M Q; exact q_invV (pz := 960) (n := 1) (c := 12) (m := 2) (k := b) (As := [.int a]) (rest := []) (by decide +kernel : decode (cd 116) 83 = .ok (.invokevirtual 113, 3)) (by decide +kernel) (by decide +kernel) rfl rfl (Nat.le_of_ble_eq_true rfl) (Nat.le_of_ble_eq_true rfl) rfl
  · intro d a L M Q; exact q_zret (by decide +kernel : decode (cd 116) 86 = .ok (.ireturn , 1)) (by decide +kernel)
  · intro d x L M Q; exact Wp_sim (by decide +kernel : decode (cd 116) 87 = .ok (.aload_n 0, 1)) rfl rfl
  · intro d a L M Q; exact q_getI (p := 861) (by decide +kernel : decode (cd 116) 88 = .ok (.getfield 94, 3)) (by decide +kernel) (by decide +kernel)
  · intro d a L M Q; exact Wp_sim (by decide +kernel : decode (cd 116) 91 = .ok (.bipush 99, 2)) rfl rfl
  · intro d a b L M Q; exact q_ine (by decide +kernel : decode (cd 116) 93 = .ok (.if_icmp .ne 10, 3)) (by decide)
  · intro d x L M Q; exact Wp_sim (by decide +kernel : decode (cd 116) 96 = .ok (.aload_n 0, 1)) rfl rfl
  · intro d a L M Q; exact q_invV (pz := 972) (n := 0) (c := 12) (m := 2) (k := a) (As := []) (rest := []) (by decide +kernel : decode (cd 116) 97 = .ok (.invokevirtual 125, 3)) (by decide +kernel) (by decide +kernel) rfl rfl (Nat.le_of_ble_eq_true rfl) (Nat.le_of_ble_eq_true rfl) rfl
  · intro d a L M Q; exact q_goto (by decide +kernel : decode (cd 116) 100 = .ok (.goto 40, 3)) (by decide)
  · intro d x L M Q; exact Wp_sim (by decide +kernel : decode (cd 116) 103 = .ok (.aload_n 0, 1)) rfl rfl
  · intro d a L M Q; exact q_getI (p := 861) (by decide +kernel : decode (cd 116) 104 = .ok (.getfield 94, 3)) (by decide +kernel) (by decide +kernel)
  · intro d a L M Q; exact Wp_sim (by decide +kernel : decode (cd 116) 107 = .ok (.bipush 100, 2)) rfl rfl
  · intro d a b L M Q; exact q_ine (by decide +kernel : decode (cd 116) 109 = .ok (.if_icmp .ne 10, 3)) (by decide)
  · intro d x L M Q; exact Wp_sim (by decide +kernel : decode (cd 116) 112 = .ok (.aload_n 0, 1)) rfl rfl
  · intro d a L M Q; exact q_invV (pz := 976) (n := 0) (c := 12) (m := 2) (k := a) (As := []) (rest := []) (by decide +kernel : decode (cd 116) 113 = .ok (.invokevirtual 128, 3)) (by decide +kernel) (by decide +kernel) rfl rfl (Nat.le_of_ble_eq_true rfl) (Nat.le_of_ble_eq_true rfl) rfl
set_option maxRecDepth 10000 in
theorem e116_1 : (∀ (d : Nat) (a : Int32) (L : List Value) (M : Mem) (Q : Option Value → Mem → Prop), Wp d 116 116 L [.int a] M Q ↔ Wp d 116 140 L [.int a] M Q) ∧
    (∀ (d : Nat) (x : Nat) (L : List Value) (M : Mem) (Q : Option Value → Mem → Prop), Wp d 116 119 (.ref x :: L) [] M Q ↔ Wp d 116 120 (.ref x :: L) [.ref x] M Q) ∧
    (∀ (d : Nat) (a : Nat) (L : List Value) (M : Mem) (Q : Option Value → Mem → Prop), Wp d 116 120 L [.ref a] M Q ↔ (isK a 12 = true ∧ Wp d 116 123 L [.int (M a 18)] M Q)) ∧
    (∀ (d : Nat) (a : Int32) (L : List Value) (M : Mem) (Q : Option Value → Mem → Prop), Wp d 116 123 L [.int a] M Q ↔ Wp d 116 125 L [.int 112, .int a] M Q) ∧
    (∀ (d : Nat) (a : Int32) (b : Int32) (L : List Value) (M : Mem) (Q : Option Value → Mem → Prop), Wp d 116 125 L [.int a, .int b] M Q ↔ (if b = a then Wp d 116 128 L [] M Q else Wp d 116 135 L [] M Q)) ∧
    (∀ (d : Nat) (x : Nat) (L : List Value) (M : Mem) (Q : Option Value → Mem → Prop), Wp d 116 128 (.ref x :: L) [] M Q ↔ Wp d 116 129 (.ref x :: L) [.ref x] M Q) ∧
    (∀ (d : Nat) (a : Nat) (L : List Value) (M : Mem) (Q : Option Value → Mem → Prop), Wp (d + 1) 116 129 L [.ref a] M Q ↔ (isK a 12 = true ∧ Wp d 122 0 [.ref a, .null] [] M (fun r M2 => Wp (d + 1) 116 132 L (r.toList ++ []) M2 Q))) ∧
    (∀ (d : Nat) (a : Int32) (L : List Value) (M : Mem) (Q : Option Value → Mem → Prop), Wp d 116 132 L [.int a] M Q ↔ Wp d 116 140 L [.int a] M Q) ∧
    (∀ (d : Nat) (x : Nat) (L : List Value) (M : Mem) (Q : Option Value → Mem → Prop), Wp d 116 135 (.ref x :: L) [] M Q ↔ Wp d 116 136 (.ref x :: L) [.ref x] M Q) ∧
    (∀ (d : Nat) (a : Nat) (L : List Value) (M : Mem) (Q : Option Value → Mem → Prop), Wp d 116 136 L [.ref a] M Q ↔ Wp d 116 137 L [.int 1, .ref a] M Q) ∧
    (∀ (d : Nat) (a : Int32) (b : Nat) (L : List Value) (M : Mem) (Q : Option Value → Mem → Prop), Wp (d + 1) 116 137 L [.int a, .ref b] M Q ↔ (isK b 12 = true ∧ Wp d 117 0 [.ref b, .int a] [] M (fun r M2 => Wp (d + 1) 116 140 L (r.toList ++ []) M2 Q))) ∧
    (∀ (d : Nat) (a : Int32) (L : List Value) (M : Mem) (Q : Option Value → Mem → Prop), Wp d 116 140 L [.int a] M Q ↔ ((a = 0 ∨ a = 1) ∧ Q (some (.int a)) M)) := by
  refine ⟨?_, ?_, ?_, ?_, ?_, ?_, ?_, ?_, ?_, ?_, ?_, ?_⟩
  · intro d a L M Q; exact q_goto (by decide +kernel : decode (cd 116) 116 = .ok (.goto 24, 3)) (by decide)
  · intro d x L M Q; exact Wp_sim (by decide +kernel : decode (cd 116) 119 = .ok (.aload_n 0, 1)) rfl rfl
  · intro d a L M Q; exact q_getI (p := 861) (by decide +kernel : decode (cd 116) 120 = .ok (.getfield 94, 3)) (by decide +kernel) (by decide +kernel)
  · intro d a L M Q; exact Wp_sim (by decide +kernel : decode (cd 116) 123 = .ok (.bipush 112, 2)) rfl rfl
  · intro d a b L M Q; exact q_ine (by decide +kernel : decode (cd 116) 125 = .ok (.if_icmp .ne 10, 3)) (by decide)
  · intro d x L M Q; exact Wp_sim (by decide +kernel : decode (cd 116) 128 = .ok (.aload_n 0, 1)) rfl rfl
  · intro d a L M Q; exact q_invV (pz := 980) (n := 0) (c := 12) (m := 2) (k := a) (As := []) (rest := []) (by decide +kernel : decode (cd 116) 129 = .ok (.invokevirtual 131, 3)) (by decide +kernel) (by decide +kernel) rfl rfl (Nat.le_of_ble_eq_true rfl) (Nat.le_of_ble_eq_true rfl) rfl
  · intro d a L M Q; exact q_goto (by decide +kernel : decode (cd 116) 132 = .ok (.goto 8, 3)) (by decide)
  · intro d x L M Q; exact Wp_sim (by decide +kernel : decode (cd 116) 135 = .ok (.aload_n 0, 1)) rfl rfl
  · intro d a L M Q; exact Wp_sim (by decide +kernel : decode (cd 116) 136 = .ok (.iconst 1, 1)) rfl rfl
  · intro d a b L M Q; exact q_invV (pz := 960) (n := 1) (c := 12) (m := 2) (k := b) (As := [.int a]) (rest := []) (by decide +kernel : decode (cd 116) 137 = .ok (.invokevirtual 113, 3)) (by decide +kernel) (by decide +kernel) rfl rfl (Nat.le_of_ble_eq_true rfl) (Nat.le_of_ble_eq_true rfl) rfl
  · intro d a L M Q; exact q_zret (by decide +kernel : decode (cd 116) 140 = .ok (.ireturn , 1)) (by decide +kernel)

/- 117: PalaceYardModel.fails -/
set_option maxRecDepth 10000 in
theorem e117 : (∀ (d : Nat) (x : Nat) (L : List Value) (M : Mem) (Q : Option Value → Mem → Prop), Wp d 117 0 (.ref x :: L) [] M Q ↔ Wp d 117 1 (.ref x :: L) [.ref x] M Q) ∧
    (∀ (d : Nat) (a : Nat) (v0 : Value) (x : Int32) (L : List Value) (M : Mem) (Q : Option Value → Mem → Prop), Wp d 117 1 (v0 :: .int x :: L) [.ref a] M Q ↔ Wp d 117 2 (v0 :: .int x :: L) [.int x, .ref a] M Q) ∧
    (∀ (d : Nat) (a : Int32) (b : Nat) (L : List Value) (M : Mem) (Q : Option Value → Mem → Prop), Wp d 117 2 L [.int a, .ref b] M Q ↔ (isK b 12 = true ∧ Wp d 117 5 L [] (up2 M b 21 a) Q)) ∧
    (∀ (d : Nat) (L : List Value) (M : Mem) (Q : Option Value → Mem → Prop), Wp d 117 5 L [] M Q ↔ Wp d 117 6 L [.int 0] M Q) ∧
    (∀ (d : Nat) (a : Int32) (L : List Value) (M : Mem) (Q : Option Value → Mem → Prop), Wp d 117 6 L [.int a] M Q ↔ ((a = 0 ∨ a = 1) ∧ Q (some (.int a)) M)) := by
  refine ⟨?_, ?_, ?_, ?_, ?_⟩
  · intro d x L M Q; exact Wp_sim (by decide +kernel : decode (cd 117) 0 = .ok (.aload_n 0, 1)) rfl rfl
  · intro d a v0 x L M Q; exact Wp_sim (by decide +kernel : decode (cd 117) 1 = .ok (.iload_n 1, 1)) rfl rfl
  · intro d a b L M Q; exact q_putI (p := 864) (by decide +kernel : decode (cd 117) 2 = .ok (.putfield 107, 3)) (by decide +kernel) (by decide +kernel)
  · intro d L M Q; exact Wp_sim (by decide +kernel : decode (cd 117) 5 = .ok (.iconst 0, 1)) rfl rfl
  · intro d a L M Q; exact q_zret (by decide +kernel : decode (cd 117) 6 = .ok (.ireturn , 1)) (by decide +kernel)

/- 118: PalaceYardModel.number -/
set_option maxRecDepth 10000 in
theorem e118 : (∀ (d : Nat) (x : Nat) (L : List Value) (M : Mem) (Q : Option Value → Mem → Prop), Wp d 118 0 (.ref x :: L) [] M Q ↔ Wp d 118 1 (.ref x :: L) [.ref x] M Q) ∧
    (∀ (d : Nat) (a : Nat) (L : List Value) (M : Mem) (Q : Option Value → Mem → Prop), Wp (d + 1) 118 1 L [.ref a] M Q ↔ (isK a 12 = true ∧ Wp d 114 0 [.ref a] [] M (fun r M2 => Wp (d + 1) 118 4 L (r.toList ++ []) M2 Q))) ∧
    (∀ (d : Nat) (x : Nat) (L : List Value) (M : Mem) (Q : Option Value → Mem → Prop), Wp d 118 4 (.ref x :: L) [] M Q ↔ Wp d 118 5 (.ref x :: L) [.ref x] M Q) ∧
    (∀ (d : Nat) (a : Nat) (L : List Value) (M : Mem) (Q : Option Value → Mem → Prop), Wp d 118 5 L [.ref a] M Q ↔ (isK a 12 = true ∧ Wp d 118 8 L [.int (M a 18)] M Q)) ∧
    (∀ (d : Nat) (a : Int32) (L : List Value) (M : Mem) (Q : Option Value → Mem → Prop), Wp d 118 8 L [.int a] M Q ↔ Wp d 118 10 L [.int 48, .int a] M Q) ∧
    (∀ (d : Nat) (a : Int32) (b : Int32) (L : List Value) (M : Mem) (Q : Option Value → Mem → Prop), Wp d 118 10 L [.int a, .int b] M Q ↔ (if b = a then Wp d 118 19 L [] M Q else Wp d 118 13 L [] M Q)) ∧
    (∀ (d : Nat) (x : Nat) (L : List Value) (M : Mem) (Q : Option Value → Mem → Prop), Wp d 118 13 (.ref x :: L) [] M Q ↔ Wp d 118 14 (.ref x :: L) [.ref x] M Q) ∧
    (∀ (d : Nat) (a : Nat) (L : List Value) (M : Mem) (Q : Option Value → Mem → Prop), Wp d 118 14 L [.ref a] M Q ↔ Wp d 118 15 L [.int 1, .ref a] M Q) ∧
    (∀ (d : Nat) (a : Int32) (b : Nat) (L : List Value) (M : Mem) (Q : Option Value → Mem → Prop), Wp (d + 1) 118 15 L [.int a, .ref b] M Q ↔ (isK b 12 = true ∧ Wp d 117 0 [.ref b, .int a] [] M (fun r M2 => Wp (d + 1) 118 18 L (r.toList ++ []) M2 Q))) ∧
    (∀ (d : Nat) (a : Int32) (L : List Value) (M : Mem) (Q : Option Value → Mem → Prop), Wp d 118 18 L [.int a] M Q ↔ ((a = 0 ∨ a = 1) ∧ Q (some (.int a)) M)) ∧
    (∀ (d : Nat) (x : Nat) (L : List Value) (M : Mem) (Q : Option Value → Mem → Prop), Wp d 118 19 (.ref x :: L) [] M Q ↔ Wp d 118 20 (.ref x :: L) [.ref x] M Q) ∧
    (∀ (d : Nat) (a : Nat) (L : List Value) (M : Mem) (Q : Option Value → Mem → Prop), Wp d 118 20 L [.ref a] M Q ↔ (isK a 12 = true ∧ Wp d 118 23 L [.int (M a 19)] M Q)) ∧
    (∀ (d : Nat) (a : Int32) (L : List Value) (M : Mem) (Q : Option Value → Mem → Prop), Wp d 118 23 L [.int a] M Q ↔ Wp d 118 24 L [.int 3, .int a] M Q) ∧
    (∀ (d : Nat) (a : Int32) (b : Int32) (L : List Value) (M : Mem) (Q : Option Value → Mem → Prop), Wp d 118 24 L [.int a, .int b] M Q ↔ (if a < b then Wp d 118 42 L [] M Q else Wp d 118 27 L [] M Q)) ∧
    (∀ (d : Nat) (x : Nat) (L : List Value) (M : Mem) (Q : Option Value → Mem → Prop), Wp d 118 27 (.ref x :: L) [] M Q ↔ Wp d 118 28 (.ref x :: L) [.ref x] M Q) ∧
    (∀ (d : Nat) (a : Nat) (L : List Value) (M : Mem) (Q : Option Value → Mem → Prop), Wp d 118 28 L [.ref a] M Q ↔ (isK a 12 = true ∧ Wp d 118 31 L [.int (M a 20)] M Q)) ∧
    (∀ (d : Nat) (a : Int32) (L : List Value) (M : Mem) (Q : Option Value → Mem → Prop), Wp d 118 31 L [.int a] M Q ↔ Wp d 118 32 L [.long a.toInt64] M Q) ∧
    (∀ (d : Nat) (a : Int64) (v0 : Value) (v1 : Value) (x : Int32) (L : List Value) (M : Mem) (Q : Option Value → Mem → Prop), Wp d 118 32 (v0 :: v1 :: .int x :: L) [.long a] M Q ↔ Wp d 118 33 (v0 :: v1 :: .int x :: L) [.int x, .long a] M Q) ∧
    (∀ (d : Nat) (a : Int32) (b : Int64) (L : List Value) (M : Mem) (Q : Option Value → Mem → Prop), Wp d 118 33 L [.int a, .long b] M Q ↔ Wp d 118 34 L [.long a.toInt64, .long b] M Q) ∧
    (∀ (d : Nat) (a : Int64) (b : Int64) (v0 : Value) (v1 : Value) (v2 : Value) (x : Int32) (L : List Value) (M : Mem) (Q : Option Value → Mem → Prop), Wp d 118 34 (v0 :: v1 :: v2 :: .int x :: L) [.long a, .long b] M Q ↔ Wp d 118 35 (v0 :: v1 :: v2 :: .int x :: L) [.int x, .long a, .long b] M Q) ∧
    (∀ (d : Nat) (a : Int32) (b : Int64) (c : Int64) (L : List Value) (M : Mem) (Q : Option Value → Mem → Prop), Wp d 118 35 L [.int a, .long b, .long c] M Q ↔ Wp d 118 36 L [.long a.toInt64, .long b, .long c] M Q) ∧
    (∀ (d : Nat) (a : Int64) (b : Int64) (c : Int64) (L : List Value) (M : Mem) (Q : Option Value → Mem → Prop), Wp (d + 1) 118 36 L [.long a, .long b, .long c] M Q ↔ Wp d 112 0 [.long c, .null, .long b, .null, .long a, .null] [] M (fun r M2 => Wp (d + 1) 118 39 L (r.toList ++ []) M2 Q)) ∧
    (∀ (d : Nat) (a : Int32) (L : List Value) (M : Mem) (Q : Option Value → Mem → Prop), Wp d 118 39 L [.int a] M Q ↔ (if a = 0 then Wp d 118 42 L [] M Q else Wp d 118 48 L [] M Q)) ∧
    (∀ (d : Nat) (x : Nat) (L : List Value) (M : Mem) (Q : Option Value → Mem → Prop), Wp d 118 42 (.ref x :: L) [] M Q ↔ Wp d 118 43 (.ref x :: L) [.ref x] M Q) ∧
    (∀ (d : Nat) (a : Nat) (L : List Value) (M : Mem) (Q : Option Value → Mem → Prop), Wp d 118 43 L [.ref a] M Q ↔ Wp d 118 44 L [.int 2, .ref a] M Q) ∧
    (∀ (d : Nat) (a : Int32) (b : Nat) (L : List Value) (M : Mem) (Q : Option Value → Mem → Prop), Wp (d + 1) 118 44 L [.int a, .ref b] M Q ↔ (isK b 12 = true ∧ Wp d 117 0 [.ref b, .int a] [] M (fun r M2 => Wp (d + 1) 118 47 L (r.toList ++ []) M2 Q))) ∧
    (∀ (d : Nat) (a : Int32) (L : List Value) (M : Mem) (Q : Option Value → Mem → Prop), Wp d 118 47 L [.int a] M Q ↔ ((a = 0 ∨ a = 1) ∧ Q (some (.int a)) M)) ∧
    (∀ (d : Nat) (x : Nat) (L : List Value) (M : Mem) (Q : Option Value → Mem → Prop), Wp d 118 48 (.ref x :: L) [] M Q ↔ Wp d 118 49 (.ref x :: L) [.ref x] M Q) ∧
    (∀ (d : Nat) (a : Nat) (L : List Value) (M : Mem) (Q : Option Value → Mem → Prop), Wp d 118 49 L [.ref a] M Q ↔ (isK a 12 = true ∧ Wp d 118 52 L [.ref (rt a 1)] M Q)) ∧
    (∀ (d : Nat) (a : Nat) (v0 : Value) (x : Int32) (L : List Value) (M : Mem) (Q : Option Value → Mem → Prop), Wp d 118 52 (v0 :: .int x :: L) [.ref a] M Q ↔ Wp d 118 53 (v0 :: .int x :: L) [.int x, .ref a] M Q) ∧
    (∀ (d : Nat) (a : Int32) (b : Nat) (x : Nat) (L : List Value) (M : Mem) (Q : Option Value → Mem → Prop), Wp d 118 53 (.ref x :: L) [.int a, .ref b] M Q ↔ Wp d 118 54 (.ref x :: L) [.ref x, .int a, .ref b] M Q) ∧
    (∀ (d : Nat) (a : Nat) (b : Int32) (c : Nat) (L : List Value) (M : Mem) (Q : Option Value → Mem → Prop), Wp d 118 54 L [.ref a, .int b, .ref c] M Q ↔ (isK a 12 = true ∧ Wp d 118 57 L [.int (M a 20), .int b, .ref c] M Q)) ∧
    (∀ (d : Nat) (a : Int32) (b : Int32) (c : Nat) (L : List Value) (M : Mem) (Q : Option Value → Mem → Prop), Wp d 118 57 L [.int a, .int b, .ref c] M Q ↔ ((isK c 13 = true ∧ inr b (lnm M c)) ∧ Wp d 118 58 L [] (up2 M c b.toNatClampNeg a) Q)) ∧
    (∀ (d : Nat) (L : List Value) (M : Mem) (Q : Option Value → Mem → Prop), Wp d 118 58 L [] M Q ↔ Wp d 118 59 L [.int 1] M Q) ∧
    (∀ (d : Nat) (a : Int32) (L : List Value) (M : Mem) (Q : Option Value → Mem → Prop), Wp d 118 59 L [.int a] M Q ↔ ((a = 0 ∨ a = 1) ∧ Q (some (.int a)) M)) := by
  refine ⟨?_, ?_, ?_, ?_, ?_, ?_, ?_, ?_, ?_, ?_, ?_, ?_, ?_, ?_, ?_, ?_, ?_, ?_, ?_, ?_, ?_, ?_, ?_, ?_, ?_, ?_, ?_, ?_, ?_, ?_, ?_, ?_, ?_, ?_, ?_⟩
  · intro d x L M Q; exact Wp_sim (by decide +kernel : decode (cd 118) 0 = .ok (.aload_n 0, 1)) rfl rfl
  · intro d a L M Q; exact q_invV (pz := 946) (n := 0) (c := 12) (m := 1) (k := a) (As := []) (rest := []) (by decide +kernel : decode (cd 118) 1 = .ok (.invokevirtual 110, 3)) (by decide +kernel) (by decide +kernel) rfl rfl (Nat.le_of_ble_eq_true rfl) (Nat.le_of_ble_eq_true rfl) rfl
  · intro d x L M Q; exact Wp_sim (by decide +kernel : decode (cd 118) 4 = .ok (.aload_n 0, 1)) rfl rfl
  · intro d a L M Q; exact q_getI (p := 861) (by decide +kernel : decode (cd 118) 5 = .ok (.getfield 94, 3)) (by decide +kernel) (by decide +kernel)
  · intro d a L M Q; exact Wp_sim (by decide +kernel : decode (cd 118) 8 = .ok (.bipush 48, 2)) rfl rfl
  · intro d a b L M Q; exact q_ieq (by decide +kernel : decode (cd 118) 10 = .ok (.if_icmp .eq 9, 3)) (by decide)
  · intro d x L M Q; exact Wp_sim (by decide +kernel : decode (cd 118) 13 = .ok (.aload_n 0, 1)) rfl rfl
  · intro d a L M Q; exact Wp_sim (by decide +kernel : decode (cd 118) 14 = .ok (.iconst 1, 1)) rfl rfl
  · intro d a b L M Q; exact q_invV (pz := 960) (n := 1) (c := 12) (m := 2) (k := b) (As := [.int a]) (rest := []) (by decide +kernel : decode (cd 118) 15 = .ok (.invokevirtual 113, 3)) (by decide +kernel) (by decide +kernel) rfl rfl (Nat.le_of_ble_eq_true rfl) (Nat.le_of_ble_eq_true rfl) rfl
  · intro d a L M Q; exact q_zret (by decide +kernel : decode (cd 118) 18 = .ok (.ireturn , 1)) (by decide +kernel)
  · intro d x L M Q; exact Wp_sim (by decide +kernel : decode (cd 118) 19 = .ok (.aload_n 0, 1)) rfl rfl
  · intro d a L M Q; exact q_getI (p := 862) (by decide +kernel : decode (cd 118) 20 = .ok (.getfield 97, 3)) (by decide +kernel) (by decide +kernel)
  · intro d a L M Q; exact Wp_sim (by decide +kernel : decode (cd 118) 23 = .ok (.iconst 3, 1)) rfl rfl
  · intro d a b L M Q; exact q_igt (by decide +kernel : decode (cd 118) 24 = .ok (.if_icmp .gt 18, 3)) (by decide)
  · intro d x L M Q; exact Wp_sim (by decide +kernel : decode (cd 118) 27 = .ok (.aload_n 0, 1)) rfl rfl
  · intro d a L M Q; exact q_getI (p := 863) (by decide +kernel : decode (cd 118) 28 = .ok (.getfield 100, 3)) (by decide +kernel) (by decide +kernel)
  · intro d a L M Q; exact Wp_sim (by decide +kernel : decode (cd 118) 31 = .ok (.i2l , 1)) rfl rfl
  · intro d a v0 v1 x L M Q; exact Wp_sim (by decide +kernel : decode (cd 118) 32 = .ok (.iload_n 2, 1)) rfl rfl
  · intro d a b L M Q; exact Wp_sim (by decide +kernel : decode (cd 118) 33 = .ok (.i2l , 1)) rfl rfl
  · intro d a b v0 v1 v2 x L M Q; exact Wp_sim (by decide +kernel : decode (cd 118) 34 = .ok (.iload_n 3, 1)) rfl rfl
  · intro d a b c L M Q; exact Wp_sim (by decide +kernel : decode (cd 118) 35 = .ok (.i2l , 1)) rfl rfl
  · intro d a b c L M Q; exact q_invS (pz := 937) (n := 3) (m := 6) (As := [.long c, .long b, .long a]) (rest := []) (by decide +kernel : decode (cd 118) 36 = .ok (.invokestatic 75, 3)) (by decide +kernel) (by decide +kernel) (by decide +kernel) rfl rfl (Nat.le_of_ble_eq_true rfl) (Nat.le_of_ble_eq_true rfl) rfl
  · intro d a L M Q; exact q_zne (by decide +kernel : decode (cd 118) 39 = .ok (.ifCond .ne 9, 3)) (by decide)
  · intro d x L M Q; exact Wp_sim (by decide +kernel : decode (cd 118) 42 = .ok (.aload_n 0, 1)) rfl rfl
  · intro d a L M Q; exact Wp_sim (by decide +kernel : decode (cd 118) 43 = .ok (.iconst 2, 1)) rfl rfl
  · intro d a b L M Q; exact q_invV (pz := 960) (n := 1) (c := 12) (m := 2) (k := b) (As := [.int a]) (rest := []) (by decide +kernel : decode (cd 118) 44 = .ok (.invokevirtual 113, 3)) (by decide +kernel) (by decide +kernel) rfl rfl (Nat.le_of_ble_eq_true rfl) (Nat.le_of_ble_eq_true rfl) rfl
  · intro d a L M Q; exact q_zret (by decide +kernel : decode (cd 118) 47 = .ok (.ireturn , 1)) (by decide +kernel)
  · intro d x L M Q; exact Wp_sim (by decide +kernel : decode (cd 118) 48 = .ok (.aload_n 0, 1)) rfl rfl
  · intro d a L M Q; exact q_getR (p := 844) (by decide +kernel : decode (cd 118) 49 = .ok (.getfield 13, 3)) (by decide +kernel) (by decide +kernel)
  · intro d a v0 x L M Q; exact Wp_sim (by decide +kernel : decode (cd 118) 52 = .ok (.iload_n 1, 1)) rfl rfl
  · intro d a b x L M Q; exact Wp_sim (by decide +kernel : decode (cd 118) 53 = .ok (.aload_n 0, 1)) rfl rfl
  · intro d a b c L M Q; exact q_getI (p := 863) (by decide +kernel : decode (cd 118) 54 = .ok (.getfield 100, 3)) (by decide +kernel) (by decide +kernel)
  · intro d a b c L M Q; exact q_ast (by decide +kernel : decode (cd 118) 57 = .ok (.iastore , 1))
  · intro d L M Q; exact Wp_sim (by decide +kernel : decode (cd 118) 58 = .ok (.iconst 1, 1)) rfl rfl
  · intro d a L M Q; exact q_zret (by decide +kernel : decode (cd 118) 59 = .ok (.ireturn , 1)) (by decide +kernel)

/- 119: PalaceYardModel.ends -/
set_option maxRecDepth 10000 in
theorem e119 : (∀ (d : Nat) (x : Nat) (L : List Value) (M : Mem) (Q : Option Value → Mem → Prop), Wp d 119 0 (.ref x :: L) [] M Q ↔ Wp d 119 1 (.ref x :: L) [.ref x] M Q) ∧
    (∀ (d : Nat) (a : Nat) (L : List Value) (M : Mem) (Q : Option Value → Mem → Prop), Wp (d + 1) 119 1 L [.ref a] M Q ↔ (isK a 12 = true ∧ Wp d 114 0 [.ref a] [] M (fun r M2 => Wp (d + 1) 119 4 L (r.toList ++ []) M2 Q))) ∧
    (∀ (d : Nat) (x : Nat) (L : List Value) (M : Mem) (Q : Option Value → Mem → Prop), Wp d 119 4 (.ref x :: L) [] M Q ↔ Wp d 119 5 (.ref x :: L) [.ref x] M Q) ∧
    (∀ (d : Nat) (a : Nat) (L : List Value) (M : Mem) (Q : Option Value → Mem → Prop), Wp d 119 5 L [.ref a] M Q ↔ (isK a 12 = true ∧ Wp d 119 8 L [.int (M a 18)] M Q)) ∧
    (∀ (d : Nat) (a : Int32) (L : List Value) (M : Mem) (Q : Option Value → Mem → Prop), Wp d 119 8 L [.int a] M Q ↔ Wp d 119 10 L [.int 59, .int a] M Q) ∧
    (∀ (d : Nat) (a : Int32) (b : Int32) (L : List Value) (M : Mem) (Q : Option Value → Mem → Prop), Wp d 119 10 L [.int a, .int b] M Q ↔ (if b = a then Wp d 119 21 L [] M Q else Wp d 119 13 L [] M Q)) ∧
    (∀ (d : Nat) (x : Nat) (L : List Value) (M : Mem) (Q : Option Value → Mem → Prop), Wp d 119 13 (.ref x :: L) [] M Q ↔ Wp d 119 14 (.ref x :: L) [.ref x] M Q) ∧
    (∀ (d : Nat) (a : Nat) (L : List Value) (M : Mem) (Q : Option Value → Mem → Prop), Wp d 119 14 L [.ref a] M Q ↔ Wp d 119 15 L [.int 1, .ref a] M Q) ∧
    (∀ (d : Nat) (a : Int32) (b : Nat) (L : List Value) (M : Mem) (Q : Option Value → Mem → Prop), Wp (d + 1) 119 15 L [.int a, .ref b] M Q ↔ (isK b 12 = true ∧ Wp d 117 0 [.ref b, .int a] [] M (fun r M2 => Wp (d + 1) 119 18 L (r.toList ++ []) M2 Q))) ∧
    (∀ (d : Nat) (a : Int32) (L : List Value) (M : Mem) (Q : Option Value → Mem → Prop), Wp d 119 18 L [.int a] M Q ↔ (if a = 0 then Wp d 119 25 L [] M Q else Wp d 119 21 L [] M Q)) ∧
    (∀ (d : Nat) (L : List Value) (M : Mem) (Q : Option Value → Mem → Prop), Wp d 119 21 L [] M Q ↔ Wp d 119 22 L [.int 1] M Q) ∧
    (∀ (d : Nat) (a : Int32) (L : List Value) (M : Mem) (Q : Option Value → Mem → Prop), Wp d 119 22 L [.int a] M Q ↔ Wp d 119 26 L [.int a] M Q) ∧
    (∀ (d : Nat) (L : List Value) (M : Mem) (Q : Option Value → Mem → Prop), Wp d 119 25 L [] M Q ↔ Wp d 119 26 L [.int 0] M Q) ∧
    (∀ (d : Nat) (a : Int32) (L : List Value) (M : Mem) (Q : Option Value → Mem → Prop), Wp d 119 26 L [.int a] M Q ↔ ((a = 0 ∨ a = 1) ∧ Q (some (.int a)) M)) := by
  refine ⟨?_, ?_, ?_, ?_, ?_, ?_, ?_, ?_, ?_, ?_, ?_, ?_, ?_, ?_⟩
  · intro d x L M Q; exact Wp_sim (by decide +kernel : decode (cd 119) 0 = .ok (.aload_n 0, 1)) rfl rfl
  · intro d a L M Q; exact q_invV (pz := 946) (n := 0) (c := 12) (m := 1) (k := a) (As := []) (rest := []) (by decide +kernel : decode (cd 119) 1 = .ok (.invokevirtual 110, 3)) (by decide +kernel) (by decide +kernel) rfl rfl (Nat.le_of_ble_eq_true rfl) (Nat.le_of_ble_eq_true rfl) rfl
  · intro d x L M Q; exact Wp_sim (by decide +kernel : decode (cd 119) 4 = .ok (.aload_n 0, 1)) rfl rfl
  · intro d a L M Q; exact q_getI (p := 861) (by decide +kernel : decode (cd 119) 5 = .ok (.getfield 94, 3)) (by decide +kernel) (by decide +kernel)
  · intro d a L M Q; exact Wp_sim (by decide +kernel : decode (cd 119) 8 = .ok (.bipush 59, 2)) rfl rfl
  · intro d a b L M Q; exact q_ieq (by decide +kernel : decode (cd 119) 10 = .ok (.if_icmp .eq 11, 3)) (by decide)
  · intro d x L M Q; exact Wp_sim (by decide +kernel : decode (cd 119) 13 = .ok (.aload_n 0, 1)) rfl rfl
  · intro d a L M Q; exact Wp_sim (by decide +kernel : decode (cd 119) 14 = .ok (.iconst 1, 1)) rfl rfl
  · intro d a b L M Q; exact q_invV (pz := 960) (n := 1) (c := 12) (m := 2) (k := b) (As := [.int a]) (rest := []) (by decide +kernel : decode (cd 119) 15 = .ok (.invokevirtual 113, 3)) (by decide +kernel) (by decide +kernel) rfl rfl (Nat.le_of_ble_eq_true rfl) (Nat.le_of_ble_eq_true rfl) rfl
  · intro d a L M Q; exact q_zeq (by decide +kernel : decode (cd 119) 18 = .ok (.ifCond .eq 7, 3)) (by decide)
  · intro d L M Q; exact Wp_sim (by decide +kernel : decode (cd 119) 21 = .ok (.iconst 1, 1)) rfl rfl
  · intro d a L M Q; exact q_goto (by decide +kernel : decode (cd 119) 22 = .ok (.goto 4, 3)) (by decide)
  · intro d L M Q; exact Wp_sim (by decide +kernel : decode (cd 119) 25 = .ok (.iconst 0, 1)) rfl rfl
  · intro d a L M Q; exact q_zret (by decide +kernel : decode (cd 119) 26 = .ok (.ireturn , 1)) (by decide +kernel)

/- 120: PalaceYardModel.readsCreditor -/
set_option maxRecDepth 10000 in
theorem e120 : (∀ (d : Nat) (x : Nat) (L : List Value) (M : Mem) (Q : Option Value → Mem → Prop), Wp d 120 0 (.ref x :: L) [] M Q ↔ Wp d 120 1 (.ref x :: L) [.ref x] M Q) ∧
    (∀ (d : Nat) (a : Nat) (L : List Value) (M : Mem) (Q : Option Value → Mem → Prop), Wp d 120 1 L [.ref a] M Q ↔ (isK a 12 = true ∧ Wp d 120 4 L [.ref (rt a 1)] M Q)) ∧
    (∀ (d : Nat) (a : Nat) (L : List Value) (M : Mem) (Q : Option Value → Mem → Prop), Wp d 120 4 L [.ref a] M Q ↔ Wp d 120 5 L [.int 3, .ref a] M Q) ∧
    (∀ (d : Nat) (a : Int32) (b : Nat) (L : List Value) (M : Mem) (Q : Option Value → Mem → Prop), Wp d 120 5 L [.int a, .ref b] M Q ↔ ((isR b = true ∧ inr a (lnm M b)) ∧ Wp d 120 6 L [.int (M b a.toNatClampNeg)] M Q)) ∧
    (∀ (d : Nat) (a : Int32) (v0 : Value) (x : Value) (L : List Value) (M : Mem) (Q : Option Value → Mem → Prop), Wp d 120 6 (v0 :: x :: L) [.int a] M Q ↔ Wp d 120 7 (clr v0 :: .int a :: L) [] M Q) ∧
    (∀ (d : Nat) (v0 : Value) (x : Int32) (L : List Value) (M : Mem) (Q : Option Value → Mem → Prop), Wp d 120 7 (v0 :: .int x :: L) [] M Q ↔ Wp d 120 8 (v0 :: .int x :: L) [.int x] M Q) ∧
    (∀ (d : Nat) (a : Int32) (L : List Value) (M : Mem) (Q : Option Value → Mem → Prop), Wp d 120 8 L [.int a] M Q ↔ Wp d 120 9 L [.int 4, .int a] M Q) ∧
    (∀ (d : Nat) (a : Int32) (b : Int32) (L : List Value) (M : Mem) (Q : Option Value → Mem → Prop), Wp d 120 9 L [.int a, .int b] M Q ↔ (if b = a then Wp d 120 12 L [] M Q else Wp d 120 18 L [] M Q)) ∧
    (∀ (d : Nat) (x : Nat) (L : List Value) (M : Mem) (Q : Option Value → Mem → Prop), Wp d 120 12 (.ref x :: L) [] M Q ↔ Wp d 120 13 (.ref x :: L) [.ref x] M Q) ∧
    (∀ (d : Nat) (a : Nat) (L : List Value) (M : Mem) (Q : Option Value → Mem → Prop), Wp d 120 13 L [.ref a] M Q ↔ Wp d 120 14 L [.int 3, .ref a] M Q) ∧
    (∀ (d : Nat) (a : Int32) (b : Nat) (L : List Value) (M : Mem) (Q : Option Value → Mem → Prop), Wp (d + 1) 120 14 L [.int a, .ref b] M Q ↔ (isK b 12 = true ∧ Wp d 117 0 [.ref b, .int a] [] M (fun r M2 => Wp (d + 1) 120 17 L (r.toList ++ []) M2 Q))) ∧
    (∀ (d : Nat) (a : Int32) (L : List Value) (M : Mem) (Q : Option Value → Mem → Prop), Wp d 120 17 L [.int a] M Q ↔ ((a = 0 ∨ a = 1) ∧ Q (some (.int a)) M)) ∧
    (∀ (d : Nat) (x : Nat) (L : List Value) (M : Mem) (Q : Option Value → Mem → Prop), Wp d 120 18 (.ref x :: L) [] M Q ↔ Wp d 120 19 (.ref x :: L) [.ref x] M Q) ∧
    (∀ (d : Nat) (a : Nat) (L : List Value) (M : Mem) (Q : Option Value → Mem → Prop), Wp d 120 19 L [.ref a] M Q ↔ (isK a 12 = true ∧ Wp d 120 22 L [.ref (rt a 1)] M Q)) ∧
    (∀ (d : Nat) (a : Nat) (L : List Value) (M : Mem) (Q : Option Value → Mem → Prop), Wp d 120 22 L [.ref a] M Q ↔ Wp d 120 23 L [.int 3, .ref a] M Q) ∧
    (∀ (d : Nat) (a : Int32) (b : Nat) (L : List Value) (M : Mem) (Q : Option Value → Mem → Prop), Wp d 120 23 L [.int a, .ref b] M Q ↔ Wp d 120 24 L [.int a, .ref b, .int a, .ref b] M Q) ∧
    (∀ (d : Nat) (a : Int32) (b : Nat) (c : Int32) (d2 : Nat) (L : List Value) (M : Mem) (Q : Option Value → Mem → Prop), Wp d 120 24 L [.int a, .ref b, .int c, .ref d2] M Q ↔ ((isR b = true ∧ inr a (lnm M b)) ∧ Wp d 120 25 L [.int (M b a.toNatClampNeg), .int c, .ref d2] M Q)) ∧
    (∀ (d : Nat) (a : Int32) (b : Int32) (c : Nat) (L : List Value) (M : Mem) (Q : Option Value → Mem → Prop), Wp d 120 25 L [.int a, .int b, .ref c] M Q ↔ Wp d 120 26 L [.int 1, .int a, .int b, .ref c] M Q) ∧
    (∀ (d : Nat) (a : Int32) (b : Int32) (c : Int32) (d2 : Nat) (L : List Value) (M : Mem) (Q : Option Value → Mem → Prop), Wp d 120 26 L [.int a, .int b, .int c, .ref d2] M Q ↔ Wp d 120 27 L [.int (b + a), .int c, .ref d2] M Q) ∧
    (∀ (d : Nat) (a : Int32) (b : Int32) (c : Nat) (L : List Value) (M : Mem) (Q : Option Value → Mem → Prop), Wp d 120 27 L [.int a, .int b, .ref c] M Q ↔ ((isK c 13 = true ∧ inr b (lnm M c)) ∧ Wp d 120 28 L [] (up2 M c b.toNatClampNeg a) Q)) ∧
    (∀ (d : Nat) (x : Nat) (L : List Value) (M : Mem) (Q : Option Value → Mem → Prop), Wp d 120 28 (.ref x :: L) [] M Q ↔ Wp d 120 29 (.ref x :: L) [.ref x] M Q) ∧
    (∀ (d : Nat) (a : Nat) (L : List Value) (M : Mem) (Q : Option Value → Mem → Prop), Wp d 120 29 L [.ref a] M Q ↔ Wp d 120 31 L [.int 6, .ref a] M Q) ∧
    (∀ (d : Nat) (a : Int32) (b : Nat) (v0 : Value) (x : Int32) (L : List Value) (M : Mem) (Q : Option Value → Mem → Prop), Wp d 120 31 (v0 :: .int x :: L) [.int a, .ref b] M Q ↔ Wp d 120 32 (v0 :: .int x :: L) [.int x, .int a, .ref b] M Q) ∧
    (∀ (d : Nat) (a : Int32) (b : Int32) (c : Nat) (L : List Value) (M : Mem) (Q : Option Value → Mem → Prop), Wp d 120 32 L [.int a, .int b, .ref c] M Q ↔ Wp d 120 33 L [.int (b + a), .ref c] M Q) ∧
    (∀ (d : Nat) (a : Int32) (b : Nat) (L : List Value) (M : Mem) (Q : Option Value → Mem → Prop), Wp d 120 33 L [.int a, .ref b] M Q ↔ Wp d 120 34 L [.int 1, .int a, .ref b] M Q) ∧
    (∀ (d : Nat) (a : Int32) (b : Int32) (c : Nat) (L : List Value) (M : Mem) (Q : Option Value → Mem → Prop), Wp d 120 34 L [.int a, .int b, .ref c] M Q ↔ Wp d 120 36 L [.int 100, .int a, .int b, .ref c] M Q) ∧
    (∀ (d : Nat) (a : Int32) (b : Int32) (c : Int32) (d2 : Nat) (L : List Value) (M : Mem) (Q : Option Value → Mem → Prop), Wp (d + 1) 120 36 L [.int a, .int b, .int c, .ref d2] M Q ↔ (isK d2 12 = true ∧ Wp d 118 0 [.ref d2, .int c, .int b, .int a] [] M (fun r M2 => Wp (d + 1) 120 39 L (r.toList ++ []) M2 Q))) ∧
    (∀ (d : Nat) (a : Int32) (L : List Value) (M : Mem) (Q : Option Value → Mem → Prop), Wp d 120 39 L [.int a] M Q ↔ (if a = 0 then Wp d 120 67 L [] M Q else Wp d 120 42 L [] M Q)) ∧
    (∀ (d : Nat) (x : Nat) (L : List Value) (M : Mem) (Q : Option Value → Mem → Prop), Wp d 120 42 (.ref x :: L) [] M Q ↔ Wp d 120 43 (.ref x :: L) [.ref x] M Q) ∧
    (∀ (d : Nat) (a : Nat) (L : List Value) (M : Mem) (Q : Option Value → Mem → Prop), Wp d 120 43 L [.ref a] M Q ↔ Wp d 120 45 L [.int 10, .ref a] M Q) ∧
    (∀ (d : Nat) (a : Int32) (b : Nat) (v0 : Value) (x : Int32) (L : List Value) (M : Mem) (Q : Option Value → Mem → Prop), Wp d 120 45 (v0 :: .int x :: L) [.int a, .ref b] M Q ↔ Wp d 120 46 (v0 :: .int x :: L) [.int x, .int a, .ref b] M Q) ∧
    (∀ (d : Nat) (a : Int32) (b : Int32) (c : Nat) (L : List Value) (M : Mem) (Q : Option Value → Mem → Prop), Wp d 120 46 L [.int a, .int b, .ref c] M Q ↔ Wp d 120 47 L [.int (b + a), .ref c] M Q) ∧
    (∀ (d : Nat) (a : Int32) (b : Nat) (L : List Value) (M : Mem) (Q : Option Value → Mem → Prop), Wp d 120 47 L [.int a, .ref b] M Q ↔ Wp d 120 48 L [.int 0, .int a, .ref b] M Q) ∧
    (∀ (d : Nat) (a : Int32) (b : Int32) (c : Nat) (L : List Value) (M : Mem) (Q : Option Value → Mem → Prop), Wp d 120 48 L [.int a, .int b, .ref c] M Q ↔ Wp d 120 50 L [.int 20, .int a, .int b, .ref c] M Q) ∧
    (∀ (d : Nat) (a : Int32) (b : Int32) (c : Int32) (d2 : Nat) (L : List Value) (M : Mem) (Q : Option Value → Mem → Prop), Wp (d + 1) 120 50 L [.int a, .int b, .int c, .ref d2] M Q ↔ (isK d2 12 = true ∧ Wp d 118 0 [.ref d2, .int c, .int b, .int a] [] M (fun r M2 => Wp (d + 1) 120 53 L (r.toList ++ []) M2 Q))) ∧
    (∀ (d : Nat) (a : Int32) (L : List Value) (M : Mem) (Q : Option Value → Mem → Prop), Wp d 120 53 L [.int a] M Q ↔ (if a = 0 then Wp d 120 67 L [] M Q else Wp d 120 56 L [] M Q)) ∧
    (∀ (d : Nat) (x : Nat) (L : List Value) (M : Mem) (Q : Option Value → Mem → Prop), Wp d 120 56 (.ref x :: L) [] M Q ↔ Wp d 120 57 (.ref x :: L) [.ref x] M Q) ∧
    (∀ (d : Nat) (a : Nat) (L : List Value) (M : Mem) (Q : Option Value → Mem → Prop), Wp (d + 1) 120 57 L [.ref a] M Q ↔ (isK a 12 = true ∧ Wp d 119 0 [.ref a] [] M (fun r M2 => Wp (d + 1) 120 60 L (r.toList ++ []) M2 Q))) ∧
    (∀ (d : Nat) (a : Int32) (L : List Value) (M : Mem) (Q : Option Value → Mem → Prop), Wp d 120 60 L [.int a] M Q ↔ (if a = 0 then Wp d 120 67 L [] M Q else Wp d 120 63 L [] M Q)) ∧
    (∀ (d : Nat) (L : List Value) (M : Mem) (Q : Option Value → Mem → Prop), Wp d 120 63 L [] M Q ↔ Wp d 120 64 L [.int 1] M Q) ∧
    (∀ (d : Nat) (a : Int32) (L : List Value) (M : Mem) (Q : Option Value → Mem → Prop), Wp d 120 64 L [.int a] M Q ↔ Wp d 120 68 L [.int a] M Q) ∧
    (∀ (d : Nat) (L : List Value) (M : Mem) (Q : Option Value → Mem → Prop), Wp d 120 67 L [] M Q ↔ Wp d 120 68 L [.int 0] M Q) ∧
    (∀ (d : Nat) (a : Int32) (L : List Value) (M : Mem) (Q : Option Value → Mem → Prop), Wp d 120 68 L [.int a] M Q ↔ ((a = 0 ∨ a = 1) ∧ Q (some (.int a)) M)) := by
  refine ⟨?_, ?_, ?_, ?_, ?_, ?_, ?_, ?_, ?_, ?_, ?_, ?_, ?_, ?_, ?_, ?_, ?_, ?_, ?_, ?_, ?_, ?_, ?_, ?_, ?_, ?_, ?_, ?_, ?_, ?_, ?_, ?_, ?_, ?_, ?_, ?_, ?_, ?_, ?_, ?_, ?_, ?_, ?_⟩
  · intro d x L M Q; exact Wp_sim (by decide +kernel : decode (cd 120) 0 = .ok (.aload_n 0, 1)) rfl rfl
  · intro d a L M Q; exact q_getR (p := 844) (by decide +kernel : decode (cd 120) 1 = .ok (.getfield 13, 3)) (by decide +kernel) (by decide +kernel)
  · intro d a L M Q; exact Wp_sim (by decide +kernel : decode (cd 120) 4 = .ok (.iconst 3, 1)) rfl rfl
  · intro d a b L M Q; exact q_ald (by decide +kernel : decode (cd 120) 5 = .ok (.iaload , 1))
  · intro d a v0 x L M Q; exact Wp_sim (by decide +kernel : decode (cd 120) 6 = .ok (.istore_n 1, 1)) rfl rfl
  · intro d v0 x L M Q; exact Wp_sim (by decide +kernel : decode (cd 120) 7 = .ok (.iload_n 1, 1)) rfl rfl
  · intro d a L M Q; exact Wp_sim (by decide +kernel : decode (cd 120) 8 = .ok (.iconst 4, 1)) rfl rfl
  · intro d a b L M Q; exact q_ine (by decide +kernel : decode (cd 120) 9 = .ok (.if_icmp .ne 9, 3)) (by decide)
  · intro d x L M Q; exact Wp_sim (by decide +kernel : decode (cd 120) 12 = .ok (.aload_n 0, 1)) rfl rfl
  · intro d a L M Q; exact Wp_sim (by decide +kernel : decode (cd 120) 13 = .ok (.iconst 3, 1)) rfl rfl
  · intro d a b L M Q; exact q_invV (pz := 960) (n := 1) (c := 12) (m := 2) (k := b) (As := [.int a]) (rest := []) (by decide +kernel : decode (cd 120) 14 = .ok (.invokevirtual 113, 3)) (by decide +kernel) (by decide +kernel) rfl rfl (Nat.le_of_ble_eq_true rfl) (Nat.le_of_ble_eq_true rfl) rfl
  · intro d a L M Q; exact q_zret (by decide +kernel : decode (cd 120) 17 = .ok (.ireturn , 1)) (by decide +kernel)
  · intro d x L M Q; exact Wp_sim (by decide +kernel : decode (cd 120) 18 = .ok (.aload_n 0, 1)) rfl rfl
  · intro d a L M Q; exact q_getR (p := 844) (by decide +kernel : decode (cd 120) 19 = .ok (.getfield 13, 3)) (by decide +kernel) (by decide +kernel)
  · intro d a L M Q; exact Wp_sim (by decide +kernel : decode (cd 120) 22 = .ok (.iconst 3, 1)) rfl rfl
  · intro d a b L M Q; exact Wp_sim (by decide +kernel : decode (cd 120) 23 = .ok (.dup2 , 1)) rfl rfl
  · intro d a b c d2 L M Q; exact q_ald (by decide +kernel : decode (cd 120) 24 = .ok (.iaload , 1))
  · intro d a b c L M Q; exact Wp_sim (by decide +kernel : decode (cd 120) 25 = .ok (.iconst 1, 1)) rfl rfl
  · intro d a b c d2 L M Q; exact Wp_sim (by decide +kernel : decode (cd 120) 26 = .ok (.iadd , 1)) rfl rfl
  · intro d a b c L M Q; exact q_ast (by decide +kernel : decode (cd 120) 27 = .ok (.iastore , 1))
  · intro d x L M Q; exact Wp_sim (by decide +kernel : decode (cd 120) 28 = .ok (.aload_n 0, 1)) rfl rfl
  · intro d a L M Q; exact Wp_sim (by decide +kernel : decode (cd 120) 29 = .ok (.bipush 6, 2)) rfl rfl
  · intro d a b v0 x L M Q; exact Wp_sim (by decide +kernel : decode (cd 120) 31 = .ok (.iload_n 1, 1)) rfl rfl
  · intro d a b c L M Q; exact Wp_sim (by decide +kernel : decode (cd 120) 32 = .ok (.iadd , 1)) rfl rfl
  · intro d a b L M Q; exact Wp_sim (by decide +kernel : decode (cd 120) 33 = .ok (.iconst 1, 1)) rfl rfl
  · intro d a b c L M Q; exact Wp_sim (by decide +kernel : decode (cd 120) 34 = .ok (.bipush 100, 2)) rfl rfl
  · intro d a b c d2 L M Q; exact q_invV (pz := 964) (n := 3) (c := 12) (m := 4) (k := d2) (As := [.int c, .int b, .int a]) (rest := []) (by decide +kernel : decode (cd 120) 36 = .ok (.invokevirtual 117, 3)) (by decide +kernel) (by decide +kernel) rfl rfl (Nat.le_of_ble_eq_true rfl) (Nat.le_of_ble_eq_true rfl) rfl
  · intro d a L M Q; exact q_zeq (by decide +kernel : decode (cd 120) 39 = .ok (.ifCond .eq 28, 3)) (by decide)
  · intro d x L M Q; exact Wp_sim (by decide +kernel : decode (cd 120) 42 = .ok (.aload_n 0, 1)) rfl rfl
  · intro d a L M Q; exact Wp_sim (by decide +kernel : decode (cd 120) 43 = .ok (.bipush 10, 2)) rfl rfl
  · intro d a b v0 x L M Q; exact Wp_sim (by decide +kernel : decode (cd 120) 45 = .ok (.iload_n 1, 1)) rfl rfl
  · intro d a b c L M Q; exact Wp_sim (by decide +kernel : decode (cd 120) 46 = .ok (.iadd , 1)) rfl rfl
  · intro d a b L M Q; exact Wp_sim (by decide +kernel : decode (cd 120) 47 = .ok (.iconst 0, 1)) rfl rfl
  · intro d a b c L M Q; exact Wp_sim (by decide +kernel : decode (cd 120) 48 = .ok (.bipush 20, 2)) rfl rfl
  · intro d a b c d2 L M Q; exact q_invV (pz := 964) (n := 3) (c := 12) (m := 4) (k := d2) (As := [.int c, .int b, .int a]) (rest := []) (by decide +kernel : decode (cd 120) 50 = .ok (.invokevirtual 117, 3)) (by decide +kernel) (by decide +kernel) rfl rfl (Nat.le_of_ble_eq_true rfl) (Nat.le_of_ble_eq_true rfl) rfl
  · intro d a L M Q; exact q_zeq (by decide +kernel : decode (cd 120) 53 = .ok (.ifCond .eq 14, 3)) (by decide)
  · intro d x L M Q; exact Wp_sim (by decide +kernel : decode (cd 120) 56 = .ok (.aload_n 0, 1)) rfl rfl
  · intro d a L M Q; exact q_invV (pz := 968) (n := 0) (c := 12) (m := 1) (k := a) (As := []) (rest := []) (by decide +kernel : decode (cd 120) 57 = .ok (.invokevirtual 121, 3)) (by decide +kernel) (by decide +kernel) rfl rfl (Nat.le_of_ble_eq_true rfl) (Nat.le_of_ble_eq_true rfl) rfl
  · intro d a L M Q; exact q_zeq (by decide +kernel : decode (cd 120) 60 = .ok (.ifCond .eq 7, 3)) (by decide)
  · intro d L M Q; exact Wp_sim (by decide +kernel : decode (cd 120) 63 = .ok (.iconst 1, 1)) rfl rfl
  · intro d a L M Q; exact q_goto (by decide +kernel : decode (cd 120) 64 = .ok (.goto 4, 3)) (by decide)
  · intro d L M Q; exact Wp_sim (by decide +kernel : decode (cd 120) 67 = .ok (.iconst 0, 1)) rfl rfl
  · intro d a L M Q; exact q_zret (by decide +kernel : decode (cd 120) 68 = .ok (.ireturn , 1)) (by decide +kernel)

/- 121: PalaceYardModel.readsDebtor -/
set_option maxRecDepth 10000 in
theorem e121 : (∀ (d : Nat) (x : Nat) (L : List Value) (M : Mem) (Q : Option Value → Mem → Prop), Wp d 121 0 (.ref x :: L) [] M Q ↔ Wp d 121 1 (.ref x :: L) [.ref x] M Q) ∧
    (∀ (d : Nat) (a : Nat) (L : List Value) (M : Mem) (Q : Option Value → Mem → Prop), Wp d 121 1 L [.ref a] M Q ↔ (isK a 12 = true ∧ Wp d 121 4 L [.ref (rt a 1)] M Q)) ∧
    (∀ (d : Nat) (a : Nat) (L : List Value) (M : Mem) (Q : Option Value → Mem → Prop), Wp d 121 4 L [.ref a] M Q ↔ Wp d 121 5 L [.int 4, .ref a] M Q) ∧
    (∀ (d : Nat) (a : Int32) (b : Nat) (L : List Value) (M : Mem) (Q : Option Value → Mem → Prop), Wp d 121 5 L [.int a, .ref b] M Q ↔ ((isR b = true ∧ inr a (lnm M b)) ∧ Wp d 121 6 L [.int (M b a.toNatClampNeg)] M Q)) ∧
    (∀ (d : Nat) (a : Int32) (v0 : Value) (x : Value) (L : List Value) (M : Mem) (Q : Option Value → Mem → Prop), Wp d 121 6 (v0 :: x :: L) [.int a] M Q ↔ Wp d 121 7 (clr v0 :: .int a :: L) [] M Q) ∧
    (∀ (d : Nat) (v0 : Value) (x : Int32) (L : List Value) (M : Mem) (Q : Option Value → Mem → Prop), Wp d 121 7 (v0 :: .int x :: L) [] M Q ↔ Wp d 121 8 (v0 :: .int x :: L) [.int x] M Q) ∧
    (∀ (d : Nat) (a : Int32) (L : List Value) (M : Mem) (Q : Option Value → Mem → Prop), Wp d 121 8 L [.int a] M Q ↔ Wp d 121 10 L [.int 6, .int a] M Q) ∧
    (∀ (d : Nat) (a : Int32) (b : Int32) (L : List Value) (M : Mem) (Q : Option Value → Mem → Prop), Wp d 121 10 L [.int a, .int b] M Q ↔ (if b = a then Wp d 121 13 L [] M Q else Wp d 121 19 L [] M Q)) ∧
    (∀ (d : Nat) (x : Nat) (L : List Value) (M : Mem) (Q : Option Value → Mem → Prop), Wp d 121 13 (.ref x :: L) [] M Q ↔ Wp d 121 14 (.ref x :: L) [.ref x] M Q) ∧
    (∀ (d : Nat) (a : Nat) (L : List Value) (M : Mem) (Q : Option Value → Mem → Prop), Wp d 121 14 L [.ref a] M Q ↔ Wp d 121 15 L [.int 3, .ref a] M Q) ∧
    (∀ (d : Nat) (a : Int32) (b : Nat) (L : List Value) (M : Mem) (Q : Option Value → Mem → Prop), Wp (d + 1) 121 15 L [.int a, .ref b] M Q ↔ (isK b 12 = true ∧ Wp d 117 0 [.ref b, .int a] [] M (fun r M2 => Wp (d + 1) 121 18 L (r.toList ++ []) M2 Q))) ∧
    (∀ (d : Nat) (a : Int32) (L : List Value) (M : Mem) (Q : Option Value → Mem → Prop), Wp d 121 18 L [.int a] M Q ↔ ((a = 0 ∨ a = 1) ∧ Q (some (.int a)) M)) ∧
    (∀ (d : Nat) (x : Nat) (L : List Value) (M : Mem) (Q : Option Value → Mem → Prop), Wp d 121 19 (.ref x :: L) [] M Q ↔ Wp d 121 20 (.ref x :: L) [.ref x] M Q) ∧
    (∀ (d : Nat) (a : Nat) (L : List Value) (M : Mem) (Q : Option Value → Mem → Prop), Wp d 121 20 L [.ref a] M Q ↔ (isK a 12 = true ∧ Wp d 121 23 L [.ref (rt a 1)] M Q)) ∧
    (∀ (d : Nat) (a : Nat) (L : List Value) (M : Mem) (Q : Option Value → Mem → Prop), Wp d 121 23 L [.ref a] M Q ↔ Wp d 121 24 L [.int 4, .ref a] M Q) ∧
    (∀ (d : Nat) (a : Int32) (b : Nat) (L : List Value) (M : Mem) (Q : Option Value → Mem → Prop), Wp d 121 24 L [.int a, .ref b] M Q ↔ Wp d 121 25 L [.int a, .ref b, .int a, .ref b] M Q) ∧
    (∀ (d : Nat) (a : Int32) (b : Nat) (c : Int32) (d2 : Nat) (L : List Value) (M : Mem) (Q : Option Value → Mem → Prop), Wp d 121 25 L [.int a, .ref b, .int c, .ref d2] M Q ↔ ((isR b = true ∧ inr a (lnm M b)) ∧ Wp d 121 26 L [.int (M b a.toNatClampNeg), .int c, .ref d2] M Q)) ∧
    (∀ (d : Nat) (a : Int32) (b : Int32) (c : Nat) (L : List Value) (M : Mem) (Q : Option Value → Mem → Prop), Wp d 121 26 L [.int a, .int b, .ref c] M Q ↔ Wp d 121 27 L [.int 1, .int a, .int b, .ref c] M Q) ∧
    (∀ (d : Nat) (a : Int32) (b : Int32) (c : Int32) (d2 : Nat) (L : List Value) (M : Mem) (Q : Option Value → Mem → Prop), Wp d 121 27 L [.int a, .int b, .int c, .ref d2] M Q ↔ Wp d 121 28 L [.int (b + a), .int c, .ref d2] M Q) ∧
    (∀ (d : Nat) (a : Int32) (b : Int32) (c : Nat) (L : List Value) (M : Mem) (Q : Option Value → Mem → Prop), Wp d 121 28 L [.int a, .int b, .ref c] M Q ↔ ((isK c 13 = true ∧ inr b (lnm M c)) ∧ Wp d 121 29 L [] (up2 M c b.toNatClampNeg a) Q)) ∧
    (∀ (d : Nat) (x : Nat) (L : List Value) (M : Mem) (Q : Option Value → Mem → Prop), Wp d 121 29 (.ref x :: L) [] M Q ↔ Wp d 121 30 (.ref x :: L) [.ref x] M Q) ∧
    (∀ (d : Nat) (a : Nat) (L : List Value) (M : Mem) (Q : Option Value → Mem → Prop), Wp d 121 30 L [.ref a] M Q ↔ Wp d 121 32 L [.int 14, .ref a] M Q) ∧
    (∀ (d : Nat) (a : Int32) (b : Nat) (v0 : Value) (x : Int32) (L : List Value) (M : Mem) (Q : Option Value → Mem → Prop), Wp d 121 32 (v0 :: .int x :: L) [.int a, .ref b] M Q ↔ Wp d 121 33 (v0 :: .int x :: L) [.int x, .int a, .ref b] M Q) ∧
    (∀ (d : Nat) (a : Int32) (b : Int32) (c : Nat) (L : List Value) (M : Mem) (Q : Option Value → Mem → Prop), Wp d 121 33 L [.int a, .int b, .ref c] M Q ↔ Wp d 121 34 L [.int (b + a), .ref c] M Q) ∧
    (∀ (d : Nat) (a : Int32) (b : Nat) (L : List Value) (M : Mem) (Q : Option Value → Mem → Prop), Wp d 121 34 L [.int a, .ref b] M Q ↔ Wp d 121 35 L [.int 0, .int a, .ref b] M Q) ∧
    (∀ (d : Nat) (a : Int32) (b : Int32) (c : Nat) (x : Nat) (L : List Value) (M : Mem) (Q : Option Value → Mem → Prop), Wp d 121 35 (.ref x :: L) [.int a, .int b, .ref c] M Q ↔ Wp d 121 36 (.ref x :: L) [.ref x, .int a, .int b, .ref c] M Q) ∧
    (∀ (d : Nat) (a : Nat) (b : Int32) (c : Int32) (d2 : Nat) (L : List Value) (M : Mem) (Q : Option Value → Mem → Prop), Wp d 121 36 L [.ref a, .int b, .int c, .ref d2] M Q ↔ (isK a 12 = true ∧ Wp d 121 39 L [.ref (rt a 1), .int b, .int c, .ref d2] M Q)) ∧
    (∀ (d : Nat) (a : Nat) (b : Int32) (c : Int32) (d2 : Nat) (L : List Value) (M : Mem) (Q : Option Value → Mem → Prop), Wp d 121 39 L [.ref a, .int b, .int c, .ref d2] M Q ↔ Wp d 121 40 L [.int 3, .ref a, .int b, .int c, .ref d2] M Q) ∧
    (∀ (d : Nat) (a : Int32) (b : Nat) (c : Int32) (d2 : Int32) (e : Nat) (L : List Value) (M : Mem) (Q : Option Value → Mem → Prop), Wp d 121 40 L [.int a, .ref b, .int c, .int d2, .ref e] M Q ↔ ((isR b = true ∧ inr a (lnm M b)) ∧ Wp d 121 41 L [.int (M b a.toNatClampNeg), .int c, .int d2, .ref e] M Q)) ∧
    (∀ (d : Nat) (a : Int32) (b : Int32) (c : Int32) (d2 : Nat) (L : List Value) (M : Mem) (Q : Option Value → Mem → Prop), Wp d 121 41 L [.int a, .int b, .int c, .ref d2] M Q ↔ Wp d 121 42 L [.int 1, .int a, .int b, .int c, .ref d2] M Q) ∧
    (∀ (d : Nat) (a : Int32) (b : Int32) (c : Int32) (d2 : Int32) (e : Nat) (L : List Value) (M : Mem) (Q : Option Value → Mem → Prop), Wp d 121 42 L [.int a, .int b, .int c, .int d2, .ref e] M Q ↔ Wp d 121 43 L [.int (b - a), .int c, .int d2, .ref e] M Q) ∧
    (∀ (d : Nat) (a : Int32) (b : Int32) (c : Int32) (d2 : Nat) (L : List Value) (M : Mem) (Q : Option Value → Mem → Prop), Wp (d + 1) 121 43 L [.int a, .int b, .int c, .ref d2] M Q ↔ (isK d2 12 = true ∧ Wp d 118 0 [.ref d2, .int c, .int b, .int a] [] M (fun r M2 => Wp (d + 1) 121 46 L (r.toList ++ []) M2 Q))) ∧
    (∀ (d : Nat) (a : Int32) (L : List Value) (M : Mem) (Q : Option Value → Mem → Prop), Wp d 121 46 L [.int a] M Q ↔ (if a = 0 then Wp d 121 89 L [] M Q else Wp d 121 49 L [] M Q)) ∧
    (∀ (d : Nat) (x : Nat) (L : List Value) (M : Mem) (Q : Option Value → Mem → Prop), Wp d 121 49 (.ref x :: L) [] M Q ↔ Wp d 121 50 (.ref x :: L) [.ref x] M Q) ∧
    (∀ (d : Nat) (a : Nat) (L : List Value) (M : Mem) (Q : Option Value → Mem → Prop), Wp d 121 50 L [.ref a] M Q ↔ Wp d 121 52 L [.int 20, .ref a] M Q) ∧
    (∀ (d : Nat) (a : Int32) (b : Nat) (v0 : Value) (x : Int32) (L : List Value) (M : Mem) (Q : Option Value → Mem → Prop), Wp d 121 52 (v0 :: .int x :: L) [.int a, .ref b] M Q ↔ Wp d 121 53 (v0 :: .int x :: L) [.int x, .int a, .ref b] M Q) ∧
    (∀ (d : Nat) (a : Int32) (b : Int32) (c : Nat) (L : List Value) (M : Mem) (Q : Option Value → Mem → Prop), Wp d 121 53 L [.int a, .int b, .ref c] M Q ↔ Wp d 121 54 L [.int (b + a), .ref c] M Q) ∧
    (∀ (d : Nat) (a : Int32) (b : Nat) (L : List Value) (M : Mem) (Q : Option Value → Mem → Prop), Wp d 121 54 L [.int a, .ref b] M Q ↔ Wp d 121 55 L [.int 1, .int a, .ref b] M Q) ∧
    (∀ (d : Nat) (a : Int32) (b : Int32) (c : Nat) (L : List Value) (M : Mem) (Q : Option Value → Mem → Prop), Wp d 121 55 L [.int a, .int b, .ref c] M Q ↔ Wp d 121 58 L [.int 999, .int a, .int b, .ref c] M Q) ∧
    (∀ (d : Nat) (a : Int32) (b : Int32) (c : Int32) (d2 : Nat) (L : List Value) (M : Mem) (Q : Option Value → Mem → Prop), Wp (d + 1) 121 58 L [.int a, .int b, .int c, .ref d2] M Q ↔ (isK d2 12 = true ∧ Wp d 118 0 [.ref d2, .int c, .int b, .int a] [] M (fun r M2 => Wp (d + 1) 121 61 L (r.toList ++ []) M2 Q))) ∧
    (∀ (d : Nat) (a : Int32) (L : List Value) (M : Mem) (Q : Option Value → Mem → Prop), Wp d 121 61 L [.int a] M Q ↔ (if a = 0 then Wp d 121 89 L [] M Q else Wp d 121 64 L [] M Q)) ∧
    (∀ (d : Nat) (x : Nat) (L : List Value) (M : Mem) (Q : Option Value → Mem → Prop), Wp d 121 64 (.ref x :: L) [] M Q ↔ Wp d 121 65 (.ref x :: L) [.ref x] M Q) ∧
    (∀ (d : Nat) (a : Nat) (L : List Value) (M : Mem) (Q : Option Value → Mem → Prop), Wp d 121 65 L [.ref a] M Q ↔ Wp d 121 67 L [.int 26, .ref a] M Q) ∧
    (∀ (d : Nat) (a : Int32) (b : Nat) (v0 : Value) (x : Int32) (L : List Value) (M : Mem) (Q : Option Value → Mem → Prop), Wp d 121 67 (v0 :: .int x :: L) [.int a, .ref b] M Q ↔ Wp d 121 68 (v0 :: .int x :: L) [.int x, .int a, .ref b] M Q) ∧
    (∀ (d : Nat) (a : Int32) (b : Int32) (c : Nat) (L : List Value) (M : Mem) (Q : Option Value → Mem → Prop), Wp d 121 68 L [.int a, .int b, .ref c] M Q ↔ Wp d 121 69 L [.int (b + a), .ref c] M Q) ∧
    (∀ (d : Nat) (a : Int32) (b : Nat) (L : List Value) (M : Mem) (Q : Option Value → Mem → Prop), Wp d 121 69 L [.int a, .ref b] M Q ↔ Wp d 121 70 L [.int 0, .int a, .ref b] M Q) ∧
    (∀ (d : Nat) (a : Int32) (b : Int32) (c : Nat) (L : List Value) (M : Mem) (Q : Option Value → Mem → Prop), Wp d 121 70 L [.int a, .int b, .ref c] M Q ↔ Wp d 121 72 L [.int 99, .int a, .int b, .ref c] M Q) ∧
    (∀ (d : Nat) (a : Int32) (b : Int32) (c : Int32) (d2 : Nat) (L : List Value) (M : Mem) (Q : Option Value → Mem → Prop), Wp (d + 1) 121 72 L [.int a, .int b, .int c, .ref d2] M Q ↔ (isK d2 12 = true ∧ Wp d 118 0 [.ref d2, .int c, .int b, .int a] [] M (fun r M2 => Wp (d + 1) 121 75 L (r.toList ++ []) M2 Q))) ∧
    (∀ (d : Nat) (a : Int32) (L : List Value) (M : Mem) (Q : Option Value → Mem → Prop), Wp d 121 75 L [.int a] M Q ↔ (if a = 0 then Wp d 121 89 L [] M Q else Wp d 121 78 L [] M Q)) ∧
    (∀ (d : Nat) (x : Nat) (L : List Value) (M : Mem) (Q : Option Value → Mem → Prop), Wp d 121 78 (.ref x :: L) [] M Q ↔ Wp d 121 79 (.ref x :: L) [.ref x] M Q) ∧
    (∀ (d : Nat) (a : Nat) (L : List Value) (M : Mem) (Q : Option Value → Mem → Prop), Wp (d + 1) 121 79 L [.ref a] M Q ↔ (isK a 12 = true ∧ Wp d 119 0 [.ref a] [] M (fun r M2 => Wp (d + 1) 121 82 L (r.toList ++ []) M2 Q))) ∧
    (∀ (d : Nat) (a : Int32) (L : List Value) (M : Mem) (Q : Option Value → Mem → Prop), Wp d 121 82 L [.int a] M Q ↔ (if a = 0 then Wp d 121 89 L [] M Q else Wp d 121 85 L [] M Q)) ∧
    (∀ (d : Nat) (L : List Value) (M : Mem) (Q : Option Value → Mem → Prop), Wp d 121 85 L [] M Q ↔ Wp d 121 86 L [.int 1] M Q) ∧
    (∀ (d : Nat) (a : Int32) (L : List Value) (M : Mem) (Q : Option Value → Mem → Prop), Wp d 121 86 L [.int a] M Q ↔ Wp d 121 90 L [.int a] M Q) ∧
    (∀ (d : Nat) (L : List Value) (M : Mem) (Q : Option Value → Mem → Prop), Wp d 121 89 L [] M Q ↔ Wp d 121 90 L [.int 0] M Q) ∧
    (∀ (d : Nat) (a : Int32) (L : List Value) (M : Mem) (Q : Option Value → Mem → Prop), Wp d 121 90 L [.int a] M Q ↔ ((a = 0 ∨ a = 1) ∧ Q (some (.int a)) M)) := by
  refine ⟨?_, ?_, ?_, ?_, ?_, ?_, ?_, ?_, ?_, ?_, ?_, ?_, ?_, ?_, ?_, ?_, ?_, ?_, ?_, ?_, ?_, ?_, ?_, ?_, ?_, ?_, ?_, ?_, ?_, ?_, ?_, ?_, ?_, ?_, ?_, ?_, ?_, ?_, ?_, ?_, ?_, ?_, ?_, ?_, ?_, ?_, ?_, ?_, ?_, ?_, ?_, ?_, ?_, ?_, ?_, ?_⟩
  · intro d x L M Q; exact Wp_sim (by decide +kernel : decode (cd 121) 0 = .ok (.aload_n 0, 1)) rfl rfl
  · intro d a L M Q; exact q_getR (p := 844) (by decide +kernel : decode (cd 121) 1 = .ok (.getfield 13, 3)) (by decide +kernel) (by decide +kernel)
  · intro d a L M Q; exact Wp_sim (by decide +kernel : decode (cd 121) 4 = .ok (.iconst 4, 1)) rfl rfl
  · intro d a b L M Q; exact q_ald (by decide +kernel : decode (cd 121) 5 = .ok (.iaload , 1))
  · intro d a v0 x L M Q; exact Wp_sim (by decide +kernel : decode (cd 121) 6 = .ok (.istore_n 1, 1)) rfl rfl
  · intro d v0 x L M Q; exact Wp_sim (by decide +kernel : decode (cd 121) 7 = .ok (.iload_n 1, 1)) rfl rfl
  · intro d a L M Q; exact Wp_sim (by decide +kernel : decode (cd 121) 8 = .ok (.bipush 6, 2)) rfl rfl
  · intro d a b L M Q; exact q_ine (by decide +kernel : decode (cd 121) 10 = .ok (.if_icmp .ne 9, 3)) (by decide)
  · intro d x L M Q; exact Wp_sim (by decide +kernel : decode (cd 121) 13 = .ok (.aload_n 0, 1)) rfl rfl
  · intro d a L M Q; exact Wp_sim (by decide +kernel : decode (cd 121) 14 = .ok (.iconst 3, 1)) rfl rfl
  · intro d a b L M Q; exact q_invV (pz := 960) (n := 1) (c := 12) (m := 2) (k := b) (As := [.int a]) (rest := []) (by decide +kernel : decode (cd 121) 15 = .ok (.invokevirtual 113, 3)) (by decide +kernel) (by decide +kernel) rfl rfl (Nat.le_of_ble_eq_true rfl) (Nat.le_of_ble_eq_true rfl) rfl
  · intro d a L M Q; exact q_zret (by decide +kernel : decode (cd 121) 18 = .ok (.ireturn , 1)) (by decide +kernel)
  · intro d x L M Q; exact Wp_sim (by decide +kernel : decode (cd 121) 19 = .ok (.aload_n 0, 1)) rfl rfl
  · intro d a L M Q; exact q_getR (p := 844) (by decide +kernel : decode (cd 121) 20 = .ok (.getfield 13, 3)) (by decide +kernel) (by decide +kernel)
  · intro d a L M Q; exact Wp_sim (by decide +kernel : decode (cd 121) 23 = .ok (.iconst 4, 1)) rfl rfl
  · intro d a b L M Q; exact Wp_sim (by decide +kernel : decode (cd 121) 24 = .ok (.dup2 , 1)) rfl rfl
  · intro d a b c d2 L M Q; exact q_ald (by decide +kernel : decode (cd 121) 25 = .ok (.iaload , 1))
  · intro d a b c L M Q; exact Wp_sim (by decide +kernel : decode (cd 121) 26 = .ok (.iconst 1, 1)) rfl rfl
  · intro d a b c d2 L M Q; exact Wp_sim (by decide +kernel : decode (cd 121) 27 = .ok (.iadd , 1)) rfl rfl
  · intro d a b c L M Q; exact q_ast (by decide +kernel : decode (cd 121) 28 = .ok (.iastore , 1))
  · intro d x L M Q; exact Wp_sim (by decide +kernel : decode (cd 121) 29 = .ok (.aload_n 0, 1)) rfl rfl
  · intro d a L M Q; exact Wp_sim (by decide +kernel : decode (cd 121) 30 = .ok (.bipush 14, 2)) rfl rfl
  · intro d a b v0 x L M Q; exact Wp_sim (by decide +kernel : decode (cd 121) 32 = .ok (.iload_n 1, 1)) rfl rfl
  · intro d a b c L M Q; exact Wp_sim (by decide +kernel : decode (cd 121) 33 = .ok (.iadd , 1)) rfl rfl
  · intro d a b L M Q; exact Wp_sim (by decide +kernel : decode (cd 121) 34 = .ok (.iconst 0, 1)) rfl rfl
  · intro d a b c x L M Q; exact Wp_sim (by decide +kernel : decode (cd 121) 35 = .ok (.aload_n 0, 1)) rfl rfl
  · intro d a b c d2 L M Q; exact q_getR (p := 844) (by decide +kernel : decode (cd 121) 36 = .ok (.getfield 13, 3)) (by decide +kernel) (by decide +kernel)
  · intro d a b c d2 L M Q; exact Wp_sim (by decide +kernel : decode (cd 121) 39 = .ok (.iconst 3, 1)) rfl rfl
  · intro d a b c d2 e L M Q; exact q_ald (by decide +kernel : decode (cd 121) 40 = .ok (.iaload , 1))
  · intro d a b c d2 L M Q; exact Wp_sim (by decide +kernel : decode (cd 121) 41 = .ok (.iconst 1, 1)) rfl rfl
  · intro d a b c d2 e L M Q; exact Wp_sim (by decide +kernel : decode (cd 121) 42 = .ok (.isub , 1)) rfl rfl
  · intro d a b c d2 L M Q; exact q_invV (pz := 964) (n := 3) (c := 12) (m := 4) (k := d2) (As := [.int c, .int b, .int a]) (rest := []) (by decide +kernel : decode (cd 121) 43 = .ok (.invokevirtual 117, 3)) (by decide +kernel) (by decide +kernel) rfl rfl (Nat.le_of_ble_eq_true rfl) (Nat.le_of_ble_eq_true rfl) rfl
  · intro d a L M Q; exact q_zeq (by decide +kernel : decode (cd 121) 46 = .ok (.ifCond .eq 43, 3)) (by decide)
  · intro d x L M Q; exact Wp_sim (by decide +kernel : decode (cd 121) 49 = .ok (.aload_n 0, 1)) rfl rfl
  · intro d a L M Q; exact Wp_sim (by decide +kernel : decode (cd 121) 50 = .ok (.bipush 20, 2)) rfl rfl
  · intro d a b v0 x L M Q; exact Wp_sim (by decide +kernel : decode (cd 121) 52 = .ok (.iload_n 1, 1)) rfl rfl
  · intro d a b c L M Q; exact Wp_sim (by decide +kernel : decode (cd 121) 53 = .ok (.iadd , 1)) rfl rfl
  · intro d a b L M Q; exact Wp_sim (by decide +kernel : decode (cd 121) 54 = .ok (.iconst 1, 1)) rfl rfl
  · intro d a b c L M Q; exact Wp_sim (by decide +kernel : decode (cd 121) 55 = .ok (.sipush 999, 3)) rfl rfl
  · intro d a b c d2 L M Q; exact q_invV (pz := 964) (n := 3) (c := 12) (m := 4) (k := d2) (As := [.int c, .int b, .int a]) (rest := []) (by decide +kernel : decode (cd 121) 58 = .ok (.invokevirtual 117, 3)) (by decide +kernel) (by decide +kernel) rfl rfl (Nat.le_of_ble_eq_true rfl) (Nat.le_of_ble_eq_true rfl) rfl
  · intro d a L M Q; exact q_zeq (by decide +kernel : decode (cd 121) 61 = .ok (.ifCond .eq 28, 3)) (by decide)
  · intro d x L M Q; exact Wp_sim (by decide +kernel : decode (cd 121) 64 = .ok (.aload_n 0, 1)) rfl rfl
  · intro d a L M Q; exact Wp_sim (by decide +kernel : decode (cd 121) 65 = .ok (.bipush 26, 2)) rfl rfl
  · intro d a b v0 x L M Q; exact Wp_sim (by decide +kernel : decode (cd 121) 67 = .ok (.iload_n 1, 1)) rfl rfl
  · intro d a b c L M Q; exact Wp_sim (by decide +kernel : decode (cd 121) 68 = .ok (.iadd , 1)) rfl rfl
  · intro d a b L M Q; exact Wp_sim (by decide +kernel : decode (cd 121) 69 = .ok (.iconst 0, 1)) rfl rfl
  · intro d a b c L M Q; exact Wp_sim (by decide +kernel : decode (cd 121) 70 = .ok (.bipush 99, 2)) rfl rfl
  · intro d a b c d2 L M Q; exact q_invV (pz := 964) (n := 3) (c := 12) (m := 4) (k := d2) (As := [.int c, .int b, .int a]) (rest := []) (by decide +kernel : decode (cd 121) 72 = .ok (.invokevirtual 117, 3)) (by decide +kernel) (by decide +kernel) rfl rfl (Nat.le_of_ble_eq_true rfl) (Nat.le_of_ble_eq_true rfl) rfl
  · intro d a L M Q; exact q_zeq (by decide +kernel : decode (cd 121) 75 = .ok (.ifCond .eq 14, 3)) (by decide)
  · intro d x L M Q; exact Wp_sim (by decide +kernel : decode (cd 121) 78 = .ok (.aload_n 0, 1)) rfl rfl
  · intro d a L M Q; exact q_invV (pz := 968) (n := 0) (c := 12) (m := 1) (k := a) (As := []) (rest := []) (by decide +kernel : decode (cd 121) 79 = .ok (.invokevirtual 121, 3)) (by decide +kernel) (by decide +kernel) rfl rfl (Nat.le_of_ble_eq_true rfl) (Nat.le_of_ble_eq_true rfl) rfl
  · intro d a L M Q; exact q_zeq (by decide +kernel : decode (cd 121) 82 = .ok (.ifCond .eq 7, 3)) (by decide)
  · intro d L M Q; exact Wp_sim (by decide +kernel : decode (cd 121) 85 = .ok (.iconst 1, 1)) rfl rfl
  · intro d a L M Q; exact q_goto (by decide +kernel : decode (cd 121) 86 = .ok (.goto 4, 3)) (by decide)
  · intro d L M Q; exact Wp_sim (by decide +kernel : decode (cd 121) 89 = .ok (.iconst 0, 1)) rfl rfl
  · intro d a L M Q; exact q_zret (by decide +kernel : decode (cd 121) 90 = .ok (.ireturn , 1)) (by decide +kernel)

/- 122: PalaceYardModel.readsPlace -/
set_option maxRecDepth 10000 in
theorem e122 : (∀ (d : Nat) (x : Nat) (L : List Value) (M : Mem) (Q : Option Value → Mem → Prop), Wp d 122 0 (.ref x :: L) [] M Q ↔ Wp d 122 1 (.ref x :: L) [.ref x] M Q) ∧
    (∀ (d : Nat) (a : Nat) (L : List Value) (M : Mem) (Q : Option Value → Mem → Prop), Wp d 122 1 L [.ref a] M Q ↔ (isK a 12 = true ∧ Wp d 122 4 L [.ref (rt a 1)] M Q)) ∧
    (∀ (d : Nat) (a : Nat) (L : List Value) (M : Mem) (Q : Option Value → Mem → Prop), Wp d 122 4 L [.ref a] M Q ↔ Wp d 122 5 L [.int 5, .ref a] M Q) ∧
    (∀ (d : Nat) (a : Int32) (b : Nat) (L : List Value) (M : Mem) (Q : Option Value → Mem → Prop), Wp d 122 5 L [.int a, .ref b] M Q ↔ ((isR b = true ∧ inr a (lnm M b)) ∧ Wp d 122 6 L [.int (M b a.toNatClampNeg)] M Q)) ∧
    (∀ (d : Nat) (a : Int32) (v0 : Value) (x : Value) (L : List Value) (M : Mem) (Q : Option Value → Mem → Prop), Wp d 122 6 (v0 :: x :: L) [.int a] M Q ↔ Wp d 122 7 (clr v0 :: .int a :: L) [] M Q) ∧
    (∀ (d : Nat) (v0 : Value) (x : Int32) (L : List Value) (M : Mem) (Q : Option Value → Mem → Prop), Wp d 122 7 (v0 :: .int x :: L) [] M Q ↔ Wp d 122 8 (v0 :: .int x :: L) [.int x] M Q) ∧
    (∀ (d : Nat) (a : Int32) (L : List Value) (M : Mem) (Q : Option Value → Mem → Prop), Wp d 122 8 L [.int a] M Q ↔ Wp d 122 10 L [.int 6, .int a] M Q) ∧
    (∀ (d : Nat) (a : Int32) (b : Int32) (L : List Value) (M : Mem) (Q : Option Value → Mem → Prop), Wp d 122 10 L [.int a, .int b] M Q ↔ (if b = a then Wp d 122 13 L [] M Q else Wp d 122 19 L [] M Q)) ∧
    (∀ (d : Nat) (x : Nat) (L : List Value) (M : Mem) (Q : Option Value → Mem → Prop), Wp d 122 13 (.ref x :: L) [] M Q ↔ Wp d 122 14 (.ref x :: L) [.ref x] M Q) ∧
    (∀ (d : Nat) (a : Nat) (L : List Value) (M : Mem) (Q : Option Value → Mem → Prop), Wp d 122 14 L [.ref a] M Q ↔ Wp d 122 15 L [.int 3, .ref a] M Q) ∧
    (∀ (d : Nat) (a : Int32) (b : Nat) (L : List Value) (M : Mem) (Q : Option Value → Mem → Prop), Wp (d + 1) 122 15 L [.int a, .ref b] M Q ↔ (isK b 12 = true ∧ Wp d 117 0 [.ref b, .int a] [] M (fun r M2 => Wp (d + 1) 122 18 L (r.toList ++ []) M2 Q))) ∧
    (∀ (d : Nat) (a : Int32) (L : List Value) (M : Mem) (Q : Option Value → Mem → Prop), Wp d 122 18 L [.int a] M Q ↔ ((a = 0 ∨ a = 1) ∧ Q (some (.int a)) M)) ∧
    (∀ (d : Nat) (x : Nat) (L : List Value) (M : Mem) (Q : Option Value → Mem → Prop), Wp d 122 19 (.ref x :: L) [] M Q ↔ Wp d 122 20 (.ref x :: L) [.ref x] M Q) ∧
    (∀ (d : Nat) (a : Nat) (L : List Value) (M : Mem) (Q : Option Value → Mem → Prop), Wp d 122 20 L [.ref a] M Q ↔ (isK a 12 = true ∧ Wp d 122 23 L [.ref (rt a 1)] M Q)) ∧
    (∀ (d : Nat) (a : Nat) (L : List Value) (M : Mem) (Q : Option Value → Mem → Prop), Wp d 122 23 L [.ref a] M Q ↔ Wp d 122 24 L [.int 5, .ref a] M Q) ∧
    (∀ (d : Nat) (a : Int32) (b : Nat) (L : List Value) (M : Mem) (Q : Option Value → Mem → Prop), Wp d 122 24 L [.int a, .ref b] M Q ↔ Wp d 122 25 L [.int a, .ref b, .int a, .ref b] M Q) ∧
    (∀ (d : Nat) (a : Int32) (b : Nat) (c : Int32) (d2 : Nat) (L : List Value) (M : Mem) (Q : Option Value → Mem → Prop), Wp d 122 25 L [.int a, .ref b, .int c, .ref d2] M Q ↔ ((isR b = true ∧ inr a (lnm M b)) ∧ Wp d 122 26 L [.int (M b a.toNatClampNeg), .int c, .ref d2] M Q)) ∧
    (∀ (d : Nat) (a : Int32) (b : Int32) (c : Nat) (L : List Value) (M : Mem) (Q : Option Value → Mem → Prop), Wp d 122 26 L [.int a, .int b, .ref c] M Q ↔ Wp d 122 27 L [.int 1, .int a, .int b, .ref c] M Q) ∧
    (∀ (d : Nat) (a : Int32) (b : Int32) (c : Int32) (d2 : Nat) (L : List Value) (M : Mem) (Q : Option Value → Mem → Prop), Wp d 122 27 L [.int a, .int b, .int c, .ref d2] M Q ↔ Wp d 122 28 L [.int (b + a), .int c, .ref d2] M Q) ∧
    (∀ (d : Nat) (a : Int32) (b : Int32) (c : Nat) (L : List Value) (M : Mem) (Q : Option Value → Mem → Prop), Wp d 122 28 L [.int a, .int b, .ref c] M Q ↔ ((isK c 13 = true ∧ inr b (lnm M c)) ∧ Wp d 122 29 L [] (up2 M c b.toNatClampNeg a) Q)) ∧
    (∀ (d : Nat) (x : Nat) (L : List Value) (M : Mem) (Q : Option Value → Mem → Prop), Wp d 122 29 (.ref x :: L) [] M Q ↔ Wp d 122 30 (.ref x :: L) [.ref x] M Q) ∧
    (∀ (d : Nat) (a : Nat) (L : List Value) (M : Mem) (Q : Option Value → Mem → Prop), Wp d 122 30 L [.ref a] M Q ↔ Wp d 122 32 L [.int 32, .ref a] M Q) ∧
    (∀ (d : Nat) (a : Int32) (b : Nat) (v0 : Value) (x : Int32) (L : List Value) (M : Mem) (Q : Option Value → Mem → Prop), Wp d 122 32 (v0 :: .int x :: L) [.int a, .ref b] M Q ↔ Wp d 122 33 (v0 :: .int x :: L) [.int x, .int a, .ref b] M Q) ∧
    (∀ (d : Nat) (a : Int32) (b : Int32) (c : Nat) (L : List Value) (M : Mem) (Q : Option Value → Mem → Prop), Wp d 122 33 L [.int a, .int b, .ref c] M Q ↔ Wp d 122 34 L [.int (b + a), .ref c] M Q) ∧
    (∀ (d : Nat) (a : Int32) (b : Nat) (L : List Value) (M : Mem) (Q : Option Value → Mem → Prop), Wp d 122 34 L [.int a, .ref b] M Q ↔ Wp d 122 35 L [.int 0, .int a, .ref b] M Q) ∧
    (∀ (d : Nat) (a : Int32) (b : Int32) (c : Nat) (L : List Value) (M : Mem) (Q : Option Value → Mem → Prop), Wp d 122 35 L [.int a, .int b, .ref c] M Q ↔ Wp d 122 37 L [.int 20, .int a, .int b, .ref c] M Q) ∧
    (∀ (d : Nat) (a : Int32) (b : Int32) (c : Int32) (d2 : Nat) (L : List Value) (M : Mem) (Q : Option Value → Mem → Prop), Wp (d + 1) 122 37 L [.int a, .int b, .int c, .ref d2] M Q ↔ (isK d2 12 = true ∧ Wp d 118 0 [.ref d2, .int c, .int b, .int a] [] M (fun r M2 => Wp (d + 1) 122 40 L (r.toList ++ []) M2 Q))) ∧
    (∀ (d : Nat) (a : Int32) (L : List Value) (M : Mem) (Q : Option Value → Mem → Prop), Wp d 122 40 L [.int a] M Q ↔ (if a = 0 then Wp d 122 82 L [] M Q else Wp d 122 43 L [] M Q)) ∧
    (∀ (d : Nat) (x : Nat) (L : List Value) (M : Mem) (Q : Option Value → Mem → Prop), Wp d 122 43 (.ref x :: L) [] M Q ↔ Wp d 122 44 (.ref x :: L) [.ref x] M Q) ∧
    (∀ (d : Nat) (a : Nat) (L : List Value) (M : Mem) (Q : Option Value → Mem → Prop), Wp d 122 44 L [.ref a] M Q ↔ Wp d 122 46 L [.int 38, .ref a] M Q) ∧
    (∀ (d : Nat) (a : Int32) (b : Nat) (v0 : Value) (x : Int32) (L : List Value) (M : Mem) (Q : Option Value → Mem → Prop), Wp d 122 46 (v0 :: .int x :: L) [.int a, .ref b] M Q ↔ Wp d 122 47 (v0 :: .int x :: L) [.int x, .int a, .ref b] M Q) ∧
    (∀ (d : Nat) (a : Int32) (b : Int32) (c : Nat) (L : List Value) (M : Mem) (Q : Option Value → Mem → Prop), Wp d 122 47 L [.int a, .int b, .ref c] M Q ↔ Wp d 122 48 L [.int (b + a), .ref c] M Q) ∧
    (∀ (d : Nat) (a : Int32) (b : Nat) (L : List Value) (M : Mem) (Q : Option Value → Mem → Prop), Wp d 122 48 L [.int a, .ref b] M Q ↔ Wp d 122 49 L [.int 0, .int a, .ref b] M Q) ∧
    (∀ (d : Nat) (a : Int32) (b : Int32) (c : Nat) (L : List Value) (M : Mem) (Q : Option Value → Mem → Prop), Wp d 122 49 L [.int a, .int b, .ref c] M Q ↔ Wp d 122 51 L [.int 20, .int a, .int b, .ref c] M Q) ∧
    (∀ (d : Nat) (a : Int32) (b : Int32) (c : Int32) (d2 : Nat) (L : List Value) (M : Mem) (Q : Option Value → Mem → Prop), Wp (d + 1) 122 51 L [.int a, .int b, .int c, .ref d2] M Q ↔ (isK d2 12 = true ∧ Wp d 118 0 [.ref d2, .int c, .int b, .int a] [] M (fun r M2 => Wp (d + 1) 122 54 L (r.toList ++ []) M2 Q))) ∧
    (∀ (d : Nat) (a : Int32) (L : List Value) (M : Mem) (Q : Option Value → Mem → Prop), Wp d 122 54 L [.int a] M Q ↔ (if a = 0 then Wp d 122 82 L [] M Q else Wp d 122 57 L [] M Q)) ∧
    (∀ (d : Nat) (x : Nat) (L : List Value) (M : Mem) (Q : Option Value → Mem → Prop), Wp d 122 57 (.ref x :: L) [] M Q ↔ Wp d 122 58 (.ref x :: L) [.ref x] M Q) ∧
    (∀ (d : Nat) (a : Nat) (L : List Value) (M : Mem) (Q : Option Value → Mem → Prop), Wp d 122 58 L [.ref a] M Q ↔ Wp d 122 60 L [.int 44, .ref a] M Q) ∧
    (∀ (d : Nat) (a : Int32) (b : Nat) (v0 : Value) (x : Int32) (L : List Value) (M : Mem) (Q : Option Value → Mem → Prop), Wp d 122 60 (v0 :: .int x :: L) [.int a, .ref b] M Q ↔ Wp d 122 61 (v0 :: .int x :: L) [.int x, .int a, .ref b] M Q) ∧
    (∀ (d : Nat) (a : Int32) (b : Int32) (c : Nat) (L : List Value) (M : Mem) (Q : Option Value → Mem → Prop), Wp d 122 61 L [.int a, .int b, .ref c] M Q ↔ Wp d 122 62 L [.int (b + a), .ref c] M Q) ∧
    (∀ (d : Nat) (a : Int32) (b : Nat) (L : List Value) (M : Mem) (Q : Option Value → Mem → Prop), Wp d 122 62 L [.int a, .ref b] M Q ↔ Wp d 122 63 L [.int 0, .int a, .ref b] M Q) ∧
    (∀ (d : Nat) (a : Int32) (b : Int32) (c : Nat) (L : List Value) (M : Mem) (Q : Option Value → Mem → Prop), Wp d 122 63 L [.int a, .int b, .ref c] M Q ↔ Wp d 122 65 L [.int 99, .int a, .int b, .ref c] M Q) ∧
    (∀ (d : Nat) (a : Int32) (b : Int32) (c : Int32) (d2 : Nat) (L : List Value) (M : Mem) (Q : Option Value → Mem → Prop), Wp (d + 1) 122 65 L [.int a, .int b, .int c, .ref d2] M Q ↔ (isK d2 12 = true ∧ Wp d 118 0 [.ref d2, .int c, .int b, .int a] [] M (fun r M2 => Wp (d + 1) 122 68 L (r.toList ++ []) M2 Q))) ∧
    (∀ (d : Nat) (a : Int32) (L : List Value) (M : Mem) (Q : Option Value → Mem → Prop), Wp d 122 68 L [.int a] M Q ↔ (if a = 0 then Wp d 122 82 L [] M Q else Wp d 122 71 L [] M Q)) ∧
    (∀ (d : Nat) (x : Nat) (L : List Value) (M : Mem) (Q : Option Value → Mem → Prop), Wp d 122 71 (.ref x :: L) [] M Q ↔ Wp d 122 72 (.ref x :: L) [.ref x] M Q) ∧
    (∀ (d : Nat) (a : Nat) (L : List Value) (M : Mem) (Q : Option Value → Mem → Prop), Wp (d + 1) 122 72 L [.ref a] M Q ↔ (isK a 12 = true ∧ Wp d 119 0 [.ref a] [] M (fun r M2 => Wp (d + 1) 122 75 L (r.toList ++ []) M2 Q))) ∧
    (∀ (d : Nat) (a : Int32) (L : List Value) (M : Mem) (Q : Option Value → Mem → Prop), Wp d 122 75 L [.int a] M Q ↔ (if a = 0 then Wp d 122 82 L [] M Q else Wp d 122 78 L [] M Q)) ∧
    (∀ (d : Nat) (L : List Value) (M : Mem) (Q : Option Value → Mem → Prop), Wp d 122 78 L [] M Q ↔ Wp d 122 79 L [.int 1] M Q) ∧
    (∀ (d : Nat) (a : Int32) (L : List Value) (M : Mem) (Q : Option Value → Mem → Prop), Wp d 122 79 L [.int a] M Q ↔ Wp d 122 83 L [.int a] M Q) ∧
    (∀ (d : Nat) (L : List Value) (M : Mem) (Q : Option Value → Mem → Prop), Wp d 122 82 L [] M Q ↔ Wp d 122 83 L [.int 0] M Q) ∧
    (∀ (d : Nat) (a : Int32) (L : List Value) (M : Mem) (Q : Option Value → Mem → Prop), Wp d 122 83 L [.int a] M Q ↔ ((a = 0 ∨ a = 1) ∧ Q (some (.int a)) M)) := by
  refine ⟨?_, ?_, ?_, ?_, ?_, ?_, ?_, ?_, ?_, ?_, ?_, ?_, ?_, ?_, ?_, ?_, ?_, ?_, ?_, ?_, ?_, ?_, ?_, ?_, ?_, ?_, ?_, ?_, ?_, ?_, ?_, ?_, ?_, ?_, ?_, ?_, ?_, ?_, ?_, ?_, ?_, ?_, ?_, ?_, ?_, ?_, ?_, ?_, ?_, ?_, ?_⟩
  · intro d x L M Q; exact Wp_sim (by decide +kernel : decode (cd 122) 0 = .ok (.aload_n 0, 1)) rfl rfl
  · intro d a L M Q; exact q_getR (p := 844) (by decide +kernel : decode (cd 122) 1 = .ok (.getfield 13, 3)) (by decide +kernel) (by decide +kernel)
  · intro d a L M Q; exact Wp_sim (by decide +kernel : decode (cd 122) 4 = .ok (.iconst 5, 1)) rfl rfl
  · intro d a b L M Q; exact q_ald (by decide +kernel : decode (cd 122) 5 = .ok (.iaload , 1))
  · intro d a v0 x L M Q; exact Wp_sim (by decide +kernel : decode (cd 122) 6 = .ok (.istore_n 1, 1)) rfl rfl
  · intro d v0 x L M Q; exact Wp_sim (by decide +kernel : decode (cd 122) 7 = .ok (.iload_n 1, 1)) rfl rfl
  · intro d a L M Q; exact Wp_sim (by decide +kernel : decode (cd 122) 8 = .ok (.bipush 6, 2)) rfl rfl
  · intro d a b L M Q; exact q_ine (by decide +kernel : decode (cd 122) 10 = .ok (.if_icmp .ne 9, 3)) (by decide)
  · intro d x L M Q; exact Wp_sim (by decide +kernel : decode (cd 122) 13 = .ok (.aload_n 0, 1)) rfl rfl
  · intro d a L M Q; exact Wp_sim (by decide +kernel : decode (cd 122) 14 = .ok (.iconst 3, 1)) rfl rfl
  · intro d a b L M Q; exact q_invV (pz := 960) (n := 1) (c := 12) (m := 2) (k := b) (As := [.int a]) (rest := []) (by decide +kernel : decode (cd 122) 15 = .ok (.invokevirtual 113, 3)) (by decide +kernel) (by decide +kernel) rfl rfl (Nat.le_of_ble_eq_true rfl) (Nat.le_of_ble_eq_true rfl) rfl
  · intro d a L M Q; exact q_zret (by decide +kernel : decode (cd 122) 18 = .ok (.ireturn , 1)) (by decide +kernel)
  · intro d x L M Q; exact Wp_sim (by decide +kernel : decode (cd 122) 19 = .ok (.aload_n 0, 1)) rfl rfl
  · intro d a L M Q; exact q_getR (p := 844) (by decide +kernel : decode (cd 122) 20 = .ok (.getfield 13, 3)) (by decide +kernel) (by decide +kernel)
  · intro d a L M Q; exact Wp_sim (by decide +kernel : decode (cd 122) 23 = .ok (.iconst 5, 1)) rfl rfl
  · intro d a b L M Q; exact Wp_sim (by decide +kernel : decode (cd 122) 24 = .ok (.dup2 , 1)) rfl rfl
  · intro d a b c d2 L M Q; exact q_ald (by decide +kernel : decode (cd 122) 25 = .ok (.iaload , 1))
  · intro d a b c L M Q; exact Wp_sim (by decide +kernel : decode (cd 122) 26 = .ok (.iconst 1, 1)) rfl rfl
  · intro d a b c d2 L M Q; exact Wp_sim (by decide +kernel : decode (cd 122) 27 = .ok (.iadd , 1)) rfl rfl
  · intro d a b c L M Q; exact q_ast (by decide +kernel : decode (cd 122) 28 = .ok (.iastore , 1))
  · intro d x L M Q; exact Wp_sim (by decide +kernel : decode (cd 122) 29 = .ok (.aload_n 0, 1)) rfl rfl
  · intro d a L M Q; exact Wp_sim (by decide +kernel : decode (cd 122) 30 = .ok (.bipush 32, 2)) rfl rfl
  · intro d a b v0 x L M Q; exact Wp_sim (by decide +kernel : decode (cd 122) 32 = .ok (.iload_n 1, 1)) rfl rfl
  · intro d a b c L M Q; exact Wp_sim (by decide +kernel : decode (cd 122) 33 = .ok (.iadd , 1)) rfl rfl
  · intro d a b L M Q; exact Wp_sim (by decide +kernel : decode (cd 122) 34 = .ok (.iconst 0, 1)) rfl rfl
  · intro d a b c L M Q; exact Wp_sim (by decide +kernel : decode (cd 122) 35 = .ok (.bipush 20, 2)) rfl rfl
  · intro d a b c d2 L M Q; exact q_invV (pz := 964) (n := 3) (c := 12) (m := 4) (k := d2) (As := [.int c, .int b, .int a]) (rest := []) (by decide +kernel : decode (cd 122) 37 = .ok (.invokevirtual 117, 3)) (by decide +kernel) (by decide +kernel) rfl rfl (Nat.le_of_ble_eq_true rfl) (Nat.le_of_ble_eq_true rfl) rfl
  · intro d a L M Q; exact q_zeq (by decide +kernel : decode (cd 122) 40 = .ok (.ifCond .eq 42, 3)) (by decide)
  · intro d x L M Q; exact Wp_sim (by decide +kernel : decode (cd 122) 43 = .ok (.aload_n 0, 1)) rfl rfl
  · intro d a L M Q; exact Wp_sim (by decide +kernel : decode (cd 122) 44 = .ok (.bipush 38, 2)) rfl rfl
  · intro d a b v0 x L M Q; exact Wp_sim (by decide +kernel : decode (cd 122) 46 = .ok (.iload_n 1, 1)) rfl rfl
  · intro d a b c L M Q; exact Wp_sim (by decide +kernel : decode (cd 122) 47 = .ok (.iadd , 1)) rfl rfl
  · intro d a b L M Q; exact Wp_sim (by decide +kernel : decode (cd 122) 48 = .ok (.iconst 0, 1)) rfl rfl
  · intro d a b c L M Q; exact Wp_sim (by decide +kernel : decode (cd 122) 49 = .ok (.bipush 20, 2)) rfl rfl
  · intro d a b c d2 L M Q; exact q_invV (pz := 964) (n := 3) (c := 12) (m := 4) (k := d2) (As := [.int c, .int b, .int a]) (rest := []) (by decide +kernel : decode (cd 122) 51 = .ok (.invokevirtual 117, 3)) (by decide +kernel) (by decide +kernel) rfl rfl (Nat.le_of_ble_eq_true rfl) (Nat.le_of_ble_eq_true rfl) rfl
  · intro d a L M Q; exact q_zeq (by decide +kernel : decode (cd 122) 54 = .ok (.ifCond .eq 28, 3)) (by decide)
  · intro d x L M Q; exact Wp_sim (by decide +kernel : decode (cd 122) 57 = .ok (.aload_n 0, 1)) rfl rfl
  · intro d a L M Q; exact Wp_sim (by decide +kernel : decode (cd 122) 58 = .ok (.bipush 44, 2)) rfl rfl
  · intro d a b v0 x L M Q; exact Wp_sim (by decide +kernel : decode (cd 122) 60 = .ok (.iload_n 1, 1)) rfl rfl
  · intro d a b c L M Q; exact Wp_sim (by decide +kernel : decode (cd 122) 61 = .ok (.iadd , 1)) rfl rfl
  · intro d a b L M Q; exact Wp_sim (by decide +kernel : decode (cd 122) 62 = .ok (.iconst 0, 1)) rfl rfl
  · intro d a b c L M Q; exact Wp_sim (by decide +kernel : decode (cd 122) 63 = .ok (.bipush 99, 2)) rfl rfl
  · intro d a b c d2 L M Q; exact q_invV (pz := 964) (n := 3) (c := 12) (m := 4) (k := d2) (As := [.int c, .int b, .int a]) (rest := []) (by decide +kernel : decode (cd 122) 65 = .ok (.invokevirtual 117, 3)) (by decide +kernel) (by decide +kernel) rfl rfl (Nat.le_of_ble_eq_true rfl) (Nat.le_of_ble_eq_true rfl) rfl
  · intro d a L M Q; exact q_zeq (by decide +kernel : decode (cd 122) 68 = .ok (.ifCond .eq 14, 3)) (by decide)
  · intro d x L M Q; exact Wp_sim (by decide +kernel : decode (cd 122) 71 = .ok (.aload_n 0, 1)) rfl rfl
  · intro d a L M Q; exact q_invV (pz := 968) (n := 0) (c := 12) (m := 1) (k := a) (As := []) (rest := []) (by decide +kernel : decode (cd 122) 72 = .ok (.invokevirtual 121, 3)) (by decide +kernel) (by decide +kernel) rfl rfl (Nat.le_of_ble_eq_true rfl) (Nat.le_of_ble_eq_true rfl) rfl
  · intro d a L M Q; exact q_zeq (by decide +kernel : decode (cd 122) 75 = .ok (.ifCond .eq 7, 3)) (by decide)
  · intro d L M Q; exact Wp_sim (by decide +kernel : decode (cd 122) 78 = .ok (.iconst 1, 1)) rfl rfl
  · intro d a L M Q; exact q_goto (by decide +kernel : decode (cd 122) 79 = .ok (.goto 4, 3)) (by decide)
  · intro d L M Q; exact Wp_sim (by decide +kernel : decode (cd 122) 82 = .ok (.iconst 0, 1)) rfl rfl
  · intro d a L M Q; exact q_zret (by decide +kernel : decode (cd 122) 83 = .ok (.ireturn , 1)) (by decide +kernel)

/- 123: PalaceYardModel.copies -/
set_option maxRecDepth 10000 in
theorem e123 : (∀ (d : Nat) (L : List Value) (M : Mem) (Q : Option Value → Mem → Prop), Wp d 123 0 L [] M Q ↔ Wp d 123 1 L [.int 0] M Q) ∧
    (∀ (d : Nat) (a : Int32) (v0 : Value) (v1 : Value) (v2 : Value) (v3 : Value) (v4 : Value) (x : Value) (L : List Value) (M : Mem) (Q : Option Value → Mem → Prop), Wp d 123 1 (v0 :: v1 :: v2 :: v3 :: v4 :: x :: L) [.int a] M Q ↔ Wp d 123 3 (v0 :: v1 :: v2 :: v3 :: clr v4 :: .int a :: L) [] M Q) ∧
    (∀ (d : Nat) (a : Int32) (v0 : Value) (v1 : Value) (v2 : Value) (v3 : Value) (x : Int32) (L : List Value) (M : Mem) (Q : Option Value → Mem → Prop), Wp d 123 5 (v0 :: v1 :: v2 :: v3 :: .int x :: L) [.int a] M Q ↔ Wp d 123 7 (v0 :: v1 :: v2 :: v3 :: .int x :: L) [.int x, .int a] M Q) ∧
    (∀ (d : Nat) (a : Int32) (b : Int32) (L : List Value) (M : Mem) (Q : Option Value → Mem → Prop), Wp d 123 7 L [.int a, .int b] M Q ↔ (if b < a then Wp d 123 10 L [] M Q else Wp d 123 28 L [] M Q)) ∧
    (∀ (d : Nat) (v0 : Value) (v1 : Value) (x : Nat) (L : List Value) (M : Mem) (Q : Option Value → Mem → Prop), Wp d 123 10 (v0 :: v1 :: .ref x :: L) [] M Q ↔ Wp d 123 11 (v0 :: v1 :: .ref x :: L) [.ref x] M Q) ∧
    (∀ (d : Nat) (a : Nat) (v0 : Value) (v1 : Value) (v2 : Value) (x : Int32) (L : List Value) (M : Mem) (Q : Option Value → Mem → Prop), Wp d 123 11 (v0 :: v1 :: v2 :: .int x :: L) [.ref a] M Q ↔ Wp d 123 12 (v0 :: v1 :: v2 :: .int x :: L) [.int x, .ref a] M Q) ∧
    (∀ (d : Nat) (a : Int32) (b : Nat) (v0 : Value) (v1 : Value) (v2 : Value) (v3 : Value) (v4 : Value) (x : Int32) (L : List Value) (M : Mem) (Q : Option Value → Mem → Prop), Wp d 123 12 (v0 :: v1 :: v2 :: v3 :: v4 :: .int x :: L) [.int a, .ref b] M Q ↔ Wp d 123 14 (v0 :: v1 :: v2 :: v3 :: v4 :: .int x :: L) [.int x, .int a, .ref b] M Q) ∧
    (∀ (d : Nat) (a : Int32) (b : Int32) (c : Nat) (L : List Value) (M : Mem) (Q : Option Value → Mem → Prop), Wp d 123 14 L [.int a, .int b, .ref c] M Q ↔ Wp d 123 15 L [.int (b + a), .ref c] M Q) ∧
    (∀ (d : Nat) (a : Int32) (b : Nat) (x : Nat) (L : List Value) (M : Mem) (Q : Option Value → Mem → Prop), Wp d 123 15 (.ref x :: L) [.int a, .ref b] M Q ↔ Wp d 123 16 (.ref x :: L) [.ref x, .int a, .ref b] M Q) ∧
    (∀ (d : Nat) (a : Nat) (b : Int32) (c : Nat) (v0 : Value) (x : Int32) (L : List Value) (M : Mem) (Q : Option Value → Mem → Prop), Wp d 123 16 (v0 :: .int x :: L) [.ref a, .int b, .ref c] M Q ↔ Wp d 123 17 (v0 :: .int x :: L) [.int x, .ref a, .int b, .ref c] M Q) ∧
    (∀ (d : Nat) (a : Int32) (b : Nat) (c : Int32) (d2 : Nat) (v0 : Value) (v1 : Value) (v2 : Value) (v3 : Value) (v4 : Value) (x : Int32) (L : List Value) (M : Mem) (Q : Option Value → Mem → Prop), Wp d 123 17 (v0 :: v1 :: v2 :: v3 :: v4 :: .int x :: L) [.int a, .ref b, .int c, .ref d2] M Q ↔ Wp d 123 19 (v0 :: v1 :: v2 :: v3 :: v4 :: .int x :: L) [.int x, .int a, .ref b, .int c, .ref d2] M Q) ∧
    (∀ (d : Nat) (a : Int32) (b : Int32) (c : Nat) (d2 : Int32) (e : Nat) (L : List Value) (M : Mem) (Q : Option Value → Mem → Prop), Wp d 123 19 L [.int a, .int b, .ref c, .int d2, .ref e] M Q ↔ Wp d 123 20 L [.int (b + a), .ref c, .int d2, .ref e] M Q) ∧
    (∀ (d : Nat) (a : Int32) (b : Nat) (c : Int32) (d2 : Nat) (L : List Value) (M : Mem) (Q : Option Value → Mem → Prop), Wp d 123 20 L [.int a, .ref b, .int c, .ref d2] M Q ↔ ((isR b = true ∧ inr a (lnm M b)) ∧ Wp d 123 21 L [.int (M b a.toNatClampNeg), .int c, .ref d2] M Q)) ∧
    (∀ (d : Nat) (a : Int32) (b : Int32) (c : Nat) (L : List Value) (M : Mem) (Q : Option Value → Mem → Prop), Wp d 123 21 L [.int a, .int b, .ref c] M Q ↔ ((isK c 13 = true ∧ inr b (lnm M c)) ∧ Wp d 123 22 L [] (up2 M c b.toNatClampNeg a) Q)) ∧
    (∀ (d : Nat) (v0 : Value) (v1 : Value) (v2 : Value) (v3 : Value) (v4 : Value) (x : Int32) (L : List Value) (M : Mem) (Q : Option Value → Mem → Prop), Wp d 123 22 (v0 :: v1 :: v2 :: v3 :: v4 :: .int x :: L) [] M Q ↔ Wp d 123 25 (v0 :: v1 :: v2 :: v3 :: clr v4 :: .int (x + 1) :: L) [] M Q) ∧
    (∀ (d : Nat) (L : List Value) (M : Mem) (Q : Option Value → Mem → Prop), Wp d 123 25 L [] M Q ↔ Wp d 123 3 L [] M Q) ∧
    (∀ (d : Nat) (L : List Value) (M : Mem) (Q : Option Value → Mem → Prop), Wp d 123 28 L [] M Q ↔ Q none M) := by
  refine ⟨?_, ?_, ?_, ?_, ?_, ?_, ?_, ?_, ?_, ?_, ?_, ?_, ?_, ?_, ?_, ?_, ?_⟩
  · intro d L M Q; exact Wp_sim (by decide +kernel : decode (cd 123) 0 = .ok (.iconst 0, 1)) rfl rfl
  · intro d a v0 v1 v2 v3 v4 x L M Q; exact Wp_sim (by decide +kernel : decode (cd 123) 1 = .ok (.istore 5, 2)) rfl rfl
  · intro d a v0 v1 v2 v3 x L M Q; exact Wp_sim (by decide +kernel : decode (cd 123) 5 = .ok (.iload 4, 2)) rfl rfl
  · intro d a b L M Q; exact q_ige (by decide +kernel : decode (cd 123) 7 = .ok (.if_icmp .ge 21, 3)) (by decide)
  · intro d v0 v1 x L M Q; exact Wp_sim (by decide +kernel : decode (cd 123) 10 = .ok (.aload_n 2, 1)) rfl rfl
  · intro d a v0 v1 v2 x L M Q; exact Wp_sim (by decide +kernel : decode (cd 123) 11 = .ok (.iload_n 3, 1)) rfl rfl
  · intro d a b v0 v1 v2 v3 v4 x L M Q; exact Wp_sim (by decide +kernel : decode (cd 123) 12 = .ok (.iload 5, 2)) rfl rfl
  · intro d a b c L M Q; exact Wp_sim (by decide +kernel : decode (cd 123) 14 = .ok (.iadd , 1)) rfl rfl
  · intro d a b x L M Q; exact Wp_sim (by decide +kernel : decode (cd 123) 15 = .ok (.aload_n 0, 1)) rfl rfl
  · intro d a b c v0 x L M Q; exact Wp_sim (by decide +kernel : decode (cd 123) 16 = .ok (.iload_n 1, 1)) rfl rfl
  · intro d a b c d2 v0 v1 v2 v3 v4 x L M Q; exact Wp_sim (by decide +kernel : decode (cd 123) 17 = .ok (.iload 5, 2)) rfl rfl
  · intro d a b c d2 e L M Q; exact Wp_sim (by decide +kernel : decode (cd 123) 19 = .ok (.iadd , 1)) rfl rfl
  · intro d a b c d2 L M Q; exact q_ald (by decide +kernel : decode (cd 123) 20 = .ok (.iaload , 1))
  · intro d a b c L M Q; exact q_ast (by decide +kernel : decode (cd 123) 21 = .ok (.iastore , 1))
  · intro d v0 v1 v2 v3 v4 x L M Q; exact Wp_sim (by decide +kernel : decode (cd 123) 22 = .ok (.iinc 5 1, 3)) rfl rfl
  · intro d L M Q; exact q_goto (by decide +kernel : decode (cd 123) 25 = .ok (.goto (-22), 3)) (by decide)
  · intro d L M Q; exact q_vret (by decide +kernel : decode (cd 123) 28 = .ok (.return_ , 1)) (by decide +kernel)
theorem h123_3 : (∀ (d : Nat) (v0 : Value) (v1 : Value) (v2 : Value) (v3 : Value) (v4 : Value) (x : Int32) (L : List Value) (M : Mem) (Q : Option Value → Mem → Prop), Wp d 123 3 (v0 :: v1 :: v2 :: v3 :: v4 :: .int x :: L) [] M Q ↔ Wp d 123 5 (v0 :: v1 :: v2 :: v3 :: v4 :: .int x :: L) [.int x] M Q) := by
  intro d v0 v1 v2 v3 v4 x L M Q; exact Wp_sim (by decide +kernel : decode (cd 123) 3 = .ok (.iload 5, 2)) rfl rfl

/- 124: PalaceYardModel.begins -/
set_option maxRecDepth 10000 in
theorem e124 : (∀ (d : Nat) (L : List Value) (M : Mem) (Q : Option Value → Mem → Prop), Wp d 124 0 L [] M Q ↔ Wp d 124 1 L [.int 0] M Q) ∧
    (∀ (d : Nat) (a : Int32) (v0 : Value) (x : Value) (L : List Value) (M : Mem) (Q : Option Value → Mem → Prop), Wp d 124 1 (v0 :: x :: L) [.int a] M Q ↔ Wp d 124 2 (clr v0 :: .int a :: L) [] M Q) ∧
    (∀ (d : Nat) (a : Int32) (L : List Value) (M : Mem) (Q : Option Value → Mem → Prop), Wp d 124 3 L [.int a] M Q ↔ Wp d 124 5 L [.int 51, .int a] M Q) ∧
    (∀ (d : Nat) (a : Int32) (b : Int32) (L : List Value) (M : Mem) (Q : Option Value → Mem → Prop), Wp d 124 5 L [.int a, .int b] M Q ↔ (if b < a then Wp d 124 8 L [] M Q else Wp d 124 21 L [] M Q)) ∧
    (∀ (d : Nat) (x : Nat) (L : List Value) (M : Mem) (Q : Option Value → Mem → Prop), Wp d 124 8 (.ref x :: L) [] M Q ↔ Wp d 124 9 (.ref x :: L) [.ref x] M Q) ∧
    (∀ (d : Nat) (a : Nat) (L : List Value) (M : Mem) (Q : Option Value → Mem → Prop), Wp d 124 9 L [.ref a] M Q ↔ (isK a 12 = true ∧ Wp d 124 12 L [.ref (rt a 2)] M Q)) ∧
    (∀ (d : Nat) (a : Nat) (v0 : Value) (x : Int32) (L : List Value) (M : Mem) (Q : Option Value → Mem → Prop), Wp d 124 12 (v0 :: .int x :: L) [.ref a] M Q ↔ Wp d 124 13 (v0 :: .int x :: L) [.int x, .ref a] M Q) ∧
    (∀ (d : Nat) (a : Int32) (b : Nat) (L : List Value) (M : Mem) (Q : Option Value → Mem → Prop), Wp d 124 13 L [.int a, .ref b] M Q ↔ Wp d 124 14 L [.int 0, .int a, .ref b] M Q) ∧
    (∀ (d : Nat) (a : Int32) (b : Int32) (c : Nat) (L : List Value) (M : Mem) (Q : Option Value → Mem → Prop), Wp d 124 14 L [.int a, .int b, .ref c] M Q ↔ ((isK c 13 = true ∧ inr b (lnm M c)) ∧ Wp d 124 15 L [] (up2 M c b.toNatClampNeg a) Q)) ∧
    (∀ (d : Nat) (v0 : Value) (x : Int32) (L : List Value) (M : Mem) (Q : Option Value → Mem → Prop), Wp d 124 15 (v0 :: .int x :: L) [] M Q ↔ Wp d 124 18 (clr v0 :: .int (x + 1) :: L) [] M Q) ∧
    (∀ (d : Nat) (L : List Value) (M : Mem) (Q : Option Value → Mem → Prop), Wp d 124 18 L [] M Q ↔ Wp d 124 2 L [] M Q) ∧
    (∀ (d : Nat) (x : Nat) (L : List Value) (M : Mem) (Q : Option Value → Mem → Prop), Wp d 124 21 (.ref x :: L) [] M Q ↔ Wp d 124 22 (.ref x :: L) [.ref x] M Q) ∧
    (∀ (d : Nat) (a : Nat) (L : List Value) (M : Mem) (Q : Option Value → Mem → Prop), Wp d 124 22 L [.ref a] M Q ↔ Wp d 124 23 L [.int 0, .ref a] M Q) ∧
    (∀ (d : Nat) (a : Int32) (b : Nat) (L : List Value) (M : Mem) (Q : Option Value → Mem → Prop), Wp d 124 23 L [.int a, .ref b] M Q ↔ (isK b 12 = true ∧ Wp d 124 26 L [] (up2 M b 5 a) Q)) ∧
    (∀ (d : Nat) (x : Nat) (L : List Value) (M : Mem) (Q : Option Value → Mem → Prop), Wp d 124 26 (.ref x :: L) [] M Q ↔ Wp d 124 27 (.ref x :: L) [.ref x] M Q) ∧
    (∀ (d : Nat) (a : Nat) (L : List Value) (M : Mem) (Q : Option Value → Mem → Prop), Wp d 124 27 L [.ref a] M Q ↔ Wp d 124 28 L [.int 0, .ref a] M Q) ∧
    (∀ (d : Nat) (a : Int32) (b : Nat) (L : List Value) (M : Mem) (Q : Option Value → Mem → Prop), Wp d 124 28 L [.int a, .ref b] M Q ↔ (isK b 12 = true ∧ Wp d 124 31 L [] (up2 M b 13 a) Q)) ∧
    (∀ (d : Nat) (x : Nat) (L : List Value) (M : Mem) (Q : Option Value → Mem → Prop), Wp d 124 31 (.ref x :: L) [] M Q ↔ Wp d 124 32 (.ref x :: L) [.ref x] M Q) ∧
    (∀ (d : Nat) (a : Nat) (L : List Value) (M : Mem) (Q : Option Value → Mem → Prop), Wp d 124 32 L [.ref a] M Q ↔ Wp d 124 33 L [.int 0, .ref a] M Q) ∧
    (∀ (d : Nat) (a : Int32) (b : Nat) (L : List Value) (M : Mem) (Q : Option Value → Mem → Prop), Wp d 124 33 L [.int a, .ref b] M Q ↔ (isK b 12 = true ∧ Wp d 124 36 L [] (up2 M b 15 a) Q)) ∧
    (∀ (d : Nat) (x : Nat) (L : List Value) (M : Mem) (Q : Option Value → Mem → Prop), Wp d 124 36 (.ref x :: L) [] M Q ↔ Wp d 124 37 (.ref x :: L) [.ref x] M Q) ∧
    (∀ (d : Nat) (a : Nat) (L : List Value) (M : Mem) (Q : Option Value → Mem → Prop), Wp d 124 37 L [.ref a] M Q ↔ (isK a 12 = true ∧ Wp d 124 40 L [.ref (rt a 7)] M Q)) ∧
    (∀ (d : Nat) (a : Nat) (L : List Value) (M : Mem) (Q : Option Value → Mem → Prop), Wp d 124 40 L [.ref a] M Q ↔ Wp d 124 41 L [.int 0, .ref a] M Q) ∧
    (∀ (d : Nat) (a : Int32) (b : Nat) (L : List Value) (M : Mem) (Q : Option Value → Mem → Prop), Wp d 124 41 L [.int a, .ref b] M Q ↔ Wp d 124 42 L [.int 0, .int a, .ref b] M Q) ∧
    (∀ (d : Nat) (a : Int32) (b : Int32) (c : Nat) (L : List Value) (M : Mem) (Q : Option Value → Mem → Prop), Wp d 124 42 L [.int a, .int b, .ref c] M Q ↔ (((isK c 14 = true ∧ (a = 0 ∨ a = 1)) ∧ inr b (lnm M c)) ∧ Wp d 124 43 L [] (up2 M c b.toNatClampNeg a) Q)) ∧
    (∀ (d : Nat) (x : Nat) (L : List Value) (M : Mem) (Q : Option Value → Mem → Prop), Wp d 124 43 (.ref x :: L) [] M Q ↔ Wp d 124 44 (.ref x :: L) [.ref x] M Q) ∧
    (∀ (d : Nat) (a : Nat) (L : List Value) (M : Mem) (Q : Option Value → Mem → Prop), Wp d 124 44 L [.ref a] M Q ↔ (isK a 12 = true ∧ Wp d 124 47 L [.ref (rt a 7)] M Q)) ∧
    (∀ (d : Nat) (a : Nat) (L : List Value) (M : Mem) (Q : Option Value → Mem → Prop), Wp d 124 47 L [.ref a] M Q ↔ Wp d 124 48 L [.int 1, .ref a] M Q) ∧
    (∀ (d : Nat) (a : Int32) (b : Nat) (L : List Value) (M : Mem) (Q : Option Value → Mem → Prop), Wp d 124 48 L [.int a, .ref b] M Q ↔ Wp d 124 49 L [.int 0, .int a, .ref b] M Q) ∧
    (∀ (d : Nat) (a : Int32) (b : Int32) (c : Nat) (L : List Value) (M : Mem) (Q : Option Value → Mem → Prop), Wp d 124 49 L [.int a, .int b, .ref c] M Q ↔ (((isK c 14 = true ∧ (a = 0 ∨ a = 1)) ∧ inr b (lnm M c)) ∧ Wp d 124 50 L [] (up2 M c b.toNatClampNeg a) Q)) ∧
    (∀ (d : Nat) (L : List Value) (M : Mem) (Q : Option Value → Mem → Prop), Wp d 124 50 L [] M Q ↔ Q none M) := by
  refine ⟨?_, ?_, ?_, ?_, ?_, ?_, ?_, ?_, ?_, ?_, ?_, ?_, ?_, ?_, ?_, ?_, ?_, ?_, ?_, ?_, ?_, ?_, ?_, ?_, ?_, ?_, ?_, ?_, ?_, ?_, ?_⟩
  · intro d L M Q; exact Wp_sim (by decide +kernel : decode (cd 124) 0 = .ok (.iconst 0, 1)) rfl rfl
  · intro d a v0 x L M Q; exact Wp_sim (by decide +kernel : decode (cd 124) 1 = .ok (.istore_n 1, 1)) rfl rfl
  · intro d a L M Q; exact Wp_sim (by decide +kernel : decode (cd 124) 3 = .ok (.bipush 51, 2)) rfl rfl
  · intro d a b L M Q; exact q_ige (by decide +kernel : decode (cd 124) 5 = .ok (.if_icmp .ge 16, 3)) (by decide)
  · intro d x L M Q; exact Wp_sim (by decide +kernel : decode (cd 124) 8 = .ok (.aload_n 0, 1)) rfl rfl
  · intro d a L M Q; exact q_getR (p := 845) (by decide +kernel : decode (cd 124) 9 = .ok (.getfield 16, 3)) (by decide +kernel) (by decide +kernel)
  · intro d a v0 x L M Q; exact Wp_sim (by decide +kernel : decode (cd 124) 12 = .ok (.iload_n 1, 1)) rfl rfl
  · intro d a b L M Q; exact Wp_sim (by decide +kernel : decode (cd 124) 13 = .ok (.iconst 0, 1)) rfl rfl
  · intro d a b c L M Q; exact q_ast (by decide +kernel : decode (cd 124) 14 = .ok (.iastore , 1))
  · intro d v0 x L M Q; exact Wp_sim (by decide +kernel : decode (cd 124) 15 = .ok (.iinc 1 1, 3)) rfl rfl
  · intro d L M Q; exact q_goto (by decide +kernel : decode (cd 124) 18 = .ok (.goto (-16), 3)) (by decide)
  · intro d x L M Q; exact Wp_sim (by decide +kernel : decode (cd 124) 21 = .ok (.aload_n 0, 1)) rfl rfl
  · intro d a L M Q; exact Wp_sim (by decide +kernel : decode (cd 124) 22 = .ok (.iconst 0, 1)) rfl rfl
  · intro d a b L M Q; exact q_putI (p := 848) (by decide +kernel : decode (cd 124) 23 = .ok (.putfield 64, 3)) (by decide +kernel) (by decide +kernel)
  · intro d x L M Q; exact Wp_sim (by decide +kernel : decode (cd 124) 26 = .ok (.aload_n 0, 1)) rfl rfl
  · intro d a L M Q; exact Wp_sim (by decide +kernel : decode (cd 124) 27 = .ok (.iconst 0, 1)) rfl rfl
  · intro d a b L M Q; exact q_putI (p := 856) (by decide +kernel : decode (cd 124) 28 = .ok (.putfield 67, 3)) (by decide +kernel) (by decide +kernel)
  · intro d x L M Q; exact Wp_sim (by decide +kernel : decode (cd 124) 31 = .ok (.aload_n 0, 1)) rfl rfl
  · intro d a L M Q; exact Wp_sim (by decide +kernel : decode (cd 124) 32 = .ok (.iconst 0, 1)) rfl rfl
  · intro d a b L M Q; exact q_putI (p := 858) (by decide +kernel : decode (cd 124) 33 = .ok (.putfield 70, 3)) (by decide +kernel) (by decide +kernel)
  · intro d x L M Q; exact Wp_sim (by decide +kernel : decode (cd 124) 36 = .ok (.aload_n 0, 1)) rfl rfl
  · intro d a L M Q; exact q_getR (p := 850) (by decide +kernel : decode (cd 124) 37 = .ok (.getfield 28, 3)) (by decide +kernel) (by decide +kernel)
  · intro d a L M Q; exact Wp_sim (by decide +kernel : decode (cd 124) 40 = .ok (.iconst 0, 1)) rfl rfl
  · intro d a b L M Q; exact Wp_sim (by decide +kernel : decode (cd 124) 41 = .ok (.iconst 0, 1)) rfl rfl
  · intro d a b c L M Q; exact q_zst (by decide +kernel : decode (cd 124) 42 = .ok (.bastore , 1))
  · intro d x L M Q; exact Wp_sim (by decide +kernel : decode (cd 124) 43 = .ok (.aload_n 0, 1)) rfl rfl
  · intro d a L M Q; exact q_getR (p := 850) (by decide +kernel : decode (cd 124) 44 = .ok (.getfield 28, 3)) (by decide +kernel) (by decide +kernel)
  · intro d a L M Q; exact Wp_sim (by decide +kernel : decode (cd 124) 47 = .ok (.iconst 1, 1)) rfl rfl
  · intro d a b L M Q; exact Wp_sim (by decide +kernel : decode (cd 124) 48 = .ok (.iconst 0, 1)) rfl rfl
  · intro d a b c L M Q; exact q_zst (by decide +kernel : decode (cd 124) 49 = .ok (.bastore , 1))
  · intro d L M Q; exact q_vret (by decide +kernel : decode (cd 124) 50 = .ok (.return_ , 1)) (by decide +kernel)
theorem h124_2 : (∀ (d : Nat) (v0 : Value) (x : Int32) (L : List Value) (M : Mem) (Q : Option Value → Mem → Prop), Wp d 124 2 (v0 :: .int x :: L) [] M Q ↔ Wp d 124 3 (v0 :: .int x :: L) [.int x] M Q) := by
  intro d v0 x L M Q; exact Wp_sim (by decide +kernel : decode (cd 124) 2 = .ok (.iload_n 1, 1)) rfl rfl

/- 125: PalaceYardModel.fault -/
set_option maxRecDepth 10000 in
theorem e125 : (∀ (d : Nat) (x : Nat) (L : List Value) (M : Mem) (Q : Option Value → Mem → Prop), Wp d 125 0 (.ref x :: L) [] M Q ↔ Wp d 125 1 (.ref x :: L) [.ref x] M Q) ∧
    (∀ (d : Nat) (a : Nat) (L : List Value) (M : Mem) (Q : Option Value → Mem → Prop), Wp d 125 1 L [.ref a] M Q ↔ (isK a 12 = true ∧ Wp d 125 4 L [.int (M a 11)] M Q)) ∧
    (∀ (d : Nat) (a : Int32) (L : List Value) (M : Mem) (Q : Option Value → Mem → Prop), Wp d 125 4 L [.int a] M Q ↔ Q (some (.int a)) M) := by
  refine ⟨?_, ?_, ?_⟩
  · intro d x L M Q; exact Wp_sim (by decide +kernel : decode (cd 125) 0 = .ok (.aload_n 0, 1)) rfl rfl
  · intro d a L M Q; exact q_getI (p := 854) (by decide +kernel : decode (cd 125) 1 = .ok (.getfield 35, 3)) (by decide +kernel) (by decide +kernel)
  · intro d a L M Q; exact q_iret (by decide +kernel : decode (cd 125) 4 = .ok (.ireturn , 1)) (by decide +kernel)

/- 126: PalaceYardModel.told -/
set_option maxRecDepth 10000 in
theorem e126_0 : (∀ (d : Nat) (v0 : Value) (x : Int32) (L : List Value) (M : Mem) (Q : Option Value → Mem → Prop), Wp d 126 0 (v0 :: .int x :: L) [] M Q ↔ Wp d 126 1 (v0 :: .int x :: L) [.int x] M Q) ∧
    (∀ (d : Nat) (a : Int32) (L : List Value) (M : Mem) (Q : Option Value → Mem → Prop), Wp d 126 1 L [.int a] M Q ↔ (if a = 0 then Wp d 126 100 L [] M Q else (if a = 1 then Wp d 126 100 L [] M Q else (if a = 2 then Wp d 126 100 L [] M Q else (if a = 3 then Wp d 126 100 L [] M Q else (if a = 4 then Wp d 126 100 L [] M Q else (if a = 5 then Wp d 126 100 L [] M Q else (if a = 6 then Wp d 126 107 L [] M Q else (if a = 7 then Wp d 126 112 L [] M Q else (if a = 8 then Wp d 126 120 L [] M Q else (if a = 9 then Wp d 126 126 L [] M Q else (if a = 10 then Wp d 126 132 L [] M Q else (if a = 11 then Wp d 126 138 L [] M Q else (if a = 12 then Wp d 126 150 L [] M Q else (if a = 13 then Wp d 126 155 L [] M Q else (if a = 14 then Wp d 126 160 L [] M Q else (if a = 15 then Wp d 126 168 L [] M Q else (if a = 16 then Wp d 126 176 L [] M Q else (if a = 17 then Wp d 126 181 L [] M Q else (if a = 18 then Wp d 126 186 L [] M Q else (if a = 19 then Wp d 126 191 L [] M Q else (if a = 20 then Wp d 126 196 L [] M Q else Wp d 126 201 L [] M Q)))))))))))))))))))))) ∧
    (∀ (d : Nat) (x : Nat) (L : List Value) (M : Mem) (Q : Option Value → Mem → Prop), Wp d 126 100 (.ref x :: L) [] M Q ↔ Wp d 126 101 (.ref x :: L) [.ref x] M Q) ∧
    (∀ (d : Nat) (a : Nat) (L : List Value) (M : Mem) (Q : Option Value → Mem → Prop), Wp d 126 101 L [.ref a] M Q ↔ (isK a 12 = true ∧ Wp d 126 104 L [.ref (rt a 0)] M Q)) ∧
    (∀ (d : Nat) (a : Nat) (v0 : Value) (x : Int32) (L : List Value) (M : Mem) (Q : Option Value → Mem → Prop), Wp d 126 104 (v0 :: .int x :: L) [.ref a] M Q ↔ Wp d 126 105 (v0 :: .int x :: L) [.int x, .ref a] M Q) ∧
    (∀ (d : Nat) (a : Int32) (b : Nat) (L : List Value) (M : Mem) (Q : Option Value → Mem → Prop), Wp d 126 105 L [.int a, .ref b] M Q ↔ ((isR b = true ∧ inr a (lnm M b)) ∧ Wp d 126 106 L [.int (M b a.toNatClampNeg)] M Q)) ∧
    (∀ (d : Nat) (a : Int32) (L : List Value) (M : Mem) (Q : Option Value → Mem → Prop), Wp d 126 106 L [.int a] M Q ↔ Q (some (.int a)) M) ∧
    (∀ (d : Nat) (x : Nat) (L : List Value) (M : Mem) (Q : Option Value → Mem → Prop), Wp d 126 107 (.ref x :: L) [] M Q ↔ Wp d 126 108 (.ref x :: L) [.ref x] M Q) ∧
    (∀ (d : Nat) (a : Nat) (L : List Value) (M : Mem) (Q : Option Value → Mem → Prop), Wp d 126 108 L [.ref a] M Q ↔ (isK a 12 = true ∧ Wp d 126 111 L [.int (M a 10)] M Q)) ∧
    (∀ (d : Nat) (a : Int32) (L : List Value) (M : Mem) (Q : Option Value → Mem → Prop), Wp d 126 111 L [.int a] M Q ↔ Q (some (.int a)) M) ∧
    (∀ (d : Nat) (x : Nat) (L : List Value) (M : Mem) (Q : Option Value → Mem → Prop), Wp d 126 112 (.ref x :: L) [] M Q ↔ Wp d 126 113 (.ref x :: L) [.ref x] M Q) ∧
    (∀ (d : Nat) (a : Nat) (L : List Value) (M : Mem) (Q : Option Value → Mem → Prop), Wp d 126 113 L [.ref a] M Q ↔ (isK a 12 = true ∧ Wp d 126 116 L [.ref (rt a 2)] M Q)) ∧
    (∀ (d : Nat) (a : Nat) (L : List Value) (M : Mem) (Q : Option Value → Mem → Prop), Wp d 126 116 L [.ref a] M Q ↔ Wp d 126 118 L [.int 48, .ref a] M Q) ∧
    (∀ (d : Nat) (a : Int32) (b : Nat) (L : List Value) (M : Mem) (Q : Option Value → Mem → Prop), Wp d 126 118 L [.int a, .ref b] M Q ↔ ((isR b = true ∧ inr a (lnm M b)) ∧ Wp d 126 119 L [.int (M b a.toNatClampNeg)] M Q)) ∧
    (∀ (d : Nat) (a : Int32) (L : List Value) (M : Mem) (Q : Option Value → Mem → Prop), Wp d 126 119 L [.int a] M Q ↔ Q (some (.int a)) M) ∧
    (∀ (d : Nat) (x : Nat) (L : List Value) (M : Mem) (Q : Option Value → Mem → Prop), Wp d 126 120 (.ref x :: L) [] M Q ↔ Wp d 126 121 (.ref x :: L) [.ref x] M Q) ∧
    (∀ (d : Nat) (a : Nat) (L : List Value) (M : Mem) (Q : Option Value → Mem → Prop), Wp d 126 121 L [.ref a] M Q ↔ Wp d 126 122 L [.int 1, .ref a] M Q) ∧
    (∀ (d : Nat) (a : Int32) (b : Nat) (L : List Value) (M : Mem) (Q : Option Value → Mem → Prop), Wp (d + 1) 126 122 L [.int a, .ref b] M Q ↔ (isK b 12 = true ∧ Wp d 127 0 [.ref b, .int a, .null, .null] [] M (fun r M2 => Wp (d + 1) 126 125 L (r.toList ++ []) M2 Q))) ∧
    (∀ (d : Nat) (a : Int32) (L : List Value) (M : Mem) (Q : Option Value → Mem → Prop), Wp d 126 125 L [.int a] M Q ↔ Q (some (.int a)) M) ∧
    (∀ (d : Nat) (x : Nat) (L : List Value) (M : Mem) (Q : Option Value → Mem → Prop), Wp d 126 126 (.ref x :: L) [] M Q ↔ Wp d 126 127 (.ref x :: L) [.ref x] M Q) ∧
    (∀ (d : Nat) (a : Nat) (L : List Value) (M : Mem) (Q : Option Value → Mem → Prop), Wp d 126 127 L [.ref a] M Q ↔ Wp d 126 128 L [.int 0, .ref a] M Q) ∧
    (∀ (d : Nat) (a : Int32) (b : Nat) (L : List Value) (M : Mem) (Q : Option Value → Mem → Prop), Wp (d + 1) 126 128 L [.int a, .ref b] M Q ↔ (isK b 12 = true ∧ Wp d 127 0 [.ref b, .int a, .null, .null] [] M (fun r M2 => Wp (d + 1) 126 131 L (r.toList ++ []) M2 Q))) ∧
    (∀ (d : Nat) (a : Int32) (L : List Value) (M : Mem) (Q : Option Value → Mem → Prop), Wp d 126 131 L [.int a] M Q ↔ Q (some (.int a)) M) ∧
    (∀ (d : Nat) (x : Nat) (L : List Value) (M : Mem) (Q : Option Value → Mem → Prop), Wp d 126 132 (.ref x :: L) [] M Q ↔ Wp d 126 133 (.ref x :: L) [.ref x] M Q) ∧
    (∀ (d : Nat) (a : Nat) (L : List Value) (M : Mem) (Q : Option Value → Mem → Prop), Wp d 126 133 L [.ref a] M Q ↔ Wp d 126 134 L [.int 3, .ref a] M Q) ∧
    (∀ (d : Nat) (a : Int32) (b : Nat) (L : List Value) (M : Mem) (Q : Option Value → Mem → Prop), Wp (d + 1) 126 134 L [.int a, .ref b] M Q ↔ (isK b 12 = true ∧ Wp d 127 0 [.ref b, .int a, .null, .null] [] M (fun r M2 => Wp (d + 1) 126 137 L (r.toList ++ []) M2 Q))) ∧
    (∀ (d : Nat) (a : Int32) (L : List Value) (M : Mem) (Q : Option Value → Mem → Prop), Wp d 126 137 L [.int a] M Q ↔ Q (some (.int a)) M) ∧
    (∀ (d : Nat) (x : Nat) (L : List Value) (M : Mem) (Q : Option Value → Mem → Prop), Wp d 126 138 (.ref x :: L) [] M Q ↔ Wp d 126 139 (.ref x :: L) [.ref x] M Q) ∧
    (∀ (d : Nat) (a : Nat) (L : List Value) (M : Mem) (Q : Option Value → Mem → Prop), Wp d 126 139 L [.ref a] M Q ↔ Wp d 126 140 L [.int 2, .ref a] M Q) ∧
    (∀ (d : Nat) (a : Int32) (b : Nat) (L : List Value) (M : Mem) (Q : Option Value → Mem → Prop), Wp (d + 1) 126 140 L [.int a, .ref b] M Q ↔ (isK b 12 = true ∧ Wp d 127 0 [.ref b, .int a, .null, .null] [] M (fun r M2 => Wp (d + 1) 126 143 L (r.toList ++ []) M2 Q))) ∧
    (∀ (d : Nat) (a : Int32) (x : Nat) (L : List Value) (M : Mem) (Q : Option Value → Mem → Prop), Wp d 126 143 (.ref x :: L) [.int a] M Q ↔ Wp d 126 144 (.ref x :: L) [.ref x, .int a] M Q) ∧
    (∀ (d : Nat) (a : Nat) (b : Int32) (L : List Value) (M : Mem) (Q : Option Value → Mem → Prop), Wp d 126 144 L [.ref a, .int b] M Q ↔ Wp d 126 145 L [.int 4, .ref a, .int b] M Q) ∧
    (∀ (d : Nat) (a : Int32) (b : Nat) (c : Int32) (L : List Value) (M : Mem) (Q : Option Value → Mem → Prop), Wp (d + 1) 126 145 L [.int a, .ref b, .int c] M Q ↔ (isK b 12 = true ∧ Wp d 127 0 [.ref b, .int a, .null, .null] [] M (fun r M2 => Wp (d + 1) 126 148 L (r.toList ++ [.int c]) M2 Q))) ∧
    (∀ (d : Nat) (a : Int32) (b : Int32) (L : List Value) (M : Mem) (Q : Option Value → Mem → Prop), Wp d 126 148 L [.int a, .int b] M Q ↔ Wp d 126 149 L [.int (b ||| a)] M Q) ∧
    (∀ (d : Nat) (a : Int32) (L : List Value) (M : Mem) (Q : Option Value → Mem → Prop), Wp d 126 149 L [.int a] M Q ↔ Q (some (.int a)) M) ∧
    (∀ (d : Nat) (x : Nat) (L : List Value) (M : Mem) (Q : Option Value → Mem → Prop), Wp d 126 150 (.ref x :: L) [] M Q ↔ Wp d 126 151 (.ref x :: L) [.ref x] M Q) ∧
    (∀ (d : Nat) (a : Nat) (L : List Value) (M : Mem) (Q : Option Value → Mem → Prop), Wp (d + 1) 126 151 L [.ref a] M Q ↔ (isK a 12 = true ∧ Wp d 128 0 [.ref a, .null, .null, .null, .null, .null] [] M (fun r M2 => Wp (d + 1) 126 154 L (r.toList ++ []) M2 Q))) ∧
    (∀ (d : Nat) (a : Int32) (L : List Value) (M : Mem) (Q : Option Value → Mem → Prop), Wp d 126 154 L [.int a] M Q ↔ Q (some (.int a)) M) ∧
    (∀ (d : Nat) (x : Nat) (L : List Value) (M : Mem) (Q : Option Value → Mem → Prop), Wp d 126 155 (.ref x :: L) [] M Q ↔ Wp d 126 156 (.ref x :: L) [.ref x] M Q) ∧
    (∀ (d : Nat) (a : Nat) (L : List Value) (M : Mem) (Q : Option Value → Mem → Prop), Wp (d + 1) 126 156 L [.ref a] M Q ↔ (isK a 12 = true ∧ Wp d 130 0 [.ref a, .null, .null, .null] [] M (fun r M2 => Wp (d + 1) 126 159 L (r.toList ++ []) M2 Q))) ∧
    (∀ (d : Nat) (a : Int32) (L : List Value) (M : Mem) (Q : Option Value → Mem → Prop), Wp d 126 159 L [.int a] M Q ↔ Q (some (.int a)) M) ∧
    (∀ (d : Nat) (x : Nat) (L : List Value) (M : Mem) (Q : Option Value → Mem → Prop), Wp d 126 160 (.ref x :: L) [] M Q ↔ Wp d 126 161 (.ref x :: L) [.ref x] M Q) ∧
    (∀ (d : Nat) (a : Nat) (L : List Value) (M : Mem) (Q : Option Value → Mem → Prop), Wp d 126 161 L [.ref a] M Q ↔ (isK a 12 = true ∧ Wp d 126 164 L [.ref (rt a 2)] M Q)) ∧
    (∀ (d : Nat) (a : Nat) (L : List Value) (M : Mem) (Q : Option Value → Mem → Prop), Wp d 126 164 L [.ref a] M Q ↔ Wp d 126 166 L [.int 49, .ref a] M Q) ∧
    (∀ (d : Nat) (a : Int32) (b : Nat) (L : List Value) (M : Mem) (Q : Option Value → Mem → Prop), Wp d 126 166 L [.int a, .ref b] M Q ↔ ((isR b = true ∧ inr a (lnm M b)) ∧ Wp d 126 167 L [.int (M b a.toNatClampNeg)] M Q)) ∧
    (∀ (d : Nat) (a : Int32) (L : List Value) (M : Mem) (Q : Option Value → Mem → Prop), Wp d 126 167 L [.int a] M Q ↔ Q (some (.int a)) M) ∧
    (∀ (d : Nat) (x : Nat) (L : List Value) (M : Mem) (Q : Option Value → Mem → Prop), Wp d 126 168 (.ref x :: L) [] M Q ↔ Wp d 126 169 (.ref x :: L) [.ref x] M Q) ∧
    (∀ (d : Nat) (a : Nat) (L : List Value) (M : Mem) (Q : Option Value → Mem → Prop), Wp d 126 169 L [.ref a] M Q ↔ (isK a 12 = true ∧ Wp d 126 172 L [.ref (rt a 2)] M Q)) ∧
    (∀ (d : Nat) (a : Nat) (L : List Value) (M : Mem) (Q : Option Value → Mem → Prop), Wp d 126 172 L [.ref a] M Q ↔ Wp d 126 174 L [.int 50, .ref a] M Q) ∧
    (∀ (d : Nat) (a : Int32) (b : Nat) (L : List Value) (M : Mem) (Q : Option Value → Mem → Prop), Wp d 126 174 L [.int a, .ref b] M Q ↔ ((isR b = true ∧ inr a (lnm M b)) ∧ Wp d 126 175 L [.int (M b a.toNatClampNeg)] M Q)) ∧
    (∀ (d : Nat) (a : Int32) (L : List Value) (M : Mem) (Q : Option Value → Mem → Prop), Wp d 126 175 L [.int a] M Q ↔ Q (some (.int a)) M) ∧
    (∀ (d : Nat) (x : Nat) (L : List Value) (M : Mem) (Q : Option Value → Mem → Prop), Wp d 126 176 (.ref x :: L) [] M Q ↔ Wp d 126 177 (.ref x :: L) [.ref x] M Q) ∧
    (∀ (d : Nat) (a : Nat) (L : List Value) (M : Mem) (Q : Option Value → Mem → Prop), Wp (d + 1) 126 177 L [.ref a] M Q ↔ (isK a 12 = true ∧ Wp d 135 0 [.ref a, .null, .null, .null, .null, .null] [] M (fun r M2 => Wp (d + 1) 126 180 L (r.toList ++ []) M2 Q))) ∧
    (∀ (d : Nat) (a : Int32) (L : List Value) (M : Mem) (Q : Option Value → Mem → Prop), Wp d 126 180 L [.int a] M Q ↔ Q (some (.int a)) M) ∧
    (∀ (d : Nat) (x : Nat) (L : List Value) (M : Mem) (Q : Option Value → Mem → Prop), Wp d 126 181 (.ref x :: L) [] M Q ↔ Wp d 126 182 (.ref x :: L) [.ref x] M Q) ∧
    (∀ (d : Nat) (a : Nat) (L : List Value) (M : Mem) (Q : Option Value → Mem → Prop), Wp (d + 1) 126 182 L [.ref a] M Q ↔ (isK a 12 = true ∧ Wp d 136 0 [.ref a, .null, .null, .null] [] M (fun r M2 => Wp (d + 1) 126 185 L (r.toList ++ []) M2 Q))) ∧
    (∀ (d : Nat) (a : Int32) (L : List Value) (M : Mem) (Q : Option Value → Mem → Prop), Wp d 126 185 L [.int a] M Q ↔ Q (some (.int a)) M) ∧
    (∀ (d : Nat) (x : Nat) (L : List Value) (M : Mem) (Q : Option Value → Mem → Prop), Wp d 126 186 (.ref x :: L) [] M Q ↔ Wp d 126 187 (.ref x :: L) [.ref x] M Q) ∧
    (∀ (d : Nat) (a : Nat) (L : List Value) (M : Mem) (Q : Option Value → Mem → Prop), Wp d 126 187 L [.ref a] M Q ↔ (isK a 12 = true ∧ Wp d 126 190 L [.int (M a 13)] M Q)) ∧
    (∀ (d : Nat) (a : Int32) (L : List Value) (M : Mem) (Q : Option Value → Mem → Prop), Wp d 126 190 L [.int a] M Q ↔ Q (some (.int a)) M) := by
  refine ⟨?_, ?_, ?_, ?_, ?_, ?_, ?_, ?_, ?_, ?_, ?_, ?_, ?_, ?_, ?_, ?_, ?_, ?_, ?_, ?_, ?_, ?_, ?_, ?_, ?_, ?_, ?_, ?_, ?_, ?_, ?_, ?_, ?_, ?_, ?_, ?_, ?_, ?_, ?_, ?_, ?_, ?_, ?_, ?_, ?_, ?_, ?_, ?_, ?_, ?_, ?_, ?_, ?_, ?_, ?_, ?_, ?_, ?_, ?_, ?_⟩
  · intro d v0 x L M Q; exact Wp_sim (by decide +kernel : decode (cd 126) 0 = .ok (.iload_n 1, 1)) rfl rfl
  · intro d a L M Q
    by_cases h0 : a = 0
    · subst h0; rw [if_pos rfl]; exact q_tsw (by decide +kernel : decode (cd 126) 1 = .ok (.tableswitch 200 0 20 #[99, 99, 99, 99, 99, 99, 106, 111, 119, 125, 131, 137, 149, 154, 159, 167, 175, 180, 185, 190, 195], 99)) (by decide) (by decide +kernel)
    rw [if_neg h0]
    by_cases h1 : a = 1
    · subst h1; rw [if_pos rfl]; exact q_tsw (by decide +kernel : decode (cd 126) 1 = .ok (.tableswitch 200 0 20 #[99, 99, 99, 99, 99, 99, 106, 111, 119, 125, 131, 137, 149, 154, 159, 167, 175, 180, 185, 190, 195], 99)) (by decide) (by decide +kernel)
    rw [if_neg h1]
    by_cases h2 : a = 2
    · subst h2; rw [if_pos rfl]; exact q_tsw (by decide +kernel : decode (cd 126) 1 = .ok (.tableswitch 200 0 20 #[99, 99, 99, 99, 99, 99, 106, 111, 119, 125, 131, 137, 149, 154, 159, 167, 175, 180, 185, 190, 195], 99)) (by decide) (by decide +kernel)
    rw [if_neg h2]
    by_cases h3 : a = 3
    · subst h3; rw [if_pos rfl]; exact q_tsw (by decide +kernel : decode (cd 126) 1 = .ok (.tableswitch 200 0 20 #[99, 99, 99, 99, 99, 99, 106, 111, 119, 125, 131, 137, 149, 154, 159, 167, 175, 180, 185, 190, 195], 99)) (by decide) (by decide +kernel)
    rw [if_neg h3]
    by_cases h4 : a = 4
    · subst h4; rw [if_pos rfl]; exact q_tsw (by decide +kernel : decode (cd 126) 1 = .ok (.tableswitch 200 0 20 #[99, 99, 99, 99, 99, 99, 106, 111, 119, 125, 131, 137, 149, 154, 159, 167, 175, 180, 185, 190, 195], 99)) (by decide) (by decide +kernel)
    rw [if_neg h4]
    by_cases h5 : a = 5
    · subst h5; rw [if_pos rfl]; exact q_tsw (by decide +kernel : decode (cd 126) 1 = .ok (.tableswitch 200 0 20 #[99, 99, 99, 99, 99, 99, 106, 111, 119, 125, 131, 137, 149, 154, 159, 167, 175, 180, 185, 190, 195], 99)) (by decide) (by decide +kernel)
    rw [if_neg h5]
    by_cases h6 : a = 6
    · subst h6; rw [if_pos rfl]; exact q_tsw (by decide +kernel : decode (cd 126) 1 = .ok (.tableswitch 200 0 20 #[99, 99, 99, 99, 99, 99, 106, 111, 119, 125, 131, 137, 149, 154, 159, 167, 175, 180, 185, 190, 195], 99)) (by decide) (by decide +kernel)
    rw [if_neg h6]
    by_cases h7 : a = 7
    · subst h7; rw [if_pos rfl]; exact q_tsw (by decide +kernel : decode (cd 126) 1 = .ok (.tableswitch 200 0 20 #[99, 99, 99, 99, 99, 99, 106, 111, 119, 125, 131, 137, 149, 154, 159, 167, 175, 180, 185, 190, 195], 99)) (by decide) (by decide +kernel)
    rw [if_neg h7]
    by_cases h8 : a = 8
    · subst h8; rw [if_pos rfl]; exact q_tsw (by decide +kernel : decode (cd 126) 1 = .ok (.tableswitch 200 0 20 #[99, 99, 99, 99, 99, 99, 106, 111, 119, 125, 131, 137, 149, 154, 159, 167, 175, 180, 185, 190, 195], 99)) (by decide) (by decide +kernel)
    rw [if_neg h8]
    by_cases h9 : a = 9
    · subst h9; rw [if_pos rfl]; exact q_tsw (by decide +kernel : decode (cd 126) 1 = .ok (.tableswitch 200 0 20 #[99, 99, 99, 99, 99, 99, 106, 111, 119, 125, 131, 137, 149, 154, 159, 167, 175, 180, 185, 190, 195], 99)) (by decide) (by decide +kernel)
    rw [if_neg h9]
    by_cases h10 : a = 10
    · subst h10; rw [if_pos rfl]; exact q_tsw (by decide +kernel : decode (cd 126) 1 = .ok (.tableswitch 200 0 20 #[99, 99, 99, 99, 99, 99, 106, 111, 119, 125, 131, 137, 149, 154, 159, 167, 175, 180, 185, 190, 195], 99)) (by decide) (by decide +kernel)
    rw [if_neg h10]
    by_cases h11 : a = 11
    · subst h11; rw [if_pos rfl]; exact q_tsw (by decide +kernel : decode (cd 126) 1 = .ok (.tableswitch 200 0 20 #[99, 99, 99, 99, 99, 99, 106, 111, 119, 125, 131, 137, 149, 154, 159, 167, 175, 180, 185, 190, 195], 99)) (by decide) (by decide +kernel)
    rw [if_neg h11]
    by_cases h12 : a = 12
    · subst h12; rw [if_pos rfl]; exact q_tsw (by decide +kernel : decode (cd 126) 1 = .ok (.tableswitch 200 0 20 #[99, 99, 99, 99, 99, 99, 106, 111, 119, 125, 131, 137, 149, 154, 159, 167, 175, 180, 185, 190, 195], 99)) (by decide) (by decide +kernel)
    rw [if_neg h12]
    by_cases h13 : a = 13
    · subst h13; rw [if_pos rfl]; exact q_tsw (by decide +kernel : decode (cd 126) 1 = .ok (.tableswitch 200 0 20 #[99, 99, 99, 99, 99, 99, 106, 111, 119, 125, 131, 137, 149, 154, 159, 167, 175, 180, 185, 190, 195], 99)) (by decide) (by decide +kernel)
    rw [if_neg h13]
    by_cases h14 : a = 14
    · subst h14; rw [if_pos rfl]; exact q_tsw (by decide +kernel : decode (cd 126) 1 = .ok (.tableswitch 200 0 20 #[99, 99, 99, 99, 99, 99, 106, 111, 119, 125, 131, 137, 149, 154, 159, 167, 175, 180, 185, 190, 195], 99)) (by decide) (by decide +kernel)
    rw [if_neg h14]
    by_cases h15 : a = 15
    · subst h15; rw [if_pos rfl]; exact q_tsw (by decide +kernel : decode (cd 126) 1 = .ok (.tableswitch 200 0 20 #[99, 99, 99, 99, 99, 99, 106, 111, 119, 125, 131, 137, 149, 154, 159, 167, 175, 180, 185, 190, 195], 99)) (by decide) (by decide +kernel)
    rw [if_neg h15]
    by_cases h16 : a = 16
    · subst h16; rw [if_pos rfl]; exact q_tsw (by decide +kernel : decode (cd 126) 1 = .ok (.tableswitch 200 0 20 #[99, 99, 99, 99, 99, 99, 106, 111, 119, 125, 131, 137, 149, 154, 159, 167, 175, 180, 185, 190, 195], 99)) (by decide) (by decide +kernel)
    rw [if_neg h16]
    by_cases h17 : a = 17
    · subst h17; rw [if_pos rfl]; exact q_tsw (by decide +kernel : decode (cd 126) 1 = .ok (.tableswitch 200 0 20 #[99, 99, 99, 99, 99, 99, 106, 111, 119, 125, 131, 137, 149, 154, 159, 167, 175, 180, 185, 190, 195], 99)) (by decide) (by decide +kernel)
    rw [if_neg h17]
    by_cases h18 : a = 18
    · subst h18; rw [if_pos rfl]; exact q_tsw (by decide +kernel : decode (cd 126) 1 = .ok (.tableswitch 200 0 20 #[99, 99, 99, 99, 99, 99, 106, 111, 119, 125, 131, 137, 149, 154, 159, 167, 175, 180, 185, 190, 195], 99)) (by decide) (by decide +kernel)
    rw [if_neg h18]
    by_cases h19 : a = 19
    · subst h19; rw [if_pos rfl]; exact q_tsw (by decide +kernel : decode (cd 126) 1 = .ok (.tableswitch 200 0 20 #[99, 99, 99, 99, 99, 99, 106, 111, 119, 125, 131, 137, 149, 154, 159, 167, 175, 180, 185, 190, 195], 99)) (by decide) (by decide +kernel)
    rw [if_neg h19]
    by_cases h20 : a = 20
    · subst h20; rw [if_pos rfl]; exact q_tsw (by decide +kernel : decode (cd 126) 1 = .ok (.tableswitch 200 0 20 #[99, 99, 99, 99, 99, 99, 106, 111, 119, 125, 131, 137, 149, 154, 159, 167, 175, 180, 185, 190, 195], 99)) (by decide) (by decide +kernel)
    rw [if_neg h20]
    refine q_tsw (by decide +kernel : decode (cd 126) 1 = .ok (.tableswitch 200 0 20 #[99, 99, 99, 99, 99, 99, 106, 111, 119, 125, 131, 137, 149, 154, 159, 167, 175, 180, 185, 190, 195], 99)) (by decide) ?_
    rw [tsw_out ?_]
    · decide
    have g0 := lv_neT h0 (a := 0) (by decide)
    have g1 := lv_neT h1 (a := 1) (by decide)
    have g2 := lv_neT h2 (a := 2) (by decide)
    have g3 := lv_neT h3 (a := 3) (by decide)
    have g4 := lv_neT h4 (a := 4) (by decide)
    have g5 := lv_neT h5 (a := 5) (by decide)
    have g6 := lv_neT h6 (a := 6) (by decide)
    have g7 := lv_neT h7 (a := 7) (by decide)
    have g8 := lv_neT h8 (a := 8) (by decide)
    have g9 := lv_neT h9 (a := 9) (by decide)
    have g10 := lv_neT h10 (a := 10) (by decide)
    have g11 := lv_neT h11 (a := 11) (by decide)
    have g12 := lv_neT h12 (a := 12) (by decide)
    have g13 := lv_neT h13 (a := 13) (by decide)
    have g14 := lv_neT h14 (a := 14) (by decide)
    have g15 := lv_neT h15 (a := 15) (by decide)
    have g16 := lv_neT h16 (a := 16) (by decide)
    have g17 := lv_neT h17 (a := 17) (by decide)
    have g18 := lv_neT h18 (a := 18) (by decide)
    have g19 := lv_neT h19 (a := 19) (by decide)
    have g20 := lv_neT h20 (a := 20) (by decide)
    omega
  · intro d x L M Q; exact Wp_sim (by decide +kernel : decode (cd 126) 100 = .ok (.aload_n 0, 1)) rfl rfl
  · intro d a L M Q; exact q_getR (p := 843) (by decide +kernel : decode (cd 126) 101 = .ok (.getfield 7, 3)) (by decide +kernel) (by decide +kernel)
  · intro d a v0 x L M Q; exact Wp_sim (by decide +kernel : decode (cd 126) 104 = .ok (.iload_n 1, 1)) rfl rfl
  · intro d a b L M Q; exact q_ald (by decide +kernel : decode (cd 126) 105 = .ok (.iaload , 1))
  · intro d a L M Q; exact q_iret (by decide +kernel : decode (cd 126) 106 = .ok (.ireturn , 1)) (by decide +kernel)
  · intro d x L M Q; exact Wp_sim (by decide +kernel : decode (cd 126) 107 = .ok (.aload_n 0, 1)) rfl rfl
  · intro d a L M Q; exact q_getI (p := 853) (by decide +kernel : decode (cd 126) 108 = .ok (.getfield 80, 3)) (by decide +kernel) (by decide +kernel)
  · intro d a L M Q; exact q_iret (by decide +kernel : decode (cd 126) 111 = .ok (.ireturn , 1)) (by decide +kernel)
  · intro d x L M Q; exact Wp_sim (by decide +kernel : decode (cd 126) 112 = .ok (.aload_n 0, 1)) rfl rfl
  · intro d a L M Q; exact q_getR (p := 845) (by decide +kernel : decode (cd 126) 113 = .ok (.getfield 16, 3)) (by decide +kernel) (by decide +kernel)
  · intro d a L M Q; exact Wp_sim (by decide +kernel : decode (cd 126) 116 = .ok (.bipush 48, 2)) rfl rfl
  · intro d a b L M Q; exact q_ald (by decide +kernel : decode (cd 126) 118 = .ok (.iaload , 1))
  · intro d a L M Q; exact q_iret (by decide +kernel : decode (cd 126) 119 = .ok (.ireturn , 1)) (by decide +kernel)
  · intro d x L M Q; exact Wp_sim (by decide +kernel : decode (cd 126) 120 = .ok (.aload_n 0, 1)) rfl rfl
  · intro d a L M Q; exact Wp_sim (by decide +kernel : decode (cd 126) 121 = .ok (.iconst 1, 1)) rfl rfl
  · intro d a b L M Q; exact q_invV (pz := 999) (n := 1) (c := 12) (m := 4) (k := b) (As := [.int a]) (rest := []) (by decide +kernel : decode (cd 126) 122 = .ok (.invokevirtual 150, 3)) (by decide +kernel) (by decide +kernel) rfl rfl (Nat.le_of_ble_eq_true rfl) (Nat.le_of_ble_eq_true rfl) rfl
  · intro d a L M Q; exact q_iret (by decide +kernel : decode (cd 126) 125 = .ok (.ireturn , 1)) (by decide +kernel)
  · intro d x L M Q; exact Wp_sim (by decide +kernel : decode (cd 126) 126 = .ok (.aload_n 0, 1)) rfl rfl
  · intro d a L M Q; exact Wp_sim (by decide +kernel : decode (cd 126) 127 = .ok (.iconst 0, 1)) rfl rfl
  · intro d a b L M Q; exact q_invV (pz := 999) (n := 1) (c := 12) (m := 4) (k := b) (As := [.int a]) (rest := []) (by decide +kernel : decode (cd 126) 128 = .ok (.invokevirtual 150, 3)) (by decide +kernel) (by decide +kernel) rfl rfl (Nat.le_of_ble_eq_true rfl) (Nat.le_of_ble_eq_true rfl) rfl
  · intro d a L M Q; exact q_iret (by decide +kernel : decode (cd 126) 131 = .ok (.ireturn , 1)) (by decide +kernel)
  · intro d x L M Q; exact Wp_sim (by decide +kernel : decode (cd 126) 132 = .ok (.aload_n 0, 1)) rfl rfl
  · intro d a L M Q; exact Wp_sim (by decide +kernel : decode (cd 126) 133 = .ok (.iconst 3, 1)) rfl rfl
  · intro d a b L M Q; exact q_invV (pz := 999) (n := 1) (c := 12) (m := 4) (k := b) (As := [.int a]) (rest := []) (by decide +kernel : decode (cd 126) 134 = .ok (.invokevirtual 150, 3)) (by decide +kernel) (by decide +kernel) rfl rfl (Nat.le_of_ble_eq_true rfl) (Nat.le_of_ble_eq_true rfl) rfl
  · intro d a L M Q; exact q_iret (by decide +kernel : decode (cd 126) 137 = .ok (.ireturn , 1)) (by decide +kernel)
  · intro d x L M Q; exact Wp_sim (by decide +kernel : decode (cd 126) 138 = .ok (.aload_n 0, 1)) rfl rfl
  · intro d a L M Q; exact Wp_sim (by decide +kernel : decode (cd 126) 139 = .ok (.iconst 2, 1)) rfl rfl
  · intro d a b L M Q; exact q_invV (pz := 999) (n := 1) (c := 12) (m := 4) (k := b) (As := [.int a]) (rest := []) (by decide +kernel : decode (cd 126) 140 = .ok (.invokevirtual 150, 3)) (by decide +kernel) (by decide +kernel) rfl rfl (Nat.le_of_ble_eq_true rfl) (Nat.le_of_ble_eq_true rfl) rfl
  · intro d a x L M Q; exact Wp_sim (by decide +kernel : decode (cd 126) 143 = .ok (.aload_n 0, 1)) rfl rfl
  · intro d a b L M Q; exact Wp_sim (by decide +kernel : decode (cd 126) 144 = .ok (.iconst 4, 1)) rfl rfl
  · intro d a b c L M Q; exact q_invV (pz := 999) (n := 1) (c := 12) (m := 4) (k := b) (As := [.int a]) (rest := [.int c]) (by decide +kernel : decode (cd 126) 145 = .ok (.invokevirtual 150, 3)) (by decide +kernel) (by decide +kernel) rfl rfl (Nat.le_of_ble_eq_true rfl) (Nat.le_of_ble_eq_true rfl) rfl
  · intro d a b L M Q; exact Wp_sim (by decide +kernel : decode (cd 126) 148 = .ok (.ior , 1)) rfl rfl
  · intro d a L M Q; exact q_iret (by decide +kernel : decode (cd 126) 149 = .ok (.ireturn , 1)) (by decide +kernel)
  · intro d x L M Q; exact Wp_sim (by decide +kernel : decode (cd 126) 150 = .ok (.aload_n 0, 1)) rfl rfl
  · intro d a L M Q; exact q_invV (pz := 1003) (n := 0) (c := 12) (m := 6) (k := a) (As := []) (rest := []) (by decide +kernel : decode (cd 126) 151 = .ok (.invokevirtual 168, 3)) (by decide +kernel) (by decide +kernel) rfl rfl (Nat.le_of_ble_eq_true rfl) (Nat.le_of_ble_eq_true rfl) rfl
  · intro d a L M Q; exact q_iret (by decide +kernel : decode (cd 126) 154 = .ok (.ireturn , 1)) (by decide +kernel)
  · intro d x L M Q; exact Wp_sim (by decide +kernel : decode (cd 126) 155 = .ok (.aload_n 0, 1)) rfl rfl
  · intro d a L M Q; exact q_invV (pz := 1010) (n := 0) (c := 12) (m := 4) (k := a) (As := []) (rest := []) (by decide +kernel : decode (cd 126) 156 = .ok (.invokevirtual 171, 3)) (by decide +kernel) (by decide +kernel) rfl rfl (Nat.le_of_ble_eq_true rfl) (Nat.le_of_ble_eq_true rfl) rfl
  · intro d a L M Q; exact q_iret (by decide +kernel : decode (cd 126) 159 = .ok (.ireturn , 1)) (by decide +kernel)
  · intro d x L M Q; exact Wp_sim (by decide +kernel : decode (cd 126) 160 = .ok (.aload_n 0, 1)) rfl rfl
  · intro d a L M Q; exact q_getR (p := 845) (by decide +kernel : decode (cd 126) 161 = .ok (.getfield 16, 3)) (by decide +kernel) (by decide +kernel)
  · intro d a L M Q; exact Wp_sim (by decide +kernel : decode (cd 126) 164 = .ok (.bipush 49, 2)) rfl rfl
  · intro d a b L M Q; exact q_ald (by decide +kernel : decode (cd 126) 166 = .ok (.iaload , 1))
  · intro d a L M Q; exact q_iret (by decide +kernel : decode (cd 126) 167 = .ok (.ireturn , 1)) (by decide +kernel)
  · intro d x L M Q; exact Wp_sim (by decide +kernel : decode (cd 126) 168 = .ok (.aload_n 0, 1)) rfl rfl
  · intro d a L M Q; exact q_getR (p := 845) (by decide +kernel : decode (cd 126) 169 = .ok (.getfield 16, 3)) (by decide +kernel) (by decide +kernel)
  · intro d a L M Q; exact Wp_sim (by decide +kernel : decode (cd 126) 172 = .ok (.bipush 50, 2)) rfl rfl
  · intro d a b L M Q; exact q_ald (by decide +kernel : decode (cd 126) 174 = .ok (.iaload , 1))
  · intro d a L M Q; exact q_iret (by decide +kernel : decode (cd 126) 175 = .ok (.ireturn , 1)) (by decide +kernel)
  · intro d x L M Q; exact Wp_sim (by decide +kernel : decode (cd 126) 176 = .ok (.aload_n 0, 1)) rfl rfl
  · intro d a L M Q; exact q_invV (pz := 1027) (n := 0) (c := 12) (m := 6) (k := a) (As := []) (rest := []) (by decide +kernel : decode (cd 126) 177 = .ok (.invokevirtual 174, 3)) (by decide +kernel) (by decide +kernel) rfl rfl (Nat.le_of_ble_eq_true rfl) (Nat.le_of_ble_eq_true rfl) rfl
  · intro d a L M Q; exact q_iret (by decide +kernel : decode (cd 126) 180 = .ok (.ireturn , 1)) (by decide +kernel)
  · intro d x L M Q; exact Wp_sim (by decide +kernel : decode (cd 126) 181 = .ok (.aload_n 0, 1)) rfl rfl
  · intro d a L M Q; exact q_invV (pz := 1031) (n := 0) (c := 12) (m := 4) (k := a) (As := []) (rest := []) (by decide +kernel : decode (cd 126) 182 = .ok (.invokevirtual 177, 3)) (by decide +kernel) (by decide +kernel) rfl rfl (Nat.le_of_ble_eq_true rfl) (Nat.le_of_ble_eq_true rfl) rfl
  · intro d a L M Q; exact q_iret (by decide +kernel : decode (cd 126) 185 = .ok (.ireturn , 1)) (by decide +kernel)
  · intro d x L M Q; exact Wp_sim (by decide +kernel : decode (cd 126) 186 = .ok (.aload_n 0, 1)) rfl rfl
  · intro d a L M Q; exact q_getI (p := 856) (by decide +kernel : decode (cd 126) 187 = .ok (.getfield 67, 3)) (by decide +kernel) (by decide +kernel)
  · intro d a L M Q; exact q_iret (by decide +kernel : decode (cd 126) 190 = .ok (.ireturn , 1)) (by decide +kernel)
set_option maxRecDepth 10000 in
theorem e126_1 : (∀ (d : Nat) (x : Nat) (L : List Value) (M : Mem) (Q : Option Value → Mem → Prop), Wp d 126 191 (.ref x :: L) [] M Q ↔ Wp d 126 192 (.ref x :: L) [.ref x] M Q) ∧
    (∀ (d : Nat) (a : Nat) (L : List Value) (M : Mem) (Q : Option Value → Mem → Prop), Wp d 126 192 L [.ref a] M Q ↔ (isK a 12 = true ∧ Wp d 126 195 L [.int (M a 15)] M Q)) ∧
    (∀ (d : Nat) (a : Int32) (L : List Value) (M : Mem) (Q : Option Value → Mem → Prop), Wp d 126 195 L [.int a] M Q ↔ Q (some (.int a)) M) ∧
    (∀ (d : Nat) (x : Nat) (L : List Value) (M : Mem) (Q : Option Value → Mem → Prop), Wp d 126 196 (.ref x :: L) [] M Q ↔ Wp d 126 197 (.ref x :: L) [.ref x] M Q) ∧
    (∀ (d : Nat) (a : Nat) (L : List Value) (M : Mem) (Q : Option Value → Mem → Prop), Wp d 126 197 L [.ref a] M Q ↔ (isK a 12 = true ∧ Wp d 126 200 L [.int (M a 5)] M Q)) ∧
    (∀ (d : Nat) (a : Int32) (L : List Value) (M : Mem) (Q : Option Value → Mem → Prop), Wp d 126 200 L [.int a] M Q ↔ Q (some (.int a)) M) ∧
    (∀ (d : Nat) (L : List Value) (M : Mem) (Q : Option Value → Mem → Prop), Wp d 126 201 L [] M Q ↔ Wp d 126 203 L [.int (-1000000002)] M Q) ∧
    (∀ (d : Nat) (a : Int32) (L : List Value) (M : Mem) (Q : Option Value → Mem → Prop), Wp d 126 203 L [.int a] M Q ↔ Q (some (.int a)) M) := by
  refine ⟨?_, ?_, ?_, ?_, ?_, ?_, ?_, ?_⟩
  · intro d x L M Q; exact Wp_sim (by decide +kernel : decode (cd 126) 191 = .ok (.aload_n 0, 1)) rfl rfl
  · intro d a L M Q; exact q_getI (p := 858) (by decide +kernel : decode (cd 126) 192 = .ok (.getfield 70, 3)) (by decide +kernel) (by decide +kernel)
  · intro d a L M Q; exact q_iret (by decide +kernel : decode (cd 126) 195 = .ok (.ireturn , 1)) (by decide +kernel)
  · intro d x L M Q; exact Wp_sim (by decide +kernel : decode (cd 126) 196 = .ok (.aload_n 0, 1)) rfl rfl
  · intro d a L M Q; exact q_getI (p := 848) (by decide +kernel : decode (cd 126) 197 = .ok (.getfield 64, 3)) (by decide +kernel) (by decide +kernel)
  · intro d a L M Q; exact q_iret (by decide +kernel : decode (cd 126) 200 = .ok (.ireturn , 1)) (by decide +kernel)
  · intro d L M Q; exact q_ldc (p := 940) (by decide +kernel : decode (cd 126) 201 = .ok (.ldc 79, 2)) (by decide +kernel)
  · intro d a L M Q; exact q_iret (by decide +kernel : decode (cd 126) 203 = .ok (.ireturn , 1)) (by decide +kernel)

/- 127: PalaceYardModel.whoAre -/
set_option maxRecDepth 10000 in
theorem e127 : (∀ (d : Nat) (L : List Value) (M : Mem) (Q : Option Value → Mem → Prop), Wp d 127 0 L [] M Q ↔ Wp d 127 1 L [.int 0] M Q) ∧
    (∀ (d : Nat) (a : Int32) (v0 : Value) (v1 : Value) (x : Value) (L : List Value) (M : Mem) (Q : Option Value → Mem → Prop), Wp d 127 1 (v0 :: v1 :: x :: L) [.int a] M Q ↔ Wp d 127 2 (v0 :: clr v1 :: .int a :: L) [] M Q) ∧
    (∀ (d : Nat) (L : List Value) (M : Mem) (Q : Option Value → Mem → Prop), Wp d 127 2 L [] M Q ↔ Wp d 127 3 L [.int 0] M Q) ∧
    (∀ (d : Nat) (a : Int32) (v0 : Value) (v1 : Value) (v2 : Value) (x : Value) (L : List Value) (M : Mem) (Q : Option Value → Mem → Prop), Wp d 127 3 (v0 :: v1 :: v2 :: x :: L) [.int a] M Q ↔ Wp d 127 4 (v0 :: v1 :: clr v2 :: .int a :: L) [] M Q) ∧
    (∀ (d : Nat) (a : Int32) (x : Nat) (L : List Value) (M : Mem) (Q : Option Value → Mem → Prop), Wp d 127 5 (.ref x :: L) [.int a] M Q ↔ Wp d 127 6 (.ref x :: L) [.ref x, .int a] M Q) ∧
    (∀ (d : Nat) (a : Nat) (b : Int32) (L : List Value) (M : Mem) (Q : Option Value → Mem → Prop), Wp d 127 6 L [.ref a, .int b] M Q ↔ (isK a 12 = true ∧ Wp d 127 9 L [.ref (rt a 0), .int b] M Q)) ∧
    (∀ (d : Nat) (a : Nat) (b : Int32) (L : List Value) (M : Mem) (Q : Option Value → Mem → Prop), Wp d 127 9 L [.ref a, .int b] M Q ↔ Wp d 127 10 L [.int 4, .ref a, .int b] M Q) ∧
    (∀ (d : Nat) (a : Int32) (b : Nat) (c : Int32) (L : List Value) (M : Mem) (Q : Option Value → Mem → Prop), Wp d 127 10 L [.int a, .ref b, .int c] M Q ↔ ((isR b = true ∧ inr a (lnm M b)) ∧ Wp d 127 11 L [.int (M b a.toNatClampNeg), .int c] M Q)) ∧
    (∀ (d : Nat) (a : Int32) (b : Int32) (L : List Value) (M : Mem) (Q : Option Value → Mem → Prop), Wp d 127 11 L [.int a, .int b] M Q ↔ (if b < a then Wp d 127 14 L [] M Q else Wp d 127 42 L [] M Q)) ∧
    (∀ (d : Nat) (v0 : Value) (v1 : Value) (x : Int32) (L : List Value) (M : Mem) (Q : Option Value → Mem → Prop), Wp d 127 14 (v0 :: v1 :: .int x :: L) [] M Q ↔ Wp d 127 15 (v0 :: v1 :: .int x :: L) [.int x] M Q) ∧
    (∀ (d : Nat) (a : Int32) (x : Nat) (L : List Value) (M : Mem) (Q : Option Value → Mem → Prop), Wp d 127 15 (.ref x :: L) [.int a] M Q ↔ Wp d 127 16 (.ref x :: L) [.ref x, .int a] M Q) ∧
    (∀ (d : Nat) (a : Nat) (b : Int32) (L : List Value) (M : Mem) (Q : Option Value → Mem → Prop), Wp d 127 16 L [.ref a, .int b] M Q ↔ (isK a 12 = true ∧ Wp d 127 19 L [.ref (rt a 2), .int b] M Q)) ∧
    (∀ (d : Nat) (a : Nat) (b : Int32) (L : List Value) (M : Mem) (Q : Option Value → Mem → Prop), Wp d 127 19 L [.ref a, .int b] M Q ↔ Wp d 127 20 L [.int 0, .ref a, .int b] M Q) ∧
    (∀ (d : Nat) (a : Int32) (b : Nat) (c : Int32) (v0 : Value) (v1 : Value) (v2 : Value) (x : Int32) (L : List Value) (M : Mem) (Q : Option Value → Mem → Prop), Wp d 127 20 (v0 :: v1 :: v2 :: .int x :: L) [.int a, .ref b, .int c] M Q ↔ Wp d 127 21 (v0 :: v1 :: v2 :: .int x :: L) [.int x, .int a, .ref b, .int c] M Q) ∧
    (∀ (d : Nat) (a : Int32) (b : Int32) (c : Nat) (d2 : Int32) (L : List Value) (M : Mem) (Q : Option Value → Mem → Prop), Wp d 127 21 L [.int a, .int b, .ref c, .int d2] M Q ↔ Wp d 127 22 L [.int (b + a), .ref c, .int d2] M Q) ∧
    (∀ (d : Nat) (a : Int32) (b : Nat) (c : Int32) (L : List Value) (M : Mem) (Q : Option Value → Mem → Prop), Wp d 127 22 L [.int a, .ref b, .int c] M Q ↔ ((isR b = true ∧ inr a (lnm M b)) ∧ Wp d 127 23 L [.int (M b a.toNatClampNeg), .int c] M Q)) ∧
    (∀ (d : Nat) (a : Int32) (b : Int32) (v0 : Value) (x : Int32) (L : List Value) (M : Mem) (Q : Option Value → Mem → Prop), Wp d 127 23 (v0 :: .int x :: L) [.int a, .int b] M Q ↔ Wp d 127 24 (v0 :: .int x :: L) [.int x, .int a, .int b] M Q) ∧
    (∀ (d : Nat) (a : Int32) (b : Int32) (c : Int32) (L : List Value) (M : Mem) (Q : Option Value → Mem → Prop), Wp d 127 24 L [.int a, .int b, .int c] M Q ↔ (if b = a then Wp d 127 27 L [.int c] M Q else Wp d 127 33 L [.int c] M Q)) ∧
    (∀ (d : Nat) (a : Int32) (L : List Value) (M : Mem) (Q : Option Value → Mem → Prop), Wp d 127 27 L [.int a] M Q ↔ Wp d 127 28 L [.int 1, .int a] M Q) ∧
    (∀ (d : Nat) (a : Int32) (b : Int32) (v0 : Value) (v1 : Value) (v2 : Value) (x : Int32) (L : List Value) (M : Mem) (Q : Option Value → Mem → Prop), Wp d 127 28 (v0 :: v1 :: v2 :: .int x :: L) [.int a, .int b] M Q ↔ Wp d 127 29 (v0 :: v1 :: v2 :: .int x :: L) [.int x, .int a, .int b] M Q) ∧
    (∀ (d : Nat) (a : Int32) (b : Int32) (c : Int32) (L : List Value) (M : Mem) (Q : Option Value → Mem → Prop), Wp d 127 29 L [.int a, .int b, .int c] M Q ↔ Wp d 127 30 L [.int (b <<< (a &&& 31)), .int c] M Q) ∧
    (∀ (d : Nat) (a : Int32) (b : Int32) (L : List Value) (M : Mem) (Q : Option Value → Mem → Prop), Wp d 127 30 L [.int a, .int b] M Q ↔ Wp d 127 34 L [.int a, .int b] M Q) ∧
    (∀ (d : Nat) (a : Int32) (L : List Value) (M : Mem) (Q : Option Value → Mem → Prop), Wp d 127 33 L [.int a] M Q ↔ Wp d 127 34 L [.int 0, .int a] M Q) ∧
    (∀ (d : Nat) (a : Int32) (b : Int32) (L : List Value) (M : Mem) (Q : Option Value → Mem → Prop), Wp d 127 34 L [.int a, .int b] M Q ↔ Wp d 127 35 L [.int (b ||| a)] M Q) ∧
    (∀ (d : Nat) (a : Int32) (v0 : Value) (v1 : Value) (x : Value) (L : List Value) (M : Mem) (Q : Option Value → Mem → Prop), Wp d 127 35 (v0 :: v1 :: x :: L) [.int a] M Q ↔ Wp d 127 36 (v0 :: clr v1 :: .int a :: L) [] M Q) ∧
    (∀ (d : Nat) (v0 : Value) (v1 : Value) (v2 : Value) (x : Int32) (L : List Value) (M : Mem) (Q : Option Value → Mem → Prop), Wp d 127 36 (v0 :: v1 :: v2 :: .int x :: L) [] M Q ↔ Wp d 127 39 (v0 :: v1 :: clr v2 :: .int (x + 1) :: L) [] M Q) ∧
    (∀ (d : Nat) (L : List Value) (M : Mem) (Q : Option Value → Mem → Prop), Wp d 127 39 L [] M Q ↔ Wp d 127 4 L [] M Q) ∧
    (∀ (d : Nat) (v0 : Value) (v1 : Value) (x : Int32) (L : List Value) (M : Mem) (Q : Option Value → Mem → Prop), Wp d 127 42 (v0 :: v1 :: .int x :: L) [] M Q ↔ Wp d 127 43 (v0 :: v1 :: .int x :: L) [.int x] M Q) ∧
    (∀ (d : Nat) (a : Int32) (L : List Value) (M : Mem) (Q : Option Value → Mem → Prop), Wp d 127 43 L [.int a] M Q ↔ Q (some (.int a)) M) := by
  refine ⟨?_, ?_, ?_, ?_, ?_, ?_, ?_, ?_, ?_, ?_, ?_, ?_, ?_, ?_, ?_, ?_, ?_, ?_, ?_, ?_, ?_, ?_, ?_, ?_, ?_, ?_, ?_, ?_, ?_⟩
  · intro d L M Q; exact Wp_sim (by decide +kernel : decode (cd 127) 0 = .ok (.iconst 0, 1)) rfl rfl
  · intro d a v0 v1 x L M Q; exact Wp_sim (by decide +kernel : decode (cd 127) 1 = .ok (.istore_n 2, 1)) rfl rfl
  · intro d L M Q; exact Wp_sim (by decide +kernel : decode (cd 127) 2 = .ok (.iconst 0, 1)) rfl rfl
  · intro d a v0 v1 v2 x L M Q; exact Wp_sim (by decide +kernel : decode (cd 127) 3 = .ok (.istore_n 3, 1)) rfl rfl
  · intro d a x L M Q; exact Wp_sim (by decide +kernel : decode (cd 127) 5 = .ok (.aload_n 0, 1)) rfl rfl
  · intro d a b L M Q; exact q_getR (p := 843) (by decide +kernel : decode (cd 127) 6 = .ok (.getfield 7, 3)) (by decide +kernel) (by decide +kernel)
  · intro d a b L M Q; exact Wp_sim (by decide +kernel : decode (cd 127) 9 = .ok (.iconst 4, 1)) rfl rfl
  · intro d a b c L M Q; exact q_ald (by decide +kernel : decode (cd 127) 10 = .ok (.iaload , 1))
  · intro d a b L M Q; exact q_ige (by decide +kernel : decode (cd 127) 11 = .ok (.if_icmp .ge 31, 3)) (by decide)
  · intro d v0 v1 x L M Q; exact Wp_sim (by decide +kernel : decode (cd 127) 14 = .ok (.iload_n 2, 1)) rfl rfl
  · intro d a x L M Q; exact Wp_sim (by decide +kernel : decode (cd 127) 15 = .ok (.aload_n 0, 1)) rfl rfl
  · intro d a b L M Q; exact q_getR (p := 845) (by decide +kernel : decode (cd 127) 16 = .ok (.getfield 16, 3)) (by decide +kernel) (by decide +kernel)
  · intro d a b L M Q; exact Wp_sim (by decide +kernel : decode (cd 127) 19 = .ok (.iconst 0, 1)) rfl rfl
  · intro d a b c v0 v1 v2 x L M Q; exact Wp_sim (by decide +kernel : decode (cd 127) 20 = .ok (.iload_n 3, 1)) rfl rfl
  · intro d a b c d2 L M Q; exact Wp_sim (by decide +kernel : decode (cd 127) 21 = .ok (.iadd , 1)) rfl rfl
  · intro d a b c L M Q; exact q_ald (by decide +kernel : decode (cd 127) 22 = .ok (.iaload , 1))
  · intro d a b v0 x L M Q; exact Wp_sim (by decide +kernel : decode (cd 127) 23 = .ok (.iload_n 1, 1)) rfl rfl
  · intro d a b c L M Q; exact q_ine (by decide +kernel : decode (cd 127) 24 = .ok (.if_icmp .ne 9, 3)) (by decide)
  · intro d a L M Q; exact Wp_sim (by decide +kernel : decode (cd 127) 27 = .ok (.iconst 1, 1)) rfl rfl
  · intro d a b v0 v1 v2 x L M Q; exact Wp_sim (by decide +kernel : decode (cd 127) 28 = .ok (.iload_n 3, 1)) rfl rfl
  · intro d a b c L M Q; exact Wp_sim (by decide +kernel : decode (cd 127) 29 = .ok (.ishl , 1)) rfl rfl
  · intro d a b L M Q; exact q_goto (by decide +kernel : decode (cd 127) 30 = .ok (.goto 4, 3)) (by decide)
  · intro d a L M Q; exact Wp_sim (by decide +kernel : decode (cd 127) 33 = .ok (.iconst 0, 1)) rfl rfl
  · intro d a b L M Q; exact Wp_sim (by decide +kernel : decode (cd 127) 34 = .ok (.ior , 1)) rfl rfl
  · intro d a v0 v1 x L M Q; exact Wp_sim (by decide +kernel : decode (cd 127) 35 = .ok (.istore_n 2, 1)) rfl rfl
  · intro d v0 v1 v2 x L M Q; exact Wp_sim (by decide +kernel : decode (cd 127) 36 = .ok (.iinc 3 1, 3)) rfl rfl
  · intro d L M Q; exact q_goto (by decide +kernel : decode (cd 127) 39 = .ok (.goto (-35), 3)) (by decide)
  · intro d v0 v1 x L M Q; exact Wp_sim (by decide +kernel : decode (cd 127) 42 = .ok (.iload_n 2, 1)) rfl rfl
  · intro d a L M Q; exact q_iret (by decide +kernel : decode (cd 127) 43 = .ok (.ireturn , 1)) (by decide +kernel)
theorem h127_4 : (∀ (d : Nat) (v0 : Value) (v1 : Value) (v2 : Value) (x : Int32) (L : List Value) (M : Mem) (Q : Option Value → Mem → Prop), Wp d 127 4 (v0 :: v1 :: v2 :: .int x :: L) [] M Q ↔ Wp d 127 5 (v0 :: v1 :: v2 :: .int x :: L) [.int x] M Q) := by
  intro d v0 v1 v2 x L M Q; exact Wp_sim (by decide +kernel : decode (cd 127) 4 = .ok (.iload_n 3, 1)) rfl rfl

/- 128: PalaceYardModel.taken -/
set_option maxRecDepth 10000 in
theorem e128_0 : (∀ (d : Nat) (x : Nat) (L : List Value) (M : Mem) (Q : Option Value → Mem → Prop), Wp d 128 0 (.ref x :: L) [] M Q ↔ Wp d 128 1 (.ref x :: L) [.ref x] M Q) ∧
    (∀ (d : Nat) (a : Nat) (L : List Value) (M : Mem) (Q : Option Value → Mem → Prop), Wp d 128 1 L [.ref a] M Q ↔ Wp d 128 2 L [.int 0, .ref a] M Q) ∧
    (∀ (d : Nat) (a : Int32) (b : Nat) (L : List Value) (M : Mem) (Q : Option Value → Mem → Prop), Wp (d + 1) 128 2 L [.int a, .ref b] M Q ↔ (isK b 12 = true ∧ Wp d 127 0 [.ref b, .int a, .null, .null] [] M (fun r M2 => Wp (d + 1) 128 5 L (r.toList ++ []) M2 Q))) ∧
    (∀ (d : Nat) (a : Int32) (v0 : Value) (x : Value) (L : List Value) (M : Mem) (Q : Option Value → Mem → Prop), Wp d 128 5 (v0 :: x :: L) [.int a] M Q ↔ Wp d 128 6 (clr v0 :: .int a :: L) [] M Q) ∧
    (∀ (d : Nat) (L : List Value) (M : Mem) (Q : Option Value → Mem → Prop), Wp d 128 6 L [] M Q ↔ Wp d 128 7 L [.int 0] M Q) ∧
    (∀ (d : Nat) (a : Int32) (v0 : Value) (v1 : Value) (x : Value) (L : List Value) (M : Mem) (Q : Option Value → Mem → Prop), Wp d 128 7 (v0 :: v1 :: x :: L) [.int a] M Q ↔ Wp d 128 8 (v0 :: clr v1 :: .int a :: L) [] M Q) ∧
    (∀ (d : Nat) (L : List Value) (M : Mem) (Q : Option Value → Mem → Prop), Wp d 128 8 L [] M Q ↔ Wp d 128 9 L [.int 0] M Q) ∧
    (∀ (d : Nat) (a : Int32) (v0 : Value) (v1 : Value) (v2 : Value) (x : Value) (L : List Value) (M : Mem) (Q : Option Value → Mem → Prop), Wp d 128 9 (v0 :: v1 :: v2 :: x :: L) [.int a] M Q ↔ Wp d 128 10 (v0 :: v1 :: clr v2 :: .int a :: L) [] M Q) ∧
    (∀ (d : Nat) (a : Int32) (x : Nat) (L : List Value) (M : Mem) (Q : Option Value → Mem → Prop), Wp d 128 11 (.ref x :: L) [.int a] M Q ↔ Wp d 128 12 (.ref x :: L) [.ref x, .int a] M Q) ∧
    (∀ (d : Nat) (a : Nat) (b : Int32) (L : List Value) (M : Mem) (Q : Option Value → Mem → Prop), Wp d 128 12 L [.ref a, .int b] M Q ↔ (isK a 12 = true ∧ Wp d 128 15 L [.ref (rt a 0), .int b] M Q)) ∧
    (∀ (d : Nat) (a : Nat) (b : Int32) (L : List Value) (M : Mem) (Q : Option Value → Mem → Prop), Wp d 128 15 L [.ref a, .int b] M Q ↔ Wp d 128 16 L [.int 2, .ref a, .int b] M Q) ∧
    (∀ (d : Nat) (a : Int32) (b : Nat) (c : Int32) (L : List Value) (M : Mem) (Q : Option Value → Mem → Prop), Wp d 128 16 L [.int a, .ref b, .int c] M Q ↔ ((isR b = true ∧ inr a (lnm M b)) ∧ Wp d 128 17 L [.int (M b a.toNatClampNeg), .int c] M Q)) ∧
    (∀ (d : Nat) (a : Int32) (b : Int32) (L : List Value) (M : Mem) (Q : Option Value → Mem → Prop), Wp d 128 17 L [.int a, .int b] M Q ↔ (if b < a then Wp d 128 20 L [] M Q else Wp d 128 116 L [] M Q)) ∧
    (∀ (d : Nat) (v0 : Value) (x : Int32) (L : List Value) (M : Mem) (Q : Option Value → Mem → Prop), Wp d 128 20 (v0 :: .int x :: L) [] M Q ↔ Wp d 128 21 (v0 :: .int x :: L) [.int x] M Q) ∧
    (∀ (d : Nat) (a : Int32) (L : List Value) (M : Mem) (Q : Option Value → Mem → Prop), Wp d 128 21 L [.int a] M Q ↔ (if a = 0 then Wp d 128 116 L [] M Q else Wp d 128 24 L [] M Q)) ∧
    (∀ (d : Nat) (L : List Value) (M : Mem) (Q : Option Value → Mem → Prop), Wp d 128 24 L [] M Q ↔ Wp d 128 25 L [.int (-1)] M Q) ∧
    (∀ (d : Nat) (a : Int32) (v0 : Value) (v1 : Value) (v2 : Value) (v3 : Value) (x : Value) (L : List Value) (M : Mem) (Q : Option Value → Mem → Prop), Wp d 128 25 (v0 :: v1 :: v2 :: v3 :: x :: L) [.int a] M Q ↔ Wp d 128 27 (v0 :: v1 :: v2 :: clr v3 :: .int a :: L) [] M Q) ∧
    (∀ (d : Nat) (L : List Value) (M : Mem) (Q : Option Value → Mem → Prop), Wp d 128 27 L [] M Q ↔ Wp d 128 28 L [.int 0] M Q) ∧
    (∀ (d : Nat) (a : Int32) (v0 : Value) (v1 : Value) (v2 : Value) (v3 : Value) (v4 : Value) (x : Value) (L : List Value) (M : Mem) (Q : Option Value → Mem → Prop), Wp d 128 28 (v0 :: v1 :: v2 :: v3 :: v4 :: x :: L) [.int a] M Q ↔ Wp d 128 30 (v0 :: v1 :: v2 :: v3 :: clr v4 :: .int a :: L) [] M Q) ∧
    (∀ (d : Nat) (a : Int32) (x : Nat) (L : List Value) (M : Mem) (Q : Option Value → Mem → Prop), Wp d 128 32 (.ref x :: L) [.int a] M Q ↔ Wp d 128 33 (.ref x :: L) [.ref x, .int a] M Q) ∧
    (∀ (d : Nat) (a : Nat) (b : Int32) (L : List Value) (M : Mem) (Q : Option Value → Mem → Prop), Wp d 128 33 L [.ref a, .int b] M Q ↔ (isK a 12 = true ∧ Wp d 128 36 L [.ref (rt a 0), .int b] M Q)) ∧
    (∀ (d : Nat) (a : Nat) (b : Int32) (L : List Value) (M : Mem) (Q : Option Value → Mem → Prop), Wp d 128 36 L [.ref a, .int b] M Q ↔ Wp d 128 37 L [.int 4, .ref a, .int b] M Q) ∧
    (∀ (d : Nat) (a : Int32) (b : Nat) (c : Int32) (L : List Value) (M : Mem) (Q : Option Value → Mem → Prop), Wp d 128 37 L [.int a, .ref b, .int c] M Q ↔ ((isR b = true ∧ inr a (lnm M b)) ∧ Wp d 128 38 L [.int (M b a.toNatClampNeg), .int c] M Q)) ∧
    (∀ (d : Nat) (a : Int32) (b : Int32) (L : List Value) (M : Mem) (Q : Option Value → Mem → Prop), Wp d 128 38 L [.int a, .int b] M Q ↔ (if b < a then Wp d 128 41 L [] M Q else Wp d 128 94 L [] M Q)) ∧
    (∀ (d : Nat) (v0 : Value) (x : Int32) (L : List Value) (M : Mem) (Q : Option Value → Mem → Prop), Wp d 128 41 (v0 :: .int x :: L) [] M Q ↔ Wp d 128 42 (v0 :: .int x :: L) [.int x] M Q) ∧
    (∀ (d : Nat) (a : Int32) (v0 : Value) (v1 : Value) (v2 : Value) (v3 : Value) (v4 : Value) (x : Int32) (L : List Value) (M : Mem) (Q : Option Value → Mem → Prop), Wp d 128 42 (v0 :: v1 :: v2 :: v3 :: v4 :: .int x :: L) [.int a] M Q ↔ Wp d 128 44 (v0 :: v1 :: v2 :: v3 :: v4 :: .int x :: L) [.int x, .int a] M Q) ∧
    (∀ (d : Nat) (a : Int32) (b : Int32) (L : List Value) (M : Mem) (Q : Option Value → Mem → Prop), Wp (d + 1) 128 44 L [.int a, .int b] M Q ↔ Wp d 129 0 [.int b, .int a] [] M (fun r M2 => Wp (d + 1) 128 47 L (r.toList ++ []) M2 Q)) ∧
    (∀ (d : Nat) (a : Int32) (L : List Value) (M : Mem) (Q : Option Value → Mem → Prop), Wp d 128 47 L [.int a] M Q ↔ (if a = 0 then Wp d 128 84 L [] M Q else Wp d 128 50 L [] M Q)) ∧
    (∀ (d : Nat) (v0 : Value) (v1 : Value) (v2 : Value) (v3 : Value) (x : Int32) (L : List Value) (M : Mem) (Q : Option Value → Mem → Prop), Wp d 128 50 (v0 :: v1 :: v2 :: v3 :: .int x :: L) [] M Q ↔ Wp d 128 52 (v0 :: v1 :: v2 :: v3 :: .int x :: L) [.int x] M Q) ∧
    (∀ (d : Nat) (a : Int32) (L : List Value) (M : Mem) (Q : Option Value → Mem → Prop), Wp d 128 52 L [.int a] M Q ↔ Wp d 128 53 L [.int (-1), .int a] M Q) ∧
    (∀ (d : Nat) (a : Int32) (b : Int32) (L : List Value) (M : Mem) (Q : Option Value → Mem → Prop), Wp d 128 53 L [.int a, .int b] M Q ↔ (if b = a then Wp d 128 79 L [] M Q else Wp d 128 56 L [] M Q)) ∧
    (∀ (d : Nat) (x : Nat) (L : List Value) (M : Mem) (Q : Option Value → Mem → Prop), Wp d 128 56 (.ref x :: L) [] M Q ↔ Wp d 128 57 (.ref x :: L) [.ref x] M Q) ∧
    (∀ (d : Nat) (a : Nat) (L : List Value) (M : Mem) (Q : Option Value → Mem → Prop), Wp d 128 57 L [.ref a] M Q ↔ (isK a 12 = true ∧ Wp d 128 60 L [.ref (rt a 0)] M Q)) ∧
    (∀ (d : Nat) (a : Nat) (L : List Value) (M : Mem) (Q : Option Value → Mem → Prop), Wp d 128 60 L [.ref a] M Q ↔ Wp d 128 62 L [.int 20, .ref a] M Q) ∧
    (∀ (d : Nat) (a : Int32) (b : Nat) (v0 : Value) (v1 : Value) (v2 : Value) (v3 : Value) (v4 : Value) (x : Int32) (L : List Value) (M : Mem) (Q : Option Value → Mem → Prop), Wp d 128 62 (v0 :: v1 :: v2 :: v3 :: v4 :: .int x :: L) [.int a, .ref b] M Q ↔ Wp d 128 64 (v0 :: v1 :: v2 :: v3 :: v4 :: .int x :: L) [.int x, .int a, .ref b] M Q) ∧
    (∀ (d : Nat) (a : Int32) (b : Int32) (c : Nat) (L : List Value) (M : Mem) (Q : Option Value → Mem → Prop), Wp d 128 64 L [.int a, .int b, .ref c] M Q ↔ Wp d 128 65 L [.int (b + a), .ref c] M Q) ∧
    (∀ (d : Nat) (a : Int32) (b : Nat) (L : List Value) (M : Mem) (Q : Option Value → Mem → Prop), Wp d 128 65 L [.int a, .ref b] M Q ↔ ((isR b = true ∧ inr a (lnm M b)) ∧ Wp d 128 66 L [.int (M b a.toNatClampNeg)] M Q)) ∧
    (∀ (d : Nat) (a : Int32) (x : Nat) (L : List Value) (M : Mem) (Q : Option Value → Mem → Prop), Wp d 128 66 (.ref x :: L) [.int a] M Q ↔ Wp d 128 67 (.ref x :: L) [.ref x, .int a] M Q) ∧
    (∀ (d : Nat) (a : Nat) (b : Int32) (L : List Value) (M : Mem) (Q : Option Value → Mem → Prop), Wp d 128 67 L [.ref a, .int b] M Q ↔ (isK a 12 = true ∧ Wp d 128 70 L [.ref (rt a 0), .int b] M Q)) ∧
    (∀ (d : Nat) (a : Nat) (b : Int32) (L : List Value) (M : Mem) (Q : Option Value → Mem → Prop), Wp d 128 70 L [.ref a, .int b] M Q ↔ Wp d 128 72 L [.int 20, .ref a, .int b] M Q) ∧
    (∀ (d : Nat) (a : Int32) (b : Nat) (c : Int32) (v0 : Value) (v1 : Value) (v2 : Value) (v3 : Value) (x : Int32) (L : List Value) (M : Mem) (Q : Option Value → Mem → Prop), Wp d 128 72 (v0 :: v1 :: v2 :: v3 :: .int x :: L) [.int a, .ref b, .int c] M Q ↔ Wp d 128 74 (v0 :: v1 :: v2 :: v3 :: .int x :: L) [.int x, .int a, .ref b, .int c] M Q) ∧
    (∀ (d : Nat) (a : Int32) (b : Int32) (c : Nat) (d2 : Int32) (L : List Value) (M : Mem) (Q : Option Value → Mem → Prop), Wp d 128 74 L [.int a, .int b, .ref c, .int d2] M Q ↔ Wp d 128 75 L [.int (b + a), .ref c, .int d2] M Q) ∧
    (∀ (d : Nat) (a : Int32) (b : Nat) (c : Int32) (L : List Value) (M : Mem) (Q : Option Value → Mem → Prop), Wp d 128 75 L [.int a, .ref b, .int c] M Q ↔ ((isR b = true ∧ inr a (lnm M b)) ∧ Wp d 128 76 L [.int (M b a.toNatClampNeg), .int c] M Q)) ∧
    (∀ (d : Nat) (a : Int32) (b : Int32) (L : List Value) (M : Mem) (Q : Option Value → Mem → Prop), Wp d 128 76 L [.int a, .int b] M Q ↔ (if a < b then Wp d 128 79 L [] M Q else Wp d 128 84 L [] M Q)) ∧
    (∀ (d : Nat) (v0 : Value) (v1 : Value) (v2 : Value) (v3 : Value) (v4 : Value) (x : Int32) (L : List Value) (M : Mem) (Q : Option Value → Mem → Prop), Wp d 128 79 (v0 :: v1 :: v2 :: v3 :: v4 :: .int x :: L) [] M Q ↔ Wp d 128 81 (v0 :: v1 :: v2 :: v3 :: v4 :: .int x :: L) [.int x] M Q) ∧
    (∀ (d : Nat) (a : Int32) (L : List Value) (M : Mem) (Q : Option Value → Mem → Prop), Wp d 128 81 L [.int a] M Q ↔ Wp d 128 86 L [.int a] M Q) ∧
    (∀ (d : Nat) (v0 : Value) (v1 : Value) (v2 : Value) (v3 : Value) (x : Int32) (L : List Value) (M : Mem) (Q : Option Value → Mem → Prop), Wp d 128 84 (v0 :: v1 :: v2 :: v3 :: .int x :: L) [] M Q ↔ Wp d 128 86 (v0 :: v1 :: v2 :: v3 :: .int x :: L) [.int x] M Q) ∧
    (∀ (d : Nat) (a : Int32) (v0 : Value) (v1 : Value) (v2 : Value) (v3 : Value) (x : Value) (L : List Value) (M : Mem) (Q : Option Value → Mem → Prop), Wp d 128 86 (v0 :: v1 :: v2 :: v3 :: x :: L) [.int a] M Q ↔ Wp d 128 88 (v0 :: v1 :: v2 :: clr v3 :: .int a :: L) [] M Q) ∧
    (∀ (d : Nat) (v0 : Value) (v1 : Value) (v2 : Value) (v3 : Value) (v4 : Value) (x : Int32) (L : List Value) (M : Mem) (Q : Option Value → Mem → Prop), Wp d 128 88 (v0 :: v1 :: v2 :: v3 :: v4 :: .int x :: L) [] M Q ↔ Wp d 128 91 (v0 :: v1 :: v2 :: v3 :: clr v4 :: .int (x + 1) :: L) [] M Q) ∧
    (∀ (d : Nat) (L : List Value) (M : Mem) (Q : Option Value → Mem → Prop), Wp d 128 91 L [] M Q ↔ Wp d 128 30 L [] M Q) ∧
    (∀ (d : Nat) (v0 : Value) (v1 : Value) (x : Int32) (L : List Value) (M : Mem) (Q : Option Value → Mem → Prop), Wp d 128 94 (v0 :: v1 :: .int x :: L) [] M Q ↔ Wp d 128 95 (v0 :: v1 :: .int x :: L) [.int x] M Q) ∧
    (∀ (d : Nat) (a : Int32) (L : List Value) (M : Mem) (Q : Option Value → Mem → Prop), Wp d 128 95 L [.int a] M Q ↔ Wp d 128 96 L [.int 1, .int a] M Q) ∧
    (∀ (d : Nat) (a : Int32) (b : Int32) (v0 : Value) (v1 : Value) (v2 : Value) (v3 : Value) (x : Int32) (L : List Value) (M : Mem) (Q : Option Value → Mem → Prop), Wp d 128 96 (v0 :: v1 :: v2 :: v3 :: .int x :: L) [.int a, .int b] M Q ↔ Wp d 128 98 (v0 :: v1 :: v2 :: v3 :: .int x :: L) [.int x, .int a, .int b] M Q) ∧
    (∀ (d : Nat) (a : Int32) (b : Int32) (c : Int32) (L : List Value) (M : Mem) (Q : Option Value → Mem → Prop), Wp d 128 98 L [.int a, .int b, .int c] M Q ↔ Wp d 128 99 L [.int (b <<< (a &&& 31)), .int c] M Q) ∧
    (∀ (d : Nat) (a : Int32) (b : Int32) (L : List Value) (M : Mem) (Q : Option Value → Mem → Prop), Wp d 128 99 L [.int a, .int b] M Q ↔ Wp d 128 100 L [.int (b ||| a)] M Q) ∧
    (∀ (d : Nat) (a : Int32) (v0 : Value) (v1 : Value) (x : Value) (L : List Value) (M : Mem) (Q : Option Value → Mem → Prop), Wp d 128 100 (v0 :: v1 :: x :: L) [.int a] M Q ↔ Wp d 128 101 (v0 :: clr v1 :: .int a :: L) [] M Q) ∧
    (∀ (d : Nat) (v0 : Value) (x : Int32) (L : List Value) (M : Mem) (Q : Option Value → Mem → Prop), Wp d 128 101 (v0 :: .int x :: L) [] M Q ↔ Wp d 128 102 (v0 :: .int x :: L) [.int x] M Q) ∧
    (∀ (d : Nat) (a : Int32) (L : List Value) (M : Mem) (Q : Option Value → Mem → Prop), Wp d 128 102 L [.int a] M Q ↔ Wp d 128 103 L [.int 1, .int a] M Q) ∧
    (∀ (d : Nat) (a : Int32) (b : Int32) (v0 : Value) (v1 : Value) (v2 : Value) (v3 : Value) (x : Int32) (L : List Value) (M : Mem) (Q : Option Value → Mem → Prop), Wp d 128 103 (v0 :: v1 :: v2 :: v3 :: .int x :: L) [.int a, .int b] M Q ↔ Wp d 128 105 (v0 :: v1 :: v2 :: v3 :: .int x :: L) [.int x, .int a, .int b] M Q) ∧
    (∀ (d : Nat) (a : Int32) (b : Int32) (c : Int32) (L : List Value) (M : Mem) (Q : Option Value → Mem → Prop), Wp d 128 105 L [.int a, .int b, .int c] M Q ↔ Wp d 128 106 L [.int (b <<< (a &&& 31)), .int c] M Q) := by
  refine ⟨?_, ?_, ?_, ?_, ?_, ?_, ?_, ?_, ?_, ?_, ?_, ?_, ?_, ?_, ?_, ?_, ?_, ?_, ?_, ?_, ?_, ?_, ?_, ?_, ?_, ?_, ?_, ?_, ?_, ?_, ?_, ?_, ?_, ?_, ?_, ?_, ?_, ?_, ?_, ?_, ?_, ?_, ?_, ?_, ?_, ?_, ?_, ?_, ?_, ?_, ?_, ?_, ?_, ?_, ?_, ?_, ?_, ?_, ?_, ?_⟩
  · intro d x L M Q; exact Wp_sim (by decide +kernel : decode (cd 128) 0 = .ok (.aload_n 0, 1)) rfl rfl
  · intro d a L M Q; exact Wp_sim (by decide +kernel : decode (cd 128) 1 = .ok (.iconst 0, 1)) rfl rfl
  · intro d a b L M Q; exact q_invV (pz := 999) (n := 1) (c := 12) (m := 4) (k := b) (As := [.int a]) (rest := []) (by decide +kernel : decode (cd 128) 2 = .ok (.invokevirtual 150, 3)) (by decide +kernel) (by decide +kernel) rfl rfl (Nat.le_of_ble_eq_true rfl) (Nat.le_of_ble_eq_true rfl) rfl
  · intro d a v0 x L M Q; exact Wp_sim (by decide +kernel : decode (cd 128) 5 = .ok (.istore_n 1, 1)) rfl rfl
  · intro d L M Q; exact Wp_sim (by decide +kernel : decode (cd 128) 6 = .ok (.iconst 0, 1)) rfl rfl
  · intro d a v0 v1 x L M Q; exact Wp_sim (by decide +kernel : decode (cd 128) 7 = .ok (.istore_n 2, 1)) rfl rfl
  · intro d L M Q; exact Wp_sim (by decide +kernel : decode (cd 128) 8 = .ok (.iconst 0, 1)) rfl rfl
  · intro d a v0 v1 v2 x L M Q; exact Wp_sim (by decide +kernel : decode (cd 128) 9 = .ok (.istore_n 3, 1)) rfl rfl
  · intro d a x L M Q; exact Wp_sim (by decide +kernel : decode (cd 128) 11 = .ok (.aload_n 0, 1)) rfl rfl
  · intro d a b L M Q; exact q_getR (p := 843) (by decide +kernel : decode (cd 128) 12 = .ok (.getfield 7, 3)) (by decide +kernel) (by decide +kernel)
  · intro d a b L M Q; exact Wp_sim (by decide +kernel : decode (cd 128) 15 = .ok (.iconst 2, 1)) rfl rfl
  · intro d a b c L M Q; exact q_ald (by decide +kernel : decode (cd 128) 16 = .ok (.iaload , 1))
  · intro d a b L M Q; exact q_ige (by decide +kernel : decode (cd 128) 17 = .ok (.if_icmp .ge 99, 3)) (by decide)
  · intro d v0 x L M Q; exact Wp_sim (by decide +kernel : decode (cd 128) 20 = .ok (.iload_n 1, 1)) rfl rfl
  · intro d a L M Q; exact q_zeq (by decide +kernel : decode (cd 128) 21 = .ok (.ifCond .eq 95, 3)) (by decide)
  · intro d L M Q; exact Wp_sim (by decide +kernel : decode (cd 128) 24 = .ok (.iconst (-1), 1)) rfl rfl
  · intro d a v0 v1 v2 v3 x L M Q; exact Wp_sim (by decide +kernel : decode (cd 128) 25 = .ok (.istore 4, 2)) rfl rfl
  · intro d L M Q; exact Wp_sim (by decide +kernel : decode (cd 128) 27 = .ok (.iconst 0, 1)) rfl rfl
  · intro d a v0 v1 v2 v3 v4 x L M Q; exact Wp_sim (by decide +kernel : decode (cd 128) 28 = .ok (.istore 5, 2)) rfl rfl
  · intro d a x L M Q; exact Wp_sim (by decide +kernel : decode (cd 128) 32 = .ok (.aload_n 0, 1)) rfl rfl
  · intro d a b L M Q; exact q_getR (p := 843) (by decide +kernel : decode (cd 128) 33 = .ok (.getfield 7, 3)) (by decide +kernel) (by decide +kernel)
  · intro d a b L M Q; exact Wp_sim (by decide +kernel : decode (cd 128) 36 = .ok (.iconst 4, 1)) rfl rfl
  · intro d a b c L M Q; exact q_ald (by decide +kernel : decode (cd 128) 37 = .ok (.iaload , 1))
  · intro d a b L M Q; exact q_ige (by decide +kernel : decode (cd 128) 38 = .ok (.if_icmp .ge 56, 3)) (by decide)
  · intro d v0 x L M Q; exact Wp_sim (by decide +kernel : decode (cd 128) 41 = .ok (.iload_n 1, 1)) rfl rfl
  · intro d a v0 v1 v2 v3 v4 x L M Q; exact Wp_sim (by decide +kernel : decode (cd 128) 42 = .ok (.iload 5, 2)) rfl rfl
  · intro d a b L M Q; exact q_invS (pz := 1007) (n := 2) (m := 2) (As := [.int b, .int a]) (rest := []) (by decide +kernel : decode (cd 128) 44 = .ok (.invokestatic 154, 3)) (by decide +kernel) (by decide +kernel) (by decide +kernel) rfl rfl (Nat.le_of_ble_eq_true rfl) (Nat.le_of_ble_eq_true rfl) rfl
  · intro d a L M Q; exact q_zeq (by decide +kernel : decode (cd 128) 47 = .ok (.ifCond .eq 37, 3)) (by decide)
  · intro d v0 v1 v2 v3 x L M Q; exact Wp_sim (by decide +kernel : decode (cd 128) 50 = .ok (.iload 4, 2)) rfl rfl
  · intro d a L M Q; exact Wp_sim (by decide +kernel : decode (cd 128) 52 = .ok (.iconst (-1), 1)) rfl rfl
  · intro d a b L M Q; exact q_ieq (by decide +kernel : decode (cd 128) 53 = .ok (.if_icmp .eq 26, 3)) (by decide)
  · intro d x L M Q; exact Wp_sim (by decide +kernel : decode (cd 128) 56 = .ok (.aload_n 0, 1)) rfl rfl
  · intro d a L M Q; exact q_getR (p := 843) (by decide +kernel : decode (cd 128) 57 = .ok (.getfield 7, 3)) (by decide +kernel) (by decide +kernel)
  · intro d a L M Q; exact Wp_sim (by decide +kernel : decode (cd 128) 60 = .ok (.bipush 20, 2)) rfl rfl
  · intro d a b v0 v1 v2 v3 v4 x L M Q; exact Wp_sim (by decide +kernel : decode (cd 128) 62 = .ok (.iload 5, 2)) rfl rfl
  · intro d a b c L M Q; exact Wp_sim (by decide +kernel : decode (cd 128) 64 = .ok (.iadd , 1)) rfl rfl
  · intro d a b L M Q; exact q_ald (by decide +kernel : decode (cd 128) 65 = .ok (.iaload , 1))
  · intro d a x L M Q; exact Wp_sim (by decide +kernel : decode (cd 128) 66 = .ok (.aload_n 0, 1)) rfl rfl
  · intro d a b L M Q; exact q_getR (p := 843) (by decide +kernel : decode (cd 128) 67 = .ok (.getfield 7, 3)) (by decide +kernel) (by decide +kernel)
  · intro d a b L M Q; exact Wp_sim (by decide +kernel : decode (cd 128) 70 = .ok (.bipush 20, 2)) rfl rfl
  · intro d a b c v0 v1 v2 v3 x L M Q; exact Wp_sim (by decide +kernel : decode (cd 128) 72 = .ok (.iload 4, 2)) rfl rfl
  · intro d a b c d2 L M Q; exact Wp_sim (by decide +kernel : decode (cd 128) 74 = .ok (.iadd , 1)) rfl rfl
  · intro d a b c L M Q; exact q_ald (by decide +kernel : decode (cd 128) 75 = .ok (.iaload , 1))
  · intro d a b L M Q; exact q_ile (by decide +kernel : decode (cd 128) 76 = .ok (.if_icmp .le 8, 3)) (by decide)
  · intro d v0 v1 v2 v3 v4 x L M Q; exact Wp_sim (by decide +kernel : decode (cd 128) 79 = .ok (.iload 5, 2)) rfl rfl
  · intro d a L M Q; exact q_goto (by decide +kernel : decode (cd 128) 81 = .ok (.goto 5, 3)) (by decide)
  · intro d v0 v1 v2 v3 x L M Q; exact Wp_sim (by decide +kernel : decode (cd 128) 84 = .ok (.iload 4, 2)) rfl rfl
  · intro d a v0 v1 v2 v3 x L M Q; exact Wp_sim (by decide +kernel : decode (cd 128) 86 = .ok (.istore 4, 2)) rfl rfl
  · intro d v0 v1 v2 v3 v4 x L M Q; exact Wp_sim (by decide +kernel : decode (cd 128) 88 = .ok (.iinc 5 1, 3)) rfl rfl
  · intro d L M Q; exact q_goto (by decide +kernel : decode (cd 128) 91 = .ok (.goto (-61), 3)) (by decide)
  · intro d v0 v1 x L M Q; exact Wp_sim (by decide +kernel : decode (cd 128) 94 = .ok (.iload_n 2, 1)) rfl rfl
  · intro d a L M Q; exact Wp_sim (by decide +kernel : decode (cd 128) 95 = .ok (.iconst 1, 1)) rfl rfl
  · intro d a b v0 v1 v2 v3 x L M Q; exact Wp_sim (by decide +kernel : decode (cd 128) 96 = .ok (.iload 4, 2)) rfl rfl
  · intro d a b c L M Q; exact Wp_sim (by decide +kernel : decode (cd 128) 98 = .ok (.ishl , 1)) rfl rfl
  · intro d a b L M Q; exact Wp_sim (by decide +kernel : decode (cd 128) 99 = .ok (.ior , 1)) rfl rfl
  · intro d a v0 v1 x L M Q; exact Wp_sim (by decide +kernel : decode (cd 128) 100 = .ok (.istore_n 2, 1)) rfl rfl
  · intro d v0 x L M Q; exact Wp_sim (by decide +kernel : decode (cd 128) 101 = .ok (.iload_n 1, 1)) rfl rfl
  · intro d a L M Q; exact Wp_sim (by decide +kernel : decode (cd 128) 102 = .ok (.iconst 1, 1)) rfl rfl
  · intro d a b v0 v1 v2 v3 x L M Q; exact Wp_sim (by decide +kernel : decode (cd 128) 103 = .ok (.iload 4, 2)) rfl rfl
  · intro d a b c L M Q; exact Wp_sim (by decide +kernel : decode (cd 128) 105 = .ok (.ishl , 1)) rfl rfl
set_option maxRecDepth 10000 in
theorem e128_1 : (∀ (d : Nat) (a : Int32) (b : Int32) (L : List Value) (M : Mem) (Q : Option Value → Mem → Prop), Wp d 128 106 L [.int a, .int b] M Q ↔ Wp d 128 107 L [.int (-1), .int a, .int b] M Q) ∧
    (∀ (d : Nat) (a : Int32) (b : Int32) (c : Int32) (L : List Value) (M : Mem) (Q : Option Value → Mem → Prop), Wp d 128 107 L [.int a, .int b, .int c] M Q ↔ Wp d 128 108 L [.int (b ^^^ a), .int c] M Q) ∧
    (∀ (d : Nat) (a : Int32) (b : Int32) (L : List Value) (M : Mem) (Q : Option Value → Mem → Prop), Wp d 128 108 L [.int a, .int b] M Q ↔ Wp d 128 109 L [.int (b &&& a)] M Q) ∧
    (∀ (d : Nat) (a : Int32) (v0 : Value) (x : Value) (L : List Value) (M : Mem) (Q : Option Value → Mem → Prop), Wp d 128 109 (v0 :: x :: L) [.int a] M Q ↔ Wp d 128 110 (clr v0 :: .int a :: L) [] M Q) ∧
    (∀ (d : Nat) (v0 : Value) (v1 : Value) (v2 : Value) (x : Int32) (L : List Value) (M : Mem) (Q : Option Value → Mem → Prop), Wp d 128 110 (v0 :: v1 :: v2 :: .int x :: L) [] M Q ↔ Wp d 128 113 (v0 :: v1 :: clr v2 :: .int (x + 1) :: L) [] M Q) ∧
    (∀ (d : Nat) (L : List Value) (M : Mem) (Q : Option Value → Mem → Prop), Wp d 128 113 L [] M Q ↔ Wp d 128 10 L [] M Q) ∧
    (∀ (d : Nat) (v0 : Value) (v1 : Value) (x : Int32) (L : List Value) (M : Mem) (Q : Option Value → Mem → Prop), Wp d 128 116 (v0 :: v1 :: .int x :: L) [] M Q ↔ Wp d 128 117 (v0 :: v1 :: .int x :: L) [.int x] M Q) ∧
    (∀ (d : Nat) (a : Int32) (L : List Value) (M : Mem) (Q : Option Value → Mem → Prop), Wp d 128 117 L [.int a] M Q ↔ Q (some (.int a)) M) := by
  refine ⟨?_, ?_, ?_, ?_, ?_, ?_, ?_, ?_⟩
  · intro d a b L M Q; exact Wp_sim (by decide +kernel : decode (cd 128) 106 = .ok (.iconst (-1), 1)) rfl rfl
  · intro d a b c L M Q; exact Wp_sim (by decide +kernel : decode (cd 128) 107 = .ok (.ixor , 1)) rfl rfl
  · intro d a b L M Q; exact Wp_sim (by decide +kernel : decode (cd 128) 108 = .ok (.iand , 1)) rfl rfl
  · intro d a v0 x L M Q; exact Wp_sim (by decide +kernel : decode (cd 128) 109 = .ok (.istore_n 1, 1)) rfl rfl
  · intro d v0 v1 v2 x L M Q; exact Wp_sim (by decide +kernel : decode (cd 128) 110 = .ok (.iinc 3 1, 3)) rfl rfl
  · intro d L M Q; exact q_goto (by decide +kernel : decode (cd 128) 113 = .ok (.goto (-103), 3)) (by decide)
  · intro d v0 v1 x L M Q; exact Wp_sim (by decide +kernel : decode (cd 128) 116 = .ok (.iload_n 2, 1)) rfl rfl
  · intro d a L M Q; exact q_iret (by decide +kernel : decode (cd 128) 117 = .ok (.ireturn , 1)) (by decide +kernel)
theorem h128_10 : (∀ (d : Nat) (v0 : Value) (v1 : Value) (v2 : Value) (x : Int32) (L : List Value) (M : Mem) (Q : Option Value → Mem → Prop), Wp d 128 10 (v0 :: v1 :: v2 :: .int x :: L) [] M Q ↔ Wp d 128 11 (v0 :: v1 :: v2 :: .int x :: L) [.int x] M Q) := by
  intro d v0 v1 v2 x L M Q; exact Wp_sim (by decide +kernel : decode (cd 128) 10 = .ok (.iload_n 3, 1)) rfl rfl
theorem h128_30 : (∀ (d : Nat) (v0 : Value) (v1 : Value) (v2 : Value) (v3 : Value) (v4 : Value) (x : Int32) (L : List Value) (M : Mem) (Q : Option Value → Mem → Prop), Wp d 128 30 (v0 :: v1 :: v2 :: v3 :: v4 :: .int x :: L) [] M Q ↔ Wp d 128 32 (v0 :: v1 :: v2 :: v3 :: v4 :: .int x :: L) [.int x] M Q) := by
  intro d v0 v1 v2 v3 v4 x L M Q; exact Wp_sim (by decide +kernel : decode (cd 128) 30 = .ok (.iload 5, 2)) rfl rfl

/- 129: PalaceYardModel.has -/
set_option maxRecDepth 10000 in
theorem e129 : (∀ (d : Nat) (x : Int32) (L : List Value) (M : Mem) (Q : Option Value → Mem → Prop), Wp d 129 0 (.int x :: L) [] M Q ↔ Wp d 129 1 (.int x :: L) [.int x] M Q) ∧
    (∀ (d : Nat) (a : Int32) (v0 : Value) (x : Int32) (L : List Value) (M : Mem) (Q : Option Value → Mem → Prop), Wp d 129 1 (v0 :: .int x :: L) [.int a] M Q ↔ Wp d 129 2 (v0 :: .int x :: L) [.int x, .int a] M Q) ∧
    (∀ (d : Nat) (a : Int32) (b : Int32) (L : List Value) (M : Mem) (Q : Option Value → Mem → Prop), Wp d 129 2 L [.int a, .int b] M Q ↔ Wp d 129 3 L [.int (b >>> (a &&& 31))] M Q) ∧
    (∀ (d : Nat) (a : Int32) (L : List Value) (M : Mem) (Q : Option Value → Mem → Prop), Wp d 129 3 L [.int a] M Q ↔ Wp d 129 4 L [.int 1, .int a] M Q) ∧
    (∀ (d : Nat) (a : Int32) (b : Int32) (L : List Value) (M : Mem) (Q : Option Value → Mem → Prop), Wp d 129 4 L [.int a, .int b] M Q ↔ Wp d 129 5 L [.int (b &&& a)] M Q) ∧
    (∀ (d : Nat) (a : Int32) (L : List Value) (M : Mem) (Q : Option Value → Mem → Prop), Wp d 129 5 L [.int a] M Q ↔ Wp d 129 6 L [.int 1, .int a] M Q) ∧
    (∀ (d : Nat) (a : Int32) (b : Int32) (L : List Value) (M : Mem) (Q : Option Value → Mem → Prop), Wp d 129 6 L [.int a, .int b] M Q ↔ (if b = a then Wp d 129 9 L [] M Q else Wp d 129 13 L [] M Q)) ∧
    (∀ (d : Nat) (L : List Value) (M : Mem) (Q : Option Value → Mem → Prop), Wp d 129 9 L [] M Q ↔ Wp d 129 10 L [.int 1] M Q) ∧
    (∀ (d : Nat) (a : Int32) (L : List Value) (M : Mem) (Q : Option Value → Mem → Prop), Wp d 129 10 L [.int a] M Q ↔ Wp d 129 14 L [.int a] M Q) ∧
    (∀ (d : Nat) (L : List Value) (M : Mem) (Q : Option Value → Mem → Prop), Wp d 129 13 L [] M Q ↔ Wp d 129 14 L [.int 0] M Q) ∧
    (∀ (d : Nat) (a : Int32) (L : List Value) (M : Mem) (Q : Option Value → Mem → Prop), Wp d 129 14 L [.int a] M Q ↔ ((a = 0 ∨ a = 1) ∧ Q (some (.int a)) M)) := by
  refine ⟨?_, ?_, ?_, ?_, ?_, ?_, ?_, ?_, ?_, ?_, ?_⟩
  · intro d x L M Q; exact Wp_sim (by decide +kernel : decode (cd 129) 0 = .ok (.iload_n 0, 1)) rfl rfl
  · intro d a v0 x L M Q; exact Wp_sim (by decide +kernel : decode (cd 129) 1 = .ok (.iload_n 1, 1)) rfl rfl
  · intro d a b L M Q; exact Wp_sim (by decide +kernel : decode (cd 129) 2 = .ok (.ishr , 1)) rfl rfl
  · intro d a L M Q; exact Wp_sim (by decide +kernel : decode (cd 129) 3 = .ok (.iconst 1, 1)) rfl rfl
  · intro d a b L M Q; exact Wp_sim (by decide +kernel : decode (cd 129) 4 = .ok (.iand , 1)) rfl rfl
  · intro d a L M Q; exact Wp_sim (by decide +kernel : decode (cd 129) 5 = .ok (.iconst 1, 1)) rfl rfl
  · intro d a b L M Q; exact q_ine (by decide +kernel : decode (cd 129) 6 = .ok (.if_icmp .ne 7, 3)) (by decide)
  · intro d L M Q; exact Wp_sim (by decide +kernel : decode (cd 129) 9 = .ok (.iconst 1, 1)) rfl rfl
  · intro d a L M Q; exact q_goto (by decide +kernel : decode (cd 129) 10 = .ok (.goto 4, 3)) (by decide)
  · intro d L M Q; exact Wp_sim (by decide +kernel : decode (cd 129) 13 = .ok (.iconst 0, 1)) rfl rfl
  · intro d a L M Q; exact q_zret (by decide +kernel : decode (cd 129) 14 = .ok (.ireturn , 1)) (by decide +kernel)

/- 130: PalaceYardModel.safe -/
set_option maxRecDepth 10000 in
theorem e130 : (∀ (d : Nat) (L : List Value) (M : Mem) (Q : Option Value → Mem → Prop), Wp d 130 0 L [] M Q ↔ Wp d 130 1 L [.int 0] M Q) ∧
    (∀ (d : Nat) (a : Int32) (v0 : Value) (x : Value) (L : List Value) (M : Mem) (Q : Option Value → Mem → Prop), Wp d 130 1 (v0 :: x :: L) [.int a] M Q ↔ Wp d 130 2 (clr v0 :: .int a :: L) [] M Q) ∧
    (∀ (d : Nat) (L : List Value) (M : Mem) (Q : Option Value → Mem → Prop), Wp d 130 2 L [] M Q ↔ Wp d 130 3 L [.int 0] M Q) ∧
    (∀ (d : Nat) (a : Int32) (v0 : Value) (v1 : Value) (x : Value) (L : List Value) (M : Mem) (Q : Option Value → Mem → Prop), Wp d 130 3 (v0 :: v1 :: x :: L) [.int a] M Q ↔ Wp d 130 4 (v0 :: clr v1 :: .int a :: L) [] M Q) ∧
    (∀ (d : Nat) (a : Int32) (x : Nat) (L : List Value) (M : Mem) (Q : Option Value → Mem → Prop), Wp d 130 5 (.ref x :: L) [.int a] M Q ↔ Wp d 130 6 (.ref x :: L) [.ref x, .int a] M Q) ∧
    (∀ (d : Nat) (a : Nat) (b : Int32) (L : List Value) (M : Mem) (Q : Option Value → Mem → Prop), Wp d 130 6 L [.ref a, .int b] M Q ↔ (isK a 12 = true ∧ Wp d 130 9 L [.ref (rt a 0), .int b] M Q)) ∧
    (∀ (d : Nat) (a : Nat) (b : Int32) (L : List Value) (M : Mem) (Q : Option Value → Mem → Prop), Wp d 130 9 L [.ref a, .int b] M Q ↔ Wp d 130 10 L [.int 4, .ref a, .int b] M Q) ∧
    (∀ (d : Nat) (a : Int32) (b : Nat) (c : Int32) (L : List Value) (M : Mem) (Q : Option Value → Mem → Prop), Wp d 130 10 L [.int a, .ref b, .int c] M Q ↔ ((isR b = true ∧ inr a (lnm M b)) ∧ Wp d 130 11 L [.int (M b a.toNatClampNeg), .int c] M Q)) ∧
    (∀ (d : Nat) (a : Int32) (b : Int32) (L : List Value) (M : Mem) (Q : Option Value → Mem → Prop), Wp d 130 11 L [.int a, .int b] M Q ↔ (if b < a then Wp d 130 14 L [] M Q else Wp d 130 81 L [] M Q)) ∧
    (∀ (d : Nat) (x : Nat) (L : List Value) (M : Mem) (Q : Option Value → Mem → Prop), Wp d 130 14 (.ref x :: L) [] M Q ↔ Wp d 130 15 (.ref x :: L) [.ref x] M Q) ∧
    (∀ (d : Nat) (a : Nat) (L : List Value) (M : Mem) (Q : Option Value → Mem → Prop), Wp d 130 15 L [.ref a] M Q ↔ (isK a 12 = true ∧ Wp d 130 18 L [.ref (rt a 2)] M Q)) ∧
    (∀ (d : Nat) (a : Nat) (L : List Value) (M : Mem) (Q : Option Value → Mem → Prop), Wp d 130 18 L [.ref a] M Q ↔ Wp d 130 19 L [.int 0, .ref a] M Q) ∧
    (∀ (d : Nat) (a : Int32) (b : Nat) (v0 : Value) (v1 : Value) (x : Int32) (L : List Value) (M : Mem) (Q : Option Value → Mem → Prop), Wp d 130 19 (v0 :: v1 :: .int x :: L) [.int a, .ref b] M Q ↔ Wp d 130 20 (v0 :: v1 :: .int x :: L) [.int x, .int a, .ref b] M Q) ∧
    (∀ (d : Nat) (a : Int32) (b : Int32) (c : Nat) (L : List Value) (M : Mem) (Q : Option Value → Mem → Prop), Wp d 130 20 L [.int a, .int b, .ref c] M Q ↔ Wp d 130 21 L [.int (b + a), .ref c] M Q) ∧
    (∀ (d : Nat) (a : Int32) (b : Nat) (L : List Value) (M : Mem) (Q : Option Value → Mem → Prop), Wp d 130 21 L [.int a, .ref b] M Q ↔ ((isR b = true ∧ inr a (lnm M b)) ∧ Wp d 130 22 L [.int (M b a.toNatClampNeg)] M Q)) ∧
    (∀ (d : Nat) (a : Int32) (L : List Value) (M : Mem) (Q : Option Value → Mem → Prop), Wp d 130 22 L [.int a] M Q ↔ Wp d 130 23 L [.int 1, .int a] M Q) ∧
    (∀ (d : Nat) (a : Int32) (b : Int32) (L : List Value) (M : Mem) (Q : Option Value → Mem → Prop), Wp d 130 23 L [.int a, .int b] M Q ↔ (if b = a then Wp d 130 26 L [] M Q else Wp d 130 48 L [] M Q)) ∧
    (∀ (d : Nat) (x : Nat) (L : List Value) (M : Mem) (Q : Option Value → Mem → Prop), Wp d 130 26 (.ref x :: L) [] M Q ↔ Wp d 130 27 (.ref x :: L) [.ref x] M Q) ∧
    (∀ (d : Nat) (a : Nat) (v0 : Value) (v1 : Value) (x : Int32) (L : List Value) (M : Mem) (Q : Option Value → Mem → Prop), Wp d 130 27 (v0 :: v1 :: .int x :: L) [.ref a] M Q ↔ Wp d 130 28 (v0 :: v1 :: .int x :: L) [.int x, .ref a] M Q) ∧
    (∀ (d : Nat) (a : Int32) (b : Nat) (x : Nat) (L : List Value) (M : Mem) (Q : Option Value → Mem → Prop), Wp d 130 28 (.ref x :: L) [.int a, .ref b] M Q ↔ Wp d 130 29 (.ref x :: L) [.ref x, .int a, .ref b] M Q) ∧
    (∀ (d : Nat) (a : Nat) (b : Int32) (c : Nat) (L : List Value) (M : Mem) (Q : Option Value → Mem → Prop), Wp d 130 29 L [.ref a, .int b, .ref c] M Q ↔ (isK a 12 = true ∧ Wp d 130 32 L [.ref (rt a 2), .int b, .ref c] M Q)) ∧
    (∀ (d : Nat) (a : Nat) (b : Int32) (c : Nat) (L : List Value) (M : Mem) (Q : Option Value → Mem → Prop), Wp d 130 32 L [.ref a, .int b, .ref c] M Q ↔ Wp d 130 34 L [.int 6, .ref a, .int b, .ref c] M Q) ∧
    (∀ (d : Nat) (a : Int32) (b : Nat) (c : Int32) (d2 : Nat) (v0 : Value) (v1 : Value) (x : Int32) (L : List Value) (M : Mem) (Q : Option Value → Mem → Prop), Wp d 130 34 (v0 :: v1 :: .int x :: L) [.int a, .ref b, .int c, .ref d2] M Q ↔ Wp d 130 35 (v0 :: v1 :: .int x :: L) [.int x, .int a, .ref b, .int c, .ref d2] M Q) ∧
    (∀ (d : Nat) (a : Int32) (b : Int32) (c : Nat) (d2 : Int32) (e : Nat) (L : List Value) (M : Mem) (Q : Option Value → Mem → Prop), Wp d 130 35 L [.int a, .int b, .ref c, .int d2, .ref e] M Q ↔ Wp d 130 36 L [.int (b + a), .ref c, .int d2, .ref e] M Q) ∧
    (∀ (d : Nat) (a : Int32) (b : Nat) (c : Int32) (d2 : Nat) (L : List Value) (M : Mem) (Q : Option Value → Mem → Prop), Wp d 130 36 L [.int a, .ref b, .int c, .ref d2] M Q ↔ ((isR b = true ∧ inr a (lnm M b)) ∧ Wp d 130 37 L [.int (M b a.toNatClampNeg), .int c, .ref d2] M Q)) ∧
    (∀ (d : Nat) (a : Int32) (b : Int32) (c : Nat) (L : List Value) (M : Mem) (Q : Option Value → Mem → Prop), Wp d 130 37 L [.int a, .int b, .ref c] M Q ↔ Wp d 130 38 L [.int 1, .int a, .int b, .ref c] M Q) ∧
    (∀ (d : Nat) (a : Int32) (b : Int32) (c : Int32) (d2 : Nat) (L : List Value) (M : Mem) (Q : Option Value → Mem → Prop), Wp (d + 1) 130 38 L [.int a, .int b, .int c, .ref d2] M Q ↔ (isK d2 12 = true ∧ Wp d 131 0 [.ref d2, .int c, .int b, .int a] [] M (fun r M2 => Wp (d + 1) 130 41 L (r.toList ++ []) M2 Q))) ∧
    (∀ (d : Nat) (a : Int32) (L : List Value) (M : Mem) (Q : Option Value → Mem → Prop), Wp d 130 41 L [.int a] M Q ↔ (if a < 0 then Wp d 130 44 L [] M Q else Wp d 130 48 L [] M Q)) ∧
    (∀ (d : Nat) (L : List Value) (M : Mem) (Q : Option Value → Mem → Prop), Wp d 130 44 L [] M Q ↔ Wp d 130 45 L [.int 1] M Q) ∧
    (∀ (d : Nat) (a : Int32) (L : List Value) (M : Mem) (Q : Option Value → Mem → Prop), Wp d 130 45 L [.int a] M Q ↔ Wp d 130 49 L [.int a] M Q) ∧
    (∀ (d : Nat) (L : List Value) (M : Mem) (Q : Option Value → Mem → Prop), Wp d 130 48 L [] M Q ↔ Wp d 130 49 L [.int 0] M Q) ∧
    (∀ (d : Nat) (a : Int32) (v0 : Value) (v1 : Value) (v2 : Value) (x : Value) (L : List Value) (M : Mem) (Q : Option Value → Mem → Prop), Wp d 130 49 (v0 :: v1 :: v2 :: x :: L) [.int a] M Q ↔ Wp d 130 50 (v0 :: v1 :: clr v2 :: .int a :: L) [] M Q) ∧
    (∀ (d : Nat) (v0 : Value) (x : Int32) (L : List Value) (M : Mem) (Q : Option Value → Mem → Prop), Wp d 130 50 (v0 :: .int x :: L) [] M Q ↔ Wp d 130 51 (v0 :: .int x :: L) [.int x] M Q) ∧
    (∀ (d : Nat) (a : Int32) (x : Nat) (L : List Value) (M : Mem) (Q : Option Value → Mem → Prop), Wp d 130 51 (.ref x :: L) [.int a] M Q ↔ Wp d 130 52 (.ref x :: L) [.ref x, .int a] M Q) ∧
    (∀ (d : Nat) (a : Nat) (b : Int32) (L : List Value) (M : Mem) (Q : Option Value → Mem → Prop), Wp d 130 52 L [.ref a, .int b] M Q ↔ (isK a 12 = true ∧ Wp d 130 55 L [.ref (rt a 2), .int b] M Q)) ∧
    (∀ (d : Nat) (a : Nat) (b : Int32) (L : List Value) (M : Mem) (Q : Option Value → Mem → Prop), Wp d 130 55 L [.ref a, .int b] M Q ↔ Wp d 130 56 L [.int 0, .ref a, .int b] M Q) ∧
    (∀ (d : Nat) (a : Int32) (b : Nat) (c : Int32) (v0 : Value) (v1 : Value) (x : Int32) (L : List Value) (M : Mem) (Q : Option Value → Mem → Prop), Wp d 130 56 (v0 :: v1 :: .int x :: L) [.int a, .ref b, .int c] M Q ↔ Wp d 130 57 (v0 :: v1 :: .int x :: L) [.int x, .int a, .ref b, .int c] M Q) ∧
    (∀ (d : Nat) (a : Int32) (b : Int32) (c : Nat) (d2 : Int32) (L : List Value) (M : Mem) (Q : Option Value → Mem → Prop), Wp d 130 57 L [.int a, .int b, .ref c, .int d2] M Q ↔ Wp d 130 58 L [.int (b + a), .ref c, .int d2] M Q) ∧
    (∀ (d : Nat) (a : Int32) (b : Nat) (c : Int32) (L : List Value) (M : Mem) (Q : Option Value → Mem → Prop), Wp d 130 58 L [.int a, .ref b, .int c] M Q ↔ ((isR b = true ∧ inr a (lnm M b)) ∧ Wp d 130 59 L [.int (M b a.toNatClampNeg), .int c] M Q)) ∧
    (∀ (d : Nat) (a : Int32) (b : Int32) (L : List Value) (M : Mem) (Q : Option Value → Mem → Prop), Wp d 130 59 L [.int a, .int b] M Q ↔ (if a = 0 then Wp d 130 66 L [.int b] M Q else Wp d 130 62 L [.int b] M Q)) ∧
    (∀ (d : Nat) (a : Int32) (v0 : Value) (v1 : Value) (v2 : Value) (x : Int32) (L : List Value) (M : Mem) (Q : Option Value → Mem → Prop), Wp d 130 62 (v0 :: v1 :: v2 :: .int x :: L) [.int a] M Q ↔ Wp d 130 63 (v0 :: v1 :: v2 :: .int x :: L) [.int x, .int a] M Q) ∧
    (∀ (d : Nat) (a : Int32) (b : Int32) (L : List Value) (M : Mem) (Q : Option Value → Mem → Prop), Wp d 130 63 L [.int a, .int b] M Q ↔ (if a = 0 then Wp d 130 70 L [.int b] M Q else Wp d 130 66 L [.int b] M Q)) ∧
    (∀ (d : Nat) (a : Int32) (L : List Value) (M : Mem) (Q : Option Value → Mem → Prop), Wp d 130 66 L [.int a] M Q ↔ Wp d 130 67 L [.int 0, .int a] M Q) ∧
    (∀ (d : Nat) (a : Int32) (b : Int32) (L : List Value) (M : Mem) (Q : Option Value → Mem → Prop), Wp d 130 67 L [.int a, .int b] M Q ↔ Wp d 130 73 L [.int a, .int b] M Q) ∧
    (∀ (d : Nat) (a : Int32) (L : List Value) (M : Mem) (Q : Option Value → Mem → Prop), Wp d 130 70 L [.int a] M Q ↔ Wp d 130 71 L [.int 1, .int a] M Q) ∧
    (∀ (d : Nat) (a : Int32) (b : Int32) (v0 : Value) (v1 : Value) (x : Int32) (L : List Value) (M : Mem) (Q : Option Value → Mem → Prop), Wp d 130 71 (v0 :: v1 :: .int x :: L) [.int a, .int b] M Q ↔ Wp d 130 72 (v0 :: v1 :: .int x :: L) [.int x, .int a, .int b] M Q) ∧
    (∀ (d : Nat) (a : Int32) (b : Int32) (c : Int32) (L : List Value) (M : Mem) (Q : Option Value → Mem → Prop), Wp d 130 72 L [.int a, .int b, .int c] M Q ↔ Wp d 130 73 L [.int (b <<< (a &&& 31)), .int c] M Q) ∧
    (∀ (d : Nat) (a : Int32) (b : Int32) (L : List Value) (M : Mem) (Q : Option Value → Mem → Prop), Wp d 130 73 L [.int a, .int b] M Q ↔ Wp d 130 74 L [.int (b ||| a)] M Q) ∧
    (∀ (d : Nat) (a : Int32) (v0 : Value) (x : Value) (L : List Value) (M : Mem) (Q : Option Value → Mem → Prop), Wp d 130 74 (v0 :: x :: L) [.int a] M Q ↔ Wp d 130 75 (clr v0 :: .int a :: L) [] M Q) ∧
    (∀ (d : Nat) (v0 : Value) (v1 : Value) (x : Int32) (L : List Value) (M : Mem) (Q : Option Value → Mem → Prop), Wp d 130 75 (v0 :: v1 :: .int x :: L) [] M Q ↔ Wp d 130 78 (v0 :: clr v1 :: .int (x + 1) :: L) [] M Q) ∧
    (∀ (d : Nat) (L : List Value) (M : Mem) (Q : Option Value → Mem → Prop), Wp d 130 78 L [] M Q ↔ Wp d 130 4 L [] M Q) ∧
    (∀ (d : Nat) (v0 : Value) (x : Int32) (L : List Value) (M : Mem) (Q : Option Value → Mem → Prop), Wp d 130 81 (v0 :: .int x :: L) [] M Q ↔ Wp d 130 82 (v0 :: .int x :: L) [.int x] M Q) ∧
    (∀ (d : Nat) (a : Int32) (L : List Value) (M : Mem) (Q : Option Value → Mem → Prop), Wp d 130 82 L [.int a] M Q ↔ Q (some (.int a)) M) := by
  refine ⟨?_, ?_, ?_, ?_, ?_, ?_, ?_, ?_, ?_, ?_, ?_, ?_, ?_, ?_, ?_, ?_, ?_, ?_, ?_, ?_, ?_, ?_, ?_, ?_, ?_, ?_, ?_, ?_, ?_, ?_, ?_, ?_, ?_, ?_, ?_, ?_, ?_, ?_, ?_, ?_, ?_, ?_, ?_, ?_, ?_, ?_, ?_, ?_, ?_, ?_, ?_, ?_, ?_⟩
  · intro d L M Q; exact Wp_sim (by decide +kernel : decode (cd 130) 0 = .ok (.iconst 0, 1)) rfl rfl
  · intro d a v0 x L M Q; exact Wp_sim (by decide +kernel : decode (cd 130) 1 = .ok (.istore_n 1, 1)) rfl rfl
  · intro d L M Q; exact Wp_sim (by decide +kernel : decode (cd 130) 2 = .ok (.iconst 0, 1)) rfl rfl
  · intro d a v0 v1 x L M Q; exact Wp_sim (by decide +kernel : decode (cd 130) 3 = .ok (.istore_n 2, 1)) rfl rfl
  · intro d a x L M Q; exact Wp_sim (by decide +kernel : decode (cd 130) 5 = .ok (.aload_n 0, 1)) rfl rfl
  · intro d a b L M Q; exact q_getR (p := 843) (by decide +kernel : decode (cd 130) 6 = .ok (.getfield 7, 3)) (by decide +kernel) (by decide +kernel)
  · intro d a b L M Q; exact Wp_sim (by decide +kernel : decode (cd 130) 9 = .ok (.iconst 4, 1)) rfl rfl
  · intro d a b c L M Q; exact q_ald (by decide +kernel : decode (cd 130) 10 = .ok (.iaload , 1))
  · intro d a b L M Q; exact q_ige (by decide +kernel : decode (cd 130) 11 = .ok (.if_icmp .ge 70, 3)) (by decide)
  · intro d x L M Q; exact Wp_sim (by decide +kernel : decode (cd 130) 14 = .ok (.aload_n 0, 1)) rfl rfl
  · intro d a L M Q; exact q_getR (p := 845) (by decide +kernel : decode (cd 130) 15 = .ok (.getfield 16, 3)) (by decide +kernel) (by decide +kernel)
  · intro d a L M Q; exact Wp_sim (by decide +kernel : decode (cd 130) 18 = .ok (.iconst 0, 1)) rfl rfl
  · intro d a b v0 v1 x L M Q; exact Wp_sim (by decide +kernel : decode (cd 130) 19 = .ok (.iload_n 2, 1)) rfl rfl
  · intro d a b c L M Q; exact Wp_sim (by decide +kernel : decode (cd 130) 20 = .ok (.iadd , 1)) rfl rfl
  · intro d a b L M Q; exact q_ald (by decide +kernel : decode (cd 130) 21 = .ok (.iaload , 1))
  · intro d a L M Q; exact Wp_sim (by decide +kernel : decode (cd 130) 22 = .ok (.iconst 1, 1)) rfl rfl
  · intro d a b L M Q; exact q_ine (by decide +kernel : decode (cd 130) 23 = .ok (.if_icmp .ne 25, 3)) (by decide)
  · intro d x L M Q; exact Wp_sim (by decide +kernel : decode (cd 130) 26 = .ok (.aload_n 0, 1)) rfl rfl
  · intro d a v0 v1 x L M Q; exact Wp_sim (by decide +kernel : decode (cd 130) 27 = .ok (.iload_n 2, 1)) rfl rfl
  · intro d a b x L M Q; exact Wp_sim (by decide +kernel : decode (cd 130) 28 = .ok (.aload_n 0, 1)) rfl rfl
  · intro d a b c L M Q; exact q_getR (p := 845) (by decide +kernel : decode (cd 130) 29 = .ok (.getfield 16, 3)) (by decide +kernel) (by decide +kernel)
  · intro d a b c L M Q; exact Wp_sim (by decide +kernel : decode (cd 130) 32 = .ok (.bipush 6, 2)) rfl rfl
  · intro d a b c d2 v0 v1 x L M Q; exact Wp_sim (by decide +kernel : decode (cd 130) 34 = .ok (.iload_n 2, 1)) rfl rfl
  · intro d a b c d2 e L M Q; exact Wp_sim (by decide +kernel : decode (cd 130) 35 = .ok (.iadd , 1)) rfl rfl
  · intro d a b c d2 L M Q; exact q_ald (by decide +kernel : decode (cd 130) 36 = .ok (.iaload , 1))
  · intro d a b c L M Q; exact Wp_sim (by decide +kernel : decode (cd 130) 37 = .ok (.iconst 1, 1)) rfl rfl
  · intro d a b c d2 L M Q; exact q_invV (pz := 1014) (n := 3) (c := 12) (m := 4) (k := d2) (As := [.int c, .int b, .int a]) (rest := []) (by decide +kernel : decode (cd 130) 38 = .ok (.invokevirtual 161, 3)) (by decide +kernel) (by decide +kernel) rfl rfl (Nat.le_of_ble_eq_true rfl) (Nat.le_of_ble_eq_true rfl) rfl
  · intro d a L M Q; exact q_zge (by decide +kernel : decode (cd 130) 41 = .ok (.ifCond .ge 7, 3)) (by decide)
  · intro d L M Q; exact Wp_sim (by decide +kernel : decode (cd 130) 44 = .ok (.iconst 1, 1)) rfl rfl
  · intro d a L M Q; exact q_goto (by decide +kernel : decode (cd 130) 45 = .ok (.goto 4, 3)) (by decide)
  · intro d L M Q; exact Wp_sim (by decide +kernel : decode (cd 130) 48 = .ok (.iconst 0, 1)) rfl rfl
  · intro d a v0 v1 v2 x L M Q; exact Wp_sim (by decide +kernel : decode (cd 130) 49 = .ok (.istore_n 3, 1)) rfl rfl
  · intro d v0 x L M Q; exact Wp_sim (by decide +kernel : decode (cd 130) 50 = .ok (.iload_n 1, 1)) rfl rfl
  · intro d a x L M Q; exact Wp_sim (by decide +kernel : decode (cd 130) 51 = .ok (.aload_n 0, 1)) rfl rfl
  · intro d a b L M Q; exact q_getR (p := 845) (by decide +kernel : decode (cd 130) 52 = .ok (.getfield 16, 3)) (by decide +kernel) (by decide +kernel)
  · intro d a b L M Q; exact Wp_sim (by decide +kernel : decode (cd 130) 55 = .ok (.iconst 0, 1)) rfl rfl
  · intro d a b c v0 v1 x L M Q; exact Wp_sim (by decide +kernel : decode (cd 130) 56 = .ok (.iload_n 2, 1)) rfl rfl
  · intro d a b c d2 L M Q; exact Wp_sim (by decide +kernel : decode (cd 130) 57 = .ok (.iadd , 1)) rfl rfl
  · intro d a b c L M Q; exact q_ald (by decide +kernel : decode (cd 130) 58 = .ok (.iaload , 1))
  · intro d a b L M Q; exact q_zeq (by decide +kernel : decode (cd 130) 59 = .ok (.ifCond .eq 7, 3)) (by decide)
  · intro d a v0 v1 v2 x L M Q; exact Wp_sim (by decide +kernel : decode (cd 130) 62 = .ok (.iload_n 3, 1)) rfl rfl
  · intro d a b L M Q; exact q_zeq (by decide +kernel : decode (cd 130) 63 = .ok (.ifCond .eq 7, 3)) (by decide)
  · intro d a L M Q; exact Wp_sim (by decide +kernel : decode (cd 130) 66 = .ok (.iconst 0, 1)) rfl rfl
  · intro d a b L M Q; exact q_goto (by decide +kernel : decode (cd 130) 67 = .ok (.goto 6, 3)) (by decide)
  · intro d a L M Q; exact Wp_sim (by decide +kernel : decode (cd 130) 70 = .ok (.iconst 1, 1)) rfl rfl
  · intro d a b v0 v1 x L M Q; exact Wp_sim (by decide +kernel : decode (cd 130) 71 = .ok (.iload_n 2, 1)) rfl rfl
  · intro d a b c L M Q; exact Wp_sim (by decide +kernel : decode (cd 130) 72 = .ok (.ishl , 1)) rfl rfl
  · intro d a b L M Q; exact Wp_sim (by decide +kernel : decode (cd 130) 73 = .ok (.ior , 1)) rfl rfl
  · intro d a v0 x L M Q; exact Wp_sim (by decide +kernel : decode (cd 130) 74 = .ok (.istore_n 1, 1)) rfl rfl
  · intro d v0 v1 x L M Q; exact Wp_sim (by decide +kernel : decode (cd 130) 75 = .ok (.iinc 2 1, 3)) rfl rfl
  · intro d L M Q; exact q_goto (by decide +kernel : decode (cd 130) 78 = .ok (.goto (-74), 3)) (by decide)
  · intro d v0 x L M Q; exact Wp_sim (by decide +kernel : decode (cd 130) 81 = .ok (.iload_n 1, 1)) rfl rfl
  · intro d a L M Q; exact q_iret (by decide +kernel : decode (cd 130) 82 = .ok (.ireturn , 1)) (by decide +kernel)
theorem h130_4 : (∀ (d : Nat) (v0 : Value) (v1 : Value) (x : Int32) (L : List Value) (M : Mem) (Q : Option Value → Mem → Prop), Wp d 130 4 (v0 :: v1 :: .int x :: L) [] M Q ↔ Wp d 130 5 (v0 :: v1 :: .int x :: L) [.int x] M Q) := by
  intro d v0 v1 x L M Q; exact Wp_sim (by decide +kernel : decode (cd 130) 4 = .ok (.iload_n 2, 1)) rfl rfl

/- 131: PalaceYardModel.weekLater -/
set_option maxRecDepth 10000 in
theorem e131 : (∀ (d : Nat) (v0 : Value) (v1 : Value) (x : Int32) (L : List Value) (M : Mem) (Q : Option Value → Mem → Prop), Wp d 131 0 (v0 :: v1 :: .int x :: L) [] M Q ↔ Wp d 131 1 (v0 :: v1 :: .int x :: L) [.int x] M Q) ∧
    (∀ (d : Nat) (a : Int32) (x : Nat) (L : List Value) (M : Mem) (Q : Option Value → Mem → Prop), Wp d 131 1 (.ref x :: L) [.int a] M Q ↔ Wp d 131 2 (.ref x :: L) [.ref x, .int a] M Q) ∧
    (∀ (d : Nat) (a : Nat) (b : Int32) (L : List Value) (M : Mem) (Q : Option Value → Mem → Prop), Wp d 131 2 L [.ref a, .int b] M Q ↔ (isK a 12 = true ∧ Wp d 131 5 L [.ref (rt a 0), .int b] M Q)) ∧
    (∀ (d : Nat) (a : Nat) (b : Int32) (L : List Value) (M : Mem) (Q : Option Value → Mem → Prop), Wp d 131 5 L [.ref a, .int b] M Q ↔ Wp d 131 7 L [.int 26, .ref a, .int b] M Q) ∧
    (∀ (d : Nat) (a : Int32) (b : Nat) (c : Int32) (v0 : Value) (x : Int32) (L : List Value) (M : Mem) (Q : Option Value → Mem → Prop), Wp d 131 7 (v0 :: .int x :: L) [.int a, .ref b, .int c] M Q ↔ Wp d 131 8 (v0 :: .int x :: L) [.int x, .int a, .ref b, .int c] M Q) ∧
    (∀ (d : Nat) (a : Int32) (b : Int32) (c : Nat) (d2 : Int32) (L : List Value) (M : Mem) (Q : Option Value → Mem → Prop), Wp d 131 8 L [.int a, .int b, .ref c, .int d2] M Q ↔ Wp d 131 9 L [.int (b + a), .ref c, .int d2] M Q) ∧
    (∀ (d : Nat) (a : Int32) (b : Nat) (c : Int32) (L : List Value) (M : Mem) (Q : Option Value → Mem → Prop), Wp d 131 9 L [.int a, .ref b, .int c] M Q ↔ ((isR b = true ∧ inr a (lnm M b)) ∧ Wp d 131 10 L [.int (M b a.toNatClampNeg), .int c] M Q)) ∧
    (∀ (d : Nat) (a : Int32) (b : Int32) (L : List Value) (M : Mem) (Q : Option Value → Mem → Prop), Wp d 131 10 L [.int a, .int b] M Q ↔ Wp d 131 11 L [.int (b + a)] M Q) ∧
    (∀ (d : Nat) (a : Int32) (L : List Value) (M : Mem) (Q : Option Value → Mem → Prop), Wp (d + 1) 131 11 L [.int a] M Q ↔ Wp d 132 0 [.int a] [] M (fun r M2 => Wp (d + 1) 131 14 L (r.toList ++ []) M2 Q)) ∧
    (∀ (d : Nat) (a : Int32) (v0 : Value) (v1 : Value) (v2 : Value) (x : Int32) (L : List Value) (M : Mem) (Q : Option Value → Mem → Prop), Wp d 131 14 (v0 :: v1 :: v2 :: .int x :: L) [.int a] M Q ↔ Wp d 131 15 (v0 :: v1 :: v2 :: .int x :: L) [.int x, .int a] M Q) ∧
    (∀ (d : Nat) (a : Int32) (b : Int32) (L : List Value) (M : Mem) (Q : Option Value → Mem → Prop), Wp d 131 15 L [.int a, .int b] M Q ↔ (if a = 0 then Wp d 131 27 L [.int b] M Q else Wp d 131 18 L [.int b] M Q)) ∧
    (∀ (d : Nat) (a : Int32) (x : Nat) (L : List Value) (M : Mem) (Q : Option Value → Mem → Prop), Wp d 131 18 (.ref x :: L) [.int a] M Q ↔ Wp d 131 19 (.ref x :: L) [.ref x, .int a] M Q) ∧
    (∀ (d : Nat) (a : Nat) (b : Int32) (L : List Value) (M : Mem) (Q : Option Value → Mem → Prop), Wp d 131 19 L [.ref a, .int b] M Q ↔ (isK a 12 = true ∧ Wp d 131 22 L [.ref (rt a 0), .int b] M Q)) ∧
    (∀ (d : Nat) (a : Nat) (b : Int32) (L : List Value) (M : Mem) (Q : Option Value → Mem → Prop), Wp d 131 22 L [.ref a, .int b] M Q ↔ Wp d 131 23 L [.int 0, .ref a, .int b] M Q) ∧
    (∀ (d : Nat) (a : Int32) (b : Nat) (c : Int32) (L : List Value) (M : Mem) (Q : Option Value → Mem → Prop), Wp d 131 23 L [.int a, .ref b, .int c] M Q ↔ ((isR b = true ∧ inr a (lnm M b)) ∧ Wp d 131 24 L [.int (M b a.toNatClampNeg), .int c] M Q)) ∧
    (∀ (d : Nat) (a : Int32) (b : Int32) (L : List Value) (M : Mem) (Q : Option Value → Mem → Prop), Wp d 131 24 L [.int a, .int b] M Q ↔ Wp d 131 28 L [.int a, .int b] M Q) ∧
    (∀ (d : Nat) (a : Int32) (L : List Value) (M : Mem) (Q : Option Value → Mem → Prop), Wp d 131 27 L [.int a] M Q ↔ Wp d 131 28 L [.int 0, .int a] M Q) ∧
    (∀ (d : Nat) (a : Int32) (b : Int32) (L : List Value) (M : Mem) (Q : Option Value → Mem → Prop), Wp d 131 28 L [.int a, .int b] M Q ↔ Wp d 131 29 L [.int (b - a)] M Q) ∧
    (∀ (d : Nat) (a : Int32) (L : List Value) (M : Mem) (Q : Option Value → Mem → Prop), Wp (d + 1) 131 29 L [.int a] M Q ↔ Wp d 132 0 [.int a] [] M (fun r M2 => Wp (d + 1) 131 32 L (r.toList ++ []) M2 Q)) ∧
    (∀ (d : Nat) (a : Int32) (L : List Value) (M : Mem) (Q : Option Value → Mem → Prop), Wp d 131 32 L [.int a] M Q ↔ Q (some (.int a)) M) := by
  refine ⟨?_, ?_, ?_, ?_, ?_, ?_, ?_, ?_, ?_, ?_, ?_, ?_, ?_, ?_, ?_, ?_, ?_, ?_, ?_, ?_⟩
  · intro d v0 v1 x L M Q; exact Wp_sim (by decide +kernel : decode (cd 131) 0 = .ok (.iload_n 2, 1)) rfl rfl
  · intro d a x L M Q; exact Wp_sim (by decide +kernel : decode (cd 131) 1 = .ok (.aload_n 0, 1)) rfl rfl
  · intro d a b L M Q; exact q_getR (p := 843) (by decide +kernel : decode (cd 131) 2 = .ok (.getfield 7, 3)) (by decide +kernel) (by decide +kernel)
  · intro d a b L M Q; exact Wp_sim (by decide +kernel : decode (cd 131) 5 = .ok (.bipush 26, 2)) rfl rfl
  · intro d a b c v0 x L M Q; exact Wp_sim (by decide +kernel : decode (cd 131) 7 = .ok (.iload_n 1, 1)) rfl rfl
  · intro d a b c d2 L M Q; exact Wp_sim (by decide +kernel : decode (cd 131) 8 = .ok (.iadd , 1)) rfl rfl
  · intro d a b c L M Q; exact q_ald (by decide +kernel : decode (cd 131) 9 = .ok (.iaload , 1))
  · intro d a b L M Q; exact Wp_sim (by decide +kernel : decode (cd 131) 10 = .ok (.iadd , 1)) rfl rfl
  · intro d a L M Q; exact q_invS (pz := 1018) (n := 1) (m := 1) (As := [.int a]) (rest := []) (by decide +kernel : decode (cd 131) 11 = .ok (.invokestatic 158, 3)) (by decide +kernel) (by decide +kernel) (by decide +kernel) rfl rfl (Nat.le_of_ble_eq_true rfl) (Nat.le_of_ble_eq_true rfl) rfl
  · intro d a v0 v1 v2 x L M Q; exact Wp_sim (by decide +kernel : decode (cd 131) 14 = .ok (.iload_n 3, 1)) rfl rfl
  · intro d a b L M Q; exact q_zeq (by decide +kernel : decode (cd 131) 15 = .ok (.ifCond .eq 12, 3)) (by decide)
  · intro d a x L M Q; exact Wp_sim (by decide +kernel : decode (cd 131) 18 = .ok (.aload_n 0, 1)) rfl rfl
  · intro d a b L M Q; exact q_getR (p := 843) (by decide +kernel : decode (cd 131) 19 = .ok (.getfield 7, 3)) (by decide +kernel) (by decide +kernel)
  · intro d a b L M Q; exact Wp_sim (by decide +kernel : decode (cd 131) 22 = .ok (.iconst 0, 1)) rfl rfl
  · intro d a b c L M Q; exact q_ald (by decide +kernel : decode (cd 131) 23 = .ok (.iaload , 1))
  · intro d a b L M Q; exact q_goto (by decide +kernel : decode (cd 131) 24 = .ok (.goto 4, 3)) (by decide)
  · intro d a L M Q; exact Wp_sim (by decide +kernel : decode (cd 131) 27 = .ok (.iconst 0, 1)) rfl rfl
  · intro d a b L M Q; exact Wp_sim (by decide +kernel : decode (cd 131) 28 = .ok (.isub , 1)) rfl rfl
  · intro d a L M Q; exact q_invS (pz := 1018) (n := 1) (m := 1) (As := [.int a]) (rest := []) (by decide +kernel : decode (cd 131) 29 = .ok (.invokestatic 158, 3)) (by decide +kernel) (by decide +kernel) (by decide +kernel) rfl rfl (Nat.le_of_ble_eq_true rfl) (Nat.le_of_ble_eq_true rfl) rfl
  · intro d a L M Q; exact q_iret (by decide +kernel : decode (cd 131) 32 = .ok (.ireturn , 1)) (by decide +kernel)

/- 132: PalaceYardModel.cash -/
set_option maxRecDepth 10000 in
theorem e132 : (∀ (d : Nat) (L : List Value) (M : Mem) (Q : Option Value → Mem → Prop), Wp d 132 0 L [] M Q ↔ Wp d 132 3 L [.int (-9999)] M Q) ∧
    (∀ (d : Nat) (a : Int32) (L : List Value) (M : Mem) (Q : Option Value → Mem → Prop), Wp d 132 3 L [.int a] M Q ↔ Wp d 132 6 L [.int 9999, .int a] M Q) ∧
    (∀ (d : Nat) (a : Int32) (b : Int32) (x : Int32) (L : List Value) (M : Mem) (Q : Option Value → Mem → Prop), Wp d 132 6 (.int x :: L) [.int a, .int b] M Q ↔ Wp d 132 7 (.int x :: L) [.int x, .int a, .int b] M Q) ∧
    (∀ (d : Nat) (a : Int32) (b : Int32) (c : Int32) (L : List Value) (M : Mem) (Q : Option Value → Mem → Prop), Wp (d + 1) 132 7 L [.int a, .int b, .int c] M Q ↔ Wp d 133 0 [.int b, .int a] [] M (fun r M2 => Wp (d + 1) 132 10 L (r.toList ++ [.int c]) M2 Q)) ∧
    (∀ (d : Nat) (a : Int32) (b : Int32) (L : List Value) (M : Mem) (Q : Option Value → Mem → Prop), Wp (d + 1) 132 10 L [.int a, .int b] M Q ↔ Wp d 134 0 [.int b, .int a] [] M (fun r M2 => Wp (d + 1) 132 13 L (r.toList ++ []) M2 Q)) ∧
    (∀ (d : Nat) (a : Int32) (L : List Value) (M : Mem) (Q : Option Value → Mem → Prop), Wp d 132 13 L [.int a] M Q ↔ Q (some (.int a)) M) := by
  refine ⟨?_, ?_, ?_, ?_, ?_, ?_⟩
  · intro d L M Q; exact Wp_sim (by decide +kernel : decode (cd 132) 0 = .ok (.sipush (-9999), 3)) rfl rfl
  · intro d a L M Q; exact Wp_sim (by decide +kernel : decode (cd 132) 3 = .ok (.sipush 9999, 3)) rfl rfl
  · intro d a b x L M Q; exact Wp_sim (by decide +kernel : decode (cd 132) 6 = .ok (.iload_n 0, 1)) rfl rfl
  · intro d a b c L M Q; exact q_invS (pz := 1021) (n := 2) (m := 2) (As := [.int b, .int a]) (rest := [.int c]) (by decide +kernel : decode (cd 132) 7 = .ok (.invokestatic 57, 3)) (by decide +kernel) (by decide +kernel) (by decide +kernel) rfl rfl (Nat.le_of_ble_eq_true rfl) (Nat.le_of_ble_eq_true rfl) rfl
  · intro d a b L M Q; exact q_invS (pz := 1024) (n := 2) (m := 2) (As := [.int b, .int a]) (rest := []) (by decide +kernel : decode (cd 132) 10 = .ok (.invokestatic 61, 3)) (by decide +kernel) (by decide +kernel) (by decide +kernel) rfl rfl (Nat.le_of_ble_eq_true rfl) (Nat.le_of_ble_eq_true rfl) rfl
  · intro d a L M Q; exact q_iret (by decide +kernel : decode (cd 132) 13 = .ok (.ireturn , 1)) (by decide +kernel)

/- 133: PalaceYardModel.lesser -/
set_option maxRecDepth 10000 in
theorem e133 : (∀ (d : Nat) (x : Int32) (L : List Value) (M : Mem) (Q : Option Value → Mem → Prop), Wp d 133 0 (.int x :: L) [] M Q ↔ Wp d 133 1 (.int x :: L) [.int x] M Q) ∧
    (∀ (d : Nat) (a : Int32) (v0 : Value) (x : Int32) (L : List Value) (M : Mem) (Q : Option Value → Mem → Prop), Wp d 133 1 (v0 :: .int x :: L) [.int a] M Q ↔ Wp d 133 2 (v0 :: .int x :: L) [.int x, .int a] M Q) ∧
    (∀ (d : Nat) (a : Int32) (b : Int32) (L : List Value) (M : Mem) (Q : Option Value → Mem → Prop), Wp d 133 2 L [.int a, .int b] M Q ↔ (if b < a then Wp d 133 5 L [] M Q else Wp d 133 9 L [] M Q)) ∧
    (∀ (d : Nat) (x : Int32) (L : List Value) (M : Mem) (Q : Option Value → Mem → Prop), Wp d 133 5 (.int x :: L) [] M Q ↔ Wp d 133 6 (.int x :: L) [.int x] M Q) ∧
    (∀ (d : Nat) (a : Int32) (L : List Value) (M : Mem) (Q : Option Value → Mem → Prop), Wp d 133 6 L [.int a] M Q ↔ Wp d 133 10 L [.int a] M Q) ∧
    (∀ (d : Nat) (v0 : Value) (x : Int32) (L : List Value) (M : Mem) (Q : Option Value → Mem → Prop), Wp d 133 9 (v0 :: .int x :: L) [] M Q ↔ Wp d 133 10 (v0 :: .int x :: L) [.int x] M Q) ∧
    (∀ (d : Nat) (a : Int32) (L : List Value) (M : Mem) (Q : Option Value → Mem → Prop), Wp d 133 10 L [.int a] M Q ↔ Q (some (.int a)) M) := by
  refine ⟨?_, ?_, ?_, ?_, ?_, ?_, ?_⟩
  · intro d x L M Q; exact Wp_sim (by decide +kernel : decode (cd 133) 0 = .ok (.iload_n 0, 1)) rfl rfl
  · intro d a v0 x L M Q; exact Wp_sim (by decide +kernel : decode (cd 133) 1 = .ok (.iload_n 1, 1)) rfl rfl
  · intro d a b L M Q; exact q_ige (by decide +kernel : decode (cd 133) 2 = .ok (.if_icmp .ge 7, 3)) (by decide)
  · intro d x L M Q; exact Wp_sim (by decide +kernel : decode (cd 133) 5 = .ok (.iload_n 0, 1)) rfl rfl
  · intro d a L M Q; exact q_goto (by decide +kernel : decode (cd 133) 6 = .ok (.goto 4, 3)) (by decide)
  · intro d v0 x L M Q; exact Wp_sim (by decide +kernel : decode (cd 133) 9 = .ok (.iload_n 1, 1)) rfl rfl
  · intro d a L M Q; exact q_iret (by decide +kernel : decode (cd 133) 10 = .ok (.ireturn , 1)) (by decide +kernel)

/- 134: PalaceYardModel.greater -/
set_option maxRecDepth 10000 in
theorem e134 : (∀ (d : Nat) (x : Int32) (L : List Value) (M : Mem) (Q : Option Value → Mem → Prop), Wp d 134 0 (.int x :: L) [] M Q ↔ Wp d 134 1 (.int x :: L) [.int x] M Q) ∧
    (∀ (d : Nat) (a : Int32) (v0 : Value) (x : Int32) (L : List Value) (M : Mem) (Q : Option Value → Mem → Prop), Wp d 134 1 (v0 :: .int x :: L) [.int a] M Q ↔ Wp d 134 2 (v0 :: .int x :: L) [.int x, .int a] M Q) ∧
    (∀ (d : Nat) (a : Int32) (b : Int32) (L : List Value) (M : Mem) (Q : Option Value → Mem → Prop), Wp d 134 2 L [.int a, .int b] M Q ↔ (if a < b then Wp d 134 5 L [] M Q else Wp d 134 9 L [] M Q)) ∧
    (∀ (d : Nat) (x : Int32) (L : List Value) (M : Mem) (Q : Option Value → Mem → Prop), Wp d 134 5 (.int x :: L) [] M Q ↔ Wp d 134 6 (.int x :: L) [.int x] M Q) ∧
    (∀ (d : Nat) (a : Int32) (L : List Value) (M : Mem) (Q : Option Value → Mem → Prop), Wp d 134 6 L [.int a] M Q ↔ Wp d 134 10 L [.int a] M Q) ∧
    (∀ (d : Nat) (v0 : Value) (x : Int32) (L : List Value) (M : Mem) (Q : Option Value → Mem → Prop), Wp d 134 9 (v0 :: .int x :: L) [] M Q ↔ Wp d 134 10 (v0 :: .int x :: L) [.int x] M Q) ∧
    (∀ (d : Nat) (a : Int32) (L : List Value) (M : Mem) (Q : Option Value → Mem → Prop), Wp d 134 10 L [.int a] M Q ↔ Q (some (.int a)) M) := by
  refine ⟨?_, ?_, ?_, ?_, ?_, ?_, ?_⟩
  · intro d x L M Q; exact Wp_sim (by decide +kernel : decode (cd 134) 0 = .ok (.iload_n 0, 1)) rfl rfl
  · intro d a v0 x L M Q; exact Wp_sim (by decide +kernel : decode (cd 134) 1 = .ok (.iload_n 1, 1)) rfl rfl
  · intro d a b L M Q; exact q_ile (by decide +kernel : decode (cd 134) 2 = .ok (.if_icmp .le 7, 3)) (by decide)
  · intro d x L M Q; exact Wp_sim (by decide +kernel : decode (cd 134) 5 = .ok (.iload_n 0, 1)) rfl rfl
  · intro d a L M Q; exact q_goto (by decide +kernel : decode (cd 134) 6 = .ok (.goto 4, 3)) (by decide)
  · intro d v0 x L M Q; exact Wp_sim (by decide +kernel : decode (cd 134) 9 = .ok (.iload_n 1, 1)) rfl rfl
  · intro d a L M Q; exact q_iret (by decide +kernel : decode (cd 134) 10 = .ok (.ireturn , 1)) (by decide +kernel)

/- 135: PalaceYardModel.price -/
set_option maxRecDepth 10000 in
theorem e135_0 : (∀ (d : Nat) (x : Nat) (L : List Value) (M : Mem) (Q : Option Value → Mem → Prop), Wp d 135 0 (.ref x :: L) [] M Q ↔ Wp d 135 1 (.ref x :: L) [.ref x] M Q) ∧
    (∀ (d : Nat) (a : Nat) (L : List Value) (M : Mem) (Q : Option Value → Mem → Prop), Wp d 135 1 L [.ref a] M Q ↔ Wp d 135 2 L [.int 1, .ref a] M Q) ∧
    (∀ (d : Nat) (a : Int32) (b : Nat) (L : List Value) (M : Mem) (Q : Option Value → Mem → Prop), Wp (d + 1) 135 2 L [.int a, .ref b] M Q ↔ (isK b 12 = true ∧ Wp d 127 0 [.ref b, .int a, .null, .null] [] M (fun r M2 => Wp (d + 1) 135 5 L (r.toList ++ []) M2 Q))) ∧
    (∀ (d : Nat) (a : Int32) (x : Nat) (L : List Value) (M : Mem) (Q : Option Value → Mem → Prop), Wp d 135 5 (.ref x :: L) [.int a] M Q ↔ Wp d 135 6 (.ref x :: L) [.ref x, .int a] M Q) ∧
    (∀ (d : Nat) (a : Nat) (b : Int32) (L : List Value) (M : Mem) (Q : Option Value → Mem → Prop), Wp d 135 6 L [.ref a, .int b] M Q ↔ Wp d 135 7 L [.int 0, .ref a, .int b] M Q) ∧
    (∀ (d : Nat) (a : Int32) (b : Nat) (c : Int32) (L : List Value) (M : Mem) (Q : Option Value → Mem → Prop), Wp (d + 1) 135 7 L [.int a, .ref b, .int c] M Q ↔ (isK b 12 = true ∧ Wp d 127 0 [.ref b, .int a, .null, .null] [] M (fun r M2 => Wp (d + 1) 135 10 L (r.toList ++ [.int c]) M2 Q))) ∧
    (∀ (d : Nat) (a : Int32) (b : Int32) (L : List Value) (M : Mem) (Q : Option Value → Mem → Prop), Wp d 135 10 L [.int a, .int b] M Q ↔ Wp d 135 11 L [.int (b ||| a)] M Q) ∧
    (∀ (d : Nat) (a : Int32) (v0 : Value) (x : Value) (L : List Value) (M : Mem) (Q : Option Value → Mem → Prop), Wp d 135 11 (v0 :: x :: L) [.int a] M Q ↔ Wp d 135 12 (clr v0 :: .int a :: L) [] M Q) ∧
    (∀ (d : Nat) (L : List Value) (M : Mem) (Q : Option Value → Mem → Prop), Wp d 135 12 L [] M Q ↔ Wp d 135 13 L [.int 0] M Q) ∧
    (∀ (d : Nat) (a : Int32) (v0 : Value) (v1 : Value) (x : Value) (L : List Value) (M : Mem) (Q : Option Value → Mem → Prop), Wp d 135 13 (v0 :: v1 :: x :: L) [.int a] M Q ↔ Wp d 135 14 (v0 :: clr v1 :: .int a :: L) [] M Q) ∧
    (∀ (d : Nat) (L : List Value) (M : Mem) (Q : Option Value → Mem → Prop), Wp d 135 14 L [] M Q ↔ Wp d 135 15 L [.int 0] M Q) ∧
    (∀ (d : Nat) (a : Int32) (v0 : Value) (v1 : Value) (v2 : Value) (x : Value) (L : List Value) (M : Mem) (Q : Option Value → Mem → Prop), Wp d 135 15 (v0 :: v1 :: v2 :: x :: L) [.int a] M Q ↔ Wp d 135 16 (v0 :: v1 :: clr v2 :: .int a :: L) [] M Q) ∧
    (∀ (d : Nat) (a : Int32) (x : Nat) (L : List Value) (M : Mem) (Q : Option Value → Mem → Prop), Wp d 135 17 (.ref x :: L) [.int a] M Q ↔ Wp d 135 18 (.ref x :: L) [.ref x, .int a] M Q) ∧
    (∀ (d : Nat) (a : Nat) (b : Int32) (L : List Value) (M : Mem) (Q : Option Value → Mem → Prop), Wp d 135 18 L [.ref a, .int b] M Q ↔ (isK a 12 = true ∧ Wp d 135 21 L [.ref (rt a 0), .int b] M Q)) ∧
    (∀ (d : Nat) (a : Nat) (b : Int32) (L : List Value) (M : Mem) (Q : Option Value → Mem → Prop), Wp d 135 21 L [.ref a, .int b] M Q ↔ Wp d 135 22 L [.int 1, .ref a, .int b] M Q) ∧
    (∀ (d : Nat) (a : Int32) (b : Nat) (c : Int32) (L : List Value) (M : Mem) (Q : Option Value → Mem → Prop), Wp d 135 22 L [.int a, .ref b, .int c] M Q ↔ ((isR b = true ∧ inr a (lnm M b)) ∧ Wp d 135 23 L [.int (M b a.toNatClampNeg), .int c] M Q)) ∧
    (∀ (d : Nat) (a : Int32) (b : Int32) (L : List Value) (M : Mem) (Q : Option Value → Mem → Prop), Wp d 135 23 L [.int a, .int b] M Q ↔ (if a < b then Wp d 135 142 L [] M Q else Wp d 135 26 L [] M Q)) ∧
    (∀ (d : Nat) (L : List Value) (M : Mem) (Q : Option Value → Mem → Prop), Wp d 135 26 L [] M Q ↔ Wp d 135 27 L [.int (-1)] M Q) ∧
    (∀ (d : Nat) (a : Int32) (v0 : Value) (v1 : Value) (v2 : Value) (v3 : Value) (x : Value) (L : List Value) (M : Mem) (Q : Option Value → Mem → Prop), Wp d 135 27 (v0 :: v1 :: v2 :: v3 :: x :: L) [.int a] M Q ↔ Wp d 135 29 (v0 :: v1 :: v2 :: clr v3 :: .int a :: L) [] M Q) ∧
    (∀ (d : Nat) (L : List Value) (M : Mem) (Q : Option Value → Mem → Prop), Wp d 135 29 L [] M Q ↔ Wp d 135 30 L [.int 0] M Q) ∧
    (∀ (d : Nat) (a : Int32) (v0 : Value) (v1 : Value) (v2 : Value) (v3 : Value) (v4 : Value) (x : Value) (L : List Value) (M : Mem) (Q : Option Value → Mem → Prop), Wp d 135 30 (v0 :: v1 :: v2 :: v3 :: v4 :: x :: L) [.int a] M Q ↔ Wp d 135 32 (v0 :: v1 :: v2 :: v3 :: clr v4 :: .int a :: L) [] M Q) ∧
    (∀ (d : Nat) (a : Int32) (x : Nat) (L : List Value) (M : Mem) (Q : Option Value → Mem → Prop), Wp d 135 34 (.ref x :: L) [.int a] M Q ↔ Wp d 135 35 (.ref x :: L) [.ref x, .int a] M Q) ∧
    (∀ (d : Nat) (a : Nat) (b : Int32) (L : List Value) (M : Mem) (Q : Option Value → Mem → Prop), Wp d 135 35 L [.ref a, .int b] M Q ↔ (isK a 12 = true ∧ Wp d 135 38 L [.ref (rt a 0), .int b] M Q)) ∧
    (∀ (d : Nat) (a : Nat) (b : Int32) (L : List Value) (M : Mem) (Q : Option Value → Mem → Prop), Wp d 135 38 L [.ref a, .int b] M Q ↔ Wp d 135 39 L [.int 4, .ref a, .int b] M Q) ∧
    (∀ (d : Nat) (a : Int32) (b : Nat) (c : Int32) (L : List Value) (M : Mem) (Q : Option Value → Mem → Prop), Wp d 135 39 L [.int a, .ref b, .int c] M Q ↔ ((isR b = true ∧ inr a (lnm M b)) ∧ Wp d 135 40 L [.int (M b a.toNatClampNeg), .int c] M Q)) ∧
    (∀ (d : Nat) (a : Int32) (b : Int32) (L : List Value) (M : Mem) (Q : Option Value → Mem → Prop), Wp d 135 40 L [.int a, .int b] M Q ↔ (if b < a then Wp d 135 43 L [] M Q else Wp d 135 96 L [] M Q)) ∧
    (∀ (d : Nat) (v0 : Value) (x : Int32) (L : List Value) (M : Mem) (Q : Option Value → Mem → Prop), Wp d 135 43 (v0 :: .int x :: L) [] M Q ↔ Wp d 135 44 (v0 :: .int x :: L) [.int x] M Q) ∧
    (∀ (d : Nat) (a : Int32) (v0 : Value) (v1 : Value) (v2 : Value) (v3 : Value) (v4 : Value) (x : Int32) (L : List Value) (M : Mem) (Q : Option Value → Mem → Prop), Wp d 135 44 (v0 :: v1 :: v2 :: v3 :: v4 :: .int x :: L) [.int a] M Q ↔ Wp d 135 46 (v0 :: v1 :: v2 :: v3 :: v4 :: .int x :: L) [.int x, .int a] M Q) ∧
    (∀ (d : Nat) (a : Int32) (b : Int32) (L : List Value) (M : Mem) (Q : Option Value → Mem → Prop), Wp (d + 1) 135 46 L [.int a, .int b] M Q ↔ Wp d 129 0 [.int b, .int a] [] M (fun r M2 => Wp (d + 1) 135 49 L (r.toList ++ []) M2 Q)) ∧
    (∀ (d : Nat) (a : Int32) (L : List Value) (M : Mem) (Q : Option Value → Mem → Prop), Wp d 135 49 L [.int a] M Q ↔ (if a = 0 then Wp d 135 86 L [] M Q else Wp d 135 52 L [] M Q)) ∧
    (∀ (d : Nat) (v0 : Value) (v1 : Value) (v2 : Value) (v3 : Value) (x : Int32) (L : List Value) (M : Mem) (Q : Option Value → Mem → Prop), Wp d 135 52 (v0 :: v1 :: v2 :: v3 :: .int x :: L) [] M Q ↔ Wp d 135 54 (v0 :: v1 :: v2 :: v3 :: .int x :: L) [.int x] M Q) ∧
    (∀ (d : Nat) (a : Int32) (L : List Value) (M : Mem) (Q : Option Value → Mem → Prop), Wp d 135 54 L [.int a] M Q ↔ Wp d 135 55 L [.int (-1), .int a] M Q) ∧
    (∀ (d : Nat) (a : Int32) (b : Int32) (L : List Value) (M : Mem) (Q : Option Value → Mem → Prop), Wp d 135 55 L [.int a, .int b] M Q ↔ (if b = a then Wp d 135 81 L [] M Q else Wp d 135 58 L [] M Q)) ∧
    (∀ (d : Nat) (x : Nat) (L : List Value) (M : Mem) (Q : Option Value → Mem → Prop), Wp d 135 58 (.ref x :: L) [] M Q ↔ Wp d 135 59 (.ref x :: L) [.ref x] M Q) ∧
    (∀ (d : Nat) (a : Nat) (L : List Value) (M : Mem) (Q : Option Value → Mem → Prop), Wp d 135 59 L [.ref a] M Q ↔ (isK a 12 = true ∧ Wp d 135 62 L [.ref (rt a 0)] M Q)) ∧
    (∀ (d : Nat) (a : Nat) (L : List Value) (M : Mem) (Q : Option Value → Mem → Prop), Wp d 135 62 L [.ref a] M Q ↔ Wp d 135 64 L [.int 26, .ref a] M Q) ∧
    (∀ (d : Nat) (a : Int32) (b : Nat) (v0 : Value) (v1 : Value) (v2 : Value) (v3 : Value) (v4 : Value) (x : Int32) (L : List Value) (M : Mem) (Q : Option Value → Mem → Prop), Wp d 135 64 (v0 :: v1 :: v2 :: v3 :: v4 :: .int x :: L) [.int a, .ref b] M Q ↔ Wp d 135 66 (v0 :: v1 :: v2 :: v3 :: v4 :: .int x :: L) [.int x, .int a, .ref b] M Q) ∧
    (∀ (d : Nat) (a : Int32) (b : Int32) (c : Nat) (L : List Value) (M : Mem) (Q : Option Value → Mem → Prop), Wp d 135 66 L [.int a, .int b, .ref c] M Q ↔ Wp d 135 67 L [.int (b + a), .ref c] M Q) ∧
    (∀ (d : Nat) (a : Int32) (b : Nat) (L : List Value) (M : Mem) (Q : Option Value → Mem → Prop), Wp d 135 67 L [.int a, .ref b] M Q ↔ ((isR b = true ∧ inr a (lnm M b)) ∧ Wp d 135 68 L [.int (M b a.toNatClampNeg)] M Q)) ∧
    (∀ (d : Nat) (a : Int32) (x : Nat) (L : List Value) (M : Mem) (Q : Option Value → Mem → Prop), Wp d 135 68 (.ref x :: L) [.int a] M Q ↔ Wp d 135 69 (.ref x :: L) [.ref x, .int a] M Q) ∧
    (∀ (d : Nat) (a : Nat) (b : Int32) (L : List Value) (M : Mem) (Q : Option Value → Mem → Prop), Wp d 135 69 L [.ref a, .int b] M Q ↔ (isK a 12 = true ∧ Wp d 135 72 L [.ref (rt a 0), .int b] M Q)) ∧
    (∀ (d : Nat) (a : Nat) (b : Int32) (L : List Value) (M : Mem) (Q : Option Value → Mem → Prop), Wp d 135 72 L [.ref a, .int b] M Q ↔ Wp d 135 74 L [.int 26, .ref a, .int b] M Q) ∧
    (∀ (d : Nat) (a : Int32) (b : Nat) (c : Int32) (v0 : Value) (v1 : Value) (v2 : Value) (v3 : Value) (x : Int32) (L : List Value) (M : Mem) (Q : Option Value → Mem → Prop), Wp d 135 74 (v0 :: v1 :: v2 :: v3 :: .int x :: L) [.int a, .ref b, .int c] M Q ↔ Wp d 135 76 (v0 :: v1 :: v2 :: v3 :: .int x :: L) [.int x, .int a, .ref b, .int c] M Q) ∧
    (∀ (d : Nat) (a : Int32) (b : Int32) (c : Nat) (d2 : Int32) (L : List Value) (M : Mem) (Q : Option Value → Mem → Prop), Wp d 135 76 L [.int a, .int b, .ref c, .int d2] M Q ↔ Wp d 135 77 L [.int (b + a), .ref c, .int d2] M Q) ∧
    (∀ (d : Nat) (a : Int32) (b : Nat) (c : Int32) (L : List Value) (M : Mem) (Q : Option Value → Mem → Prop), Wp d 135 77 L [.int a, .ref b, .int c] M Q ↔ ((isR b = true ∧ inr a (lnm M b)) ∧ Wp d 135 78 L [.int (M b a.toNatClampNeg), .int c] M Q)) ∧
    (∀ (d : Nat) (a : Int32) (b : Int32) (L : List Value) (M : Mem) (Q : Option Value → Mem → Prop), Wp d 135 78 L [.int a, .int b] M Q ↔ (if a < b then Wp d 135 81 L [] M Q else Wp d 135 86 L [] M Q)) ∧
    (∀ (d : Nat) (v0 : Value) (v1 : Value) (v2 : Value) (v3 : Value) (v4 : Value) (x : Int32) (L : List Value) (M : Mem) (Q : Option Value → Mem → Prop), Wp d 135 81 (v0 :: v1 :: v2 :: v3 :: v4 :: .int x :: L) [] M Q ↔ Wp d 135 83 (v0 :: v1 :: v2 :: v3 :: v4 :: .int x :: L) [.int x] M Q) ∧
    (∀ (d : Nat) (a : Int32) (L : List Value) (M : Mem) (Q : Option Value → Mem → Prop), Wp d 135 83 L [.int a] M Q ↔ Wp d 135 88 L [.int a] M Q) ∧
    (∀ (d : Nat) (v0 : Value) (v1 : Value) (v2 : Value) (v3 : Value) (x : Int32) (L : List Value) (M : Mem) (Q : Option Value → Mem → Prop), Wp d 135 86 (v0 :: v1 :: v2 :: v3 :: .int x :: L) [] M Q ↔ Wp d 135 88 (v0 :: v1 :: v2 :: v3 :: .int x :: L) [.int x] M Q) ∧
    (∀ (d : Nat) (a : Int32) (v0 : Value) (v1 : Value) (v2 : Value) (v3 : Value) (x : Value) (L : List Value) (M : Mem) (Q : Option Value → Mem → Prop), Wp d 135 88 (v0 :: v1 :: v2 :: v3 :: x :: L) [.int a] M Q ↔ Wp d 135 90 (v0 :: v1 :: v2 :: clr v3 :: .int a :: L) [] M Q) ∧
    (∀ (d : Nat) (v0 : Value) (v1 : Value) (v2 : Value) (v3 : Value) (v4 : Value) (x : Int32) (L : List Value) (M : Mem) (Q : Option Value → Mem → Prop), Wp d 135 90 (v0 :: v1 :: v2 :: v3 :: v4 :: .int x :: L) [] M Q ↔ Wp d 135 93 (v0 :: v1 :: v2 :: v3 :: clr v4 :: .int (x + 1) :: L) [] M Q) ∧
    (∀ (d : Nat) (L : List Value) (M : Mem) (Q : Option Value → Mem → Prop), Wp d 135 93 L [] M Q ↔ Wp d 135 32 L [] M Q) ∧
    (∀ (d : Nat) (v0 : Value) (v1 : Value) (v2 : Value) (v3 : Value) (x : Int32) (L : List Value) (M : Mem) (Q : Option Value → Mem → Prop), Wp d 135 96 (v0 :: v1 :: v2 :: v3 :: .int x :: L) [] M Q ↔ Wp d 135 98 (v0 :: v1 :: v2 :: v3 :: .int x :: L) [.int x] M Q) ∧
    (∀ (d : Nat) (a : Int32) (L : List Value) (M : Mem) (Q : Option Value → Mem → Prop), Wp d 135 98 L [.int a] M Q ↔ Wp d 135 99 L [.int (-1), .int a] M Q) ∧
    (∀ (d : Nat) (a : Int32) (b : Int32) (L : List Value) (M : Mem) (Q : Option Value → Mem → Prop), Wp d 135 99 L [.int a, .int b] M Q ↔ (if b = a then Wp d 135 102 L [] M Q else Wp d 135 106 L [] M Q)) ∧
    (∀ (d : Nat) (L : List Value) (M : Mem) (Q : Option Value → Mem → Prop), Wp d 135 102 L [] M Q ↔ Wp d 135 103 L [.int 0] M Q) ∧
    (∀ (d : Nat) (a : Int32) (L : List Value) (M : Mem) (Q : Option Value → Mem → Prop), Wp d 135 103 L [.int a] M Q ↔ Wp d 135 116 L [.int a] M Q) ∧
    (∀ (d : Nat) (x : Nat) (L : List Value) (M : Mem) (Q : Option Value → Mem → Prop), Wp d 135 106 (.ref x :: L) [] M Q ↔ Wp d 135 107 (.ref x :: L) [.ref x] M Q) ∧
    (∀ (d : Nat) (a : Nat) (L : List Value) (M : Mem) (Q : Option Value → Mem → Prop), Wp d 135 107 L [.ref a] M Q ↔ (isK a 12 = true ∧ Wp d 135 110 L [.ref (rt a 0)] M Q)) ∧
    (∀ (d : Nat) (a : Nat) (L : List Value) (M : Mem) (Q : Option Value → Mem → Prop), Wp d 135 110 L [.ref a] M Q ↔ Wp d 135 112 L [.int 26, .ref a] M Q) := by
  refine ⟨?_, ?_, ?_, ?_, ?_, ?_, ?_, ?_, ?_, ?_, ?_, ?_, ?_, ?_, ?_, ?_, ?_, ?_, ?_, ?_, ?_, ?_, ?_, ?_, ?_, ?_, ?_, ?_, ?_, ?_, ?_, ?_, ?_, ?_, ?_, ?_, ?_, ?_, ?_, ?_, ?_, ?_, ?_, ?_, ?_, ?_, ?_, ?_, ?_, ?_, ?_, ?_, ?_, ?_, ?_, ?_, ?_, ?_, ?_, ?_⟩
  · intro d x L M Q; exact Wp_sim (by decide +kernel : decode (cd 135) 0 = .ok (.aload_n 0, 1)) rfl rfl
  · intro d a L M Q; exact Wp_sim (by decide +kernel : decode (cd 135) 1 = .ok (.iconst 1, 1)) rfl rfl
  · intro d a b L M Q; exact q_invV (pz := 999) (n := 1) (c := 12) (m := 4) (k := b) (As := [.int a]) (rest := []) (by decide +kernel : decode (cd 135) 2 = .ok (.invokevirtual 150, 3)) (by decide +kernel) (by decide +kernel) rfl rfl (Nat.le_of_ble_eq_true rfl) (Nat.le_of_ble_eq_true rfl) rfl
  · intro d a x L M Q; exact Wp_sim (by decide +kernel : decode (cd 135) 5 = .ok (.aload_n 0, 1)) rfl rfl
  · intro d a b L M Q; exact Wp_sim (by decide +kernel : decode (cd 135) 6 = .ok (.iconst 0, 1)) rfl rfl
  · intro d a b c L M Q; exact q_invV (pz := 999) (n := 1) (c := 12) (m := 4) (k := b) (As := [.int a]) (rest := [.int c]) (by decide +kernel : decode (cd 135) 7 = .ok (.invokevirtual 150, 3)) (by decide +kernel) (by decide +kernel) rfl rfl (Nat.le_of_ble_eq_true rfl) (Nat.le_of_ble_eq_true rfl) rfl
  · intro d a b L M Q; exact Wp_sim (by decide +kernel : decode (cd 135) 10 = .ok (.ior , 1)) rfl rfl
  · intro d a v0 x L M Q; exact Wp_sim (by decide +kernel : decode (cd 135) 11 = .ok (.istore_n 1, 1)) rfl rfl
  · intro d L M Q; exact Wp_sim (by decide +kernel : decode (cd 135) 12 = .ok (.iconst 0, 1)) rfl rfl
  · intro d a v0 v1 x L M Q; exact Wp_sim (by decide +kernel : decode (cd 135) 13 = .ok (.istore_n 2, 1)) rfl rfl
  · intro d L M Q; exact Wp_sim (by decide +kernel : decode (cd 135) 14 = .ok (.iconst 0, 1)) rfl rfl
  · intro d a v0 v1 v2 x L M Q; exact Wp_sim (by decide +kernel : decode (cd 135) 15 = .ok (.istore_n 3, 1)) rfl rfl
  · intro d a x L M Q; exact Wp_sim (by decide +kernel : decode (cd 135) 17 = .ok (.aload_n 0, 1)) rfl rfl
  · intro d a b L M Q; exact q_getR (p := 843) (by decide +kernel : decode (cd 135) 18 = .ok (.getfield 7, 3)) (by decide +kernel) (by decide +kernel)
  · intro d a b L M Q; exact Wp_sim (by decide +kernel : decode (cd 135) 21 = .ok (.iconst 1, 1)) rfl rfl
  · intro d a b c L M Q; exact q_ald (by decide +kernel : decode (cd 135) 22 = .ok (.iaload , 1))
  · intro d a b L M Q; exact q_igt (by decide +kernel : decode (cd 135) 23 = .ok (.if_icmp .gt 119, 3)) (by decide)
  · intro d L M Q; exact Wp_sim (by decide +kernel : decode (cd 135) 26 = .ok (.iconst (-1), 1)) rfl rfl
  · intro d a v0 v1 v2 v3 x L M Q; exact Wp_sim (by decide +kernel : decode (cd 135) 27 = .ok (.istore 4, 2)) rfl rfl
  · intro d L M Q; exact Wp_sim (by decide +kernel : decode (cd 135) 29 = .ok (.iconst 0, 1)) rfl rfl
  · intro d a v0 v1 v2 v3 v4 x L M Q; exact Wp_sim (by decide +kernel : decode (cd 135) 30 = .ok (.istore 5, 2)) rfl rfl
  · intro d a x L M Q; exact Wp_sim (by decide +kernel : decode (cd 135) 34 = .ok (.aload_n 0, 1)) rfl rfl
  · intro d a b L M Q; exact q_getR (p := 843) (by decide +kernel : decode (cd 135) 35 = .ok (.getfield 7, 3)) (by decide +kernel) (by decide +kernel)
  · intro d a b L M Q; exact Wp_sim (by decide +kernel : decode (cd 135) 38 = .ok (.iconst 4, 1)) rfl rfl
  · intro d a b c L M Q; exact q_ald (by decide +kernel : decode (cd 135) 39 = .ok (.iaload , 1))
  · intro d a b L M Q; exact q_ige (by decide +kernel : decode (cd 135) 40 = .ok (.if_icmp .ge 56, 3)) (by decide)
  · intro d v0 x L M Q; exact Wp_sim (by decide +kernel : decode (cd 135) 43 = .ok (.iload_n 1, 1)) rfl rfl
  · intro d a v0 v1 v2 v3 v4 x L M Q; exact Wp_sim (by decide +kernel : decode (cd 135) 44 = .ok (.iload 5, 2)) rfl rfl
  · intro d a b L M Q; exact q_invS (pz := 1007) (n := 2) (m := 2) (As := [.int b, .int a]) (rest := []) (by decide +kernel : decode (cd 135) 46 = .ok (.invokestatic 154, 3)) (by decide +kernel) (by decide +kernel) (by decide +kernel) rfl rfl (Nat.le_of_ble_eq_true rfl) (Nat.le_of_ble_eq_true rfl) rfl
  · intro d a L M Q; exact q_zeq (by decide +kernel : decode (cd 135) 49 = .ok (.ifCond .eq 37, 3)) (by decide)
  · intro d v0 v1 v2 v3 x L M Q; exact Wp_sim (by decide +kernel : decode (cd 135) 52 = .ok (.iload 4, 2)) rfl rfl
  · intro d a L M Q; exact Wp_sim (by decide +kernel : decode (cd 135) 54 = .ok (.iconst (-1), 1)) rfl rfl
  · intro d a b L M Q; exact q_ieq (by decide +kernel : decode (cd 135) 55 = .ok (.if_icmp .eq 26, 3)) (by decide)
  · intro d x L M Q; exact Wp_sim (by decide +kernel : decode (cd 135) 58 = .ok (.aload_n 0, 1)) rfl rfl
  · intro d a L M Q; exact q_getR (p := 843) (by decide +kernel : decode (cd 135) 59 = .ok (.getfield 7, 3)) (by decide +kernel) (by decide +kernel)
  · intro d a L M Q; exact Wp_sim (by decide +kernel : decode (cd 135) 62 = .ok (.bipush 26, 2)) rfl rfl
  · intro d a b v0 v1 v2 v3 v4 x L M Q; exact Wp_sim (by decide +kernel : decode (cd 135) 64 = .ok (.iload 5, 2)) rfl rfl
  · intro d a b c L M Q; exact Wp_sim (by decide +kernel : decode (cd 135) 66 = .ok (.iadd , 1)) rfl rfl
  · intro d a b L M Q; exact q_ald (by decide +kernel : decode (cd 135) 67 = .ok (.iaload , 1))
  · intro d a x L M Q; exact Wp_sim (by decide +kernel : decode (cd 135) 68 = .ok (.aload_n 0, 1)) rfl rfl
  · intro d a b L M Q; exact q_getR (p := 843) (by decide +kernel : decode (cd 135) 69 = .ok (.getfield 7, 3)) (by decide +kernel) (by decide +kernel)
  · intro d a b L M Q; exact Wp_sim (by decide +kernel : decode (cd 135) 72 = .ok (.bipush 26, 2)) rfl rfl
  · intro d a b c v0 v1 v2 v3 x L M Q; exact Wp_sim (by decide +kernel : decode (cd 135) 74 = .ok (.iload 4, 2)) rfl rfl
  · intro d a b c d2 L M Q; exact Wp_sim (by decide +kernel : decode (cd 135) 76 = .ok (.iadd , 1)) rfl rfl
  · intro d a b c L M Q; exact q_ald (by decide +kernel : decode (cd 135) 77 = .ok (.iaload , 1))
  · intro d a b L M Q; exact q_ile (by decide +kernel : decode (cd 135) 78 = .ok (.if_icmp .le 8, 3)) (by decide)
  · intro d v0 v1 v2 v3 v4 x L M Q; exact Wp_sim (by decide +kernel : decode (cd 135) 81 = .ok (.iload 5, 2)) rfl rfl
  · intro d a L M Q; exact q_goto (by decide +kernel : decode (cd 135) 83 = .ok (.goto 5, 3)) (by decide)
  · intro d v0 v1 v2 v3 x L M Q; exact Wp_sim (by decide +kernel : decode (cd 135) 86 = .ok (.iload 4, 2)) rfl rfl
  · intro d a v0 v1 v2 v3 x L M Q; exact Wp_sim (by decide +kernel : decode (cd 135) 88 = .ok (.istore 4, 2)) rfl rfl
  · intro d v0 v1 v2 v3 v4 x L M Q; exact Wp_sim (by decide +kernel : decode (cd 135) 90 = .ok (.iinc 5 1, 3)) rfl rfl
  · intro d L M Q; exact q_goto (by decide +kernel : decode (cd 135) 93 = .ok (.goto (-61), 3)) (by decide)
  · intro d v0 v1 v2 v3 x L M Q; exact Wp_sim (by decide +kernel : decode (cd 135) 96 = .ok (.iload 4, 2)) rfl rfl
  · intro d a L M Q; exact Wp_sim (by decide +kernel : decode (cd 135) 98 = .ok (.iconst (-1), 1)) rfl rfl
  · intro d a b L M Q; exact q_ine (by decide +kernel : decode (cd 135) 99 = .ok (.if_icmp .ne 7, 3)) (by decide)
  · intro d L M Q; exact Wp_sim (by decide +kernel : decode (cd 135) 102 = .ok (.iconst 0, 1)) rfl rfl
  · intro d a L M Q; exact q_goto (by decide +kernel : decode (cd 135) 103 = .ok (.goto 13, 3)) (by decide)
  · intro d x L M Q; exact Wp_sim (by decide +kernel : decode (cd 135) 106 = .ok (.aload_n 0, 1)) rfl rfl
  · intro d a L M Q; exact q_getR (p := 843) (by decide +kernel : decode (cd 135) 107 = .ok (.getfield 7, 3)) (by decide +kernel) (by decide +kernel)
  · intro d a L M Q; exact Wp_sim (by decide +kernel : decode (cd 135) 110 = .ok (.bipush 26, 2)) rfl rfl
set_option maxRecDepth 10000 in
theorem e135_1 : (∀ (d : Nat) (a : Int32) (b : Nat) (v0 : Value) (v1 : Value) (v2 : Value) (v3 : Value) (x : Int32) (L : List Value) (M : Mem) (Q : Option Value → Mem → Prop), Wp d 135 112 (v0 :: v1 :: v2 :: v3 :: .int x :: L) [.int a, .ref b] M Q ↔ Wp d 135 114 (v0 :: v1 :: v2 :: v3 :: .int x :: L) [.int x, .int a, .ref b] M Q) ∧
    (∀ (d : Nat) (a : Int32) (b : Int32) (c : Nat) (L : List Value) (M : Mem) (Q : Option Value → Mem → Prop), Wp d 135 114 L [.int a, .int b, .ref c] M Q ↔ Wp d 135 115 L [.int (b + a), .ref c] M Q) ∧
    (∀ (d : Nat) (a : Int32) (b : Nat) (L : List Value) (M : Mem) (Q : Option Value → Mem → Prop), Wp d 135 115 L [.int a, .ref b] M Q ↔ ((isR b = true ∧ inr a (lnm M b)) ∧ Wp d 135 116 L [.int (M b a.toNatClampNeg)] M Q)) ∧
    (∀ (d : Nat) (a : Int32) (v0 : Value) (v1 : Value) (x : Value) (L : List Value) (M : Mem) (Q : Option Value → Mem → Prop), Wp d 135 116 (v0 :: v1 :: x :: L) [.int a] M Q ↔ Wp d 135 117 (v0 :: clr v1 :: .int a :: L) [] M Q) ∧
    (∀ (d : Nat) (v0 : Value) (x : Int32) (L : List Value) (M : Mem) (Q : Option Value → Mem → Prop), Wp d 135 117 (v0 :: .int x :: L) [] M Q ↔ Wp d 135 118 (v0 :: .int x :: L) [.int x] M Q) ∧
    (∀ (d : Nat) (a : Int32) (v0 : Value) (v1 : Value) (v2 : Value) (v3 : Value) (x : Int32) (L : List Value) (M : Mem) (Q : Option Value → Mem → Prop), Wp d 135 118 (v0 :: v1 :: v2 :: v3 :: .int x :: L) [.int a] M Q ↔ Wp d 135 120 (v0 :: v1 :: v2 :: v3 :: .int x :: L) [.int x, .int a] M Q) ∧
    (∀ (d : Nat) (a : Int32) (b : Int32) (L : List Value) (M : Mem) (Q : Option Value → Mem → Prop), Wp d 135 120 L [.int a, .int b] M Q ↔ Wp d 135 121 L [.int (-1), .int a, .int b] M Q) ∧
    (∀ (d : Nat) (a : Int32) (b : Int32) (c : Int32) (L : List Value) (M : Mem) (Q : Option Value → Mem → Prop), Wp d 135 121 L [.int a, .int b, .int c] M Q ↔ (if b = a then Wp d 135 124 L [.int c] M Q else Wp d 135 128 L [.int c] M Q)) ∧
    (∀ (d : Nat) (a : Int32) (L : List Value) (M : Mem) (Q : Option Value → Mem → Prop), Wp d 135 124 L [.int a] M Q ↔ Wp d 135 125 L [.int 0, .int a] M Q) ∧
    (∀ (d : Nat) (a : Int32) (b : Int32) (L : List Value) (M : Mem) (Q : Option Value → Mem → Prop), Wp d 135 125 L [.int a, .int b] M Q ↔ Wp d 135 134 L [.int a, .int b] M Q) ∧
    (∀ (d : Nat) (a : Int32) (L : List Value) (M : Mem) (Q : Option Value → Mem → Prop), Wp d 135 128 L [.int a] M Q ↔ Wp d 135 129 L [.int 1, .int a] M Q) ∧
    (∀ (d : Nat) (a : Int32) (b : Int32) (v0 : Value) (v1 : Value) (v2 : Value) (v3 : Value) (x : Int32) (L : List Value) (M : Mem) (Q : Option Value → Mem → Prop), Wp d 135 129 (v0 :: v1 :: v2 :: v3 :: .int x :: L) [.int a, .int b] M Q ↔ Wp d 135 131 (v0 :: v1 :: v2 :: v3 :: .int x :: L) [.int x, .int a, .int b] M Q) ∧
    (∀ (d : Nat) (a : Int32) (b : Int32) (c : Int32) (L : List Value) (M : Mem) (Q : Option Value → Mem → Prop), Wp d 135 131 L [.int a, .int b, .int c] M Q ↔ Wp d 135 132 L [.int (b <<< (a &&& 31)), .int c] M Q) ∧
    (∀ (d : Nat) (a : Int32) (b : Int32) (L : List Value) (M : Mem) (Q : Option Value → Mem → Prop), Wp d 135 132 L [.int a, .int b] M Q ↔ Wp d 135 133 L [.int (-1), .int a, .int b] M Q) ∧
    (∀ (d : Nat) (a : Int32) (b : Int32) (c : Int32) (L : List Value) (M : Mem) (Q : Option Value → Mem → Prop), Wp d 135 133 L [.int a, .int b, .int c] M Q ↔ Wp d 135 134 L [.int (b ^^^ a), .int c] M Q) ∧
    (∀ (d : Nat) (a : Int32) (b : Int32) (L : List Value) (M : Mem) (Q : Option Value → Mem → Prop), Wp d 135 134 L [.int a, .int b] M Q ↔ Wp d 135 135 L [.int (b &&& a)] M Q) ∧
    (∀ (d : Nat) (a : Int32) (v0 : Value) (x : Value) (L : List Value) (M : Mem) (Q : Option Value → Mem → Prop), Wp d 135 135 (v0 :: x :: L) [.int a] M Q ↔ Wp d 135 136 (clr v0 :: .int a :: L) [] M Q) ∧
    (∀ (d : Nat) (v0 : Value) (v1 : Value) (v2 : Value) (x : Int32) (L : List Value) (M : Mem) (Q : Option Value → Mem → Prop), Wp d 135 136 (v0 :: v1 :: v2 :: .int x :: L) [] M Q ↔ Wp d 135 139 (v0 :: v1 :: clr v2 :: .int (x + 1) :: L) [] M Q) ∧
    (∀ (d : Nat) (L : List Value) (M : Mem) (Q : Option Value → Mem → Prop), Wp d 135 139 L [] M Q ↔ Wp d 135 16 L [] M Q) ∧
    (∀ (d : Nat) (x : Nat) (L : List Value) (M : Mem) (Q : Option Value → Mem → Prop), Wp d 135 142 (.ref x :: L) [] M Q ↔ Wp d 135 143 (.ref x :: L) [.ref x] M Q) ∧
    (∀ (d : Nat) (a : Nat) (L : List Value) (M : Mem) (Q : Option Value → Mem → Prop), Wp d 135 143 L [.ref a] M Q ↔ (isK a 12 = true ∧ Wp d 135 146 L [.ref (rt a 0)] M Q)) ∧
    (∀ (d : Nat) (a : Nat) (L : List Value) (M : Mem) (Q : Option Value → Mem → Prop), Wp d 135 146 L [.ref a] M Q ↔ Wp d 135 147 L [.int 1, .ref a] M Q) ∧
    (∀ (d : Nat) (a : Int32) (b : Nat) (L : List Value) (M : Mem) (Q : Option Value → Mem → Prop), Wp d 135 147 L [.int a, .ref b] M Q ↔ ((isR b = true ∧ inr a (lnm M b)) ∧ Wp d 135 148 L [.int (M b a.toNatClampNeg)] M Q)) ∧
    (∀ (d : Nat) (a : Int32) (L : List Value) (M : Mem) (Q : Option Value → Mem → Prop), Wp d 135 148 L [.int a] M Q ↔ (if a = 0 then Wp d 135 151 L [] M Q else Wp d 135 155 L [] M Q)) ∧
    (∀ (d : Nat) (L : List Value) (M : Mem) (Q : Option Value → Mem → Prop), Wp d 135 151 L [] M Q ↔ Wp d 135 152 L [.int 0] M Q) ∧
    (∀ (d : Nat) (a : Int32) (L : List Value) (M : Mem) (Q : Option Value → Mem → Prop), Wp d 135 152 L [.int a] M Q ↔ Wp d 135 156 L [.int a] M Q) ∧
    (∀ (d : Nat) (v0 : Value) (v1 : Value) (x : Int32) (L : List Value) (M : Mem) (Q : Option Value → Mem → Prop), Wp d 135 155 (v0 :: v1 :: .int x :: L) [] M Q ↔ Wp d 135 156 (v0 :: v1 :: .int x :: L) [.int x] M Q) ∧
    (∀ (d : Nat) (a : Int32) (L : List Value) (M : Mem) (Q : Option Value → Mem → Prop), Wp d 135 156 L [.int a] M Q ↔ Q (some (.int a)) M) := by
  refine ⟨?_, ?_, ?_, ?_, ?_, ?_, ?_, ?_, ?_, ?_, ?_, ?_, ?_, ?_, ?_, ?_, ?_, ?_, ?_, ?_, ?_, ?_, ?_, ?_, ?_, ?_, ?_, ?_⟩
  · intro d a b v0 v1 v2 v3 x L M Q; exact Wp_sim (by decide +kernel : decode (cd 135) 112 = .ok (.iload 4, 2)) rfl rfl
  · intro d a b c L M Q; exact Wp_sim (by decide +kernel : decode (cd 135) 114 = .ok (.iadd , 1)) rfl rfl
  · intro d a b L M Q; exact q_ald (by decide +kernel : decode (cd 135) 115 = .ok (.iaload , 1))
  · intro d a v0 v1 x L M Q; exact Wp_sim (by decide +kernel : decode (cd 135) 116 = .ok (.istore_n 2, 1)) rfl rfl
  · intro d v0 x L M Q; exact Wp_sim (by decide +kernel : decode (cd 135) 117 = .ok (.iload_n 1, 1)) rfl rfl
  · intro d a v0 v1 v2 v3 x L M Q; exact Wp_sim (by decide +kernel : decode (cd 135) 118 = .ok (.iload 4, 2)) rfl rfl
  · intro d a b L M Q; exact Wp_sim (by decide +kernel : decode (cd 135) 120 = .ok (.iconst (-1), 1)) rfl rfl
  · intro d a b c L M Q; exact q_ine (by decide +kernel : decode (cd 135) 121 = .ok (.if_icmp .ne 7, 3)) (by decide)
  · intro d a L M Q; exact Wp_sim (by decide +kernel : decode (cd 135) 124 = .ok (.iconst 0, 1)) rfl rfl
  · intro d a b L M Q; exact q_goto (by decide +kernel : decode (cd 135) 125 = .ok (.goto 9, 3)) (by decide)
  · intro d a L M Q; exact Wp_sim (by decide +kernel : decode (cd 135) 128 = .ok (.iconst 1, 1)) rfl rfl
  · intro d a b v0 v1 v2 v3 x L M Q; exact Wp_sim (by decide +kernel : decode (cd 135) 129 = .ok (.iload 4, 2)) rfl rfl
  · intro d a b c L M Q; exact Wp_sim (by decide +kernel : decode (cd 135) 131 = .ok (.ishl , 1)) rfl rfl
  · intro d a b L M Q; exact Wp_sim (by decide +kernel : decode (cd 135) 132 = .ok (.iconst (-1), 1)) rfl rfl
  · intro d a b c L M Q; exact Wp_sim (by decide +kernel : decode (cd 135) 133 = .ok (.ixor , 1)) rfl rfl
  · intro d a b L M Q; exact Wp_sim (by decide +kernel : decode (cd 135) 134 = .ok (.iand , 1)) rfl rfl
  · intro d a v0 x L M Q; exact Wp_sim (by decide +kernel : decode (cd 135) 135 = .ok (.istore_n 1, 1)) rfl rfl
  · intro d v0 v1 v2 x L M Q; exact Wp_sim (by decide +kernel : decode (cd 135) 136 = .ok (.iinc 3 1, 3)) rfl rfl
  · intro d L M Q; exact q_goto (by decide +kernel : decode (cd 135) 139 = .ok (.goto (-123), 3)) (by decide)
  · intro d x L M Q; exact Wp_sim (by decide +kernel : decode (cd 135) 142 = .ok (.aload_n 0, 1)) rfl rfl
  · intro d a L M Q; exact q_getR (p := 843) (by decide +kernel : decode (cd 135) 143 = .ok (.getfield 7, 3)) (by decide +kernel) (by decide +kernel)
  · intro d a L M Q; exact Wp_sim (by decide +kernel : decode (cd 135) 146 = .ok (.iconst 1, 1)) rfl rfl
  · intro d a b L M Q; exact q_ald (by decide +kernel : decode (cd 135) 147 = .ok (.iaload , 1))
  · intro d a L M Q; exact q_zne (by decide +kernel : decode (cd 135) 148 = .ok (.ifCond .ne 7, 3)) (by decide)
  · intro d L M Q; exact Wp_sim (by decide +kernel : decode (cd 135) 151 = .ok (.iconst 0, 1)) rfl rfl
  · intro d a L M Q; exact q_goto (by decide +kernel : decode (cd 135) 152 = .ok (.goto 4, 3)) (by decide)
  · intro d v0 v1 x L M Q; exact Wp_sim (by decide +kernel : decode (cd 135) 155 = .ok (.iload_n 2, 1)) rfl rfl
  · intro d a L M Q; exact q_iret (by decide +kernel : decode (cd 135) 156 = .ok (.ireturn , 1)) (by decide +kernel)
theorem h135_16 : (∀ (d : Nat) (v0 : Value) (v1 : Value) (v2 : Value) (x : Int32) (L : List Value) (M : Mem) (Q : Option Value → Mem → Prop), Wp d 135 16 (v0 :: v1 :: v2 :: .int x :: L) [] M Q ↔ Wp d 135 17 (v0 :: v1 :: v2 :: .int x :: L) [.int x] M Q) := by
  intro d v0 v1 v2 x L M Q; exact Wp_sim (by decide +kernel : decode (cd 135) 16 = .ok (.iload_n 3, 1)) rfl rfl
theorem h135_32 : (∀ (d : Nat) (v0 : Value) (v1 : Value) (v2 : Value) (v3 : Value) (v4 : Value) (x : Int32) (L : List Value) (M : Mem) (Q : Option Value → Mem → Prop), Wp d 135 32 (v0 :: v1 :: v2 :: v3 :: v4 :: .int x :: L) [] M Q ↔ Wp d 135 34 (v0 :: v1 :: v2 :: v3 :: v4 :: .int x :: L) [.int x] M Q) := by
  intro d v0 v1 v2 v3 v4 x L M Q; exact Wp_sim (by decide +kernel : decode (cd 135) 32 = .ok (.iload 5, 2)) rfl rfl

/- 136: PalaceYardModel.cleared -/
set_option maxRecDepth 10000 in
theorem e136 : (∀ (d : Nat) (L : List Value) (M : Mem) (Q : Option Value → Mem → Prop), Wp d 136 0 L [] M Q ↔ Wp d 136 1 L [.int 0] M Q) ∧
    (∀ (d : Nat) (a : Int32) (v0 : Value) (x : Value) (L : List Value) (M : Mem) (Q : Option Value → Mem → Prop), Wp d 136 1 (v0 :: x :: L) [.int a] M Q ↔ Wp d 136 2 (clr v0 :: .int a :: L) [] M Q) ∧
    (∀ (d : Nat) (L : List Value) (M : Mem) (Q : Option Value → Mem → Prop), Wp d 136 2 L [] M Q ↔ Wp d 136 3 L [.int 0] M Q) ∧
    (∀ (d : Nat) (a : Int32) (v0 : Value) (v1 : Value) (x : Value) (L : List Value) (M : Mem) (Q : Option Value → Mem → Prop), Wp d 136 3 (v0 :: v1 :: x :: L) [.int a] M Q ↔ Wp d 136 4 (v0 :: clr v1 :: .int a :: L) [] M Q) ∧
    (∀ (d : Nat) (a : Int32) (L : List Value) (M : Mem) (Q : Option Value → Mem → Prop), Wp d 136 5 L [.int a] M Q ↔ Wp d 136 7 L [.int 6, .int a] M Q) ∧
    (∀ (d : Nat) (a : Int32) (b : Int32) (L : List Value) (M : Mem) (Q : Option Value → Mem → Prop), Wp d 136 7 L [.int a, .int b] M Q ↔ (if b < a then Wp d 136 10 L [] M Q else Wp d 136 63 L [] M Q)) ∧
    (∀ (d : Nat) (L : List Value) (M : Mem) (Q : Option Value → Mem → Prop), Wp d 136 10 L [] M Q ↔ Wp d 136 11 L [.int 0] M Q) ∧
    (∀ (d : Nat) (a : Int32) (v0 : Value) (v1 : Value) (v2 : Value) (x : Value) (L : List Value) (M : Mem) (Q : Option Value → Mem → Prop), Wp d 136 11 (v0 :: v1 :: v2 :: x :: L) [.int a] M Q ↔ Wp d 136 12 (v0 :: v1 :: clr v2 :: .int a :: L) [] M Q) ∧
    (∀ (d : Nat) (a : Int32) (L : List Value) (M : Mem) (Q : Option Value → Mem → Prop), Wp d 136 13 L [.int a] M Q ↔ Wp d 136 15 L [.int 6, .int a] M Q) ∧
    (∀ (d : Nat) (a : Int32) (b : Int32) (L : List Value) (M : Mem) (Q : Option Value → Mem → Prop), Wp d 136 15 L [.int a, .int b] M Q ↔ (if b < a then Wp d 136 18 L [] M Q else Wp d 136 45 L [] M Q)) ∧
    (∀ (d : Nat) (v0 : Value) (x : Int32) (L : List Value) (M : Mem) (Q : Option Value → Mem → Prop), Wp d 136 18 (v0 :: .int x :: L) [] M Q ↔ Wp d 136 19 (v0 :: .int x :: L) [.int x] M Q) ∧
    (∀ (d : Nat) (a : Int32) (L : List Value) (M : Mem) (Q : Option Value → Mem → Prop), Wp d 136 19 L [.int a] M Q ↔ Wp d 136 20 L [.int 0, .int a] M Q) ∧
    (∀ (d : Nat) (a : Int32) (b : Int32) (x : Nat) (L : List Value) (M : Mem) (Q : Option Value → Mem → Prop), Wp d 136 20 (.ref x :: L) [.int a, .int b] M Q ↔ Wp d 136 21 (.ref x :: L) [.ref x, .int a, .int b] M Q) ∧
    (∀ (d : Nat) (a : Nat) (b : Int32) (c : Int32) (L : List Value) (M : Mem) (Q : Option Value → Mem → Prop), Wp d 136 21 L [.ref a, .int b, .int c] M Q ↔ (isK a 12 = true ∧ Wp d 136 24 L [.ref (rt a 2), .int b, .int c] M Q)) ∧
    (∀ (d : Nat) (a : Nat) (b : Int32) (c : Int32) (L : List Value) (M : Mem) (Q : Option Value → Mem → Prop), Wp d 136 24 L [.ref a, .int b, .int c] M Q ↔ Wp d 136 26 L [.int 12, .ref a, .int b, .int c] M Q) ∧
    (∀ (d : Nat) (a : Int32) (b : Nat) (c : Int32) (d2 : Int32) (L : List Value) (M : Mem) (Q : Option Value → Mem → Prop), Wp d 136 26 L [.int a, .ref b, .int c, .int d2] M Q ↔ Wp d 136 28 L [.int 6, .int a, .ref b, .int c, .int d2] M Q) ∧
    (∀ (d : Nat) (a : Int32) (b : Int32) (c : Nat) (d2 : Int32) (e : Int32) (v0 : Value) (v1 : Value) (x : Int32) (L : List Value) (M : Mem) (Q : Option Value → Mem → Prop), Wp d 136 28 (v0 :: v1 :: .int x :: L) [.int a, .int b, .ref c, .int d2, .int e] M Q ↔ Wp d 136 29 (v0 :: v1 :: .int x :: L) [.int x, .int a, .int b, .ref c, .int d2, .int e] M Q) ∧
    (∀ (d : Nat) (a : Int32) (b : Int32) (c : Int32) (d2 : Nat) (e : Int32) (f : Int32) (L : List Value) (M : Mem) (Q : Option Value → Mem → Prop), Wp d 136 29 L [.int a, .int b, .int c, .ref d2, .int e, .int f] M Q ↔ Wp d 136 30 L [.int (b * a), .int c, .ref d2, .int e, .int f] M Q) ∧
    (∀ (d : Nat) (a : Int32) (b : Int32) (c : Nat) (d2 : Int32) (e : Int32) (L : List Value) (M : Mem) (Q : Option Value → Mem → Prop), Wp d 136 30 L [.int a, .int b, .ref c, .int d2, .int e] M Q ↔ Wp d 136 31 L [.int (b + a), .ref c, .int d2, .int e] M Q) ∧
    (∀ (d : Nat) (a : Int32) (b : Nat) (c : Int32) (d2 : Int32) (v0 : Value) (v1 : Value) (v2 : Value) (x : Int32) (L : List Value) (M : Mem) (Q : Option Value → Mem → Prop), Wp d 136 31 (v0 :: v1 :: v2 :: .int x :: L) [.int a, .ref b, .int c, .int d2] M Q ↔ Wp d 136 32 (v0 :: v1 :: v2 :: .int x :: L) [.int x, .int a, .ref b, .int c, .int d2] M Q) ∧
    (∀ (d : Nat) (a : Int32) (b : Int32) (c : Nat) (d2 : Int32) (e : Int32) (L : List Value) (M : Mem) (Q : Option Value → Mem → Prop), Wp d 136 32 L [.int a, .int b, .ref c, .int d2, .int e] M Q ↔ Wp d 136 33 L [.int (b + a), .ref c, .int d2, .int e] M Q) ∧
    (∀ (d : Nat) (a : Int32) (b : Nat) (c : Int32) (d2 : Int32) (L : List Value) (M : Mem) (Q : Option Value → Mem → Prop), Wp d 136 33 L [.int a, .ref b, .int c, .int d2] M Q ↔ ((isR b = true ∧ inr a (lnm M b)) ∧ Wp d 136 34 L [.int (M b a.toNatClampNeg), .int c, .int d2] M Q)) ∧
    (∀ (d : Nat) (a : Int32) (b : Int32) (c : Int32) (L : List Value) (M : Mem) (Q : Option Value → Mem → Prop), Wp (d + 1) 136 34 L [.int a, .int b, .int c] M Q ↔ Wp d 134 0 [.int b, .int a] [] M (fun r M2 => Wp (d + 1) 136 37 L (r.toList ++ [.int c]) M2 Q)) ∧
    (∀ (d : Nat) (a : Int32) (b : Int32) (L : List Value) (M : Mem) (Q : Option Value → Mem → Prop), Wp d 136 37 L [.int a, .int b] M Q ↔ Wp d 136 38 L [.int (b + a)] M Q) ∧
    (∀ (d : Nat) (a : Int32) (v0 : Value) (x : Value) (L : List Value) (M : Mem) (Q : Option Value → Mem → Prop), Wp d 136 38 (v0 :: x :: L) [.int a] M Q ↔ Wp d 136 39 (clr v0 :: .int a :: L) [] M Q) ∧
    (∀ (d : Nat) (v0 : Value) (v1 : Value) (v2 : Value) (x : Int32) (L : List Value) (M : Mem) (Q : Option Value → Mem → Prop), Wp d 136 39 (v0 :: v1 :: v2 :: .int x :: L) [] M Q ↔ Wp d 136 42 (v0 :: v1 :: clr v2 :: .int (x + 1) :: L) [] M Q) ∧
    (∀ (d : Nat) (L : List Value) (M : Mem) (Q : Option Value → Mem → Prop), Wp d 136 42 L [] M Q ↔ Wp d 136 12 L [] M Q) ∧
    (∀ (d : Nat) (v0 : Value) (x : Int32) (L : List Value) (M : Mem) (Q : Option Value → Mem → Prop), Wp d 136 45 (v0 :: .int x :: L) [] M Q ↔ Wp d 136 46 (v0 :: .int x :: L) [.int x] M Q) ∧
    (∀ (d : Nat) (a : Int32) (L : List Value) (M : Mem) (Q : Option Value → Mem → Prop), Wp d 136 46 L [.int a] M Q ↔ Wp d 136 47 L [.int 0, .int a] M Q) ∧
    (∀ (d : Nat) (a : Int32) (b : Int32) (x : Nat) (L : List Value) (M : Mem) (Q : Option Value → Mem → Prop), Wp d 136 47 (.ref x :: L) [.int a, .int b] M Q ↔ Wp d 136 48 (.ref x :: L) [.ref x, .int a, .int b] M Q) ∧
    (∀ (d : Nat) (a : Nat) (b : Int32) (c : Int32) (v0 : Value) (v1 : Value) (x : Int32) (L : List Value) (M : Mem) (Q : Option Value → Mem → Prop), Wp d 136 48 (v0 :: v1 :: .int x :: L) [.ref a, .int b, .int c] M Q ↔ Wp d 136 49 (v0 :: v1 :: .int x :: L) [.int x, .ref a, .int b, .int c] M Q) ∧
    (∀ (d : Nat) (a : Int32) (b : Nat) (c : Int32) (d2 : Int32) (L : List Value) (M : Mem) (Q : Option Value → Mem → Prop), Wp (d + 1) 136 49 L [.int a, .ref b, .int c, .int d2] M Q ↔ (isK b 12 = true ∧ Wp d 137 0 [.ref b, .int a, .null, .null] [] M (fun r M2 => Wp (d + 1) 136 52 L (r.toList ++ [.int c, .int d2]) M2 Q))) ∧
    (∀ (d : Nat) (a : Int32) (b : Int32) (c : Int32) (L : List Value) (M : Mem) (Q : Option Value → Mem → Prop), Wp (d + 1) 136 52 L [.int a, .int b, .int c] M Q ↔ Wp d 134 0 [.int b, .int a] [] M (fun r M2 => Wp (d + 1) 136 55 L (r.toList ++ [.int c]) M2 Q)) ∧
    (∀ (d : Nat) (a : Int32) (b : Int32) (L : List Value) (M : Mem) (Q : Option Value → Mem → Prop), Wp d 136 55 L [.int a, .int b] M Q ↔ Wp d 136 56 L [.int (b - a)] M Q) ∧
    (∀ (d : Nat) (a : Int32) (v0 : Value) (x : Value) (L : List Value) (M : Mem) (Q : Option Value → Mem → Prop), Wp d 136 56 (v0 :: x :: L) [.int a] M Q ↔ Wp d 136 57 (clr v0 :: .int a :: L) [] M Q) ∧
    (∀ (d : Nat) (v0 : Value) (v1 : Value) (x : Int32) (L : List Value) (M : Mem) (Q : Option Value → Mem → Prop), Wp d 136 57 (v0 :: v1 :: .int x :: L) [] M Q ↔ Wp d 136 60 (v0 :: clr v1 :: .int (x + 1) :: L) [] M Q) ∧
    (∀ (d : Nat) (L : List Value) (M : Mem) (Q : Option Value → Mem → Prop), Wp d 136 60 L [] M Q ↔ Wp d 136 4 L [] M Q) ∧
    (∀ (d : Nat) (v0 : Value) (x : Int32) (L : List Value) (M : Mem) (Q : Option Value → Mem → Prop), Wp d 136 63 (v0 :: .int x :: L) [] M Q ↔ Wp d 136 64 (v0 :: .int x :: L) [.int x] M Q) ∧
    (∀ (d : Nat) (a : Int32) (L : List Value) (M : Mem) (Q : Option Value → Mem → Prop), Wp d 136 64 L [.int a] M Q ↔ Q (some (.int a)) M) := by
  refine ⟨?_, ?_, ?_, ?_, ?_, ?_, ?_, ?_, ?_, ?_, ?_, ?_, ?_, ?_, ?_, ?_, ?_, ?_, ?_, ?_, ?_, ?_, ?_, ?_, ?_, ?_, ?_, ?_, ?_, ?_, ?_, ?_, ?_, ?_, ?_, ?_, ?_, ?_, ?_⟩
  · intro d L M Q; exact Wp_sim (by decide +kernel : decode (cd 136) 0 = .ok (.iconst 0, 1)) rfl rfl
  · intro d a v0 x L M Q; exact Wp_sim (by decide +kernel : decode (cd 136) 1 = .ok (.istore_n 1, 1)) rfl rfl
  · intro d L M Q; exact Wp_sim (by decide +kernel : decode (cd 136) 2 = .ok (.iconst 0, 1)) rfl rfl
  · intro d a v0 v1 x L M Q; exact Wp_sim (by decide +kernel : decode (cd 136) 3 = .ok (.istore_n 2, 1)) rfl rfl
  · intro d a L M Q; exact Wp_sim (by decide +kernel : decode (cd 136) 5 = .ok (.bipush 6, 2)) rfl rfl
  · intro d a b L M Q; exact q_ige (by decide +kernel : decode (cd 136) 7 = .ok (.if_icmp .ge 56, 3)) (by decide)
  · intro d L M Q; exact Wp_sim (by decide +kernel : decode (cd 136) 10 = .ok (.iconst 0, 1)) rfl rfl
  · intro d a v0 v1 v2 x L M Q; exact Wp_sim (by decide +kernel : decode (cd 136) 11 = .ok (.istore_n 3, 1)) rfl rfl
  · intro d a L M Q; exact Wp_sim (by decide +kernel : decode (cd 136) 13 = .ok (.bipush 6, 2)) rfl rfl
  · intro d a b L M Q; exact q_ige (by decide +kernel : decode (cd 136) 15 = .ok (.if_icmp .ge 30, 3)) (by decide)
  · intro d v0 x L M Q; exact Wp_sim (by decide +kernel : decode (cd 136) 18 = .ok (.iload_n 1, 1)) rfl rfl
  · intro d a L M Q; exact Wp_sim (by decide +kernel : decode (cd 136) 19 = .ok (.iconst 0, 1)) rfl rfl
  · intro d a b x L M Q; exact Wp_sim (by decide +kernel : decode (cd 136) 20 = .ok (.aload_n 0, 1)) rfl rfl
  · intro d a b c L M Q; exact q_getR (p := 845) (by decide +kernel : decode (cd 136) 21 = .ok (.getfield 16, 3)) (by decide +kernel) (by decide +kernel)
  · intro d a b c L M Q; exact Wp_sim (by decide +kernel : decode (cd 136) 24 = .ok (.bipush 12, 2)) rfl rfl
  · intro d a b c d2 L M Q; exact Wp_sim (by decide +kernel : decode (cd 136) 26 = .ok (.bipush 6, 2)) rfl rfl
  · intro d a b c d2 e v0 v1 x L M Q; exact Wp_sim (by decide +kernel : decode (cd 136) 28 = .ok (.iload_n 2, 1)) rfl rfl
  · intro d a b c d2 e f L M Q; exact Wp_sim (by decide +kernel : decode (cd 136) 29 = .ok (.imul , 1)) rfl rfl
  · intro d a b c d2 e L M Q; exact Wp_sim (by decide +kernel : decode (cd 136) 30 = .ok (.iadd , 1)) rfl rfl
  · intro d a b c d2 v0 v1 v2 x L M Q; exact Wp_sim (by decide +kernel : decode (cd 136) 31 = .ok (.iload_n 3, 1)) rfl rfl
  · intro d a b c d2 e L M Q; exact Wp_sim (by decide +kernel : decode (cd 136) 32 = .ok (.iadd , 1)) rfl rfl
  · intro d a b c d2 L M Q; exact q_ald (by decide +kernel : decode (cd 136) 33 = .ok (.iaload , 1))
  · intro d a b c L M Q; exact q_invS (pz := 1024) (n := 2) (m := 2) (As := [.int b, .int a]) (rest := [.int c]) (by decide +kernel : decode (cd 136) 34 = .ok (.invokestatic 61, 3)) (by decide +kernel) (by decide +kernel) (by decide +kernel) rfl rfl (Nat.le_of_ble_eq_true rfl) (Nat.le_of_ble_eq_true rfl) rfl
  · intro d a b L M Q; exact Wp_sim (by decide +kernel : decode (cd 136) 37 = .ok (.iadd , 1)) rfl rfl
  · intro d a v0 x L M Q; exact Wp_sim (by decide +kernel : decode (cd 136) 38 = .ok (.istore_n 1, 1)) rfl rfl
  · intro d v0 v1 v2 x L M Q; exact Wp_sim (by decide +kernel : decode (cd 136) 39 = .ok (.iinc 3 1, 3)) rfl rfl
  · intro d L M Q; exact q_goto (by decide +kernel : decode (cd 136) 42 = .ok (.goto (-30), 3)) (by decide)
  · intro d v0 x L M Q; exact Wp_sim (by decide +kernel : decode (cd 136) 45 = .ok (.iload_n 1, 1)) rfl rfl
  · intro d a L M Q; exact Wp_sim (by decide +kernel : decode (cd 136) 46 = .ok (.iconst 0, 1)) rfl rfl
  · intro d a b x L M Q; exact Wp_sim (by decide +kernel : decode (cd 136) 47 = .ok (.aload_n 0, 1)) rfl rfl
  · intro d a b c v0 v1 x L M Q; exact Wp_sim (by decide +kernel : decode (cd 136) 48 = .ok (.iload_n 2, 1)) rfl rfl
  · intro d a b c d2 L M Q; exact q_invV (pz := 1035) (n := 1) (c := 12) (m := 4) (k := b) (As := [.int a]) (rest := [.int c, .int d2]) (by decide +kernel : decode (cd 136) 49 = .ok (.invokevirtual 165, 3)) (by decide +kernel) (by decide +kernel) rfl rfl (Nat.le_of_ble_eq_true rfl) (Nat.le_of_ble_eq_true rfl) rfl
  · intro d a b c L M Q; exact q_invS (pz := 1024) (n := 2) (m := 2) (As := [.int b, .int a]) (rest := [.int c]) (by decide +kernel : decode (cd 136) 52 = .ok (.invokestatic 61, 3)) (by decide +kernel) (by decide +kernel) (by decide +kernel) rfl rfl (Nat.le_of_ble_eq_true rfl) (Nat.le_of_ble_eq_true rfl) rfl
  · intro d a b L M Q; exact Wp_sim (by decide +kernel : decode (cd 136) 55 = .ok (.isub , 1)) rfl rfl
  · intro d a v0 x L M Q; exact Wp_sim (by decide +kernel : decode (cd 136) 56 = .ok (.istore_n 1, 1)) rfl rfl
  · intro d v0 v1 x L M Q; exact Wp_sim (by decide +kernel : decode (cd 136) 57 = .ok (.iinc 2 1, 3)) rfl rfl
  · intro d L M Q; exact q_goto (by decide +kernel : decode (cd 136) 60 = .ok (.goto (-56), 3)) (by decide)
  · intro d v0 x L M Q; exact Wp_sim (by decide +kernel : decode (cd 136) 63 = .ok (.iload_n 1, 1)) rfl rfl
  · intro d a L M Q; exact q_iret (by decide +kernel : decode (cd 136) 64 = .ok (.ireturn , 1)) (by decide +kernel)
theorem h136_4 : (∀ (d : Nat) (v0 : Value) (v1 : Value) (x : Int32) (L : List Value) (M : Mem) (Q : Option Value → Mem → Prop), Wp d 136 4 (v0 :: v1 :: .int x :: L) [] M Q ↔ Wp d 136 5 (v0 :: v1 :: .int x :: L) [.int x] M Q) := by
  intro d v0 v1 x L M Q; exact Wp_sim (by decide +kernel : decode (cd 136) 4 = .ok (.iload_n 2, 1)) rfl rfl
theorem h136_12 : (∀ (d : Nat) (v0 : Value) (v1 : Value) (v2 : Value) (x : Int32) (L : List Value) (M : Mem) (Q : Option Value → Mem → Prop), Wp d 136 12 (v0 :: v1 :: v2 :: .int x :: L) [] M Q ↔ Wp d 136 13 (v0 :: v1 :: v2 :: .int x :: L) [.int x] M Q) := by
  intro d v0 v1 v2 x L M Q; exact Wp_sim (by decide +kernel : decode (cd 136) 12 = .ok (.iload_n 3, 1)) rfl rfl

/- 137: PalaceYardModel.net -/
set_option maxRecDepth 10000 in
theorem e137 : (∀ (d : Nat) (L : List Value) (M : Mem) (Q : Option Value → Mem → Prop), Wp d 137 0 L [] M Q ↔ Wp d 137 1 L [.int 0] M Q) ∧
    (∀ (d : Nat) (a : Int32) (v0 : Value) (v1 : Value) (x : Value) (L : List Value) (M : Mem) (Q : Option Value → Mem → Prop), Wp d 137 1 (v0 :: v1 :: x :: L) [.int a] M Q ↔ Wp d 137 2 (v0 :: clr v1 :: .int a :: L) [] M Q) ∧
    (∀ (d : Nat) (L : List Value) (M : Mem) (Q : Option Value → Mem → Prop), Wp d 137 2 L [] M Q ↔ Wp d 137 3 L [.int 0] M Q) ∧
    (∀ (d : Nat) (a : Int32) (v0 : Value) (v1 : Value) (v2 : Value) (x : Value) (L : List Value) (M : Mem) (Q : Option Value → Mem → Prop), Wp d 137 3 (v0 :: v1 :: v2 :: x :: L) [.int a] M Q ↔ Wp d 137 4 (v0 :: v1 :: clr v2 :: .int a :: L) [] M Q) ∧
    (∀ (d : Nat) (a : Int32) (L : List Value) (M : Mem) (Q : Option Value → Mem → Prop), Wp d 137 5 L [.int a] M Q ↔ Wp d 137 7 L [.int 6, .int a] M Q) ∧
    (∀ (d : Nat) (a : Int32) (b : Int32) (L : List Value) (M : Mem) (Q : Option Value → Mem → Prop), Wp d 137 7 L [.int a, .int b] M Q ↔ (if b < a then Wp d 137 10 L [] M Q else Wp d 137 33 L [] M Q)) ∧
    (∀ (d : Nat) (v0 : Value) (v1 : Value) (x : Int32) (L : List Value) (M : Mem) (Q : Option Value → Mem → Prop), Wp d 137 10 (v0 :: v1 :: .int x :: L) [] M Q ↔ Wp d 137 11 (v0 :: v1 :: .int x :: L) [.int x] M Q) ∧
    (∀ (d : Nat) (a : Int32) (x : Nat) (L : List Value) (M : Mem) (Q : Option Value → Mem → Prop), Wp d 137 11 (.ref x :: L) [.int a] M Q ↔ Wp d 137 12 (.ref x :: L) [.ref x, .int a] M Q) ∧
    (∀ (d : Nat) (a : Nat) (b : Int32) (L : List Value) (M : Mem) (Q : Option Value → Mem → Prop), Wp d 137 12 L [.ref a, .int b] M Q ↔ (isK a 12 = true ∧ Wp d 137 15 L [.ref (rt a 2), .int b] M Q)) ∧
    (∀ (d : Nat) (a : Nat) (b : Int32) (L : List Value) (M : Mem) (Q : Option Value → Mem → Prop), Wp d 137 15 L [.ref a, .int b] M Q ↔ Wp d 137 17 L [.int 12, .ref a, .int b] M Q) ∧
    (∀ (d : Nat) (a : Int32) (b : Nat) (c : Int32) (L : List Value) (M : Mem) (Q : Option Value → Mem → Prop), Wp d 137 17 L [.int a, .ref b, .int c] M Q ↔ Wp d 137 19 L [.int 6, .int a, .ref b, .int c] M Q) ∧
    (∀ (d : Nat) (a : Int32) (b : Int32) (c : Nat) (d2 : Int32) (v0 : Value) (x : Int32) (L : List Value) (M : Mem) (Q : Option Value → Mem → Prop), Wp d 137 19 (v0 :: .int x :: L) [.int a, .int b, .ref c, .int d2] M Q ↔ Wp d 137 20 (v0 :: .int x :: L) [.int x, .int a, .int b, .ref c, .int d2] M Q) ∧
    (∀ (d : Nat) (a : Int32) (b : Int32) (c : Int32) (d2 : Nat) (e : Int32) (L : List Value) (M : Mem) (Q : Option Value → Mem → Prop), Wp d 137 20 L [.int a, .int b, .int c, .ref d2, .int e] M Q ↔ Wp d 137 21 L [.int (b * a), .int c, .ref d2, .int e] M Q) ∧
    (∀ (d : Nat) (a : Int32) (b : Int32) (c : Nat) (d2 : Int32) (L : List Value) (M : Mem) (Q : Option Value → Mem → Prop), Wp d 137 21 L [.int a, .int b, .ref c, .int d2] M Q ↔ Wp d 137 22 L [.int (b + a), .ref c, .int d2] M Q) ∧
    (∀ (d : Nat) (a : Int32) (b : Nat) (c : Int32) (v0 : Value) (v1 : Value) (v2 : Value) (x : Int32) (L : List Value) (M : Mem) (Q : Option Value → Mem → Prop), Wp d 137 22 (v0 :: v1 :: v2 :: .int x :: L) [.int a, .ref b, .int c] M Q ↔ Wp d 137 23 (v0 :: v1 :: v2 :: .int x :: L) [.int x, .int a, .ref b, .int c] M Q) ∧
    (∀ (d : Nat) (a : Int32) (b : Int32) (c : Nat) (d2 : Int32) (L : List Value) (M : Mem) (Q : Option Value → Mem → Prop), Wp d 137 23 L [.int a, .int b, .ref c, .int d2] M Q ↔ Wp d 137 24 L [.int (b + a), .ref c, .int d2] M Q) ∧
    (∀ (d : Nat) (a : Int32) (b : Nat) (c : Int32) (L : List Value) (M : Mem) (Q : Option Value → Mem → Prop), Wp d 137 24 L [.int a, .ref b, .int c] M Q ↔ ((isR b = true ∧ inr a (lnm M b)) ∧ Wp d 137 25 L [.int (M b a.toNatClampNeg), .int c] M Q)) ∧
    (∀ (d : Nat) (a : Int32) (b : Int32) (L : List Value) (M : Mem) (Q : Option Value → Mem → Prop), Wp d 137 25 L [.int a, .int b] M Q ↔ Wp d 137 26 L [.int (b + a)] M Q) ∧
    (∀ (d : Nat) (a : Int32) (v0 : Value) (v1 : Value) (x : Value) (L : List Value) (M : Mem) (Q : Option Value → Mem → Prop), Wp d 137 26 (v0 :: v1 :: x :: L) [.int a] M Q ↔ Wp d 137 27 (v0 :: clr v1 :: .int a :: L) [] M Q) ∧
    (∀ (d : Nat) (v0 : Value) (v1 : Value) (v2 : Value) (x : Int32) (L : List Value) (M : Mem) (Q : Option Value → Mem → Prop), Wp d 137 27 (v0 :: v1 :: v2 :: .int x :: L) [] M Q ↔ Wp d 137 30 (v0 :: v1 :: clr v2 :: .int (x + 1) :: L) [] M Q) ∧
    (∀ (d : Nat) (L : List Value) (M : Mem) (Q : Option Value → Mem → Prop), Wp d 137 30 L [] M Q ↔ Wp d 137 4 L [] M Q) ∧
    (∀ (d : Nat) (v0 : Value) (v1 : Value) (x : Int32) (L : List Value) (M : Mem) (Q : Option Value → Mem → Prop), Wp d 137 33 (v0 :: v1 :: .int x :: L) [] M Q ↔ Wp d 137 34 (v0 :: v1 :: .int x :: L) [.int x] M Q) ∧
    (∀ (d : Nat) (a : Int32) (L : List Value) (M : Mem) (Q : Option Value → Mem → Prop), Wp d 137 34 L [.int a] M Q ↔ Q (some (.int a)) M) := by
  refine ⟨?_, ?_, ?_, ?_, ?_, ?_, ?_, ?_, ?_, ?_, ?_, ?_, ?_, ?_, ?_, ?_, ?_, ?_, ?_, ?_, ?_, ?_, ?_⟩
  · intro d L M Q; exact Wp_sim (by decide +kernel : decode (cd 137) 0 = .ok (.iconst 0, 1)) rfl rfl
  · intro d a v0 v1 x L M Q; exact Wp_sim (by decide +kernel : decode (cd 137) 1 = .ok (.istore_n 2, 1)) rfl rfl
  · intro d L M Q; exact Wp_sim (by decide +kernel : decode (cd 137) 2 = .ok (.iconst 0, 1)) rfl rfl
  · intro d a v0 v1 v2 x L M Q; exact Wp_sim (by decide +kernel : decode (cd 137) 3 = .ok (.istore_n 3, 1)) rfl rfl
  · intro d a L M Q; exact Wp_sim (by decide +kernel : decode (cd 137) 5 = .ok (.bipush 6, 2)) rfl rfl
  · intro d a b L M Q; exact q_ige (by decide +kernel : decode (cd 137) 7 = .ok (.if_icmp .ge 26, 3)) (by decide)
  · intro d v0 v1 x L M Q; exact Wp_sim (by decide +kernel : decode (cd 137) 10 = .ok (.iload_n 2, 1)) rfl rfl
  · intro d a x L M Q; exact Wp_sim (by decide +kernel : decode (cd 137) 11 = .ok (.aload_n 0, 1)) rfl rfl
  · intro d a b L M Q; exact q_getR (p := 845) (by decide +kernel : decode (cd 137) 12 = .ok (.getfield 16, 3)) (by decide +kernel) (by decide +kernel)
  · intro d a b L M Q; exact Wp_sim (by decide +kernel : decode (cd 137) 15 = .ok (.bipush 12, 2)) rfl rfl
  · intro d a b c L M Q; exact Wp_sim (by decide +kernel : decode (cd 137) 17 = .ok (.bipush 6, 2)) rfl rfl
  · intro d a b c d2 v0 x L M Q; exact Wp_sim (by decide +kernel : decode (cd 137) 19 = .ok (.iload_n 1, 1)) rfl rfl
  · intro d a b c d2 e L M Q; exact Wp_sim (by decide +kernel : decode (cd 137) 20 = .ok (.imul , 1)) rfl rfl
  · intro d a b c d2 L M Q; exact Wp_sim (by decide +kernel : decode (cd 137) 21 = .ok (.iadd , 1)) rfl rfl
  · intro d a b c v0 v1 v2 x L M Q; exact Wp_sim (by decide +kernel : decode (cd 137) 22 = .ok (.iload_n 3, 1)) rfl rfl
  · intro d a b c d2 L M Q; exact Wp_sim (by decide +kernel : decode (cd 137) 23 = .ok (.iadd , 1)) rfl rfl
  · intro d a b c L M Q; exact q_ald (by decide +kernel : decode (cd 137) 24 = .ok (.iaload , 1))
  · intro d a b L M Q; exact Wp_sim (by decide +kernel : decode (cd 137) 25 = .ok (.iadd , 1)) rfl rfl
  · intro d a v0 v1 x L M Q; exact Wp_sim (by decide +kernel : decode (cd 137) 26 = .ok (.istore_n 2, 1)) rfl rfl
  · intro d v0 v1 v2 x L M Q; exact Wp_sim (by decide +kernel : decode (cd 137) 27 = .ok (.iinc 3 1, 3)) rfl rfl
  · intro d L M Q; exact q_goto (by decide +kernel : decode (cd 137) 30 = .ok (.goto (-26), 3)) (by decide)
  · intro d v0 v1 x L M Q; exact Wp_sim (by decide +kernel : decode (cd 137) 33 = .ok (.iload_n 2, 1)) rfl rfl
  · intro d a L M Q; exact q_iret (by decide +kernel : decode (cd 137) 34 = .ok (.ireturn , 1)) (by decide +kernel)
theorem h137_4 : (∀ (d : Nat) (v0 : Value) (v1 : Value) (v2 : Value) (x : Int32) (L : List Value) (M : Mem) (Q : Option Value → Mem → Prop), Wp d 137 4 (v0 :: v1 :: v2 :: .int x :: L) [] M Q ↔ Wp d 137 5 (v0 :: v1 :: v2 :: .int x :: L) [.int x] M Q) := by
  intro d v0 v1 v2 x L M Q; exact Wp_sim (by decide +kernel : decode (cd 137) 4 = .ok (.iload_n 3, 1)) rfl rfl

/- 138: PalaceYardModel.accepts -/
set_option maxRecDepth 10000 in
theorem e138 : (∀ (d : Nat) (v0 : Value) (x : Int32) (L : List Value) (M : Mem) (Q : Option Value → Mem → Prop), Wp d 138 0 (v0 :: .int x :: L) [] M Q ↔ Wp d 138 1 (v0 :: .int x :: L) [.int x] M Q) ∧
    (∀ (d : Nat) (a : Int32) (L : List Value) (M : Mem) (Q : Option Value → Mem → Prop), Wp d 138 1 L [.int a] M Q ↔ Wp d 138 2 L [.long a.toInt64] M Q) ∧
    (∀ (d : Nat) (a : Int64) (L : List Value) (M : Mem) (Q : Option Value → Mem → Prop), Wp d 138 2 L [.long a] M Q ↔ Wp d 138 3 L [.long 0, .long a] M Q) ∧
    (∀ (d : Nat) (a : Int64) (b : Int64) (x : Nat) (L : List Value) (M : Mem) (Q : Option Value → Mem → Prop), Wp d 138 3 (.ref x :: L) [.long a, .long b] M Q ↔ Wp d 138 4 (.ref x :: L) [.ref x, .long a, .long b] M Q) ∧
    (∀ (d : Nat) (a : Nat) (b : Int64) (c : Int64) (L : List Value) (M : Mem) (Q : Option Value → Mem → Prop), Wp d 138 4 L [.ref a, .long b, .long c] M Q ↔ (isK a 12 = true ∧ Wp d 138 7 L [.ref (rt a 0), .long b, .long c] M Q)) ∧
    (∀ (d : Nat) (a : Nat) (b : Int64) (c : Int64) (L : List Value) (M : Mem) (Q : Option Value → Mem → Prop), Wp d 138 7 L [.ref a, .long b, .long c] M Q ↔ Wp d 138 8 L [.int 3, .ref a, .long b, .long c] M Q) ∧
    (∀ (d : Nat) (a : Int32) (b : Nat) (c : Int64) (d2 : Int64) (L : List Value) (M : Mem) (Q : Option Value → Mem → Prop), Wp d 138 8 L [.int a, .ref b, .long c, .long d2] M Q ↔ ((isR b = true ∧ inr a (lnm M b)) ∧ Wp d 138 9 L [.int (M b a.toNatClampNeg), .long c, .long d2] M Q)) ∧
    (∀ (d : Nat) (a : Int32) (b : Int64) (c : Int64) (L : List Value) (M : Mem) (Q : Option Value → Mem → Prop), Wp d 138 9 L [.int a, .long b, .long c] M Q ↔ Wp d 138 10 L [.int 1, .int a, .long b, .long c] M Q) ∧
    (∀ (d : Nat) (a : Int32) (b : Int32) (c : Int64) (d2 : Int64) (L : List Value) (M : Mem) (Q : Option Value → Mem → Prop), Wp d 138 10 L [.int a, .int b, .long c, .long d2] M Q ↔ Wp d 138 11 L [.int (b - a), .long c, .long d2] M Q) ∧
    (∀ (d : Nat) (a : Int32) (b : Int64) (c : Int64) (L : List Value) (M : Mem) (Q : Option Value → Mem → Prop), Wp d 138 11 L [.int a, .long b, .long c] M Q ↔ Wp d 138 12 L [.long a.toInt64, .long b, .long c] M Q) ∧
    (∀ (d : Nat) (a : Int64) (b : Int64) (c : Int64) (L : List Value) (M : Mem) (Q : Option Value → Mem → Prop), Wp (d + 1) 138 12 L [.long a, .long b, .long c] M Q ↔ Wp d 112 0 [.long c, .null, .long b, .null, .long a, .null] [] M (fun r M2 => Wp (d + 1) 138 15 L (r.toList ++ []) M2 Q)) ∧
    (∀ (d : Nat) (a : Int32) (L : List Value) (M : Mem) (Q : Option Value → Mem → Prop), Wp d 138 15 L [.int a] M Q ↔ (if a = 0 then Wp d 138 18 L [] M Q else Wp d 138 21 L [] M Q)) ∧
    (∀ (d : Nat) (L : List Value) (M : Mem) (Q : Option Value → Mem → Prop), Wp d 138 18 L [] M Q ↔ Wp d 138 20 L [.int (-1000000001)] M Q) ∧
    (∀ (d : Nat) (a : Int32) (L : List Value) (M : Mem) (Q : Option Value → Mem → Prop), Wp d 138 20 L [.int a] M Q ↔ Q (some (.int a)) M) ∧
    (∀ (d : Nat) (v0 : Value) (v1 : Value) (x : Int32) (L : List Value) (M : Mem) (Q : Option Value → Mem → Prop), Wp d 138 21 (v0 :: v1 :: .int x :: L) [] M Q ↔ Wp d 138 22 (v0 :: v1 :: .int x :: L) [.int x] M Q) ∧
    (∀ (d : Nat) (a : Int32) (L : List Value) (M : Mem) (Q : Option Value → Mem → Prop), Wp d 138 22 L [.int a] M Q ↔ Wp d 138 23 L [.long a.toInt64] M Q) ∧
    (∀ (d : Nat) (a : Int64) (L : List Value) (M : Mem) (Q : Option Value → Mem → Prop), Wp d 138 23 L [.long a] M Q ↔ Wp d 138 24 L [.long 0, .long a] M Q) ∧
    (∀ (d : Nat) (a : Int64) (b : Int64) (L : List Value) (M : Mem) (Q : Option Value → Mem → Prop), Wp d 138 24 L [.long a, .long b] M Q ↔ Wp d 138 27 L [.long 9999, .long a, .long b] M Q) ∧
    (∀ (d : Nat) (a : Int64) (b : Int64) (c : Int64) (L : List Value) (M : Mem) (Q : Option Value → Mem → Prop), Wp (d + 1) 138 27 L [.long a, .long b, .long c] M Q ↔ Wp d 112 0 [.long c, .null, .long b, .null, .long a, .null] [] M (fun r M2 => Wp (d + 1) 138 30 L (r.toList ++ []) M2 Q)) ∧
    (∀ (d : Nat) (a : Int32) (L : List Value) (M : Mem) (Q : Option Value → Mem → Prop), Wp d 138 30 L [.int a] M Q ↔ (if a = 0 then Wp d 138 42 L [] M Q else Wp d 138 33 L [] M Q)) ∧
    (∀ (d : Nat) (x : Nat) (L : List Value) (M : Mem) (Q : Option Value → Mem → Prop), Wp d 138 33 (.ref x :: L) [] M Q ↔ Wp d 138 34 (.ref x :: L) [.ref x] M Q) ∧
    (∀ (d : Nat) (a : Nat) (v0 : Value) (x : Int32) (L : List Value) (M : Mem) (Q : Option Value → Mem → Prop), Wp d 138 34 (v0 :: .int x :: L) [.ref a] M Q ↔ Wp d 138 35 (v0 :: .int x :: L) [.int x, .ref a] M Q) ∧
    (∀ (d : Nat) (a : Int32) (b : Nat) (v0 : Value) (v1 : Value) (x : Int32) (L : List Value) (M : Mem) (Q : Option Value → Mem → Prop), Wp d 138 35 (v0 :: v1 :: .int x :: L) [.int a, .ref b] M Q ↔ Wp d 138 36 (v0 :: v1 :: .int x :: L) [.int x, .int a, .ref b] M Q) ∧
    (∀ (d : Nat) (a : Int32) (b : Int32) (c : Nat) (L : List Value) (M : Mem) (Q : Option Value → Mem → Prop), Wp (d + 1) 138 36 L [.int a, .int b, .ref c] M Q ↔ (isK c 12 = true ∧ Wp d 139 0 [.ref c, .int b, .int a] [] M (fun r M2 => Wp (d + 1) 138 39 L (r.toList ++ []) M2 Q))) ∧
    (∀ (d : Nat) (a : Int32) (L : List Value) (M : Mem) (Q : Option Value → Mem → Prop), Wp d 138 39 L [.int a] M Q ↔ Wp d 138 44 L [.int a] M Q) ∧
    (∀ (d : Nat) (L : List Value) (M : Mem) (Q : Option Value → Mem → Prop), Wp d 138 42 L [] M Q ↔ Wp d 138 44 L [.int (-1000000002)] M Q) ∧
    (∀ (d : Nat) (a : Int32) (L : List Value) (M : Mem) (Q : Option Value → Mem → Prop), Wp d 138 44 L [.int a] M Q ↔ Q (some (.int a)) M) := by
  refine ⟨?_, ?_, ?_, ?_, ?_, ?_, ?_, ?_, ?_, ?_, ?_, ?_, ?_, ?_, ?_, ?_, ?_, ?_, ?_, ?_, ?_, ?_, ?_, ?_, ?_, ?_, ?_⟩
  · intro d v0 x L M Q; exact Wp_sim (by decide +kernel : decode (cd 138) 0 = .ok (.iload_n 1, 1)) rfl rfl
  · intro d a L M Q; exact Wp_sim (by decide +kernel : decode (cd 138) 1 = .ok (.i2l , 1)) rfl rfl
  · intro d a L M Q; exact Wp_sim (by decide +kernel : decode (cd 138) 2 = .ok (.lconst 0, 1)) rfl rfl
  · intro d a b x L M Q; exact Wp_sim (by decide +kernel : decode (cd 138) 3 = .ok (.aload_n 0, 1)) rfl rfl
  · intro d a b c L M Q; exact q_getR (p := 843) (by decide +kernel : decode (cd 138) 4 = .ok (.getfield 7, 3)) (by decide +kernel) (by decide +kernel)
  · intro d a b c L M Q; exact Wp_sim (by decide +kernel : decode (cd 138) 7 = .ok (.iconst 3, 1)) rfl rfl
  · intro d a b c d2 L M Q; exact q_ald (by decide +kernel : decode (cd 138) 8 = .ok (.iaload , 1))
  · intro d a b c L M Q; exact Wp_sim (by decide +kernel : decode (cd 138) 9 = .ok (.iconst 1, 1)) rfl rfl
  · intro d a b c d2 L M Q; exact Wp_sim (by decide +kernel : decode (cd 138) 10 = .ok (.isub , 1)) rfl rfl
  · intro d a b c L M Q; exact Wp_sim (by decide +kernel : decode (cd 138) 11 = .ok (.i2l , 1)) rfl rfl
  · intro d a b c L M Q; exact q_invS (pz := 937) (n := 3) (m := 6) (As := [.long c, .long b, .long a]) (rest := []) (by decide +kernel : decode (cd 138) 12 = .ok (.invokestatic 75, 3)) (by decide +kernel) (by decide +kernel) (by decide +kernel) rfl rfl (Nat.le_of_ble_eq_true rfl) (Nat.le_of_ble_eq_true rfl) rfl
  · intro d a L M Q; exact q_zne (by decide +kernel : decode (cd 138) 15 = .ok (.ifCond .ne 6, 3)) (by decide)
  · intro d L M Q; exact q_ldc (p := 1043) (by decide +kernel : decode (cd 138) 18 = .ok (.ldc 180, 2)) (by decide +kernel)
  · intro d a L M Q; exact q_iret (by decide +kernel : decode (cd 138) 20 = .ok (.ireturn , 1)) (by decide +kernel)
  · intro d v0 v1 x L M Q; exact Wp_sim (by decide +kernel : decode (cd 138) 21 = .ok (.iload_n 2, 1)) rfl rfl
  · intro d a L M Q; exact Wp_sim (by decide +kernel : decode (cd 138) 22 = .ok (.i2l , 1)) rfl rfl
  · intro d a L M Q; exact Wp_sim (by decide +kernel : decode (cd 138) 23 = .ok (.lconst 0, 1)) rfl rfl
  · intro d a b L M Q; exact q_ldc2 (p := 1044) (by decide +kernel : decode (cd 138) 24 = .ok (.ldc2_w 181, 3)) (by decide +kernel)
  · intro d a b c L M Q; exact q_invS (pz := 937) (n := 3) (m := 6) (As := [.long c, .long b, .long a]) (rest := []) (by decide +kernel : decode (cd 138) 27 = .ok (.invokestatic 75, 3)) (by decide +kernel) (by decide +kernel) (by decide +kernel) rfl rfl (Nat.le_of_ble_eq_true rfl) (Nat.le_of_ble_eq_true rfl) rfl
  · intro d a L M Q; exact q_zeq (by decide +kernel : decode (cd 138) 30 = .ok (.ifCond .eq 12, 3)) (by decide)
  · intro d x L M Q; exact Wp_sim (by decide +kernel : decode (cd 138) 33 = .ok (.aload_n 0, 1)) rfl rfl
  · intro d a v0 x L M Q; exact Wp_sim (by decide +kernel : decode (cd 138) 34 = .ok (.iload_n 1, 1)) rfl rfl
  · intro d a b v0 v1 x L M Q; exact Wp_sim (by decide +kernel : decode (cd 138) 35 = .ok (.iload_n 2, 1)) rfl rfl
  · intro d a b c L M Q; exact q_invV (pz := 1045) (n := 2) (c := 12) (m := 3) (k := c) (As := [.int b, .int a]) (rest := []) (by decide +kernel : decode (cd 138) 36 = .ok (.invokevirtual 144, 3)) (by decide +kernel) (by decide +kernel) rfl rfl (Nat.le_of_ble_eq_true rfl) (Nat.le_of_ble_eq_true rfl) rfl
  · intro d a L M Q; exact q_goto (by decide +kernel : decode (cd 138) 39 = .ok (.goto 5, 3)) (by decide)
  · intro d L M Q; exact q_ldc (p := 940) (by decide +kernel : decode (cd 138) 42 = .ok (.ldc 79, 2)) (by decide +kernel)
  · intro d a L M Q; exact q_iret (by decide +kernel : decode (cd 138) 44 = .ok (.ireturn , 1)) (by decide +kernel)

/- 139: PalaceYardModel.acceptsIn -/
set_option maxRecDepth 10000 in
theorem e139 : (∀ (d : Nat) (x : Nat) (L : List Value) (M : Mem) (Q : Option Value → Mem → Prop), Wp d 139 0 (.ref x :: L) [] M Q ↔ Wp d 139 1 (.ref x :: L) [.ref x] M Q) ∧
    (∀ (d : Nat) (a : Nat) (L : List Value) (M : Mem) (Q : Option Value → Mem → Prop), Wp d 139 1 L [.ref a] M Q ↔ (isK a 12 = true ∧ Wp d 139 4 L [.ref (rt a 0)] M Q)) ∧
    (∀ (d : Nat) (a : Nat) (L : List Value) (M : Mem) (Q : Option Value → Mem → Prop), Wp d 139 4 L [.ref a] M Q ↔ Wp d 139 6 L [.int 6, .ref a] M Q) ∧
    (∀ (d : Nat) (a : Int32) (b : Nat) (v0 : Value) (x : Int32) (L : List Value) (M : Mem) (Q : Option Value → Mem → Prop), Wp d 139 6 (v0 :: .int x :: L) [.int a, .ref b] M Q ↔ Wp d 139 7 (v0 :: .int x :: L) [.int x, .int a, .ref b] M Q) ∧
    (∀ (d : Nat) (a : Int32) (b : Int32) (c : Nat) (L : List Value) (M : Mem) (Q : Option Value → Mem → Prop), Wp d 139 7 L [.int a, .int b, .ref c] M Q ↔ Wp d 139 8 L [.int (b + a), .ref c] M Q) ∧
    (∀ (d : Nat) (a : Int32) (b : Nat) (L : List Value) (M : Mem) (Q : Option Value → Mem → Prop), Wp d 139 8 L [.int a, .ref b] M Q ↔ ((isR b = true ∧ inr a (lnm M b)) ∧ Wp d 139 9 L [.int (M b a.toNatClampNeg)] M Q)) ∧
    (∀ (d : Nat) (a : Int32) (x : Nat) (L : List Value) (M : Mem) (Q : Option Value → Mem → Prop), Wp d 139 9 (.ref x :: L) [.int a] M Q ↔ Wp d 139 10 (.ref x :: L) [.ref x, .int a] M Q) ∧
    (∀ (d : Nat) (a : Nat) (b : Int32) (L : List Value) (M : Mem) (Q : Option Value → Mem → Prop), Wp d 139 10 L [.ref a, .int b] M Q ↔ (isK a 12 = true ∧ Wp d 139 13 L [.ref (rt a 0), .int b] M Q)) ∧
    (∀ (d : Nat) (a : Nat) (b : Int32) (L : List Value) (M : Mem) (Q : Option Value → Mem → Prop), Wp d 139 13 L [.ref a, .int b] M Q ↔ Wp d 139 15 L [.int 10, .ref a, .int b] M Q) ∧
    (∀ (d : Nat) (a : Int32) (b : Nat) (c : Int32) (v0 : Value) (x : Int32) (L : List Value) (M : Mem) (Q : Option Value → Mem → Prop), Wp d 139 15 (v0 :: .int x :: L) [.int a, .ref b, .int c] M Q ↔ Wp d 139 16 (v0 :: .int x :: L) [.int x, .int a, .ref b, .int c] M Q) ∧
    (∀ (d : Nat) (a : Int32) (b : Int32) (c : Nat) (d2 : Int32) (L : List Value) (M : Mem) (Q : Option Value → Mem → Prop), Wp d 139 16 L [.int a, .int b, .ref c, .int d2] M Q ↔ Wp d 139 17 L [.int (b + a), .ref c, .int d2] M Q) ∧
    (∀ (d : Nat) (a : Int32) (b : Nat) (c : Int32) (L : List Value) (M : Mem) (Q : Option Value → Mem → Prop), Wp d 139 17 L [.int a, .ref b, .int c] M Q ↔ ((isR b = true ∧ inr a (lnm M b)) ∧ Wp d 139 18 L [.int (M b a.toNatClampNeg), .int c] M Q)) ∧
    (∀ (d : Nat) (a : Int32) (b : Int32) (v0 : Value) (v1 : Value) (x : Int32) (L : List Value) (M : Mem) (Q : Option Value → Mem → Prop), Wp d 139 18 (v0 :: v1 :: .int x :: L) [.int a, .int b] M Q ↔ Wp d 139 19 (v0 :: v1 :: .int x :: L) [.int x, .int a, .int b] M Q) ∧
    (∀ (d : Nat) (a : Int32) (b : Int32) (c : Int32) (L : List Value) (M : Mem) (Q : Option Value → Mem → Prop), Wp d 139 19 L [.int a, .int b, .int c] M Q ↔ Wp d 139 20 L [.int (b * a), .int c] M Q) ∧
    (∀ (d : Nat) (a : Int32) (b : Int32) (L : List Value) (M : Mem) (Q : Option Value → Mem → Prop), Wp d 139 20 L [.int a, .int b] M Q ↔ Wp d 139 21 L [.int (b - a)] M Q) ∧
    (∀ (d : Nat) (a : Int32) (x : Nat) (L : List Value) (M : Mem) (Q : Option Value → Mem → Prop), Wp d 139 21 (.ref x :: L) [.int a] M Q ↔ Wp d 139 22 (.ref x :: L) [.ref x, .int a] M Q) ∧
    (∀ (d : Nat) (a : Nat) (b : Int32) (L : List Value) (M : Mem) (Q : Option Value → Mem → Prop), Wp d 139 22 L [.ref a, .int b] M Q ↔ (isK a 12 = true ∧ Wp d 139 25 L [.ref (rt a 0), .int b] M Q)) ∧
    (∀ (d : Nat) (a : Nat) (b : Int32) (L : List Value) (M : Mem) (Q : Option Value → Mem → Prop), Wp d 139 25 L [.ref a, .int b] M Q ↔ Wp d 139 27 L [.int 6, .ref a, .int b] M Q) ∧
    (∀ (d : Nat) (a : Int32) (b : Nat) (c : Int32) (v0 : Value) (x : Int32) (L : List Value) (M : Mem) (Q : Option Value → Mem → Prop), Wp d 139 27 (v0 :: .int x :: L) [.int a, .ref b, .int c] M Q ↔ Wp d 139 28 (v0 :: .int x :: L) [.int x, .int a, .ref b, .int c] M Q) ∧
    (∀ (d : Nat) (a : Int32) (b : Int32) (c : Nat) (d2 : Int32) (L : List Value) (M : Mem) (Q : Option Value → Mem → Prop), Wp d 139 28 L [.int a, .int b, .ref c, .int d2] M Q ↔ Wp d 139 29 L [.int (b + a), .ref c, .int d2] M Q) ∧
    (∀ (d : Nat) (a : Int32) (b : Nat) (c : Int32) (L : List Value) (M : Mem) (Q : Option Value → Mem → Prop), Wp d 139 29 L [.int a, .ref b, .int c] M Q ↔ ((isR b = true ∧ inr a (lnm M b)) ∧ Wp d 139 30 L [.int (M b a.toNatClampNeg), .int c] M Q)) ∧
    (∀ (d : Nat) (a : Int32) (b : Int32) (L : List Value) (M : Mem) (Q : Option Value → Mem → Prop), Wp d 139 30 L [.int a, .int b] M Q ↔ Wp d 139 31 L [.int 5, .int a, .int b] M Q) ∧
    (∀ (d : Nat) (a : Int32) (b : Int32) (c : Int32) (L : List Value) (M : Mem) (Q : Option Value → Mem → Prop), Wp (d + 1) 139 31 L [.int a, .int b, .int c] M Q ↔ Wp d 133 0 [.int b, .int a] [] M (fun r M2 => Wp (d + 1) 139 34 L (r.toList ++ [.int c]) M2 Q)) ∧
    (∀ (d : Nat) (a : Int32) (b : Int32) (L : List Value) (M : Mem) (Q : Option Value → Mem → Prop), Wp (d + 1) 139 34 L [.int a, .int b] M Q ↔ Wp d 134 0 [.int b, .int a] [] M (fun r M2 => Wp (d + 1) 139 37 L (r.toList ++ []) M2 Q)) ∧
    (∀ (d : Nat) (a : Int32) (L : List Value) (M : Mem) (Q : Option Value → Mem → Prop), Wp d 139 37 L [.int a] M Q ↔ Q (some (.int a)) M) := by
  refine ⟨?_, ?_, ?_, ?_, ?_, ?_, ?_, ?_, ?_, ?_, ?_, ?_, ?_, ?_, ?_, ?_, ?_, ?_, ?_, ?_, ?_, ?_, ?_, ?_, ?_⟩
  · intro d x L M Q; exact Wp_sim (by decide +kernel : decode (cd 139) 0 = .ok (.aload_n 0, 1)) rfl rfl
  · intro d a L M Q; exact q_getR (p := 843) (by decide +kernel : decode (cd 139) 1 = .ok (.getfield 7, 3)) (by decide +kernel) (by decide +kernel)
  · intro d a L M Q; exact Wp_sim (by decide +kernel : decode (cd 139) 4 = .ok (.bipush 6, 2)) rfl rfl
  · intro d a b v0 x L M Q; exact Wp_sim (by decide +kernel : decode (cd 139) 6 = .ok (.iload_n 1, 1)) rfl rfl
  · intro d a b c L M Q; exact Wp_sim (by decide +kernel : decode (cd 139) 7 = .ok (.iadd , 1)) rfl rfl
  · intro d a b L M Q; exact q_ald (by decide +kernel : decode (cd 139) 8 = .ok (.iaload , 1))
  · intro d a x L M Q; exact Wp_sim (by decide +kernel : decode (cd 139) 9 = .ok (.aload_n 0, 1)) rfl rfl
  · intro d a b L M Q; exact q_getR (p := 843) (by decide +kernel : decode (cd 139) 10 = .ok (.getfield 7, 3)) (by decide +kernel) (by decide +kernel)
  · intro d a b L M Q; exact Wp_sim (by decide +kernel : decode (cd 139) 13 = .ok (.bipush 10, 2)) rfl rfl
  · intro d a b c v0 x L M Q; exact Wp_sim (by decide +kernel : decode (cd 139) 15 = .ok (.iload_n 1, 1)) rfl rfl
  · intro d a b c d2 L M Q; exact Wp_sim (by decide +kernel : decode (cd 139) 16 = .ok (.iadd , 1)) rfl rfl
  · intro d a b c L M Q; exact q_ald (by decide +kernel : decode (cd 139) 17 = .ok (.iaload , 1))
  · intro d a b v0 v1 x L M Q; exact Wp_sim (by decide +kernel : decode (cd 139) 18 = .ok (.iload_n 2, 1)) rfl rfl
  · intro d a b c L M Q; exact Wp_sim (by decide +kernel : decode (cd 139) 19 = .ok (.imul , 1)) rfl rfl
  · intro d a b L M Q; exact Wp_sim (by decide +kernel : decode (cd 139) 20 = .ok (.isub , 1)) rfl rfl
  · intro d a x L M Q; exact Wp_sim (by decide +kernel : decode (cd 139) 21 = .ok (.aload_n 0, 1)) rfl rfl
  · intro d a b L M Q; exact q_getR (p := 843) (by decide +kernel : decode (cd 139) 22 = .ok (.getfield 7, 3)) (by decide +kernel) (by decide +kernel)
  · intro d a b L M Q; exact Wp_sim (by decide +kernel : decode (cd 139) 25 = .ok (.bipush 6, 2)) rfl rfl
  · intro d a b c v0 x L M Q; exact Wp_sim (by decide +kernel : decode (cd 139) 27 = .ok (.iload_n 1, 1)) rfl rfl
  · intro d a b c d2 L M Q; exact Wp_sim (by decide +kernel : decode (cd 139) 28 = .ok (.iadd , 1)) rfl rfl
  · intro d a b c L M Q; exact q_ald (by decide +kernel : decode (cd 139) 29 = .ok (.iaload , 1))
  · intro d a b L M Q; exact Wp_sim (by decide +kernel : decode (cd 139) 30 = .ok (.iconst 5, 1)) rfl rfl
  · intro d a b c L M Q; exact q_invS (pz := 1021) (n := 2) (m := 2) (As := [.int b, .int a]) (rest := [.int c]) (by decide +kernel : decode (cd 139) 31 = .ok (.invokestatic 57, 3)) (by decide +kernel) (by decide +kernel) (by decide +kernel) rfl rfl (Nat.le_of_ble_eq_true rfl) (Nat.le_of_ble_eq_true rfl) rfl
  · intro d a b L M Q; exact q_invS (pz := 1024) (n := 2) (m := 2) (As := [.int b, .int a]) (rest := []) (by decide +kernel : decode (cd 139) 34 = .ok (.invokestatic 61, 3)) (by decide +kernel) (by decide +kernel) (by decide +kernel) rfl rfl (Nat.le_of_ble_eq_true rfl) (Nat.le_of_ble_eq_true rfl) rfl
  · intro d a L M Q; exact q_iret (by decide +kernel : decode (cd 139) 37 = .ok (.ireturn , 1)) (by decide +kernel)

/- 140: PalaceYardModel.debtor -/
set_option maxRecDepth 10000 in
theorem e140 : (∀ (d : Nat) (x : Nat) (L : List Value) (M : Mem) (Q : Option Value → Mem → Prop), Wp d 140 0 (.ref x :: L) [] M Q ↔ Wp d 140 1 (.ref x :: L) [.ref x] M Q) ∧
    (∀ (d : Nat) (a : Nat) (v0 : Value) (x : Int32) (L : List Value) (M : Mem) (Q : Option Value → Mem → Prop), Wp d 140 1 (v0 :: .int x :: L) [.ref a] M Q ↔ Wp d 140 2 (v0 :: .int x :: L) [.int x, .ref a] M Q) ∧
    (∀ (d : Nat) (a : Int32) (b : Nat) (L : List Value) (M : Mem) (Q : Option Value → Mem → Prop), Wp (d + 1) 140 2 L [.int a, .ref b] M Q ↔ (isK b 12 = true ∧ Wp d 141 0 [.ref b, .int a] [] M (fun r M2 => Wp (d + 1) 140 5 L (r.toList ++ []) M2 Q))) ∧
    (∀ (d : Nat) (a : Int32) (L : List Value) (M : Mem) (Q : Option Value → Mem → Prop), Wp d 140 5 L [.int a] M Q ↔ (if a = 0 then Wp d 140 8 L [] M Q else Wp d 140 11 L [] M Q)) ∧
    (∀ (d : Nat) (L : List Value) (M : Mem) (Q : Option Value → Mem → Prop), Wp d 140 8 L [] M Q ↔ Wp d 140 10 L [.int (-1000000001)] M Q) ∧
    (∀ (d : Nat) (a : Int32) (L : List Value) (M : Mem) (Q : Option Value → Mem → Prop), Wp d 140 10 L [.int a] M Q ↔ Q (some (.int a)) M) ∧
    (∀ (d : Nat) (v0 : Value) (v1 : Value) (x : Int32) (L : List Value) (M : Mem) (Q : Option Value → Mem → Prop), Wp d 140 11 (v0 :: v1 :: .int x :: L) [] M Q ↔ Wp d 140 12 (v0 :: v1 :: .int x :: L) [.int x] M Q) ∧
    (∀ (d : Nat) (a : Int32) (L : List Value) (M : Mem) (Q : Option Value → Mem → Prop), Wp d 140 12 L [.int a] M Q ↔ (if a = 0 then Wp d 140 56 L [] M Q else (if a = 1 then Wp d 140 56 L [] M Q else (if a = 2 then Wp d 140 56 L [] M Q else (if a = 3 then Wp d 140 71 L [] M Q else (if a = 4 then Wp d 140 80 L [] M Q else (if a = 5 then Wp d 140 94 L [] M Q else (if a = 6 then Wp d 140 100 L [] M Q else Wp d 140 110 L [] M Q)))))))) ∧
    (∀ (d : Nat) (x : Nat) (L : List Value) (M : Mem) (Q : Option Value → Mem → Prop), Wp d 140 56 (.ref x :: L) [] M Q ↔ Wp d 140 57 (.ref x :: L) [.ref x] M Q) ∧
    (∀ (d : Nat) (a : Nat) (L : List Value) (M : Mem) (Q : Option Value → Mem → Prop), Wp d 140 57 L [.ref a] M Q ↔ (isK a 12 = true ∧ Wp d 140 60 L [.ref (rt a 0)] M Q)) ∧
    (∀ (d : Nat) (a : Nat) (L : List Value) (M : Mem) (Q : Option Value → Mem → Prop), Wp d 140 60 L [.ref a] M Q ↔ Wp d 140 62 L [.int 14, .ref a] M Q) ∧
    (∀ (d : Nat) (a : Int32) (b : Nat) (L : List Value) (M : Mem) (Q : Option Value → Mem → Prop), Wp d 140 62 L [.int a, .ref b] M Q ↔ Wp d 140 64 L [.int 6, .int a, .ref b] M Q) ∧
    (∀ (d : Nat) (a : Int32) (b : Int32) (c : Nat) (v0 : Value) (v1 : Value) (x : Int32) (L : List Value) (M : Mem) (Q : Option Value → Mem → Prop), Wp d 140 64 (v0 :: v1 :: .int x :: L) [.int a, .int b, .ref c] M Q ↔ Wp d 140 65 (v0 :: v1 :: .int x :: L) [.int x, .int a, .int b, .ref c] M Q) ∧
    (∀ (d : Nat) (a : Int32) (b : Int32) (c : Int32) (d2 : Nat) (L : List Value) (M : Mem) (Q : Option Value → Mem → Prop), Wp d 140 65 L [.int a, .int b, .int c, .ref d2] M Q ↔ Wp d 140 66 L [.int (b * a), .int c, .ref d2] M Q) ∧
    (∀ (d : Nat) (a : Int32) (b : Int32) (c : Nat) (L : List Value) (M : Mem) (Q : Option Value → Mem → Prop), Wp d 140 66 L [.int a, .int b, .ref c] M Q ↔ Wp d 140 67 L [.int (b + a), .ref c] M Q) ∧
    (∀ (d : Nat) (a : Int32) (b : Nat) (v0 : Value) (x : Int32) (L : List Value) (M : Mem) (Q : Option Value → Mem → Prop), Wp d 140 67 (v0 :: .int x :: L) [.int a, .ref b] M Q ↔ Wp d 140 68 (v0 :: .int x :: L) [.int x, .int a, .ref b] M Q) ∧
    (∀ (d : Nat) (a : Int32) (b : Int32) (c : Nat) (L : List Value) (M : Mem) (Q : Option Value → Mem → Prop), Wp d 140 68 L [.int a, .int b, .ref c] M Q ↔ Wp d 140 69 L [.int (b + a), .ref c] M Q) ∧
    (∀ (d : Nat) (a : Int32) (b : Nat) (L : List Value) (M : Mem) (Q : Option Value → Mem → Prop), Wp d 140 69 L [.int a, .ref b] M Q ↔ ((isR b = true ∧ inr a (lnm M b)) ∧ Wp d 140 70 L [.int (M b a.toNatClampNeg)] M Q)) ∧
    (∀ (d : Nat) (a : Int32) (L : List Value) (M : Mem) (Q : Option Value → Mem → Prop), Wp d 140 70 L [.int a] M Q ↔ Q (some (.int a)) M) ∧
    (∀ (d : Nat) (x : Nat) (L : List Value) (M : Mem) (Q : Option Value → Mem → Prop), Wp d 140 71 (.ref x :: L) [] M Q ↔ Wp d 140 72 (.ref x :: L) [.ref x] M Q) ∧
    (∀ (d : Nat) (a : Nat) (L : List Value) (M : Mem) (Q : Option Value → Mem → Prop), Wp d 140 72 L [.ref a] M Q ↔ (isK a 12 = true ∧ Wp d 140 75 L [.ref (rt a 2)] M Q)) ∧
    (∀ (d : Nat) (a : Nat) (L : List Value) (M : Mem) (Q : Option Value → Mem → Prop), Wp d 140 75 L [.ref a] M Q ↔ Wp d 140 76 L [.int 0, .ref a] M Q) ∧
    (∀ (d : Nat) (a : Int32) (b : Nat) (v0 : Value) (x : Int32) (L : List Value) (M : Mem) (Q : Option Value → Mem → Prop), Wp d 140 76 (v0 :: .int x :: L) [.int a, .ref b] M Q ↔ Wp d 140 77 (v0 :: .int x :: L) [.int x, .int a, .ref b] M Q) ∧
    (∀ (d : Nat) (a : Int32) (b : Int32) (c : Nat) (L : List Value) (M : Mem) (Q : Option Value → Mem → Prop), Wp d 140 77 L [.int a, .int b, .ref c] M Q ↔ Wp d 140 78 L [.int (b + a), .ref c] M Q) ∧
    (∀ (d : Nat) (a : Int32) (b : Nat) (L : List Value) (M : Mem) (Q : Option Value → Mem → Prop), Wp d 140 78 L [.int a, .ref b] M Q ↔ ((isR b = true ∧ inr a (lnm M b)) ∧ Wp d 140 79 L [.int (M b a.toNatClampNeg)] M Q)) ∧
    (∀ (d : Nat) (a : Int32) (L : List Value) (M : Mem) (Q : Option Value → Mem → Prop), Wp d 140 79 L [.int a] M Q ↔ Q (some (.int a)) M) ∧
    (∀ (d : Nat) (x : Nat) (L : List Value) (M : Mem) (Q : Option Value → Mem → Prop), Wp d 140 80 (.ref x :: L) [] M Q ↔ Wp d 140 81 (.ref x :: L) [.ref x] M Q) ∧
    (∀ (d : Nat) (a : Nat) (L : List Value) (M : Mem) (Q : Option Value → Mem → Prop), Wp d 140 81 L [.ref a] M Q ↔ (isK a 12 = true ∧ Wp d 140 84 L [.ref (rt a 2)] M Q)) ∧
    (∀ (d : Nat) (a : Nat) (L : List Value) (M : Mem) (Q : Option Value → Mem → Prop), Wp d 140 84 L [.ref a] M Q ↔ Wp d 140 86 L [.int 6, .ref a] M Q) ∧
    (∀ (d : Nat) (a : Int32) (b : Nat) (v0 : Value) (x : Int32) (L : List Value) (M : Mem) (Q : Option Value → Mem → Prop), Wp d 140 86 (v0 :: .int x :: L) [.int a, .ref b] M Q ↔ Wp d 140 87 (v0 :: .int x :: L) [.int x, .int a, .ref b] M Q) ∧
    (∀ (d : Nat) (a : Int32) (b : Int32) (c : Nat) (L : List Value) (M : Mem) (Q : Option Value → Mem → Prop), Wp d 140 87 L [.int a, .int b, .ref c] M Q ↔ Wp d 140 88 L [.int (b + a), .ref c] M Q) ∧
    (∀ (d : Nat) (a : Int32) (b : Nat) (L : List Value) (M : Mem) (Q : Option Value → Mem → Prop), Wp d 140 88 L [.int a, .ref b] M Q ↔ ((isR b = true ∧ inr a (lnm M b)) ∧ Wp d 140 89 L [.int (M b a.toNatClampNeg)] M Q)) ∧
    (∀ (d : Nat) (a : Int32) (L : List Value) (M : Mem) (Q : Option Value → Mem → Prop), Wp d 140 89 L [.int a] M Q ↔ Wp d 140 92 L [.int 10000, .int a] M Q) ∧
    (∀ (d : Nat) (a : Int32) (b : Int32) (L : List Value) (M : Mem) (Q : Option Value → Mem → Prop), Wp d 140 92 L [.int a, .int b] M Q ↔ Wp d 140 93 L [.int (b + a)] M Q) ∧
    (∀ (d : Nat) (a : Int32) (L : List Value) (M : Mem) (Q : Option Value → Mem → Prop), Wp d 140 93 L [.int a] M Q ↔ Q (some (.int a)) M) ∧
    (∀ (d : Nat) (x : Nat) (L : List Value) (M : Mem) (Q : Option Value → Mem → Prop), Wp d 140 94 (.ref x :: L) [] M Q ↔ Wp d 140 95 (.ref x :: L) [.ref x] M Q) ∧
    (∀ (d : Nat) (a : Nat) (v0 : Value) (x : Int32) (L : List Value) (M : Mem) (Q : Option Value → Mem → Prop), Wp d 140 95 (v0 :: .int x :: L) [.ref a] M Q ↔ Wp d 140 96 (v0 :: .int x :: L) [.int x, .ref a] M Q) ∧
    (∀ (d : Nat) (a : Int32) (b : Nat) (L : List Value) (M : Mem) (Q : Option Value → Mem → Prop), Wp (d + 1) 140 96 L [.int a, .ref b] M Q ↔ (isK b 12 = true ∧ Wp d 142 0 [.ref b, .int a] [] M (fun r M2 => Wp (d + 1) 140 99 L (r.toList ++ []) M2 Q))) ∧
    (∀ (d : Nat) (a : Int32) (L : List Value) (M : Mem) (Q : Option Value → Mem → Prop), Wp d 140 99 L [.int a] M Q ↔ Q (some (.int a)) M) ∧
    (∀ (d : Nat) (x : Nat) (L : List Value) (M : Mem) (Q : Option Value → Mem → Prop), Wp d 140 100 (.ref x :: L) [] M Q ↔ Wp d 140 101 (.ref x :: L) [.ref x] M Q) ∧
    (∀ (d : Nat) (a : Nat) (v0 : Value) (x : Int32) (L : List Value) (M : Mem) (Q : Option Value → Mem → Prop), Wp d 140 101 (v0 :: .int x :: L) [.ref a] M Q ↔ Wp d 140 102 (v0 :: .int x :: L) [.int x, .ref a] M Q) ∧
    (∀ (d : Nat) (a : Int32) (b : Nat) (L : List Value) (M : Mem) (Q : Option Value → Mem → Prop), Wp (d + 1) 140 102 L [.int a, .ref b] M Q ↔ (isK b 12 = true ∧ Wp d 137 0 [.ref b, .int a, .null, .null] [] M (fun r M2 => Wp (d + 1) 140 105 L (r.toList ++ []) M2 Q))) ∧
    (∀ (d : Nat) (a : Int32) (L : List Value) (M : Mem) (Q : Option Value → Mem → Prop), Wp d 140 105 L [.int a] M Q ↔ Wp d 140 108 L [.int 10000, .int a] M Q) ∧
    (∀ (d : Nat) (a : Int32) (b : Int32) (L : List Value) (M : Mem) (Q : Option Value → Mem → Prop), Wp d 140 108 L [.int a, .int b] M Q ↔ Wp d 140 109 L [.int (b + a)] M Q) ∧
    (∀ (d : Nat) (a : Int32) (L : List Value) (M : Mem) (Q : Option Value → Mem → Prop), Wp d 140 109 L [.int a] M Q ↔ Q (some (.int a)) M) ∧
    (∀ (d : Nat) (L : List Value) (M : Mem) (Q : Option Value → Mem → Prop), Wp d 140 110 L [] M Q ↔ Wp d 140 112 L [.int (-1000000002)] M Q) ∧
    (∀ (d : Nat) (a : Int32) (L : List Value) (M : Mem) (Q : Option Value → Mem → Prop), Wp d 140 112 L [.int a] M Q ↔ Q (some (.int a)) M) := by
  refine ⟨?_, ?_, ?_, ?_, ?_, ?_, ?_, ?_, ?_, ?_, ?_, ?_, ?_, ?_, ?_, ?_, ?_, ?_, ?_, ?_, ?_, ?_, ?_, ?_, ?_, ?_, ?_, ?_, ?_, ?_, ?_, ?_, ?_, ?_, ?_, ?_, ?_, ?_, ?_, ?_, ?_, ?_, ?_, ?_, ?_, ?_, ?_⟩
  · intro d x L M Q; exact Wp_sim (by decide +kernel : decode (cd 140) 0 = .ok (.aload_n 0, 1)) rfl rfl
  · intro d a v0 x L M Q; exact Wp_sim (by decide +kernel : decode (cd 140) 1 = .ok (.iload_n 1, 1)) rfl rfl
  · intro d a b L M Q; exact q_invV (pz := 1053) (n := 1) (c := 12) (m := 2) (k := b) (As := [.int a]) (rest := []) (by decide +kernel : decode (cd 140) 2 = .ok (.invokevirtual 183, 3)) (by decide +kernel) (by decide +kernel) rfl rfl (Nat.le_of_ble_eq_true rfl) (Nat.le_of_ble_eq_true rfl) rfl
  · intro d a L M Q; exact q_zne (by decide +kernel : decode (cd 140) 5 = .ok (.ifCond .ne 6, 3)) (by decide)
  · intro d L M Q; exact q_ldc (p := 1043) (by decide +kernel : decode (cd 140) 8 = .ok (.ldc 180, 2)) (by decide +kernel)
  · intro d a L M Q; exact q_iret (by decide +kernel : decode (cd 140) 10 = .ok (.ireturn , 1)) (by decide +kernel)
  · intro d v0 v1 x L M Q; exact Wp_sim (by decide +kernel : decode (cd 140) 11 = .ok (.iload_n 2, 1)) rfl rfl
  · intro d a L M Q
    by_cases h0 : a = 0
    · subst h0; rw [if_pos rfl]; exact q_tsw (by decide +kernel : decode (cd 140) 12 = .ok (.tableswitch 98 0 6 #[44, 44, 44, 59, 68, 82, 88], 44)) (by decide) (by decide +kernel)
    rw [if_neg h0]
    by_cases h1 : a = 1
    · subst h1; rw [if_pos rfl]; exact q_tsw (by decide +kernel : decode (cd 140) 12 = .ok (.tableswitch 98 0 6 #[44, 44, 44, 59, 68, 82, 88], 44)) (by decide) (by decide +kernel)
    rw [if_neg h1]
    by_cases h2 : a = 2
    · subst h2; rw [if_pos rfl]; exact q_tsw (by decide +kernel : decode (cd 140) 12 = .ok (.tableswitch 98 0 6 #[44, 44, 44, 59, 68, 82, 88], 44)) (by decide) (by decide +kernel)
    rw [if_neg h2]
    by_cases h3 : a = 3
    · subst h3; rw [if_pos rfl]; exact q_tsw (by decide +kernel : decode (cd 140) 12 = .ok (.tableswitch 98 0 6 #[44, 44, 44, 59, 68, 82, 88], 44)) (by decide) (by decide +kernel)
    rw [if_neg h3]
    by_cases h4 : a = 4
    · subst h4; rw [if_pos rfl]; exact q_tsw (by decide +kernel : decode (cd 140) 12 = .ok (.tableswitch 98 0 6 #[44, 44, 44, 59, 68, 82, 88], 44)) (by decide) (by decide +kernel)
    rw [if_neg h4]
    by_cases h5 : a = 5
    · subst h5; rw [if_pos rfl]; exact q_tsw (by decide +kernel : decode (cd 140) 12 = .ok (.tableswitch 98 0 6 #[44, 44, 44, 59, 68, 82, 88], 44)) (by decide) (by decide +kernel)
    rw [if_neg h5]
    by_cases h6 : a = 6
    · subst h6; rw [if_pos rfl]; exact q_tsw (by decide +kernel : decode (cd 140) 12 = .ok (.tableswitch 98 0 6 #[44, 44, 44, 59, 68, 82, 88], 44)) (by decide) (by decide +kernel)
    rw [if_neg h6]
    refine q_tsw (by decide +kernel : decode (cd 140) 12 = .ok (.tableswitch 98 0 6 #[44, 44, 44, 59, 68, 82, 88], 44)) (by decide) ?_
    rw [tsw_out ?_]
    · decide
    have g0 := lv_neT h0 (a := 0) (by decide)
    have g1 := lv_neT h1 (a := 1) (by decide)
    have g2 := lv_neT h2 (a := 2) (by decide)
    have g3 := lv_neT h3 (a := 3) (by decide)
    have g4 := lv_neT h4 (a := 4) (by decide)
    have g5 := lv_neT h5 (a := 5) (by decide)
    have g6 := lv_neT h6 (a := 6) (by decide)
    omega
  · intro d x L M Q; exact Wp_sim (by decide +kernel : decode (cd 140) 56 = .ok (.aload_n 0, 1)) rfl rfl
  · intro d a L M Q; exact q_getR (p := 843) (by decide +kernel : decode (cd 140) 57 = .ok (.getfield 7, 3)) (by decide +kernel) (by decide +kernel)
  · intro d a L M Q; exact Wp_sim (by decide +kernel : decode (cd 140) 60 = .ok (.bipush 14, 2)) rfl rfl
  · intro d a b L M Q; exact Wp_sim (by decide +kernel : decode (cd 140) 62 = .ok (.bipush 6, 2)) rfl rfl
  · intro d a b c v0 v1 x L M Q; exact Wp_sim (by decide +kernel : decode (cd 140) 64 = .ok (.iload_n 2, 1)) rfl rfl
  · intro d a b c d2 L M Q; exact Wp_sim (by decide +kernel : decode (cd 140) 65 = .ok (.imul , 1)) rfl rfl
  · intro d a b c L M Q; exact Wp_sim (by decide +kernel : decode (cd 140) 66 = .ok (.iadd , 1)) rfl rfl
  · intro d a b v0 x L M Q; exact Wp_sim (by decide +kernel : decode (cd 140) 67 = .ok (.iload_n 1, 1)) rfl rfl
  · intro d a b c L M Q; exact Wp_sim (by decide +kernel : decode (cd 140) 68 = .ok (.iadd , 1)) rfl rfl
  · intro d a b L M Q; exact q_ald (by decide +kernel : decode (cd 140) 69 = .ok (.iaload , 1))
  · intro d a L M Q; exact q_iret (by decide +kernel : decode (cd 140) 70 = .ok (.ireturn , 1)) (by decide +kernel)
  · intro d x L M Q; exact Wp_sim (by decide +kernel : decode (cd 140) 71 = .ok (.aload_n 0, 1)) rfl rfl
  · intro d a L M Q; exact q_getR (p := 845) (by decide +kernel : decode (cd 140) 72 = .ok (.getfield 16, 3)) (by decide +kernel) (by decide +kernel)
  · intro d a L M Q; exact Wp_sim (by decide +kernel : decode (cd 140) 75 = .ok (.iconst 0, 1)) rfl rfl
  · intro d a b v0 x L M Q; exact Wp_sim (by decide +kernel : decode (cd 140) 76 = .ok (.iload_n 1, 1)) rfl rfl
  · intro d a b c L M Q; exact Wp_sim (by decide +kernel : decode (cd 140) 77 = .ok (.iadd , 1)) rfl rfl
  · intro d a b L M Q; exact q_ald (by decide +kernel : decode (cd 140) 78 = .ok (.iaload , 1))
  · intro d a L M Q; exact q_iret (by decide +kernel : decode (cd 140) 79 = .ok (.ireturn , 1)) (by decide +kernel)
  · intro d x L M Q; exact Wp_sim (by decide +kernel : decode (cd 140) 80 = .ok (.aload_n 0, 1)) rfl rfl
  · intro d a L M Q; exact q_getR (p := 845) (by decide +kernel : decode (cd 140) 81 = .ok (.getfield 16, 3)) (by decide +kernel) (by decide +kernel)
  · intro d a L M Q; exact Wp_sim (by decide +kernel : decode (cd 140) 84 = .ok (.bipush 6, 2)) rfl rfl
  · intro d a b v0 x L M Q; exact Wp_sim (by decide +kernel : decode (cd 140) 86 = .ok (.iload_n 1, 1)) rfl rfl
  · intro d a b c L M Q; exact Wp_sim (by decide +kernel : decode (cd 140) 87 = .ok (.iadd , 1)) rfl rfl
  · intro d a b L M Q; exact q_ald (by decide +kernel : decode (cd 140) 88 = .ok (.iaload , 1))
  · intro d a L M Q; exact Wp_sim (by decide +kernel : decode (cd 140) 89 = .ok (.sipush 10000, 3)) rfl rfl
  · intro d a b L M Q; exact Wp_sim (by decide +kernel : decode (cd 140) 92 = .ok (.iadd , 1)) rfl rfl
  · intro d a L M Q; exact q_iret (by decide +kernel : decode (cd 140) 93 = .ok (.ireturn , 1)) (by decide +kernel)
  · intro d x L M Q; exact Wp_sim (by decide +kernel : decode (cd 140) 94 = .ok (.aload_n 0, 1)) rfl rfl
  · intro d a v0 x L M Q; exact Wp_sim (by decide +kernel : decode (cd 140) 95 = .ok (.iload_n 1, 1)) rfl rfl
  · intro d a b L M Q; exact q_invV (pz := 1057) (n := 1) (c := 12) (m := 2) (k := b) (As := [.int a]) (rest := []) (by decide +kernel : decode (cd 140) 96 = .ok (.invokevirtual 186, 3)) (by decide +kernel) (by decide +kernel) rfl rfl (Nat.le_of_ble_eq_true rfl) (Nat.le_of_ble_eq_true rfl) rfl
  · intro d a L M Q; exact q_iret (by decide +kernel : decode (cd 140) 99 = .ok (.ireturn , 1)) (by decide +kernel)
  · intro d x L M Q; exact Wp_sim (by decide +kernel : decode (cd 140) 100 = .ok (.aload_n 0, 1)) rfl rfl
  · intro d a v0 x L M Q; exact Wp_sim (by decide +kernel : decode (cd 140) 101 = .ok (.iload_n 1, 1)) rfl rfl
  · intro d a b L M Q; exact q_invV (pz := 1035) (n := 1) (c := 12) (m := 4) (k := b) (As := [.int a]) (rest := []) (by decide +kernel : decode (cd 140) 102 = .ok (.invokevirtual 165, 3)) (by decide +kernel) (by decide +kernel) rfl rfl (Nat.le_of_ble_eq_true rfl) (Nat.le_of_ble_eq_true rfl) rfl
  · intro d a L M Q; exact Wp_sim (by decide +kernel : decode (cd 140) 105 = .ok (.sipush 10000, 3)) rfl rfl
  · intro d a b L M Q; exact Wp_sim (by decide +kernel : decode (cd 140) 108 = .ok (.iadd , 1)) rfl rfl
  · intro d a L M Q; exact q_iret (by decide +kernel : decode (cd 140) 109 = .ok (.ireturn , 1)) (by decide +kernel)
  · intro d L M Q; exact q_ldc (p := 940) (by decide +kernel : decode (cd 140) 110 = .ok (.ldc 79, 2)) (by decide +kernel)
  · intro d a L M Q; exact q_iret (by decide +kernel : decode (cd 140) 112 = .ok (.ireturn , 1)) (by decide +kernel)

/- 141: PalaceYardModel.isDebtor -/
set_option maxRecDepth 10000 in
theorem e141 : (∀ (d : Nat) (v0 : Value) (x : Int32) (L : List Value) (M : Mem) (Q : Option Value → Mem → Prop), Wp d 141 0 (v0 :: .int x :: L) [] M Q ↔ Wp d 141 1 (v0 :: .int x :: L) [.int x] M Q) ∧
    (∀ (d : Nat) (a : Int32) (L : List Value) (M : Mem) (Q : Option Value → Mem → Prop), Wp d 141 1 L [.int a] M Q ↔ Wp d 141 2 L [.long a.toInt64] M Q) ∧
    (∀ (d : Nat) (a : Int64) (L : List Value) (M : Mem) (Q : Option Value → Mem → Prop), Wp d 141 2 L [.long a] M Q ↔ Wp d 141 3 L [.long 0, .long a] M Q) ∧
    (∀ (d : Nat) (a : Int64) (b : Int64) (x : Nat) (L : List Value) (M : Mem) (Q : Option Value → Mem → Prop), Wp d 141 3 (.ref x :: L) [.long a, .long b] M Q ↔ Wp d 141 4 (.ref x :: L) [.ref x, .long a, .long b] M Q) ∧
    (∀ (d : Nat) (a : Nat) (b : Int64) (c : Int64) (L : List Value) (M : Mem) (Q : Option Value → Mem → Prop), Wp d 141 4 L [.ref a, .long b, .long c] M Q ↔ (isK a 12 = true ∧ Wp d 141 7 L [.ref (rt a 0), .long b, .long c] M Q)) ∧
    (∀ (d : Nat) (a : Nat) (b : Int64) (c : Int64) (L : List Value) (M : Mem) (Q : Option Value → Mem → Prop), Wp d 141 7 L [.ref a, .long b, .long c] M Q ↔ Wp d 141 8 L [.int 4, .ref a, .long b, .long c] M Q) ∧
    (∀ (d : Nat) (a : Int32) (b : Nat) (c : Int64) (d2 : Int64) (L : List Value) (M : Mem) (Q : Option Value → Mem → Prop), Wp d 141 8 L [.int a, .ref b, .long c, .long d2] M Q ↔ ((isR b = true ∧ inr a (lnm M b)) ∧ Wp d 141 9 L [.int (M b a.toNatClampNeg), .long c, .long d2] M Q)) ∧
    (∀ (d : Nat) (a : Int32) (b : Int64) (c : Int64) (L : List Value) (M : Mem) (Q : Option Value → Mem → Prop), Wp d 141 9 L [.int a, .long b, .long c] M Q ↔ Wp d 141 10 L [.int 1, .int a, .long b, .long c] M Q) ∧
    (∀ (d : Nat) (a : Int32) (b : Int32) (c : Int64) (d2 : Int64) (L : List Value) (M : Mem) (Q : Option Value → Mem → Prop), Wp d 141 10 L [.int a, .int b, .long c, .long d2] M Q ↔ Wp d 141 11 L [.int (b - a), .long c, .long d2] M Q) ∧
    (∀ (d : Nat) (a : Int32) (b : Int64) (c : Int64) (L : List Value) (M : Mem) (Q : Option Value → Mem → Prop), Wp d 141 11 L [.int a, .long b, .long c] M Q ↔ Wp d 141 12 L [.long a.toInt64, .long b, .long c] M Q) ∧
    (∀ (d : Nat) (a : Int64) (b : Int64) (c : Int64) (L : List Value) (M : Mem) (Q : Option Value → Mem → Prop), Wp (d + 1) 141 12 L [.long a, .long b, .long c] M Q ↔ Wp d 112 0 [.long c, .null, .long b, .null, .long a, .null] [] M (fun r M2 => Wp (d + 1) 141 15 L (r.toList ++ []) M2 Q)) ∧
    (∀ (d : Nat) (a : Int32) (L : List Value) (M : Mem) (Q : Option Value → Mem → Prop), Wp d 141 15 L [.int a] M Q ↔ ((a = 0 ∨ a = 1) ∧ Q (some (.int a)) M)) := by
  refine ⟨?_, ?_, ?_, ?_, ?_, ?_, ?_, ?_, ?_, ?_, ?_, ?_⟩
  · intro d v0 x L M Q; exact Wp_sim (by decide +kernel : decode (cd 141) 0 = .ok (.iload_n 1, 1)) rfl rfl
  · intro d a L M Q; exact Wp_sim (by decide +kernel : decode (cd 141) 1 = .ok (.i2l , 1)) rfl rfl
  · intro d a L M Q; exact Wp_sim (by decide +kernel : decode (cd 141) 2 = .ok (.lconst 0, 1)) rfl rfl
  · intro d a b x L M Q; exact Wp_sim (by decide +kernel : decode (cd 141) 3 = .ok (.aload_n 0, 1)) rfl rfl
  · intro d a b c L M Q; exact q_getR (p := 843) (by decide +kernel : decode (cd 141) 4 = .ok (.getfield 7, 3)) (by decide +kernel) (by decide +kernel)
  · intro d a b c L M Q; exact Wp_sim (by decide +kernel : decode (cd 141) 7 = .ok (.iconst 4, 1)) rfl rfl
  · intro d a b c d2 L M Q; exact q_ald (by decide +kernel : decode (cd 141) 8 = .ok (.iaload , 1))
  · intro d a b c L M Q; exact Wp_sim (by decide +kernel : decode (cd 141) 9 = .ok (.iconst 1, 1)) rfl rfl
  · intro d a b c d2 L M Q; exact Wp_sim (by decide +kernel : decode (cd 141) 10 = .ok (.isub , 1)) rfl rfl
  · intro d a b c L M Q; exact Wp_sim (by decide +kernel : decode (cd 141) 11 = .ok (.i2l , 1)) rfl rfl
  · intro d a b c L M Q; exact q_invS (pz := 937) (n := 3) (m := 6) (As := [.long c, .long b, .long a]) (rest := []) (by decide +kernel : decode (cd 141) 12 = .ok (.invokestatic 75, 3)) (by decide +kernel) (by decide +kernel) (by decide +kernel) rfl rfl (Nat.le_of_ble_eq_true rfl) (Nat.le_of_ble_eq_true rfl) rfl
  · intro d a L M Q; exact q_zret (by decide +kernel : decode (cd 141) 15 = .ok (.ireturn , 1)) (by decide +kernel)

/- 142: PalaceYardModel.costNow -/
set_option maxRecDepth 10000 in
theorem e142 : (∀ (d : Nat) (x : Nat) (L : List Value) (M : Mem) (Q : Option Value → Mem → Prop), Wp d 142 0 (.ref x :: L) [] M Q ↔ Wp d 142 1 (.ref x :: L) [.ref x] M Q) ∧
    (∀ (d : Nat) (a : Nat) (v0 : Value) (x : Int32) (L : List Value) (M : Mem) (Q : Option Value → Mem → Prop), Wp d 142 1 (v0 :: .int x :: L) [.ref a] M Q ↔ Wp d 142 2 (v0 :: .int x :: L) [.int x, .ref a] M Q) ∧
    (∀ (d : Nat) (a : Int32) (b : Nat) (x : Nat) (L : List Value) (M : Mem) (Q : Option Value → Mem → Prop), Wp d 142 2 (.ref x :: L) [.int a, .ref b] M Q ↔ Wp d 142 3 (.ref x :: L) [.ref x, .int a, .ref b] M Q) ∧
    (∀ (d : Nat) (a : Nat) (b : Int32) (c : Nat) (L : List Value) (M : Mem) (Q : Option Value → Mem → Prop), Wp d 142 3 L [.ref a, .int b, .ref c] M Q ↔ (isK a 12 = true ∧ Wp d 142 6 L [.ref (rt a 2), .int b, .ref c] M Q)) ∧
    (∀ (d : Nat) (a : Nat) (b : Int32) (c : Nat) (L : List Value) (M : Mem) (Q : Option Value → Mem → Prop), Wp d 142 6 L [.ref a, .int b, .ref c] M Q ↔ Wp d 142 8 L [.int 48, .ref a, .int b, .ref c] M Q) ∧
    (∀ (d : Nat) (a : Int32) (b : Nat) (c : Int32) (d2 : Nat) (L : List Value) (M : Mem) (Q : Option Value → Mem → Prop), Wp d 142 8 L [.int a, .ref b, .int c, .ref d2] M Q ↔ ((isR b = true ∧ inr a (lnm M b)) ∧ Wp d 142 9 L [.int (M b a.toNatClampNeg), .int c, .ref d2] M Q)) ∧
    (∀ (d : Nat) (a : Int32) (b : Int32) (c : Nat) (L : List Value) (M : Mem) (Q : Option Value → Mem → Prop), Wp (d + 1) 142 9 L [.int a, .int b, .ref c] M Q ↔ (isK c 12 = true ∧ Wp d 143 0 [.ref c, .int b, .int a, .null] [] M (fun r M2 => Wp (d + 1) 142 12 L (r.toList ++ []) M2 Q))) ∧
    (∀ (d : Nat) (a : Int32) (L : List Value) (M : Mem) (Q : Option Value → Mem → Prop), Wp d 142 12 L [.int a] M Q ↔ Q (some (.int a)) M) := by
  refine ⟨?_, ?_, ?_, ?_, ?_, ?_, ?_, ?_⟩
  · intro d x L M Q; exact Wp_sim (by decide +kernel : decode (cd 142) 0 = .ok (.aload_n 0, 1)) rfl rfl
  · intro d a v0 x L M Q; exact Wp_sim (by decide +kernel : decode (cd 142) 1 = .ok (.iload_n 1, 1)) rfl rfl
  · intro d a b x L M Q; exact Wp_sim (by decide +kernel : decode (cd 142) 2 = .ok (.aload_n 0, 1)) rfl rfl
  · intro d a b c L M Q; exact q_getR (p := 845) (by decide +kernel : decode (cd 142) 3 = .ok (.getfield 16, 3)) (by decide +kernel) (by decide +kernel)
  · intro d a b c L M Q; exact Wp_sim (by decide +kernel : decode (cd 142) 6 = .ok (.bipush 48, 2)) rfl rfl
  · intro d a b c d2 L M Q; exact q_ald (by decide +kernel : decode (cd 142) 8 = .ok (.iaload , 1))
  · intro d a b c L M Q; exact q_invV (pz := 1061) (n := 2) (c := 12) (m := 4) (k := c) (As := [.int b, .int a]) (rest := []) (by decide +kernel : decode (cd 142) 9 = .ok (.invokevirtual 147, 3)) (by decide +kernel) (by decide +kernel) rfl rfl (Nat.le_of_ble_eq_true rfl) (Nat.le_of_ble_eq_true rfl) rfl
  · intro d a L M Q; exact q_iret (by decide +kernel : decode (cd 142) 12 = .ok (.ireturn , 1)) (by decide +kernel)

/- 143: PalaceYardModel.costIn -/
set_option maxRecDepth 10000 in
theorem e143 : (∀ (d : Nat) (x : Nat) (L : List Value) (M : Mem) (Q : Option Value → Mem → Prop), Wp d 143 0 (.ref x :: L) [] M Q ↔ Wp d 143 1 (.ref x :: L) [.ref x] M Q) ∧
    (∀ (d : Nat) (a : Nat) (L : List Value) (M : Mem) (Q : Option Value → Mem → Prop), Wp d 143 1 L [.ref a] M Q ↔ (isK a 12 = true ∧ Wp d 143 4 L [.ref (rt a 0)] M Q)) ∧
    (∀ (d : Nat) (a : Nat) (L : List Value) (M : Mem) (Q : Option Value → Mem → Prop), Wp d 143 4 L [.ref a] M Q ↔ Wp d 143 6 L [.int 20, .ref a] M Q) ∧
    (∀ (d : Nat) (a : Int32) (b : Nat) (v0 : Value) (x : Int32) (L : List Value) (M : Mem) (Q : Option Value → Mem → Prop), Wp d 143 6 (v0 :: .int x :: L) [.int a, .ref b] M Q ↔ Wp d 143 7 (v0 :: .int x :: L) [.int x, .int a, .ref b] M Q) ∧
    (∀ (d : Nat) (a : Int32) (b : Int32) (c : Nat) (L : List Value) (M : Mem) (Q : Option Value → Mem → Prop), Wp d 143 7 L [.int a, .int b, .ref c] M Q ↔ Wp d 143 8 L [.int (b + a), .ref c] M Q) ∧
    (∀ (d : Nat) (a : Int32) (b : Nat) (L : List Value) (M : Mem) (Q : Option Value → Mem → Prop), Wp d 143 8 L [.int a, .ref b] M Q ↔ ((isR b = true ∧ inr a (lnm M b)) ∧ Wp d 143 9 L [.int (M b a.toNatClampNeg)] M Q)) ∧
    (∀ (d : Nat) (a : Int32) (x : Nat) (L : List Value) (M : Mem) (Q : Option Value → Mem → Prop), Wp d 143 9 (.ref x :: L) [.int a] M Q ↔ Wp d 143 10 (.ref x :: L) [.ref x, .int a] M Q) ∧
    (∀ (d : Nat) (a : Nat) (b : Int32) (x : Nat) (L : List Value) (M : Mem) (Q : Option Value → Mem → Prop), Wp d 143 10 (.ref x :: L) [.ref a, .int b] M Q ↔ Wp d 143 11 (.ref x :: L) [.ref x, .ref a, .int b] M Q) ∧
    (∀ (d : Nat) (a : Nat) (b : Nat) (c : Int32) (L : List Value) (M : Mem) (Q : Option Value → Mem → Prop), Wp d 143 11 L [.ref a, .ref b, .int c] M Q ↔ (isK a 12 = true ∧ Wp d 143 14 L [.ref (rt a 0), .ref b, .int c] M Q)) ∧
    (∀ (d : Nat) (a : Nat) (b : Nat) (c : Int32) (L : List Value) (M : Mem) (Q : Option Value → Mem → Prop), Wp d 143 14 L [.ref a, .ref b, .int c] M Q ↔ Wp d 143 16 L [.int 14, .ref a, .ref b, .int c] M Q) ∧
    (∀ (d : Nat) (a : Int32) (b : Nat) (c : Nat) (d2 : Int32) (v0 : Value) (x : Int32) (L : List Value) (M : Mem) (Q : Option Value → Mem → Prop), Wp d 143 16 (v0 :: .int x :: L) [.int a, .ref b, .ref c, .int d2] M Q ↔ Wp d 143 17 (v0 :: .int x :: L) [.int x, .int a, .ref b, .ref c, .int d2] M Q) ∧
    (∀ (d : Nat) (a : Int32) (b : Int32) (c : Nat) (d2 : Nat) (e : Int32) (L : List Value) (M : Mem) (Q : Option Value → Mem → Prop), Wp d 143 17 L [.int a, .int b, .ref c, .ref d2, .int e] M Q ↔ Wp d 143 18 L [.int (b + a), .ref c, .ref d2, .int e] M Q) ∧
    (∀ (d : Nat) (a : Int32) (b : Nat) (c : Nat) (d2 : Int32) (L : List Value) (M : Mem) (Q : Option Value → Mem → Prop), Wp d 143 18 L [.int a, .ref b, .ref c, .int d2] M Q ↔ ((isR b = true ∧ inr a (lnm M b)) ∧ Wp d 143 19 L [.int (M b a.toNatClampNeg), .ref c, .int d2] M Q)) ∧
    (∀ (d : Nat) (a : Int32) (b : Nat) (c : Int32) (v0 : Value) (v1 : Value) (x : Int32) (L : List Value) (M : Mem) (Q : Option Value → Mem → Prop), Wp d 143 19 (v0 :: v1 :: .int x :: L) [.int a, .ref b, .int c] M Q ↔ Wp d 143 20 (v0 :: v1 :: .int x :: L) [.int x, .int a, .ref b, .int c] M Q) ∧
    (∀ (d : Nat) (a : Int32) (b : Int32) (c : Nat) (d2 : Int32) (L : List Value) (M : Mem) (Q : Option Value → Mem → Prop), Wp (d + 1) 143 20 L [.int a, .int b, .ref c, .int d2] M Q ↔ (isK c 12 = true ∧ Wp d 139 0 [.ref c, .int b, .int a] [] M (fun r M2 => Wp (d + 1) 143 23 L (r.toList ++ [.int d2]) M2 Q))) ∧
    (∀ (d : Nat) (a : Int32) (b : Int32) (L : List Value) (M : Mem) (Q : Option Value → Mem → Prop), Wp d 143 23 L [.int a, .int b] M Q ↔ Wp d 143 24 L [.int (b * a)] M Q) ∧
    (∀ (d : Nat) (a : Int32) (v0 : Value) (v1 : Value) (v2 : Value) (x : Value) (L : List Value) (M : Mem) (Q : Option Value → Mem → Prop), Wp d 143 24 (v0 :: v1 :: v2 :: x :: L) [.int a] M Q ↔ Wp d 143 25 (v0 :: v1 :: clr v2 :: .int a :: L) [] M Q) ∧
    (∀ (d : Nat) (v0 : Value) (v1 : Value) (v2 : Value) (x : Int32) (L : List Value) (M : Mem) (Q : Option Value → Mem → Prop), Wp d 143 25 (v0 :: v1 :: v2 :: .int x :: L) [] M Q ↔ Wp d 143 26 (v0 :: v1 :: v2 :: .int x :: L) [.int x] M Q) ∧
    (∀ (d : Nat) (a : Int32) (L : List Value) (M : Mem) (Q : Option Value → Mem → Prop), Wp d 143 26 L [.int a] M Q ↔ Wp d 143 28 L [.int 100, .int a] M Q) ∧
    (∀ (d : Nat) (a : Int32) (b : Int32) (L : List Value) (M : Mem) (Q : Option Value → Mem → Prop), Wp d 143 28 L [.int a, .int b] M Q ↔ (¬ a = 0 ∧ Wp d 143 29 L [.int (b / a)] M Q)) ∧
    (∀ (d : Nat) (a : Int32) (v0 : Value) (v1 : Value) (v2 : Value) (x : Int32) (L : List Value) (M : Mem) (Q : Option Value → Mem → Prop), Wp d 143 29 (v0 :: v1 :: v2 :: .int x :: L) [.int a] M Q ↔ Wp d 143 30 (v0 :: v1 :: v2 :: .int x :: L) [.int x, .int a] M Q) ∧
    (∀ (d : Nat) (a : Int32) (b : Int32) (L : List Value) (M : Mem) (Q : Option Value → Mem → Prop), Wp d 143 30 L [.int a, .int b] M Q ↔ Wp d 143 32 L [.int 100, .int a, .int b] M Q) ∧
    (∀ (d : Nat) (a : Int32) (b : Int32) (c : Int32) (L : List Value) (M : Mem) (Q : Option Value → Mem → Prop), Wp d 143 32 L [.int a, .int b, .int c] M Q ↔ (¬ a = 0 ∧ Wp d 143 33 L [.int (b - b / a * a), .int c] M Q)) ∧
    (∀ (d : Nat) (a : Int32) (b : Int32) (L : List Value) (M : Mem) (Q : Option Value → Mem → Prop), Wp d 143 33 L [.int a, .int b] M Q ↔ (if a = 0 then Wp d 143 36 L [.int b] M Q else Wp d 143 40 L [.int b] M Q)) ∧
    (∀ (d : Nat) (a : Int32) (L : List Value) (M : Mem) (Q : Option Value → Mem → Prop), Wp d 143 36 L [.int a] M Q ↔ Wp d 143 37 L [.int 0, .int a] M Q) ∧
    (∀ (d : Nat) (a : Int32) (b : Int32) (L : List Value) (M : Mem) (Q : Option Value → Mem → Prop), Wp d 143 37 L [.int a, .int b] M Q ↔ Wp d 143 41 L [.int a, .int b] M Q) ∧
    (∀ (d : Nat) (a : Int32) (L : List Value) (M : Mem) (Q : Option Value → Mem → Prop), Wp d 143 40 L [.int a] M Q ↔ Wp d 143 41 L [.int 1, .int a] M Q) ∧
    (∀ (d : Nat) (a : Int32) (b : Int32) (L : List Value) (M : Mem) (Q : Option Value → Mem → Prop), Wp d 143 41 L [.int a, .int b] M Q ↔ Wp d 143 42 L [.int (b + a)] M Q) ∧
    (∀ (d : Nat) (a : Int32) (L : List Value) (M : Mem) (Q : Option Value → Mem → Prop), Wp d 143 42 L [.int a] M Q ↔ Q (some (.int a)) M) := by
  refine ⟨?_, ?_, ?_, ?_, ?_, ?_, ?_, ?_, ?_, ?_, ?_, ?_, ?_, ?_, ?_, ?_, ?_, ?_, ?_, ?_, ?_, ?_, ?_, ?_, ?_, ?_, ?_, ?_, ?_⟩
  · intro d x L M Q; exact Wp_sim (by decide +kernel : decode (cd 143) 0 = .ok (.aload_n 0, 1)) rfl rfl
  · intro d a L M Q; exact q_getR (p := 843) (by decide +kernel : decode (cd 143) 1 = .ok (.getfield 7, 3)) (by decide +kernel) (by decide +kernel)
  · intro d a L M Q; exact Wp_sim (by decide +kernel : decode (cd 143) 4 = .ok (.bipush 20, 2)) rfl rfl
  · intro d a b v0 x L M Q; exact Wp_sim (by decide +kernel : decode (cd 143) 6 = .ok (.iload_n 1, 1)) rfl rfl
  · intro d a b c L M Q; exact Wp_sim (by decide +kernel : decode (cd 143) 7 = .ok (.iadd , 1)) rfl rfl
  · intro d a b L M Q; exact q_ald (by decide +kernel : decode (cd 143) 8 = .ok (.iaload , 1))
  · intro d a x L M Q; exact Wp_sim (by decide +kernel : decode (cd 143) 9 = .ok (.aload_n 0, 1)) rfl rfl
  · intro d a b x L M Q; exact Wp_sim (by decide +kernel : decode (cd 143) 10 = .ok (.aload_n 0, 1)) rfl rfl
  · intro d a b c L M Q; exact q_getR (p := 843) (by decide +kernel : decode (cd 143) 11 = .ok (.getfield 7, 3)) (by decide +kernel) (by decide +kernel)
  · intro d a b c L M Q; exact Wp_sim (by decide +kernel : decode (cd 143) 14 = .ok (.bipush 14, 2)) rfl rfl
  · intro d a b c d2 v0 x L M Q; exact Wp_sim (by decide +kernel : decode (cd 143) 16 = .ok (.iload_n 1, 1)) rfl rfl
  · intro d a b c d2 e L M Q; exact Wp_sim (by decide +kernel : decode (cd 143) 17 = .ok (.iadd , 1)) rfl rfl
  · intro d a b c d2 L M Q; exact q_ald (by decide +kernel : decode (cd 143) 18 = .ok (.iaload , 1))
  · intro d a b c v0 v1 x L M Q; exact Wp_sim (by decide +kernel : decode (cd 143) 19 = .ok (.iload_n 2, 1)) rfl rfl
  · intro d a b c d2 L M Q; exact q_invV (pz := 1045) (n := 2) (c := 12) (m := 3) (k := c) (As := [.int b, .int a]) (rest := [.int d2]) (by decide +kernel : decode (cd 143) 20 = .ok (.invokevirtual 144, 3)) (by decide +kernel) (by decide +kernel) rfl rfl (Nat.le_of_ble_eq_true rfl) (Nat.le_of_ble_eq_true rfl) rfl
  · intro d a b L M Q; exact Wp_sim (by decide +kernel : decode (cd 143) 23 = .ok (.imul , 1)) rfl rfl
  · intro d a v0 v1 v2 x L M Q; exact Wp_sim (by decide +kernel : decode (cd 143) 24 = .ok (.istore_n 3, 1)) rfl rfl
  · intro d v0 v1 v2 x L M Q; exact Wp_sim (by decide +kernel : decode (cd 143) 25 = .ok (.iload_n 3, 1)) rfl rfl
  · intro d a L M Q; exact Wp_sim (by decide +kernel : decode (cd 143) 26 = .ok (.bipush 100, 2)) rfl rfl
  · intro d a b L M Q; exact q_idiv (by decide +kernel : decode (cd 143) 28 = .ok (.idiv , 1))
  · intro d a v0 v1 v2 x L M Q; exact Wp_sim (by decide +kernel : decode (cd 143) 29 = .ok (.iload_n 3, 1)) rfl rfl
  · intro d a b L M Q; exact Wp_sim (by decide +kernel : decode (cd 143) 30 = .ok (.bipush 100, 2)) rfl rfl
  · intro d a b c L M Q; exact q_irem (by decide +kernel : decode (cd 143) 32 = .ok (.irem , 1))
  · intro d a b L M Q; exact q_zne (by decide +kernel : decode (cd 143) 33 = .ok (.ifCond .ne 7, 3)) (by decide)
  · intro d a L M Q; exact Wp_sim (by decide +kernel : decode (cd 143) 36 = .ok (.iconst 0, 1)) rfl rfl
  · intro d a b L M Q; exact q_goto (by decide +kernel : decode (cd 143) 37 = .ok (.goto 4, 3)) (by decide)
  · intro d a L M Q; exact Wp_sim (by decide +kernel : decode (cd 143) 40 = .ok (.iconst 1, 1)) rfl rfl
  · intro d a b L M Q; exact Wp_sim (by decide +kernel : decode (cd 143) 41 = .ok (.iadd , 1)) rfl rfl
  · intro d a L M Q; exact q_iret (by decide +kernel : decode (cd 143) 42 = .ok (.ireturn , 1)) (by decide +kernel)

/- 144: PalaceYardModel.owes -/
set_option maxRecDepth 10000 in
theorem e144 : (∀ (d : Nat) (x : Nat) (L : List Value) (M : Mem) (Q : Option Value → Mem → Prop), Wp d 144 0 (.ref x :: L) [] M Q ↔ Wp d 144 1 (.ref x :: L) [.ref x] M Q) ∧
    (∀ (d : Nat) (a : Nat) (v0 : Value) (x : Int32) (L : List Value) (M : Mem) (Q : Option Value → Mem → Prop), Wp d 144 1 (v0 :: .int x :: L) [.ref a] M Q ↔ Wp d 144 2 (v0 :: .int x :: L) [.int x, .ref a] M Q) ∧
    (∀ (d : Nat) (a : Int32) (b : Nat) (L : List Value) (M : Mem) (Q : Option Value → Mem → Prop), Wp (d + 1) 144 2 L [.int a, .ref b] M Q ↔ (isK b 12 = true ∧ Wp d 141 0 [.ref b, .int a] [] M (fun r M2 => Wp (d + 1) 144 5 L (r.toList ++ []) M2 Q))) ∧
    (∀ (d : Nat) (a : Int32) (L : List Value) (M : Mem) (Q : Option Value → Mem → Prop), Wp d 144 5 L [.int a] M Q ↔ (if a = 0 then Wp d 144 42 L [] M Q else Wp d 144 8 L [] M Q)) ∧
    (∀ (d : Nat) (x : Nat) (L : List Value) (M : Mem) (Q : Option Value → Mem → Prop), Wp d 144 8 (.ref x :: L) [] M Q ↔ Wp d 144 9 (.ref x :: L) [.ref x] M Q) ∧
    (∀ (d : Nat) (a : Nat) (v0 : Value) (v1 : Value) (x : Int32) (L : List Value) (M : Mem) (Q : Option Value → Mem → Prop), Wp d 144 9 (v0 :: v1 :: .int x :: L) [.ref a] M Q ↔ Wp d 144 10 (v0 :: v1 :: .int x :: L) [.int x, .ref a] M Q) ∧
    (∀ (d : Nat) (a : Int32) (b : Nat) (L : List Value) (M : Mem) (Q : Option Value → Mem → Prop), Wp (d + 1) 144 10 L [.int a, .ref b] M Q ↔ (isK b 12 = true ∧ Wp d 141 0 [.ref b, .int a] [] M (fun r M2 => Wp (d + 1) 144 13 L (r.toList ++ []) M2 Q))) ∧
    (∀ (d : Nat) (a : Int32) (L : List Value) (M : Mem) (Q : Option Value → Mem → Prop), Wp d 144 13 L [.int a] M Q ↔ (if a = 0 then Wp d 144 42 L [] M Q else Wp d 144 16 L [] M Q)) ∧
    (∀ (d : Nat) (v0 : Value) (x : Int32) (L : List Value) (M : Mem) (Q : Option Value → Mem → Prop), Wp d 144 16 (v0 :: .int x :: L) [] M Q ↔ Wp d 144 17 (v0 :: .int x :: L) [.int x] M Q) ∧
    (∀ (d : Nat) (a : Int32) (v0 : Value) (v1 : Value) (x : Int32) (L : List Value) (M : Mem) (Q : Option Value → Mem → Prop), Wp d 144 17 (v0 :: v1 :: .int x :: L) [.int a] M Q ↔ Wp d 144 18 (v0 :: v1 :: .int x :: L) [.int x, .int a] M Q) ∧
    (∀ (d : Nat) (a : Int32) (b : Int32) (L : List Value) (M : Mem) (Q : Option Value → Mem → Prop), Wp d 144 18 L [.int a, .int b] M Q ↔ (if b = a then Wp d 144 42 L [] M Q else Wp d 144 21 L [] M Q)) ∧
    (∀ (d : Nat) (L : List Value) (M : Mem) (Q : Option Value → Mem → Prop), Wp d 144 21 L [] M Q ↔ Wp d 144 22 L [.int 0] M Q) ∧
    (∀ (d : Nat) (a : Int32) (x : Nat) (L : List Value) (M : Mem) (Q : Option Value → Mem → Prop), Wp d 144 22 (.ref x :: L) [.int a] M Q ↔ Wp d 144 23 (.ref x :: L) [.ref x, .int a] M Q) ∧
    (∀ (d : Nat) (a : Nat) (b : Int32) (L : List Value) (M : Mem) (Q : Option Value → Mem → Prop), Wp d 144 23 L [.ref a, .int b] M Q ↔ (isK a 12 = true ∧ Wp d 144 26 L [.ref (rt a 2), .int b] M Q)) ∧
    (∀ (d : Nat) (a : Nat) (b : Int32) (L : List Value) (M : Mem) (Q : Option Value → Mem → Prop), Wp d 144 26 L [.ref a, .int b] M Q ↔ Wp d 144 28 L [.int 12, .ref a, .int b] M Q) ∧
    (∀ (d : Nat) (a : Int32) (b : Nat) (c : Int32) (L : List Value) (M : Mem) (Q : Option Value → Mem → Prop), Wp d 144 28 L [.int a, .ref b, .int c] M Q ↔ Wp d 144 30 L [.int 6, .int a, .ref b, .int c] M Q) ∧
    (∀ (d : Nat) (a : Int32) (b : Int32) (c : Nat) (d2 : Int32) (v0 : Value) (v1 : Value) (x : Int32) (L : List Value) (M : Mem) (Q : Option Value → Mem → Prop), Wp d 144 30 (v0 :: v1 :: .int x :: L) [.int a, .int b, .ref c, .int d2] M Q ↔ Wp d 144 31 (v0 :: v1 :: .int x :: L) [.int x, .int a, .int b, .ref c, .int d2] M Q) ∧
    (∀ (d : Nat) (a : Int32) (b : Int32) (c : Int32) (d2 : Nat) (e : Int32) (L : List Value) (M : Mem) (Q : Option Value → Mem → Prop), Wp d 144 31 L [.int a, .int b, .int c, .ref d2, .int e] M Q ↔ Wp d 144 32 L [.int (b * a), .int c, .ref d2, .int e] M Q) ∧
    (∀ (d : Nat) (a : Int32) (b : Int32) (c : Nat) (d2 : Int32) (L : List Value) (M : Mem) (Q : Option Value → Mem → Prop), Wp d 144 32 L [.int a, .int b, .ref c, .int d2] M Q ↔ Wp d 144 33 L [.int (b + a), .ref c, .int d2] M Q) ∧
    (∀ (d : Nat) (a : Int32) (b : Nat) (c : Int32) (v0 : Value) (x : Int32) (L : List Value) (M : Mem) (Q : Option Value → Mem → Prop), Wp d 144 33 (v0 :: .int x :: L) [.int a, .ref b, .int c] M Q ↔ Wp d 144 34 (v0 :: .int x :: L) [.int x, .int a, .ref b, .int c] M Q) ∧
    (∀ (d : Nat) (a : Int32) (b : Int32) (c : Nat) (d2 : Int32) (L : List Value) (M : Mem) (Q : Option Value → Mem → Prop), Wp d 144 34 L [.int a, .int b, .ref c, .int d2] M Q ↔ Wp d 144 35 L [.int (b + a), .ref c, .int d2] M Q) ∧
    (∀ (d : Nat) (a : Int32) (b : Nat) (c : Int32) (L : List Value) (M : Mem) (Q : Option Value → Mem → Prop), Wp d 144 35 L [.int a, .ref b, .int c] M Q ↔ ((isR b = true ∧ inr a (lnm M b)) ∧ Wp d 144 36 L [.int (M b a.toNatClampNeg), .int c] M Q)) ∧
    (∀ (d : Nat) (a : Int32) (b : Int32) (L : List Value) (M : Mem) (Q : Option Value → Mem → Prop), Wp (d + 1) 144 36 L [.int a, .int b] M Q ↔ Wp d 134 0 [.int b, .int a] [] M (fun r M2 => Wp (d + 1) 144 39 L (r.toList ++ []) M2 Q)) ∧
    (∀ (d : Nat) (a : Int32) (L : List Value) (M : Mem) (Q : Option Value → Mem → Prop), Wp d 144 39 L [.int a] M Q ↔ Wp d 144 44 L [.int a] M Q) ∧
    (∀ (d : Nat) (L : List Value) (M : Mem) (Q : Option Value → Mem → Prop), Wp d 144 42 L [] M Q ↔ Wp d 144 44 L [.int (-1000000001)] M Q) ∧
    (∀ (d : Nat) (a : Int32) (L : List Value) (M : Mem) (Q : Option Value → Mem → Prop), Wp d 144 44 L [.int a] M Q ↔ Q (some (.int a)) M) := by
  refine ⟨?_, ?_, ?_, ?_, ?_, ?_, ?_, ?_, ?_, ?_, ?_, ?_, ?_, ?_, ?_, ?_, ?_, ?_, ?_, ?_, ?_, ?_, ?_, ?_, ?_, ?_⟩
  · intro d x L M Q; exact Wp_sim (by decide +kernel : decode (cd 144) 0 = .ok (.aload_n 0, 1)) rfl rfl
  · intro d a v0 x L M Q; exact Wp_sim (by decide +kernel : decode (cd 144) 1 = .ok (.iload_n 1, 1)) rfl rfl
  · intro d a b L M Q; exact q_invV (pz := 1053) (n := 1) (c := 12) (m := 2) (k := b) (As := [.int a]) (rest := []) (by decide +kernel : decode (cd 144) 2 = .ok (.invokevirtual 183, 3)) (by decide +kernel) (by decide +kernel) rfl rfl (Nat.le_of_ble_eq_true rfl) (Nat.le_of_ble_eq_true rfl) rfl
  · intro d a L M Q; exact q_zeq (by decide +kernel : decode (cd 144) 5 = .ok (.ifCond .eq 37, 3)) (by decide)
  · intro d x L M Q; exact Wp_sim (by decide +kernel : decode (cd 144) 8 = .ok (.aload_n 0, 1)) rfl rfl
  · intro d a v0 v1 x L M Q; exact Wp_sim (by decide +kernel : decode (cd 144) 9 = .ok (.iload_n 2, 1)) rfl rfl
  · intro d a b L M Q; exact q_invV (pz := 1053) (n := 1) (c := 12) (m := 2) (k := b) (As := [.int a]) (rest := []) (by decide +kernel : decode (cd 144) 10 = .ok (.invokevirtual 183, 3)) (by decide +kernel) (by decide +kernel) rfl rfl (Nat.le_of_ble_eq_true rfl) (Nat.le_of_ble_eq_true rfl) rfl
  · intro d a L M Q; exact q_zeq (by decide +kernel : decode (cd 144) 13 = .ok (.ifCond .eq 29, 3)) (by decide)
  · intro d v0 x L M Q; exact Wp_sim (by decide +kernel : decode (cd 144) 16 = .ok (.iload_n 1, 1)) rfl rfl
  · intro d a v0 v1 x L M Q; exact Wp_sim (by decide +kernel : decode (cd 144) 17 = .ok (.iload_n 2, 1)) rfl rfl
  · intro d a b L M Q; exact q_ieq (by decide +kernel : decode (cd 144) 18 = .ok (.if_icmp .eq 24, 3)) (by decide)
  · intro d L M Q; exact Wp_sim (by decide +kernel : decode (cd 144) 21 = .ok (.iconst 0, 1)) rfl rfl
  · intro d a x L M Q; exact Wp_sim (by decide +kernel : decode (cd 144) 22 = .ok (.aload_n 0, 1)) rfl rfl
  · intro d a b L M Q; exact q_getR (p := 845) (by decide +kernel : decode (cd 144) 23 = .ok (.getfield 16, 3)) (by decide +kernel) (by decide +kernel)
  · intro d a b L M Q; exact Wp_sim (by decide +kernel : decode (cd 144) 26 = .ok (.bipush 12, 2)) rfl rfl
  · intro d a b c L M Q; exact Wp_sim (by decide +kernel : decode (cd 144) 28 = .ok (.bipush 6, 2)) rfl rfl
  · intro d a b c d2 v0 v1 x L M Q; exact Wp_sim (by decide +kernel : decode (cd 144) 30 = .ok (.iload_n 2, 1)) rfl rfl
  · intro d a b c d2 e L M Q; exact Wp_sim (by decide +kernel : decode (cd 144) 31 = .ok (.imul , 1)) rfl rfl
  · intro d a b c d2 L M Q; exact Wp_sim (by decide +kernel : decode (cd 144) 32 = .ok (.iadd , 1)) rfl rfl
  · intro d a b c v0 x L M Q; exact Wp_sim (by decide +kernel : decode (cd 144) 33 = .ok (.iload_n 1, 1)) rfl rfl
  · intro d a b c d2 L M Q; exact Wp_sim (by decide +kernel : decode (cd 144) 34 = .ok (.iadd , 1)) rfl rfl
  · intro d a b c L M Q; exact q_ald (by decide +kernel : decode (cd 144) 35 = .ok (.iaload , 1))
  · intro d a b L M Q; exact q_invS (pz := 1024) (n := 2) (m := 2) (As := [.int b, .int a]) (rest := []) (by decide +kernel : decode (cd 144) 36 = .ok (.invokestatic 61, 3)) (by decide +kernel) (by decide +kernel) (by decide +kernel) rfl rfl (Nat.le_of_ble_eq_true rfl) (Nat.le_of_ble_eq_true rfl) rfl
  · intro d a L M Q; exact q_goto (by decide +kernel : decode (cd 144) 39 = .ok (.goto 5, 3)) (by decide)
  · intro d L M Q; exact q_ldc (p := 1043) (by decide +kernel : decode (cd 144) 42 = .ok (.ldc 180, 2)) (by decide +kernel)
  · intro d a L M Q; exact q_iret (by decide +kernel : decode (cd 144) 44 = .ok (.ireturn , 1)) (by decide +kernel)

/- 145: PalaceYardModel.place -/
set_option maxRecDepth 10000 in
theorem e145 : (∀ (d : Nat) (v0 : Value) (x : Int32) (L : List Value) (M : Mem) (Q : Option Value → Mem → Prop), Wp d 145 0 (v0 :: .int x :: L) [] M Q ↔ Wp d 145 1 (v0 :: .int x :: L) [.int x] M Q) ∧
    (∀ (d : Nat) (a : Int32) (L : List Value) (M : Mem) (Q : Option Value → Mem → Prop), Wp d 145 1 L [.int a] M Q ↔ Wp d 145 2 L [.long a.toInt64] M Q) ∧
    (∀ (d : Nat) (a : Int64) (L : List Value) (M : Mem) (Q : Option Value → Mem → Prop), Wp d 145 2 L [.long a] M Q ↔ Wp d 145 3 L [.long 0, .long a] M Q) ∧
    (∀ (d : Nat) (a : Int64) (b : Int64) (x : Nat) (L : List Value) (M : Mem) (Q : Option Value → Mem → Prop), Wp d 145 3 (.ref x :: L) [.long a, .long b] M Q ↔ Wp d 145 4 (.ref x :: L) [.ref x, .long a, .long b] M Q) ∧
    (∀ (d : Nat) (a : Nat) (b : Int64) (c : Int64) (L : List Value) (M : Mem) (Q : Option Value → Mem → Prop), Wp d 145 4 L [.ref a, .long b, .long c] M Q ↔ (isK a 12 = true ∧ Wp d 145 7 L [.ref (rt a 0), .long b, .long c] M Q)) ∧
    (∀ (d : Nat) (a : Nat) (b : Int64) (c : Int64) (L : List Value) (M : Mem) (Q : Option Value → Mem → Prop), Wp d 145 7 L [.ref a, .long b, .long c] M Q ↔ Wp d 145 8 L [.int 5, .ref a, .long b, .long c] M Q) ∧
    (∀ (d : Nat) (a : Int32) (b : Nat) (c : Int64) (d2 : Int64) (L : List Value) (M : Mem) (Q : Option Value → Mem → Prop), Wp d 145 8 L [.int a, .ref b, .long c, .long d2] M Q ↔ ((isR b = true ∧ inr a (lnm M b)) ∧ Wp d 145 9 L [.int (M b a.toNatClampNeg), .long c, .long d2] M Q)) ∧
    (∀ (d : Nat) (a : Int32) (b : Int64) (c : Int64) (L : List Value) (M : Mem) (Q : Option Value → Mem → Prop), Wp d 145 9 L [.int a, .long b, .long c] M Q ↔ Wp d 145 10 L [.int 1, .int a, .long b, .long c] M Q) ∧
    (∀ (d : Nat) (a : Int32) (b : Int32) (c : Int64) (d2 : Int64) (L : List Value) (M : Mem) (Q : Option Value → Mem → Prop), Wp d 145 10 L [.int a, .int b, .long c, .long d2] M Q ↔ Wp d 145 11 L [.int (b - a), .long c, .long d2] M Q) ∧
    (∀ (d : Nat) (a : Int32) (b : Int64) (c : Int64) (L : List Value) (M : Mem) (Q : Option Value → Mem → Prop), Wp d 145 11 L [.int a, .long b, .long c] M Q ↔ Wp d 145 12 L [.long a.toInt64, .long b, .long c] M Q) ∧
    (∀ (d : Nat) (a : Int64) (b : Int64) (c : Int64) (L : List Value) (M : Mem) (Q : Option Value → Mem → Prop), Wp (d + 1) 145 12 L [.long a, .long b, .long c] M Q ↔ Wp d 112 0 [.long c, .null, .long b, .null, .long a, .null] [] M (fun r M2 => Wp (d + 1) 145 15 L (r.toList ++ []) M2 Q)) ∧
    (∀ (d : Nat) (a : Int32) (L : List Value) (M : Mem) (Q : Option Value → Mem → Prop), Wp d 145 15 L [.int a] M Q ↔ (if a = 0 then Wp d 145 18 L [] M Q else Wp d 145 21 L [] M Q)) ∧
    (∀ (d : Nat) (L : List Value) (M : Mem) (Q : Option Value → Mem → Prop), Wp d 145 18 L [] M Q ↔ Wp d 145 20 L [.int (-1000000001)] M Q) ∧
    (∀ (d : Nat) (a : Int32) (L : List Value) (M : Mem) (Q : Option Value → Mem → Prop), Wp d 145 20 L [.int a] M Q ↔ Q (some (.int a)) M) ∧
    (∀ (d : Nat) (v0 : Value) (v1 : Value) (x : Int32) (L : List Value) (M : Mem) (Q : Option Value → Mem → Prop), Wp d 145 21 (v0 :: v1 :: .int x :: L) [] M Q ↔ Wp d 145 22 (v0 :: v1 :: .int x :: L) [.int x] M Q) ∧
    (∀ (d : Nat) (a : Int32) (L : List Value) (M : Mem) (Q : Option Value → Mem → Prop), Wp d 145 22 L [.int a] M Q ↔ Wp d 145 23 L [.long a.toInt64] M Q) ∧
    (∀ (d : Nat) (a : Int64) (L : List Value) (M : Mem) (Q : Option Value → Mem → Prop), Wp d 145 23 L [.long a] M Q ↔ Wp d 145 24 L [.long 0, .long a] M Q) ∧
    (∀ (d : Nat) (a : Int64) (b : Int64) (L : List Value) (M : Mem) (Q : Option Value → Mem → Prop), Wp d 145 24 L [.long a, .long b] M Q ↔ Wp d 145 27 L [.long 2, .long a, .long b] M Q) ∧
    (∀ (d : Nat) (a : Int64) (b : Int64) (c : Int64) (L : List Value) (M : Mem) (Q : Option Value → Mem → Prop), Wp (d + 1) 145 27 L [.long a, .long b, .long c] M Q ↔ Wp d 112 0 [.long c, .null, .long b, .null, .long a, .null] [] M (fun r M2 => Wp (d + 1) 145 30 L (r.toList ++ []) M2 Q)) ∧
    (∀ (d : Nat) (a : Int32) (L : List Value) (M : Mem) (Q : Option Value → Mem → Prop), Wp d 145 30 L [.int a] M Q ↔ (if a = 0 then Wp d 145 50 L [] M Q else Wp d 145 33 L [] M Q)) ∧
    (∀ (d : Nat) (x : Nat) (L : List Value) (M : Mem) (Q : Option Value → Mem → Prop), Wp d 145 33 (.ref x :: L) [] M Q ↔ Wp d 145 34 (.ref x :: L) [.ref x] M Q) ∧
    (∀ (d : Nat) (a : Nat) (L : List Value) (M : Mem) (Q : Option Value → Mem → Prop), Wp d 145 34 L [.ref a] M Q ↔ (isK a 12 = true ∧ Wp d 145 37 L [.ref (rt a 0)] M Q)) ∧
    (∀ (d : Nat) (a : Nat) (L : List Value) (M : Mem) (Q : Option Value → Mem → Prop), Wp d 145 37 L [.ref a] M Q ↔ Wp d 145 39 L [.int 32, .ref a] M Q) ∧
    (∀ (d : Nat) (a : Int32) (b : Nat) (L : List Value) (M : Mem) (Q : Option Value → Mem → Prop), Wp d 145 39 L [.int a, .ref b] M Q ↔ Wp d 145 41 L [.int 6, .int a, .ref b] M Q) ∧
    (∀ (d : Nat) (a : Int32) (b : Int32) (c : Nat) (v0 : Value) (v1 : Value) (x : Int32) (L : List Value) (M : Mem) (Q : Option Value → Mem → Prop), Wp d 145 41 (v0 :: v1 :: .int x :: L) [.int a, .int b, .ref c] M Q ↔ Wp d 145 42 (v0 :: v1 :: .int x :: L) [.int x, .int a, .int b, .ref c] M Q) ∧
    (∀ (d : Nat) (a : Int32) (b : Int32) (c : Int32) (d2 : Nat) (L : List Value) (M : Mem) (Q : Option Value → Mem → Prop), Wp d 145 42 L [.int a, .int b, .int c, .ref d2] M Q ↔ Wp d 145 43 L [.int (b * a), .int c, .ref d2] M Q) ∧
    (∀ (d : Nat) (a : Int32) (b : Int32) (c : Nat) (L : List Value) (M : Mem) (Q : Option Value → Mem → Prop), Wp d 145 43 L [.int a, .int b, .ref c] M Q ↔ Wp d 145 44 L [.int (b + a), .ref c] M Q) ∧
    (∀ (d : Nat) (a : Int32) (b : Nat) (v0 : Value) (x : Int32) (L : List Value) (M : Mem) (Q : Option Value → Mem → Prop), Wp d 145 44 (v0 :: .int x :: L) [.int a, .ref b] M Q ↔ Wp d 145 45 (v0 :: .int x :: L) [.int x, .int a, .ref b] M Q) ∧
    (∀ (d : Nat) (a : Int32) (b : Int32) (c : Nat) (L : List Value) (M : Mem) (Q : Option Value → Mem → Prop), Wp d 145 45 L [.int a, .int b, .ref c] M Q ↔ Wp d 145 46 L [.int (b + a), .ref c] M Q) ∧
    (∀ (d : Nat) (a : Int32) (b : Nat) (L : List Value) (M : Mem) (Q : Option Value → Mem → Prop), Wp d 145 46 L [.int a, .ref b] M Q ↔ ((isR b = true ∧ inr a (lnm M b)) ∧ Wp d 145 47 L [.int (M b a.toNatClampNeg)] M Q)) ∧
    (∀ (d : Nat) (a : Int32) (L : List Value) (M : Mem) (Q : Option Value → Mem → Prop), Wp d 145 47 L [.int a] M Q ↔ Wp d 145 52 L [.int a] M Q) ∧
    (∀ (d : Nat) (L : List Value) (M : Mem) (Q : Option Value → Mem → Prop), Wp d 145 50 L [] M Q ↔ Wp d 145 52 L [.int (-1000000002)] M Q) ∧
    (∀ (d : Nat) (a : Int32) (L : List Value) (M : Mem) (Q : Option Value → Mem → Prop), Wp d 145 52 L [.int a] M Q ↔ Q (some (.int a)) M) := by
  refine ⟨?_, ?_, ?_, ?_, ?_, ?_, ?_, ?_, ?_, ?_, ?_, ?_, ?_, ?_, ?_, ?_, ?_, ?_, ?_, ?_, ?_, ?_, ?_, ?_, ?_, ?_, ?_, ?_, ?_, ?_, ?_, ?_, ?_⟩
  · intro d v0 x L M Q; exact Wp_sim (by decide +kernel : decode (cd 145) 0 = .ok (.iload_n 1, 1)) rfl rfl
  · intro d a L M Q; exact Wp_sim (by decide +kernel : decode (cd 145) 1 = .ok (.i2l , 1)) rfl rfl
  · intro d a L M Q; exact Wp_sim (by decide +kernel : decode (cd 145) 2 = .ok (.lconst 0, 1)) rfl rfl
  · intro d a b x L M Q; exact Wp_sim (by decide +kernel : decode (cd 145) 3 = .ok (.aload_n 0, 1)) rfl rfl
  · intro d a b c L M Q; exact q_getR (p := 843) (by decide +kernel : decode (cd 145) 4 = .ok (.getfield 7, 3)) (by decide +kernel) (by decide +kernel)
  · intro d a b c L M Q; exact Wp_sim (by decide +kernel : decode (cd 145) 7 = .ok (.iconst 5, 1)) rfl rfl
  · intro d a b c d2 L M Q; exact q_ald (by decide +kernel : decode (cd 145) 8 = .ok (.iaload , 1))
  · intro d a b c L M Q; exact Wp_sim (by decide +kernel : decode (cd 145) 9 = .ok (.iconst 1, 1)) rfl rfl
  · intro d a b c d2 L M Q; exact Wp_sim (by decide +kernel : decode (cd 145) 10 = .ok (.isub , 1)) rfl rfl
  · intro d a b c L M Q; exact Wp_sim (by decide +kernel : decode (cd 145) 11 = .ok (.i2l , 1)) rfl rfl
  · intro d a b c L M Q; exact q_invS (pz := 937) (n := 3) (m := 6) (As := [.long c, .long b, .long a]) (rest := []) (by decide +kernel : decode (cd 145) 12 = .ok (.invokestatic 75, 3)) (by decide +kernel) (by decide +kernel) (by decide +kernel) rfl rfl (Nat.le_of_ble_eq_true rfl) (Nat.le_of_ble_eq_true rfl) rfl
  · intro d a L M Q; exact q_zne (by decide +kernel : decode (cd 145) 15 = .ok (.ifCond .ne 6, 3)) (by decide)
  · intro d L M Q; exact q_ldc (p := 1043) (by decide +kernel : decode (cd 145) 18 = .ok (.ldc 180, 2)) (by decide +kernel)
  · intro d a L M Q; exact q_iret (by decide +kernel : decode (cd 145) 20 = .ok (.ireturn , 1)) (by decide +kernel)
  · intro d v0 v1 x L M Q; exact Wp_sim (by decide +kernel : decode (cd 145) 21 = .ok (.iload_n 2, 1)) rfl rfl
  · intro d a L M Q; exact Wp_sim (by decide +kernel : decode (cd 145) 22 = .ok (.i2l , 1)) rfl rfl
  · intro d a L M Q; exact Wp_sim (by decide +kernel : decode (cd 145) 23 = .ok (.lconst 0, 1)) rfl rfl
  · intro d a b L M Q; exact q_ldc2 (p := 1073) (by decide +kernel : decode (cd 145) 24 = .ok (.ldc2_w 189, 3)) (by decide +kernel)
  · intro d a b c L M Q; exact q_invS (pz := 937) (n := 3) (m := 6) (As := [.long c, .long b, .long a]) (rest := []) (by decide +kernel : decode (cd 145) 27 = .ok (.invokestatic 75, 3)) (by decide +kernel) (by decide +kernel) (by decide +kernel) rfl rfl (Nat.le_of_ble_eq_true rfl) (Nat.le_of_ble_eq_true rfl) rfl
  · intro d a L M Q; exact q_zeq (by decide +kernel : decode (cd 145) 30 = .ok (.ifCond .eq 20, 3)) (by decide)
  · intro d x L M Q; exact Wp_sim (by decide +kernel : decode (cd 145) 33 = .ok (.aload_n 0, 1)) rfl rfl
  · intro d a L M Q; exact q_getR (p := 843) (by decide +kernel : decode (cd 145) 34 = .ok (.getfield 7, 3)) (by decide +kernel) (by decide +kernel)
  · intro d a L M Q; exact Wp_sim (by decide +kernel : decode (cd 145) 37 = .ok (.bipush 32, 2)) rfl rfl
  · intro d a b L M Q; exact Wp_sim (by decide +kernel : decode (cd 145) 39 = .ok (.bipush 6, 2)) rfl rfl
  · intro d a b c v0 v1 x L M Q; exact Wp_sim (by decide +kernel : decode (cd 145) 41 = .ok (.iload_n 2, 1)) rfl rfl
  · intro d a b c d2 L M Q; exact Wp_sim (by decide +kernel : decode (cd 145) 42 = .ok (.imul , 1)) rfl rfl
  · intro d a b c L M Q; exact Wp_sim (by decide +kernel : decode (cd 145) 43 = .ok (.iadd , 1)) rfl rfl
  · intro d a b v0 x L M Q; exact Wp_sim (by decide +kernel : decode (cd 145) 44 = .ok (.iload_n 1, 1)) rfl rfl
  · intro d a b c L M Q; exact Wp_sim (by decide +kernel : decode (cd 145) 45 = .ok (.iadd , 1)) rfl rfl
  · intro d a b L M Q; exact q_ald (by decide +kernel : decode (cd 145) 46 = .ok (.iaload , 1))
  · intro d a L M Q; exact q_goto (by decide +kernel : decode (cd 145) 47 = .ok (.goto 5, 3)) (by decide)
  · intro d L M Q; exact q_ldc (p := 940) (by decide +kernel : decode (cd 145) 50 = .ok (.ldc 79, 2)) (by decide +kernel)
  · intro d a L M Q; exact q_iret (by decide +kernel : decode (cd 145) 52 = .ok (.ireturn , 1)) (by decide +kernel)

/- 146: PalaceYardModel.week -/
set_option maxRecDepth 10000 in
theorem e146 : (∀ (d : Nat) (x : Nat) (L : List Value) (M : Mem) (Q : Option Value → Mem → Prop), Wp d 146 0 (.ref x :: L) [] M Q ↔ Wp d 146 1 (.ref x :: L) [.ref x] M Q) ∧
    (∀ (d : Nat) (a : Nat) (v0 : Value) (x : Int32) (L : List Value) (M : Mem) (Q : Option Value → Mem → Prop), Wp d 146 1 (v0 :: .int x :: L) [.ref a] M Q ↔ Wp d 146 2 (v0 :: .int x :: L) [.int x, .ref a] M Q) ∧
    (∀ (d : Nat) (a : Int32) (b : Nat) (L : List Value) (M : Mem) (Q : Option Value → Mem → Prop), Wp (d + 1) 146 2 L [.int a, .ref b] M Q ↔ (isK b 12 = true ∧ Wp d 147 0 [.ref b, .int a] [] M (fun r M2 => Wp (d + 1) 146 5 L (r.toList ++ []) M2 Q))) ∧
    (∀ (d : Nat) (a : Int32) (v0 : Value) (v1 : Value) (x : Value) (L : List Value) (M : Mem) (Q : Option Value → Mem → Prop), Wp d 146 5 (v0 :: v1 :: x :: L) [.int a] M Q ↔ Wp d 146 6 (v0 :: clr v1 :: .int a :: L) [] M Q) ∧
    (∀ (d : Nat) (v0 : Value) (v1 : Value) (x : Int32) (L : List Value) (M : Mem) (Q : Option Value → Mem → Prop), Wp d 146 6 (v0 :: v1 :: .int x :: L) [] M Q ↔ Wp d 146 7 (v0 :: v1 :: .int x :: L) [.int x] M Q) ∧
    (∀ (d : Nat) (a : Int32) (L : List Value) (M : Mem) (Q : Option Value → Mem → Prop), Wp d 146 7 L [.int a] M Q ↔ (if a = 0 then Wp d 146 12 L [] M Q else Wp d 146 10 L [] M Q)) ∧
    (∀ (d : Nat) (v0 : Value) (v1 : Value) (x : Int32) (L : List Value) (M : Mem) (Q : Option Value → Mem → Prop), Wp d 146 10 (v0 :: v1 :: .int x :: L) [] M Q ↔ Wp d 146 11 (v0 :: v1 :: .int x :: L) [.int x] M Q) ∧
    (∀ (d : Nat) (a : Int32) (L : List Value) (M : Mem) (Q : Option Value → Mem → Prop), Wp d 146 11 L [.int a] M Q ↔ Q (some (.int a)) M) ∧
    (∀ (d : Nat) (x : Nat) (L : List Value) (M : Mem) (Q : Option Value → Mem → Prop), Wp d 146 12 (.ref x :: L) [] M Q ↔ Wp d 146 13 (.ref x :: L) [.ref x] M Q) ∧
    (∀ (d : Nat) (a : Nat) (L : List Value) (M : Mem) (Q : Option Value → Mem → Prop), Wp (d + 1) 146 13 L [.ref a] M Q ↔ (isK a 12 = true ∧ Wp d 148 0 [.ref a, .null] [] M (fun r M2 => Wp (d + 1) 146 16 L (r.toList ++ []) M2 Q))) ∧
    (∀ (d : Nat) (L : List Value) (M : Mem) (Q : Option Value → Mem → Prop), Wp d 146 16 L [] M Q ↔ Wp d 146 17 L [.int 0] M Q) ∧
    (∀ (d : Nat) (a : Int32) (v0 : Value) (v1 : Value) (v2 : Value) (x : Value) (L : List Value) (M : Mem) (Q : Option Value → Mem → Prop), Wp d 146 17 (v0 :: v1 :: v2 :: x :: L) [.int a] M Q ↔ Wp d 146 18 (v0 :: v1 :: clr v2 :: .int a :: L) [] M Q) ∧
    (∀ (d : Nat) (a : Int32) (v0 : Value) (x : Int32) (L : List Value) (M : Mem) (Q : Option Value → Mem → Prop), Wp d 146 19 (v0 :: .int x :: L) [.int a] M Q ↔ Wp d 146 20 (v0 :: .int x :: L) [.int x, .int a] M Q) ∧
    (∀ (d : Nat) (a : Int32) (b : Int32) (L : List Value) (M : Mem) (Q : Option Value → Mem → Prop), Wp d 146 20 L [.int a, .int b] M Q ↔ (if b < a then Wp d 146 23 L [] M Q else Wp d 146 33 L [] M Q)) ∧
    (∀ (d : Nat) (x : Nat) (L : List Value) (M : Mem) (Q : Option Value → Mem → Prop), Wp d 146 23 (.ref x :: L) [] M Q ↔ Wp d 146 24 (.ref x :: L) [.ref x] M Q) ∧
    (∀ (d : Nat) (a : Nat) (L : List Value) (M : Mem) (Q : Option Value → Mem → Prop), Wp (d + 1) 146 24 L [.ref a] M Q ↔ (isK a 12 = true ∧ Wp d 149 0 [.ref a, .null, .null, .null] [] M (fun r M2 => Wp (d + 1) 146 27 L (r.toList ++ []) M2 Q))) ∧
    (∀ (d : Nat) (v0 : Value) (v1 : Value) (v2 : Value) (x : Int32) (L : List Value) (M : Mem) (Q : Option Value → Mem → Prop), Wp d 146 27 (v0 :: v1 :: v2 :: .int x :: L) [] M Q ↔ Wp d 146 30 (v0 :: v1 :: clr v2 :: .int (x + 1) :: L) [] M Q) ∧
    (∀ (d : Nat) (L : List Value) (M : Mem) (Q : Option Value → Mem → Prop), Wp d 146 30 L [] M Q ↔ Wp d 146 18 L [] M Q) ∧
    (∀ (d : Nat) (x : Nat) (L : List Value) (M : Mem) (Q : Option Value → Mem → Prop), Wp d 146 33 (.ref x :: L) [] M Q ↔ Wp d 146 34 (.ref x :: L) [.ref x] M Q) ∧
    (∀ (d : Nat) (a : Nat) (L : List Value) (M : Mem) (Q : Option Value → Mem → Prop), Wp d 146 34 L [.ref a] M Q ↔ (isK a 12 = true ∧ Wp d 146 37 L [.ref (rt a 2)] M Q)) ∧
    (∀ (d : Nat) (a : Nat) (L : List Value) (M : Mem) (Q : Option Value → Mem → Prop), Wp d 146 37 L [.ref a] M Q ↔ Wp d 146 39 L [.int 48, .ref a] M Q) ∧
    (∀ (d : Nat) (a : Int32) (b : Nat) (L : List Value) (M : Mem) (Q : Option Value → Mem → Prop), Wp d 146 39 L [.int a, .ref b] M Q ↔ ((isR b = true ∧ inr a (lnm M b)) ∧ Wp d 146 40 L [.int (M b a.toNatClampNeg)] M Q)) ∧
    (∀ (d : Nat) (a : Int32) (L : List Value) (M : Mem) (Q : Option Value → Mem → Prop), Wp d 146 40 L [.int a] M Q ↔ Q (some (.int a)) M) := by
  refine ⟨?_, ?_, ?_, ?_, ?_, ?_, ?_, ?_, ?_, ?_, ?_, ?_, ?_, ?_, ?_, ?_, ?_, ?_, ?_, ?_, ?_, ?_, ?_⟩
  · intro d x L M Q; exact Wp_sim (by decide +kernel : decode (cd 146) 0 = .ok (.aload_n 0, 1)) rfl rfl
  · intro d a v0 x L M Q; exact Wp_sim (by decide +kernel : decode (cd 146) 1 = .ok (.iload_n 1, 1)) rfl rfl
  · intro d a b L M Q; exact q_invV (pz := 1078) (n := 1) (c := 12) (m := 2) (k := b) (As := [.int a]) (rest := []) (by decide +kernel : decode (cd 146) 2 = .ok (.invokevirtual 201, 3)) (by decide +kernel) (by decide +kernel) rfl rfl (Nat.le_of_ble_eq_true rfl) (Nat.le_of_ble_eq_true rfl) rfl
  · intro d a v0 v1 x L M Q; exact Wp_sim (by decide +kernel : decode (cd 146) 5 = .ok (.istore_n 2, 1)) rfl rfl
  · intro d v0 v1 x L M Q; exact Wp_sim (by decide +kernel : decode (cd 146) 6 = .ok (.iload_n 2, 1)) rfl rfl
  · intro d a L M Q; exact q_zeq (by decide +kernel : decode (cd 146) 7 = .ok (.ifCond .eq 5, 3)) (by decide)
  · intro d v0 v1 x L M Q; exact Wp_sim (by decide +kernel : decode (cd 146) 10 = .ok (.iload_n 2, 1)) rfl rfl
  · intro d a L M Q; exact q_iret (by decide +kernel : decode (cd 146) 11 = .ok (.ireturn , 1)) (by decide +kernel)
  · intro d x L M Q; exact Wp_sim (by decide +kernel : decode (cd 146) 12 = .ok (.aload_n 0, 1)) rfl rfl
  · intro d a L M Q; exact q_invV (pz := 1084) (n := 0) (c := 12) (m := 2) (k := a) (As := []) (rest := []) (by decide +kernel : decode (cd 146) 13 = .ok (.invokevirtual 204, 3)) (by decide +kernel) (by decide +kernel) rfl rfl (Nat.le_of_ble_eq_true rfl) (Nat.le_of_ble_eq_true rfl) rfl
  · intro d L M Q; exact Wp_sim (by decide +kernel : decode (cd 146) 16 = .ok (.iconst 0, 1)) rfl rfl
  · intro d a v0 v1 v2 x L M Q; exact Wp_sim (by decide +kernel : decode (cd 146) 17 = .ok (.istore_n 3, 1)) rfl rfl
  · intro d a v0 x L M Q; exact Wp_sim (by decide +kernel : decode (cd 146) 19 = .ok (.iload_n 1, 1)) rfl rfl
  · intro d a b L M Q; exact q_ige (by decide +kernel : decode (cd 146) 20 = .ok (.if_icmp .ge 13, 3)) (by decide)
  · intro d x L M Q; exact Wp_sim (by decide +kernel : decode (cd 146) 23 = .ok (.aload_n 0, 1)) rfl rfl
  · intro d a L M Q; exact q_invV (pz := 1088) (n := 0) (c := 12) (m := 4) (k := a) (As := []) (rest := []) (by decide +kernel : decode (cd 146) 24 = .ok (.invokevirtual 207, 3)) (by decide +kernel) (by decide +kernel) rfl rfl (Nat.le_of_ble_eq_true rfl) (Nat.le_of_ble_eq_true rfl) rfl
  · intro d v0 v1 v2 x L M Q; exact Wp_sim (by decide +kernel : decode (cd 146) 27 = .ok (.iinc 3 1, 3)) rfl rfl
  · intro d L M Q; exact q_goto (by decide +kernel : decode (cd 146) 30 = .ok (.goto (-12), 3)) (by decide)
  · intro d x L M Q; exact Wp_sim (by decide +kernel : decode (cd 146) 33 = .ok (.aload_n 0, 1)) rfl rfl
  · intro d a L M Q; exact q_getR (p := 845) (by decide +kernel : decode (cd 146) 34 = .ok (.getfield 16, 3)) (by decide +kernel) (by decide +kernel)
  · intro d a L M Q; exact Wp_sim (by decide +kernel : decode (cd 146) 37 = .ok (.bipush 48, 2)) rfl rfl
  · intro d a b L M Q; exact q_ald (by decide +kernel : decode (cd 146) 39 = .ok (.iaload , 1))
  · intro d a L M Q; exact q_iret (by decide +kernel : decode (cd 146) 40 = .ok (.ireturn , 1)) (by decide +kernel)
theorem h146_18 : (∀ (d : Nat) (v0 : Value) (v1 : Value) (v2 : Value) (x : Int32) (L : List Value) (M : Mem) (Q : Option Value → Mem → Prop), Wp d 146 18 (v0 :: v1 :: v2 :: .int x :: L) [] M Q ↔ Wp d 146 19 (v0 :: v1 :: v2 :: .int x :: L) [.int x] M Q) := by
  intro d v0 v1 v2 x L M Q; exact Wp_sim (by decide +kernel : decode (cd 146) 18 = .ok (.iload_n 3, 1)) rfl rfl

/- 147: PalaceYardModel.refuses -/
set_option maxRecDepth 10000 in
theorem e147 : (∀ (d : Nat) (v0 : Value) (x : Int32) (L : List Value) (M : Mem) (Q : Option Value → Mem → Prop), Wp d 147 0 (v0 :: .int x :: L) [] M Q ↔ Wp d 147 1 (v0 :: .int x :: L) [.int x] M Q) ∧
    (∀ (d : Nat) (a : Int32) (L : List Value) (M : Mem) (Q : Option Value → Mem → Prop), Wp d 147 1 L [.int a] M Q ↔ Wp d 147 2 L [.long a.toInt64] M Q) ∧
    (∀ (d : Nat) (a : Int64) (L : List Value) (M : Mem) (Q : Option Value → Mem → Prop), Wp d 147 2 L [.long a] M Q ↔ Wp d 147 3 L [.long 1, .long a] M Q) ∧
    (∀ (d : Nat) (a : Int64) (b : Int64) (L : List Value) (M : Mem) (Q : Option Value → Mem → Prop), Wp d 147 3 L [.long a, .long b] M Q ↔ Wp d 147 6 L [.long 60, .long a, .long b] M Q) ∧
    (∀ (d : Nat) (a : Int64) (b : Int64) (c : Int64) (L : List Value) (M : Mem) (Q : Option Value → Mem → Prop), Wp (d + 1) 147 6 L [.long a, .long b, .long c] M Q ↔ Wp d 112 0 [.long c, .null, .long b, .null, .long a, .null] [] M (fun r M2 => Wp (d + 1) 147 9 L (r.toList ++ []) M2 Q)) ∧
    (∀ (d : Nat) (a : Int32) (L : List Value) (M : Mem) (Q : Option Value → Mem → Prop), Wp d 147 9 L [.int a] M Q ↔ (if a = 0 then Wp d 147 12 L [] M Q else Wp d 147 15 L [] M Q)) ∧
    (∀ (d : Nat) (L : List Value) (M : Mem) (Q : Option Value → Mem → Prop), Wp d 147 12 L [] M Q ↔ Wp d 147 14 L [.int (-1000000002)] M Q) ∧
    (∀ (d : Nat) (a : Int32) (L : List Value) (M : Mem) (Q : Option Value → Mem → Prop), Wp d 147 14 L [.int a] M Q ↔ Q (some (.int a)) M) ∧
    (∀ (d : Nat) (x : Nat) (L : List Value) (M : Mem) (Q : Option Value → Mem → Prop), Wp d 147 15 (.ref x :: L) [] M Q ↔ Wp d 147 16 (.ref x :: L) [.ref x] M Q) ∧
    (∀ (d : Nat) (a : Nat) (L : List Value) (M : Mem) (Q : Option Value → Mem → Prop), Wp d 147 16 L [.ref a] M Q ↔ (isK a 12 = true ∧ Wp d 147 19 L [.ref (rt a 0)] M Q)) ∧
    (∀ (d : Nat) (a : Nat) (L : List Value) (M : Mem) (Q : Option Value → Mem → Prop), Wp d 147 19 L [.ref a] M Q ↔ Wp d 147 20 L [.int 1, .ref a] M Q) ∧
    (∀ (d : Nat) (a : Int32) (b : Nat) (L : List Value) (M : Mem) (Q : Option Value → Mem → Prop), Wp d 147 20 L [.int a, .ref b] M Q ↔ ((isR b = true ∧ inr a (lnm M b)) ∧ Wp d 147 21 L [.int (M b a.toNatClampNeg)] M Q)) ∧
    (∀ (d : Nat) (a : Int32) (L : List Value) (M : Mem) (Q : Option Value → Mem → Prop), Wp d 147 21 L [.int a] M Q ↔ (if a = 0 then Wp d 147 24 L [] M Q else Wp d 147 29 L [] M Q)) ∧
    (∀ (d : Nat) (L : List Value) (M : Mem) (Q : Option Value → Mem → Prop), Wp d 147 24 L [] M Q ↔ Wp d 147 26 L [.int (-1000000003)] M Q) ∧
    (∀ (d : Nat) (a : Int32) (L : List Value) (M : Mem) (Q : Option Value → Mem → Prop), Wp d 147 26 L [.int a] M Q ↔ Wp d 147 48 L [.int a] M Q) ∧
    (∀ (d : Nat) (x : Nat) (L : List Value) (M : Mem) (Q : Option Value → Mem → Prop), Wp d 147 29 (.ref x :: L) [] M Q ↔ Wp d 147 30 (.ref x :: L) [.ref x] M Q) ∧
    (∀ (d : Nat) (a : Nat) (L : List Value) (M : Mem) (Q : Option Value → Mem → Prop), Wp d 147 30 L [.ref a] M Q ↔ (isK a 12 = true ∧ Wp d 147 33 L [.ref (rt a 2)] M Q)) ∧
    (∀ (d : Nat) (a : Nat) (L : List Value) (M : Mem) (Q : Option Value → Mem → Prop), Wp d 147 33 L [.ref a] M Q ↔ Wp d 147 35 L [.int 48, .ref a] M Q) ∧
    (∀ (d : Nat) (a : Int32) (b : Nat) (L : List Value) (M : Mem) (Q : Option Value → Mem → Prop), Wp d 147 35 L [.int a, .ref b] M Q ↔ ((isR b = true ∧ inr a (lnm M b)) ∧ Wp d 147 36 L [.int (M b a.toNatClampNeg)] M Q)) ∧
    (∀ (d : Nat) (a : Int32) (L : List Value) (M : Mem) (Q : Option Value → Mem → Prop), Wp d 147 36 L [.int a] M Q ↔ Wp d 147 39 L [.int 9000, .int a] M Q) ∧
    (∀ (d : Nat) (a : Int32) (b : Int32) (L : List Value) (M : Mem) (Q : Option Value → Mem → Prop), Wp d 147 39 L [.int a, .int b] M Q ↔ (if a < b then Wp d 147 42 L [] M Q else Wp d 147 47 L [] M Q)) ∧
    (∀ (d : Nat) (L : List Value) (M : Mem) (Q : Option Value → Mem → Prop), Wp d 147 42 L [] M Q ↔ Wp d 147 44 L [.int (-1000000004)] M Q) ∧
    (∀ (d : Nat) (a : Int32) (L : List Value) (M : Mem) (Q : Option Value → Mem → Prop), Wp d 147 44 L [.int a] M Q ↔ Wp d 147 48 L [.int a] M Q) ∧
    (∀ (d : Nat) (L : List Value) (M : Mem) (Q : Option Value → Mem → Prop), Wp d 147 47 L [] M Q ↔ Wp d 147 48 L [.int 0] M Q) ∧
    (∀ (d : Nat) (a : Int32) (L : List Value) (M : Mem) (Q : Option Value → Mem → Prop), Wp d 147 48 L [.int a] M Q ↔ Q (some (.int a)) M) := by
  refine ⟨?_, ?_, ?_, ?_, ?_, ?_, ?_, ?_, ?_, ?_, ?_, ?_, ?_, ?_, ?_, ?_, ?_, ?_, ?_, ?_, ?_, ?_, ?_, ?_, ?_⟩
  · intro d v0 x L M Q; exact Wp_sim (by decide +kernel : decode (cd 147) 0 = .ok (.iload_n 1, 1)) rfl rfl
  · intro d a L M Q; exact Wp_sim (by decide +kernel : decode (cd 147) 1 = .ok (.i2l , 1)) rfl rfl
  · intro d a L M Q; exact Wp_sim (by decide +kernel : decode (cd 147) 2 = .ok (.lconst 1, 1)) rfl rfl
  · intro d a b L M Q; exact q_ldc2 (p := 1082) (by decide +kernel : decode (cd 147) 3 = .ok (.ldc2_w 198, 3)) (by decide +kernel)
  · intro d a b c L M Q; exact q_invS (pz := 937) (n := 3) (m := 6) (As := [.long c, .long b, .long a]) (rest := []) (by decide +kernel : decode (cd 147) 6 = .ok (.invokestatic 75, 3)) (by decide +kernel) (by decide +kernel) (by decide +kernel) rfl rfl (Nat.le_of_ble_eq_true rfl) (Nat.le_of_ble_eq_true rfl) rfl
  · intro d a L M Q; exact q_zne (by decide +kernel : decode (cd 147) 9 = .ok (.ifCond .ne 6, 3)) (by decide)
  · intro d L M Q; exact q_ldc (p := 940) (by decide +kernel : decode (cd 147) 12 = .ok (.ldc 79, 2)) (by decide +kernel)
  · intro d a L M Q; exact q_iret (by decide +kernel : decode (cd 147) 14 = .ok (.ireturn , 1)) (by decide +kernel)
  · intro d x L M Q; exact Wp_sim (by decide +kernel : decode (cd 147) 15 = .ok (.aload_n 0, 1)) rfl rfl
  · intro d a L M Q; exact q_getR (p := 843) (by decide +kernel : decode (cd 147) 16 = .ok (.getfield 7, 3)) (by decide +kernel) (by decide +kernel)
  · intro d a L M Q; exact Wp_sim (by decide +kernel : decode (cd 147) 19 = .ok (.iconst 1, 1)) rfl rfl
  · intro d a b L M Q; exact q_ald (by decide +kernel : decode (cd 147) 20 = .ok (.iaload , 1))
  · intro d a L M Q; exact q_zne (by decide +kernel : decode (cd 147) 21 = .ok (.ifCond .ne 8, 3)) (by decide)
  · intro d L M Q; exact q_ldc (p := 1083) (by decide +kernel : decode (cd 147) 24 = .ok (.ldc 200, 2)) (by decide +kernel)
  · intro d a L M Q; exact q_goto (by decide +kernel : decode (cd 147) 26 = .ok (.goto 22, 3)) (by decide)
  · intro d x L M Q; exact Wp_sim (by decide +kernel : decode (cd 147) 29 = .ok (.aload_n 0, 1)) rfl rfl
  · intro d a L M Q; exact q_getR (p := 845) (by decide +kernel : decode (cd 147) 30 = .ok (.getfield 16, 3)) (by decide +kernel) (by decide +kernel)
  · intro d a L M Q; exact Wp_sim (by decide +kernel : decode (cd 147) 33 = .ok (.bipush 48, 2)) rfl rfl
  · intro d a b L M Q; exact q_ald (by decide +kernel : decode (cd 147) 35 = .ok (.iaload , 1))
  · intro d a L M Q; exact Wp_sim (by decide +kernel : decode (cd 147) 36 = .ok (.sipush 9000, 3)) rfl rfl
  · intro d a b L M Q; exact q_ile (by decide +kernel : decode (cd 147) 39 = .ok (.if_icmp .le 8, 3)) (by decide)
  · intro d L M Q; exact q_ldc (p := 941) (by decide +kernel : decode (cd 147) 42 = .ok (.ldc 83, 2)) (by decide +kernel)
  · intro d a L M Q; exact q_goto (by decide +kernel : decode (cd 147) 44 = .ok (.goto 4, 3)) (by decide)
  · intro d L M Q; exact Wp_sim (by decide +kernel : decode (cd 147) 47 = .ok (.iconst 0, 1)) rfl rfl
  · intro d a L M Q; exact q_iret (by decide +kernel : decode (cd 147) 48 = .ok (.ireturn , 1)) (by decide +kernel)

/- 148: PalaceYardModel.remember -/
set_option maxRecDepth 10000 in
theorem e148 : (∀ (d : Nat) (x : Nat) (L : List Value) (M : Mem) (Q : Option Value → Mem → Prop), Wp d 148 0 (.ref x :: L) [] M Q ↔ Wp d 148 1 (.ref x :: L) [.ref x] M Q) ∧
    (∀ (d : Nat) (a : Nat) (L : List Value) (M : Mem) (Q : Option Value → Mem → Prop), Wp d 148 1 L [.ref a] M Q ↔ (isK a 12 = true ∧ Wp d 148 4 L [.int (M a 5)] M Q)) ∧
    (∀ (d : Nat) (a : Int32) (L : List Value) (M : Mem) (Q : Option Value → Mem → Prop), Wp d 148 4 L [.int a] M Q ↔ Wp d 148 6 L [.int 16, .int a] M Q) ∧
    (∀ (d : Nat) (a : Int32) (b : Int32) (L : List Value) (M : Mem) (Q : Option Value → Mem → Prop), Wp d 148 6 L [.int a, .int b] M Q ↔ (if b = a then Wp d 148 9 L [] M Q else Wp d 148 49 L [] M Q)) ∧
    (∀ (d : Nat) (L : List Value) (M : Mem) (Q : Option Value → Mem → Prop), Wp d 148 9 L [] M Q ↔ Wp d 148 10 L [.int 0] M Q) ∧
    (∀ (d : Nat) (a : Int32) (v0 : Value) (x : Value) (L : List Value) (M : Mem) (Q : Option Value → Mem → Prop), Wp d 148 10 (v0 :: x :: L) [.int a] M Q ↔ Wp d 148 11 (clr v0 :: .int a :: L) [] M Q) ∧
    (∀ (d : Nat) (a : Int32) (L : List Value) (M : Mem) (Q : Option Value → Mem → Prop), Wp d 148 12 L [.int a] M Q ↔ Wp d 148 15 L [.int 765, .int a] M Q) ∧
    (∀ (d : Nat) (a : Int32) (b : Int32) (L : List Value) (M : Mem) (Q : Option Value → Mem → Prop), Wp d 148 15 L [.int a, .int b] M Q ↔ (if b < a then Wp d 148 18 L [] M Q else Wp d 148 39 L [] M Q)) ∧
    (∀ (d : Nat) (x : Nat) (L : List Value) (M : Mem) (Q : Option Value → Mem → Prop), Wp d 148 18 (.ref x :: L) [] M Q ↔ Wp d 148 19 (.ref x :: L) [.ref x] M Q) ∧
    (∀ (d : Nat) (a : Nat) (L : List Value) (M : Mem) (Q : Option Value → Mem → Prop), Wp d 148 19 L [.ref a] M Q ↔ (isK a 12 = true ∧ Wp d 148 22 L [.ref (rt a 4)] M Q)) ∧
    (∀ (d : Nat) (a : Nat) (v0 : Value) (x : Int32) (L : List Value) (M : Mem) (Q : Option Value → Mem → Prop), Wp d 148 22 (v0 :: .int x :: L) [.ref a] M Q ↔ Wp d 148 23 (v0 :: .int x :: L) [.int x, .ref a] M Q) ∧
    (∀ (d : Nat) (a : Int32) (b : Nat) (x : Nat) (L : List Value) (M : Mem) (Q : Option Value → Mem → Prop), Wp d 148 23 (.ref x :: L) [.int a, .ref b] M Q ↔ Wp d 148 24 (.ref x :: L) [.ref x, .int a, .ref b] M Q) ∧
    (∀ (d : Nat) (a : Nat) (b : Int32) (c : Nat) (L : List Value) (M : Mem) (Q : Option Value → Mem → Prop), Wp d 148 24 L [.ref a, .int b, .ref c] M Q ↔ (isK a 12 = true ∧ Wp d 148 27 L [.ref (rt a 4), .int b, .ref c] M Q)) ∧
    (∀ (d : Nat) (a : Nat) (b : Int32) (c : Nat) (v0 : Value) (x : Int32) (L : List Value) (M : Mem) (Q : Option Value → Mem → Prop), Wp d 148 27 (v0 :: .int x :: L) [.ref a, .int b, .ref c] M Q ↔ Wp d 148 28 (v0 :: .int x :: L) [.int x, .ref a, .int b, .ref c] M Q) ∧
    (∀ (d : Nat) (a : Int32) (b : Nat) (c : Int32) (d2 : Nat) (L : List Value) (M : Mem) (Q : Option Value → Mem → Prop), Wp d 148 28 L [.int a, .ref b, .int c, .ref d2] M Q ↔ Wp d 148 30 L [.int 51, .int a, .ref b, .int c, .ref d2] M Q) ∧
    (∀ (d : Nat) (a : Int32) (b : Int32) (c : Nat) (d2 : Int32) (e : Nat) (L : List Value) (M : Mem) (Q : Option Value → Mem → Prop), Wp d 148 30 L [.int a, .int b, .ref c, .int d2, .ref e] M Q ↔ Wp d 148 31 L [.int (b + a), .ref c, .int d2, .ref e] M Q) ∧
    (∀ (d : Nat) (a : Int32) (b : Nat) (c : Int32) (d2 : Nat) (L : List Value) (M : Mem) (Q : Option Value → Mem → Prop), Wp d 148 31 L [.int a, .ref b, .int c, .ref d2] M Q ↔ ((isR b = true ∧ inr a (lnm M b)) ∧ Wp d 148 32 L [.int (M b a.toNatClampNeg), .int c, .ref d2] M Q)) ∧
    (∀ (d : Nat) (a : Int32) (b : Int32) (c : Nat) (L : List Value) (M : Mem) (Q : Option Value → Mem → Prop), Wp d 148 32 L [.int a, .int b, .ref c] M Q ↔ ((isK c 13 = true ∧ inr b (lnm M c)) ∧ Wp d 148 33 L [] (up2 M c b.toNatClampNeg a) Q)) ∧
    (∀ (d : Nat) (v0 : Value) (x : Int32) (L : List Value) (M : Mem) (Q : Option Value → Mem → Prop), Wp d 148 33 (v0 :: .int x :: L) [] M Q ↔ Wp d 148 36 (clr v0 :: .int (x + 1) :: L) [] M Q) ∧
    (∀ (d : Nat) (L : List Value) (M : Mem) (Q : Option Value → Mem → Prop), Wp d 148 36 L [] M Q ↔ Wp d 148 11 L [] M Q) ∧
    (∀ (d : Nat) (x : Nat) (L : List Value) (M : Mem) (Q : Option Value → Mem → Prop), Wp d 148 39 (.ref x :: L) [] M Q ↔ Wp d 148 40 (.ref x :: L) [.ref x] M Q) ∧
    (∀ (d : Nat) (a : Nat) (L : List Value) (M : Mem) (Q : Option Value → Mem → Prop), Wp d 148 40 L [.ref a] M Q ↔ Wp d 148 41 L [.ref a, .ref a] M Q) ∧
    (∀ (d : Nat) (a : Nat) (b : Nat) (L : List Value) (M : Mem) (Q : Option Value → Mem → Prop), Wp d 148 41 L [.ref a, .ref b] M Q ↔ (isK a 12 = true ∧ Wp d 148 44 L [.int (M a 5), .ref b] M Q)) ∧
    (∀ (d : Nat) (a : Int32) (b : Nat) (L : List Value) (M : Mem) (Q : Option Value → Mem → Prop), Wp d 148 44 L [.int a, .ref b] M Q ↔ Wp d 148 45 L [.int 1, .int a, .ref b] M Q) ∧
    (∀ (d : Nat) (a : Int32) (b : Int32) (c : Nat) (L : List Value) (M : Mem) (Q : Option Value → Mem → Prop), Wp d 148 45 L [.int a, .int b, .ref c] M Q ↔ Wp d 148 46 L [.int (b - a), .ref c] M Q) ∧
    (∀ (d : Nat) (a : Int32) (b : Nat) (L : List Value) (M : Mem) (Q : Option Value → Mem → Prop), Wp d 148 46 L [.int a, .ref b] M Q ↔ (isK b 12 = true ∧ Wp d 148 49 L [] (up2 M b 5 a) Q)) ∧
    (∀ (d : Nat) (x : Nat) (L : List Value) (M : Mem) (Q : Option Value → Mem → Prop), Wp d 148 49 (.ref x :: L) [] M Q ↔ Wp d 148 50 (.ref x :: L) [.ref x] M Q) ∧
    (∀ (d : Nat) (a : Nat) (L : List Value) (M : Mem) (Q : Option Value → Mem → Prop), Wp d 148 50 L [.ref a] M Q ↔ (isK a 12 = true ∧ Wp d 148 53 L [.ref (rt a 2)] M Q)) ∧
    (∀ (d : Nat) (a : Nat) (L : List Value) (M : Mem) (Q : Option Value → Mem → Prop), Wp d 148 53 L [.ref a] M Q ↔ Wp d 148 54 L [.int 0, .ref a] M Q) ∧
    (∀ (d : Nat) (a : Int32) (b : Nat) (x : Nat) (L : List Value) (M : Mem) (Q : Option Value → Mem → Prop), Wp d 148 54 (.ref x :: L) [.int a, .ref b] M Q ↔ Wp d 148 55 (.ref x :: L) [.ref x, .int a, .ref b] M Q) ∧
    (∀ (d : Nat) (a : Nat) (b : Int32) (c : Nat) (L : List Value) (M : Mem) (Q : Option Value → Mem → Prop), Wp d 148 55 L [.ref a, .int b, .ref c] M Q ↔ (isK a 12 = true ∧ Wp d 148 58 L [.ref (rt a 4), .int b, .ref c] M Q)) ∧
    (∀ (d : Nat) (a : Nat) (b : Int32) (c : Nat) (L : List Value) (M : Mem) (Q : Option Value → Mem → Prop), Wp d 148 58 L [.ref a, .int b, .ref c] M Q ↔ Wp d 148 60 L [.int 51, .ref a, .int b, .ref c] M Q) ∧
    (∀ (d : Nat) (a : Int32) (b : Nat) (c : Int32) (d2 : Nat) (x : Nat) (L : List Value) (M : Mem) (Q : Option Value → Mem → Prop), Wp d 148 60 (.ref x :: L) [.int a, .ref b, .int c, .ref d2] M Q ↔ Wp d 148 61 (.ref x :: L) [.ref x, .int a, .ref b, .int c, .ref d2] M Q) ∧
    (∀ (d : Nat) (a : Nat) (b : Int32) (c : Nat) (d2 : Int32) (e : Nat) (L : List Value) (M : Mem) (Q : Option Value → Mem → Prop), Wp d 148 61 L [.ref a, .int b, .ref c, .int d2, .ref e] M Q ↔ (isK a 12 = true ∧ Wp d 148 64 L [.int (M a 5), .int b, .ref c, .int d2, .ref e] M Q)) ∧
    (∀ (d : Nat) (a : Int32) (b : Int32) (c : Nat) (d2 : Int32) (e : Nat) (L : List Value) (M : Mem) (Q : Option Value → Mem → Prop), Wp d 148 64 L [.int a, .int b, .ref c, .int d2, .ref e] M Q ↔ Wp d 148 65 L [.int (b * a), .ref c, .int d2, .ref e] M Q) ∧
    (∀ (d : Nat) (a : Int32) (b : Nat) (c : Int32) (d2 : Nat) (L : List Value) (M : Mem) (Q : Option Value → Mem → Prop), Wp d 148 65 L [.int a, .ref b, .int c, .ref d2] M Q ↔ Wp d 148 67 L [.int 51, .int a, .ref b, .int c, .ref d2] M Q) ∧
    (∀ (d : Nat) (a : Int32) (b : Int32) (c : Nat) (d2 : Int32) (e : Nat) (L : List Value) (M : Mem) (Q : Option Value → Mem → Prop), Wp (d + 1) 148 67 L [.int a, .int b, .ref c, .int d2, .ref e] M Q ↔ Wp d 123 0 [.ref e, .int d2, .ref c, .int b, .int a, .null] [] M (fun r M2 => Wp (d + 1) 148 70 L (r.toList ++ []) M2 Q)) ∧
    (∀ (d : Nat) (x : Nat) (L : List Value) (M : Mem) (Q : Option Value → Mem → Prop), Wp d 148 70 (.ref x :: L) [] M Q ↔ Wp d 148 71 (.ref x :: L) [.ref x] M Q) ∧
    (∀ (d : Nat) (a : Nat) (L : List Value) (M : Mem) (Q : Option Value → Mem → Prop), Wp d 148 71 L [.ref a] M Q ↔ Wp d 148 72 L [.ref a, .ref a] M Q) ∧
    (∀ (d : Nat) (a : Nat) (b : Nat) (L : List Value) (M : Mem) (Q : Option Value → Mem → Prop), Wp d 148 72 L [.ref a, .ref b] M Q ↔ (isK a 12 = true ∧ Wp d 148 75 L [.int (M a 5), .ref b] M Q)) ∧
    (∀ (d : Nat) (a : Int32) (b : Nat) (L : List Value) (M : Mem) (Q : Option Value → Mem → Prop), Wp d 148 75 L [.int a, .ref b] M Q ↔ Wp d 148 76 L [.int 1, .int a, .ref b] M Q) ∧
    (∀ (d : Nat) (a : Int32) (b : Int32) (c : Nat) (L : List Value) (M : Mem) (Q : Option Value → Mem → Prop), Wp d 148 76 L [.int a, .int b, .ref c] M Q ↔ Wp d 148 77 L [.int (b + a), .ref c] M Q) ∧
    (∀ (d : Nat) (a : Int32) (b : Nat) (L : List Value) (M : Mem) (Q : Option Value → Mem → Prop), Wp d 148 77 L [.int a, .ref b] M Q ↔ (isK b 12 = true ∧ Wp d 148 80 L [] (up2 M b 5 a) Q)) ∧
    (∀ (d : Nat) (L : List Value) (M : Mem) (Q : Option Value → Mem → Prop), Wp d 148 80 L [] M Q ↔ Q none M) := by
  refine ⟨?_, ?_, ?_, ?_, ?_, ?_, ?_, ?_, ?_, ?_, ?_, ?_, ?_, ?_, ?_, ?_, ?_, ?_, ?_, ?_, ?_, ?_, ?_, ?_, ?_, ?_, ?_, ?_, ?_, ?_, ?_, ?_, ?_, ?_, ?_, ?_, ?_, ?_, ?_, ?_, ?_, ?_, ?_, ?_⟩
  · intro d x L M Q; exact Wp_sim (by decide +kernel : decode (cd 148) 0 = .ok (.aload_n 0, 1)) rfl rfl
  · intro d a L M Q; exact q_getI (p := 848) (by decide +kernel : decode (cd 148) 1 = .ok (.getfield 64, 3)) (by decide +kernel) (by decide +kernel)
  · intro d a L M Q; exact Wp_sim (by decide +kernel : decode (cd 148) 4 = .ok (.bipush 16, 2)) rfl rfl
  · intro d a b L M Q; exact q_ine (by decide +kernel : decode (cd 148) 6 = .ok (.if_icmp .ne 43, 3)) (by decide)
  · intro d L M Q; exact Wp_sim (by decide +kernel : decode (cd 148) 9 = .ok (.iconst 0, 1)) rfl rfl
  · intro d a v0 x L M Q; exact Wp_sim (by decide +kernel : decode (cd 148) 10 = .ok (.istore_n 1, 1)) rfl rfl
  · intro d a L M Q; exact Wp_sim (by decide +kernel : decode (cd 148) 12 = .ok (.sipush 765, 3)) rfl rfl
  · intro d a b L M Q; exact q_ige (by decide +kernel : decode (cd 148) 15 = .ok (.if_icmp .ge 24, 3)) (by decide)
  · intro d x L M Q; exact Wp_sim (by decide +kernel : decode (cd 148) 18 = .ok (.aload_n 0, 1)) rfl rfl
  · intro d a L M Q; exact q_getR (p := 847) (by decide +kernel : decode (cd 148) 19 = .ok (.getfield 22, 3)) (by decide +kernel) (by decide +kernel)
  · intro d a v0 x L M Q; exact Wp_sim (by decide +kernel : decode (cd 148) 22 = .ok (.iload_n 1, 1)) rfl rfl
  · intro d a b x L M Q; exact Wp_sim (by decide +kernel : decode (cd 148) 23 = .ok (.aload_n 0, 1)) rfl rfl
  · intro d a b c L M Q; exact q_getR (p := 847) (by decide +kernel : decode (cd 148) 24 = .ok (.getfield 22, 3)) (by decide +kernel) (by decide +kernel)
  · intro d a b c v0 x L M Q; exact Wp_sim (by decide +kernel : decode (cd 148) 27 = .ok (.iload_n 1, 1)) rfl rfl
  · intro d a b c d2 L M Q; exact Wp_sim (by decide +kernel : decode (cd 148) 28 = .ok (.bipush 51, 2)) rfl rfl
  · intro d a b c d2 e L M Q; exact Wp_sim (by decide +kernel : decode (cd 148) 30 = .ok (.iadd , 1)) rfl rfl
  · intro d a b c d2 L M Q; exact q_ald (by decide +kernel : decode (cd 148) 31 = .ok (.iaload , 1))
  · intro d a b c L M Q; exact q_ast (by decide +kernel : decode (cd 148) 32 = .ok (.iastore , 1))
  · intro d v0 x L M Q; exact Wp_sim (by decide +kernel : decode (cd 148) 33 = .ok (.iinc 1 1, 3)) rfl rfl
  · intro d L M Q; exact q_goto (by decide +kernel : decode (cd 148) 36 = .ok (.goto (-25), 3)) (by decide)
  · intro d x L M Q; exact Wp_sim (by decide +kernel : decode (cd 148) 39 = .ok (.aload_n 0, 1)) rfl rfl
  · intro d a L M Q; exact Wp_sim (by decide +kernel : decode (cd 148) 40 = .ok (.dup , 1)) rfl rfl
  · intro d a b L M Q; exact q_getI (p := 848) (by decide +kernel : decode (cd 148) 41 = .ok (.getfield 64, 3)) (by decide +kernel) (by decide +kernel)
  · intro d a b L M Q; exact Wp_sim (by decide +kernel : decode (cd 148) 44 = .ok (.iconst 1, 1)) rfl rfl
  · intro d a b c L M Q; exact Wp_sim (by decide +kernel : decode (cd 148) 45 = .ok (.isub , 1)) rfl rfl
  · intro d a b L M Q; exact q_putI (p := 848) (by decide +kernel : decode (cd 148) 46 = .ok (.putfield 64, 3)) (by decide +kernel) (by decide +kernel)
  · intro d x L M Q; exact Wp_sim (by decide +kernel : decode (cd 148) 49 = .ok (.aload_n 0, 1)) rfl rfl
  · intro d a L M Q; exact q_getR (p := 845) (by decide +kernel : decode (cd 148) 50 = .ok (.getfield 16, 3)) (by decide +kernel) (by decide +kernel)
  · intro d a L M Q; exact Wp_sim (by decide +kernel : decode (cd 148) 53 = .ok (.iconst 0, 1)) rfl rfl
  · intro d a b x L M Q; exact Wp_sim (by decide +kernel : decode (cd 148) 54 = .ok (.aload_n 0, 1)) rfl rfl
  · intro d a b c L M Q; exact q_getR (p := 847) (by decide +kernel : decode (cd 148) 55 = .ok (.getfield 22, 3)) (by decide +kernel) (by decide +kernel)
  · intro d a b c L M Q; exact Wp_sim (by decide +kernel : decode (cd 148) 58 = .ok (.bipush 51, 2)) rfl rfl
  · intro d a b c d2 x L M Q; exact Wp_sim (by decide +kernel : decode (cd 148) 60 = .ok (.aload_n 0, 1)) rfl rfl
  · intro d a b c d2 e L M Q; exact q_getI (p := 848) (by decide +kernel : decode (cd 148) 61 = .ok (.getfield 64, 3)) (by decide +kernel) (by decide +kernel)
  · intro d a b c d2 e L M Q; exact Wp_sim (by decide +kernel : decode (cd 148) 64 = .ok (.imul , 1)) rfl rfl
  · intro d a b c d2 L M Q; exact Wp_sim (by decide +kernel : decode (cd 148) 65 = .ok (.bipush 51, 2)) rfl rfl
  · intro d a b c d2 e L M Q; exact q_invS (pz := 984) (n := 5) (m := 6) (As := [.ref e, .int d2, .ref c, .int b, .int a]) (rest := []) (by decide +kernel : decode (cd 148) 67 = .ok (.invokestatic 137, 3)) (by decide +kernel) (by decide +kernel) (by decide +kernel) rfl rfl (Nat.le_of_ble_eq_true rfl) (Nat.le_of_ble_eq_true rfl) rfl
  · intro d x L M Q; exact Wp_sim (by decide +kernel : decode (cd 148) 70 = .ok (.aload_n 0, 1)) rfl rfl
  · intro d a L M Q; exact Wp_sim (by decide +kernel : decode (cd 148) 71 = .ok (.dup , 1)) rfl rfl
  · intro d a b L M Q; exact q_getI (p := 848) (by decide +kernel : decode (cd 148) 72 = .ok (.getfield 64, 3)) (by decide +kernel) (by decide +kernel)
  · intro d a b L M Q; exact Wp_sim (by decide +kernel : decode (cd 148) 75 = .ok (.iconst 1, 1)) rfl rfl
  · intro d a b c L M Q; exact Wp_sim (by decide +kernel : decode (cd 148) 76 = .ok (.iadd , 1)) rfl rfl
  · intro d a b L M Q; exact q_putI (p := 848) (by decide +kernel : decode (cd 148) 77 = .ok (.putfield 64, 3)) (by decide +kernel) (by decide +kernel)
  · intro d L M Q; exact q_vret (by decide +kernel : decode (cd 148) 80 = .ok (.return_ , 1)) (by decide +kernel)
theorem h148_11 : (∀ (d : Nat) (v0 : Value) (x : Int32) (L : List Value) (M : Mem) (Q : Option Value → Mem → Prop), Wp d 148 11 (v0 :: .int x :: L) [] M Q ↔ Wp d 148 12 (v0 :: .int x :: L) [.int x] M Q) := by
  intro d v0 x L M Q; exact Wp_sim (by decide +kernel : decode (cd 148) 11 = .ok (.iload_n 1, 1)) rfl rfl

/- 149: PalaceYardModel.weekGoes -/
set_option maxRecDepth 10000 in
theorem e149_0 : (∀ (d : Nat) (L : List Value) (M : Mem) (Q : Option Value → Mem → Prop), Wp d 149 0 L [] M Q ↔ Wp d 149 1 L [.int 0] M Q) ∧
    (∀ (d : Nat) (a : Int32) (v0 : Value) (x : Value) (L : List Value) (M : Mem) (Q : Option Value → Mem → Prop), Wp d 149 1 (v0 :: x :: L) [.int a] M Q ↔ Wp d 149 2 (clr v0 :: .int a :: L) [] M Q) ∧
    (∀ (d : Nat) (a : Int32) (x : Nat) (L : List Value) (M : Mem) (Q : Option Value → Mem → Prop), Wp d 149 3 (.ref x :: L) [.int a] M Q ↔ Wp d 149 4 (.ref x :: L) [.ref x, .int a] M Q) ∧
    (∀ (d : Nat) (a : Nat) (b : Int32) (L : List Value) (M : Mem) (Q : Option Value → Mem → Prop), Wp d 149 4 L [.ref a, .int b] M Q ↔ (isK a 12 = true ∧ Wp d 149 7 L [.ref (rt a 0), .int b] M Q)) ∧
    (∀ (d : Nat) (a : Nat) (b : Int32) (L : List Value) (M : Mem) (Q : Option Value → Mem → Prop), Wp d 149 7 L [.ref a, .int b] M Q ↔ Wp d 149 8 L [.int 4, .ref a, .int b] M Q) ∧
    (∀ (d : Nat) (a : Int32) (b : Nat) (c : Int32) (L : List Value) (M : Mem) (Q : Option Value → Mem → Prop), Wp d 149 8 L [.int a, .ref b, .int c] M Q ↔ ((isR b = true ∧ inr a (lnm M b)) ∧ Wp d 149 9 L [.int (M b a.toNatClampNeg), .int c] M Q)) ∧
    (∀ (d : Nat) (a : Int32) (b : Int32) (L : List Value) (M : Mem) (Q : Option Value → Mem → Prop), Wp d 149 9 L [.int a, .int b] M Q ↔ (if b < a then Wp d 149 12 L [] M Q else Wp d 149 114 L [] M Q)) ∧
    (∀ (d : Nat) (x : Nat) (L : List Value) (M : Mem) (Q : Option Value → Mem → Prop), Wp d 149 12 (.ref x :: L) [] M Q ↔ Wp d 149 13 (.ref x :: L) [.ref x] M Q) ∧
    (∀ (d : Nat) (a : Nat) (L : List Value) (M : Mem) (Q : Option Value → Mem → Prop), Wp d 149 13 L [.ref a] M Q ↔ (isK a 12 = true ∧ Wp d 149 16 L [.ref (rt a 2)] M Q)) ∧
    (∀ (d : Nat) (a : Nat) (L : List Value) (M : Mem) (Q : Option Value → Mem → Prop), Wp d 149 16 L [.ref a] M Q ↔ Wp d 149 17 L [.int 0, .ref a] M Q) ∧
    (∀ (d : Nat) (a : Int32) (b : Nat) (v0 : Value) (x : Int32) (L : List Value) (M : Mem) (Q : Option Value → Mem → Prop), Wp d 149 17 (v0 :: .int x :: L) [.int a, .ref b] M Q ↔ Wp d 149 18 (v0 :: .int x :: L) [.int x, .int a, .ref b] M Q) ∧
    (∀ (d : Nat) (a : Int32) (b : Int32) (c : Nat) (L : List Value) (M : Mem) (Q : Option Value → Mem → Prop), Wp d 149 18 L [.int a, .int b, .ref c] M Q ↔ Wp d 149 19 L [.int (b + a), .ref c] M Q) ∧
    (∀ (d : Nat) (a : Int32) (b : Nat) (L : List Value) (M : Mem) (Q : Option Value → Mem → Prop), Wp d 149 19 L [.int a, .ref b] M Q ↔ ((isR b = true ∧ inr a (lnm M b)) ∧ Wp d 149 20 L [.int (M b a.toNatClampNeg)] M Q)) ∧
    (∀ (d : Nat) (a : Int32) (L : List Value) (M : Mem) (Q : Option Value → Mem → Prop), Wp d 149 20 L [.int a] M Q ↔ Wp d 149 21 L [.int 1, .int a] M Q) ∧
    (∀ (d : Nat) (a : Int32) (b : Int32) (L : List Value) (M : Mem) (Q : Option Value → Mem → Prop), Wp d 149 21 L [.int a, .int b] M Q ↔ (if b = a then Wp d 149 24 L [] M Q else Wp d 149 28 L [] M Q)) ∧
    (∀ (d : Nat) (L : List Value) (M : Mem) (Q : Option Value → Mem → Prop), Wp d 149 24 L [] M Q ↔ Wp d 149 25 L [.int 1] M Q) ∧
    (∀ (d : Nat) (a : Int32) (L : List Value) (M : Mem) (Q : Option Value → Mem → Prop), Wp d 149 25 L [.int a] M Q ↔ Wp d 149 29 L [.int a] M Q) ∧
    (∀ (d : Nat) (L : List Value) (M : Mem) (Q : Option Value → Mem → Prop), Wp d 149 28 L [] M Q ↔ Wp d 149 29 L [.int 0] M Q) ∧
    (∀ (d : Nat) (a : Int32) (v0 : Value) (v1 : Value) (x : Value) (L : List Value) (M : Mem) (Q : Option Value → Mem → Prop), Wp d 149 29 (v0 :: v1 :: x :: L) [.int a] M Q ↔ Wp d 149 30 (v0 :: clr v1 :: .int a :: L) [] M Q) ∧
    (∀ (d : Nat) (x : Nat) (L : List Value) (M : Mem) (Q : Option Value → Mem → Prop), Wp d 149 30 (.ref x :: L) [] M Q ↔ Wp d 149 31 (.ref x :: L) [.ref x] M Q) ∧
    (∀ (d : Nat) (a : Nat) (L : List Value) (M : Mem) (Q : Option Value → Mem → Prop), Wp d 149 31 L [.ref a] M Q ↔ (isK a 12 = true ∧ Wp d 149 34 L [.ref (rt a 2)] M Q)) ∧
    (∀ (d : Nat) (a : Nat) (L : List Value) (M : Mem) (Q : Option Value → Mem → Prop), Wp d 149 34 L [.ref a] M Q ↔ Wp d 149 36 L [.int 6, .ref a] M Q) ∧
    (∀ (d : Nat) (a : Int32) (b : Nat) (v0 : Value) (x : Int32) (L : List Value) (M : Mem) (Q : Option Value → Mem → Prop), Wp d 149 36 (v0 :: .int x :: L) [.int a, .ref b] M Q ↔ Wp d 149 37 (v0 :: .int x :: L) [.int x, .int a, .ref b] M Q) ∧
    (∀ (d : Nat) (a : Int32) (b : Int32) (c : Nat) (L : List Value) (M : Mem) (Q : Option Value → Mem → Prop), Wp d 149 37 L [.int a, .int b, .ref c] M Q ↔ Wp d 149 38 L [.int (b + a), .ref c] M Q) ∧
    (∀ (d : Nat) (a : Int32) (b : Nat) (x : Nat) (L : List Value) (M : Mem) (Q : Option Value → Mem → Prop), Wp d 149 38 (.ref x :: L) [.int a, .ref b] M Q ↔ Wp d 149 39 (.ref x :: L) [.ref x, .int a, .ref b] M Q) ∧
    (∀ (d : Nat) (a : Nat) (b : Int32) (c : Nat) (v0 : Value) (x : Int32) (L : List Value) (M : Mem) (Q : Option Value → Mem → Prop), Wp d 149 39 (v0 :: .int x :: L) [.ref a, .int b, .ref c] M Q ↔ Wp d 149 40 (v0 :: .int x :: L) [.int x, .ref a, .int b, .ref c] M Q) ∧
    (∀ (d : Nat) (a : Int32) (b : Nat) (c : Int32) (d2 : Nat) (L : List Value) (M : Mem) (Q : Option Value → Mem → Prop), Wp (d + 1) 149 40 L [.int a, .ref b, .int c, .ref d2] M Q ↔ (isK b 12 = true ∧ Wp d 150 0 [.ref b, .int a] [] M (fun r M2 => Wp (d + 1) 149 43 L (r.toList ++ [.int c, .ref d2]) M2 Q))) ∧
    (∀ (d : Nat) (a : Int32) (b : Int32) (c : Nat) (L : List Value) (M : Mem) (Q : Option Value → Mem → Prop), Wp d 149 43 L [.int a, .int b, .ref c] M Q ↔ (if a = 0 then Wp d 149 64 L [.int b, .ref c] M Q else Wp d 149 46 L [.int b, .ref c] M Q)) ∧
    (∀ (d : Nat) (a : Int32) (b : Nat) (x : Nat) (L : List Value) (M : Mem) (Q : Option Value → Mem → Prop), Wp d 149 46 (.ref x :: L) [.int a, .ref b] M Q ↔ Wp d 149 47 (.ref x :: L) [.ref x, .int a, .ref b] M Q) ∧
    (∀ (d : Nat) (a : Nat) (b : Int32) (c : Nat) (v0 : Value) (x : Int32) (L : List Value) (M : Mem) (Q : Option Value → Mem → Prop), Wp d 149 47 (v0 :: .int x :: L) [.ref a, .int b, .ref c] M Q ↔ Wp d 149 48 (v0 :: .int x :: L) [.int x, .ref a, .int b, .ref c] M Q) ∧
    (∀ (d : Nat) (a : Int32) (b : Nat) (c : Int32) (d2 : Nat) (x : Nat) (L : List Value) (M : Mem) (Q : Option Value → Mem → Prop), Wp d 149 48 (.ref x :: L) [.int a, .ref b, .int c, .ref d2] M Q ↔ Wp d 149 49 (.ref x :: L) [.ref x, .int a, .ref b, .int c, .ref d2] M Q) ∧
    (∀ (d : Nat) (a : Nat) (b : Int32) (c : Nat) (d2 : Int32) (e : Nat) (L : List Value) (M : Mem) (Q : Option Value → Mem → Prop), Wp d 149 49 L [.ref a, .int b, .ref c, .int d2, .ref e] M Q ↔ (isK a 12 = true ∧ Wp d 149 52 L [.ref (rt a 2), .int b, .ref c, .int d2, .ref e] M Q)) ∧
    (∀ (d : Nat) (a : Nat) (b : Int32) (c : Nat) (d2 : Int32) (e : Nat) (L : List Value) (M : Mem) (Q : Option Value → Mem → Prop), Wp d 149 52 L [.ref a, .int b, .ref c, .int d2, .ref e] M Q ↔ Wp d 149 54 L [.int 6, .ref a, .int b, .ref c, .int d2, .ref e] M Q) ∧
    (∀ (d : Nat) (a : Int32) (b : Nat) (c : Int32) (d2 : Nat) (e : Int32) (f : Nat) (v0 : Value) (x : Int32) (L : List Value) (M : Mem) (Q : Option Value → Mem → Prop), Wp d 149 54 (v0 :: .int x :: L) [.int a, .ref b, .int c, .ref d2, .int e, .ref f] M Q ↔ Wp d 149 55 (v0 :: .int x :: L) [.int x, .int a, .ref b, .int c, .ref d2, .int e, .ref f] M Q) ∧
    (∀ (d : Nat) (a : Int32) (b : Int32) (c : Nat) (d2 : Int32) (e : Nat) (f : Int32) (g : Nat) (L : List Value) (M : Mem) (Q : Option Value → Mem → Prop), Wp d 149 55 L [.int a, .int b, .ref c, .int d2, .ref e, .int f, .ref g] M Q ↔ Wp d 149 56 L [.int (b + a), .ref c, .int d2, .ref e, .int f, .ref g] M Q) ∧
    (∀ (d : Nat) (a : Int32) (b : Nat) (c : Int32) (d2 : Nat) (e : Int32) (f : Nat) (L : List Value) (M : Mem) (Q : Option Value → Mem → Prop), Wp d 149 56 L [.int a, .ref b, .int c, .ref d2, .int e, .ref f] M Q ↔ ((isR b = true ∧ inr a (lnm M b)) ∧ Wp d 149 57 L [.int (M b a.toNatClampNeg), .int c, .ref d2, .int e, .ref f] M Q)) ∧
    (∀ (d : Nat) (a : Int32) (b : Int32) (c : Nat) (d2 : Int32) (e : Nat) (v0 : Value) (v1 : Value) (x : Int32) (L : List Value) (M : Mem) (Q : Option Value → Mem → Prop), Wp d 149 57 (v0 :: v1 :: .int x :: L) [.int a, .int b, .ref c, .int d2, .ref e] M Q ↔ Wp d 149 58 (v0 :: v1 :: .int x :: L) [.int x, .int a, .int b, .ref c, .int d2, .ref e] M Q) ∧
    (∀ (d : Nat) (a : Int32) (b : Int32) (c : Int32) (d2 : Nat) (e : Int32) (f : Nat) (L : List Value) (M : Mem) (Q : Option Value → Mem → Prop), Wp (d + 1) 149 58 L [.int a, .int b, .int c, .ref d2, .int e, .ref f] M Q ↔ (isK d2 12 = true ∧ Wp d 131 0 [.ref d2, .int c, .int b, .int a] [] M (fun r M2 => Wp (d + 1) 149 61 L (r.toList ++ [.int e, .ref f]) M2 Q))) ∧
    (∀ (d : Nat) (a : Int32) (b : Int32) (c : Nat) (L : List Value) (M : Mem) (Q : Option Value → Mem → Prop), Wp d 149 61 L [.int a, .int b, .ref c] M Q ↔ Wp d 149 73 L [.int a, .int b, .ref c] M Q) ∧
    (∀ (d : Nat) (a : Int32) (b : Nat) (x : Nat) (L : List Value) (M : Mem) (Q : Option Value → Mem → Prop), Wp d 149 64 (.ref x :: L) [.int a, .ref b] M Q ↔ Wp d 149 65 (.ref x :: L) [.ref x, .int a, .ref b] M Q) ∧
    (∀ (d : Nat) (a : Nat) (b : Int32) (c : Nat) (L : List Value) (M : Mem) (Q : Option Value → Mem → Prop), Wp d 149 65 L [.ref a, .int b, .ref c] M Q ↔ (isK a 12 = true ∧ Wp d 149 68 L [.ref (rt a 2), .int b, .ref c] M Q)) ∧
    (∀ (d : Nat) (a : Nat) (b : Int32) (c : Nat) (L : List Value) (M : Mem) (Q : Option Value → Mem → Prop), Wp d 149 68 L [.ref a, .int b, .ref c] M Q ↔ Wp d 149 70 L [.int 6, .ref a, .int b, .ref c] M Q) ∧
    (∀ (d : Nat) (a : Int32) (b : Nat) (c : Int32) (d2 : Nat) (v0 : Value) (x : Int32) (L : List Value) (M : Mem) (Q : Option Value → Mem → Prop), Wp d 149 70 (v0 :: .int x :: L) [.int a, .ref b, .int c, .ref d2] M Q ↔ Wp d 149 71 (v0 :: .int x :: L) [.int x, .int a, .ref b, .int c, .ref d2] M Q) ∧
    (∀ (d : Nat) (a : Int32) (b : Int32) (c : Nat) (d2 : Int32) (e : Nat) (L : List Value) (M : Mem) (Q : Option Value → Mem → Prop), Wp d 149 71 L [.int a, .int b, .ref c, .int d2, .ref e] M Q ↔ Wp d 149 72 L [.int (b + a), .ref c, .int d2, .ref e] M Q) ∧
    (∀ (d : Nat) (a : Int32) (b : Nat) (c : Int32) (d2 : Nat) (L : List Value) (M : Mem) (Q : Option Value → Mem → Prop), Wp d 149 72 L [.int a, .ref b, .int c, .ref d2] M Q ↔ ((isR b = true ∧ inr a (lnm M b)) ∧ Wp d 149 73 L [.int (M b a.toNatClampNeg), .int c, .ref d2] M Q)) ∧
    (∀ (d : Nat) (a : Int32) (b : Int32) (c : Nat) (L : List Value) (M : Mem) (Q : Option Value → Mem → Prop), Wp d 149 73 L [.int a, .int b, .ref c] M Q ↔ ((isK c 13 = true ∧ inr b (lnm M c)) ∧ Wp d 149 74 L [] (up2 M c b.toNatClampNeg a) Q)) ∧
    (∀ (d : Nat) (x : Nat) (L : List Value) (M : Mem) (Q : Option Value → Mem → Prop), Wp d 149 74 (.ref x :: L) [] M Q ↔ Wp d 149 75 (.ref x :: L) [.ref x] M Q) ∧
    (∀ (d : Nat) (a : Nat) (L : List Value) (M : Mem) (Q : Option Value → Mem → Prop), Wp d 149 75 L [.ref a] M Q ↔ (isK a 12 = true ∧ Wp d 149 78 L [.ref (rt a 2)] M Q)) ∧
    (∀ (d : Nat) (a : Nat) (L : List Value) (M : Mem) (Q : Option Value → Mem → Prop), Wp d 149 78 L [.ref a] M Q ↔ Wp d 149 80 L [.int 50, .ref a] M Q) ∧
    (∀ (d : Nat) (a : Int32) (b : Nat) (L : List Value) (M : Mem) (Q : Option Value → Mem → Prop), Wp d 149 80 L [.int a, .ref b] M Q ↔ Wp d 149 82 L [.int 999999, .int a, .ref b] M Q) ∧
    (∀ (d : Nat) (a : Int32) (b : Int32) (c : Nat) (x : Nat) (L : List Value) (M : Mem) (Q : Option Value → Mem → Prop), Wp d 149 82 (.ref x :: L) [.int a, .int b, .ref c] M Q ↔ Wp d 149 83 (.ref x :: L) [.ref x, .int a, .int b, .ref c] M Q) ∧
    (∀ (d : Nat) (a : Nat) (b : Int32) (c : Int32) (d2 : Nat) (L : List Value) (M : Mem) (Q : Option Value → Mem → Prop), Wp d 149 83 L [.ref a, .int b, .int c, .ref d2] M Q ↔ (isK a 12 = true ∧ Wp d 149 86 L [.ref (rt a 2), .int b, .int c, .ref d2] M Q)) ∧
    (∀ (d : Nat) (a : Nat) (b : Int32) (c : Int32) (d2 : Nat) (L : List Value) (M : Mem) (Q : Option Value → Mem → Prop), Wp d 149 86 L [.ref a, .int b, .int c, .ref d2] M Q ↔ Wp d 149 88 L [.int 50, .ref a, .int b, .int c, .ref d2] M Q) ∧
    (∀ (d : Nat) (a : Int32) (b : Nat) (c : Int32) (d2 : Int32) (e : Nat) (L : List Value) (M : Mem) (Q : Option Value → Mem → Prop), Wp d 149 88 L [.int a, .ref b, .int c, .int d2, .ref e] M Q ↔ ((isR b = true ∧ inr a (lnm M b)) ∧ Wp d 149 89 L [.int (M b a.toNatClampNeg), .int c, .int d2, .ref e] M Q)) ∧
    (∀ (d : Nat) (a : Int32) (b : Int32) (c : Int32) (d2 : Nat) (v0 : Value) (v1 : Value) (x : Int32) (L : List Value) (M : Mem) (Q : Option Value → Mem → Prop), Wp d 149 89 (v0 :: v1 :: .int x :: L) [.int a, .int b, .int c, .ref d2] M Q ↔ Wp d 149 90 (v0 :: v1 :: .int x :: L) [.int x, .int a, .int b, .int c, .ref d2] M Q) ∧
    (∀ (d : Nat) (a : Int32) (b : Int32) (c : Int32) (d2 : Int32) (e : Nat) (L : List Value) (M : Mem) (Q : Option Value → Mem → Prop), Wp d 149 90 L [.int a, .int b, .int c, .int d2, .ref e] M Q ↔ (if a = 0 then Wp d 149 102 L [.int b, .int c, .int d2, .ref e] M Q else Wp d 149 93 L [.int b, .int c, .int d2, .ref e] M Q)) ∧
    (∀ (d : Nat) (a : Int32) (b : Int32) (c : Int32) (d2 : Nat) (x : Nat) (L : List Value) (M : Mem) (Q : Option Value → Mem → Prop), Wp d 149 93 (.ref x :: L) [.int a, .int b, .int c, .ref d2] M Q ↔ Wp d 149 94 (.ref x :: L) [.ref x, .int a, .int b, .int c, .ref d2] M Q) ∧
    (∀ (d : Nat) (a : Nat) (b : Int32) (c : Int32) (d2 : Int32) (e : Nat) (L : List Value) (M : Mem) (Q : Option Value → Mem → Prop), Wp d 149 94 L [.ref a, .int b, .int c, .int d2, .ref e] M Q ↔ (isK a 12 = true ∧ Wp d 149 97 L [.ref (rt a 0), .int b, .int c, .int d2, .ref e] M Q)) ∧
    (∀ (d : Nat) (a : Nat) (b : Int32) (c : Int32) (d2 : Int32) (e : Nat) (L : List Value) (M : Mem) (Q : Option Value → Mem → Prop), Wp d 149 97 L [.ref a, .int b, .int c, .int d2, .ref e] M Q ↔ Wp d 149 98 L [.int 0, .ref a, .int b, .int c, .int d2, .ref e] M Q) ∧
    (∀ (d : Nat) (a : Int32) (b : Nat) (c : Int32) (d2 : Int32) (e : Int32) (f : Nat) (L : List Value) (M : Mem) (Q : Option Value → Mem → Prop), Wp d 149 98 L [.int a, .ref b, .int c, .int d2, .int e, .ref f] M Q ↔ ((isR b = true ∧ inr a (lnm M b)) ∧ Wp d 149 99 L [.int (M b a.toNatClampNeg), .int c, .int d2, .int e, .ref f] M Q)) := by
  refine ⟨?_, ?_, ?_, ?_, ?_, ?_, ?_, ?_, ?_, ?_, ?_, ?_, ?_, ?_, ?_, ?_, ?_, ?_, ?_, ?_, ?_, ?_, ?_, ?_, ?_, ?_, ?_, ?_, ?_, ?_, ?_, ?_, ?_, ?_, ?_, ?_, ?_, ?_, ?_, ?_, ?_, ?_, ?_, ?_, ?_, ?_, ?_, ?_, ?_, ?_, ?_, ?_, ?_, ?_, ?_, ?_, ?_, ?_, ?_, ?_⟩
  · intro d L M Q; exact Wp_sim (by decide +kernel : decode (cd 149) 0 = .ok (.iconst 0, 1)) rfl rfl
  · intro d a v0 x L M Q; exact Wp_sim (by decide +kernel : decode (cd 149) 1 = .ok (.istore_n 1, 1)) rfl rfl
  · intro d a x L M Q; exact Wp_sim (by decide +kernel : decode (cd 149) 3 = .ok (.aload_n 0, 1)) rfl rfl
  · intro d a b L M Q; exact q_getR (p := 843) (by decide +kernel : decode (cd 149) 4 = .ok (.getfield 7, 3)) (by decide +kernel) (by decide +kernel)
  · intro d a b L M Q; exact Wp_sim (by decide +kernel : decode (cd 149) 7 = .ok (.iconst 4, 1)) rfl rfl
  · intro d a b c L M Q; exact q_ald (by decide +kernel : decode (cd 149) 8 = .ok (.iaload , 1))
  · intro d a b L M Q; exact q_ige (by decide +kernel : decode (cd 149) 9 = .ok (.if_icmp .ge 105, 3)) (by decide)
  · intro d x L M Q; exact Wp_sim (by decide +kernel : decode (cd 149) 12 = .ok (.aload_n 0, 1)) rfl rfl
  · intro d a L M Q; exact q_getR (p := 845) (by decide +kernel : decode (cd 149) 13 = .ok (.getfield 16, 3)) (by decide +kernel) (by decide +kernel)
  · intro d a L M Q; exact Wp_sim (by decide +kernel : decode (cd 149) 16 = .ok (.iconst 0, 1)) rfl rfl
  · intro d a b v0 x L M Q; exact Wp_sim (by decide +kernel : decode (cd 149) 17 = .ok (.iload_n 1, 1)) rfl rfl
  · intro d a b c L M Q; exact Wp_sim (by decide +kernel : decode (cd 149) 18 = .ok (.iadd , 1)) rfl rfl
  · intro d a b L M Q; exact q_ald (by decide +kernel : decode (cd 149) 19 = .ok (.iaload , 1))
  · intro d a L M Q; exact Wp_sim (by decide +kernel : decode (cd 149) 20 = .ok (.iconst 1, 1)) rfl rfl
  · intro d a b L M Q; exact q_ine (by decide +kernel : decode (cd 149) 21 = .ok (.if_icmp .ne 7, 3)) (by decide)
  · intro d L M Q; exact Wp_sim (by decide +kernel : decode (cd 149) 24 = .ok (.iconst 1, 1)) rfl rfl
  · intro d a L M Q; exact q_goto (by decide +kernel : decode (cd 149) 25 = .ok (.goto 4, 3)) (by decide)
  · intro d L M Q; exact Wp_sim (by decide +kernel : decode (cd 149) 28 = .ok (.iconst 0, 1)) rfl rfl
  · intro d a v0 v1 x L M Q; exact Wp_sim (by decide +kernel : decode (cd 149) 29 = .ok (.istore_n 2, 1)) rfl rfl
  · intro d x L M Q; exact Wp_sim (by decide +kernel : decode (cd 149) 30 = .ok (.aload_n 0, 1)) rfl rfl
  · intro d a L M Q; exact q_getR (p := 845) (by decide +kernel : decode (cd 149) 31 = .ok (.getfield 16, 3)) (by decide +kernel) (by decide +kernel)
  · intro d a L M Q; exact Wp_sim (by decide +kernel : decode (cd 149) 34 = .ok (.bipush 6, 2)) rfl rfl
  · intro d a b v0 x L M Q; exact Wp_sim (by decide +kernel : decode (cd 149) 36 = .ok (.iload_n 1, 1)) rfl rfl
  · intro d a b c L M Q; exact Wp_sim (by decide +kernel : decode (cd 149) 37 = .ok (.iadd , 1)) rfl rfl
  · intro d a b x L M Q; exact Wp_sim (by decide +kernel : decode (cd 149) 38 = .ok (.aload_n 0, 1)) rfl rfl
  · intro d a b c v0 x L M Q; exact Wp_sim (by decide +kernel : decode (cd 149) 39 = .ok (.iload_n 1, 1)) rfl rfl
  · intro d a b c d2 L M Q; exact q_invV (pz := 1092) (n := 1) (c := 12) (m := 2) (k := b) (As := [.int a]) (rest := [.int c, .ref d2]) (by decide +kernel : decode (cd 149) 40 = .ok (.invokevirtual 191, 3)) (by decide +kernel) (by decide +kernel) rfl rfl (Nat.le_of_ble_eq_true rfl) (Nat.le_of_ble_eq_true rfl) rfl
  · intro d a b c L M Q; exact q_zeq (by decide +kernel : decode (cd 149) 43 = .ok (.ifCond .eq 21, 3)) (by decide)
  · intro d a b x L M Q; exact Wp_sim (by decide +kernel : decode (cd 149) 46 = .ok (.aload_n 0, 1)) rfl rfl
  · intro d a b c v0 x L M Q; exact Wp_sim (by decide +kernel : decode (cd 149) 47 = .ok (.iload_n 1, 1)) rfl rfl
  · intro d a b c d2 x L M Q; exact Wp_sim (by decide +kernel : decode (cd 149) 48 = .ok (.aload_n 0, 1)) rfl rfl
  · intro d a b c d2 e L M Q; exact q_getR (p := 845) (by decide +kernel : decode (cd 149) 49 = .ok (.getfield 16, 3)) (by decide +kernel) (by decide +kernel)
  · intro d a b c d2 e L M Q; exact Wp_sim (by decide +kernel : decode (cd 149) 52 = .ok (.bipush 6, 2)) rfl rfl
  · intro d a b c d2 e f v0 x L M Q; exact Wp_sim (by decide +kernel : decode (cd 149) 54 = .ok (.iload_n 1, 1)) rfl rfl
  · intro d a b c d2 e f g L M Q; exact Wp_sim (by decide +kernel : decode (cd 149) 55 = .ok (.iadd , 1)) rfl rfl
  · intro d a b c d2 e f L M Q; exact q_ald (by decide +kernel : decode (cd 149) 56 = .ok (.iaload , 1))
  · intro d a b c d2 e v0 v1 x L M Q; exact Wp_sim (by decide +kernel : decode (cd 149) 57 = .ok (.iload_n 2, 1)) rfl rfl
  · intro d a b c d2 e f L M Q; exact q_invV (pz := 1014) (n := 3) (c := 12) (m := 4) (k := d2) (As := [.int c, .int b, .int a]) (rest := [.int e, .ref f]) (by decide +kernel : decode (cd 149) 58 = .ok (.invokevirtual 161, 3)) (by decide +kernel) (by decide +kernel) rfl rfl (Nat.le_of_ble_eq_true rfl) (Nat.le_of_ble_eq_true rfl) rfl
  · intro d a b c L M Q; exact q_goto (by decide +kernel : decode (cd 149) 61 = .ok (.goto 12, 3)) (by decide)
  · intro d a b x L M Q; exact Wp_sim (by decide +kernel : decode (cd 149) 64 = .ok (.aload_n 0, 1)) rfl rfl
  · intro d a b c L M Q; exact q_getR (p := 845) (by decide +kernel : decode (cd 149) 65 = .ok (.getfield 16, 3)) (by decide +kernel) (by decide +kernel)
  · intro d a b c L M Q; exact Wp_sim (by decide +kernel : decode (cd 149) 68 = .ok (.bipush 6, 2)) rfl rfl
  · intro d a b c d2 v0 x L M Q; exact Wp_sim (by decide +kernel : decode (cd 149) 70 = .ok (.iload_n 1, 1)) rfl rfl
  · intro d a b c d2 e L M Q; exact Wp_sim (by decide +kernel : decode (cd 149) 71 = .ok (.iadd , 1)) rfl rfl
  · intro d a b c d2 L M Q; exact q_ald (by decide +kernel : decode (cd 149) 72 = .ok (.iaload , 1))
  · intro d a b c L M Q; exact q_ast (by decide +kernel : decode (cd 149) 73 = .ok (.iastore , 1))
  · intro d x L M Q; exact Wp_sim (by decide +kernel : decode (cd 149) 74 = .ok (.aload_n 0, 1)) rfl rfl
  · intro d a L M Q; exact q_getR (p := 845) (by decide +kernel : decode (cd 149) 75 = .ok (.getfield 16, 3)) (by decide +kernel) (by decide +kernel)
  · intro d a L M Q; exact Wp_sim (by decide +kernel : decode (cd 149) 78 = .ok (.bipush 50, 2)) rfl rfl
  · intro d a b L M Q; exact q_ldc (p := 1096) (by decide +kernel : decode (cd 149) 80 = .ok (.ldc 194, 2)) (by decide +kernel)
  · intro d a b c x L M Q; exact Wp_sim (by decide +kernel : decode (cd 149) 82 = .ok (.aload_n 0, 1)) rfl rfl
  · intro d a b c d2 L M Q; exact q_getR (p := 845) (by decide +kernel : decode (cd 149) 83 = .ok (.getfield 16, 3)) (by decide +kernel) (by decide +kernel)
  · intro d a b c d2 L M Q; exact Wp_sim (by decide +kernel : decode (cd 149) 86 = .ok (.bipush 50, 2)) rfl rfl
  · intro d a b c d2 e L M Q; exact q_ald (by decide +kernel : decode (cd 149) 88 = .ok (.iaload , 1))
  · intro d a b c d2 v0 v1 x L M Q; exact Wp_sim (by decide +kernel : decode (cd 149) 89 = .ok (.iload_n 2, 1)) rfl rfl
  · intro d a b c d2 e L M Q; exact q_zeq (by decide +kernel : decode (cd 149) 90 = .ok (.ifCond .eq 12, 3)) (by decide)
  · intro d a b c d2 x L M Q; exact Wp_sim (by decide +kernel : decode (cd 149) 93 = .ok (.aload_n 0, 1)) rfl rfl
  · intro d a b c d2 e L M Q; exact q_getR (p := 843) (by decide +kernel : decode (cd 149) 94 = .ok (.getfield 7, 3)) (by decide +kernel) (by decide +kernel)
  · intro d a b c d2 e L M Q; exact Wp_sim (by decide +kernel : decode (cd 149) 97 = .ok (.iconst 0, 1)) rfl rfl
  · intro d a b c d2 e f L M Q; exact q_ald (by decide +kernel : decode (cd 149) 98 = .ok (.iaload , 1))
set_option maxRecDepth 10000 in
theorem e149_1 : (∀ (d : Nat) (a : Int32) (b : Int32) (c : Int32) (d2 : Int32) (e : Nat) (L : List Value) (M : Mem) (Q : Option Value → Mem → Prop), Wp d 149 99 L [.int a, .int b, .int c, .int d2, .ref e] M Q ↔ Wp d 149 103 L [.int a, .int b, .int c, .int d2, .ref e] M Q) ∧
    (∀ (d : Nat) (a : Int32) (b : Int32) (c : Int32) (d2 : Nat) (L : List Value) (M : Mem) (Q : Option Value → Mem → Prop), Wp d 149 102 L [.int a, .int b, .int c, .ref d2] M Q ↔ Wp d 149 103 L [.int 0, .int a, .int b, .int c, .ref d2] M Q) ∧
    (∀ (d : Nat) (a : Int32) (b : Int32) (c : Int32) (d2 : Int32) (e : Nat) (L : List Value) (M : Mem) (Q : Option Value → Mem → Prop), Wp d 149 103 L [.int a, .int b, .int c, .int d2, .ref e] M Q ↔ Wp d 149 104 L [.int (b + a), .int c, .int d2, .ref e] M Q) ∧
    (∀ (d : Nat) (a : Int32) (b : Int32) (c : Int32) (d2 : Nat) (L : List Value) (M : Mem) (Q : Option Value → Mem → Prop), Wp (d + 1) 149 104 L [.int a, .int b, .int c, .ref d2] M Q ↔ Wp d 133 0 [.int b, .int a] [] M (fun r M2 => Wp (d + 1) 149 107 L (r.toList ++ [.int c, .ref d2]) M2 Q)) ∧
    (∀ (d : Nat) (a : Int32) (b : Int32) (c : Nat) (L : List Value) (M : Mem) (Q : Option Value → Mem → Prop), Wp d 149 107 L [.int a, .int b, .ref c] M Q ↔ ((isK c 13 = true ∧ inr b (lnm M c)) ∧ Wp d 149 108 L [] (up2 M c b.toNatClampNeg a) Q)) ∧
    (∀ (d : Nat) (v0 : Value) (x : Int32) (L : List Value) (M : Mem) (Q : Option Value → Mem → Prop), Wp d 149 108 (v0 :: .int x :: L) [] M Q ↔ Wp d 149 111 (clr v0 :: .int (x + 1) :: L) [] M Q) ∧
    (∀ (d : Nat) (L : List Value) (M : Mem) (Q : Option Value → Mem → Prop), Wp d 149 111 L [] M Q ↔ Wp d 149 2 L [] M Q) ∧
    (∀ (d : Nat) (x : Nat) (L : List Value) (M : Mem) (Q : Option Value → Mem → Prop), Wp d 149 114 (.ref x :: L) [] M Q ↔ Wp d 149 115 (.ref x :: L) [.ref x] M Q) ∧
    (∀ (d : Nat) (a : Nat) (L : List Value) (M : Mem) (Q : Option Value → Mem → Prop), Wp (d + 1) 149 115 L [.ref a] M Q ↔ (isK a 12 = true ∧ Wp d 128 0 [.ref a, .null, .null, .null, .null, .null] [] M (fun r M2 => Wp (d + 1) 149 118 L (r.toList ++ []) M2 Q))) ∧
    (∀ (d : Nat) (a : Int32) (v0 : Value) (x : Value) (L : List Value) (M : Mem) (Q : Option Value → Mem → Prop), Wp d 149 118 (v0 :: x :: L) [.int a] M Q ↔ Wp d 149 119 (clr v0 :: .int a :: L) [] M Q) ∧
    (∀ (d : Nat) (x : Nat) (L : List Value) (M : Mem) (Q : Option Value → Mem → Prop), Wp d 149 119 (.ref x :: L) [] M Q ↔ Wp d 149 120 (.ref x :: L) [.ref x] M Q) ∧
    (∀ (d : Nat) (a : Nat) (L : List Value) (M : Mem) (Q : Option Value → Mem → Prop), Wp d 149 120 L [.ref a] M Q ↔ (isK a 12 = true ∧ Wp d 149 123 L [.ref (rt a 2)] M Q)) ∧
    (∀ (d : Nat) (a : Nat) (L : List Value) (M : Mem) (Q : Option Value → Mem → Prop), Wp d 149 123 L [.ref a] M Q ↔ Wp d 149 125 L [.int 49, .ref a] M Q) ∧
    (∀ (d : Nat) (a : Int32) (b : Nat) (L : List Value) (M : Mem) (Q : Option Value → Mem → Prop), Wp d 149 125 L [.int a, .ref b] M Q ↔ Wp d 149 127 L [.int 999999, .int a, .ref b] M Q) ∧
    (∀ (d : Nat) (a : Int32) (b : Int32) (c : Nat) (x : Nat) (L : List Value) (M : Mem) (Q : Option Value → Mem → Prop), Wp d 149 127 (.ref x :: L) [.int a, .int b, .ref c] M Q ↔ Wp d 149 128 (.ref x :: L) [.ref x, .int a, .int b, .ref c] M Q) ∧
    (∀ (d : Nat) (a : Nat) (b : Int32) (c : Int32) (d2 : Nat) (L : List Value) (M : Mem) (Q : Option Value → Mem → Prop), Wp d 149 128 L [.ref a, .int b, .int c, .ref d2] M Q ↔ (isK a 12 = true ∧ Wp d 149 131 L [.ref (rt a 2), .int b, .int c, .ref d2] M Q)) ∧
    (∀ (d : Nat) (a : Nat) (b : Int32) (c : Int32) (d2 : Nat) (L : List Value) (M : Mem) (Q : Option Value → Mem → Prop), Wp d 149 131 L [.ref a, .int b, .int c, .ref d2] M Q ↔ Wp d 149 133 L [.int 49, .ref a, .int b, .int c, .ref d2] M Q) ∧
    (∀ (d : Nat) (a : Int32) (b : Nat) (c : Int32) (d2 : Int32) (e : Nat) (L : List Value) (M : Mem) (Q : Option Value → Mem → Prop), Wp d 149 133 L [.int a, .ref b, .int c, .int d2, .ref e] M Q ↔ ((isR b = true ∧ inr a (lnm M b)) ∧ Wp d 149 134 L [.int (M b a.toNatClampNeg), .int c, .int d2, .ref e] M Q)) ∧
    (∀ (d : Nat) (a : Int32) (b : Int32) (c : Int32) (d2 : Nat) (v0 : Value) (x : Int32) (L : List Value) (M : Mem) (Q : Option Value → Mem → Prop), Wp d 149 134 (v0 :: .int x :: L) [.int a, .int b, .int c, .ref d2] M Q ↔ Wp d 149 135 (v0 :: .int x :: L) [.int x, .int a, .int b, .int c, .ref d2] M Q) ∧
    (∀ (d : Nat) (a : Int32) (b : Int32) (c : Int32) (d2 : Int32) (e : Nat) (L : List Value) (M : Mem) (Q : Option Value → Mem → Prop), Wp (d + 1) 149 135 L [.int a, .int b, .int c, .int d2, .ref e] M Q ↔ Wp d 151 0 [.int a, .null, .null] [] M (fun r M2 => Wp (d + 1) 149 138 L (r.toList ++ [.int b, .int c, .int d2, .ref e]) M2 Q)) ∧
    (∀ (d : Nat) (a : Int32) (b : Int32) (c : Int32) (d2 : Int32) (e : Nat) (L : List Value) (M : Mem) (Q : Option Value → Mem → Prop), Wp d 149 138 L [.int a, .int b, .int c, .int d2, .ref e] M Q ↔ Wp d 149 139 L [.int (b + a), .int c, .int d2, .ref e] M Q) ∧
    (∀ (d : Nat) (a : Int32) (b : Int32) (c : Int32) (d2 : Nat) (L : List Value) (M : Mem) (Q : Option Value → Mem → Prop), Wp (d + 1) 149 139 L [.int a, .int b, .int c, .ref d2] M Q ↔ Wp d 133 0 [.int b, .int a] [] M (fun r M2 => Wp (d + 1) 149 142 L (r.toList ++ [.int c, .ref d2]) M2 Q)) ∧
    (∀ (d : Nat) (a : Int32) (b : Int32) (c : Nat) (L : List Value) (M : Mem) (Q : Option Value → Mem → Prop), Wp d 149 142 L [.int a, .int b, .ref c] M Q ↔ ((isK c 13 = true ∧ inr b (lnm M c)) ∧ Wp d 149 143 L [] (up2 M c b.toNatClampNeg a) Q)) ∧
    (∀ (d : Nat) (L : List Value) (M : Mem) (Q : Option Value → Mem → Prop), Wp d 149 143 L [] M Q ↔ Wp d 149 144 L [.int 0] M Q) ∧
    (∀ (d : Nat) (a : Int32) (v0 : Value) (v1 : Value) (x : Value) (L : List Value) (M : Mem) (Q : Option Value → Mem → Prop), Wp d 149 144 (v0 :: v1 :: x :: L) [.int a] M Q ↔ Wp d 149 145 (v0 :: clr v1 :: .int a :: L) [] M Q) ∧
    (∀ (d : Nat) (a : Int32) (x : Nat) (L : List Value) (M : Mem) (Q : Option Value → Mem → Prop), Wp d 149 146 (.ref x :: L) [.int a] M Q ↔ Wp d 149 147 (.ref x :: L) [.ref x, .int a] M Q) ∧
    (∀ (d : Nat) (a : Nat) (b : Int32) (L : List Value) (M : Mem) (Q : Option Value → Mem → Prop), Wp d 149 147 L [.ref a, .int b] M Q ↔ (isK a 12 = true ∧ Wp d 149 150 L [.ref (rt a 0), .int b] M Q)) ∧
    (∀ (d : Nat) (a : Nat) (b : Int32) (L : List Value) (M : Mem) (Q : Option Value → Mem → Prop), Wp d 149 150 L [.ref a, .int b] M Q ↔ Wp d 149 151 L [.int 4, .ref a, .int b] M Q) ∧
    (∀ (d : Nat) (a : Int32) (b : Nat) (c : Int32) (L : List Value) (M : Mem) (Q : Option Value → Mem → Prop), Wp d 149 151 L [.int a, .ref b, .int c] M Q ↔ ((isR b = true ∧ inr a (lnm M b)) ∧ Wp d 149 152 L [.int (M b a.toNatClampNeg), .int c] M Q)) ∧
    (∀ (d : Nat) (a : Int32) (b : Int32) (L : List Value) (M : Mem) (Q : Option Value → Mem → Prop), Wp d 149 152 L [.int a, .int b] M Q ↔ (if b < a then Wp d 149 155 L [] M Q else Wp d 149 227 L [] M Q)) ∧
    (∀ (d : Nat) (x : Nat) (L : List Value) (M : Mem) (Q : Option Value → Mem → Prop), Wp d 149 155 (.ref x :: L) [] M Q ↔ Wp d 149 156 (.ref x :: L) [.ref x] M Q) ∧
    (∀ (d : Nat) (a : Nat) (L : List Value) (M : Mem) (Q : Option Value → Mem → Prop), Wp d 149 156 L [.ref a] M Q ↔ (isK a 12 = true ∧ Wp d 149 159 L [.ref (rt a 2)] M Q)) ∧
    (∀ (d : Nat) (a : Nat) (L : List Value) (M : Mem) (Q : Option Value → Mem → Prop), Wp d 149 159 L [.ref a] M Q ↔ Wp d 149 160 L [.int 0, .ref a] M Q) ∧
    (∀ (d : Nat) (a : Int32) (b : Nat) (v0 : Value) (v1 : Value) (x : Int32) (L : List Value) (M : Mem) (Q : Option Value → Mem → Prop), Wp d 149 160 (v0 :: v1 :: .int x :: L) [.int a, .ref b] M Q ↔ Wp d 149 161 (v0 :: v1 :: .int x :: L) [.int x, .int a, .ref b] M Q) ∧
    (∀ (d : Nat) (a : Int32) (b : Int32) (c : Nat) (L : List Value) (M : Mem) (Q : Option Value → Mem → Prop), Wp d 149 161 L [.int a, .int b, .ref c] M Q ↔ Wp d 149 162 L [.int (b + a), .ref c] M Q) ∧
    (∀ (d : Nat) (a : Int32) (b : Nat) (L : List Value) (M : Mem) (Q : Option Value → Mem → Prop), Wp d 149 162 L [.int a, .ref b] M Q ↔ ((isR b = true ∧ inr a (lnm M b)) ∧ Wp d 149 163 L [.int (M b a.toNatClampNeg)] M Q)) ∧
    (∀ (d : Nat) (a : Int32) (L : List Value) (M : Mem) (Q : Option Value → Mem → Prop), Wp d 149 163 L [.int a] M Q ↔ Wp d 149 164 L [.int 1, .int a] M Q) ∧
    (∀ (d : Nat) (a : Int32) (b : Int32) (L : List Value) (M : Mem) (Q : Option Value → Mem → Prop), Wp d 149 164 L [.int a, .int b] M Q ↔ (if b = a then Wp d 149 167 L [] M Q else Wp d 149 183 L [] M Q)) ∧
    (∀ (d : Nat) (x : Nat) (L : List Value) (M : Mem) (Q : Option Value → Mem → Prop), Wp d 149 167 (.ref x :: L) [] M Q ↔ Wp d 149 168 (.ref x :: L) [.ref x] M Q) ∧
    (∀ (d : Nat) (a : Nat) (L : List Value) (M : Mem) (Q : Option Value → Mem → Prop), Wp d 149 168 L [.ref a] M Q ↔ (isK a 12 = true ∧ Wp d 149 171 L [.ref (rt a 2)] M Q)) ∧
    (∀ (d : Nat) (a : Nat) (L : List Value) (M : Mem) (Q : Option Value → Mem → Prop), Wp d 149 171 L [.ref a] M Q ↔ Wp d 149 173 L [.int 6, .ref a] M Q) ∧
    (∀ (d : Nat) (a : Int32) (b : Nat) (v0 : Value) (v1 : Value) (x : Int32) (L : List Value) (M : Mem) (Q : Option Value → Mem → Prop), Wp d 149 173 (v0 :: v1 :: .int x :: L) [.int a, .ref b] M Q ↔ Wp d 149 174 (v0 :: v1 :: .int x :: L) [.int x, .int a, .ref b] M Q) ∧
    (∀ (d : Nat) (a : Int32) (b : Int32) (c : Nat) (L : List Value) (M : Mem) (Q : Option Value → Mem → Prop), Wp d 149 174 L [.int a, .int b, .ref c] M Q ↔ Wp d 149 175 L [.int (b + a), .ref c] M Q) ∧
    (∀ (d : Nat) (a : Int32) (b : Nat) (L : List Value) (M : Mem) (Q : Option Value → Mem → Prop), Wp d 149 175 L [.int a, .ref b] M Q ↔ ((isR b = true ∧ inr a (lnm M b)) ∧ Wp d 149 176 L [.int (M b a.toNatClampNeg)] M Q)) ∧
    (∀ (d : Nat) (a : Int32) (L : List Value) (M : Mem) (Q : Option Value → Mem → Prop), Wp d 149 176 L [.int a] M Q ↔ (if a < 0 then Wp d 149 179 L [] M Q else Wp d 149 183 L [] M Q)) ∧
    (∀ (d : Nat) (L : List Value) (M : Mem) (Q : Option Value → Mem → Prop), Wp d 149 179 L [] M Q ↔ Wp d 149 180 L [.int 1] M Q) ∧
    (∀ (d : Nat) (a : Int32) (L : List Value) (M : Mem) (Q : Option Value → Mem → Prop), Wp d 149 180 L [.int a] M Q ↔ Wp d 149 184 L [.int a] M Q) ∧
    (∀ (d : Nat) (L : List Value) (M : Mem) (Q : Option Value → Mem → Prop), Wp d 149 183 L [] M Q ↔ Wp d 149 184 L [.int 0] M Q) ∧
    (∀ (d : Nat) (a : Int32) (v0 : Value) (v1 : Value) (v2 : Value) (x : Value) (L : List Value) (M : Mem) (Q : Option Value → Mem → Prop), Wp d 149 184 (v0 :: v1 :: v2 :: x :: L) [.int a] M Q ↔ Wp d 149 185 (v0 :: v1 :: clr v2 :: .int a :: L) [] M Q) ∧
    (∀ (d : Nat) (x : Nat) (L : List Value) (M : Mem) (Q : Option Value → Mem → Prop), Wp d 149 185 (.ref x :: L) [] M Q ↔ Wp d 149 186 (.ref x :: L) [.ref x] M Q) ∧
    (∀ (d : Nat) (a : Nat) (L : List Value) (M : Mem) (Q : Option Value → Mem → Prop), Wp d 149 186 L [.ref a] M Q ↔ (isK a 12 = true ∧ Wp d 149 189 L [.ref (rt a 2)] M Q)) ∧
    (∀ (d : Nat) (a : Nat) (L : List Value) (M : Mem) (Q : Option Value → Mem → Prop), Wp d 149 189 L [.ref a] M Q ↔ Wp d 149 190 L [.int 0, .ref a] M Q) ∧
    (∀ (d : Nat) (a : Int32) (b : Nat) (v0 : Value) (v1 : Value) (x : Int32) (L : List Value) (M : Mem) (Q : Option Value → Mem → Prop), Wp d 149 190 (v0 :: v1 :: .int x :: L) [.int a, .ref b] M Q ↔ Wp d 149 191 (v0 :: v1 :: .int x :: L) [.int x, .int a, .ref b] M Q) ∧
    (∀ (d : Nat) (a : Int32) (b : Int32) (c : Nat) (L : List Value) (M : Mem) (Q : Option Value → Mem → Prop), Wp d 149 191 L [.int a, .int b, .ref c] M Q ↔ Wp d 149 192 L [.int (b + a), .ref c] M Q) ∧
    (∀ (d : Nat) (a : Int32) (b : Nat) (v0 : Value) (x : Int32) (L : List Value) (M : Mem) (Q : Option Value → Mem → Prop), Wp d 149 192 (v0 :: .int x :: L) [.int a, .ref b] M Q ↔ Wp d 149 193 (v0 :: .int x :: L) [.int x, .int a, .ref b] M Q) ∧
    (∀ (d : Nat) (a : Int32) (b : Int32) (c : Nat) (v0 : Value) (v1 : Value) (x : Int32) (L : List Value) (M : Mem) (Q : Option Value → Mem → Prop), Wp d 149 193 (v0 :: v1 :: .int x :: L) [.int a, .int b, .ref c] M Q ↔ Wp d 149 194 (v0 :: v1 :: .int x :: L) [.int x, .int a, .int b, .ref c] M Q) ∧
    (∀ (d : Nat) (a : Int32) (b : Int32) (c : Int32) (d2 : Nat) (L : List Value) (M : Mem) (Q : Option Value → Mem → Prop), Wp (d + 1) 149 194 L [.int a, .int b, .int c, .ref d2] M Q ↔ Wp d 129 0 [.int b, .int a] [] M (fun r M2 => Wp (d + 1) 149 197 L (r.toList ++ [.int c, .ref d2]) M2 Q)) ∧
    (∀ (d : Nat) (a : Int32) (b : Int32) (c : Nat) (L : List Value) (M : Mem) (Q : Option Value → Mem → Prop), Wp d 149 197 L [.int a, .int b, .ref c] M Q ↔ (if a = 0 then Wp d 149 204 L [.int b, .ref c] M Q else Wp d 149 200 L [.int b, .ref c] M Q)) ∧
    (∀ (d : Nat) (a : Int32) (b : Nat) (L : List Value) (M : Mem) (Q : Option Value → Mem → Prop), Wp d 149 200 L [.int a, .ref b] M Q ↔ Wp d 149 201 L [.int 2, .int a, .ref b] M Q) ∧
    (∀ (d : Nat) (a : Int32) (b : Int32) (c : Nat) (L : List Value) (M : Mem) (Q : Option Value → Mem → Prop), Wp d 149 201 L [.int a, .int b, .ref c] M Q ↔ Wp d 149 220 L [.int a, .int b, .ref c] M Q) := by
  refine ⟨?_, ?_, ?_, ?_, ?_, ?_, ?_, ?_, ?_, ?_, ?_, ?_, ?_, ?_, ?_, ?_, ?_, ?_, ?_, ?_, ?_, ?_, ?_, ?_, ?_, ?_, ?_, ?_, ?_, ?_, ?_, ?_, ?_, ?_, ?_, ?_, ?_, ?_, ?_, ?_, ?_, ?_, ?_, ?_, ?_, ?_, ?_, ?_, ?_, ?_, ?_, ?_, ?_, ?_, ?_, ?_, ?_, ?_, ?_, ?_⟩
  · intro d a b c d2 e L M Q; exact q_goto (by decide +kernel : decode (cd 149) 99 = .ok (.goto 4, 3)) (by decide)
  · intro d a b c d2 L M Q; exact Wp_sim (by decide +kernel : decode (cd 149) 102 = .ok (.iconst 0, 1)) rfl rfl
  · intro d a b c d2 e L M Q; exact Wp_sim (by decide +kernel : decode (cd 149) 103 = .ok (.iadd , 1)) rfl rfl
  · intro d a b c d2 L M Q; exact q_invS (pz := 1021) (n := 2) (m := 2) (As := [.int b, .int a]) (rest := [.int c, .ref d2]) (by decide +kernel : decode (cd 149) 104 = .ok (.invokestatic 57, 3)) (by decide +kernel) (by decide +kernel) (by decide +kernel) rfl rfl (Nat.le_of_ble_eq_true rfl) (Nat.le_of_ble_eq_true rfl) rfl
  · intro d a b c L M Q; exact q_ast (by decide +kernel : decode (cd 149) 107 = .ok (.iastore , 1))
  · intro d v0 x L M Q; exact Wp_sim (by decide +kernel : decode (cd 149) 108 = .ok (.iinc 1 1, 3)) rfl rfl
  · intro d L M Q; exact q_goto (by decide +kernel : decode (cd 149) 111 = .ok (.goto (-109), 3)) (by decide)
  · intro d x L M Q; exact Wp_sim (by decide +kernel : decode (cd 149) 114 = .ok (.aload_n 0, 1)) rfl rfl
  · intro d a L M Q; exact q_invV (pz := 1003) (n := 0) (c := 12) (m := 6) (k := a) (As := []) (rest := []) (by decide +kernel : decode (cd 149) 115 = .ok (.invokevirtual 168, 3)) (by decide +kernel) (by decide +kernel) rfl rfl (Nat.le_of_ble_eq_true rfl) (Nat.le_of_ble_eq_true rfl) rfl
  · intro d a v0 x L M Q; exact Wp_sim (by decide +kernel : decode (cd 149) 118 = .ok (.istore_n 1, 1)) rfl rfl
  · intro d x L M Q; exact Wp_sim (by decide +kernel : decode (cd 149) 119 = .ok (.aload_n 0, 1)) rfl rfl
  · intro d a L M Q; exact q_getR (p := 845) (by decide +kernel : decode (cd 149) 120 = .ok (.getfield 16, 3)) (by decide +kernel) (by decide +kernel)
  · intro d a L M Q; exact Wp_sim (by decide +kernel : decode (cd 149) 123 = .ok (.bipush 49, 2)) rfl rfl
  · intro d a b L M Q; exact q_ldc (p := 1096) (by decide +kernel : decode (cd 149) 125 = .ok (.ldc 194, 2)) (by decide +kernel)
  · intro d a b c x L M Q; exact Wp_sim (by decide +kernel : decode (cd 149) 127 = .ok (.aload_n 0, 1)) rfl rfl
  · intro d a b c d2 L M Q; exact q_getR (p := 845) (by decide +kernel : decode (cd 149) 128 = .ok (.getfield 16, 3)) (by decide +kernel) (by decide +kernel)
  · intro d a b c d2 L M Q; exact Wp_sim (by decide +kernel : decode (cd 149) 131 = .ok (.bipush 49, 2)) rfl rfl
  · intro d a b c d2 e L M Q; exact q_ald (by decide +kernel : decode (cd 149) 133 = .ok (.iaload , 1))
  · intro d a b c d2 v0 x L M Q; exact Wp_sim (by decide +kernel : decode (cd 149) 134 = .ok (.iload_n 1, 1)) rfl rfl
  · intro d a b c d2 e L M Q; exact q_invS (pz := 1097) (n := 1) (m := 3) (As := [.int a]) (rest := [.int b, .int c, .int d2, .ref e]) (by decide +kernel : decode (cd 149) 135 = .ok (.invokestatic 195, 3)) (by decide +kernel) (by decide +kernel) (by decide +kernel) rfl rfl (Nat.le_of_ble_eq_true rfl) (Nat.le_of_ble_eq_true rfl) rfl
  · intro d a b c d2 e L M Q; exact Wp_sim (by decide +kernel : decode (cd 149) 138 = .ok (.iadd , 1)) rfl rfl
  · intro d a b c d2 L M Q; exact q_invS (pz := 1021) (n := 2) (m := 2) (As := [.int b, .int a]) (rest := [.int c, .ref d2]) (by decide +kernel : decode (cd 149) 139 = .ok (.invokestatic 57, 3)) (by decide +kernel) (by decide +kernel) (by decide +kernel) rfl rfl (Nat.le_of_ble_eq_true rfl) (Nat.le_of_ble_eq_true rfl) rfl
  · intro d a b c L M Q; exact q_ast (by decide +kernel : decode (cd 149) 142 = .ok (.iastore , 1))
  · intro d L M Q; exact Wp_sim (by decide +kernel : decode (cd 149) 143 = .ok (.iconst 0, 1)) rfl rfl
  · intro d a v0 v1 x L M Q; exact Wp_sim (by decide +kernel : decode (cd 149) 144 = .ok (.istore_n 2, 1)) rfl rfl
  · intro d a x L M Q; exact Wp_sim (by decide +kernel : decode (cd 149) 146 = .ok (.aload_n 0, 1)) rfl rfl
  · intro d a b L M Q; exact q_getR (p := 843) (by decide +kernel : decode (cd 149) 147 = .ok (.getfield 7, 3)) (by decide +kernel) (by decide +kernel)
  · intro d a b L M Q; exact Wp_sim (by decide +kernel : decode (cd 149) 150 = .ok (.iconst 4, 1)) rfl rfl
  · intro d a b c L M Q; exact q_ald (by decide +kernel : decode (cd 149) 151 = .ok (.iaload , 1))
  · intro d a b L M Q; exact q_ige (by decide +kernel : decode (cd 149) 152 = .ok (.if_icmp .ge 75, 3)) (by decide)
  · intro d x L M Q; exact Wp_sim (by decide +kernel : decode (cd 149) 155 = .ok (.aload_n 0, 1)) rfl rfl
  · intro d a L M Q; exact q_getR (p := 845) (by decide +kernel : decode (cd 149) 156 = .ok (.getfield 16, 3)) (by decide +kernel) (by decide +kernel)
  · intro d a L M Q; exact Wp_sim (by decide +kernel : decode (cd 149) 159 = .ok (.iconst 0, 1)) rfl rfl
  · intro d a b v0 v1 x L M Q; exact Wp_sim (by decide +kernel : decode (cd 149) 160 = .ok (.iload_n 2, 1)) rfl rfl
  · intro d a b c L M Q; exact Wp_sim (by decide +kernel : decode (cd 149) 161 = .ok (.iadd , 1)) rfl rfl
  · intro d a b L M Q; exact q_ald (by decide +kernel : decode (cd 149) 162 = .ok (.iaload , 1))
  · intro d a L M Q; exact Wp_sim (by decide +kernel : decode (cd 149) 163 = .ok (.iconst 1, 1)) rfl rfl
  · intro d a b L M Q; exact q_ine (by decide +kernel : decode (cd 149) 164 = .ok (.if_icmp .ne 19, 3)) (by decide)
  · intro d x L M Q; exact Wp_sim (by decide +kernel : decode (cd 149) 167 = .ok (.aload_n 0, 1)) rfl rfl
  · intro d a L M Q; exact q_getR (p := 845) (by decide +kernel : decode (cd 149) 168 = .ok (.getfield 16, 3)) (by decide +kernel) (by decide +kernel)
  · intro d a L M Q; exact Wp_sim (by decide +kernel : decode (cd 149) 171 = .ok (.bipush 6, 2)) rfl rfl
  · intro d a b v0 v1 x L M Q; exact Wp_sim (by decide +kernel : decode (cd 149) 173 = .ok (.iload_n 2, 1)) rfl rfl
  · intro d a b c L M Q; exact Wp_sim (by decide +kernel : decode (cd 149) 174 = .ok (.iadd , 1)) rfl rfl
  · intro d a b L M Q; exact q_ald (by decide +kernel : decode (cd 149) 175 = .ok (.iaload , 1))
  · intro d a L M Q; exact q_zge (by decide +kernel : decode (cd 149) 176 = .ok (.ifCond .ge 7, 3)) (by decide)
  · intro d L M Q; exact Wp_sim (by decide +kernel : decode (cd 149) 179 = .ok (.iconst 1, 1)) rfl rfl
  · intro d a L M Q; exact q_goto (by decide +kernel : decode (cd 149) 180 = .ok (.goto 4, 3)) (by decide)
  · intro d L M Q; exact Wp_sim (by decide +kernel : decode (cd 149) 183 = .ok (.iconst 0, 1)) rfl rfl
  · intro d a v0 v1 v2 x L M Q; exact Wp_sim (by decide +kernel : decode (cd 149) 184 = .ok (.istore_n 3, 1)) rfl rfl
  · intro d x L M Q; exact Wp_sim (by decide +kernel : decode (cd 149) 185 = .ok (.aload_n 0, 1)) rfl rfl
  · intro d a L M Q; exact q_getR (p := 845) (by decide +kernel : decode (cd 149) 186 = .ok (.getfield 16, 3)) (by decide +kernel) (by decide +kernel)
  · intro d a L M Q; exact Wp_sim (by decide +kernel : decode (cd 149) 189 = .ok (.iconst 0, 1)) rfl rfl
  · intro d a b v0 v1 x L M Q; exact Wp_sim (by decide +kernel : decode (cd 149) 190 = .ok (.iload_n 2, 1)) rfl rfl
  · intro d a b c L M Q; exact Wp_sim (by decide +kernel : decode (cd 149) 191 = .ok (.iadd , 1)) rfl rfl
  · intro d a b v0 x L M Q; exact Wp_sim (by decide +kernel : decode (cd 149) 192 = .ok (.iload_n 1, 1)) rfl rfl
  · intro d a b c v0 v1 x L M Q; exact Wp_sim (by decide +kernel : decode (cd 149) 193 = .ok (.iload_n 2, 1)) rfl rfl
  · intro d a b c d2 L M Q; exact q_invS (pz := 1007) (n := 2) (m := 2) (As := [.int b, .int a]) (rest := [.int c, .ref d2]) (by decide +kernel : decode (cd 149) 194 = .ok (.invokestatic 154, 3)) (by decide +kernel) (by decide +kernel) (by decide +kernel) rfl rfl (Nat.le_of_ble_eq_true rfl) (Nat.le_of_ble_eq_true rfl) rfl
  · intro d a b c L M Q; exact q_zeq (by decide +kernel : decode (cd 149) 197 = .ok (.ifCond .eq 7, 3)) (by decide)
  · intro d a b L M Q; exact Wp_sim (by decide +kernel : decode (cd 149) 200 = .ok (.iconst 2, 1)) rfl rfl
  · intro d a b c L M Q; exact q_goto (by decide +kernel : decode (cd 149) 201 = .ok (.goto 19, 3)) (by decide)
set_option maxRecDepth 10000 in
theorem e149_2 : (∀ (d : Nat) (a : Int32) (b : Nat) (v0 : Value) (v1 : Value) (v2 : Value) (x : Int32) (L : List Value) (M : Mem) (Q : Option Value → Mem → Prop), Wp d 149 204 (v0 :: v1 :: v2 :: .int x :: L) [.int a, .ref b] M Q ↔ Wp d 149 205 (v0 :: v1 :: v2 :: .int x :: L) [.int x, .int a, .ref b] M Q) ∧
    (∀ (d : Nat) (a : Int32) (b : Int32) (c : Nat) (L : List Value) (M : Mem) (Q : Option Value → Mem → Prop), Wp d 149 205 L [.int a, .int b, .ref c] M Q ↔ (if a = 0 then Wp d 149 212 L [.int b, .ref c] M Q else Wp d 149 208 L [.int b, .ref c] M Q)) ∧
    (∀ (d : Nat) (a : Int32) (b : Nat) (L : List Value) (M : Mem) (Q : Option Value → Mem → Prop), Wp d 149 208 L [.int a, .ref b] M Q ↔ Wp d 149 209 L [.int 0, .int a, .ref b] M Q) ∧
    (∀ (d : Nat) (a : Int32) (b : Int32) (c : Nat) (L : List Value) (M : Mem) (Q : Option Value → Mem → Prop), Wp d 149 209 L [.int a, .int b, .ref c] M Q ↔ Wp d 149 220 L [.int a, .int b, .ref c] M Q) ∧
    (∀ (d : Nat) (a : Int32) (b : Nat) (x : Nat) (L : List Value) (M : Mem) (Q : Option Value → Mem → Prop), Wp d 149 212 (.ref x :: L) [.int a, .ref b] M Q ↔ Wp d 149 213 (.ref x :: L) [.ref x, .int a, .ref b] M Q) ∧
    (∀ (d : Nat) (a : Nat) (b : Int32) (c : Nat) (L : List Value) (M : Mem) (Q : Option Value → Mem → Prop), Wp d 149 213 L [.ref a, .int b, .ref c] M Q ↔ (isK a 12 = true ∧ Wp d 149 216 L [.ref (rt a 2), .int b, .ref c] M Q)) ∧
    (∀ (d : Nat) (a : Nat) (b : Int32) (c : Nat) (L : List Value) (M : Mem) (Q : Option Value → Mem → Prop), Wp d 149 216 L [.ref a, .int b, .ref c] M Q ↔ Wp d 149 217 L [.int 0, .ref a, .int b, .ref c] M Q) ∧
    (∀ (d : Nat) (a : Int32) (b : Nat) (c : Int32) (d2 : Nat) (v0 : Value) (v1 : Value) (x : Int32) (L : List Value) (M : Mem) (Q : Option Value → Mem → Prop), Wp d 149 217 (v0 :: v1 :: .int x :: L) [.int a, .ref b, .int c, .ref d2] M Q ↔ Wp d 149 218 (v0 :: v1 :: .int x :: L) [.int x, .int a, .ref b, .int c, .ref d2] M Q) ∧
    (∀ (d : Nat) (a : Int32) (b : Int32) (c : Nat) (d2 : Int32) (e : Nat) (L : List Value) (M : Mem) (Q : Option Value → Mem → Prop), Wp d 149 218 L [.int a, .int b, .ref c, .int d2, .ref e] M Q ↔ Wp d 149 219 L [.int (b + a), .ref c, .int d2, .ref e] M Q) ∧
    (∀ (d : Nat) (a : Int32) (b : Nat) (c : Int32) (d2 : Nat) (L : List Value) (M : Mem) (Q : Option Value → Mem → Prop), Wp d 149 219 L [.int a, .ref b, .int c, .ref d2] M Q ↔ ((isR b = true ∧ inr a (lnm M b)) ∧ Wp d 149 220 L [.int (M b a.toNatClampNeg), .int c, .ref d2] M Q)) ∧
    (∀ (d : Nat) (a : Int32) (b : Int32) (c : Nat) (L : List Value) (M : Mem) (Q : Option Value → Mem → Prop), Wp d 149 220 L [.int a, .int b, .ref c] M Q ↔ ((isK c 13 = true ∧ inr b (lnm M c)) ∧ Wp d 149 221 L [] (up2 M c b.toNatClampNeg a) Q)) ∧
    (∀ (d : Nat) (v0 : Value) (v1 : Value) (x : Int32) (L : List Value) (M : Mem) (Q : Option Value → Mem → Prop), Wp d 149 221 (v0 :: v1 :: .int x :: L) [] M Q ↔ Wp d 149 224 (v0 :: clr v1 :: .int (x + 1) :: L) [] M Q) ∧
    (∀ (d : Nat) (L : List Value) (M : Mem) (Q : Option Value → Mem → Prop), Wp d 149 224 L [] M Q ↔ Wp d 149 145 L [] M Q) ∧
    (∀ (d : Nat) (x : Nat) (L : List Value) (M : Mem) (Q : Option Value → Mem → Prop), Wp d 149 227 (.ref x :: L) [] M Q ↔ Wp d 149 228 (.ref x :: L) [.ref x] M Q) ∧
    (∀ (d : Nat) (a : Nat) (L : List Value) (M : Mem) (Q : Option Value → Mem → Prop), Wp d 149 228 L [.ref a] M Q ↔ (isK a 12 = true ∧ Wp d 149 231 L [.ref (rt a 2)] M Q)) ∧
    (∀ (d : Nat) (a : Nat) (L : List Value) (M : Mem) (Q : Option Value → Mem → Prop), Wp d 149 231 L [.ref a] M Q ↔ Wp d 149 233 L [.int 48, .ref a] M Q) ∧
    (∀ (d : Nat) (a : Int32) (b : Nat) (L : List Value) (M : Mem) (Q : Option Value → Mem → Prop), Wp d 149 233 L [.int a, .ref b] M Q ↔ Wp d 149 234 L [.int a, .ref b, .int a, .ref b] M Q) ∧
    (∀ (d : Nat) (a : Int32) (b : Nat) (c : Int32) (d2 : Nat) (L : List Value) (M : Mem) (Q : Option Value → Mem → Prop), Wp d 149 234 L [.int a, .ref b, .int c, .ref d2] M Q ↔ ((isR b = true ∧ inr a (lnm M b)) ∧ Wp d 149 235 L [.int (M b a.toNatClampNeg), .int c, .ref d2] M Q)) ∧
    (∀ (d : Nat) (a : Int32) (b : Int32) (c : Nat) (L : List Value) (M : Mem) (Q : Option Value → Mem → Prop), Wp d 149 235 L [.int a, .int b, .ref c] M Q ↔ Wp d 149 236 L [.int 1, .int a, .int b, .ref c] M Q) ∧
    (∀ (d : Nat) (a : Int32) (b : Int32) (c : Int32) (d2 : Nat) (L : List Value) (M : Mem) (Q : Option Value → Mem → Prop), Wp d 149 236 L [.int a, .int b, .int c, .ref d2] M Q ↔ Wp d 149 237 L [.int (b + a), .int c, .ref d2] M Q) ∧
    (∀ (d : Nat) (a : Int32) (b : Int32) (c : Nat) (L : List Value) (M : Mem) (Q : Option Value → Mem → Prop), Wp d 149 237 L [.int a, .int b, .ref c] M Q ↔ ((isK c 13 = true ∧ inr b (lnm M c)) ∧ Wp d 149 238 L [] (up2 M c b.toNatClampNeg a) Q)) ∧
    (∀ (d : Nat) (L : List Value) (M : Mem) (Q : Option Value → Mem → Prop), Wp d 149 238 L [] M Q ↔ Q none M) := by
  refine ⟨?_, ?_, ?_, ?_, ?_, ?_, ?_, ?_, ?_, ?_, ?_, ?_, ?_, ?_, ?_, ?_, ?_, ?_, ?_, ?_, ?_, ?_⟩
  · intro d a b v0 v1 v2 x L M Q; exact Wp_sim (by decide +kernel : decode (cd 149) 204 = .ok (.iload_n 3, 1)) rfl rfl
  · intro d a b c L M Q; exact q_zeq (by decide +kernel : decode (cd 149) 205 = .ok (.ifCond .eq 7, 3)) (by decide)
  · intro d a b L M Q; exact Wp_sim (by decide +kernel : decode (cd 149) 208 = .ok (.iconst 0, 1)) rfl rfl
  · intro d a b c L M Q; exact q_goto (by decide +kernel : decode (cd 149) 209 = .ok (.goto 11, 3)) (by decide)
  · intro d a b x L M Q; exact Wp_sim (by decide +kernel : decode (cd 149) 212 = .ok (.aload_n 0, 1)) rfl rfl
  · intro d a b c L M Q; exact q_getR (p := 845) (by decide +kernel : decode (cd 149) 213 = .ok (.getfield 16, 3)) (by decide +kernel) (by decide +kernel)
  · intro d a b c L M Q; exact Wp_sim (by decide +kernel : decode (cd 149) 216 = .ok (.iconst 0, 1)) rfl rfl
  · intro d a b c d2 v0 v1 x L M Q; exact Wp_sim (by decide +kernel : decode (cd 149) 217 = .ok (.iload_n 2, 1)) rfl rfl
  · intro d a b c d2 e L M Q; exact Wp_sim (by decide +kernel : decode (cd 149) 218 = .ok (.iadd , 1)) rfl rfl
  · intro d a b c d2 L M Q; exact q_ald (by decide +kernel : decode (cd 149) 219 = .ok (.iaload , 1))
  · intro d a b c L M Q; exact q_ast (by decide +kernel : decode (cd 149) 220 = .ok (.iastore , 1))
  · intro d v0 v1 x L M Q; exact Wp_sim (by decide +kernel : decode (cd 149) 221 = .ok (.iinc 2 1, 3)) rfl rfl
  · intro d L M Q; exact q_goto (by decide +kernel : decode (cd 149) 224 = .ok (.goto (-79), 3)) (by decide)
  · intro d x L M Q; exact Wp_sim (by decide +kernel : decode (cd 149) 227 = .ok (.aload_n 0, 1)) rfl rfl
  · intro d a L M Q; exact q_getR (p := 845) (by decide +kernel : decode (cd 149) 228 = .ok (.getfield 16, 3)) (by decide +kernel) (by decide +kernel)
  · intro d a L M Q; exact Wp_sim (by decide +kernel : decode (cd 149) 231 = .ok (.bipush 48, 2)) rfl rfl
  · intro d a b L M Q; exact Wp_sim (by decide +kernel : decode (cd 149) 233 = .ok (.dup2 , 1)) rfl rfl
  · intro d a b c d2 L M Q; exact q_ald (by decide +kernel : decode (cd 149) 234 = .ok (.iaload , 1))
  · intro d a b c L M Q; exact Wp_sim (by decide +kernel : decode (cd 149) 235 = .ok (.iconst 1, 1)) rfl rfl
  · intro d a b c d2 L M Q; exact Wp_sim (by decide +kernel : decode (cd 149) 236 = .ok (.iadd , 1)) rfl rfl
  · intro d a b c L M Q; exact q_ast (by decide +kernel : decode (cd 149) 237 = .ok (.iastore , 1))
  · intro d L M Q; exact q_vret (by decide +kernel : decode (cd 149) 238 = .ok (.return_ , 1)) (by decide +kernel)
theorem h149_2 : (∀ (d : Nat) (v0 : Value) (x : Int32) (L : List Value) (M : Mem) (Q : Option Value → Mem → Prop), Wp d 149 2 (v0 :: .int x :: L) [] M Q ↔ Wp d 149 3 (v0 :: .int x :: L) [.int x] M Q) := by
  intro d v0 x L M Q; exact Wp_sim (by decide +kernel : decode (cd 149) 2 = .ok (.iload_n 1, 1)) rfl rfl
theorem h149_145 : (∀ (d : Nat) (v0 : Value) (v1 : Value) (x : Int32) (L : List Value) (M : Mem) (Q : Option Value → Mem → Prop), Wp d 149 145 (v0 :: v1 :: .int x :: L) [] M Q ↔ Wp d 149 146 (v0 :: v1 :: .int x :: L) [.int x] M Q) := by
  intro d v0 v1 x L M Q; exact Wp_sim (by decide +kernel : decode (cd 149) 145 = .ok (.iload_n 2, 1)) rfl rfl
