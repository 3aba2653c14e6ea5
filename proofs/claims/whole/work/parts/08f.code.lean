/-! part 08f: the instructions of the methods 197 to 197 -/
/- 197: PalaceYardLaw.law -/
set_option maxRecDepth 10000 in
theorem e197_0 : (∀ (d : Nat) (a : Nat) (L : List Value) (M : Mem) (Q : Option Value → Mem → Prop), Wp d 197 3 L [.ref a] M Q ↔ Wp d 197 4 L [.ref a, .ref a] M Q) ∧
    (∀ (d : Nat) (a : Nat) (v0 : Value) (x : Value) (L : List Value) (M : Mem) (Q : Option Value → Mem → Prop), Wp d 197 7 (v0 :: x :: L) [.ref a] M Q ↔ Wp d 197 8 (clr v0 :: .ref a :: L) [] M Q) ∧
    (∀ (d : Nat) (a : Nat) (L : List Value) (M : Mem) (Q : Option Value → Mem → Prop), Wp d 197 11 L [.ref a] M Q ↔ Wp d 197 12 L [.ref a, .ref a] M Q) ∧
    (∀ (d : Nat) (a : Nat) (v0 : Value) (v1 : Value) (x : Value) (L : List Value) (M : Mem) (Q : Option Value → Mem → Prop), Wp d 197 15 (v0 :: v1 :: x :: L) [.ref a] M Q ↔ Wp d 197 16 (v0 :: clr v1 :: .ref a :: L) [] M Q) ∧
    (∀ (d : Nat) (L : List Value) (M : Mem) (Q : Option Value → Mem → Prop), Wp d 197 16 L [] M Q ↔ Wp d 197 17 L [.int 0] M Q) ∧
    (∀ (d : Nat) (a : Int32) (v0 : Value) (v1 : Value) (v2 : Value) (x : Value) (L : List Value) (M : Mem) (Q : Option Value → Mem → Prop), Wp d 197 17 (v0 :: v1 :: v2 :: x :: L) [.int a] M Q ↔ Wp d 197 18 (v0 :: v1 :: clr v2 :: .int a :: L) [] M Q) ∧
    (∀ (d : Nat) (a : Int32) (x : Nat) (L : List Value) (M : Mem) (Q : Option Value → Mem → Prop), Wp d 197 19 (.ref x :: L) [.int a] M Q ↔ Wp d 197 20 (.ref x :: L) [.ref x, .int a] M Q) ∧
    (∀ (d : Nat) (a : Nat) (b : Int32) (L : List Value) (M : Mem) (Q : Option Value → Mem → Prop), Wp d 197 20 L [.ref a, .int b] M Q ↔ ((isR a = true ∨ isK a 14 = true) ∧ Wp d 197 21 L [.int (nI (lnm M a)), .int b] M Q)) ∧
    (∀ (d : Nat) (a : Int32) (b : Int32) (L : List Value) (M : Mem) (Q : Option Value → Mem → Prop), Wp d 197 21 L [.int a, .int b] M Q ↔ Wp d 197 22 L [.int 4, .int a, .int b] M Q) ∧
    (∀ (d : Nat) (a : Int32) (b : Int32) (c : Int32) (L : List Value) (M : Mem) (Q : Option Value → Mem → Prop), Wp d 197 22 L [.int a, .int b, .int c] M Q ↔ Wp d 197 23 L [.int (b - a), .int c] M Q) ∧
    (∀ (d : Nat) (a : Int32) (b : Int32) (L : List Value) (M : Mem) (Q : Option Value → Mem → Prop), Wp d 197 23 L [.int a, .int b] M Q ↔ (if a < b then Wp d 197 1024 L [] M Q else Wp d 197 26 L [] M Q)) ∧
    (∀ (d : Nat) (x : Nat) (L : List Value) (M : Mem) (Q : Option Value → Mem → Prop), Wp d 197 26 (.ref x :: L) [] M Q ↔ Wp d 197 27 (.ref x :: L) [.ref x] M Q) ∧
    (∀ (d : Nat) (a : Nat) (v0 : Value) (v1 : Value) (v2 : Value) (x : Int32) (L : List Value) (M : Mem) (Q : Option Value → Mem → Prop), Wp d 197 27 (v0 :: v1 :: v2 :: .int x :: L) [.ref a] M Q ↔ Wp d 197 28 (v0 :: v1 :: v2 :: .int x :: L) [.int x, .ref a] M Q) ∧
    (∀ (d : Nat) (a : Int32) (b : Nat) (L : List Value) (M : Mem) (Q : Option Value → Mem → Prop), Wp d 197 28 L [.int a, .ref b] M Q ↔ ((isR b = true ∧ inr a (lnm M b)) ∧ Wp d 197 29 L [.int (M b a.toNatClampNeg)] M Q)) ∧
    (∀ (d : Nat) (a : Int32) (L : List Value) (M : Mem) (Q : Option Value → Mem → Prop), Wp d 197 29 L [.int a] M Q ↔ Wp d 197 31 L [.int 31, .int a] M Q) ∧
    (∀ (d : Nat) (a : Int32) (b : Int32) (L : List Value) (M : Mem) (Q : Option Value → Mem → Prop), Wp d 197 31 L [.int a, .int b] M Q ↔ Wp d 197 32 L [.int (b &&& a)] M Q) ∧
    (∀ (d : Nat) (a : Int32) (L : List Value) (M : Mem) (Q : Option Value → Mem → Prop), Wp d 197 32 L [.int a] M Q ↔ (if a = 0 then Wp d 197 176 L [] M Q else (if a = 1 then Wp d 197 199 L [] M Q else (if a = 2 then Wp d 197 212 L [] M Q else (if a = 3 then Wp d 197 225 L [] M Q else (if a = 4 then Wp d 197 248 L [] M Q else (if a = 5 then Wp d 197 281 L [] M Q else (if a = 6 then Wp d 197 314 L [] M Q else (if a = 7 then Wp d 197 347 L [] M Q else (if a = 8 then Wp d 197 380 L [] M Q else (if a = 9 then Wp d 197 403 L [] M Q else (if a = 10 then Wp d 197 426 L [] M Q else (if a = 11 then Wp d 197 449 L [] M Q else (if a = 12 then Wp d 197 472 L [] M Q else (if a = 13 then Wp d 197 515 L [] M Q else (if a = 14 then Wp d 197 548 L [] M Q else (if a = 15 then Wp d 197 571 L [] M Q else (if a = 16 then Wp d 197 584 L [] M Q else (if a = 17 then Wp d 197 607 L [] M Q else (if a = 18 then Wp d 197 640 L [] M Q else (if a = 19 then Wp d 197 673 L [] M Q else (if a = 20 then Wp d 197 706 L [] M Q else (if a = 21 then Wp d 197 739 L [] M Q else (if a = 22 then Wp d 197 772 L [] M Q else (if a = 23 then Wp d 197 805 L [] M Q else (if a = 24 then Wp d 197 854 L [] M Q else (if a = 25 then Wp d 197 877 L [] M Q else (if a = 26 then Wp d 197 890 L [] M Q else (if a = 27 then Wp d 197 923 L [] M Q else (if a = 28 then Wp d 197 936 L [] M Q else (if a = 29 then Wp d 197 949 L [] M Q else (if a = 30 then Wp d 197 972 L [] M Q else (if a = 31 then Wp d 197 995 L [] M Q else Wp d 197 1018 L [] M Q))))))))))))))))))))))))))))))))) ∧
    (∀ (d : Nat) (v0 : Value) (x : Nat) (L : List Value) (M : Mem) (Q : Option Value → Mem → Prop), Wp d 197 176 (v0 :: .ref x :: L) [] M Q ↔ Wp d 197 177 (v0 :: .ref x :: L) [.ref x] M Q) ∧
    (∀ (d : Nat) (a : Nat) (x : Nat) (L : List Value) (M : Mem) (Q : Option Value → Mem → Prop), Wp d 197 177 (.ref x :: L) [.ref a] M Q ↔ Wp d 197 178 (.ref x :: L) [.ref x, .ref a] M Q) ∧
    (∀ (d : Nat) (a : Nat) (b : Nat) (v0 : Value) (v1 : Value) (v2 : Value) (x : Int32) (L : List Value) (M : Mem) (Q : Option Value → Mem → Prop), Wp d 197 178 (v0 :: v1 :: v2 :: .int x :: L) [.ref a, .ref b] M Q ↔ Wp d 197 179 (v0 :: v1 :: v2 :: .int x :: L) [.int x, .ref a, .ref b] M Q) ∧
    (∀ (d : Nat) (a : Int32) (b : Nat) (c : Nat) (L : List Value) (M : Mem) (Q : Option Value → Mem → Prop), Wp d 197 179 L [.int a, .ref b, .ref c] M Q ↔ Wp d 197 180 L [.int 1, .int a, .ref b, .ref c] M Q) ∧
    (∀ (d : Nat) (a : Int32) (b : Int32) (c : Nat) (d2 : Nat) (L : List Value) (M : Mem) (Q : Option Value → Mem → Prop), Wp d 197 180 L [.int a, .int b, .ref c, .ref d2] M Q ↔ Wp d 197 181 L [.int (b + a), .ref c, .ref d2] M Q) ∧
    (∀ (d : Nat) (a : Int32) (b : Nat) (c : Nat) (L : List Value) (M : Mem) (Q : Option Value → Mem → Prop), Wp d 197 181 L [.int a, .ref b, .ref c] M Q ↔ ((isR b = true ∧ inr a (lnm M b)) ∧ Wp d 197 182 L [.int (M b a.toNatClampNeg), .ref c] M Q)) ∧
    (∀ (d : Nat) (a : Int32) (b : Nat) (L : List Value) (M : Mem) (Q : Option Value → Mem → Prop), Wp (d + 1) 197 182 L [.int a, .ref b] M Q ↔ (isK b 11 = true ∧ Wp d 71 0 [.ref b, .int a] [] M (fun r M2 => Wp (d + 1) 197 185 L (r.toList ++ []) M2 Q))) ∧
    (∀ (d : Nat) (a : Int32) (v0 : Value) (v1 : Value) (x : Nat) (L : List Value) (M : Mem) (Q : Option Value → Mem → Prop), Wp d 197 185 (v0 :: v1 :: .ref x :: L) [.int a] M Q ↔ Wp d 197 186 (v0 :: v1 :: .ref x :: L) [.ref x, .int a] M Q) ∧
    (∀ (d : Nat) (a : Nat) (b : Int32) (x : Nat) (L : List Value) (M : Mem) (Q : Option Value → Mem → Prop), Wp d 197 186 (.ref x :: L) [.ref a, .int b] M Q ↔ Wp d 197 187 (.ref x :: L) [.ref x, .ref a, .int b] M Q) ∧
    (∀ (d : Nat) (a : Nat) (b : Nat) (c : Int32) (v0 : Value) (v1 : Value) (v2 : Value) (x : Int32) (L : List Value) (M : Mem) (Q : Option Value → Mem → Prop), Wp d 197 187 (v0 :: v1 :: v2 :: .int x :: L) [.ref a, .ref b, .int c] M Q ↔ Wp d 197 188 (v0 :: v1 :: v2 :: .int x :: L) [.int x, .ref a, .ref b, .int c] M Q) ∧
    (∀ (d : Nat) (a : Int32) (b : Nat) (c : Nat) (d2 : Int32) (L : List Value) (M : Mem) (Q : Option Value → Mem → Prop), Wp d 197 188 L [.int a, .ref b, .ref c, .int d2] M Q ↔ Wp d 197 189 L [.int 1, .int a, .ref b, .ref c, .int d2] M Q) ∧
    (∀ (d : Nat) (a : Int32) (b : Int32) (c : Nat) (d2 : Nat) (e : Int32) (L : List Value) (M : Mem) (Q : Option Value → Mem → Prop), Wp d 197 189 L [.int a, .int b, .ref c, .ref d2, .int e] M Q ↔ Wp d 197 190 L [.int (b + a), .ref c, .ref d2, .int e] M Q) ∧
    (∀ (d : Nat) (a : Int32) (b : Nat) (c : Nat) (d2 : Int32) (L : List Value) (M : Mem) (Q : Option Value → Mem → Prop), Wp d 197 190 L [.int a, .ref b, .ref c, .int d2] M Q ↔ ((isR b = true ∧ inr a (lnm M b)) ∧ Wp d 197 191 L [.int (M b a.toNatClampNeg), .ref c, .int d2] M Q)) ∧
    (∀ (d : Nat) (a : Int32) (b : Nat) (c : Int32) (L : List Value) (M : Mem) (Q : Option Value → Mem → Prop), Wp (d + 1) 197 191 L [.int a, .ref b, .int c] M Q ↔ (isK b 12 = true ∧ Wp d 111 0 [.ref b, .int a] [] M (fun r M2 => Wp (d + 1) 197 194 L (r.toList ++ [.int c]) M2 Q))) ∧
    (∀ (d : Nat) (a : Int32) (b : Int32) (L : List Value) (M : Mem) (Q : Option Value → Mem → Prop), Wp d 197 194 L [.int a, .int b] M Q ↔ (if b = a then Wp d 197 1018 L [] M Q else Wp d 197 197 L [] M Q)) ∧
    (∀ (d : Nat) (L : List Value) (M : Mem) (Q : Option Value → Mem → Prop), Wp d 197 197 L [] M Q ↔ Wp d 197 198 L [.int 0] M Q) ∧
    (∀ (d : Nat) (a : Int32) (L : List Value) (M : Mem) (Q : Option Value → Mem → Prop), Wp d 197 198 L [.int a] M Q ↔ ((a = 0 ∨ a = 1) ∧ Q (some (.int a)) M)) ∧
    (∀ (d : Nat) (v0 : Value) (x : Nat) (L : List Value) (M : Mem) (Q : Option Value → Mem → Prop), Wp d 197 199 (v0 :: .ref x :: L) [] M Q ↔ Wp d 197 200 (v0 :: .ref x :: L) [.ref x] M Q) ∧
    (∀ (d : Nat) (a : Nat) (L : List Value) (M : Mem) (Q : Option Value → Mem → Prop), Wp (d + 1) 197 200 L [.ref a] M Q ↔ (isK a 11 = true ∧ Wp d 72 0 [.ref a, .null] [] M (fun r M2 => Wp (d + 1) 197 203 L (r.toList ++ []) M2 Q))) ∧
    (∀ (d : Nat) (a : Int32) (v0 : Value) (v1 : Value) (x : Nat) (L : List Value) (M : Mem) (Q : Option Value → Mem → Prop), Wp d 197 203 (v0 :: v1 :: .ref x :: L) [.int a] M Q ↔ Wp d 197 204 (v0 :: v1 :: .ref x :: L) [.ref x, .int a] M Q) ∧
    (∀ (d : Nat) (a : Nat) (b : Int32) (L : List Value) (M : Mem) (Q : Option Value → Mem → Prop), Wp (d + 1) 197 204 L [.ref a, .int b] M Q ↔ (isK a 12 = true ∧ Wp d 113 0 [.ref a, .null] [] M (fun r M2 => Wp (d + 1) 197 207 L (r.toList ++ [.int b]) M2 Q))) ∧
    (∀ (d : Nat) (a : Int32) (b : Int32) (L : List Value) (M : Mem) (Q : Option Value → Mem → Prop), Wp d 197 207 L [.int a, .int b] M Q ↔ (if b = a then Wp d 197 1018 L [] M Q else Wp d 197 210 L [] M Q)) ∧
    (∀ (d : Nat) (L : List Value) (M : Mem) (Q : Option Value → Mem → Prop), Wp d 197 210 L [] M Q ↔ Wp d 197 211 L [.int 0] M Q) ∧
    (∀ (d : Nat) (a : Int32) (L : List Value) (M : Mem) (Q : Option Value → Mem → Prop), Wp d 197 211 L [.int a] M Q ↔ ((a = 0 ∨ a = 1) ∧ Q (some (.int a)) M)) ∧
    (∀ (d : Nat) (v0 : Value) (x : Nat) (L : List Value) (M : Mem) (Q : Option Value → Mem → Prop), Wp d 197 212 (v0 :: .ref x :: L) [] M Q ↔ Wp d 197 213 (v0 :: .ref x :: L) [.ref x] M Q) ∧
    (∀ (d : Nat) (a : Nat) (L : List Value) (M : Mem) (Q : Option Value → Mem → Prop), Wp (d + 1) 197 213 L [.ref a] M Q ↔ (isK a 11 = true ∧ Wp d 73 0 [.ref a] [] M (fun r M2 => Wp (d + 1) 197 216 L (r.toList ++ []) M2 Q))) ∧
    (∀ (d : Nat) (a : Int32) (v0 : Value) (v1 : Value) (x : Nat) (L : List Value) (M : Mem) (Q : Option Value → Mem → Prop), Wp d 197 216 (v0 :: v1 :: .ref x :: L) [.int a] M Q ↔ Wp d 197 217 (v0 :: v1 :: .ref x :: L) [.ref x, .int a] M Q) ∧
    (∀ (d : Nat) (a : Nat) (b : Int32) (L : List Value) (M : Mem) (Q : Option Value → Mem → Prop), Wp (d + 1) 197 217 L [.ref a, .int b] M Q ↔ (isK a 12 = true ∧ Wp d 125 0 [.ref a] [] M (fun r M2 => Wp (d + 1) 197 220 L (r.toList ++ [.int b]) M2 Q))) ∧
    (∀ (d : Nat) (a : Int32) (b : Int32) (L : List Value) (M : Mem) (Q : Option Value → Mem → Prop), Wp d 197 220 L [.int a, .int b] M Q ↔ (if b = a then Wp d 197 1018 L [] M Q else Wp d 197 223 L [] M Q)) ∧
    (∀ (d : Nat) (L : List Value) (M : Mem) (Q : Option Value → Mem → Prop), Wp d 197 223 L [] M Q ↔ Wp d 197 224 L [.int 0] M Q) ∧
    (∀ (d : Nat) (a : Int32) (L : List Value) (M : Mem) (Q : Option Value → Mem → Prop), Wp d 197 224 L [.int a] M Q ↔ ((a = 0 ∨ a = 1) ∧ Q (some (.int a)) M)) ∧
    (∀ (d : Nat) (v0 : Value) (x : Nat) (L : List Value) (M : Mem) (Q : Option Value → Mem → Prop), Wp d 197 225 (v0 :: .ref x :: L) [] M Q ↔ Wp d 197 226 (v0 :: .ref x :: L) [.ref x] M Q) ∧
    (∀ (d : Nat) (a : Nat) (x : Nat) (L : List Value) (M : Mem) (Q : Option Value → Mem → Prop), Wp d 197 226 (.ref x :: L) [.ref a] M Q ↔ Wp d 197 227 (.ref x :: L) [.ref x, .ref a] M Q) ∧
    (∀ (d : Nat) (a : Nat) (b : Nat) (v0 : Value) (v1 : Value) (v2 : Value) (x : Int32) (L : List Value) (M : Mem) (Q : Option Value → Mem → Prop), Wp d 197 227 (v0 :: v1 :: v2 :: .int x :: L) [.ref a, .ref b] M Q ↔ Wp d 197 228 (v0 :: v1 :: v2 :: .int x :: L) [.int x, .ref a, .ref b] M Q) ∧
    (∀ (d : Nat) (a : Int32) (b : Nat) (c : Nat) (L : List Value) (M : Mem) (Q : Option Value → Mem → Prop), Wp d 197 228 L [.int a, .ref b, .ref c] M Q ↔ Wp d 197 229 L [.int 1, .int a, .ref b, .ref c] M Q) ∧
    (∀ (d : Nat) (a : Int32) (b : Int32) (c : Nat) (d2 : Nat) (L : List Value) (M : Mem) (Q : Option Value → Mem → Prop), Wp d 197 229 L [.int a, .int b, .ref c, .ref d2] M Q ↔ Wp d 197 230 L [.int (b + a), .ref c, .ref d2] M Q) ∧
    (∀ (d : Nat) (a : Int32) (b : Nat) (c : Nat) (L : List Value) (M : Mem) (Q : Option Value → Mem → Prop), Wp d 197 230 L [.int a, .ref b, .ref c] M Q ↔ ((isR b = true ∧ inr a (lnm M b)) ∧ Wp d 197 231 L [.int (M b a.toNatClampNeg), .ref c] M Q)) ∧
    (∀ (d : Nat) (a : Int32) (b : Nat) (L : List Value) (M : Mem) (Q : Option Value → Mem → Prop), Wp (d + 1) 197 231 L [.int a, .ref b] M Q ↔ (isK b 11 = true ∧ Wp d 74 0 [.ref b, .int a] [] M (fun r M2 => Wp (d + 1) 197 234 L (r.toList ++ []) M2 Q))) ∧
    (∀ (d : Nat) (a : Int32) (v0 : Value) (v1 : Value) (x : Nat) (L : List Value) (M : Mem) (Q : Option Value → Mem → Prop), Wp d 197 234 (v0 :: v1 :: .ref x :: L) [.int a] M Q ↔ Wp d 197 235 (v0 :: v1 :: .ref x :: L) [.ref x, .int a] M Q) ∧
    (∀ (d : Nat) (a : Nat) (b : Int32) (x : Nat) (L : List Value) (M : Mem) (Q : Option Value → Mem → Prop), Wp d 197 235 (.ref x :: L) [.ref a, .int b] M Q ↔ Wp d 197 236 (.ref x :: L) [.ref x, .ref a, .int b] M Q) ∧
    (∀ (d : Nat) (a : Nat) (b : Nat) (c : Int32) (v0 : Value) (v1 : Value) (v2 : Value) (x : Int32) (L : List Value) (M : Mem) (Q : Option Value → Mem → Prop), Wp d 197 236 (v0 :: v1 :: v2 :: .int x :: L) [.ref a, .ref b, .int c] M Q ↔ Wp d 197 237 (v0 :: v1 :: v2 :: .int x :: L) [.int x, .ref a, .ref b, .int c] M Q) ∧
    (∀ (d : Nat) (a : Int32) (b : Nat) (c : Nat) (d2 : Int32) (L : List Value) (M : Mem) (Q : Option Value → Mem → Prop), Wp d 197 237 L [.int a, .ref b, .ref c, .int d2] M Q ↔ Wp d 197 238 L [.int 1, .int a, .ref b, .ref c, .int d2] M Q) ∧
    (∀ (d : Nat) (a : Int32) (b : Int32) (c : Nat) (d2 : Nat) (e : Int32) (L : List Value) (M : Mem) (Q : Option Value → Mem → Prop), Wp d 197 238 L [.int a, .int b, .ref c, .ref d2, .int e] M Q ↔ Wp d 197 239 L [.int (b + a), .ref c, .ref d2, .int e] M Q) := by
  refine ⟨?_, ?_, ?_, ?_, ?_, ?_, ?_, ?_, ?_, ?_, ?_, ?_, ?_, ?_, ?_, ?_, ?_, ?_, ?_, ?_, ?_, ?_, ?_, ?_, ?_, ?_, ?_, ?_, ?_, ?_, ?_, ?_, ?_, ?_, ?_, ?_, ?_, ?_, ?_, ?_, ?_, ?_, ?_, ?_, ?_, ?_, ?_, ?_, ?_, ?_, ?_, ?_, ?_, ?_, ?_, ?_, ?_, ?_, ?_, ?_⟩
  · intro d a L M Q; exact Wp_sim (by decide +kernel : decode (cd 197) 3 = .ok (.dup , 1)) rfl rfl
  · intro d a v0 x L M Q; exact Wp_sim (by decide +kernel : decode (cd 197) 7 = .ok (.astore_n 1, 1)) rfl rfl
  · intro d a L M Q; exact Wp_sim (by decide +kernel : decode (cd 197) 11 = .ok (.dup , 1)) rfl rfl
  · intro d a v0 v1 x L M Q; exact Wp_sim (by decide +kernel : decode (cd 197) 15 = .ok (.astore_n 2, 1)) rfl rfl
  · intro d L M Q; exact Wp_sim (by decide +kernel : decode (cd 197) 16 = .ok (.iconst 0, 1)) rfl rfl
  · intro d a v0 v1 v2 x L M Q; exact Wp_sim (by decide +kernel : decode (cd 197) 17 = .ok (.istore_n 3, 1)) rfl rfl
  · intro d a x L M Q; exact Wp_sim (by decide +kernel : decode (cd 197) 19 = .ok (.aload_n 0, 1)) rfl rfl
  · intro d a b L M Q; exact q_aln (by decide +kernel : decode (cd 197) 20 = .ok (.arraylength , 1))
  · intro d a b L M Q; exact Wp_sim (by decide +kernel : decode (cd 197) 21 = .ok (.iconst 4, 1)) rfl rfl
  · intro d a b c L M Q; exact Wp_sim (by decide +kernel : decode (cd 197) 22 = .ok (.isub , 1)) rfl rfl
  · intro d a b L M Q; exact q_igt (by decide +kernel : decode (cd 197) 23 = .ok (.if_icmp .gt 1001, 3)) (by decide)
  · intro d x L M Q; exact Wp_sim (by decide +kernel : decode (cd 197) 26 = .ok (.aload_n 0, 1)) rfl rfl
  · intro d a v0 v1 v2 x L M Q; exact Wp_sim (by decide +kernel : decode (cd 197) 27 = .ok (.iload_n 3, 1)) rfl rfl
  · intro d a b L M Q; exact q_ald (by decide +kernel : decode (cd 197) 28 = .ok (.iaload , 1))
  · intro d a L M Q; exact Wp_sim (by decide +kernel : decode (cd 197) 29 = .ok (.bipush 31, 2)) rfl rfl
  · intro d a b L M Q; exact Wp_sim (by decide +kernel : decode (cd 197) 31 = .ok (.iand , 1)) rfl rfl
  · intro d a L M Q
    by_cases h0 : a = 0
    · subst h0; rw [if_pos rfl]; exact q_tsw (by decide +kernel : decode (cd 197) 32 = .ok (.tableswitch 986 0 31 #[144, 167, 180, 193, 216, 249, 282, 315, 348, 371, 394, 417, 440, 483, 516, 539, 552, 575, 608, 641, 674, 707, 740, 773, 822, 845, 858, 891, 904, 917, 940, 963], 144)) (by decide) (by decide +kernel)
    rw [if_neg h0]
    by_cases h1 : a = 1
    · subst h1; rw [if_pos rfl]; exact q_tsw (by decide +kernel : decode (cd 197) 32 = .ok (.tableswitch 986 0 31 #[144, 167, 180, 193, 216, 249, 282, 315, 348, 371, 394, 417, 440, 483, 516, 539, 552, 575, 608, 641, 674, 707, 740, 773, 822, 845, 858, 891, 904, 917, 940, 963], 144)) (by decide) (by decide +kernel)
    rw [if_neg h1]
    by_cases h2 : a = 2
    · subst h2; rw [if_pos rfl]; exact q_tsw (by decide +kernel : decode (cd 197) 32 = .ok (.tableswitch 986 0 31 #[144, 167, 180, 193, 216, 249, 282, 315, 348, 371, 394, 417, 440, 483, 516, 539, 552, 575, 608, 641, 674, 707, 740, 773, 822, 845, 858, 891, 904, 917, 940, 963], 144)) (by decide) (by decide +kernel)
    rw [if_neg h2]
    by_cases h3 : a = 3
    · subst h3; rw [if_pos rfl]; exact q_tsw (by decide +kernel : decode (cd 197) 32 = .ok (.tableswitch 986 0 31 #[144, 167, 180, 193, 216, 249, 282, 315, 348, 371, 394, 417, 440, 483, 516, 539, 552, 575, 608, 641, 674, 707, 740, 773, 822, 845, 858, 891, 904, 917, 940, 963], 144)) (by decide) (by decide +kernel)
    rw [if_neg h3]
    by_cases h4 : a = 4
    · subst h4; rw [if_pos rfl]; exact q_tsw (by decide +kernel : decode (cd 197) 32 = .ok (.tableswitch 986 0 31 #[144, 167, 180, 193, 216, 249, 282, 315, 348, 371, 394, 417, 440, 483, 516, 539, 552, 575, 608, 641, 674, 707, 740, 773, 822, 845, 858, 891, 904, 917, 940, 963], 144)) (by decide) (by decide +kernel)
    rw [if_neg h4]
    by_cases h5 : a = 5
    · subst h5; rw [if_pos rfl]; exact q_tsw (by decide +kernel : decode (cd 197) 32 = .ok (.tableswitch 986 0 31 #[144, 167, 180, 193, 216, 249, 282, 315, 348, 371, 394, 417, 440, 483, 516, 539, 552, 575, 608, 641, 674, 707, 740, 773, 822, 845, 858, 891, 904, 917, 940, 963], 144)) (by decide) (by decide +kernel)
    rw [if_neg h5]
    by_cases h6 : a = 6
    · subst h6; rw [if_pos rfl]; exact q_tsw (by decide +kernel : decode (cd 197) 32 = .ok (.tableswitch 986 0 31 #[144, 167, 180, 193, 216, 249, 282, 315, 348, 371, 394, 417, 440, 483, 516, 539, 552, 575, 608, 641, 674, 707, 740, 773, 822, 845, 858, 891, 904, 917, 940, 963], 144)) (by decide) (by decide +kernel)
    rw [if_neg h6]
    by_cases h7 : a = 7
    · subst h7; rw [if_pos rfl]; exact q_tsw (by decide +kernel : decode (cd 197) 32 = .ok (.tableswitch 986 0 31 #[144, 167, 180, 193, 216, 249, 282, 315, 348, 371, 394, 417, 440, 483, 516, 539, 552, 575, 608, 641, 674, 707, 740, 773, 822, 845, 858, 891, 904, 917, 940, 963], 144)) (by decide) (by decide +kernel)
    rw [if_neg h7]
    by_cases h8 : a = 8
    · subst h8; rw [if_pos rfl]; exact q_tsw (by decide +kernel : decode (cd 197) 32 = .ok (.tableswitch 986 0 31 #[144, 167, 180, 193, 216, 249, 282, 315, 348, 371, 394, 417, 440, 483, 516, 539, 552, 575, 608, 641, 674, 707, 740, 773, 822, 845, 858, 891, 904, 917, 940, 963], 144)) (by decide) (by decide +kernel)
    rw [if_neg h8]
    by_cases h9 : a = 9
    · subst h9; rw [if_pos rfl]; exact q_tsw (by decide +kernel : decode (cd 197) 32 = .ok (.tableswitch 986 0 31 #[144, 167, 180, 193, 216, 249, 282, 315, 348, 371, 394, 417, 440, 483, 516, 539, 552, 575, 608, 641, 674, 707, 740, 773, 822, 845, 858, 891, 904, 917, 940, 963], 144)) (by decide) (by decide +kernel)
    rw [if_neg h9]
    by_cases h10 : a = 10
    · subst h10; rw [if_pos rfl]; exact q_tsw (by decide +kernel : decode (cd 197) 32 = .ok (.tableswitch 986 0 31 #[144, 167, 180, 193, 216, 249, 282, 315, 348, 371, 394, 417, 440, 483, 516, 539, 552, 575, 608, 641, 674, 707, 740, 773, 822, 845, 858, 891, 904, 917, 940, 963], 144)) (by decide) (by decide +kernel)
    rw [if_neg h10]
    by_cases h11 : a = 11
    · subst h11; rw [if_pos rfl]; exact q_tsw (by decide +kernel : decode (cd 197) 32 = .ok (.tableswitch 986 0 31 #[144, 167, 180, 193, 216, 249, 282, 315, 348, 371, 394, 417, 440, 483, 516, 539, 552, 575, 608, 641, 674, 707, 740, 773, 822, 845, 858, 891, 904, 917, 940, 963], 144)) (by decide) (by decide +kernel)
    rw [if_neg h11]
    by_cases h12 : a = 12
    · subst h12; rw [if_pos rfl]; exact q_tsw (by decide +kernel : decode (cd 197) 32 = .ok (.tableswitch 986 0 31 #[144, 167, 180, 193, 216, 249, 282, 315, 348, 371, 394, 417, 440, 483, 516, 539, 552, 575, 608, 641, 674, 707, 740, 773, 822, 845, 858, 891, 904, 917, 940, 963], 144)) (by decide) (by decide +kernel)
    rw [if_neg h12]
    by_cases h13 : a = 13
    · subst h13; rw [if_pos rfl]; exact q_tsw (by decide +kernel : decode (cd 197) 32 = .ok (.tableswitch 986 0 31 #[144, 167, 180, 193, 216, 249, 282, 315, 348, 371, 394, 417, 440, 483, 516, 539, 552, 575, 608, 641, 674, 707, 740, 773, 822, 845, 858, 891, 904, 917, 940, 963], 144)) (by decide) (by decide +kernel)
    rw [if_neg h13]
    by_cases h14 : a = 14
    · subst h14; rw [if_pos rfl]; exact q_tsw (by decide +kernel : decode (cd 197) 32 = .ok (.tableswitch 986 0 31 #[144, 167, 180, 193, 216, 249, 282, 315, 348, 371, 394, 417, 440, 483, 516, 539, 552, 575, 608, 641, 674, 707, 740, 773, 822, 845, 858, 891, 904, 917, 940, 963], 144)) (by decide) (by decide +kernel)
    rw [if_neg h14]
    by_cases h15 : a = 15
    · subst h15; rw [if_pos rfl]; exact q_tsw (by decide +kernel : decode (cd 197) 32 = .ok (.tableswitch 986 0 31 #[144, 167, 180, 193, 216, 249, 282, 315, 348, 371, 394, 417, 440, 483, 516, 539, 552, 575, 608, 641, 674, 707, 740, 773, 822, 845, 858, 891, 904, 917, 940, 963], 144)) (by decide) (by decide +kernel)
    rw [if_neg h15]
    by_cases h16 : a = 16
    · subst h16; rw [if_pos rfl]; exact q_tsw (by decide +kernel : decode (cd 197) 32 = .ok (.tableswitch 986 0 31 #[144, 167, 180, 193, 216, 249, 282, 315, 348, 371, 394, 417, 440, 483, 516, 539, 552, 575, 608, 641, 674, 707, 740, 773, 822, 845, 858, 891, 904, 917, 940, 963], 144)) (by decide) (by decide +kernel)
    rw [if_neg h16]
    by_cases h17 : a = 17
    · subst h17; rw [if_pos rfl]; exact q_tsw (by decide +kernel : decode (cd 197) 32 = .ok (.tableswitch 986 0 31 #[144, 167, 180, 193, 216, 249, 282, 315, 348, 371, 394, 417, 440, 483, 516, 539, 552, 575, 608, 641, 674, 707, 740, 773, 822, 845, 858, 891, 904, 917, 940, 963], 144)) (by decide) (by decide +kernel)
    rw [if_neg h17]
    by_cases h18 : a = 18
    · subst h18; rw [if_pos rfl]; exact q_tsw (by decide +kernel : decode (cd 197) 32 = .ok (.tableswitch 986 0 31 #[144, 167, 180, 193, 216, 249, 282, 315, 348, 371, 394, 417, 440, 483, 516, 539, 552, 575, 608, 641, 674, 707, 740, 773, 822, 845, 858, 891, 904, 917, 940, 963], 144)) (by decide) (by decide +kernel)
    rw [if_neg h18]
    by_cases h19 : a = 19
    · subst h19; rw [if_pos rfl]; exact q_tsw (by decide +kernel : decode (cd 197) 32 = .ok (.tableswitch 986 0 31 #[144, 167, 180, 193, 216, 249, 282, 315, 348, 371, 394, 417, 440, 483, 516, 539, 552, 575, 608, 641, 674, 707, 740, 773, 822, 845, 858, 891, 904, 917, 940, 963], 144)) (by decide) (by decide +kernel)
    rw [if_neg h19]
    by_cases h20 : a = 20
    · subst h20; rw [if_pos rfl]; exact q_tsw (by decide +kernel : decode (cd 197) 32 = .ok (.tableswitch 986 0 31 #[144, 167, 180, 193, 216, 249, 282, 315, 348, 371, 394, 417, 440, 483, 516, 539, 552, 575, 608, 641, 674, 707, 740, 773, 822, 845, 858, 891, 904, 917, 940, 963], 144)) (by decide) (by decide +kernel)
    rw [if_neg h20]
    by_cases h21 : a = 21
    · subst h21; rw [if_pos rfl]; exact q_tsw (by decide +kernel : decode (cd 197) 32 = .ok (.tableswitch 986 0 31 #[144, 167, 180, 193, 216, 249, 282, 315, 348, 371, 394, 417, 440, 483, 516, 539, 552, 575, 608, 641, 674, 707, 740, 773, 822, 845, 858, 891, 904, 917, 940, 963], 144)) (by decide) (by decide +kernel)
    rw [if_neg h21]
    by_cases h22 : a = 22
    · subst h22; rw [if_pos rfl]; exact q_tsw (by decide +kernel : decode (cd 197) 32 = .ok (.tableswitch 986 0 31 #[144, 167, 180, 193, 216, 249, 282, 315, 348, 371, 394, 417, 440, 483, 516, 539, 552, 575, 608, 641, 674, 707, 740, 773, 822, 845, 858, 891, 904, 917, 940, 963], 144)) (by decide) (by decide +kernel)
    rw [if_neg h22]
    by_cases h23 : a = 23
    · subst h23; rw [if_pos rfl]; exact q_tsw (by decide +kernel : decode (cd 197) 32 = .ok (.tableswitch 986 0 31 #[144, 167, 180, 193, 216, 249, 282, 315, 348, 371, 394, 417, 440, 483, 516, 539, 552, 575, 608, 641, 674, 707, 740, 773, 822, 845, 858, 891, 904, 917, 940, 963], 144)) (by decide) (by decide +kernel)
    rw [if_neg h23]
    by_cases h24 : a = 24
    · subst h24; rw [if_pos rfl]; exact q_tsw (by decide +kernel : decode (cd 197) 32 = .ok (.tableswitch 986 0 31 #[144, 167, 180, 193, 216, 249, 282, 315, 348, 371, 394, 417, 440, 483, 516, 539, 552, 575, 608, 641, 674, 707, 740, 773, 822, 845, 858, 891, 904, 917, 940, 963], 144)) (by decide) (by decide +kernel)
    rw [if_neg h24]
    by_cases h25 : a = 25
    · subst h25; rw [if_pos rfl]; exact q_tsw (by decide +kernel : decode (cd 197) 32 = .ok (.tableswitch 986 0 31 #[144, 167, 180, 193, 216, 249, 282, 315, 348, 371, 394, 417, 440, 483, 516, 539, 552, 575, 608, 641, 674, 707, 740, 773, 822, 845, 858, 891, 904, 917, 940, 963], 144)) (by decide) (by decide +kernel)
    rw [if_neg h25]
    by_cases h26 : a = 26
    · subst h26; rw [if_pos rfl]; exact q_tsw (by decide +kernel : decode (cd 197) 32 = .ok (.tableswitch 986 0 31 #[144, 167, 180, 193, 216, 249, 282, 315, 348, 371, 394, 417, 440, 483, 516, 539, 552, 575, 608, 641, 674, 707, 740, 773, 822, 845, 858, 891, 904, 917, 940, 963], 144)) (by decide) (by decide +kernel)
    rw [if_neg h26]
    by_cases h27 : a = 27
    · subst h27; rw [if_pos rfl]; exact q_tsw (by decide +kernel : decode (cd 197) 32 = .ok (.tableswitch 986 0 31 #[144, 167, 180, 193, 216, 249, 282, 315, 348, 371, 394, 417, 440, 483, 516, 539, 552, 575, 608, 641, 674, 707, 740, 773, 822, 845, 858, 891, 904, 917, 940, 963], 144)) (by decide) (by decide +kernel)
    rw [if_neg h27]
    by_cases h28 : a = 28
    · subst h28; rw [if_pos rfl]; exact q_tsw (by decide +kernel : decode (cd 197) 32 = .ok (.tableswitch 986 0 31 #[144, 167, 180, 193, 216, 249, 282, 315, 348, 371, 394, 417, 440, 483, 516, 539, 552, 575, 608, 641, 674, 707, 740, 773, 822, 845, 858, 891, 904, 917, 940, 963], 144)) (by decide) (by decide +kernel)
    rw [if_neg h28]
    by_cases h29 : a = 29
    · subst h29; rw [if_pos rfl]; exact q_tsw (by decide +kernel : decode (cd 197) 32 = .ok (.tableswitch 986 0 31 #[144, 167, 180, 193, 216, 249, 282, 315, 348, 371, 394, 417, 440, 483, 516, 539, 552, 575, 608, 641, 674, 707, 740, 773, 822, 845, 858, 891, 904, 917, 940, 963], 144)) (by decide) (by decide +kernel)
    rw [if_neg h29]
    by_cases h30 : a = 30
    · subst h30; rw [if_pos rfl]; exact q_tsw (by decide +kernel : decode (cd 197) 32 = .ok (.tableswitch 986 0 31 #[144, 167, 180, 193, 216, 249, 282, 315, 348, 371, 394, 417, 440, 483, 516, 539, 552, 575, 608, 641, 674, 707, 740, 773, 822, 845, 858, 891, 904, 917, 940, 963], 144)) (by decide) (by decide +kernel)
    rw [if_neg h30]
    by_cases h31 : a = 31
    · subst h31; rw [if_pos rfl]; exact q_tsw (by decide +kernel : decode (cd 197) 32 = .ok (.tableswitch 986 0 31 #[144, 167, 180, 193, 216, 249, 282, 315, 348, 371, 394, 417, 440, 483, 516, 539, 552, 575, 608, 641, 674, 707, 740, 773, 822, 845, 858, 891, 904, 917, 940, 963], 144)) (by decide) (by decide +kernel)
    rw [if_neg h31]
    refine q_tsw (by decide +kernel : decode (cd 197) 32 = .ok (.tableswitch 986 0 31 #[144, 167, 180, 193, 216, 249, 282, 315, 348, 371, 394, 417, 440, 483, 516, 539, 552, 575, 608, 641, 674, 707, 740, 773, 822, 845, 858, 891, 904, 917, 940, 963], 144)) (by decide) ?_
    rw [tsw_out ?_]
    · decide
    have g0 := lv_neT h0 (a := 0) (by decide)
    have g1 := lv_neT h1 (a := 1) (by decide)
    have g2 := lv_neT h2 (a := 2) (by decide)
    have g3 := lv_neT h3 (a := 3) (by decide)
    have g4 := lv_neT h4 (a := 4) (by decide)
    have g5 := lv_neT h5 (a := 5) (by decide)
    have g6 := lv_neT h6 (a := 6) (by decide)
    have g7 := lv_neT h7 (a := 7) (by decide)
    have g8 := lv_neT h8 (a := 8) (by decide)
    have g9 := lv_neT h9 (a := 9) (by decide)
    have g10 := lv_neT h10 (a := 10) (by decide)
    have g11 := lv_neT h11 (a := 11) (by decide)
    have g12 := lv_neT h12 (a := 12) (by decide)
    have g13 := lv_neT h13 (a := 13) (by decide)
    have g14 := lv_neT h14 (a := 14) (by decide)
    have g15 := lv_neT h15 (a := 15) (by decide)
    have g16 := lv_neT h16 (a := 16) (by decide)
    have g17 := lv_neT h17 (a := 17) (by decide)
    have g18 := lv_neT h18 (a := 18) (by decide)
    have g19 := lv_neT h19 (a := 19) (by decide)
    have g20 := lv_neT h20 (a := 20) (by decide)
    have g21 := lv_neT h21 (a := 21) (by decide)
    have g22 := lv_neT h22 (a := 22) (by decide)
    have g23 := lv_neT h23 (a := 23) (by decide)
    have g24 := lv_neT h24 (a := 24) (by decide)
    have g25 := lv_neT h25 (a := 25) (by decide)
    have g26 := lv_neT h26 (a := 26) (by decide)
    have g27 := lv_neT h27 (a := 27) (by decide)
    have g28 := lv_neT h28 (a := 28) (by decide)
    have g29 := lv_neT h29 (a := 29) (by decide)
    have g30 := lv_neT h30 (a := 30) (by decide)
    have g31 := lv_neT h31 (a := 31) (by decide)
    omega
  · intro d v0 x L M Q; exact Wp_sim (by decide +kernel : decode (cd 197) 176 = .ok (.aload_n 1, 1)) rfl rfl
  · intro d a x L M Q; exact Wp_sim (by decide +kernel : decode (cd 197) 177 = .ok (.aload_n 0, 1)) rfl rfl
  · intro d a b v0 v1 v2 x L M Q; exact Wp_sim (by decide +kernel : decode (cd 197) 178 = .ok (.iload_n 3, 1)) rfl rfl
  · intro d a b c L M Q; exact Wp_sim (by decide +kernel : decode (cd 197) 179 = .ok (.iconst 1, 1)) rfl rfl
  · intro d a b c d2 L M Q; exact Wp_sim (by decide +kernel : decode (cd 197) 180 = .ok (.iadd , 1)) rfl rfl
  · intro d a b c L M Q; exact q_ald (by decide +kernel : decode (cd 197) 181 = .ok (.iaload , 1))
  · intro d a b L M Q; exact q_invV (pz := 335) (n := 1) (c := 11) (m := 2) (k := b) (As := [.int a]) (rest := []) (by decide +kernel : decode (cd 197) 182 = .ok (.invokevirtual 13, 3)) (by decide +kernel) (by decide +kernel) rfl rfl (Nat.le_of_ble_eq_true rfl) (Nat.le_of_ble_eq_true rfl) rfl
  · intro d a v0 v1 x L M Q; exact Wp_sim (by decide +kernel : decode (cd 197) 185 = .ok (.aload_n 2, 1)) rfl rfl
  · intro d a b x L M Q; exact Wp_sim (by decide +kernel : decode (cd 197) 186 = .ok (.aload_n 0, 1)) rfl rfl
  · intro d a b c v0 v1 v2 x L M Q; exact Wp_sim (by decide +kernel : decode (cd 197) 187 = .ok (.iload_n 3, 1)) rfl rfl
  · intro d a b c d2 L M Q; exact Wp_sim (by decide +kernel : decode (cd 197) 188 = .ok (.iconst 1, 1)) rfl rfl
  · intro d a b c d2 e L M Q; exact Wp_sim (by decide +kernel : decode (cd 197) 189 = .ok (.iadd , 1)) rfl rfl
  · intro d a b c d2 L M Q; exact q_ald (by decide +kernel : decode (cd 197) 190 = .ok (.iaload , 1))
  · intro d a b c L M Q; exact q_invV (pz := 932) (n := 1) (c := 12) (m := 2) (k := b) (As := [.int a]) (rest := [.int c]) (by decide +kernel : decode (cd 197) 191 = .ok (.invokevirtual 17, 3)) (by decide +kernel) (by decide +kernel) rfl rfl (Nat.le_of_ble_eq_true rfl) (Nat.le_of_ble_eq_true rfl) rfl
  · intro d a b L M Q; exact q_ieq (by decide +kernel : decode (cd 197) 194 = .ok (.if_icmp .eq 824, 3)) (by decide)
  · intro d L M Q; exact Wp_sim (by decide +kernel : decode (cd 197) 197 = .ok (.iconst 0, 1)) rfl rfl
  · intro d a L M Q; exact q_zret (by decide +kernel : decode (cd 197) 198 = .ok (.ireturn , 1)) (by decide +kernel)
  · intro d v0 x L M Q; exact Wp_sim (by decide +kernel : decode (cd 197) 199 = .ok (.aload_n 1, 1)) rfl rfl
  · intro d a L M Q; exact q_invV (pz := 345) (n := 0) (c := 11) (m := 2) (k := a) (As := []) (rest := []) (by decide +kernel : decode (cd 197) 200 = .ok (.invokevirtual 18, 3)) (by decide +kernel) (by decide +kernel) rfl rfl (Nat.le_of_ble_eq_true rfl) (Nat.le_of_ble_eq_true rfl) rfl
  · intro d a v0 v1 x L M Q; exact Wp_sim (by decide +kernel : decode (cd 197) 203 = .ok (.aload_n 2, 1)) rfl rfl
  · intro d a b L M Q; exact q_invV (pz := 942) (n := 0) (c := 12) (m := 2) (k := a) (As := []) (rest := [.int b]) (by decide +kernel : decode (cd 197) 204 = .ok (.invokevirtual 22, 3)) (by decide +kernel) (by decide +kernel) rfl rfl (Nat.le_of_ble_eq_true rfl) (Nat.le_of_ble_eq_true rfl) rfl
  · intro d a b L M Q; exact q_ieq (by decide +kernel : decode (cd 197) 207 = .ok (.if_icmp .eq 811, 3)) (by decide)
  · intro d L M Q; exact Wp_sim (by decide +kernel : decode (cd 197) 210 = .ok (.iconst 0, 1)) rfl rfl
  · intro d a L M Q; exact q_zret (by decide +kernel : decode (cd 197) 211 = .ok (.ireturn , 1)) (by decide +kernel)
  · intro d v0 x L M Q; exact Wp_sim (by decide +kernel : decode (cd 197) 212 = .ok (.aload_n 1, 1)) rfl rfl
  · intro d a L M Q; exact q_invV (pz := 435) (n := 0) (c := 11) (m := 1) (k := a) (As := []) (rest := []) (by decide +kernel : decode (cd 197) 213 = .ok (.invokevirtual 23, 3)) (by decide +kernel) (by decide +kernel) rfl rfl (Nat.le_of_ble_eq_true rfl) (Nat.le_of_ble_eq_true rfl) rfl
  · intro d a v0 v1 x L M Q; exact Wp_sim (by decide +kernel : decode (cd 197) 216 = .ok (.aload_n 2, 1)) rfl rfl
  · intro d a b L M Q; exact q_invV (pz := 991) (n := 0) (c := 12) (m := 1) (k := a) (As := []) (rest := [.int b]) (by decide +kernel : decode (cd 197) 217 = .ok (.invokevirtual 26, 3)) (by decide +kernel) (by decide +kernel) rfl rfl (Nat.le_of_ble_eq_true rfl) (Nat.le_of_ble_eq_true rfl) rfl
  · intro d a b L M Q; exact q_ieq (by decide +kernel : decode (cd 197) 220 = .ok (.if_icmp .eq 798, 3)) (by decide)
  · intro d L M Q; exact Wp_sim (by decide +kernel : decode (cd 197) 223 = .ok (.iconst 0, 1)) rfl rfl
  · intro d a L M Q; exact q_zret (by decide +kernel : decode (cd 197) 224 = .ok (.ireturn , 1)) (by decide +kernel)
  · intro d v0 x L M Q; exact Wp_sim (by decide +kernel : decode (cd 197) 225 = .ok (.aload_n 1, 1)) rfl rfl
  · intro d a x L M Q; exact Wp_sim (by decide +kernel : decode (cd 197) 226 = .ok (.aload_n 0, 1)) rfl rfl
  · intro d a b v0 v1 v2 x L M Q; exact Wp_sim (by decide +kernel : decode (cd 197) 227 = .ok (.iload_n 3, 1)) rfl rfl
  · intro d a b c L M Q; exact Wp_sim (by decide +kernel : decode (cd 197) 228 = .ok (.iconst 1, 1)) rfl rfl
  · intro d a b c d2 L M Q; exact Wp_sim (by decide +kernel : decode (cd 197) 229 = .ok (.iadd , 1)) rfl rfl
  · intro d a b c L M Q; exact q_ald (by decide +kernel : decode (cd 197) 230 = .ok (.iaload , 1))
  · intro d a b L M Q; exact q_invV (pz := 439) (n := 1) (c := 11) (m := 2) (k := b) (As := [.int a]) (rest := []) (by decide +kernel : decode (cd 197) 231 = .ok (.invokevirtual 27, 3)) (by decide +kernel) (by decide +kernel) rfl rfl (Nat.le_of_ble_eq_true rfl) (Nat.le_of_ble_eq_true rfl) rfl
  · intro d a v0 v1 x L M Q; exact Wp_sim (by decide +kernel : decode (cd 197) 234 = .ok (.aload_n 2, 1)) rfl rfl
  · intro d a b x L M Q; exact Wp_sim (by decide +kernel : decode (cd 197) 235 = .ok (.aload_n 0, 1)) rfl rfl
  · intro d a b c v0 v1 v2 x L M Q; exact Wp_sim (by decide +kernel : decode (cd 197) 236 = .ok (.iload_n 3, 1)) rfl rfl
  · intro d a b c d2 L M Q; exact Wp_sim (by decide +kernel : decode (cd 197) 237 = .ok (.iconst 1, 1)) rfl rfl
  · intro d a b c d2 e L M Q; exact Wp_sim (by decide +kernel : decode (cd 197) 238 = .ok (.iadd , 1)) rfl rfl
set_option maxRecDepth 10000 in
theorem e197_1 : (∀ (d : Nat) (a : Int32) (b : Nat) (c : Nat) (d2 : Int32) (L : List Value) (M : Mem) (Q : Option Value → Mem → Prop), Wp d 197 239 L [.int a, .ref b, .ref c, .int d2] M Q ↔ ((isR b = true ∧ inr a (lnm M b)) ∧ Wp d 197 240 L [.int (M b a.toNatClampNeg), .ref c, .int d2] M Q)) ∧
    (∀ (d : Nat) (a : Int32) (b : Nat) (c : Int32) (L : List Value) (M : Mem) (Q : Option Value → Mem → Prop), Wp (d + 1) 197 240 L [.int a, .ref b, .int c] M Q ↔ (isK b 12 = true ∧ Wp d 126 0 [.ref b, .int a] [] M (fun r M2 => Wp (d + 1) 197 243 L (r.toList ++ [.int c]) M2 Q))) ∧
    (∀ (d : Nat) (a : Int32) (b : Int32) (L : List Value) (M : Mem) (Q : Option Value → Mem → Prop), Wp d 197 243 L [.int a, .int b] M Q ↔ (if b = a then Wp d 197 1018 L [] M Q else Wp d 197 246 L [] M Q)) ∧
    (∀ (d : Nat) (L : List Value) (M : Mem) (Q : Option Value → Mem → Prop), Wp d 197 246 L [] M Q ↔ Wp d 197 247 L [.int 0] M Q) ∧
    (∀ (d : Nat) (a : Int32) (L : List Value) (M : Mem) (Q : Option Value → Mem → Prop), Wp d 197 247 L [.int a] M Q ↔ ((a = 0 ∨ a = 1) ∧ Q (some (.int a)) M)) ∧
    (∀ (d : Nat) (v0 : Value) (x : Nat) (L : List Value) (M : Mem) (Q : Option Value → Mem → Prop), Wp d 197 248 (v0 :: .ref x :: L) [] M Q ↔ Wp d 197 249 (v0 :: .ref x :: L) [.ref x] M Q) ∧
    (∀ (d : Nat) (a : Nat) (x : Nat) (L : List Value) (M : Mem) (Q : Option Value → Mem → Prop), Wp d 197 249 (.ref x :: L) [.ref a] M Q ↔ Wp d 197 250 (.ref x :: L) [.ref x, .ref a] M Q) ∧
    (∀ (d : Nat) (a : Nat) (b : Nat) (v0 : Value) (v1 : Value) (v2 : Value) (x : Int32) (L : List Value) (M : Mem) (Q : Option Value → Mem → Prop), Wp d 197 250 (v0 :: v1 :: v2 :: .int x :: L) [.ref a, .ref b] M Q ↔ Wp d 197 251 (v0 :: v1 :: v2 :: .int x :: L) [.int x, .ref a, .ref b] M Q) ∧
    (∀ (d : Nat) (a : Int32) (b : Nat) (c : Nat) (L : List Value) (M : Mem) (Q : Option Value → Mem → Prop), Wp d 197 251 L [.int a, .ref b, .ref c] M Q ↔ Wp d 197 252 L [.int 1, .int a, .ref b, .ref c] M Q) ∧
    (∀ (d : Nat) (a : Int32) (b : Int32) (c : Nat) (d2 : Nat) (L : List Value) (M : Mem) (Q : Option Value → Mem → Prop), Wp d 197 252 L [.int a, .int b, .ref c, .ref d2] M Q ↔ Wp d 197 253 L [.int (b + a), .ref c, .ref d2] M Q) ∧
    (∀ (d : Nat) (a : Int32) (b : Nat) (c : Nat) (L : List Value) (M : Mem) (Q : Option Value → Mem → Prop), Wp d 197 253 L [.int a, .ref b, .ref c] M Q ↔ ((isR b = true ∧ inr a (lnm M b)) ∧ Wp d 197 254 L [.int (M b a.toNatClampNeg), .ref c] M Q)) ∧
    (∀ (d : Nat) (a : Int32) (b : Nat) (x : Nat) (L : List Value) (M : Mem) (Q : Option Value → Mem → Prop), Wp d 197 254 (.ref x :: L) [.int a, .ref b] M Q ↔ Wp d 197 255 (.ref x :: L) [.ref x, .int a, .ref b] M Q) ∧
    (∀ (d : Nat) (a : Nat) (b : Int32) (c : Nat) (v0 : Value) (v1 : Value) (v2 : Value) (x : Int32) (L : List Value) (M : Mem) (Q : Option Value → Mem → Prop), Wp d 197 255 (v0 :: v1 :: v2 :: .int x :: L) [.ref a, .int b, .ref c] M Q ↔ Wp d 197 256 (v0 :: v1 :: v2 :: .int x :: L) [.int x, .ref a, .int b, .ref c] M Q) ∧
    (∀ (d : Nat) (a : Int32) (b : Nat) (c : Int32) (d2 : Nat) (L : List Value) (M : Mem) (Q : Option Value → Mem → Prop), Wp d 197 256 L [.int a, .ref b, .int c, .ref d2] M Q ↔ Wp d 197 257 L [.int 2, .int a, .ref b, .int c, .ref d2] M Q) ∧
    (∀ (d : Nat) (a : Int32) (b : Int32) (c : Nat) (d2 : Int32) (e : Nat) (L : List Value) (M : Mem) (Q : Option Value → Mem → Prop), Wp d 197 257 L [.int a, .int b, .ref c, .int d2, .ref e] M Q ↔ Wp d 197 258 L [.int (b + a), .ref c, .int d2, .ref e] M Q) ∧
    (∀ (d : Nat) (a : Int32) (b : Nat) (c : Int32) (d2 : Nat) (L : List Value) (M : Mem) (Q : Option Value → Mem → Prop), Wp d 197 258 L [.int a, .ref b, .int c, .ref d2] M Q ↔ ((isR b = true ∧ inr a (lnm M b)) ∧ Wp d 197 259 L [.int (M b a.toNatClampNeg), .int c, .ref d2] M Q)) ∧
    (∀ (d : Nat) (a : Int32) (b : Int32) (c : Nat) (L : List Value) (M : Mem) (Q : Option Value → Mem → Prop), Wp (d + 1) 197 259 L [.int a, .int b, .ref c] M Q ↔ (isK c 11 = true ∧ Wp d 75 0 [.ref c, .int b, .int a] [] M (fun r M2 => Wp (d + 1) 197 262 L (r.toList ++ []) M2 Q))) ∧
    (∀ (d : Nat) (a : Int32) (v0 : Value) (v1 : Value) (x : Nat) (L : List Value) (M : Mem) (Q : Option Value → Mem → Prop), Wp d 197 262 (v0 :: v1 :: .ref x :: L) [.int a] M Q ↔ Wp d 197 263 (v0 :: v1 :: .ref x :: L) [.ref x, .int a] M Q) ∧
    (∀ (d : Nat) (a : Nat) (b : Int32) (x : Nat) (L : List Value) (M : Mem) (Q : Option Value → Mem → Prop), Wp d 197 263 (.ref x :: L) [.ref a, .int b] M Q ↔ Wp d 197 264 (.ref x :: L) [.ref x, .ref a, .int b] M Q) ∧
    (∀ (d : Nat) (a : Nat) (b : Nat) (c : Int32) (v0 : Value) (v1 : Value) (v2 : Value) (x : Int32) (L : List Value) (M : Mem) (Q : Option Value → Mem → Prop), Wp d 197 264 (v0 :: v1 :: v2 :: .int x :: L) [.ref a, .ref b, .int c] M Q ↔ Wp d 197 265 (v0 :: v1 :: v2 :: .int x :: L) [.int x, .ref a, .ref b, .int c] M Q) ∧
    (∀ (d : Nat) (a : Int32) (b : Nat) (c : Nat) (d2 : Int32) (L : List Value) (M : Mem) (Q : Option Value → Mem → Prop), Wp d 197 265 L [.int a, .ref b, .ref c, .int d2] M Q ↔ Wp d 197 266 L [.int 1, .int a, .ref b, .ref c, .int d2] M Q) ∧
    (∀ (d : Nat) (a : Int32) (b : Int32) (c : Nat) (d2 : Nat) (e : Int32) (L : List Value) (M : Mem) (Q : Option Value → Mem → Prop), Wp d 197 266 L [.int a, .int b, .ref c, .ref d2, .int e] M Q ↔ Wp d 197 267 L [.int (b + a), .ref c, .ref d2, .int e] M Q) ∧
    (∀ (d : Nat) (a : Int32) (b : Nat) (c : Nat) (d2 : Int32) (L : List Value) (M : Mem) (Q : Option Value → Mem → Prop), Wp d 197 267 L [.int a, .ref b, .ref c, .int d2] M Q ↔ ((isR b = true ∧ inr a (lnm M b)) ∧ Wp d 197 268 L [.int (M b a.toNatClampNeg), .ref c, .int d2] M Q)) ∧
    (∀ (d : Nat) (a : Int32) (b : Nat) (c : Int32) (x : Nat) (L : List Value) (M : Mem) (Q : Option Value → Mem → Prop), Wp d 197 268 (.ref x :: L) [.int a, .ref b, .int c] M Q ↔ Wp d 197 269 (.ref x :: L) [.ref x, .int a, .ref b, .int c] M Q) ∧
    (∀ (d : Nat) (a : Nat) (b : Int32) (c : Nat) (d2 : Int32) (v0 : Value) (v1 : Value) (v2 : Value) (x : Int32) (L : List Value) (M : Mem) (Q : Option Value → Mem → Prop), Wp d 197 269 (v0 :: v1 :: v2 :: .int x :: L) [.ref a, .int b, .ref c, .int d2] M Q ↔ Wp d 197 270 (v0 :: v1 :: v2 :: .int x :: L) [.int x, .ref a, .int b, .ref c, .int d2] M Q) ∧
    (∀ (d : Nat) (a : Int32) (b : Nat) (c : Int32) (d2 : Nat) (e : Int32) (L : List Value) (M : Mem) (Q : Option Value → Mem → Prop), Wp d 197 270 L [.int a, .ref b, .int c, .ref d2, .int e] M Q ↔ Wp d 197 271 L [.int 2, .int a, .ref b, .int c, .ref d2, .int e] M Q) ∧
    (∀ (d : Nat) (a : Int32) (b : Int32) (c : Nat) (d2 : Int32) (e : Nat) (f : Int32) (L : List Value) (M : Mem) (Q : Option Value → Mem → Prop), Wp d 197 271 L [.int a, .int b, .ref c, .int d2, .ref e, .int f] M Q ↔ Wp d 197 272 L [.int (b + a), .ref c, .int d2, .ref e, .int f] M Q) ∧
    (∀ (d : Nat) (a : Int32) (b : Nat) (c : Int32) (d2 : Nat) (e : Int32) (L : List Value) (M : Mem) (Q : Option Value → Mem → Prop), Wp d 197 272 L [.int a, .ref b, .int c, .ref d2, .int e] M Q ↔ ((isR b = true ∧ inr a (lnm M b)) ∧ Wp d 197 273 L [.int (M b a.toNatClampNeg), .int c, .ref d2, .int e] M Q)) ∧
    (∀ (d : Nat) (a : Int32) (b : Int32) (c : Nat) (d2 : Int32) (L : List Value) (M : Mem) (Q : Option Value → Mem → Prop), Wp (d + 1) 197 273 L [.int a, .int b, .ref c, .int d2] M Q ↔ (isK c 12 = true ∧ Wp d 138 0 [.ref c, .int b, .int a] [] M (fun r M2 => Wp (d + 1) 197 276 L (r.toList ++ [.int d2]) M2 Q))) ∧
    (∀ (d : Nat) (a : Int32) (b : Int32) (L : List Value) (M : Mem) (Q : Option Value → Mem → Prop), Wp d 197 276 L [.int a, .int b] M Q ↔ (if b = a then Wp d 197 1018 L [] M Q else Wp d 197 279 L [] M Q)) ∧
    (∀ (d : Nat) (L : List Value) (M : Mem) (Q : Option Value → Mem → Prop), Wp d 197 279 L [] M Q ↔ Wp d 197 280 L [.int 0] M Q) ∧
    (∀ (d : Nat) (a : Int32) (L : List Value) (M : Mem) (Q : Option Value → Mem → Prop), Wp d 197 280 L [.int a] M Q ↔ ((a = 0 ∨ a = 1) ∧ Q (some (.int a)) M)) ∧
    (∀ (d : Nat) (v0 : Value) (x : Nat) (L : List Value) (M : Mem) (Q : Option Value → Mem → Prop), Wp d 197 281 (v0 :: .ref x :: L) [] M Q ↔ Wp d 197 282 (v0 :: .ref x :: L) [.ref x] M Q) ∧
    (∀ (d : Nat) (a : Nat) (x : Nat) (L : List Value) (M : Mem) (Q : Option Value → Mem → Prop), Wp d 197 282 (.ref x :: L) [.ref a] M Q ↔ Wp d 197 283 (.ref x :: L) [.ref x, .ref a] M Q) ∧
    (∀ (d : Nat) (a : Nat) (b : Nat) (v0 : Value) (v1 : Value) (v2 : Value) (x : Int32) (L : List Value) (M : Mem) (Q : Option Value → Mem → Prop), Wp d 197 283 (v0 :: v1 :: v2 :: .int x :: L) [.ref a, .ref b] M Q ↔ Wp d 197 284 (v0 :: v1 :: v2 :: .int x :: L) [.int x, .ref a, .ref b] M Q) ∧
    (∀ (d : Nat) (a : Int32) (b : Nat) (c : Nat) (L : List Value) (M : Mem) (Q : Option Value → Mem → Prop), Wp d 197 284 L [.int a, .ref b, .ref c] M Q ↔ Wp d 197 285 L [.int 1, .int a, .ref b, .ref c] M Q) ∧
    (∀ (d : Nat) (a : Int32) (b : Int32) (c : Nat) (d2 : Nat) (L : List Value) (M : Mem) (Q : Option Value → Mem → Prop), Wp d 197 285 L [.int a, .int b, .ref c, .ref d2] M Q ↔ Wp d 197 286 L [.int (b + a), .ref c, .ref d2] M Q) ∧
    (∀ (d : Nat) (a : Int32) (b : Nat) (c : Nat) (L : List Value) (M : Mem) (Q : Option Value → Mem → Prop), Wp d 197 286 L [.int a, .ref b, .ref c] M Q ↔ ((isR b = true ∧ inr a (lnm M b)) ∧ Wp d 197 287 L [.int (M b a.toNatClampNeg), .ref c] M Q)) ∧
    (∀ (d : Nat) (a : Int32) (b : Nat) (x : Nat) (L : List Value) (M : Mem) (Q : Option Value → Mem → Prop), Wp d 197 287 (.ref x :: L) [.int a, .ref b] M Q ↔ Wp d 197 288 (.ref x :: L) [.ref x, .int a, .ref b] M Q) ∧
    (∀ (d : Nat) (a : Nat) (b : Int32) (c : Nat) (v0 : Value) (v1 : Value) (v2 : Value) (x : Int32) (L : List Value) (M : Mem) (Q : Option Value → Mem → Prop), Wp d 197 288 (v0 :: v1 :: v2 :: .int x :: L) [.ref a, .int b, .ref c] M Q ↔ Wp d 197 289 (v0 :: v1 :: v2 :: .int x :: L) [.int x, .ref a, .int b, .ref c] M Q) ∧
    (∀ (d : Nat) (a : Int32) (b : Nat) (c : Int32) (d2 : Nat) (L : List Value) (M : Mem) (Q : Option Value → Mem → Prop), Wp d 197 289 L [.int a, .ref b, .int c, .ref d2] M Q ↔ Wp d 197 290 L [.int 2, .int a, .ref b, .int c, .ref d2] M Q) ∧
    (∀ (d : Nat) (a : Int32) (b : Int32) (c : Nat) (d2 : Int32) (e : Nat) (L : List Value) (M : Mem) (Q : Option Value → Mem → Prop), Wp d 197 290 L [.int a, .int b, .ref c, .int d2, .ref e] M Q ↔ Wp d 197 291 L [.int (b + a), .ref c, .int d2, .ref e] M Q) ∧
    (∀ (d : Nat) (a : Int32) (b : Nat) (c : Int32) (d2 : Nat) (L : List Value) (M : Mem) (Q : Option Value → Mem → Prop), Wp d 197 291 L [.int a, .ref b, .int c, .ref d2] M Q ↔ ((isR b = true ∧ inr a (lnm M b)) ∧ Wp d 197 292 L [.int (M b a.toNatClampNeg), .int c, .ref d2] M Q)) ∧
    (∀ (d : Nat) (a : Int32) (b : Int32) (c : Nat) (L : List Value) (M : Mem) (Q : Option Value → Mem → Prop), Wp (d + 1) 197 292 L [.int a, .int b, .ref c] M Q ↔ (isK c 11 = true ∧ Wp d 76 0 [.ref c, .int b, .int a] [] M (fun r M2 => Wp (d + 1) 197 295 L (r.toList ++ []) M2 Q))) ∧
    (∀ (d : Nat) (a : Int32) (v0 : Value) (v1 : Value) (x : Nat) (L : List Value) (M : Mem) (Q : Option Value → Mem → Prop), Wp d 197 295 (v0 :: v1 :: .ref x :: L) [.int a] M Q ↔ Wp d 197 296 (v0 :: v1 :: .ref x :: L) [.ref x, .int a] M Q) ∧
    (∀ (d : Nat) (a : Nat) (b : Int32) (x : Nat) (L : List Value) (M : Mem) (Q : Option Value → Mem → Prop), Wp d 197 296 (.ref x :: L) [.ref a, .int b] M Q ↔ Wp d 197 297 (.ref x :: L) [.ref x, .ref a, .int b] M Q) ∧
    (∀ (d : Nat) (a : Nat) (b : Nat) (c : Int32) (v0 : Value) (v1 : Value) (v2 : Value) (x : Int32) (L : List Value) (M : Mem) (Q : Option Value → Mem → Prop), Wp d 197 297 (v0 :: v1 :: v2 :: .int x :: L) [.ref a, .ref b, .int c] M Q ↔ Wp d 197 298 (v0 :: v1 :: v2 :: .int x :: L) [.int x, .ref a, .ref b, .int c] M Q) ∧
    (∀ (d : Nat) (a : Int32) (b : Nat) (c : Nat) (d2 : Int32) (L : List Value) (M : Mem) (Q : Option Value → Mem → Prop), Wp d 197 298 L [.int a, .ref b, .ref c, .int d2] M Q ↔ Wp d 197 299 L [.int 1, .int a, .ref b, .ref c, .int d2] M Q) ∧
    (∀ (d : Nat) (a : Int32) (b : Int32) (c : Nat) (d2 : Nat) (e : Int32) (L : List Value) (M : Mem) (Q : Option Value → Mem → Prop), Wp d 197 299 L [.int a, .int b, .ref c, .ref d2, .int e] M Q ↔ Wp d 197 300 L [.int (b + a), .ref c, .ref d2, .int e] M Q) ∧
    (∀ (d : Nat) (a : Int32) (b : Nat) (c : Nat) (d2 : Int32) (L : List Value) (M : Mem) (Q : Option Value → Mem → Prop), Wp d 197 300 L [.int a, .ref b, .ref c, .int d2] M Q ↔ ((isR b = true ∧ inr a (lnm M b)) ∧ Wp d 197 301 L [.int (M b a.toNatClampNeg), .ref c, .int d2] M Q)) ∧
    (∀ (d : Nat) (a : Int32) (b : Nat) (c : Int32) (x : Nat) (L : List Value) (M : Mem) (Q : Option Value → Mem → Prop), Wp d 197 301 (.ref x :: L) [.int a, .ref b, .int c] M Q ↔ Wp d 197 302 (.ref x :: L) [.ref x, .int a, .ref b, .int c] M Q) ∧
    (∀ (d : Nat) (a : Nat) (b : Int32) (c : Nat) (d2 : Int32) (v0 : Value) (v1 : Value) (v2 : Value) (x : Int32) (L : List Value) (M : Mem) (Q : Option Value → Mem → Prop), Wp d 197 302 (v0 :: v1 :: v2 :: .int x :: L) [.ref a, .int b, .ref c, .int d2] M Q ↔ Wp d 197 303 (v0 :: v1 :: v2 :: .int x :: L) [.int x, .ref a, .int b, .ref c, .int d2] M Q) ∧
    (∀ (d : Nat) (a : Int32) (b : Nat) (c : Int32) (d2 : Nat) (e : Int32) (L : List Value) (M : Mem) (Q : Option Value → Mem → Prop), Wp d 197 303 L [.int a, .ref b, .int c, .ref d2, .int e] M Q ↔ Wp d 197 304 L [.int 2, .int a, .ref b, .int c, .ref d2, .int e] M Q) ∧
    (∀ (d : Nat) (a : Int32) (b : Int32) (c : Nat) (d2 : Int32) (e : Nat) (f : Int32) (L : List Value) (M : Mem) (Q : Option Value → Mem → Prop), Wp d 197 304 L [.int a, .int b, .ref c, .int d2, .ref e, .int f] M Q ↔ Wp d 197 305 L [.int (b + a), .ref c, .int d2, .ref e, .int f] M Q) ∧
    (∀ (d : Nat) (a : Int32) (b : Nat) (c : Int32) (d2 : Nat) (e : Int32) (L : List Value) (M : Mem) (Q : Option Value → Mem → Prop), Wp d 197 305 L [.int a, .ref b, .int c, .ref d2, .int e] M Q ↔ ((isR b = true ∧ inr a (lnm M b)) ∧ Wp d 197 306 L [.int (M b a.toNatClampNeg), .int c, .ref d2, .int e] M Q)) ∧
    (∀ (d : Nat) (a : Int32) (b : Int32) (c : Nat) (d2 : Int32) (L : List Value) (M : Mem) (Q : Option Value → Mem → Prop), Wp (d + 1) 197 306 L [.int a, .int b, .ref c, .int d2] M Q ↔ (isK c 12 = true ∧ Wp d 140 0 [.ref c, .int b, .int a] [] M (fun r M2 => Wp (d + 1) 197 309 L (r.toList ++ [.int d2]) M2 Q))) ∧
    (∀ (d : Nat) (a : Int32) (b : Int32) (L : List Value) (M : Mem) (Q : Option Value → Mem → Prop), Wp d 197 309 L [.int a, .int b] M Q ↔ (if b = a then Wp d 197 1018 L [] M Q else Wp d 197 312 L [] M Q)) ∧
    (∀ (d : Nat) (L : List Value) (M : Mem) (Q : Option Value → Mem → Prop), Wp d 197 312 L [] M Q ↔ Wp d 197 313 L [.int 0] M Q) ∧
    (∀ (d : Nat) (a : Int32) (L : List Value) (M : Mem) (Q : Option Value → Mem → Prop), Wp d 197 313 L [.int a] M Q ↔ ((a = 0 ∨ a = 1) ∧ Q (some (.int a)) M)) ∧
    (∀ (d : Nat) (v0 : Value) (x : Nat) (L : List Value) (M : Mem) (Q : Option Value → Mem → Prop), Wp d 197 314 (v0 :: .ref x :: L) [] M Q ↔ Wp d 197 315 (v0 :: .ref x :: L) [.ref x] M Q) := by
  refine ⟨?_, ?_, ?_, ?_, ?_, ?_, ?_, ?_, ?_, ?_, ?_, ?_, ?_, ?_, ?_, ?_, ?_, ?_, ?_, ?_, ?_, ?_, ?_, ?_, ?_, ?_, ?_, ?_, ?_, ?_, ?_, ?_, ?_, ?_, ?_, ?_, ?_, ?_, ?_, ?_, ?_, ?_, ?_, ?_, ?_, ?_, ?_, ?_, ?_, ?_, ?_, ?_, ?_, ?_, ?_, ?_, ?_, ?_, ?_, ?_⟩
  · intro d a b c d2 L M Q; exact q_ald (by decide +kernel : decode (cd 197) 239 = .ok (.iaload , 1))
  · intro d a b c L M Q; exact q_invV (pz := 995) (n := 1) (c := 12) (m := 2) (k := b) (As := [.int a]) (rest := [.int c]) (by decide +kernel : decode (cd 197) 240 = .ok (.invokevirtual 30, 3)) (by decide +kernel) (by decide +kernel) rfl rfl (Nat.le_of_ble_eq_true rfl) (Nat.le_of_ble_eq_true rfl) rfl
  · intro d a b L M Q; exact q_ieq (by decide +kernel : decode (cd 197) 243 = .ok (.if_icmp .eq 775, 3)) (by decide)
  · intro d L M Q; exact Wp_sim (by decide +kernel : decode (cd 197) 246 = .ok (.iconst 0, 1)) rfl rfl
  · intro d a L M Q; exact q_zret (by decide +kernel : decode (cd 197) 247 = .ok (.ireturn , 1)) (by decide +kernel)
  · intro d v0 x L M Q; exact Wp_sim (by decide +kernel : decode (cd 197) 248 = .ok (.aload_n 1, 1)) rfl rfl
  · intro d a x L M Q; exact Wp_sim (by decide +kernel : decode (cd 197) 249 = .ok (.aload_n 0, 1)) rfl rfl
  · intro d a b v0 v1 v2 x L M Q; exact Wp_sim (by decide +kernel : decode (cd 197) 250 = .ok (.iload_n 3, 1)) rfl rfl
  · intro d a b c L M Q; exact Wp_sim (by decide +kernel : decode (cd 197) 251 = .ok (.iconst 1, 1)) rfl rfl
  · intro d a b c d2 L M Q; exact Wp_sim (by decide +kernel : decode (cd 197) 252 = .ok (.iadd , 1)) rfl rfl
  · intro d a b c L M Q; exact q_ald (by decide +kernel : decode (cd 197) 253 = .ok (.iaload , 1))
  · intro d a b x L M Q; exact Wp_sim (by decide +kernel : decode (cd 197) 254 = .ok (.aload_n 0, 1)) rfl rfl
  · intro d a b c v0 v1 v2 x L M Q; exact Wp_sim (by decide +kernel : decode (cd 197) 255 = .ok (.iload_n 3, 1)) rfl rfl
  · intro d a b c d2 L M Q; exact Wp_sim (by decide +kernel : decode (cd 197) 256 = .ok (.iconst 2, 1)) rfl rfl
  · intro d a b c d2 e L M Q; exact Wp_sim (by decide +kernel : decode (cd 197) 257 = .ok (.iadd , 1)) rfl rfl
  · intro d a b c d2 L M Q; exact q_ald (by decide +kernel : decode (cd 197) 258 = .ok (.iaload , 1))
  · intro d a b c L M Q; exact q_invV (pz := 501) (n := 2) (c := 11) (m := 3) (k := c) (As := [.int b, .int a]) (rest := []) (by decide +kernel : decode (cd 197) 259 = .ok (.invokevirtual 31, 3)) (by decide +kernel) (by decide +kernel) rfl rfl (Nat.le_of_ble_eq_true rfl) (Nat.le_of_ble_eq_true rfl) rfl
  · intro d a v0 v1 x L M Q; exact Wp_sim (by decide +kernel : decode (cd 197) 262 = .ok (.aload_n 2, 1)) rfl rfl
  · intro d a b x L M Q; exact Wp_sim (by decide +kernel : decode (cd 197) 263 = .ok (.aload_n 0, 1)) rfl rfl
  · intro d a b c v0 v1 v2 x L M Q; exact Wp_sim (by decide +kernel : decode (cd 197) 264 = .ok (.iload_n 3, 1)) rfl rfl
  · intro d a b c d2 L M Q; exact Wp_sim (by decide +kernel : decode (cd 197) 265 = .ok (.iconst 1, 1)) rfl rfl
  · intro d a b c d2 e L M Q; exact Wp_sim (by decide +kernel : decode (cd 197) 266 = .ok (.iadd , 1)) rfl rfl
  · intro d a b c d2 L M Q; exact q_ald (by decide +kernel : decode (cd 197) 267 = .ok (.iaload , 1))
  · intro d a b c x L M Q; exact Wp_sim (by decide +kernel : decode (cd 197) 268 = .ok (.aload_n 0, 1)) rfl rfl
  · intro d a b c d2 v0 v1 v2 x L M Q; exact Wp_sim (by decide +kernel : decode (cd 197) 269 = .ok (.iload_n 3, 1)) rfl rfl
  · intro d a b c d2 e L M Q; exact Wp_sim (by decide +kernel : decode (cd 197) 270 = .ok (.iconst 2, 1)) rfl rfl
  · intro d a b c d2 e f L M Q; exact Wp_sim (by decide +kernel : decode (cd 197) 271 = .ok (.iadd , 1)) rfl rfl
  · intro d a b c d2 e L M Q; exact q_ald (by decide +kernel : decode (cd 197) 272 = .ok (.iaload , 1))
  · intro d a b c d2 L M Q; exact q_invV (pz := 1039) (n := 2) (c := 12) (m := 3) (k := c) (As := [.int b, .int a]) (rest := [.int d2]) (by decide +kernel : decode (cd 197) 273 = .ok (.invokevirtual 35, 3)) (by decide +kernel) (by decide +kernel) rfl rfl (Nat.le_of_ble_eq_true rfl) (Nat.le_of_ble_eq_true rfl) rfl
  · intro d a b L M Q; exact q_ieq (by decide +kernel : decode (cd 197) 276 = .ok (.if_icmp .eq 742, 3)) (by decide)
  · intro d L M Q; exact Wp_sim (by decide +kernel : decode (cd 197) 279 = .ok (.iconst 0, 1)) rfl rfl
  · intro d a L M Q; exact q_zret (by decide +kernel : decode (cd 197) 280 = .ok (.ireturn , 1)) (by decide +kernel)
  · intro d v0 x L M Q; exact Wp_sim (by decide +kernel : decode (cd 197) 281 = .ok (.aload_n 1, 1)) rfl rfl
  · intro d a x L M Q; exact Wp_sim (by decide +kernel : decode (cd 197) 282 = .ok (.aload_n 0, 1)) rfl rfl
  · intro d a b v0 v1 v2 x L M Q; exact Wp_sim (by decide +kernel : decode (cd 197) 283 = .ok (.iload_n 3, 1)) rfl rfl
  · intro d a b c L M Q; exact Wp_sim (by decide +kernel : decode (cd 197) 284 = .ok (.iconst 1, 1)) rfl rfl
  · intro d a b c d2 L M Q; exact Wp_sim (by decide +kernel : decode (cd 197) 285 = .ok (.iadd , 1)) rfl rfl
  · intro d a b c L M Q; exact q_ald (by decide +kernel : decode (cd 197) 286 = .ok (.iaload , 1))
  · intro d a b x L M Q; exact Wp_sim (by decide +kernel : decode (cd 197) 287 = .ok (.aload_n 0, 1)) rfl rfl
  · intro d a b c v0 v1 v2 x L M Q; exact Wp_sim (by decide +kernel : decode (cd 197) 288 = .ok (.iload_n 3, 1)) rfl rfl
  · intro d a b c d2 L M Q; exact Wp_sim (by decide +kernel : decode (cd 197) 289 = .ok (.iconst 2, 1)) rfl rfl
  · intro d a b c d2 e L M Q; exact Wp_sim (by decide +kernel : decode (cd 197) 290 = .ok (.iadd , 1)) rfl rfl
  · intro d a b c d2 L M Q; exact q_ald (by decide +kernel : decode (cd 197) 291 = .ok (.iaload , 1))
  · intro d a b c L M Q; exact q_invV (pz := 512) (n := 2) (c := 11) (m := 3) (k := c) (As := [.int b, .int a]) (rest := []) (by decide +kernel : decode (cd 197) 292 = .ok (.invokevirtual 36, 3)) (by decide +kernel) (by decide +kernel) rfl rfl (Nat.le_of_ble_eq_true rfl) (Nat.le_of_ble_eq_true rfl) rfl
  · intro d a v0 v1 x L M Q; exact Wp_sim (by decide +kernel : decode (cd 197) 295 = .ok (.aload_n 2, 1)) rfl rfl
  · intro d a b x L M Q; exact Wp_sim (by decide +kernel : decode (cd 197) 296 = .ok (.aload_n 0, 1)) rfl rfl
  · intro d a b c v0 v1 v2 x L M Q; exact Wp_sim (by decide +kernel : decode (cd 197) 297 = .ok (.iload_n 3, 1)) rfl rfl
  · intro d a b c d2 L M Q; exact Wp_sim (by decide +kernel : decode (cd 197) 298 = .ok (.iconst 1, 1)) rfl rfl
  · intro d a b c d2 e L M Q; exact Wp_sim (by decide +kernel : decode (cd 197) 299 = .ok (.iadd , 1)) rfl rfl
  · intro d a b c d2 L M Q; exact q_ald (by decide +kernel : decode (cd 197) 300 = .ok (.iaload , 1))
  · intro d a b c x L M Q; exact Wp_sim (by decide +kernel : decode (cd 197) 301 = .ok (.aload_n 0, 1)) rfl rfl
  · intro d a b c d2 v0 v1 v2 x L M Q; exact Wp_sim (by decide +kernel : decode (cd 197) 302 = .ok (.iload_n 3, 1)) rfl rfl
  · intro d a b c d2 e L M Q; exact Wp_sim (by decide +kernel : decode (cd 197) 303 = .ok (.iconst 2, 1)) rfl rfl
  · intro d a b c d2 e f L M Q; exact Wp_sim (by decide +kernel : decode (cd 197) 304 = .ok (.iadd , 1)) rfl rfl
  · intro d a b c d2 e L M Q; exact q_ald (by decide +kernel : decode (cd 197) 305 = .ok (.iaload , 1))
  · intro d a b c d2 L M Q; exact q_invV (pz := 1049) (n := 2) (c := 12) (m := 3) (k := c) (As := [.int b, .int a]) (rest := [.int d2]) (by decide +kernel : decode (cd 197) 306 = .ok (.invokevirtual 39, 3)) (by decide +kernel) (by decide +kernel) rfl rfl (Nat.le_of_ble_eq_true rfl) (Nat.le_of_ble_eq_true rfl) rfl
  · intro d a b L M Q; exact q_ieq (by decide +kernel : decode (cd 197) 309 = .ok (.if_icmp .eq 709, 3)) (by decide)
  · intro d L M Q; exact Wp_sim (by decide +kernel : decode (cd 197) 312 = .ok (.iconst 0, 1)) rfl rfl
  · intro d a L M Q; exact q_zret (by decide +kernel : decode (cd 197) 313 = .ok (.ireturn , 1)) (by decide +kernel)
  · intro d v0 x L M Q; exact Wp_sim (by decide +kernel : decode (cd 197) 314 = .ok (.aload_n 1, 1)) rfl rfl
set_option maxRecDepth 10000 in
theorem e197_2 : (∀ (d : Nat) (a : Nat) (x : Nat) (L : List Value) (M : Mem) (Q : Option Value → Mem → Prop), Wp d 197 315 (.ref x :: L) [.ref a] M Q ↔ Wp d 197 316 (.ref x :: L) [.ref x, .ref a] M Q) ∧
    (∀ (d : Nat) (a : Nat) (b : Nat) (v0 : Value) (v1 : Value) (v2 : Value) (x : Int32) (L : List Value) (M : Mem) (Q : Option Value → Mem → Prop), Wp d 197 316 (v0 :: v1 :: v2 :: .int x :: L) [.ref a, .ref b] M Q ↔ Wp d 197 317 (v0 :: v1 :: v2 :: .int x :: L) [.int x, .ref a, .ref b] M Q) ∧
    (∀ (d : Nat) (a : Int32) (b : Nat) (c : Nat) (L : List Value) (M : Mem) (Q : Option Value → Mem → Prop), Wp d 197 317 L [.int a, .ref b, .ref c] M Q ↔ Wp d 197 318 L [.int 1, .int a, .ref b, .ref c] M Q) ∧
    (∀ (d : Nat) (a : Int32) (b : Int32) (c : Nat) (d2 : Nat) (L : List Value) (M : Mem) (Q : Option Value → Mem → Prop), Wp d 197 318 L [.int a, .int b, .ref c, .ref d2] M Q ↔ Wp d 197 319 L [.int (b + a), .ref c, .ref d2] M Q) ∧
    (∀ (d : Nat) (a : Int32) (b : Nat) (c : Nat) (L : List Value) (M : Mem) (Q : Option Value → Mem → Prop), Wp d 197 319 L [.int a, .ref b, .ref c] M Q ↔ ((isR b = true ∧ inr a (lnm M b)) ∧ Wp d 197 320 L [.int (M b a.toNatClampNeg), .ref c] M Q)) ∧
    (∀ (d : Nat) (a : Int32) (b : Nat) (x : Nat) (L : List Value) (M : Mem) (Q : Option Value → Mem → Prop), Wp d 197 320 (.ref x :: L) [.int a, .ref b] M Q ↔ Wp d 197 321 (.ref x :: L) [.ref x, .int a, .ref b] M Q) ∧
    (∀ (d : Nat) (a : Nat) (b : Int32) (c : Nat) (v0 : Value) (v1 : Value) (v2 : Value) (x : Int32) (L : List Value) (M : Mem) (Q : Option Value → Mem → Prop), Wp d 197 321 (v0 :: v1 :: v2 :: .int x :: L) [.ref a, .int b, .ref c] M Q ↔ Wp d 197 322 (v0 :: v1 :: v2 :: .int x :: L) [.int x, .ref a, .int b, .ref c] M Q) ∧
    (∀ (d : Nat) (a : Int32) (b : Nat) (c : Int32) (d2 : Nat) (L : List Value) (M : Mem) (Q : Option Value → Mem → Prop), Wp d 197 322 L [.int a, .ref b, .int c, .ref d2] M Q ↔ Wp d 197 323 L [.int 2, .int a, .ref b, .int c, .ref d2] M Q) ∧
    (∀ (d : Nat) (a : Int32) (b : Int32) (c : Nat) (d2 : Int32) (e : Nat) (L : List Value) (M : Mem) (Q : Option Value → Mem → Prop), Wp d 197 323 L [.int a, .int b, .ref c, .int d2, .ref e] M Q ↔ Wp d 197 324 L [.int (b + a), .ref c, .int d2, .ref e] M Q) ∧
    (∀ (d : Nat) (a : Int32) (b : Nat) (c : Int32) (d2 : Nat) (L : List Value) (M : Mem) (Q : Option Value → Mem → Prop), Wp d 197 324 L [.int a, .ref b, .int c, .ref d2] M Q ↔ ((isR b = true ∧ inr a (lnm M b)) ∧ Wp d 197 325 L [.int (M b a.toNatClampNeg), .int c, .ref d2] M Q)) ∧
    (∀ (d : Nat) (a : Int32) (b : Int32) (c : Nat) (L : List Value) (M : Mem) (Q : Option Value → Mem → Prop), Wp (d + 1) 197 325 L [.int a, .int b, .ref c] M Q ↔ (isK c 11 = true ∧ Wp d 78 0 [.ref c, .int b, .int a] [] M (fun r M2 => Wp (d + 1) 197 328 L (r.toList ++ []) M2 Q))) ∧
    (∀ (d : Nat) (a : Int32) (v0 : Value) (v1 : Value) (x : Nat) (L : List Value) (M : Mem) (Q : Option Value → Mem → Prop), Wp d 197 328 (v0 :: v1 :: .ref x :: L) [.int a] M Q ↔ Wp d 197 329 (v0 :: v1 :: .ref x :: L) [.ref x, .int a] M Q) ∧
    (∀ (d : Nat) (a : Nat) (b : Int32) (x : Nat) (L : List Value) (M : Mem) (Q : Option Value → Mem → Prop), Wp d 197 329 (.ref x :: L) [.ref a, .int b] M Q ↔ Wp d 197 330 (.ref x :: L) [.ref x, .ref a, .int b] M Q) ∧
    (∀ (d : Nat) (a : Nat) (b : Nat) (c : Int32) (v0 : Value) (v1 : Value) (v2 : Value) (x : Int32) (L : List Value) (M : Mem) (Q : Option Value → Mem → Prop), Wp d 197 330 (v0 :: v1 :: v2 :: .int x :: L) [.ref a, .ref b, .int c] M Q ↔ Wp d 197 331 (v0 :: v1 :: v2 :: .int x :: L) [.int x, .ref a, .ref b, .int c] M Q) ∧
    (∀ (d : Nat) (a : Int32) (b : Nat) (c : Nat) (d2 : Int32) (L : List Value) (M : Mem) (Q : Option Value → Mem → Prop), Wp d 197 331 L [.int a, .ref b, .ref c, .int d2] M Q ↔ Wp d 197 332 L [.int 1, .int a, .ref b, .ref c, .int d2] M Q) ∧
    (∀ (d : Nat) (a : Int32) (b : Int32) (c : Nat) (d2 : Nat) (e : Int32) (L : List Value) (M : Mem) (Q : Option Value → Mem → Prop), Wp d 197 332 L [.int a, .int b, .ref c, .ref d2, .int e] M Q ↔ Wp d 197 333 L [.int (b + a), .ref c, .ref d2, .int e] M Q) ∧
    (∀ (d : Nat) (a : Int32) (b : Nat) (c : Nat) (d2 : Int32) (L : List Value) (M : Mem) (Q : Option Value → Mem → Prop), Wp d 197 333 L [.int a, .ref b, .ref c, .int d2] M Q ↔ ((isR b = true ∧ inr a (lnm M b)) ∧ Wp d 197 334 L [.int (M b a.toNatClampNeg), .ref c, .int d2] M Q)) ∧
    (∀ (d : Nat) (a : Int32) (b : Nat) (c : Int32) (x : Nat) (L : List Value) (M : Mem) (Q : Option Value → Mem → Prop), Wp d 197 334 (.ref x :: L) [.int a, .ref b, .int c] M Q ↔ Wp d 197 335 (.ref x :: L) [.ref x, .int a, .ref b, .int c] M Q) ∧
    (∀ (d : Nat) (a : Nat) (b : Int32) (c : Nat) (d2 : Int32) (v0 : Value) (v1 : Value) (v2 : Value) (x : Int32) (L : List Value) (M : Mem) (Q : Option Value → Mem → Prop), Wp d 197 335 (v0 :: v1 :: v2 :: .int x :: L) [.ref a, .int b, .ref c, .int d2] M Q ↔ Wp d 197 336 (v0 :: v1 :: v2 :: .int x :: L) [.int x, .ref a, .int b, .ref c, .int d2] M Q) ∧
    (∀ (d : Nat) (a : Int32) (b : Nat) (c : Int32) (d2 : Nat) (e : Int32) (L : List Value) (M : Mem) (Q : Option Value → Mem → Prop), Wp d 197 336 L [.int a, .ref b, .int c, .ref d2, .int e] M Q ↔ Wp d 197 337 L [.int 2, .int a, .ref b, .int c, .ref d2, .int e] M Q) ∧
    (∀ (d : Nat) (a : Int32) (b : Int32) (c : Nat) (d2 : Int32) (e : Nat) (f : Int32) (L : List Value) (M : Mem) (Q : Option Value → Mem → Prop), Wp d 197 337 L [.int a, .int b, .ref c, .int d2, .ref e, .int f] M Q ↔ Wp d 197 338 L [.int (b + a), .ref c, .int d2, .ref e, .int f] M Q) ∧
    (∀ (d : Nat) (a : Int32) (b : Nat) (c : Int32) (d2 : Nat) (e : Int32) (L : List Value) (M : Mem) (Q : Option Value → Mem → Prop), Wp d 197 338 L [.int a, .ref b, .int c, .ref d2, .int e] M Q ↔ ((isR b = true ∧ inr a (lnm M b)) ∧ Wp d 197 339 L [.int (M b a.toNatClampNeg), .int c, .ref d2, .int e] M Q)) ∧
    (∀ (d : Nat) (a : Int32) (b : Int32) (c : Nat) (d2 : Int32) (L : List Value) (M : Mem) (Q : Option Value → Mem → Prop), Wp (d + 1) 197 339 L [.int a, .int b, .ref c, .int d2] M Q ↔ (isK c 12 = true ∧ Wp d 144 0 [.ref c, .int b, .int a] [] M (fun r M2 => Wp (d + 1) 197 342 L (r.toList ++ [.int d2]) M2 Q))) ∧
    (∀ (d : Nat) (a : Int32) (b : Int32) (L : List Value) (M : Mem) (Q : Option Value → Mem → Prop), Wp d 197 342 L [.int a, .int b] M Q ↔ (if b = a then Wp d 197 1018 L [] M Q else Wp d 197 345 L [] M Q)) ∧
    (∀ (d : Nat) (L : List Value) (M : Mem) (Q : Option Value → Mem → Prop), Wp d 197 345 L [] M Q ↔ Wp d 197 346 L [.int 0] M Q) ∧
    (∀ (d : Nat) (a : Int32) (L : List Value) (M : Mem) (Q : Option Value → Mem → Prop), Wp d 197 346 L [.int a] M Q ↔ ((a = 0 ∨ a = 1) ∧ Q (some (.int a)) M)) ∧
    (∀ (d : Nat) (v0 : Value) (x : Nat) (L : List Value) (M : Mem) (Q : Option Value → Mem → Prop), Wp d 197 347 (v0 :: .ref x :: L) [] M Q ↔ Wp d 197 348 (v0 :: .ref x :: L) [.ref x] M Q) ∧
    (∀ (d : Nat) (a : Nat) (x : Nat) (L : List Value) (M : Mem) (Q : Option Value → Mem → Prop), Wp d 197 348 (.ref x :: L) [.ref a] M Q ↔ Wp d 197 349 (.ref x :: L) [.ref x, .ref a] M Q) ∧
    (∀ (d : Nat) (a : Nat) (b : Nat) (v0 : Value) (v1 : Value) (v2 : Value) (x : Int32) (L : List Value) (M : Mem) (Q : Option Value → Mem → Prop), Wp d 197 349 (v0 :: v1 :: v2 :: .int x :: L) [.ref a, .ref b] M Q ↔ Wp d 197 350 (v0 :: v1 :: v2 :: .int x :: L) [.int x, .ref a, .ref b] M Q) ∧
    (∀ (d : Nat) (a : Int32) (b : Nat) (c : Nat) (L : List Value) (M : Mem) (Q : Option Value → Mem → Prop), Wp d 197 350 L [.int a, .ref b, .ref c] M Q ↔ Wp d 197 351 L [.int 1, .int a, .ref b, .ref c] M Q) ∧
    (∀ (d : Nat) (a : Int32) (b : Int32) (c : Nat) (d2 : Nat) (L : List Value) (M : Mem) (Q : Option Value → Mem → Prop), Wp d 197 351 L [.int a, .int b, .ref c, .ref d2] M Q ↔ Wp d 197 352 L [.int (b + a), .ref c, .ref d2] M Q) ∧
    (∀ (d : Nat) (a : Int32) (b : Nat) (c : Nat) (L : List Value) (M : Mem) (Q : Option Value → Mem → Prop), Wp d 197 352 L [.int a, .ref b, .ref c] M Q ↔ ((isR b = true ∧ inr a (lnm M b)) ∧ Wp d 197 353 L [.int (M b a.toNatClampNeg), .ref c] M Q)) ∧
    (∀ (d : Nat) (a : Int32) (b : Nat) (x : Nat) (L : List Value) (M : Mem) (Q : Option Value → Mem → Prop), Wp d 197 353 (.ref x :: L) [.int a, .ref b] M Q ↔ Wp d 197 354 (.ref x :: L) [.ref x, .int a, .ref b] M Q) ∧
    (∀ (d : Nat) (a : Nat) (b : Int32) (c : Nat) (v0 : Value) (v1 : Value) (v2 : Value) (x : Int32) (L : List Value) (M : Mem) (Q : Option Value → Mem → Prop), Wp d 197 354 (v0 :: v1 :: v2 :: .int x :: L) [.ref a, .int b, .ref c] M Q ↔ Wp d 197 355 (v0 :: v1 :: v2 :: .int x :: L) [.int x, .ref a, .int b, .ref c] M Q) ∧
    (∀ (d : Nat) (a : Int32) (b : Nat) (c : Int32) (d2 : Nat) (L : List Value) (M : Mem) (Q : Option Value → Mem → Prop), Wp d 197 355 L [.int a, .ref b, .int c, .ref d2] M Q ↔ Wp d 197 356 L [.int 2, .int a, .ref b, .int c, .ref d2] M Q) ∧
    (∀ (d : Nat) (a : Int32) (b : Int32) (c : Nat) (d2 : Int32) (e : Nat) (L : List Value) (M : Mem) (Q : Option Value → Mem → Prop), Wp d 197 356 L [.int a, .int b, .ref c, .int d2, .ref e] M Q ↔ Wp d 197 357 L [.int (b + a), .ref c, .int d2, .ref e] M Q) ∧
    (∀ (d : Nat) (a : Int32) (b : Nat) (c : Int32) (d2 : Nat) (L : List Value) (M : Mem) (Q : Option Value → Mem → Prop), Wp d 197 357 L [.int a, .ref b, .int c, .ref d2] M Q ↔ ((isR b = true ∧ inr a (lnm M b)) ∧ Wp d 197 358 L [.int (M b a.toNatClampNeg), .int c, .ref d2] M Q)) ∧
    (∀ (d : Nat) (a : Int32) (b : Int32) (c : Nat) (L : List Value) (M : Mem) (Q : Option Value → Mem → Prop), Wp (d + 1) 197 358 L [.int a, .int b, .ref c] M Q ↔ (isK c 11 = true ∧ Wp d 80 0 [.ref c, .int b, .int a] [] M (fun r M2 => Wp (d + 1) 197 361 L (r.toList ++ []) M2 Q))) ∧
    (∀ (d : Nat) (a : Int32) (v0 : Value) (v1 : Value) (x : Nat) (L : List Value) (M : Mem) (Q : Option Value → Mem → Prop), Wp d 197 361 (v0 :: v1 :: .ref x :: L) [.int a] M Q ↔ Wp d 197 362 (v0 :: v1 :: .ref x :: L) [.ref x, .int a] M Q) ∧
    (∀ (d : Nat) (a : Nat) (b : Int32) (x : Nat) (L : List Value) (M : Mem) (Q : Option Value → Mem → Prop), Wp d 197 362 (.ref x :: L) [.ref a, .int b] M Q ↔ Wp d 197 363 (.ref x :: L) [.ref x, .ref a, .int b] M Q) ∧
    (∀ (d : Nat) (a : Nat) (b : Nat) (c : Int32) (v0 : Value) (v1 : Value) (v2 : Value) (x : Int32) (L : List Value) (M : Mem) (Q : Option Value → Mem → Prop), Wp d 197 363 (v0 :: v1 :: v2 :: .int x :: L) [.ref a, .ref b, .int c] M Q ↔ Wp d 197 364 (v0 :: v1 :: v2 :: .int x :: L) [.int x, .ref a, .ref b, .int c] M Q) ∧
    (∀ (d : Nat) (a : Int32) (b : Nat) (c : Nat) (d2 : Int32) (L : List Value) (M : Mem) (Q : Option Value → Mem → Prop), Wp d 197 364 L [.int a, .ref b, .ref c, .int d2] M Q ↔ Wp d 197 365 L [.int 1, .int a, .ref b, .ref c, .int d2] M Q) ∧
    (∀ (d : Nat) (a : Int32) (b : Int32) (c : Nat) (d2 : Nat) (e : Int32) (L : List Value) (M : Mem) (Q : Option Value → Mem → Prop), Wp d 197 365 L [.int a, .int b, .ref c, .ref d2, .int e] M Q ↔ Wp d 197 366 L [.int (b + a), .ref c, .ref d2, .int e] M Q) ∧
    (∀ (d : Nat) (a : Int32) (b : Nat) (c : Nat) (d2 : Int32) (L : List Value) (M : Mem) (Q : Option Value → Mem → Prop), Wp d 197 366 L [.int a, .ref b, .ref c, .int d2] M Q ↔ ((isR b = true ∧ inr a (lnm M b)) ∧ Wp d 197 367 L [.int (M b a.toNatClampNeg), .ref c, .int d2] M Q)) ∧
    (∀ (d : Nat) (a : Int32) (b : Nat) (c : Int32) (x : Nat) (L : List Value) (M : Mem) (Q : Option Value → Mem → Prop), Wp d 197 367 (.ref x :: L) [.int a, .ref b, .int c] M Q ↔ Wp d 197 368 (.ref x :: L) [.ref x, .int a, .ref b, .int c] M Q) ∧
    (∀ (d : Nat) (a : Nat) (b : Int32) (c : Nat) (d2 : Int32) (v0 : Value) (v1 : Value) (v2 : Value) (x : Int32) (L : List Value) (M : Mem) (Q : Option Value → Mem → Prop), Wp d 197 368 (v0 :: v1 :: v2 :: .int x :: L) [.ref a, .int b, .ref c, .int d2] M Q ↔ Wp d 197 369 (v0 :: v1 :: v2 :: .int x :: L) [.int x, .ref a, .int b, .ref c, .int d2] M Q) ∧
    (∀ (d : Nat) (a : Int32) (b : Nat) (c : Int32) (d2 : Nat) (e : Int32) (L : List Value) (M : Mem) (Q : Option Value → Mem → Prop), Wp d 197 369 L [.int a, .ref b, .int c, .ref d2, .int e] M Q ↔ Wp d 197 370 L [.int 2, .int a, .ref b, .int c, .ref d2, .int e] M Q) ∧
    (∀ (d : Nat) (a : Int32) (b : Int32) (c : Nat) (d2 : Int32) (e : Nat) (f : Int32) (L : List Value) (M : Mem) (Q : Option Value → Mem → Prop), Wp d 197 370 L [.int a, .int b, .ref c, .int d2, .ref e, .int f] M Q ↔ Wp d 197 371 L [.int (b + a), .ref c, .int d2, .ref e, .int f] M Q) ∧
    (∀ (d : Nat) (a : Int32) (b : Nat) (c : Int32) (d2 : Nat) (e : Int32) (L : List Value) (M : Mem) (Q : Option Value → Mem → Prop), Wp d 197 371 L [.int a, .ref b, .int c, .ref d2, .int e] M Q ↔ ((isR b = true ∧ inr a (lnm M b)) ∧ Wp d 197 372 L [.int (M b a.toNatClampNeg), .int c, .ref d2, .int e] M Q)) ∧
    (∀ (d : Nat) (a : Int32) (b : Int32) (c : Nat) (d2 : Int32) (L : List Value) (M : Mem) (Q : Option Value → Mem → Prop), Wp (d + 1) 197 372 L [.int a, .int b, .ref c, .int d2] M Q ↔ (isK c 12 = true ∧ Wp d 145 0 [.ref c, .int b, .int a] [] M (fun r M2 => Wp (d + 1) 197 375 L (r.toList ++ [.int d2]) M2 Q))) ∧
    (∀ (d : Nat) (a : Int32) (b : Int32) (L : List Value) (M : Mem) (Q : Option Value → Mem → Prop), Wp d 197 375 L [.int a, .int b] M Q ↔ (if b = a then Wp d 197 1018 L [] M Q else Wp d 197 378 L [] M Q)) ∧
    (∀ (d : Nat) (L : List Value) (M : Mem) (Q : Option Value → Mem → Prop), Wp d 197 378 L [] M Q ↔ Wp d 197 379 L [.int 0] M Q) ∧
    (∀ (d : Nat) (a : Int32) (L : List Value) (M : Mem) (Q : Option Value → Mem → Prop), Wp d 197 379 L [.int a] M Q ↔ ((a = 0 ∨ a = 1) ∧ Q (some (.int a)) M)) ∧
    (∀ (d : Nat) (v0 : Value) (x : Nat) (L : List Value) (M : Mem) (Q : Option Value → Mem → Prop), Wp d 197 380 (v0 :: .ref x :: L) [] M Q ↔ Wp d 197 381 (v0 :: .ref x :: L) [.ref x] M Q) ∧
    (∀ (d : Nat) (a : Nat) (x : Nat) (L : List Value) (M : Mem) (Q : Option Value → Mem → Prop), Wp d 197 381 (.ref x :: L) [.ref a] M Q ↔ Wp d 197 382 (.ref x :: L) [.ref x, .ref a] M Q) ∧
    (∀ (d : Nat) (a : Nat) (b : Nat) (v0 : Value) (v1 : Value) (v2 : Value) (x : Int32) (L : List Value) (M : Mem) (Q : Option Value → Mem → Prop), Wp d 197 382 (v0 :: v1 :: v2 :: .int x :: L) [.ref a, .ref b] M Q ↔ Wp d 197 383 (v0 :: v1 :: v2 :: .int x :: L) [.int x, .ref a, .ref b] M Q) ∧
    (∀ (d : Nat) (a : Int32) (b : Nat) (c : Nat) (L : List Value) (M : Mem) (Q : Option Value → Mem → Prop), Wp d 197 383 L [.int a, .ref b, .ref c] M Q ↔ Wp d 197 384 L [.int 1, .int a, .ref b, .ref c] M Q) ∧
    (∀ (d : Nat) (a : Int32) (b : Int32) (c : Nat) (d2 : Nat) (L : List Value) (M : Mem) (Q : Option Value → Mem → Prop), Wp d 197 384 L [.int a, .int b, .ref c, .ref d2] M Q ↔ Wp d 197 385 L [.int (b + a), .ref c, .ref d2] M Q) ∧
    (∀ (d : Nat) (a : Int32) (b : Nat) (c : Nat) (L : List Value) (M : Mem) (Q : Option Value → Mem → Prop), Wp d 197 385 L [.int a, .ref b, .ref c] M Q ↔ ((isR b = true ∧ inr a (lnm M b)) ∧ Wp d 197 386 L [.int (M b a.toNatClampNeg), .ref c] M Q)) ∧
    (∀ (d : Nat) (a : Int32) (b : Nat) (L : List Value) (M : Mem) (Q : Option Value → Mem → Prop), Wp (d + 1) 197 386 L [.int a, .ref b] M Q ↔ (isK b 11 = true ∧ Wp d 81 0 [.ref b, .int a, .null, .null] [] M (fun r M2 => Wp (d + 1) 197 389 L (r.toList ++ []) M2 Q))) := by
  refine ⟨?_, ?_, ?_, ?_, ?_, ?_, ?_, ?_, ?_, ?_, ?_, ?_, ?_, ?_, ?_, ?_, ?_, ?_, ?_, ?_, ?_, ?_, ?_, ?_, ?_, ?_, ?_, ?_, ?_, ?_, ?_, ?_, ?_, ?_, ?_, ?_, ?_, ?_, ?_, ?_, ?_, ?_, ?_, ?_, ?_, ?_, ?_, ?_, ?_, ?_, ?_, ?_, ?_, ?_, ?_, ?_, ?_, ?_, ?_, ?_⟩
  · intro d a x L M Q; exact Wp_sim (by decide +kernel : decode (cd 197) 315 = .ok (.aload_n 0, 1)) rfl rfl
  · intro d a b v0 v1 v2 x L M Q; exact Wp_sim (by decide +kernel : decode (cd 197) 316 = .ok (.iload_n 3, 1)) rfl rfl
  · intro d a b c L M Q; exact Wp_sim (by decide +kernel : decode (cd 197) 317 = .ok (.iconst 1, 1)) rfl rfl
  · intro d a b c d2 L M Q; exact Wp_sim (by decide +kernel : decode (cd 197) 318 = .ok (.iadd , 1)) rfl rfl
  · intro d a b c L M Q; exact q_ald (by decide +kernel : decode (cd 197) 319 = .ok (.iaload , 1))
  · intro d a b x L M Q; exact Wp_sim (by decide +kernel : decode (cd 197) 320 = .ok (.aload_n 0, 1)) rfl rfl
  · intro d a b c v0 v1 v2 x L M Q; exact Wp_sim (by decide +kernel : decode (cd 197) 321 = .ok (.iload_n 3, 1)) rfl rfl
  · intro d a b c d2 L M Q; exact Wp_sim (by decide +kernel : decode (cd 197) 322 = .ok (.iconst 2, 1)) rfl rfl
  · intro d a b c d2 e L M Q; exact Wp_sim (by decide +kernel : decode (cd 197) 323 = .ok (.iadd , 1)) rfl rfl
  · intro d a b c d2 L M Q; exact q_ald (by decide +kernel : decode (cd 197) 324 = .ok (.iaload , 1))
  · intro d a b c L M Q; exact q_invV (pz := 526) (n := 2) (c := 11) (m := 3) (k := c) (As := [.int b, .int a]) (rest := []) (by decide +kernel : decode (cd 197) 325 = .ok (.invokevirtual 40, 3)) (by decide +kernel) (by decide +kernel) rfl rfl (Nat.le_of_ble_eq_true rfl) (Nat.le_of_ble_eq_true rfl) rfl
  · intro d a v0 v1 x L M Q; exact Wp_sim (by decide +kernel : decode (cd 197) 328 = .ok (.aload_n 2, 1)) rfl rfl
  · intro d a b x L M Q; exact Wp_sim (by decide +kernel : decode (cd 197) 329 = .ok (.aload_n 0, 1)) rfl rfl
  · intro d a b c v0 v1 v2 x L M Q; exact Wp_sim (by decide +kernel : decode (cd 197) 330 = .ok (.iload_n 3, 1)) rfl rfl
  · intro d a b c d2 L M Q; exact Wp_sim (by decide +kernel : decode (cd 197) 331 = .ok (.iconst 1, 1)) rfl rfl
  · intro d a b c d2 e L M Q; exact Wp_sim (by decide +kernel : decode (cd 197) 332 = .ok (.iadd , 1)) rfl rfl
  · intro d a b c d2 L M Q; exact q_ald (by decide +kernel : decode (cd 197) 333 = .ok (.iaload , 1))
  · intro d a b c x L M Q; exact Wp_sim (by decide +kernel : decode (cd 197) 334 = .ok (.aload_n 0, 1)) rfl rfl
  · intro d a b c d2 v0 v1 v2 x L M Q; exact Wp_sim (by decide +kernel : decode (cd 197) 335 = .ok (.iload_n 3, 1)) rfl rfl
  · intro d a b c d2 e L M Q; exact Wp_sim (by decide +kernel : decode (cd 197) 336 = .ok (.iconst 2, 1)) rfl rfl
  · intro d a b c d2 e f L M Q; exact Wp_sim (by decide +kernel : decode (cd 197) 337 = .ok (.iadd , 1)) rfl rfl
  · intro d a b c d2 e L M Q; exact q_ald (by decide +kernel : decode (cd 197) 338 = .ok (.iaload , 1))
  · intro d a b c d2 L M Q; exact q_invV (pz := 1065) (n := 2) (c := 12) (m := 3) (k := c) (As := [.int b, .int a]) (rest := [.int d2]) (by decide +kernel : decode (cd 197) 339 = .ok (.invokevirtual 43, 3)) (by decide +kernel) (by decide +kernel) rfl rfl (Nat.le_of_ble_eq_true rfl) (Nat.le_of_ble_eq_true rfl) rfl
  · intro d a b L M Q; exact q_ieq (by decide +kernel : decode (cd 197) 342 = .ok (.if_icmp .eq 676, 3)) (by decide)
  · intro d L M Q; exact Wp_sim (by decide +kernel : decode (cd 197) 345 = .ok (.iconst 0, 1)) rfl rfl
  · intro d a L M Q; exact q_zret (by decide +kernel : decode (cd 197) 346 = .ok (.ireturn , 1)) (by decide +kernel)
  · intro d v0 x L M Q; exact Wp_sim (by decide +kernel : decode (cd 197) 347 = .ok (.aload_n 1, 1)) rfl rfl
  · intro d a x L M Q; exact Wp_sim (by decide +kernel : decode (cd 197) 348 = .ok (.aload_n 0, 1)) rfl rfl
  · intro d a b v0 v1 v2 x L M Q; exact Wp_sim (by decide +kernel : decode (cd 197) 349 = .ok (.iload_n 3, 1)) rfl rfl
  · intro d a b c L M Q; exact Wp_sim (by decide +kernel : decode (cd 197) 350 = .ok (.iconst 1, 1)) rfl rfl
  · intro d a b c d2 L M Q; exact Wp_sim (by decide +kernel : decode (cd 197) 351 = .ok (.iadd , 1)) rfl rfl
  · intro d a b c L M Q; exact q_ald (by decide +kernel : decode (cd 197) 352 = .ok (.iaload , 1))
  · intro d a b x L M Q; exact Wp_sim (by decide +kernel : decode (cd 197) 353 = .ok (.aload_n 0, 1)) rfl rfl
  · intro d a b c v0 v1 v2 x L M Q; exact Wp_sim (by decide +kernel : decode (cd 197) 354 = .ok (.iload_n 3, 1)) rfl rfl
  · intro d a b c d2 L M Q; exact Wp_sim (by decide +kernel : decode (cd 197) 355 = .ok (.iconst 2, 1)) rfl rfl
  · intro d a b c d2 e L M Q; exact Wp_sim (by decide +kernel : decode (cd 197) 356 = .ok (.iadd , 1)) rfl rfl
  · intro d a b c d2 L M Q; exact q_ald (by decide +kernel : decode (cd 197) 357 = .ok (.iaload , 1))
  · intro d a b c L M Q; exact q_invV (pz := 535) (n := 2) (c := 11) (m := 3) (k := c) (As := [.int b, .int a]) (rest := []) (by decide +kernel : decode (cd 197) 358 = .ok (.invokevirtual 44, 3)) (by decide +kernel) (by decide +kernel) rfl rfl (Nat.le_of_ble_eq_true rfl) (Nat.le_of_ble_eq_true rfl) rfl
  · intro d a v0 v1 x L M Q; exact Wp_sim (by decide +kernel : decode (cd 197) 361 = .ok (.aload_n 2, 1)) rfl rfl
  · intro d a b x L M Q; exact Wp_sim (by decide +kernel : decode (cd 197) 362 = .ok (.aload_n 0, 1)) rfl rfl
  · intro d a b c v0 v1 v2 x L M Q; exact Wp_sim (by decide +kernel : decode (cd 197) 363 = .ok (.iload_n 3, 1)) rfl rfl
  · intro d a b c d2 L M Q; exact Wp_sim (by decide +kernel : decode (cd 197) 364 = .ok (.iconst 1, 1)) rfl rfl
  · intro d a b c d2 e L M Q; exact Wp_sim (by decide +kernel : decode (cd 197) 365 = .ok (.iadd , 1)) rfl rfl
  · intro d a b c d2 L M Q; exact q_ald (by decide +kernel : decode (cd 197) 366 = .ok (.iaload , 1))
  · intro d a b c x L M Q; exact Wp_sim (by decide +kernel : decode (cd 197) 367 = .ok (.aload_n 0, 1)) rfl rfl
  · intro d a b c d2 v0 v1 v2 x L M Q; exact Wp_sim (by decide +kernel : decode (cd 197) 368 = .ok (.iload_n 3, 1)) rfl rfl
  · intro d a b c d2 e L M Q; exact Wp_sim (by decide +kernel : decode (cd 197) 369 = .ok (.iconst 2, 1)) rfl rfl
  · intro d a b c d2 e f L M Q; exact Wp_sim (by decide +kernel : decode (cd 197) 370 = .ok (.iadd , 1)) rfl rfl
  · intro d a b c d2 e L M Q; exact q_ald (by decide +kernel : decode (cd 197) 371 = .ok (.iaload , 1))
  · intro d a b c d2 L M Q; exact q_invV (pz := 1069) (n := 2) (c := 12) (m := 3) (k := c) (As := [.int b, .int a]) (rest := [.int d2]) (by decide +kernel : decode (cd 197) 372 = .ok (.invokevirtual 47, 3)) (by decide +kernel) (by decide +kernel) rfl rfl (Nat.le_of_ble_eq_true rfl) (Nat.le_of_ble_eq_true rfl) rfl
  · intro d a b L M Q; exact q_ieq (by decide +kernel : decode (cd 197) 375 = .ok (.if_icmp .eq 643, 3)) (by decide)
  · intro d L M Q; exact Wp_sim (by decide +kernel : decode (cd 197) 378 = .ok (.iconst 0, 1)) rfl rfl
  · intro d a L M Q; exact q_zret (by decide +kernel : decode (cd 197) 379 = .ok (.ireturn , 1)) (by decide +kernel)
  · intro d v0 x L M Q; exact Wp_sim (by decide +kernel : decode (cd 197) 380 = .ok (.aload_n 1, 1)) rfl rfl
  · intro d a x L M Q; exact Wp_sim (by decide +kernel : decode (cd 197) 381 = .ok (.aload_n 0, 1)) rfl rfl
  · intro d a b v0 v1 v2 x L M Q; exact Wp_sim (by decide +kernel : decode (cd 197) 382 = .ok (.iload_n 3, 1)) rfl rfl
  · intro d a b c L M Q; exact Wp_sim (by decide +kernel : decode (cd 197) 383 = .ok (.iconst 1, 1)) rfl rfl
  · intro d a b c d2 L M Q; exact Wp_sim (by decide +kernel : decode (cd 197) 384 = .ok (.iadd , 1)) rfl rfl
  · intro d a b c L M Q; exact q_ald (by decide +kernel : decode (cd 197) 385 = .ok (.iaload , 1))
  · intro d a b L M Q; exact q_invV (pz := 539) (n := 1) (c := 11) (m := 4) (k := b) (As := [.int a]) (rest := []) (by decide +kernel : decode (cd 197) 386 = .ok (.invokevirtual 48, 3)) (by decide +kernel) (by decide +kernel) rfl rfl (Nat.le_of_ble_eq_true rfl) (Nat.le_of_ble_eq_true rfl) rfl
set_option maxRecDepth 10000 in
theorem e197_3 : (∀ (d : Nat) (a : Int32) (v0 : Value) (v1 : Value) (x : Nat) (L : List Value) (M : Mem) (Q : Option Value → Mem → Prop), Wp d 197 389 (v0 :: v1 :: .ref x :: L) [.int a] M Q ↔ Wp d 197 390 (v0 :: v1 :: .ref x :: L) [.ref x, .int a] M Q) ∧
    (∀ (d : Nat) (a : Nat) (b : Int32) (x : Nat) (L : List Value) (M : Mem) (Q : Option Value → Mem → Prop), Wp d 197 390 (.ref x :: L) [.ref a, .int b] M Q ↔ Wp d 197 391 (.ref x :: L) [.ref x, .ref a, .int b] M Q) ∧
    (∀ (d : Nat) (a : Nat) (b : Nat) (c : Int32) (v0 : Value) (v1 : Value) (v2 : Value) (x : Int32) (L : List Value) (M : Mem) (Q : Option Value → Mem → Prop), Wp d 197 391 (v0 :: v1 :: v2 :: .int x :: L) [.ref a, .ref b, .int c] M Q ↔ Wp d 197 392 (v0 :: v1 :: v2 :: .int x :: L) [.int x, .ref a, .ref b, .int c] M Q) ∧
    (∀ (d : Nat) (a : Int32) (b : Nat) (c : Nat) (d2 : Int32) (L : List Value) (M : Mem) (Q : Option Value → Mem → Prop), Wp d 197 392 L [.int a, .ref b, .ref c, .int d2] M Q ↔ Wp d 197 393 L [.int 1, .int a, .ref b, .ref c, .int d2] M Q) ∧
    (∀ (d : Nat) (a : Int32) (b : Int32) (c : Nat) (d2 : Nat) (e : Int32) (L : List Value) (M : Mem) (Q : Option Value → Mem → Prop), Wp d 197 393 L [.int a, .int b, .ref c, .ref d2, .int e] M Q ↔ Wp d 197 394 L [.int (b + a), .ref c, .ref d2, .int e] M Q) ∧
    (∀ (d : Nat) (a : Int32) (b : Nat) (c : Nat) (d2 : Int32) (L : List Value) (M : Mem) (Q : Option Value → Mem → Prop), Wp d 197 394 L [.int a, .ref b, .ref c, .int d2] M Q ↔ ((isR b = true ∧ inr a (lnm M b)) ∧ Wp d 197 395 L [.int (M b a.toNatClampNeg), .ref c, .int d2] M Q)) ∧
    (∀ (d : Nat) (a : Int32) (b : Nat) (c : Int32) (L : List Value) (M : Mem) (Q : Option Value → Mem → Prop), Wp (d + 1) 197 395 L [.int a, .ref b, .int c] M Q ↔ (isK b 12 = true ∧ Wp d 146 0 [.ref b, .int a, .null, .null] [] M (fun r M2 => Wp (d + 1) 197 398 L (r.toList ++ [.int c]) M2 Q))) ∧
    (∀ (d : Nat) (a : Int32) (b : Int32) (L : List Value) (M : Mem) (Q : Option Value → Mem → Prop), Wp d 197 398 L [.int a, .int b] M Q ↔ (if b = a then Wp d 197 1018 L [] M Q else Wp d 197 401 L [] M Q)) ∧
    (∀ (d : Nat) (L : List Value) (M : Mem) (Q : Option Value → Mem → Prop), Wp d 197 401 L [] M Q ↔ Wp d 197 402 L [.int 0] M Q) ∧
    (∀ (d : Nat) (a : Int32) (L : List Value) (M : Mem) (Q : Option Value → Mem → Prop), Wp d 197 402 L [.int a] M Q ↔ ((a = 0 ∨ a = 1) ∧ Q (some (.int a)) M)) ∧
    (∀ (d : Nat) (v0 : Value) (x : Nat) (L : List Value) (M : Mem) (Q : Option Value → Mem → Prop), Wp d 197 403 (v0 :: .ref x :: L) [] M Q ↔ Wp d 197 404 (v0 :: .ref x :: L) [.ref x] M Q) ∧
    (∀ (d : Nat) (a : Nat) (x : Nat) (L : List Value) (M : Mem) (Q : Option Value → Mem → Prop), Wp d 197 404 (.ref x :: L) [.ref a] M Q ↔ Wp d 197 405 (.ref x :: L) [.ref x, .ref a] M Q) ∧
    (∀ (d : Nat) (a : Nat) (b : Nat) (v0 : Value) (v1 : Value) (v2 : Value) (x : Int32) (L : List Value) (M : Mem) (Q : Option Value → Mem → Prop), Wp d 197 405 (v0 :: v1 :: v2 :: .int x :: L) [.ref a, .ref b] M Q ↔ Wp d 197 406 (v0 :: v1 :: v2 :: .int x :: L) [.int x, .ref a, .ref b] M Q) ∧
    (∀ (d : Nat) (a : Int32) (b : Nat) (c : Nat) (L : List Value) (M : Mem) (Q : Option Value → Mem → Prop), Wp d 197 406 L [.int a, .ref b, .ref c] M Q ↔ Wp d 197 407 L [.int 1, .int a, .ref b, .ref c] M Q) ∧
    (∀ (d : Nat) (a : Int32) (b : Int32) (c : Nat) (d2 : Nat) (L : List Value) (M : Mem) (Q : Option Value → Mem → Prop), Wp d 197 407 L [.int a, .int b, .ref c, .ref d2] M Q ↔ Wp d 197 408 L [.int (b + a), .ref c, .ref d2] M Q) ∧
    (∀ (d : Nat) (a : Int32) (b : Nat) (c : Nat) (L : List Value) (M : Mem) (Q : Option Value → Mem → Prop), Wp d 197 408 L [.int a, .ref b, .ref c] M Q ↔ ((isR b = true ∧ inr a (lnm M b)) ∧ Wp d 197 409 L [.int (M b a.toNatClampNeg), .ref c] M Q)) ∧
    (∀ (d : Nat) (a : Int32) (b : Nat) (L : List Value) (M : Mem) (Q : Option Value → Mem → Prop), Wp (d + 1) 197 409 L [.int a, .ref b] M Q ↔ (isK b 11 = true ∧ Wp d 83 0 [.ref b, .int a] [] M (fun r M2 => Wp (d + 1) 197 412 L (r.toList ++ []) M2 Q))) ∧
    (∀ (d : Nat) (a : Int32) (v0 : Value) (v1 : Value) (x : Nat) (L : List Value) (M : Mem) (Q : Option Value → Mem → Prop), Wp d 197 412 (v0 :: v1 :: .ref x :: L) [.int a] M Q ↔ Wp d 197 413 (v0 :: v1 :: .ref x :: L) [.ref x, .int a] M Q) ∧
    (∀ (d : Nat) (a : Nat) (b : Int32) (x : Nat) (L : List Value) (M : Mem) (Q : Option Value → Mem → Prop), Wp d 197 413 (.ref x :: L) [.ref a, .int b] M Q ↔ Wp d 197 414 (.ref x :: L) [.ref x, .ref a, .int b] M Q) ∧
    (∀ (d : Nat) (a : Nat) (b : Nat) (c : Int32) (v0 : Value) (v1 : Value) (v2 : Value) (x : Int32) (L : List Value) (M : Mem) (Q : Option Value → Mem → Prop), Wp d 197 414 (v0 :: v1 :: v2 :: .int x :: L) [.ref a, .ref b, .int c] M Q ↔ Wp d 197 415 (v0 :: v1 :: v2 :: .int x :: L) [.int x, .ref a, .ref b, .int c] M Q) ∧
    (∀ (d : Nat) (a : Int32) (b : Nat) (c : Nat) (d2 : Int32) (L : List Value) (M : Mem) (Q : Option Value → Mem → Prop), Wp d 197 415 L [.int a, .ref b, .ref c, .int d2] M Q ↔ Wp d 197 416 L [.int 1, .int a, .ref b, .ref c, .int d2] M Q) ∧
    (∀ (d : Nat) (a : Int32) (b : Int32) (c : Nat) (d2 : Nat) (e : Int32) (L : List Value) (M : Mem) (Q : Option Value → Mem → Prop), Wp d 197 416 L [.int a, .int b, .ref c, .ref d2, .int e] M Q ↔ Wp d 197 417 L [.int (b + a), .ref c, .ref d2, .int e] M Q) ∧
    (∀ (d : Nat) (a : Int32) (b : Nat) (c : Nat) (d2 : Int32) (L : List Value) (M : Mem) (Q : Option Value → Mem → Prop), Wp d 197 417 L [.int a, .ref b, .ref c, .int d2] M Q ↔ ((isR b = true ∧ inr a (lnm M b)) ∧ Wp d 197 418 L [.int (M b a.toNatClampNeg), .ref c, .int d2] M Q)) ∧
    (∀ (d : Nat) (a : Int32) (b : Nat) (c : Int32) (L : List Value) (M : Mem) (Q : Option Value → Mem → Prop), Wp (d + 1) 197 418 L [.int a, .ref b, .int c] M Q ↔ (isK b 12 = true ∧ Wp d 152 0 [.ref b, .int a] [] M (fun r M2 => Wp (d + 1) 197 421 L (r.toList ++ [.int c]) M2 Q))) ∧
    (∀ (d : Nat) (a : Int32) (b : Int32) (L : List Value) (M : Mem) (Q : Option Value → Mem → Prop), Wp d 197 421 L [.int a, .int b] M Q ↔ (if b = a then Wp d 197 1018 L [] M Q else Wp d 197 424 L [] M Q)) ∧
    (∀ (d : Nat) (L : List Value) (M : Mem) (Q : Option Value → Mem → Prop), Wp d 197 424 L [] M Q ↔ Wp d 197 425 L [.int 0] M Q) ∧
    (∀ (d : Nat) (a : Int32) (L : List Value) (M : Mem) (Q : Option Value → Mem → Prop), Wp d 197 425 L [.int a] M Q ↔ ((a = 0 ∨ a = 1) ∧ Q (some (.int a)) M)) ∧
    (∀ (d : Nat) (v0 : Value) (x : Nat) (L : List Value) (M : Mem) (Q : Option Value → Mem → Prop), Wp d 197 426 (v0 :: .ref x :: L) [] M Q ↔ Wp d 197 427 (v0 :: .ref x :: L) [.ref x] M Q) ∧
    (∀ (d : Nat) (a : Nat) (x : Nat) (L : List Value) (M : Mem) (Q : Option Value → Mem → Prop), Wp d 197 427 (.ref x :: L) [.ref a] M Q ↔ Wp d 197 428 (.ref x :: L) [.ref x, .ref a] M Q) ∧
    (∀ (d : Nat) (a : Nat) (b : Nat) (v0 : Value) (v1 : Value) (v2 : Value) (x : Int32) (L : List Value) (M : Mem) (Q : Option Value → Mem → Prop), Wp d 197 428 (v0 :: v1 :: v2 :: .int x :: L) [.ref a, .ref b] M Q ↔ Wp d 197 429 (v0 :: v1 :: v2 :: .int x :: L) [.int x, .ref a, .ref b] M Q) ∧
    (∀ (d : Nat) (a : Int32) (b : Nat) (c : Nat) (L : List Value) (M : Mem) (Q : Option Value → Mem → Prop), Wp d 197 429 L [.int a, .ref b, .ref c] M Q ↔ Wp d 197 430 L [.int 1, .int a, .ref b, .ref c] M Q) ∧
    (∀ (d : Nat) (a : Int32) (b : Int32) (c : Nat) (d2 : Nat) (L : List Value) (M : Mem) (Q : Option Value → Mem → Prop), Wp d 197 430 L [.int a, .int b, .ref c, .ref d2] M Q ↔ Wp d 197 431 L [.int (b + a), .ref c, .ref d2] M Q) ∧
    (∀ (d : Nat) (a : Int32) (b : Nat) (c : Nat) (L : List Value) (M : Mem) (Q : Option Value → Mem → Prop), Wp d 197 431 L [.int a, .ref b, .ref c] M Q ↔ ((isR b = true ∧ inr a (lnm M b)) ∧ Wp d 197 432 L [.int (M b a.toNatClampNeg), .ref c] M Q)) ∧
    (∀ (d : Nat) (a : Int32) (b : Nat) (L : List Value) (M : Mem) (Q : Option Value → Mem → Prop), Wp (d + 1) 197 432 L [.int a, .ref b] M Q ↔ (isK b 11 = true ∧ Wp d 84 0 [.ref b, .int a] [] M (fun r M2 => Wp (d + 1) 197 435 L (r.toList ++ []) M2 Q))) ∧
    (∀ (d : Nat) (a : Int32) (v0 : Value) (v1 : Value) (x : Nat) (L : List Value) (M : Mem) (Q : Option Value → Mem → Prop), Wp d 197 435 (v0 :: v1 :: .ref x :: L) [.int a] M Q ↔ Wp d 197 436 (v0 :: v1 :: .ref x :: L) [.ref x, .int a] M Q) ∧
    (∀ (d : Nat) (a : Nat) (b : Int32) (x : Nat) (L : List Value) (M : Mem) (Q : Option Value → Mem → Prop), Wp d 197 436 (.ref x :: L) [.ref a, .int b] M Q ↔ Wp d 197 437 (.ref x :: L) [.ref x, .ref a, .int b] M Q) ∧
    (∀ (d : Nat) (a : Nat) (b : Nat) (c : Int32) (v0 : Value) (v1 : Value) (v2 : Value) (x : Int32) (L : List Value) (M : Mem) (Q : Option Value → Mem → Prop), Wp d 197 437 (v0 :: v1 :: v2 :: .int x :: L) [.ref a, .ref b, .int c] M Q ↔ Wp d 197 438 (v0 :: v1 :: v2 :: .int x :: L) [.int x, .ref a, .ref b, .int c] M Q) ∧
    (∀ (d : Nat) (a : Int32) (b : Nat) (c : Nat) (d2 : Int32) (L : List Value) (M : Mem) (Q : Option Value → Mem → Prop), Wp d 197 438 L [.int a, .ref b, .ref c, .int d2] M Q ↔ Wp d 197 439 L [.int 1, .int a, .ref b, .ref c, .int d2] M Q) ∧
    (∀ (d : Nat) (a : Int32) (b : Int32) (c : Nat) (d2 : Nat) (e : Int32) (L : List Value) (M : Mem) (Q : Option Value → Mem → Prop), Wp d 197 439 L [.int a, .int b, .ref c, .ref d2, .int e] M Q ↔ Wp d 197 440 L [.int (b + a), .ref c, .ref d2, .int e] M Q) ∧
    (∀ (d : Nat) (a : Int32) (b : Nat) (c : Nat) (d2 : Int32) (L : List Value) (M : Mem) (Q : Option Value → Mem → Prop), Wp d 197 440 L [.int a, .ref b, .ref c, .int d2] M Q ↔ ((isR b = true ∧ inr a (lnm M b)) ∧ Wp d 197 441 L [.int (M b a.toNatClampNeg), .ref c, .int d2] M Q)) ∧
    (∀ (d : Nat) (a : Int32) (b : Nat) (c : Int32) (L : List Value) (M : Mem) (Q : Option Value → Mem → Prop), Wp (d + 1) 197 441 L [.int a, .ref b, .int c] M Q ↔ (isK b 12 = true ∧ Wp d 154 0 [.ref b, .int a] [] M (fun r M2 => Wp (d + 1) 197 444 L (r.toList ++ [.int c]) M2 Q))) ∧
    (∀ (d : Nat) (a : Int32) (b : Int32) (L : List Value) (M : Mem) (Q : Option Value → Mem → Prop), Wp d 197 444 L [.int a, .int b] M Q ↔ (if b = a then Wp d 197 1018 L [] M Q else Wp d 197 447 L [] M Q)) ∧
    (∀ (d : Nat) (L : List Value) (M : Mem) (Q : Option Value → Mem → Prop), Wp d 197 447 L [] M Q ↔ Wp d 197 448 L [.int 0] M Q) ∧
    (∀ (d : Nat) (a : Int32) (L : List Value) (M : Mem) (Q : Option Value → Mem → Prop), Wp d 197 448 L [.int a] M Q ↔ ((a = 0 ∨ a = 1) ∧ Q (some (.int a)) M)) ∧
    (∀ (d : Nat) (v0 : Value) (x : Nat) (L : List Value) (M : Mem) (Q : Option Value → Mem → Prop), Wp d 197 449 (v0 :: .ref x :: L) [] M Q ↔ Wp d 197 450 (v0 :: .ref x :: L) [.ref x] M Q) ∧
    (∀ (d : Nat) (a : Nat) (x : Nat) (L : List Value) (M : Mem) (Q : Option Value → Mem → Prop), Wp d 197 450 (.ref x :: L) [.ref a] M Q ↔ Wp d 197 451 (.ref x :: L) [.ref x, .ref a] M Q) ∧
    (∀ (d : Nat) (a : Nat) (b : Nat) (v0 : Value) (v1 : Value) (v2 : Value) (x : Int32) (L : List Value) (M : Mem) (Q : Option Value → Mem → Prop), Wp d 197 451 (v0 :: v1 :: v2 :: .int x :: L) [.ref a, .ref b] M Q ↔ Wp d 197 452 (v0 :: v1 :: v2 :: .int x :: L) [.int x, .ref a, .ref b] M Q) ∧
    (∀ (d : Nat) (a : Int32) (b : Nat) (c : Nat) (L : List Value) (M : Mem) (Q : Option Value → Mem → Prop), Wp d 197 452 L [.int a, .ref b, .ref c] M Q ↔ Wp d 197 453 L [.int 1, .int a, .ref b, .ref c] M Q) ∧
    (∀ (d : Nat) (a : Int32) (b : Int32) (c : Nat) (d2 : Nat) (L : List Value) (M : Mem) (Q : Option Value → Mem → Prop), Wp d 197 453 L [.int a, .int b, .ref c, .ref d2] M Q ↔ Wp d 197 454 L [.int (b + a), .ref c, .ref d2] M Q) ∧
    (∀ (d : Nat) (a : Int32) (b : Nat) (c : Nat) (L : List Value) (M : Mem) (Q : Option Value → Mem → Prop), Wp d 197 454 L [.int a, .ref b, .ref c] M Q ↔ ((isR b = true ∧ inr a (lnm M b)) ∧ Wp d 197 455 L [.int (M b a.toNatClampNeg), .ref c] M Q)) ∧
    (∀ (d : Nat) (a : Int32) (b : Nat) (L : List Value) (M : Mem) (Q : Option Value → Mem → Prop), Wp (d + 1) 197 455 L [.int a, .ref b] M Q ↔ (isK b 11 = true ∧ Wp d 85 0 [.ref b, .int a] [] M (fun r M2 => Wp (d + 1) 197 458 L (r.toList ++ []) M2 Q))) ∧
    (∀ (d : Nat) (a : Int32) (v0 : Value) (v1 : Value) (x : Nat) (L : List Value) (M : Mem) (Q : Option Value → Mem → Prop), Wp d 197 458 (v0 :: v1 :: .ref x :: L) [.int a] M Q ↔ Wp d 197 459 (v0 :: v1 :: .ref x :: L) [.ref x, .int a] M Q) ∧
    (∀ (d : Nat) (a : Nat) (b : Int32) (x : Nat) (L : List Value) (M : Mem) (Q : Option Value → Mem → Prop), Wp d 197 459 (.ref x :: L) [.ref a, .int b] M Q ↔ Wp d 197 460 (.ref x :: L) [.ref x, .ref a, .int b] M Q) ∧
    (∀ (d : Nat) (a : Nat) (b : Nat) (c : Int32) (v0 : Value) (v1 : Value) (v2 : Value) (x : Int32) (L : List Value) (M : Mem) (Q : Option Value → Mem → Prop), Wp d 197 460 (v0 :: v1 :: v2 :: .int x :: L) [.ref a, .ref b, .int c] M Q ↔ Wp d 197 461 (v0 :: v1 :: v2 :: .int x :: L) [.int x, .ref a, .ref b, .int c] M Q) ∧
    (∀ (d : Nat) (a : Int32) (b : Nat) (c : Nat) (d2 : Int32) (L : List Value) (M : Mem) (Q : Option Value → Mem → Prop), Wp d 197 461 L [.int a, .ref b, .ref c, .int d2] M Q ↔ Wp d 197 462 L [.int 1, .int a, .ref b, .ref c, .int d2] M Q) ∧
    (∀ (d : Nat) (a : Int32) (b : Int32) (c : Nat) (d2 : Nat) (e : Int32) (L : List Value) (M : Mem) (Q : Option Value → Mem → Prop), Wp d 197 462 L [.int a, .int b, .ref c, .ref d2, .int e] M Q ↔ Wp d 197 463 L [.int (b + a), .ref c, .ref d2, .int e] M Q) ∧
    (∀ (d : Nat) (a : Int32) (b : Nat) (c : Nat) (d2 : Int32) (L : List Value) (M : Mem) (Q : Option Value → Mem → Prop), Wp d 197 463 L [.int a, .ref b, .ref c, .int d2] M Q ↔ ((isR b = true ∧ inr a (lnm M b)) ∧ Wp d 197 464 L [.int (M b a.toNatClampNeg), .ref c, .int d2] M Q)) ∧
    (∀ (d : Nat) (a : Int32) (b : Nat) (c : Int32) (L : List Value) (M : Mem) (Q : Option Value → Mem → Prop), Wp (d + 1) 197 464 L [.int a, .ref b, .int c] M Q ↔ (isK b 12 = true ∧ Wp d 155 0 [.ref b, .int a] [] M (fun r M2 => Wp (d + 1) 197 467 L (r.toList ++ [.int c]) M2 Q))) ∧
    (∀ (d : Nat) (a : Int32) (b : Int32) (L : List Value) (M : Mem) (Q : Option Value → Mem → Prop), Wp d 197 467 L [.int a, .int b] M Q ↔ (if b = a then Wp d 197 1018 L [] M Q else Wp d 197 470 L [] M Q)) ∧
    (∀ (d : Nat) (L : List Value) (M : Mem) (Q : Option Value → Mem → Prop), Wp d 197 470 L [] M Q ↔ Wp d 197 471 L [.int 0] M Q) := by
  refine ⟨?_, ?_, ?_, ?_, ?_, ?_, ?_, ?_, ?_, ?_, ?_, ?_, ?_, ?_, ?_, ?_, ?_, ?_, ?_, ?_, ?_, ?_, ?_, ?_, ?_, ?_, ?_, ?_, ?_, ?_, ?_, ?_, ?_, ?_, ?_, ?_, ?_, ?_, ?_, ?_, ?_, ?_, ?_, ?_, ?_, ?_, ?_, ?_, ?_, ?_, ?_, ?_, ?_, ?_, ?_, ?_, ?_, ?_, ?_, ?_⟩
  · intro d a v0 v1 x L M Q; exact Wp_sim (by decide +kernel : decode (cd 197) 389 = .ok (.aload_n 2, 1)) rfl rfl
  · intro d a b x L M Q; exact Wp_sim (by decide +kernel : decode (cd 197) 390 = .ok (.aload_n 0, 1)) rfl rfl
  · intro d a b c v0 v1 v2 x L M Q; exact Wp_sim (by decide +kernel : decode (cd 197) 391 = .ok (.iload_n 3, 1)) rfl rfl
  · intro d a b c d2 L M Q; exact Wp_sim (by decide +kernel : decode (cd 197) 392 = .ok (.iconst 1, 1)) rfl rfl
  · intro d a b c d2 e L M Q; exact Wp_sim (by decide +kernel : decode (cd 197) 393 = .ok (.iadd , 1)) rfl rfl
  · intro d a b c d2 L M Q; exact q_ald (by decide +kernel : decode (cd 197) 394 = .ok (.iaload , 1))
  · intro d a b c L M Q; exact q_invV (pz := 1074) (n := 1) (c := 12) (m := 4) (k := b) (As := [.int a]) (rest := [.int c]) (by decide +kernel : decode (cd 197) 395 = .ok (.invokevirtual 51, 3)) (by decide +kernel) (by decide +kernel) rfl rfl (Nat.le_of_ble_eq_true rfl) (Nat.le_of_ble_eq_true rfl) rfl
  · intro d a b L M Q; exact q_ieq (by decide +kernel : decode (cd 197) 398 = .ok (.if_icmp .eq 620, 3)) (by decide)
  · intro d L M Q; exact Wp_sim (by decide +kernel : decode (cd 197) 401 = .ok (.iconst 0, 1)) rfl rfl
  · intro d a L M Q; exact q_zret (by decide +kernel : decode (cd 197) 402 = .ok (.ireturn , 1)) (by decide +kernel)
  · intro d v0 x L M Q; exact Wp_sim (by decide +kernel : decode (cd 197) 403 = .ok (.aload_n 1, 1)) rfl rfl
  · intro d a x L M Q; exact Wp_sim (by decide +kernel : decode (cd 197) 404 = .ok (.aload_n 0, 1)) rfl rfl
  · intro d a b v0 v1 v2 x L M Q; exact Wp_sim (by decide +kernel : decode (cd 197) 405 = .ok (.iload_n 3, 1)) rfl rfl
  · intro d a b c L M Q; exact Wp_sim (by decide +kernel : decode (cd 197) 406 = .ok (.iconst 1, 1)) rfl rfl
  · intro d a b c d2 L M Q; exact Wp_sim (by decide +kernel : decode (cd 197) 407 = .ok (.iadd , 1)) rfl rfl
  · intro d a b c L M Q; exact q_ald (by decide +kernel : decode (cd 197) 408 = .ok (.iaload , 1))
  · intro d a b L M Q; exact q_invV (pz := 576) (n := 1) (c := 11) (m := 2) (k := b) (As := [.int a]) (rest := []) (by decide +kernel : decode (cd 197) 409 = .ok (.invokevirtual 52, 3)) (by decide +kernel) (by decide +kernel) rfl rfl (Nat.le_of_ble_eq_true rfl) (Nat.le_of_ble_eq_true rfl) rfl
  · intro d a v0 v1 x L M Q; exact Wp_sim (by decide +kernel : decode (cd 197) 412 = .ok (.aload_n 2, 1)) rfl rfl
  · intro d a b x L M Q; exact Wp_sim (by decide +kernel : decode (cd 197) 413 = .ok (.aload_n 0, 1)) rfl rfl
  · intro d a b c v0 v1 v2 x L M Q; exact Wp_sim (by decide +kernel : decode (cd 197) 414 = .ok (.iload_n 3, 1)) rfl rfl
  · intro d a b c d2 L M Q; exact Wp_sim (by decide +kernel : decode (cd 197) 415 = .ok (.iconst 1, 1)) rfl rfl
  · intro d a b c d2 e L M Q; exact Wp_sim (by decide +kernel : decode (cd 197) 416 = .ok (.iadd , 1)) rfl rfl
  · intro d a b c d2 L M Q; exact q_ald (by decide +kernel : decode (cd 197) 417 = .ok (.iaload , 1))
  · intro d a b c L M Q; exact q_invV (pz := 1100) (n := 1) (c := 12) (m := 2) (k := b) (As := [.int a]) (rest := [.int c]) (by decide +kernel : decode (cd 197) 418 = .ok (.invokevirtual 55, 3)) (by decide +kernel) (by decide +kernel) rfl rfl (Nat.le_of_ble_eq_true rfl) (Nat.le_of_ble_eq_true rfl) rfl
  · intro d a b L M Q; exact q_ieq (by decide +kernel : decode (cd 197) 421 = .ok (.if_icmp .eq 597, 3)) (by decide)
  · intro d L M Q; exact Wp_sim (by decide +kernel : decode (cd 197) 424 = .ok (.iconst 0, 1)) rfl rfl
  · intro d a L M Q; exact q_zret (by decide +kernel : decode (cd 197) 425 = .ok (.ireturn , 1)) (by decide +kernel)
  · intro d v0 x L M Q; exact Wp_sim (by decide +kernel : decode (cd 197) 426 = .ok (.aload_n 1, 1)) rfl rfl
  · intro d a x L M Q; exact Wp_sim (by decide +kernel : decode (cd 197) 427 = .ok (.aload_n 0, 1)) rfl rfl
  · intro d a b v0 v1 v2 x L M Q; exact Wp_sim (by decide +kernel : decode (cd 197) 428 = .ok (.iload_n 3, 1)) rfl rfl
  · intro d a b c L M Q; exact Wp_sim (by decide +kernel : decode (cd 197) 429 = .ok (.iconst 1, 1)) rfl rfl
  · intro d a b c d2 L M Q; exact Wp_sim (by decide +kernel : decode (cd 197) 430 = .ok (.iadd , 1)) rfl rfl
  · intro d a b c L M Q; exact q_ald (by decide +kernel : decode (cd 197) 431 = .ok (.iaload , 1))
  · intro d a b L M Q; exact q_invV (pz := 590) (n := 1) (c := 11) (m := 2) (k := b) (As := [.int a]) (rest := []) (by decide +kernel : decode (cd 197) 432 = .ok (.invokevirtual 56, 3)) (by decide +kernel) (by decide +kernel) rfl rfl (Nat.le_of_ble_eq_true rfl) (Nat.le_of_ble_eq_true rfl) rfl
  · intro d a v0 v1 x L M Q; exact Wp_sim (by decide +kernel : decode (cd 197) 435 = .ok (.aload_n 2, 1)) rfl rfl
  · intro d a b x L M Q; exact Wp_sim (by decide +kernel : decode (cd 197) 436 = .ok (.aload_n 0, 1)) rfl rfl
  · intro d a b c v0 v1 v2 x L M Q; exact Wp_sim (by decide +kernel : decode (cd 197) 437 = .ok (.iload_n 3, 1)) rfl rfl
  · intro d a b c d2 L M Q; exact Wp_sim (by decide +kernel : decode (cd 197) 438 = .ok (.iconst 1, 1)) rfl rfl
  · intro d a b c d2 e L M Q; exact Wp_sim (by decide +kernel : decode (cd 197) 439 = .ok (.iadd , 1)) rfl rfl
  · intro d a b c d2 L M Q; exact q_ald (by decide +kernel : decode (cd 197) 440 = .ok (.iaload , 1))
  · intro d a b c L M Q; exact q_invV (pz := 1108) (n := 1) (c := 12) (m := 2) (k := b) (As := [.int a]) (rest := [.int c]) (by decide +kernel : decode (cd 197) 441 = .ok (.invokevirtual 59, 3)) (by decide +kernel) (by decide +kernel) rfl rfl (Nat.le_of_ble_eq_true rfl) (Nat.le_of_ble_eq_true rfl) rfl
  · intro d a b L M Q; exact q_ieq (by decide +kernel : decode (cd 197) 444 = .ok (.if_icmp .eq 574, 3)) (by decide)
  · intro d L M Q; exact Wp_sim (by decide +kernel : decode (cd 197) 447 = .ok (.iconst 0, 1)) rfl rfl
  · intro d a L M Q; exact q_zret (by decide +kernel : decode (cd 197) 448 = .ok (.ireturn , 1)) (by decide +kernel)
  · intro d v0 x L M Q; exact Wp_sim (by decide +kernel : decode (cd 197) 449 = .ok (.aload_n 1, 1)) rfl rfl
  · intro d a x L M Q; exact Wp_sim (by decide +kernel : decode (cd 197) 450 = .ok (.aload_n 0, 1)) rfl rfl
  · intro d a b v0 v1 v2 x L M Q; exact Wp_sim (by decide +kernel : decode (cd 197) 451 = .ok (.iload_n 3, 1)) rfl rfl
  · intro d a b c L M Q; exact Wp_sim (by decide +kernel : decode (cd 197) 452 = .ok (.iconst 1, 1)) rfl rfl
  · intro d a b c d2 L M Q; exact Wp_sim (by decide +kernel : decode (cd 197) 453 = .ok (.iadd , 1)) rfl rfl
  · intro d a b c L M Q; exact q_ald (by decide +kernel : decode (cd 197) 454 = .ok (.iaload , 1))
  · intro d a b L M Q; exact q_invV (pz := 594) (n := 1) (c := 11) (m := 2) (k := b) (As := [.int a]) (rest := []) (by decide +kernel : decode (cd 197) 455 = .ok (.invokevirtual 60, 3)) (by decide +kernel) (by decide +kernel) rfl rfl (Nat.le_of_ble_eq_true rfl) (Nat.le_of_ble_eq_true rfl) rfl
  · intro d a v0 v1 x L M Q; exact Wp_sim (by decide +kernel : decode (cd 197) 458 = .ok (.aload_n 2, 1)) rfl rfl
  · intro d a b x L M Q; exact Wp_sim (by decide +kernel : decode (cd 197) 459 = .ok (.aload_n 0, 1)) rfl rfl
  · intro d a b c v0 v1 v2 x L M Q; exact Wp_sim (by decide +kernel : decode (cd 197) 460 = .ok (.iload_n 3, 1)) rfl rfl
  · intro d a b c d2 L M Q; exact Wp_sim (by decide +kernel : decode (cd 197) 461 = .ok (.iconst 1, 1)) rfl rfl
  · intro d a b c d2 e L M Q; exact Wp_sim (by decide +kernel : decode (cd 197) 462 = .ok (.iadd , 1)) rfl rfl
  · intro d a b c d2 L M Q; exact q_ald (by decide +kernel : decode (cd 197) 463 = .ok (.iaload , 1))
  · intro d a b c L M Q; exact q_invV (pz := 1112) (n := 1) (c := 12) (m := 2) (k := b) (As := [.int a]) (rest := [.int c]) (by decide +kernel : decode (cd 197) 464 = .ok (.invokevirtual 63, 3)) (by decide +kernel) (by decide +kernel) rfl rfl (Nat.le_of_ble_eq_true rfl) (Nat.le_of_ble_eq_true rfl) rfl
  · intro d a b L M Q; exact q_ieq (by decide +kernel : decode (cd 197) 467 = .ok (.if_icmp .eq 551, 3)) (by decide)
  · intro d L M Q; exact Wp_sim (by decide +kernel : decode (cd 197) 470 = .ok (.iconst 0, 1)) rfl rfl
set_option maxRecDepth 10000 in
theorem e197_4 : (∀ (d : Nat) (a : Int32) (L : List Value) (M : Mem) (Q : Option Value → Mem → Prop), Wp d 197 471 L [.int a] M Q ↔ ((a = 0 ∨ a = 1) ∧ Q (some (.int a)) M)) ∧
    (∀ (d : Nat) (v0 : Value) (x : Nat) (L : List Value) (M : Mem) (Q : Option Value → Mem → Prop), Wp d 197 472 (v0 :: .ref x :: L) [] M Q ↔ Wp d 197 473 (v0 :: .ref x :: L) [.ref x] M Q) ∧
    (∀ (d : Nat) (a : Nat) (x : Nat) (L : List Value) (M : Mem) (Q : Option Value → Mem → Prop), Wp d 197 473 (.ref x :: L) [.ref a] M Q ↔ Wp d 197 474 (.ref x :: L) [.ref x, .ref a] M Q) ∧
    (∀ (d : Nat) (a : Nat) (b : Nat) (v0 : Value) (v1 : Value) (v2 : Value) (x : Int32) (L : List Value) (M : Mem) (Q : Option Value → Mem → Prop), Wp d 197 474 (v0 :: v1 :: v2 :: .int x :: L) [.ref a, .ref b] M Q ↔ Wp d 197 475 (v0 :: v1 :: v2 :: .int x :: L) [.int x, .ref a, .ref b] M Q) ∧
    (∀ (d : Nat) (a : Int32) (b : Nat) (c : Nat) (L : List Value) (M : Mem) (Q : Option Value → Mem → Prop), Wp d 197 475 L [.int a, .ref b, .ref c] M Q ↔ Wp d 197 476 L [.int 1, .int a, .ref b, .ref c] M Q) ∧
    (∀ (d : Nat) (a : Int32) (b : Int32) (c : Nat) (d2 : Nat) (L : List Value) (M : Mem) (Q : Option Value → Mem → Prop), Wp d 197 476 L [.int a, .int b, .ref c, .ref d2] M Q ↔ Wp d 197 477 L [.int (b + a), .ref c, .ref d2] M Q) ∧
    (∀ (d : Nat) (a : Int32) (b : Nat) (c : Nat) (L : List Value) (M : Mem) (Q : Option Value → Mem → Prop), Wp d 197 477 L [.int a, .ref b, .ref c] M Q ↔ ((isR b = true ∧ inr a (lnm M b)) ∧ Wp d 197 478 L [.int (M b a.toNatClampNeg), .ref c] M Q)) ∧
    (∀ (d : Nat) (a : Int32) (b : Nat) (x : Nat) (L : List Value) (M : Mem) (Q : Option Value → Mem → Prop), Wp d 197 478 (.ref x :: L) [.int a, .ref b] M Q ↔ Wp d 197 479 (.ref x :: L) [.ref x, .int a, .ref b] M Q) ∧
    (∀ (d : Nat) (a : Nat) (b : Int32) (c : Nat) (v0 : Value) (v1 : Value) (v2 : Value) (x : Int32) (L : List Value) (M : Mem) (Q : Option Value → Mem → Prop), Wp d 197 479 (v0 :: v1 :: v2 :: .int x :: L) [.ref a, .int b, .ref c] M Q ↔ Wp d 197 480 (v0 :: v1 :: v2 :: .int x :: L) [.int x, .ref a, .int b, .ref c] M Q) ∧
    (∀ (d : Nat) (a : Int32) (b : Nat) (c : Int32) (d2 : Nat) (L : List Value) (M : Mem) (Q : Option Value → Mem → Prop), Wp d 197 480 L [.int a, .ref b, .int c, .ref d2] M Q ↔ Wp d 197 481 L [.int 2, .int a, .ref b, .int c, .ref d2] M Q) ∧
    (∀ (d : Nat) (a : Int32) (b : Int32) (c : Nat) (d2 : Int32) (e : Nat) (L : List Value) (M : Mem) (Q : Option Value → Mem → Prop), Wp d 197 481 L [.int a, .int b, .ref c, .int d2, .ref e] M Q ↔ Wp d 197 482 L [.int (b + a), .ref c, .int d2, .ref e] M Q) ∧
    (∀ (d : Nat) (a : Int32) (b : Nat) (c : Int32) (d2 : Nat) (L : List Value) (M : Mem) (Q : Option Value → Mem → Prop), Wp d 197 482 L [.int a, .ref b, .int c, .ref d2] M Q ↔ ((isR b = true ∧ inr a (lnm M b)) ∧ Wp d 197 483 L [.int (M b a.toNatClampNeg), .int c, .ref d2] M Q)) ∧
    (∀ (d : Nat) (a : Int32) (b : Int32) (c : Nat) (x : Nat) (L : List Value) (M : Mem) (Q : Option Value → Mem → Prop), Wp d 197 483 (.ref x :: L) [.int a, .int b, .ref c] M Q ↔ Wp d 197 484 (.ref x :: L) [.ref x, .int a, .int b, .ref c] M Q) ∧
    (∀ (d : Nat) (a : Nat) (b : Int32) (c : Int32) (d2 : Nat) (v0 : Value) (v1 : Value) (v2 : Value) (x : Int32) (L : List Value) (M : Mem) (Q : Option Value → Mem → Prop), Wp d 197 484 (v0 :: v1 :: v2 :: .int x :: L) [.ref a, .int b, .int c, .ref d2] M Q ↔ Wp d 197 485 (v0 :: v1 :: v2 :: .int x :: L) [.int x, .ref a, .int b, .int c, .ref d2] M Q) ∧
    (∀ (d : Nat) (a : Int32) (b : Nat) (c : Int32) (d2 : Int32) (e : Nat) (L : List Value) (M : Mem) (Q : Option Value → Mem → Prop), Wp d 197 485 L [.int a, .ref b, .int c, .int d2, .ref e] M Q ↔ Wp d 197 486 L [.int 3, .int a, .ref b, .int c, .int d2, .ref e] M Q) ∧
    (∀ (d : Nat) (a : Int32) (b : Int32) (c : Nat) (d2 : Int32) (e : Int32) (f : Nat) (L : List Value) (M : Mem) (Q : Option Value → Mem → Prop), Wp d 197 486 L [.int a, .int b, .ref c, .int d2, .int e, .ref f] M Q ↔ Wp d 197 487 L [.int (b + a), .ref c, .int d2, .int e, .ref f] M Q) ∧
    (∀ (d : Nat) (a : Int32) (b : Nat) (c : Int32) (d2 : Int32) (e : Nat) (L : List Value) (M : Mem) (Q : Option Value → Mem → Prop), Wp d 197 487 L [.int a, .ref b, .int c, .int d2, .ref e] M Q ↔ ((isR b = true ∧ inr a (lnm M b)) ∧ Wp d 197 488 L [.int (M b a.toNatClampNeg), .int c, .int d2, .ref e] M Q)) ∧
    (∀ (d : Nat) (a : Int32) (b : Int32) (c : Int32) (d2 : Nat) (L : List Value) (M : Mem) (Q : Option Value → Mem → Prop), Wp (d + 1) 197 488 L [.int a, .int b, .int c, .ref d2] M Q ↔ (isK d2 11 = true ∧ Wp d 86 0 [.ref d2, .int c, .int b, .int a, .null] [] M (fun r M2 => Wp (d + 1) 197 491 L (r.toList ++ []) M2 Q))) ∧
    (∀ (d : Nat) (a : Int32) (v0 : Value) (v1 : Value) (x : Nat) (L : List Value) (M : Mem) (Q : Option Value → Mem → Prop), Wp d 197 491 (v0 :: v1 :: .ref x :: L) [.int a] M Q ↔ Wp d 197 492 (v0 :: v1 :: .ref x :: L) [.ref x, .int a] M Q) ∧
    (∀ (d : Nat) (a : Nat) (b : Int32) (x : Nat) (L : List Value) (M : Mem) (Q : Option Value → Mem → Prop), Wp d 197 492 (.ref x :: L) [.ref a, .int b] M Q ↔ Wp d 197 493 (.ref x :: L) [.ref x, .ref a, .int b] M Q) ∧
    (∀ (d : Nat) (a : Nat) (b : Nat) (c : Int32) (v0 : Value) (v1 : Value) (v2 : Value) (x : Int32) (L : List Value) (M : Mem) (Q : Option Value → Mem → Prop), Wp d 197 493 (v0 :: v1 :: v2 :: .int x :: L) [.ref a, .ref b, .int c] M Q ↔ Wp d 197 494 (v0 :: v1 :: v2 :: .int x :: L) [.int x, .ref a, .ref b, .int c] M Q) ∧
    (∀ (d : Nat) (a : Int32) (b : Nat) (c : Nat) (d2 : Int32) (L : List Value) (M : Mem) (Q : Option Value → Mem → Prop), Wp d 197 494 L [.int a, .ref b, .ref c, .int d2] M Q ↔ Wp d 197 495 L [.int 1, .int a, .ref b, .ref c, .int d2] M Q) ∧
    (∀ (d : Nat) (a : Int32) (b : Int32) (c : Nat) (d2 : Nat) (e : Int32) (L : List Value) (M : Mem) (Q : Option Value → Mem → Prop), Wp d 197 495 L [.int a, .int b, .ref c, .ref d2, .int e] M Q ↔ Wp d 197 496 L [.int (b + a), .ref c, .ref d2, .int e] M Q) ∧
    (∀ (d : Nat) (a : Int32) (b : Nat) (c : Nat) (d2 : Int32) (L : List Value) (M : Mem) (Q : Option Value → Mem → Prop), Wp d 197 496 L [.int a, .ref b, .ref c, .int d2] M Q ↔ ((isR b = true ∧ inr a (lnm M b)) ∧ Wp d 197 497 L [.int (M b a.toNatClampNeg), .ref c, .int d2] M Q)) ∧
    (∀ (d : Nat) (a : Int32) (b : Nat) (c : Int32) (x : Nat) (L : List Value) (M : Mem) (Q : Option Value → Mem → Prop), Wp d 197 497 (.ref x :: L) [.int a, .ref b, .int c] M Q ↔ Wp d 197 498 (.ref x :: L) [.ref x, .int a, .ref b, .int c] M Q) ∧
    (∀ (d : Nat) (a : Nat) (b : Int32) (c : Nat) (d2 : Int32) (v0 : Value) (v1 : Value) (v2 : Value) (x : Int32) (L : List Value) (M : Mem) (Q : Option Value → Mem → Prop), Wp d 197 498 (v0 :: v1 :: v2 :: .int x :: L) [.ref a, .int b, .ref c, .int d2] M Q ↔ Wp d 197 499 (v0 :: v1 :: v2 :: .int x :: L) [.int x, .ref a, .int b, .ref c, .int d2] M Q) ∧
    (∀ (d : Nat) (a : Int32) (b : Nat) (c : Int32) (d2 : Nat) (e : Int32) (L : List Value) (M : Mem) (Q : Option Value → Mem → Prop), Wp d 197 499 L [.int a, .ref b, .int c, .ref d2, .int e] M Q ↔ Wp d 197 500 L [.int 2, .int a, .ref b, .int c, .ref d2, .int e] M Q) ∧
    (∀ (d : Nat) (a : Int32) (b : Int32) (c : Nat) (d2 : Int32) (e : Nat) (f : Int32) (L : List Value) (M : Mem) (Q : Option Value → Mem → Prop), Wp d 197 500 L [.int a, .int b, .ref c, .int d2, .ref e, .int f] M Q ↔ Wp d 197 501 L [.int (b + a), .ref c, .int d2, .ref e, .int f] M Q) ∧
    (∀ (d : Nat) (a : Int32) (b : Nat) (c : Int32) (d2 : Nat) (e : Int32) (L : List Value) (M : Mem) (Q : Option Value → Mem → Prop), Wp d 197 501 L [.int a, .ref b, .int c, .ref d2, .int e] M Q ↔ ((isR b = true ∧ inr a (lnm M b)) ∧ Wp d 197 502 L [.int (M b a.toNatClampNeg), .int c, .ref d2, .int e] M Q)) ∧
    (∀ (d : Nat) (a : Int32) (b : Int32) (c : Nat) (d2 : Int32) (x : Nat) (L : List Value) (M : Mem) (Q : Option Value → Mem → Prop), Wp d 197 502 (.ref x :: L) [.int a, .int b, .ref c, .int d2] M Q ↔ Wp d 197 503 (.ref x :: L) [.ref x, .int a, .int b, .ref c, .int d2] M Q) ∧
    (∀ (d : Nat) (a : Nat) (b : Int32) (c : Int32) (d2 : Nat) (e : Int32) (v0 : Value) (v1 : Value) (v2 : Value) (x : Int32) (L : List Value) (M : Mem) (Q : Option Value → Mem → Prop), Wp d 197 503 (v0 :: v1 :: v2 :: .int x :: L) [.ref a, .int b, .int c, .ref d2, .int e] M Q ↔ Wp d 197 504 (v0 :: v1 :: v2 :: .int x :: L) [.int x, .ref a, .int b, .int c, .ref d2, .int e] M Q) ∧
    (∀ (d : Nat) (a : Int32) (b : Nat) (c : Int32) (d2 : Int32) (e : Nat) (f : Int32) (L : List Value) (M : Mem) (Q : Option Value → Mem → Prop), Wp d 197 504 L [.int a, .ref b, .int c, .int d2, .ref e, .int f] M Q ↔ Wp d 197 505 L [.int 3, .int a, .ref b, .int c, .int d2, .ref e, .int f] M Q) ∧
    (∀ (d : Nat) (a : Int32) (b : Int32) (c : Nat) (d2 : Int32) (e : Int32) (f : Nat) (g : Int32) (L : List Value) (M : Mem) (Q : Option Value → Mem → Prop), Wp d 197 505 L [.int a, .int b, .ref c, .int d2, .int e, .ref f, .int g] M Q ↔ Wp d 197 506 L [.int (b + a), .ref c, .int d2, .int e, .ref f, .int g] M Q) ∧
    (∀ (d : Nat) (a : Int32) (b : Nat) (c : Int32) (d2 : Int32) (e : Nat) (f : Int32) (L : List Value) (M : Mem) (Q : Option Value → Mem → Prop), Wp d 197 506 L [.int a, .ref b, .int c, .int d2, .ref e, .int f] M Q ↔ ((isR b = true ∧ inr a (lnm M b)) ∧ Wp d 197 507 L [.int (M b a.toNatClampNeg), .int c, .int d2, .ref e, .int f] M Q)) ∧
    (∀ (d : Nat) (a : Int32) (b : Int32) (c : Int32) (d2 : Nat) (e : Int32) (L : List Value) (M : Mem) (Q : Option Value → Mem → Prop), Wp (d + 1) 197 507 L [.int a, .int b, .int c, .ref d2, .int e] M Q ↔ (isK d2 12 = true ∧ Wp d 158 0 [.ref d2, .int c, .int b, .int a] [] M (fun r M2 => Wp (d + 1) 197 510 L (r.toList ++ [.int e]) M2 Q))) ∧
    (∀ (d : Nat) (a : Int32) (b : Int32) (L : List Value) (M : Mem) (Q : Option Value → Mem → Prop), Wp d 197 510 L [.int a, .int b] M Q ↔ (if b = a then Wp d 197 1018 L [] M Q else Wp d 197 513 L [] M Q)) ∧
    (∀ (d : Nat) (L : List Value) (M : Mem) (Q : Option Value → Mem → Prop), Wp d 197 513 L [] M Q ↔ Wp d 197 514 L [.int 0] M Q) ∧
    (∀ (d : Nat) (a : Int32) (L : List Value) (M : Mem) (Q : Option Value → Mem → Prop), Wp d 197 514 L [.int a] M Q ↔ ((a = 0 ∨ a = 1) ∧ Q (some (.int a)) M)) ∧
    (∀ (d : Nat) (v0 : Value) (x : Nat) (L : List Value) (M : Mem) (Q : Option Value → Mem → Prop), Wp d 197 515 (v0 :: .ref x :: L) [] M Q ↔ Wp d 197 516 (v0 :: .ref x :: L) [.ref x] M Q) ∧
    (∀ (d : Nat) (a : Nat) (x : Nat) (L : List Value) (M : Mem) (Q : Option Value → Mem → Prop), Wp d 197 516 (.ref x :: L) [.ref a] M Q ↔ Wp d 197 517 (.ref x :: L) [.ref x, .ref a] M Q) ∧
    (∀ (d : Nat) (a : Nat) (b : Nat) (v0 : Value) (v1 : Value) (v2 : Value) (x : Int32) (L : List Value) (M : Mem) (Q : Option Value → Mem → Prop), Wp d 197 517 (v0 :: v1 :: v2 :: .int x :: L) [.ref a, .ref b] M Q ↔ Wp d 197 518 (v0 :: v1 :: v2 :: .int x :: L) [.int x, .ref a, .ref b] M Q) ∧
    (∀ (d : Nat) (a : Int32) (b : Nat) (c : Nat) (L : List Value) (M : Mem) (Q : Option Value → Mem → Prop), Wp d 197 518 L [.int a, .ref b, .ref c] M Q ↔ Wp d 197 519 L [.int 1, .int a, .ref b, .ref c] M Q) ∧
    (∀ (d : Nat) (a : Int32) (b : Int32) (c : Nat) (d2 : Nat) (L : List Value) (M : Mem) (Q : Option Value → Mem → Prop), Wp d 197 519 L [.int a, .int b, .ref c, .ref d2] M Q ↔ Wp d 197 520 L [.int (b + a), .ref c, .ref d2] M Q) ∧
    (∀ (d : Nat) (a : Int32) (b : Nat) (c : Nat) (L : List Value) (M : Mem) (Q : Option Value → Mem → Prop), Wp d 197 520 L [.int a, .ref b, .ref c] M Q ↔ ((isR b = true ∧ inr a (lnm M b)) ∧ Wp d 197 521 L [.int (M b a.toNatClampNeg), .ref c] M Q)) ∧
    (∀ (d : Nat) (a : Int32) (b : Nat) (x : Nat) (L : List Value) (M : Mem) (Q : Option Value → Mem → Prop), Wp d 197 521 (.ref x :: L) [.int a, .ref b] M Q ↔ Wp d 197 522 (.ref x :: L) [.ref x, .int a, .ref b] M Q) ∧
    (∀ (d : Nat) (a : Nat) (b : Int32) (c : Nat) (v0 : Value) (v1 : Value) (v2 : Value) (x : Int32) (L : List Value) (M : Mem) (Q : Option Value → Mem → Prop), Wp d 197 522 (v0 :: v1 :: v2 :: .int x :: L) [.ref a, .int b, .ref c] M Q ↔ Wp d 197 523 (v0 :: v1 :: v2 :: .int x :: L) [.int x, .ref a, .int b, .ref c] M Q) ∧
    (∀ (d : Nat) (a : Int32) (b : Nat) (c : Int32) (d2 : Nat) (L : List Value) (M : Mem) (Q : Option Value → Mem → Prop), Wp d 197 523 L [.int a, .ref b, .int c, .ref d2] M Q ↔ Wp d 197 524 L [.int 2, .int a, .ref b, .int c, .ref d2] M Q) ∧
    (∀ (d : Nat) (a : Int32) (b : Int32) (c : Nat) (d2 : Int32) (e : Nat) (L : List Value) (M : Mem) (Q : Option Value → Mem → Prop), Wp d 197 524 L [.int a, .int b, .ref c, .int d2, .ref e] M Q ↔ Wp d 197 525 L [.int (b + a), .ref c, .int d2, .ref e] M Q) ∧
    (∀ (d : Nat) (a : Int32) (b : Nat) (c : Int32) (d2 : Nat) (L : List Value) (M : Mem) (Q : Option Value → Mem → Prop), Wp d 197 525 L [.int a, .ref b, .int c, .ref d2] M Q ↔ ((isR b = true ∧ inr a (lnm M b)) ∧ Wp d 197 526 L [.int (M b a.toNatClampNeg), .int c, .ref d2] M Q)) ∧
    (∀ (d : Nat) (a : Int32) (b : Int32) (c : Nat) (L : List Value) (M : Mem) (Q : Option Value → Mem → Prop), Wp (d + 1) 197 526 L [.int a, .int b, .ref c] M Q ↔ (isK c 11 = true ∧ Wp d 87 0 [.ref c, .int b, .int a] [] M (fun r M2 => Wp (d + 1) 197 529 L (r.toList ++ []) M2 Q))) ∧
    (∀ (d : Nat) (a : Int32) (v0 : Value) (v1 : Value) (x : Nat) (L : List Value) (M : Mem) (Q : Option Value → Mem → Prop), Wp d 197 529 (v0 :: v1 :: .ref x :: L) [.int a] M Q ↔ Wp d 197 530 (v0 :: v1 :: .ref x :: L) [.ref x, .int a] M Q) ∧
    (∀ (d : Nat) (a : Nat) (b : Int32) (x : Nat) (L : List Value) (M : Mem) (Q : Option Value → Mem → Prop), Wp d 197 530 (.ref x :: L) [.ref a, .int b] M Q ↔ Wp d 197 531 (.ref x :: L) [.ref x, .ref a, .int b] M Q) ∧
    (∀ (d : Nat) (a : Nat) (b : Nat) (c : Int32) (v0 : Value) (v1 : Value) (v2 : Value) (x : Int32) (L : List Value) (M : Mem) (Q : Option Value → Mem → Prop), Wp d 197 531 (v0 :: v1 :: v2 :: .int x :: L) [.ref a, .ref b, .int c] M Q ↔ Wp d 197 532 (v0 :: v1 :: v2 :: .int x :: L) [.int x, .ref a, .ref b, .int c] M Q) ∧
    (∀ (d : Nat) (a : Int32) (b : Nat) (c : Nat) (d2 : Int32) (L : List Value) (M : Mem) (Q : Option Value → Mem → Prop), Wp d 197 532 L [.int a, .ref b, .ref c, .int d2] M Q ↔ Wp d 197 533 L [.int 1, .int a, .ref b, .ref c, .int d2] M Q) ∧
    (∀ (d : Nat) (a : Int32) (b : Int32) (c : Nat) (d2 : Nat) (e : Int32) (L : List Value) (M : Mem) (Q : Option Value → Mem → Prop), Wp d 197 533 L [.int a, .int b, .ref c, .ref d2, .int e] M Q ↔ Wp d 197 534 L [.int (b + a), .ref c, .ref d2, .int e] M Q) ∧
    (∀ (d : Nat) (a : Int32) (b : Nat) (c : Nat) (d2 : Int32) (L : List Value) (M : Mem) (Q : Option Value → Mem → Prop), Wp d 197 534 L [.int a, .ref b, .ref c, .int d2] M Q ↔ ((isR b = true ∧ inr a (lnm M b)) ∧ Wp d 197 535 L [.int (M b a.toNatClampNeg), .ref c, .int d2] M Q)) ∧
    (∀ (d : Nat) (a : Int32) (b : Nat) (c : Int32) (x : Nat) (L : List Value) (M : Mem) (Q : Option Value → Mem → Prop), Wp d 197 535 (.ref x :: L) [.int a, .ref b, .int c] M Q ↔ Wp d 197 536 (.ref x :: L) [.ref x, .int a, .ref b, .int c] M Q) ∧
    (∀ (d : Nat) (a : Nat) (b : Int32) (c : Nat) (d2 : Int32) (v0 : Value) (v1 : Value) (v2 : Value) (x : Int32) (L : List Value) (M : Mem) (Q : Option Value → Mem → Prop), Wp d 197 536 (v0 :: v1 :: v2 :: .int x :: L) [.ref a, .int b, .ref c, .int d2] M Q ↔ Wp d 197 537 (v0 :: v1 :: v2 :: .int x :: L) [.int x, .ref a, .int b, .ref c, .int d2] M Q) ∧
    (∀ (d : Nat) (a : Int32) (b : Nat) (c : Int32) (d2 : Nat) (e : Int32) (L : List Value) (M : Mem) (Q : Option Value → Mem → Prop), Wp d 197 537 L [.int a, .ref b, .int c, .ref d2, .int e] M Q ↔ Wp d 197 538 L [.int 2, .int a, .ref b, .int c, .ref d2, .int e] M Q) ∧
    (∀ (d : Nat) (a : Int32) (b : Int32) (c : Nat) (d2 : Int32) (e : Nat) (f : Int32) (L : List Value) (M : Mem) (Q : Option Value → Mem → Prop), Wp d 197 538 L [.int a, .int b, .ref c, .int d2, .ref e, .int f] M Q ↔ Wp d 197 539 L [.int (b + a), .ref c, .int d2, .ref e, .int f] M Q) := by
  refine ⟨?_, ?_, ?_, ?_, ?_, ?_, ?_, ?_, ?_, ?_, ?_, ?_, ?_, ?_, ?_, ?_, ?_, ?_, ?_, ?_, ?_, ?_, ?_, ?_, ?_, ?_, ?_, ?_, ?_, ?_, ?_, ?_, ?_, ?_, ?_, ?_, ?_, ?_, ?_, ?_, ?_, ?_, ?_, ?_, ?_, ?_, ?_, ?_, ?_, ?_, ?_, ?_, ?_, ?_, ?_, ?_, ?_, ?_, ?_, ?_⟩
  · intro d a L M Q; exact q_zret (by decide +kernel : decode (cd 197) 471 = .ok (.ireturn , 1)) (by decide +kernel)
  · intro d v0 x L M Q; exact Wp_sim (by decide +kernel : decode (cd 197) 472 = .ok (.aload_n 1, 1)) rfl rfl
  · intro d a x L M Q; exact Wp_sim (by decide +kernel : decode (cd 197) 473 = .ok (.aload_n 0, 1)) rfl rfl
  · intro d a b v0 v1 v2 x L M Q; exact Wp_sim (by decide +kernel : decode (cd 197) 474 = .ok (.iload_n 3, 1)) rfl rfl
  · intro d a b c L M Q; exact Wp_sim (by decide +kernel : decode (cd 197) 475 = .ok (.iconst 1, 1)) rfl rfl
  · intro d a b c d2 L M Q; exact Wp_sim (by decide +kernel : decode (cd 197) 476 = .ok (.iadd , 1)) rfl rfl
  · intro d a b c L M Q; exact q_ald (by decide +kernel : decode (cd 197) 477 = .ok (.iaload , 1))
  · intro d a b x L M Q; exact Wp_sim (by decide +kernel : decode (cd 197) 478 = .ok (.aload_n 0, 1)) rfl rfl
  · intro d a b c v0 v1 v2 x L M Q; exact Wp_sim (by decide +kernel : decode (cd 197) 479 = .ok (.iload_n 3, 1)) rfl rfl
  · intro d a b c d2 L M Q; exact Wp_sim (by decide +kernel : decode (cd 197) 480 = .ok (.iconst 2, 1)) rfl rfl
  · intro d a b c d2 e L M Q; exact Wp_sim (by decide +kernel : decode (cd 197) 481 = .ok (.iadd , 1)) rfl rfl
  · intro d a b c d2 L M Q; exact q_ald (by decide +kernel : decode (cd 197) 482 = .ok (.iaload , 1))
  · intro d a b c x L M Q; exact Wp_sim (by decide +kernel : decode (cd 197) 483 = .ok (.aload_n 0, 1)) rfl rfl
  · intro d a b c d2 v0 v1 v2 x L M Q; exact Wp_sim (by decide +kernel : decode (cd 197) 484 = .ok (.iload_n 3, 1)) rfl rfl
  · intro d a b c d2 e L M Q; exact Wp_sim (by decide +kernel : decode (cd 197) 485 = .ok (.iconst 3, 1)) rfl rfl
  · intro d a b c d2 e f L M Q; exact Wp_sim (by decide +kernel : decode (cd 197) 486 = .ok (.iadd , 1)) rfl rfl
  · intro d a b c d2 e L M Q; exact q_ald (by decide +kernel : decode (cd 197) 487 = .ok (.iaload , 1))
  · intro d a b c d2 L M Q; exact q_invV (pz := 611) (n := 3) (c := 11) (m := 5) (k := d2) (As := [.int c, .int b, .int a]) (rest := []) (by decide +kernel : decode (cd 197) 488 = .ok (.invokevirtual 64, 3)) (by decide +kernel) (by decide +kernel) rfl rfl (Nat.le_of_ble_eq_true rfl) (Nat.le_of_ble_eq_true rfl) rfl
  · intro d a v0 v1 x L M Q; exact Wp_sim (by decide +kernel : decode (cd 197) 491 = .ok (.aload_n 2, 1)) rfl rfl
  · intro d a b x L M Q; exact Wp_sim (by decide +kernel : decode (cd 197) 492 = .ok (.aload_n 0, 1)) rfl rfl
  · intro d a b c v0 v1 v2 x L M Q; exact Wp_sim (by decide +kernel : decode (cd 197) 493 = .ok (.iload_n 3, 1)) rfl rfl
  · intro d a b c d2 L M Q; exact Wp_sim (by decide +kernel : decode (cd 197) 494 = .ok (.iconst 1, 1)) rfl rfl
  · intro d a b c d2 e L M Q; exact Wp_sim (by decide +kernel : decode (cd 197) 495 = .ok (.iadd , 1)) rfl rfl
  · intro d a b c d2 L M Q; exact q_ald (by decide +kernel : decode (cd 197) 496 = .ok (.iaload , 1))
  · intro d a b c x L M Q; exact Wp_sim (by decide +kernel : decode (cd 197) 497 = .ok (.aload_n 0, 1)) rfl rfl
  · intro d a b c d2 v0 v1 v2 x L M Q; exact Wp_sim (by decide +kernel : decode (cd 197) 498 = .ok (.iload_n 3, 1)) rfl rfl
  · intro d a b c d2 e L M Q; exact Wp_sim (by decide +kernel : decode (cd 197) 499 = .ok (.iconst 2, 1)) rfl rfl
  · intro d a b c d2 e f L M Q; exact Wp_sim (by decide +kernel : decode (cd 197) 500 = .ok (.iadd , 1)) rfl rfl
  · intro d a b c d2 e L M Q; exact q_ald (by decide +kernel : decode (cd 197) 501 = .ok (.iaload , 1))
  · intro d a b c d2 x L M Q; exact Wp_sim (by decide +kernel : decode (cd 197) 502 = .ok (.aload_n 0, 1)) rfl rfl
  · intro d a b c d2 e v0 v1 v2 x L M Q; exact Wp_sim (by decide +kernel : decode (cd 197) 503 = .ok (.iload_n 3, 1)) rfl rfl
  · intro d a b c d2 e f L M Q; exact Wp_sim (by decide +kernel : decode (cd 197) 504 = .ok (.iconst 3, 1)) rfl rfl
  · intro d a b c d2 e f g L M Q; exact Wp_sim (by decide +kernel : decode (cd 197) 505 = .ok (.iadd , 1)) rfl rfl
  · intro d a b c d2 e f L M Q; exact q_ald (by decide +kernel : decode (cd 197) 506 = .ok (.iaload , 1))
  · intro d a b c d2 e L M Q; exact q_invV (pz := 1124) (n := 3) (c := 12) (m := 4) (k := d2) (As := [.int c, .int b, .int a]) (rest := [.int e]) (by decide +kernel : decode (cd 197) 507 = .ok (.invokevirtual 68, 3)) (by decide +kernel) (by decide +kernel) rfl rfl (Nat.le_of_ble_eq_true rfl) (Nat.le_of_ble_eq_true rfl) rfl
  · intro d a b L M Q; exact q_ieq (by decide +kernel : decode (cd 197) 510 = .ok (.if_icmp .eq 508, 3)) (by decide)
  · intro d L M Q; exact Wp_sim (by decide +kernel : decode (cd 197) 513 = .ok (.iconst 0, 1)) rfl rfl
  · intro d a L M Q; exact q_zret (by decide +kernel : decode (cd 197) 514 = .ok (.ireturn , 1)) (by decide +kernel)
  · intro d v0 x L M Q; exact Wp_sim (by decide +kernel : decode (cd 197) 515 = .ok (.aload_n 1, 1)) rfl rfl
  · intro d a x L M Q; exact Wp_sim (by decide +kernel : decode (cd 197) 516 = .ok (.aload_n 0, 1)) rfl rfl
  · intro d a b v0 v1 v2 x L M Q; exact Wp_sim (by decide +kernel : decode (cd 197) 517 = .ok (.iload_n 3, 1)) rfl rfl
  · intro d a b c L M Q; exact Wp_sim (by decide +kernel : decode (cd 197) 518 = .ok (.iconst 1, 1)) rfl rfl
  · intro d a b c d2 L M Q; exact Wp_sim (by decide +kernel : decode (cd 197) 519 = .ok (.iadd , 1)) rfl rfl
  · intro d a b c L M Q; exact q_ald (by decide +kernel : decode (cd 197) 520 = .ok (.iaload , 1))
  · intro d a b x L M Q; exact Wp_sim (by decide +kernel : decode (cd 197) 521 = .ok (.aload_n 0, 1)) rfl rfl
  · intro d a b c v0 v1 v2 x L M Q; exact Wp_sim (by decide +kernel : decode (cd 197) 522 = .ok (.iload_n 3, 1)) rfl rfl
  · intro d a b c d2 L M Q; exact Wp_sim (by decide +kernel : decode (cd 197) 523 = .ok (.iconst 2, 1)) rfl rfl
  · intro d a b c d2 e L M Q; exact Wp_sim (by decide +kernel : decode (cd 197) 524 = .ok (.iadd , 1)) rfl rfl
  · intro d a b c d2 L M Q; exact q_ald (by decide +kernel : decode (cd 197) 525 = .ok (.iaload , 1))
  · intro d a b c L M Q; exact q_invV (pz := 630) (n := 2) (c := 11) (m := 3) (k := c) (As := [.int b, .int a]) (rest := []) (by decide +kernel : decode (cd 197) 526 = .ok (.invokevirtual 69, 3)) (by decide +kernel) (by decide +kernel) rfl rfl (Nat.le_of_ble_eq_true rfl) (Nat.le_of_ble_eq_true rfl) rfl
  · intro d a v0 v1 x L M Q; exact Wp_sim (by decide +kernel : decode (cd 197) 529 = .ok (.aload_n 2, 1)) rfl rfl
  · intro d a b x L M Q; exact Wp_sim (by decide +kernel : decode (cd 197) 530 = .ok (.aload_n 0, 1)) rfl rfl
  · intro d a b c v0 v1 v2 x L M Q; exact Wp_sim (by decide +kernel : decode (cd 197) 531 = .ok (.iload_n 3, 1)) rfl rfl
  · intro d a b c d2 L M Q; exact Wp_sim (by decide +kernel : decode (cd 197) 532 = .ok (.iconst 1, 1)) rfl rfl
  · intro d a b c d2 e L M Q; exact Wp_sim (by decide +kernel : decode (cd 197) 533 = .ok (.iadd , 1)) rfl rfl
  · intro d a b c d2 L M Q; exact q_ald (by decide +kernel : decode (cd 197) 534 = .ok (.iaload , 1))
  · intro d a b c x L M Q; exact Wp_sim (by decide +kernel : decode (cd 197) 535 = .ok (.aload_n 0, 1)) rfl rfl
  · intro d a b c d2 v0 v1 v2 x L M Q; exact Wp_sim (by decide +kernel : decode (cd 197) 536 = .ok (.iload_n 3, 1)) rfl rfl
  · intro d a b c d2 e L M Q; exact Wp_sim (by decide +kernel : decode (cd 197) 537 = .ok (.iconst 2, 1)) rfl rfl
  · intro d a b c d2 e f L M Q; exact Wp_sim (by decide +kernel : decode (cd 197) 538 = .ok (.iadd , 1)) rfl rfl
set_option maxRecDepth 10000 in
theorem e197_5 : (∀ (d : Nat) (a : Int32) (b : Nat) (c : Int32) (d2 : Nat) (e : Int32) (L : List Value) (M : Mem) (Q : Option Value → Mem → Prop), Wp d 197 539 L [.int a, .ref b, .int c, .ref d2, .int e] M Q ↔ ((isR b = true ∧ inr a (lnm M b)) ∧ Wp d 197 540 L [.int (M b a.toNatClampNeg), .int c, .ref d2, .int e] M Q)) ∧
    (∀ (d : Nat) (a : Int32) (b : Int32) (c : Nat) (d2 : Int32) (L : List Value) (M : Mem) (Q : Option Value → Mem → Prop), Wp (d + 1) 197 540 L [.int a, .int b, .ref c, .int d2] M Q ↔ (isK c 12 = true ∧ Wp d 162 0 [.ref c, .int b, .int a] [] M (fun r M2 => Wp (d + 1) 197 543 L (r.toList ++ [.int d2]) M2 Q))) ∧
    (∀ (d : Nat) (a : Int32) (b : Int32) (L : List Value) (M : Mem) (Q : Option Value → Mem → Prop), Wp d 197 543 L [.int a, .int b] M Q ↔ (if b = a then Wp d 197 1018 L [] M Q else Wp d 197 546 L [] M Q)) ∧
    (∀ (d : Nat) (L : List Value) (M : Mem) (Q : Option Value → Mem → Prop), Wp d 197 546 L [] M Q ↔ Wp d 197 547 L [.int 0] M Q) ∧
    (∀ (d : Nat) (a : Int32) (L : List Value) (M : Mem) (Q : Option Value → Mem → Prop), Wp d 197 547 L [.int a] M Q ↔ ((a = 0 ∨ a = 1) ∧ Q (some (.int a)) M)) ∧
    (∀ (d : Nat) (v0 : Value) (x : Nat) (L : List Value) (M : Mem) (Q : Option Value → Mem → Prop), Wp d 197 548 (v0 :: .ref x :: L) [] M Q ↔ Wp d 197 549 (v0 :: .ref x :: L) [.ref x] M Q) ∧
    (∀ (d : Nat) (a : Nat) (x : Nat) (L : List Value) (M : Mem) (Q : Option Value → Mem → Prop), Wp d 197 549 (.ref x :: L) [.ref a] M Q ↔ Wp d 197 550 (.ref x :: L) [.ref x, .ref a] M Q) ∧
    (∀ (d : Nat) (a : Nat) (b : Nat) (v0 : Value) (v1 : Value) (v2 : Value) (x : Int32) (L : List Value) (M : Mem) (Q : Option Value → Mem → Prop), Wp d 197 550 (v0 :: v1 :: v2 :: .int x :: L) [.ref a, .ref b] M Q ↔ Wp d 197 551 (v0 :: v1 :: v2 :: .int x :: L) [.int x, .ref a, .ref b] M Q) ∧
    (∀ (d : Nat) (a : Int32) (b : Nat) (c : Nat) (L : List Value) (M : Mem) (Q : Option Value → Mem → Prop), Wp d 197 551 L [.int a, .ref b, .ref c] M Q ↔ Wp d 197 552 L [.int 1, .int a, .ref b, .ref c] M Q) ∧
    (∀ (d : Nat) (a : Int32) (b : Int32) (c : Nat) (d2 : Nat) (L : List Value) (M : Mem) (Q : Option Value → Mem → Prop), Wp d 197 552 L [.int a, .int b, .ref c, .ref d2] M Q ↔ Wp d 197 553 L [.int (b + a), .ref c, .ref d2] M Q) ∧
    (∀ (d : Nat) (a : Int32) (b : Nat) (c : Nat) (L : List Value) (M : Mem) (Q : Option Value → Mem → Prop), Wp d 197 553 L [.int a, .ref b, .ref c] M Q ↔ ((isR b = true ∧ inr a (lnm M b)) ∧ Wp d 197 554 L [.int (M b a.toNatClampNeg), .ref c] M Q)) ∧
    (∀ (d : Nat) (a : Int32) (b : Nat) (L : List Value) (M : Mem) (Q : Option Value → Mem → Prop), Wp (d + 1) 197 554 L [.int a, .ref b] M Q ↔ (isK b 11 = true ∧ Wp d 88 0 [.ref b, .int a, .null, .null] [] M (fun r M2 => Wp (d + 1) 197 557 L (r.toList ++ []) M2 Q))) ∧
    (∀ (d : Nat) (a : Int32) (v0 : Value) (v1 : Value) (x : Nat) (L : List Value) (M : Mem) (Q : Option Value → Mem → Prop), Wp d 197 557 (v0 :: v1 :: .ref x :: L) [.int a] M Q ↔ Wp d 197 558 (v0 :: v1 :: .ref x :: L) [.ref x, .int a] M Q) ∧
    (∀ (d : Nat) (a : Nat) (b : Int32) (x : Nat) (L : List Value) (M : Mem) (Q : Option Value → Mem → Prop), Wp d 197 558 (.ref x :: L) [.ref a, .int b] M Q ↔ Wp d 197 559 (.ref x :: L) [.ref x, .ref a, .int b] M Q) ∧
    (∀ (d : Nat) (a : Nat) (b : Nat) (c : Int32) (v0 : Value) (v1 : Value) (v2 : Value) (x : Int32) (L : List Value) (M : Mem) (Q : Option Value → Mem → Prop), Wp d 197 559 (v0 :: v1 :: v2 :: .int x :: L) [.ref a, .ref b, .int c] M Q ↔ Wp d 197 560 (v0 :: v1 :: v2 :: .int x :: L) [.int x, .ref a, .ref b, .int c] M Q) ∧
    (∀ (d : Nat) (a : Int32) (b : Nat) (c : Nat) (d2 : Int32) (L : List Value) (M : Mem) (Q : Option Value → Mem → Prop), Wp d 197 560 L [.int a, .ref b, .ref c, .int d2] M Q ↔ Wp d 197 561 L [.int 1, .int a, .ref b, .ref c, .int d2] M Q) ∧
    (∀ (d : Nat) (a : Int32) (b : Int32) (c : Nat) (d2 : Nat) (e : Int32) (L : List Value) (M : Mem) (Q : Option Value → Mem → Prop), Wp d 197 561 L [.int a, .int b, .ref c, .ref d2, .int e] M Q ↔ Wp d 197 562 L [.int (b + a), .ref c, .ref d2, .int e] M Q) ∧
    (∀ (d : Nat) (a : Int32) (b : Nat) (c : Nat) (d2 : Int32) (L : List Value) (M : Mem) (Q : Option Value → Mem → Prop), Wp d 197 562 L [.int a, .ref b, .ref c, .int d2] M Q ↔ ((isR b = true ∧ inr a (lnm M b)) ∧ Wp d 197 563 L [.int (M b a.toNatClampNeg), .ref c, .int d2] M Q)) ∧
    (∀ (d : Nat) (a : Int32) (b : Nat) (c : Int32) (L : List Value) (M : Mem) (Q : Option Value → Mem → Prop), Wp (d + 1) 197 563 L [.int a, .ref b, .int c] M Q ↔ (isK b 12 = true ∧ Wp d 165 0 [.ref b, .int a, .null, .null] [] M (fun r M2 => Wp (d + 1) 197 566 L (r.toList ++ [.int c]) M2 Q))) ∧
    (∀ (d : Nat) (a : Int32) (b : Int32) (L : List Value) (M : Mem) (Q : Option Value → Mem → Prop), Wp d 197 566 L [.int a, .int b] M Q ↔ (if b = a then Wp d 197 1018 L [] M Q else Wp d 197 569 L [] M Q)) ∧
    (∀ (d : Nat) (L : List Value) (M : Mem) (Q : Option Value → Mem → Prop), Wp d 197 569 L [] M Q ↔ Wp d 197 570 L [.int 0] M Q) ∧
    (∀ (d : Nat) (a : Int32) (L : List Value) (M : Mem) (Q : Option Value → Mem → Prop), Wp d 197 570 L [.int a] M Q ↔ ((a = 0 ∨ a = 1) ∧ Q (some (.int a)) M)) ∧
    (∀ (d : Nat) (v0 : Value) (x : Nat) (L : List Value) (M : Mem) (Q : Option Value → Mem → Prop), Wp d 197 571 (v0 :: .ref x :: L) [] M Q ↔ Wp d 197 572 (v0 :: .ref x :: L) [.ref x] M Q) ∧
    (∀ (d : Nat) (a : Nat) (L : List Value) (M : Mem) (Q : Option Value → Mem → Prop), Wp (d + 1) 197 572 L [.ref a] M Q ↔ (isK a 11 = true ∧ Wp d 93 0 [.ref a] [] M (fun r M2 => Wp (d + 1) 197 575 L (r.toList ++ []) M2 Q))) ∧
    (∀ (d : Nat) (a : Int32) (v0 : Value) (v1 : Value) (x : Nat) (L : List Value) (M : Mem) (Q : Option Value → Mem → Prop), Wp d 197 575 (v0 :: v1 :: .ref x :: L) [.int a] M Q ↔ Wp d 197 576 (v0 :: v1 :: .ref x :: L) [.ref x, .int a] M Q) ∧
    (∀ (d : Nat) (a : Nat) (b : Int32) (L : List Value) (M : Mem) (Q : Option Value → Mem → Prop), Wp (d + 1) 197 576 L [.ref a, .int b] M Q ↔ (isK a 12 = true ∧ Wp d 169 0 [.ref a] [] M (fun r M2 => Wp (d + 1) 197 579 L (r.toList ++ [.int b]) M2 Q))) ∧
    (∀ (d : Nat) (a : Int32) (b : Int32) (L : List Value) (M : Mem) (Q : Option Value → Mem → Prop), Wp d 197 579 L [.int a, .int b] M Q ↔ (if b = a then Wp d 197 1018 L [] M Q else Wp d 197 582 L [] M Q)) ∧
    (∀ (d : Nat) (L : List Value) (M : Mem) (Q : Option Value → Mem → Prop), Wp d 197 582 L [] M Q ↔ Wp d 197 583 L [.int 0] M Q) ∧
    (∀ (d : Nat) (a : Int32) (L : List Value) (M : Mem) (Q : Option Value → Mem → Prop), Wp d 197 583 L [.int a] M Q ↔ ((a = 0 ∨ a = 1) ∧ Q (some (.int a)) M)) ∧
    (∀ (d : Nat) (v0 : Value) (x : Nat) (L : List Value) (M : Mem) (Q : Option Value → Mem → Prop), Wp d 197 584 (v0 :: .ref x :: L) [] M Q ↔ Wp d 197 585 (v0 :: .ref x :: L) [.ref x] M Q) ∧
    (∀ (d : Nat) (a : Nat) (x : Nat) (L : List Value) (M : Mem) (Q : Option Value → Mem → Prop), Wp d 197 585 (.ref x :: L) [.ref a] M Q ↔ Wp d 197 586 (.ref x :: L) [.ref x, .ref a] M Q) ∧
    (∀ (d : Nat) (a : Nat) (b : Nat) (v0 : Value) (v1 : Value) (v2 : Value) (x : Int32) (L : List Value) (M : Mem) (Q : Option Value → Mem → Prop), Wp d 197 586 (v0 :: v1 :: v2 :: .int x :: L) [.ref a, .ref b] M Q ↔ Wp d 197 587 (v0 :: v1 :: v2 :: .int x :: L) [.int x, .ref a, .ref b] M Q) ∧
    (∀ (d : Nat) (a : Int32) (b : Nat) (c : Nat) (L : List Value) (M : Mem) (Q : Option Value → Mem → Prop), Wp d 197 587 L [.int a, .ref b, .ref c] M Q ↔ Wp d 197 588 L [.int 1, .int a, .ref b, .ref c] M Q) ∧
    (∀ (d : Nat) (a : Int32) (b : Int32) (c : Nat) (d2 : Nat) (L : List Value) (M : Mem) (Q : Option Value → Mem → Prop), Wp d 197 588 L [.int a, .int b, .ref c, .ref d2] M Q ↔ Wp d 197 589 L [.int (b + a), .ref c, .ref d2] M Q) ∧
    (∀ (d : Nat) (a : Int32) (b : Nat) (c : Nat) (L : List Value) (M : Mem) (Q : Option Value → Mem → Prop), Wp d 197 589 L [.int a, .ref b, .ref c] M Q ↔ ((isR b = true ∧ inr a (lnm M b)) ∧ Wp d 197 590 L [.int (M b a.toNatClampNeg), .ref c] M Q)) ∧
    (∀ (d : Nat) (a : Int32) (b : Nat) (L : List Value) (M : Mem) (Q : Option Value → Mem → Prop), Wp (d + 1) 197 590 L [.int a, .ref b] M Q ↔ (isK b 11 = true ∧ Wp d 94 0 [.ref b, .int a] [] M (fun r M2 => Wp (d + 1) 197 593 L (r.toList ++ []) M2 Q))) ∧
    (∀ (d : Nat) (a : Int32) (v0 : Value) (v1 : Value) (x : Nat) (L : List Value) (M : Mem) (Q : Option Value → Mem → Prop), Wp d 197 593 (v0 :: v1 :: .ref x :: L) [.int a] M Q ↔ Wp d 197 594 (v0 :: v1 :: .ref x :: L) [.ref x, .int a] M Q) ∧
    (∀ (d : Nat) (a : Nat) (b : Int32) (x : Nat) (L : List Value) (M : Mem) (Q : Option Value → Mem → Prop), Wp d 197 594 (.ref x :: L) [.ref a, .int b] M Q ↔ Wp d 197 595 (.ref x :: L) [.ref x, .ref a, .int b] M Q) ∧
    (∀ (d : Nat) (a : Nat) (b : Nat) (c : Int32) (v0 : Value) (v1 : Value) (v2 : Value) (x : Int32) (L : List Value) (M : Mem) (Q : Option Value → Mem → Prop), Wp d 197 595 (v0 :: v1 :: v2 :: .int x :: L) [.ref a, .ref b, .int c] M Q ↔ Wp d 197 596 (v0 :: v1 :: v2 :: .int x :: L) [.int x, .ref a, .ref b, .int c] M Q) ∧
    (∀ (d : Nat) (a : Int32) (b : Nat) (c : Nat) (d2 : Int32) (L : List Value) (M : Mem) (Q : Option Value → Mem → Prop), Wp d 197 596 L [.int a, .ref b, .ref c, .int d2] M Q ↔ Wp d 197 597 L [.int 1, .int a, .ref b, .ref c, .int d2] M Q) ∧
    (∀ (d : Nat) (a : Int32) (b : Int32) (c : Nat) (d2 : Nat) (e : Int32) (L : List Value) (M : Mem) (Q : Option Value → Mem → Prop), Wp d 197 597 L [.int a, .int b, .ref c, .ref d2, .int e] M Q ↔ Wp d 197 598 L [.int (b + a), .ref c, .ref d2, .int e] M Q) ∧
    (∀ (d : Nat) (a : Int32) (b : Nat) (c : Nat) (d2 : Int32) (L : List Value) (M : Mem) (Q : Option Value → Mem → Prop), Wp d 197 598 L [.int a, .ref b, .ref c, .int d2] M Q ↔ ((isR b = true ∧ inr a (lnm M b)) ∧ Wp d 197 599 L [.int (M b a.toNatClampNeg), .ref c, .int d2] M Q)) ∧
    (∀ (d : Nat) (a : Int32) (b : Nat) (c : Int32) (L : List Value) (M : Mem) (Q : Option Value → Mem → Prop), Wp (d + 1) 197 599 L [.int a, .ref b, .int c] M Q ↔ (isK b 12 = true ∧ Wp d 170 0 [.ref b, .int a, .null, .null] [] M (fun r M2 => Wp (d + 1) 197 602 L (r.toList ++ [.int c]) M2 Q))) ∧
    (∀ (d : Nat) (a : Int32) (b : Int32) (L : List Value) (M : Mem) (Q : Option Value → Mem → Prop), Wp d 197 602 L [.int a, .int b] M Q ↔ (if b = a then Wp d 197 1018 L [] M Q else Wp d 197 605 L [] M Q)) ∧
    (∀ (d : Nat) (L : List Value) (M : Mem) (Q : Option Value → Mem → Prop), Wp d 197 605 L [] M Q ↔ Wp d 197 606 L [.int 0] M Q) ∧
    (∀ (d : Nat) (a : Int32) (L : List Value) (M : Mem) (Q : Option Value → Mem → Prop), Wp d 197 606 L [.int a] M Q ↔ ((a = 0 ∨ a = 1) ∧ Q (some (.int a)) M)) ∧
    (∀ (d : Nat) (v0 : Value) (x : Nat) (L : List Value) (M : Mem) (Q : Option Value → Mem → Prop), Wp d 197 607 (v0 :: .ref x :: L) [] M Q ↔ Wp d 197 608 (v0 :: .ref x :: L) [.ref x] M Q) ∧
    (∀ (d : Nat) (a : Nat) (x : Nat) (L : List Value) (M : Mem) (Q : Option Value → Mem → Prop), Wp d 197 608 (.ref x :: L) [.ref a] M Q ↔ Wp d 197 609 (.ref x :: L) [.ref x, .ref a] M Q) ∧
    (∀ (d : Nat) (a : Nat) (b : Nat) (v0 : Value) (v1 : Value) (v2 : Value) (x : Int32) (L : List Value) (M : Mem) (Q : Option Value → Mem → Prop), Wp d 197 609 (v0 :: v1 :: v2 :: .int x :: L) [.ref a, .ref b] M Q ↔ Wp d 197 610 (v0 :: v1 :: v2 :: .int x :: L) [.int x, .ref a, .ref b] M Q) ∧
    (∀ (d : Nat) (a : Int32) (b : Nat) (c : Nat) (L : List Value) (M : Mem) (Q : Option Value → Mem → Prop), Wp d 197 610 L [.int a, .ref b, .ref c] M Q ↔ Wp d 197 611 L [.int 1, .int a, .ref b, .ref c] M Q) ∧
    (∀ (d : Nat) (a : Int32) (b : Int32) (c : Nat) (d2 : Nat) (L : List Value) (M : Mem) (Q : Option Value → Mem → Prop), Wp d 197 611 L [.int a, .int b, .ref c, .ref d2] M Q ↔ Wp d 197 612 L [.int (b + a), .ref c, .ref d2] M Q) ∧
    (∀ (d : Nat) (a : Int32) (b : Nat) (c : Nat) (L : List Value) (M : Mem) (Q : Option Value → Mem → Prop), Wp d 197 612 L [.int a, .ref b, .ref c] M Q ↔ ((isR b = true ∧ inr a (lnm M b)) ∧ Wp d 197 613 L [.int (M b a.toNatClampNeg), .ref c] M Q)) ∧
    (∀ (d : Nat) (a : Int32) (b : Nat) (x : Nat) (L : List Value) (M : Mem) (Q : Option Value → Mem → Prop), Wp d 197 613 (.ref x :: L) [.int a, .ref b] M Q ↔ Wp d 197 614 (.ref x :: L) [.ref x, .int a, .ref b] M Q) ∧
    (∀ (d : Nat) (a : Nat) (b : Int32) (c : Nat) (v0 : Value) (v1 : Value) (v2 : Value) (x : Int32) (L : List Value) (M : Mem) (Q : Option Value → Mem → Prop), Wp d 197 614 (v0 :: v1 :: v2 :: .int x :: L) [.ref a, .int b, .ref c] M Q ↔ Wp d 197 615 (v0 :: v1 :: v2 :: .int x :: L) [.int x, .ref a, .int b, .ref c] M Q) ∧
    (∀ (d : Nat) (a : Int32) (b : Nat) (c : Int32) (d2 : Nat) (L : List Value) (M : Mem) (Q : Option Value → Mem → Prop), Wp d 197 615 L [.int a, .ref b, .int c, .ref d2] M Q ↔ Wp d 197 616 L [.int 2, .int a, .ref b, .int c, .ref d2] M Q) ∧
    (∀ (d : Nat) (a : Int32) (b : Int32) (c : Nat) (d2 : Int32) (e : Nat) (L : List Value) (M : Mem) (Q : Option Value → Mem → Prop), Wp d 197 616 L [.int a, .int b, .ref c, .int d2, .ref e] M Q ↔ Wp d 197 617 L [.int (b + a), .ref c, .int d2, .ref e] M Q) ∧
    (∀ (d : Nat) (a : Int32) (b : Nat) (c : Int32) (d2 : Nat) (L : List Value) (M : Mem) (Q : Option Value → Mem → Prop), Wp d 197 617 L [.int a, .ref b, .int c, .ref d2] M Q ↔ ((isR b = true ∧ inr a (lnm M b)) ∧ Wp d 197 618 L [.int (M b a.toNatClampNeg), .int c, .ref d2] M Q)) ∧
    (∀ (d : Nat) (a : Int32) (b : Int32) (c : Nat) (L : List Value) (M : Mem) (Q : Option Value → Mem → Prop), Wp (d + 1) 197 618 L [.int a, .int b, .ref c] M Q ↔ (isK c 11 = true ∧ Wp d 95 0 [.ref c, .int b, .int a, .null] [] M (fun r M2 => Wp (d + 1) 197 621 L (r.toList ++ []) M2 Q))) ∧
    (∀ (d : Nat) (a : Int32) (v0 : Value) (v1 : Value) (x : Nat) (L : List Value) (M : Mem) (Q : Option Value → Mem → Prop), Wp d 197 621 (v0 :: v1 :: .ref x :: L) [.int a] M Q ↔ Wp d 197 622 (v0 :: v1 :: .ref x :: L) [.ref x, .int a] M Q) ∧
    (∀ (d : Nat) (a : Nat) (b : Int32) (x : Nat) (L : List Value) (M : Mem) (Q : Option Value → Mem → Prop), Wp d 197 622 (.ref x :: L) [.ref a, .int b] M Q ↔ Wp d 197 623 (.ref x :: L) [.ref x, .ref a, .int b] M Q) := by
  refine ⟨?_, ?_, ?_, ?_, ?_, ?_, ?_, ?_, ?_, ?_, ?_, ?_, ?_, ?_, ?_, ?_, ?_, ?_, ?_, ?_, ?_, ?_, ?_, ?_, ?_, ?_, ?_, ?_, ?_, ?_, ?_, ?_, ?_, ?_, ?_, ?_, ?_, ?_, ?_, ?_, ?_, ?_, ?_, ?_, ?_, ?_, ?_, ?_, ?_, ?_, ?_, ?_, ?_, ?_, ?_, ?_, ?_, ?_, ?_, ?_⟩
  · intro d a b c d2 e L M Q; exact q_ald (by decide +kernel : decode (cd 197) 539 = .ok (.iaload , 1))
  · intro d a b c d2 L M Q; exact q_invV (pz := 1141) (n := 2) (c := 12) (m := 3) (k := c) (As := [.int b, .int a]) (rest := [.int d2]) (by decide +kernel : decode (cd 197) 540 = .ok (.invokevirtual 72, 3)) (by decide +kernel) (by decide +kernel) rfl rfl (Nat.le_of_ble_eq_true rfl) (Nat.le_of_ble_eq_true rfl) rfl
  · intro d a b L M Q; exact q_ieq (by decide +kernel : decode (cd 197) 543 = .ok (.if_icmp .eq 475, 3)) (by decide)
  · intro d L M Q; exact Wp_sim (by decide +kernel : decode (cd 197) 546 = .ok (.iconst 0, 1)) rfl rfl
  · intro d a L M Q; exact q_zret (by decide +kernel : decode (cd 197) 547 = .ok (.ireturn , 1)) (by decide +kernel)
  · intro d v0 x L M Q; exact Wp_sim (by decide +kernel : decode (cd 197) 548 = .ok (.aload_n 1, 1)) rfl rfl
  · intro d a x L M Q; exact Wp_sim (by decide +kernel : decode (cd 197) 549 = .ok (.aload_n 0, 1)) rfl rfl
  · intro d a b v0 v1 v2 x L M Q; exact Wp_sim (by decide +kernel : decode (cd 197) 550 = .ok (.iload_n 3, 1)) rfl rfl
  · intro d a b c L M Q; exact Wp_sim (by decide +kernel : decode (cd 197) 551 = .ok (.iconst 1, 1)) rfl rfl
  · intro d a b c d2 L M Q; exact Wp_sim (by decide +kernel : decode (cd 197) 552 = .ok (.iadd , 1)) rfl rfl
  · intro d a b c L M Q; exact q_ald (by decide +kernel : decode (cd 197) 553 = .ok (.iaload , 1))
  · intro d a b L M Q; exact q_invV (pz := 643) (n := 1) (c := 11) (m := 4) (k := b) (As := [.int a]) (rest := []) (by decide +kernel : decode (cd 197) 554 = .ok (.invokevirtual 73, 3)) (by decide +kernel) (by decide +kernel) rfl rfl (Nat.le_of_ble_eq_true rfl) (Nat.le_of_ble_eq_true rfl) rfl
  · intro d a v0 v1 x L M Q; exact Wp_sim (by decide +kernel : decode (cd 197) 557 = .ok (.aload_n 2, 1)) rfl rfl
  · intro d a b x L M Q; exact Wp_sim (by decide +kernel : decode (cd 197) 558 = .ok (.aload_n 0, 1)) rfl rfl
  · intro d a b c v0 v1 v2 x L M Q; exact Wp_sim (by decide +kernel : decode (cd 197) 559 = .ok (.iload_n 3, 1)) rfl rfl
  · intro d a b c d2 L M Q; exact Wp_sim (by decide +kernel : decode (cd 197) 560 = .ok (.iconst 1, 1)) rfl rfl
  · intro d a b c d2 e L M Q; exact Wp_sim (by decide +kernel : decode (cd 197) 561 = .ok (.iadd , 1)) rfl rfl
  · intro d a b c d2 L M Q; exact q_ald (by decide +kernel : decode (cd 197) 562 = .ok (.iaload , 1))
  · intro d a b c L M Q; exact q_invV (pz := 1153) (n := 1) (c := 12) (m := 4) (k := b) (As := [.int a]) (rest := [.int c]) (by decide +kernel : decode (cd 197) 563 = .ok (.invokevirtual 76, 3)) (by decide +kernel) (by decide +kernel) rfl rfl (Nat.le_of_ble_eq_true rfl) (Nat.le_of_ble_eq_true rfl) rfl
  · intro d a b L M Q; exact q_ieq (by decide +kernel : decode (cd 197) 566 = .ok (.if_icmp .eq 452, 3)) (by decide)
  · intro d L M Q; exact Wp_sim (by decide +kernel : decode (cd 197) 569 = .ok (.iconst 0, 1)) rfl rfl
  · intro d a L M Q; exact q_zret (by decide +kernel : decode (cd 197) 570 = .ok (.ireturn , 1)) (by decide +kernel)
  · intro d v0 x L M Q; exact Wp_sim (by decide +kernel : decode (cd 197) 571 = .ok (.aload_n 1, 1)) rfl rfl
  · intro d a L M Q; exact q_invV (pz := 671) (n := 0) (c := 11) (m := 1) (k := a) (As := []) (rest := []) (by decide +kernel : decode (cd 197) 572 = .ok (.invokevirtual 77, 3)) (by decide +kernel) (by decide +kernel) rfl rfl (Nat.le_of_ble_eq_true rfl) (Nat.le_of_ble_eq_true rfl) rfl
  · intro d a v0 v1 x L M Q; exact Wp_sim (by decide +kernel : decode (cd 197) 575 = .ok (.aload_n 2, 1)) rfl rfl
  · intro d a b L M Q; exact q_invV (pz := 1173) (n := 0) (c := 12) (m := 1) (k := a) (As := []) (rest := [.int b]) (by decide +kernel : decode (cd 197) 576 = .ok (.invokevirtual 80, 3)) (by decide +kernel) (by decide +kernel) rfl rfl (Nat.le_of_ble_eq_true rfl) (Nat.le_of_ble_eq_true rfl) rfl
  · intro d a b L M Q; exact q_ieq (by decide +kernel : decode (cd 197) 579 = .ok (.if_icmp .eq 439, 3)) (by decide)
  · intro d L M Q; exact Wp_sim (by decide +kernel : decode (cd 197) 582 = .ok (.iconst 0, 1)) rfl rfl
  · intro d a L M Q; exact q_zret (by decide +kernel : decode (cd 197) 583 = .ok (.ireturn , 1)) (by decide +kernel)
  · intro d v0 x L M Q; exact Wp_sim (by decide +kernel : decode (cd 197) 584 = .ok (.aload_n 1, 1)) rfl rfl
  · intro d a x L M Q; exact Wp_sim (by decide +kernel : decode (cd 197) 585 = .ok (.aload_n 0, 1)) rfl rfl
  · intro d a b v0 v1 v2 x L M Q; exact Wp_sim (by decide +kernel : decode (cd 197) 586 = .ok (.iload_n 3, 1)) rfl rfl
  · intro d a b c L M Q; exact Wp_sim (by decide +kernel : decode (cd 197) 587 = .ok (.iconst 1, 1)) rfl rfl
  · intro d a b c d2 L M Q; exact Wp_sim (by decide +kernel : decode (cd 197) 588 = .ok (.iadd , 1)) rfl rfl
  · intro d a b c L M Q; exact q_ald (by decide +kernel : decode (cd 197) 589 = .ok (.iaload , 1))
  · intro d a b L M Q; exact q_invV (pz := 683) (n := 1) (c := 11) (m := 2) (k := b) (As := [.int a]) (rest := []) (by decide +kernel : decode (cd 197) 590 = .ok (.invokevirtual 81, 3)) (by decide +kernel) (by decide +kernel) rfl rfl (Nat.le_of_ble_eq_true rfl) (Nat.le_of_ble_eq_true rfl) rfl
  · intro d a v0 v1 x L M Q; exact Wp_sim (by decide +kernel : decode (cd 197) 593 = .ok (.aload_n 2, 1)) rfl rfl
  · intro d a b x L M Q; exact Wp_sim (by decide +kernel : decode (cd 197) 594 = .ok (.aload_n 0, 1)) rfl rfl
  · intro d a b c v0 v1 v2 x L M Q; exact Wp_sim (by decide +kernel : decode (cd 197) 595 = .ok (.iload_n 3, 1)) rfl rfl
  · intro d a b c d2 L M Q; exact Wp_sim (by decide +kernel : decode (cd 197) 596 = .ok (.iconst 1, 1)) rfl rfl
  · intro d a b c d2 e L M Q; exact Wp_sim (by decide +kernel : decode (cd 197) 597 = .ok (.iadd , 1)) rfl rfl
  · intro d a b c d2 L M Q; exact q_ald (by decide +kernel : decode (cd 197) 598 = .ok (.iaload , 1))
  · intro d a b c L M Q; exact q_invV (pz := 1177) (n := 1) (c := 12) (m := 4) (k := b) (As := [.int a]) (rest := [.int c]) (by decide +kernel : decode (cd 197) 599 = .ok (.invokevirtual 84, 3)) (by decide +kernel) (by decide +kernel) rfl rfl (Nat.le_of_ble_eq_true rfl) (Nat.le_of_ble_eq_true rfl) rfl
  · intro d a b L M Q; exact q_ieq (by decide +kernel : decode (cd 197) 602 = .ok (.if_icmp .eq 416, 3)) (by decide)
  · intro d L M Q; exact Wp_sim (by decide +kernel : decode (cd 197) 605 = .ok (.iconst 0, 1)) rfl rfl
  · intro d a L M Q; exact q_zret (by decide +kernel : decode (cd 197) 606 = .ok (.ireturn , 1)) (by decide +kernel)
  · intro d v0 x L M Q; exact Wp_sim (by decide +kernel : decode (cd 197) 607 = .ok (.aload_n 1, 1)) rfl rfl
  · intro d a x L M Q; exact Wp_sim (by decide +kernel : decode (cd 197) 608 = .ok (.aload_n 0, 1)) rfl rfl
  · intro d a b v0 v1 v2 x L M Q; exact Wp_sim (by decide +kernel : decode (cd 197) 609 = .ok (.iload_n 3, 1)) rfl rfl
  · intro d a b c L M Q; exact Wp_sim (by decide +kernel : decode (cd 197) 610 = .ok (.iconst 1, 1)) rfl rfl
  · intro d a b c d2 L M Q; exact Wp_sim (by decide +kernel : decode (cd 197) 611 = .ok (.iadd , 1)) rfl rfl
  · intro d a b c L M Q; exact q_ald (by decide +kernel : decode (cd 197) 612 = .ok (.iaload , 1))
  · intro d a b x L M Q; exact Wp_sim (by decide +kernel : decode (cd 197) 613 = .ok (.aload_n 0, 1)) rfl rfl
  · intro d a b c v0 v1 v2 x L M Q; exact Wp_sim (by decide +kernel : decode (cd 197) 614 = .ok (.iload_n 3, 1)) rfl rfl
  · intro d a b c d2 L M Q; exact Wp_sim (by decide +kernel : decode (cd 197) 615 = .ok (.iconst 2, 1)) rfl rfl
  · intro d a b c d2 e L M Q; exact Wp_sim (by decide +kernel : decode (cd 197) 616 = .ok (.iadd , 1)) rfl rfl
  · intro d a b c d2 L M Q; exact q_ald (by decide +kernel : decode (cd 197) 617 = .ok (.iaload , 1))
  · intro d a b c L M Q; exact q_invV (pz := 692) (n := 2) (c := 11) (m := 4) (k := c) (As := [.int b, .int a]) (rest := []) (by decide +kernel : decode (cd 197) 618 = .ok (.invokevirtual 85, 3)) (by decide +kernel) (by decide +kernel) rfl rfl (Nat.le_of_ble_eq_true rfl) (Nat.le_of_ble_eq_true rfl) rfl
  · intro d a v0 v1 x L M Q; exact Wp_sim (by decide +kernel : decode (cd 197) 621 = .ok (.aload_n 2, 1)) rfl rfl
  · intro d a b x L M Q; exact Wp_sim (by decide +kernel : decode (cd 197) 622 = .ok (.aload_n 0, 1)) rfl rfl
set_option maxRecDepth 10000 in
theorem e197_6 : (∀ (d : Nat) (a : Nat) (b : Nat) (c : Int32) (v0 : Value) (v1 : Value) (v2 : Value) (x : Int32) (L : List Value) (M : Mem) (Q : Option Value → Mem → Prop), Wp d 197 623 (v0 :: v1 :: v2 :: .int x :: L) [.ref a, .ref b, .int c] M Q ↔ Wp d 197 624 (v0 :: v1 :: v2 :: .int x :: L) [.int x, .ref a, .ref b, .int c] M Q) ∧
    (∀ (d : Nat) (a : Int32) (b : Nat) (c : Nat) (d2 : Int32) (L : List Value) (M : Mem) (Q : Option Value → Mem → Prop), Wp d 197 624 L [.int a, .ref b, .ref c, .int d2] M Q ↔ Wp d 197 625 L [.int 1, .int a, .ref b, .ref c, .int d2] M Q) ∧
    (∀ (d : Nat) (a : Int32) (b : Int32) (c : Nat) (d2 : Nat) (e : Int32) (L : List Value) (M : Mem) (Q : Option Value → Mem → Prop), Wp d 197 625 L [.int a, .int b, .ref c, .ref d2, .int e] M Q ↔ Wp d 197 626 L [.int (b + a), .ref c, .ref d2, .int e] M Q) ∧
    (∀ (d : Nat) (a : Int32) (b : Nat) (c : Nat) (d2 : Int32) (L : List Value) (M : Mem) (Q : Option Value → Mem → Prop), Wp d 197 626 L [.int a, .ref b, .ref c, .int d2] M Q ↔ ((isR b = true ∧ inr a (lnm M b)) ∧ Wp d 197 627 L [.int (M b a.toNatClampNeg), .ref c, .int d2] M Q)) ∧
    (∀ (d : Nat) (a : Int32) (b : Nat) (c : Int32) (x : Nat) (L : List Value) (M : Mem) (Q : Option Value → Mem → Prop), Wp d 197 627 (.ref x :: L) [.int a, .ref b, .int c] M Q ↔ Wp d 197 628 (.ref x :: L) [.ref x, .int a, .ref b, .int c] M Q) ∧
    (∀ (d : Nat) (a : Nat) (b : Int32) (c : Nat) (d2 : Int32) (v0 : Value) (v1 : Value) (v2 : Value) (x : Int32) (L : List Value) (M : Mem) (Q : Option Value → Mem → Prop), Wp d 197 628 (v0 :: v1 :: v2 :: .int x :: L) [.ref a, .int b, .ref c, .int d2] M Q ↔ Wp d 197 629 (v0 :: v1 :: v2 :: .int x :: L) [.int x, .ref a, .int b, .ref c, .int d2] M Q) ∧
    (∀ (d : Nat) (a : Int32) (b : Nat) (c : Int32) (d2 : Nat) (e : Int32) (L : List Value) (M : Mem) (Q : Option Value → Mem → Prop), Wp d 197 629 L [.int a, .ref b, .int c, .ref d2, .int e] M Q ↔ Wp d 197 630 L [.int 2, .int a, .ref b, .int c, .ref d2, .int e] M Q) ∧
    (∀ (d : Nat) (a : Int32) (b : Int32) (c : Nat) (d2 : Int32) (e : Nat) (f : Int32) (L : List Value) (M : Mem) (Q : Option Value → Mem → Prop), Wp d 197 630 L [.int a, .int b, .ref c, .int d2, .ref e, .int f] M Q ↔ Wp d 197 631 L [.int (b + a), .ref c, .int d2, .ref e, .int f] M Q) ∧
    (∀ (d : Nat) (a : Int32) (b : Nat) (c : Int32) (d2 : Nat) (e : Int32) (L : List Value) (M : Mem) (Q : Option Value → Mem → Prop), Wp d 197 631 L [.int a, .ref b, .int c, .ref d2, .int e] M Q ↔ ((isR b = true ∧ inr a (lnm M b)) ∧ Wp d 197 632 L [.int (M b a.toNatClampNeg), .int c, .ref d2, .int e] M Q)) ∧
    (∀ (d : Nat) (a : Int32) (b : Int32) (c : Nat) (d2 : Int32) (L : List Value) (M : Mem) (Q : Option Value → Mem → Prop), Wp (d + 1) 197 632 L [.int a, .int b, .ref c, .int d2] M Q ↔ (isK c 12 = true ∧ Wp d 171 0 [.ref c, .int b, .int a, .null, .null, .null, .null, .null, .null, .null] [] M (fun r M2 => Wp (d + 1) 197 635 L (r.toList ++ [.int d2]) M2 Q))) ∧
    (∀ (d : Nat) (a : Int32) (b : Int32) (L : List Value) (M : Mem) (Q : Option Value → Mem → Prop), Wp d 197 635 L [.int a, .int b] M Q ↔ (if b = a then Wp d 197 1018 L [] M Q else Wp d 197 638 L [] M Q)) ∧
    (∀ (d : Nat) (L : List Value) (M : Mem) (Q : Option Value → Mem → Prop), Wp d 197 638 L [] M Q ↔ Wp d 197 639 L [.int 0] M Q) ∧
    (∀ (d : Nat) (a : Int32) (L : List Value) (M : Mem) (Q : Option Value → Mem → Prop), Wp d 197 639 L [.int a] M Q ↔ ((a = 0 ∨ a = 1) ∧ Q (some (.int a)) M)) ∧
    (∀ (d : Nat) (v0 : Value) (x : Nat) (L : List Value) (M : Mem) (Q : Option Value → Mem → Prop), Wp d 197 640 (v0 :: .ref x :: L) [] M Q ↔ Wp d 197 641 (v0 :: .ref x :: L) [.ref x] M Q) ∧
    (∀ (d : Nat) (a : Nat) (x : Nat) (L : List Value) (M : Mem) (Q : Option Value → Mem → Prop), Wp d 197 641 (.ref x :: L) [.ref a] M Q ↔ Wp d 197 642 (.ref x :: L) [.ref x, .ref a] M Q) ∧
    (∀ (d : Nat) (a : Nat) (b : Nat) (v0 : Value) (v1 : Value) (v2 : Value) (x : Int32) (L : List Value) (M : Mem) (Q : Option Value → Mem → Prop), Wp d 197 642 (v0 :: v1 :: v2 :: .int x :: L) [.ref a, .ref b] M Q ↔ Wp d 197 643 (v0 :: v1 :: v2 :: .int x :: L) [.int x, .ref a, .ref b] M Q) ∧
    (∀ (d : Nat) (a : Int32) (b : Nat) (c : Nat) (L : List Value) (M : Mem) (Q : Option Value → Mem → Prop), Wp d 197 643 L [.int a, .ref b, .ref c] M Q ↔ Wp d 197 644 L [.int 1, .int a, .ref b, .ref c] M Q) ∧
    (∀ (d : Nat) (a : Int32) (b : Int32) (c : Nat) (d2 : Nat) (L : List Value) (M : Mem) (Q : Option Value → Mem → Prop), Wp d 197 644 L [.int a, .int b, .ref c, .ref d2] M Q ↔ Wp d 197 645 L [.int (b + a), .ref c, .ref d2] M Q) ∧
    (∀ (d : Nat) (a : Int32) (b : Nat) (c : Nat) (L : List Value) (M : Mem) (Q : Option Value → Mem → Prop), Wp d 197 645 L [.int a, .ref b, .ref c] M Q ↔ ((isR b = true ∧ inr a (lnm M b)) ∧ Wp d 197 646 L [.int (M b a.toNatClampNeg), .ref c] M Q)) ∧
    (∀ (d : Nat) (a : Int32) (b : Nat) (x : Nat) (L : List Value) (M : Mem) (Q : Option Value → Mem → Prop), Wp d 197 646 (.ref x :: L) [.int a, .ref b] M Q ↔ Wp d 197 647 (.ref x :: L) [.ref x, .int a, .ref b] M Q) ∧
    (∀ (d : Nat) (a : Nat) (b : Int32) (c : Nat) (v0 : Value) (v1 : Value) (v2 : Value) (x : Int32) (L : List Value) (M : Mem) (Q : Option Value → Mem → Prop), Wp d 197 647 (v0 :: v1 :: v2 :: .int x :: L) [.ref a, .int b, .ref c] M Q ↔ Wp d 197 648 (v0 :: v1 :: v2 :: .int x :: L) [.int x, .ref a, .int b, .ref c] M Q) ∧
    (∀ (d : Nat) (a : Int32) (b : Nat) (c : Int32) (d2 : Nat) (L : List Value) (M : Mem) (Q : Option Value → Mem → Prop), Wp d 197 648 L [.int a, .ref b, .int c, .ref d2] M Q ↔ Wp d 197 649 L [.int 2, .int a, .ref b, .int c, .ref d2] M Q) ∧
    (∀ (d : Nat) (a : Int32) (b : Int32) (c : Nat) (d2 : Int32) (e : Nat) (L : List Value) (M : Mem) (Q : Option Value → Mem → Prop), Wp d 197 649 L [.int a, .int b, .ref c, .int d2, .ref e] M Q ↔ Wp d 197 650 L [.int (b + a), .ref c, .int d2, .ref e] M Q) ∧
    (∀ (d : Nat) (a : Int32) (b : Nat) (c : Int32) (d2 : Nat) (L : List Value) (M : Mem) (Q : Option Value → Mem → Prop), Wp d 197 650 L [.int a, .ref b, .int c, .ref d2] M Q ↔ ((isR b = true ∧ inr a (lnm M b)) ∧ Wp d 197 651 L [.int (M b a.toNatClampNeg), .int c, .ref d2] M Q)) ∧
    (∀ (d : Nat) (a : Int32) (b : Int32) (c : Nat) (L : List Value) (M : Mem) (Q : Option Value → Mem → Prop), Wp (d + 1) 197 651 L [.int a, .int b, .ref c] M Q ↔ (isK c 11 = true ∧ Wp d 96 0 [.ref c, .int b, .int a] [] M (fun r M2 => Wp (d + 1) 197 654 L (r.toList ++ []) M2 Q))) ∧
    (∀ (d : Nat) (a : Int32) (v0 : Value) (v1 : Value) (x : Nat) (L : List Value) (M : Mem) (Q : Option Value → Mem → Prop), Wp d 197 654 (v0 :: v1 :: .ref x :: L) [.int a] M Q ↔ Wp d 197 655 (v0 :: v1 :: .ref x :: L) [.ref x, .int a] M Q) ∧
    (∀ (d : Nat) (a : Nat) (b : Int32) (x : Nat) (L : List Value) (M : Mem) (Q : Option Value → Mem → Prop), Wp d 197 655 (.ref x :: L) [.ref a, .int b] M Q ↔ Wp d 197 656 (.ref x :: L) [.ref x, .ref a, .int b] M Q) ∧
    (∀ (d : Nat) (a : Nat) (b : Nat) (c : Int32) (v0 : Value) (v1 : Value) (v2 : Value) (x : Int32) (L : List Value) (M : Mem) (Q : Option Value → Mem → Prop), Wp d 197 656 (v0 :: v1 :: v2 :: .int x :: L) [.ref a, .ref b, .int c] M Q ↔ Wp d 197 657 (v0 :: v1 :: v2 :: .int x :: L) [.int x, .ref a, .ref b, .int c] M Q) ∧
    (∀ (d : Nat) (a : Int32) (b : Nat) (c : Nat) (d2 : Int32) (L : List Value) (M : Mem) (Q : Option Value → Mem → Prop), Wp d 197 657 L [.int a, .ref b, .ref c, .int d2] M Q ↔ Wp d 197 658 L [.int 1, .int a, .ref b, .ref c, .int d2] M Q) ∧
    (∀ (d : Nat) (a : Int32) (b : Int32) (c : Nat) (d2 : Nat) (e : Int32) (L : List Value) (M : Mem) (Q : Option Value → Mem → Prop), Wp d 197 658 L [.int a, .int b, .ref c, .ref d2, .int e] M Q ↔ Wp d 197 659 L [.int (b + a), .ref c, .ref d2, .int e] M Q) ∧
    (∀ (d : Nat) (a : Int32) (b : Nat) (c : Nat) (d2 : Int32) (L : List Value) (M : Mem) (Q : Option Value → Mem → Prop), Wp d 197 659 L [.int a, .ref b, .ref c, .int d2] M Q ↔ ((isR b = true ∧ inr a (lnm M b)) ∧ Wp d 197 660 L [.int (M b a.toNatClampNeg), .ref c, .int d2] M Q)) ∧
    (∀ (d : Nat) (a : Int32) (b : Nat) (c : Int32) (x : Nat) (L : List Value) (M : Mem) (Q : Option Value → Mem → Prop), Wp d 197 660 (.ref x :: L) [.int a, .ref b, .int c] M Q ↔ Wp d 197 661 (.ref x :: L) [.ref x, .int a, .ref b, .int c] M Q) ∧
    (∀ (d : Nat) (a : Nat) (b : Int32) (c : Nat) (d2 : Int32) (v0 : Value) (v1 : Value) (v2 : Value) (x : Int32) (L : List Value) (M : Mem) (Q : Option Value → Mem → Prop), Wp d 197 661 (v0 :: v1 :: v2 :: .int x :: L) [.ref a, .int b, .ref c, .int d2] M Q ↔ Wp d 197 662 (v0 :: v1 :: v2 :: .int x :: L) [.int x, .ref a, .int b, .ref c, .int d2] M Q) ∧
    (∀ (d : Nat) (a : Int32) (b : Nat) (c : Int32) (d2 : Nat) (e : Int32) (L : List Value) (M : Mem) (Q : Option Value → Mem → Prop), Wp d 197 662 L [.int a, .ref b, .int c, .ref d2, .int e] M Q ↔ Wp d 197 663 L [.int 2, .int a, .ref b, .int c, .ref d2, .int e] M Q) ∧
    (∀ (d : Nat) (a : Int32) (b : Int32) (c : Nat) (d2 : Int32) (e : Nat) (f : Int32) (L : List Value) (M : Mem) (Q : Option Value → Mem → Prop), Wp d 197 663 L [.int a, .int b, .ref c, .int d2, .ref e, .int f] M Q ↔ Wp d 197 664 L [.int (b + a), .ref c, .int d2, .ref e, .int f] M Q) ∧
    (∀ (d : Nat) (a : Int32) (b : Nat) (c : Int32) (d2 : Nat) (e : Int32) (L : List Value) (M : Mem) (Q : Option Value → Mem → Prop), Wp d 197 664 L [.int a, .ref b, .int c, .ref d2, .int e] M Q ↔ ((isR b = true ∧ inr a (lnm M b)) ∧ Wp d 197 665 L [.int (M b a.toNatClampNeg), .int c, .ref d2, .int e] M Q)) ∧
    (∀ (d : Nat) (a : Int32) (b : Int32) (c : Nat) (d2 : Int32) (L : List Value) (M : Mem) (Q : Option Value → Mem → Prop), Wp (d + 1) 197 665 L [.int a, .int b, .ref c, .int d2] M Q ↔ (isK c 12 = true ∧ Wp d 172 0 [.ref c, .int b, .int a] [] M (fun r M2 => Wp (d + 1) 197 668 L (r.toList ++ [.int d2]) M2 Q))) ∧
    (∀ (d : Nat) (a : Int32) (b : Int32) (L : List Value) (M : Mem) (Q : Option Value → Mem → Prop), Wp d 197 668 L [.int a, .int b] M Q ↔ (if b = a then Wp d 197 1018 L [] M Q else Wp d 197 671 L [] M Q)) ∧
    (∀ (d : Nat) (L : List Value) (M : Mem) (Q : Option Value → Mem → Prop), Wp d 197 671 L [] M Q ↔ Wp d 197 672 L [.int 0] M Q) ∧
    (∀ (d : Nat) (a : Int32) (L : List Value) (M : Mem) (Q : Option Value → Mem → Prop), Wp d 197 672 L [.int a] M Q ↔ ((a = 0 ∨ a = 1) ∧ Q (some (.int a)) M)) ∧
    (∀ (d : Nat) (v0 : Value) (x : Nat) (L : List Value) (M : Mem) (Q : Option Value → Mem → Prop), Wp d 197 673 (v0 :: .ref x :: L) [] M Q ↔ Wp d 197 674 (v0 :: .ref x :: L) [.ref x] M Q) ∧
    (∀ (d : Nat) (a : Nat) (x : Nat) (L : List Value) (M : Mem) (Q : Option Value → Mem → Prop), Wp d 197 674 (.ref x :: L) [.ref a] M Q ↔ Wp d 197 675 (.ref x :: L) [.ref x, .ref a] M Q) ∧
    (∀ (d : Nat) (a : Nat) (b : Nat) (v0 : Value) (v1 : Value) (v2 : Value) (x : Int32) (L : List Value) (M : Mem) (Q : Option Value → Mem → Prop), Wp d 197 675 (v0 :: v1 :: v2 :: .int x :: L) [.ref a, .ref b] M Q ↔ Wp d 197 676 (v0 :: v1 :: v2 :: .int x :: L) [.int x, .ref a, .ref b] M Q) ∧
    (∀ (d : Nat) (a : Int32) (b : Nat) (c : Nat) (L : List Value) (M : Mem) (Q : Option Value → Mem → Prop), Wp d 197 676 L [.int a, .ref b, .ref c] M Q ↔ Wp d 197 677 L [.int 1, .int a, .ref b, .ref c] M Q) ∧
    (∀ (d : Nat) (a : Int32) (b : Int32) (c : Nat) (d2 : Nat) (L : List Value) (M : Mem) (Q : Option Value → Mem → Prop), Wp d 197 677 L [.int a, .int b, .ref c, .ref d2] M Q ↔ Wp d 197 678 L [.int (b + a), .ref c, .ref d2] M Q) ∧
    (∀ (d : Nat) (a : Int32) (b : Nat) (c : Nat) (L : List Value) (M : Mem) (Q : Option Value → Mem → Prop), Wp d 197 678 L [.int a, .ref b, .ref c] M Q ↔ ((isR b = true ∧ inr a (lnm M b)) ∧ Wp d 197 679 L [.int (M b a.toNatClampNeg), .ref c] M Q)) ∧
    (∀ (d : Nat) (a : Int32) (b : Nat) (x : Nat) (L : List Value) (M : Mem) (Q : Option Value → Mem → Prop), Wp d 197 679 (.ref x :: L) [.int a, .ref b] M Q ↔ Wp d 197 680 (.ref x :: L) [.ref x, .int a, .ref b] M Q) ∧
    (∀ (d : Nat) (a : Nat) (b : Int32) (c : Nat) (v0 : Value) (v1 : Value) (v2 : Value) (x : Int32) (L : List Value) (M : Mem) (Q : Option Value → Mem → Prop), Wp d 197 680 (v0 :: v1 :: v2 :: .int x :: L) [.ref a, .int b, .ref c] M Q ↔ Wp d 197 681 (v0 :: v1 :: v2 :: .int x :: L) [.int x, .ref a, .int b, .ref c] M Q) ∧
    (∀ (d : Nat) (a : Int32) (b : Nat) (c : Int32) (d2 : Nat) (L : List Value) (M : Mem) (Q : Option Value → Mem → Prop), Wp d 197 681 L [.int a, .ref b, .int c, .ref d2] M Q ↔ Wp d 197 682 L [.int 2, .int a, .ref b, .int c, .ref d2] M Q) ∧
    (∀ (d : Nat) (a : Int32) (b : Int32) (c : Nat) (d2 : Int32) (e : Nat) (L : List Value) (M : Mem) (Q : Option Value → Mem → Prop), Wp d 197 682 L [.int a, .int b, .ref c, .int d2, .ref e] M Q ↔ Wp d 197 683 L [.int (b + a), .ref c, .int d2, .ref e] M Q) ∧
    (∀ (d : Nat) (a : Int32) (b : Nat) (c : Int32) (d2 : Nat) (L : List Value) (M : Mem) (Q : Option Value → Mem → Prop), Wp d 197 683 L [.int a, .ref b, .int c, .ref d2] M Q ↔ ((isR b = true ∧ inr a (lnm M b)) ∧ Wp d 197 684 L [.int (M b a.toNatClampNeg), .int c, .ref d2] M Q)) ∧
    (∀ (d : Nat) (a : Int32) (b : Int32) (c : Nat) (L : List Value) (M : Mem) (Q : Option Value → Mem → Prop), Wp (d + 1) 197 684 L [.int a, .int b, .ref c] M Q ↔ (isK c 11 = true ∧ Wp d 97 0 [.ref c, .int b, .int a, .null] [] M (fun r M2 => Wp (d + 1) 197 687 L (r.toList ++ []) M2 Q))) ∧
    (∀ (d : Nat) (a : Int32) (v0 : Value) (v1 : Value) (x : Nat) (L : List Value) (M : Mem) (Q : Option Value → Mem → Prop), Wp d 197 687 (v0 :: v1 :: .ref x :: L) [.int a] M Q ↔ Wp d 197 688 (v0 :: v1 :: .ref x :: L) [.ref x, .int a] M Q) ∧
    (∀ (d : Nat) (a : Nat) (b : Int32) (x : Nat) (L : List Value) (M : Mem) (Q : Option Value → Mem → Prop), Wp d 197 688 (.ref x :: L) [.ref a, .int b] M Q ↔ Wp d 197 689 (.ref x :: L) [.ref x, .ref a, .int b] M Q) ∧
    (∀ (d : Nat) (a : Nat) (b : Nat) (c : Int32) (v0 : Value) (v1 : Value) (v2 : Value) (x : Int32) (L : List Value) (M : Mem) (Q : Option Value → Mem → Prop), Wp d 197 689 (v0 :: v1 :: v2 :: .int x :: L) [.ref a, .ref b, .int c] M Q ↔ Wp d 197 690 (v0 :: v1 :: v2 :: .int x :: L) [.int x, .ref a, .ref b, .int c] M Q) ∧
    (∀ (d : Nat) (a : Int32) (b : Nat) (c : Nat) (d2 : Int32) (L : List Value) (M : Mem) (Q : Option Value → Mem → Prop), Wp d 197 690 L [.int a, .ref b, .ref c, .int d2] M Q ↔ Wp d 197 691 L [.int 1, .int a, .ref b, .ref c, .int d2] M Q) ∧
    (∀ (d : Nat) (a : Int32) (b : Int32) (c : Nat) (d2 : Nat) (e : Int32) (L : List Value) (M : Mem) (Q : Option Value → Mem → Prop), Wp d 197 691 L [.int a, .int b, .ref c, .ref d2, .int e] M Q ↔ Wp d 197 692 L [.int (b + a), .ref c, .ref d2, .int e] M Q) ∧
    (∀ (d : Nat) (a : Int32) (b : Nat) (c : Nat) (d2 : Int32) (L : List Value) (M : Mem) (Q : Option Value → Mem → Prop), Wp d 197 692 L [.int a, .ref b, .ref c, .int d2] M Q ↔ ((isR b = true ∧ inr a (lnm M b)) ∧ Wp d 197 693 L [.int (M b a.toNatClampNeg), .ref c, .int d2] M Q)) ∧
    (∀ (d : Nat) (a : Int32) (b : Nat) (c : Int32) (x : Nat) (L : List Value) (M : Mem) (Q : Option Value → Mem → Prop), Wp d 197 693 (.ref x :: L) [.int a, .ref b, .int c] M Q ↔ Wp d 197 694 (.ref x :: L) [.ref x, .int a, .ref b, .int c] M Q) ∧
    (∀ (d : Nat) (a : Nat) (b : Int32) (c : Nat) (d2 : Int32) (v0 : Value) (v1 : Value) (v2 : Value) (x : Int32) (L : List Value) (M : Mem) (Q : Option Value → Mem → Prop), Wp d 197 694 (v0 :: v1 :: v2 :: .int x :: L) [.ref a, .int b, .ref c, .int d2] M Q ↔ Wp d 197 695 (v0 :: v1 :: v2 :: .int x :: L) [.int x, .ref a, .int b, .ref c, .int d2] M Q) := by
  refine ⟨?_, ?_, ?_, ?_, ?_, ?_, ?_, ?_, ?_, ?_, ?_, ?_, ?_, ?_, ?_, ?_, ?_, ?_, ?_, ?_, ?_, ?_, ?_, ?_, ?_, ?_, ?_, ?_, ?_, ?_, ?_, ?_, ?_, ?_, ?_, ?_, ?_, ?_, ?_, ?_, ?_, ?_, ?_, ?_, ?_, ?_, ?_, ?_, ?_, ?_, ?_, ?_, ?_, ?_, ?_, ?_, ?_, ?_, ?_, ?_⟩
  · intro d a b c v0 v1 v2 x L M Q; exact Wp_sim (by decide +kernel : decode (cd 197) 623 = .ok (.iload_n 3, 1)) rfl rfl
  · intro d a b c d2 L M Q; exact Wp_sim (by decide +kernel : decode (cd 197) 624 = .ok (.iconst 1, 1)) rfl rfl
  · intro d a b c d2 e L M Q; exact Wp_sim (by decide +kernel : decode (cd 197) 625 = .ok (.iadd , 1)) rfl rfl
  · intro d a b c d2 L M Q; exact q_ald (by decide +kernel : decode (cd 197) 626 = .ok (.iaload , 1))
  · intro d a b c x L M Q; exact Wp_sim (by decide +kernel : decode (cd 197) 627 = .ok (.aload_n 0, 1)) rfl rfl
  · intro d a b c d2 v0 v1 v2 x L M Q; exact Wp_sim (by decide +kernel : decode (cd 197) 628 = .ok (.iload_n 3, 1)) rfl rfl
  · intro d a b c d2 e L M Q; exact Wp_sim (by decide +kernel : decode (cd 197) 629 = .ok (.iconst 2, 1)) rfl rfl
  · intro d a b c d2 e f L M Q; exact Wp_sim (by decide +kernel : decode (cd 197) 630 = .ok (.iadd , 1)) rfl rfl
  · intro d a b c d2 e L M Q; exact q_ald (by decide +kernel : decode (cd 197) 631 = .ok (.iaload , 1))
  · intro d a b c d2 L M Q; exact q_invV (pz := 1181) (n := 2) (c := 12) (m := 10) (k := c) (As := [.int b, .int a]) (rest := [.int d2]) (by decide +kernel : decode (cd 197) 632 = .ok (.invokevirtual 88, 3)) (by decide +kernel) (by decide +kernel) rfl rfl (Nat.le_of_ble_eq_true rfl) (Nat.le_of_ble_eq_true rfl) rfl
  · intro d a b L M Q; exact q_ieq (by decide +kernel : decode (cd 197) 635 = .ok (.if_icmp .eq 383, 3)) (by decide)
  · intro d L M Q; exact Wp_sim (by decide +kernel : decode (cd 197) 638 = .ok (.iconst 0, 1)) rfl rfl
  · intro d a L M Q; exact q_zret (by decide +kernel : decode (cd 197) 639 = .ok (.ireturn , 1)) (by decide +kernel)
  · intro d v0 x L M Q; exact Wp_sim (by decide +kernel : decode (cd 197) 640 = .ok (.aload_n 1, 1)) rfl rfl
  · intro d a x L M Q; exact Wp_sim (by decide +kernel : decode (cd 197) 641 = .ok (.aload_n 0, 1)) rfl rfl
  · intro d a b v0 v1 v2 x L M Q; exact Wp_sim (by decide +kernel : decode (cd 197) 642 = .ok (.iload_n 3, 1)) rfl rfl
  · intro d a b c L M Q; exact Wp_sim (by decide +kernel : decode (cd 197) 643 = .ok (.iconst 1, 1)) rfl rfl
  · intro d a b c d2 L M Q; exact Wp_sim (by decide +kernel : decode (cd 197) 644 = .ok (.iadd , 1)) rfl rfl
  · intro d a b c L M Q; exact q_ald (by decide +kernel : decode (cd 197) 645 = .ok (.iaload , 1))
  · intro d a b x L M Q; exact Wp_sim (by decide +kernel : decode (cd 197) 646 = .ok (.aload_n 0, 1)) rfl rfl
  · intro d a b c v0 v1 v2 x L M Q; exact Wp_sim (by decide +kernel : decode (cd 197) 647 = .ok (.iload_n 3, 1)) rfl rfl
  · intro d a b c d2 L M Q; exact Wp_sim (by decide +kernel : decode (cd 197) 648 = .ok (.iconst 2, 1)) rfl rfl
  · intro d a b c d2 e L M Q; exact Wp_sim (by decide +kernel : decode (cd 197) 649 = .ok (.iadd , 1)) rfl rfl
  · intro d a b c d2 L M Q; exact q_ald (by decide +kernel : decode (cd 197) 650 = .ok (.iaload , 1))
  · intro d a b c L M Q; exact q_invV (pz := 705) (n := 2) (c := 11) (m := 3) (k := c) (As := [.int b, .int a]) (rest := []) (by decide +kernel : decode (cd 197) 651 = .ok (.invokevirtual 89, 3)) (by decide +kernel) (by decide +kernel) rfl rfl (Nat.le_of_ble_eq_true rfl) (Nat.le_of_ble_eq_true rfl) rfl
  · intro d a v0 v1 x L M Q; exact Wp_sim (by decide +kernel : decode (cd 197) 654 = .ok (.aload_n 2, 1)) rfl rfl
  · intro d a b x L M Q; exact Wp_sim (by decide +kernel : decode (cd 197) 655 = .ok (.aload_n 0, 1)) rfl rfl
  · intro d a b c v0 v1 v2 x L M Q; exact Wp_sim (by decide +kernel : decode (cd 197) 656 = .ok (.iload_n 3, 1)) rfl rfl
  · intro d a b c d2 L M Q; exact Wp_sim (by decide +kernel : decode (cd 197) 657 = .ok (.iconst 1, 1)) rfl rfl
  · intro d a b c d2 e L M Q; exact Wp_sim (by decide +kernel : decode (cd 197) 658 = .ok (.iadd , 1)) rfl rfl
  · intro d a b c d2 L M Q; exact q_ald (by decide +kernel : decode (cd 197) 659 = .ok (.iaload , 1))
  · intro d a b c x L M Q; exact Wp_sim (by decide +kernel : decode (cd 197) 660 = .ok (.aload_n 0, 1)) rfl rfl
  · intro d a b c d2 v0 v1 v2 x L M Q; exact Wp_sim (by decide +kernel : decode (cd 197) 661 = .ok (.iload_n 3, 1)) rfl rfl
  · intro d a b c d2 e L M Q; exact Wp_sim (by decide +kernel : decode (cd 197) 662 = .ok (.iconst 2, 1)) rfl rfl
  · intro d a b c d2 e f L M Q; exact Wp_sim (by decide +kernel : decode (cd 197) 663 = .ok (.iadd , 1)) rfl rfl
  · intro d a b c d2 e L M Q; exact q_ald (by decide +kernel : decode (cd 197) 664 = .ok (.iaload , 1))
  · intro d a b c d2 L M Q; exact q_invV (pz := 1186) (n := 2) (c := 12) (m := 3) (k := c) (As := [.int b, .int a]) (rest := [.int d2]) (by decide +kernel : decode (cd 197) 665 = .ok (.invokevirtual 92, 3)) (by decide +kernel) (by decide +kernel) rfl rfl (Nat.le_of_ble_eq_true rfl) (Nat.le_of_ble_eq_true rfl) rfl
  · intro d a b L M Q; exact q_ieq (by decide +kernel : decode (cd 197) 668 = .ok (.if_icmp .eq 350, 3)) (by decide)
  · intro d L M Q; exact Wp_sim (by decide +kernel : decode (cd 197) 671 = .ok (.iconst 0, 1)) rfl rfl
  · intro d a L M Q; exact q_zret (by decide +kernel : decode (cd 197) 672 = .ok (.ireturn , 1)) (by decide +kernel)
  · intro d v0 x L M Q; exact Wp_sim (by decide +kernel : decode (cd 197) 673 = .ok (.aload_n 1, 1)) rfl rfl
  · intro d a x L M Q; exact Wp_sim (by decide +kernel : decode (cd 197) 674 = .ok (.aload_n 0, 1)) rfl rfl
  · intro d a b v0 v1 v2 x L M Q; exact Wp_sim (by decide +kernel : decode (cd 197) 675 = .ok (.iload_n 3, 1)) rfl rfl
  · intro d a b c L M Q; exact Wp_sim (by decide +kernel : decode (cd 197) 676 = .ok (.iconst 1, 1)) rfl rfl
  · intro d a b c d2 L M Q; exact Wp_sim (by decide +kernel : decode (cd 197) 677 = .ok (.iadd , 1)) rfl rfl
  · intro d a b c L M Q; exact q_ald (by decide +kernel : decode (cd 197) 678 = .ok (.iaload , 1))
  · intro d a b x L M Q; exact Wp_sim (by decide +kernel : decode (cd 197) 679 = .ok (.aload_n 0, 1)) rfl rfl
  · intro d a b c v0 v1 v2 x L M Q; exact Wp_sim (by decide +kernel : decode (cd 197) 680 = .ok (.iload_n 3, 1)) rfl rfl
  · intro d a b c d2 L M Q; exact Wp_sim (by decide +kernel : decode (cd 197) 681 = .ok (.iconst 2, 1)) rfl rfl
  · intro d a b c d2 e L M Q; exact Wp_sim (by decide +kernel : decode (cd 197) 682 = .ok (.iadd , 1)) rfl rfl
  · intro d a b c d2 L M Q; exact q_ald (by decide +kernel : decode (cd 197) 683 = .ok (.iaload , 1))
  · intro d a b c L M Q; exact q_invV (pz := 728) (n := 2) (c := 11) (m := 4) (k := c) (As := [.int b, .int a]) (rest := []) (by decide +kernel : decode (cd 197) 684 = .ok (.invokevirtual 93, 3)) (by decide +kernel) (by decide +kernel) rfl rfl (Nat.le_of_ble_eq_true rfl) (Nat.le_of_ble_eq_true rfl) rfl
  · intro d a v0 v1 x L M Q; exact Wp_sim (by decide +kernel : decode (cd 197) 687 = .ok (.aload_n 2, 1)) rfl rfl
  · intro d a b x L M Q; exact Wp_sim (by decide +kernel : decode (cd 197) 688 = .ok (.aload_n 0, 1)) rfl rfl
  · intro d a b c v0 v1 v2 x L M Q; exact Wp_sim (by decide +kernel : decode (cd 197) 689 = .ok (.iload_n 3, 1)) rfl rfl
  · intro d a b c d2 L M Q; exact Wp_sim (by decide +kernel : decode (cd 197) 690 = .ok (.iconst 1, 1)) rfl rfl
  · intro d a b c d2 e L M Q; exact Wp_sim (by decide +kernel : decode (cd 197) 691 = .ok (.iadd , 1)) rfl rfl
  · intro d a b c d2 L M Q; exact q_ald (by decide +kernel : decode (cd 197) 692 = .ok (.iaload , 1))
  · intro d a b c x L M Q; exact Wp_sim (by decide +kernel : decode (cd 197) 693 = .ok (.aload_n 0, 1)) rfl rfl
  · intro d a b c d2 v0 v1 v2 x L M Q; exact Wp_sim (by decide +kernel : decode (cd 197) 694 = .ok (.iload_n 3, 1)) rfl rfl
set_option maxRecDepth 10000 in
theorem e197_7 : (∀ (d : Nat) (a : Int32) (b : Nat) (c : Int32) (d2 : Nat) (e : Int32) (L : List Value) (M : Mem) (Q : Option Value → Mem → Prop), Wp d 197 695 L [.int a, .ref b, .int c, .ref d2, .int e] M Q ↔ Wp d 197 696 L [.int 2, .int a, .ref b, .int c, .ref d2, .int e] M Q) ∧
    (∀ (d : Nat) (a : Int32) (b : Int32) (c : Nat) (d2 : Int32) (e : Nat) (f : Int32) (L : List Value) (M : Mem) (Q : Option Value → Mem → Prop), Wp d 197 696 L [.int a, .int b, .ref c, .int d2, .ref e, .int f] M Q ↔ Wp d 197 697 L [.int (b + a), .ref c, .int d2, .ref e, .int f] M Q) ∧
    (∀ (d : Nat) (a : Int32) (b : Nat) (c : Int32) (d2 : Nat) (e : Int32) (L : List Value) (M : Mem) (Q : Option Value → Mem → Prop), Wp d 197 697 L [.int a, .ref b, .int c, .ref d2, .int e] M Q ↔ ((isR b = true ∧ inr a (lnm M b)) ∧ Wp d 197 698 L [.int (M b a.toNatClampNeg), .int c, .ref d2, .int e] M Q)) ∧
    (∀ (d : Nat) (a : Int32) (b : Int32) (c : Nat) (d2 : Int32) (L : List Value) (M : Mem) (Q : Option Value → Mem → Prop), Wp (d + 1) 197 698 L [.int a, .int b, .ref c, .int d2] M Q ↔ (isK c 12 = true ∧ Wp d 179 0 [.ref c, .int b, .int a, .null, .null, .null, .null, .null] [] M (fun r M2 => Wp (d + 1) 197 701 L (r.toList ++ [.int d2]) M2 Q))) ∧
    (∀ (d : Nat) (a : Int32) (b : Int32) (L : List Value) (M : Mem) (Q : Option Value → Mem → Prop), Wp d 197 701 L [.int a, .int b] M Q ↔ (if b = a then Wp d 197 1018 L [] M Q else Wp d 197 704 L [] M Q)) ∧
    (∀ (d : Nat) (L : List Value) (M : Mem) (Q : Option Value → Mem → Prop), Wp d 197 704 L [] M Q ↔ Wp d 197 705 L [.int 0] M Q) ∧
    (∀ (d : Nat) (a : Int32) (L : List Value) (M : Mem) (Q : Option Value → Mem → Prop), Wp d 197 705 L [.int a] M Q ↔ ((a = 0 ∨ a = 1) ∧ Q (some (.int a)) M)) ∧
    (∀ (d : Nat) (v0 : Value) (x : Nat) (L : List Value) (M : Mem) (Q : Option Value → Mem → Prop), Wp d 197 706 (v0 :: .ref x :: L) [] M Q ↔ Wp d 197 707 (v0 :: .ref x :: L) [.ref x] M Q) ∧
    (∀ (d : Nat) (a : Nat) (x : Nat) (L : List Value) (M : Mem) (Q : Option Value → Mem → Prop), Wp d 197 707 (.ref x :: L) [.ref a] M Q ↔ Wp d 197 708 (.ref x :: L) [.ref x, .ref a] M Q) ∧
    (∀ (d : Nat) (a : Nat) (b : Nat) (v0 : Value) (v1 : Value) (v2 : Value) (x : Int32) (L : List Value) (M : Mem) (Q : Option Value → Mem → Prop), Wp d 197 708 (v0 :: v1 :: v2 :: .int x :: L) [.ref a, .ref b] M Q ↔ Wp d 197 709 (v0 :: v1 :: v2 :: .int x :: L) [.int x, .ref a, .ref b] M Q) ∧
    (∀ (d : Nat) (a : Int32) (b : Nat) (c : Nat) (L : List Value) (M : Mem) (Q : Option Value → Mem → Prop), Wp d 197 709 L [.int a, .ref b, .ref c] M Q ↔ Wp d 197 710 L [.int 1, .int a, .ref b, .ref c] M Q) ∧
    (∀ (d : Nat) (a : Int32) (b : Int32) (c : Nat) (d2 : Nat) (L : List Value) (M : Mem) (Q : Option Value → Mem → Prop), Wp d 197 710 L [.int a, .int b, .ref c, .ref d2] M Q ↔ Wp d 197 711 L [.int (b + a), .ref c, .ref d2] M Q) ∧
    (∀ (d : Nat) (a : Int32) (b : Nat) (c : Nat) (L : List Value) (M : Mem) (Q : Option Value → Mem → Prop), Wp d 197 711 L [.int a, .ref b, .ref c] M Q ↔ ((isR b = true ∧ inr a (lnm M b)) ∧ Wp d 197 712 L [.int (M b a.toNatClampNeg), .ref c] M Q)) ∧
    (∀ (d : Nat) (a : Int32) (b : Nat) (x : Nat) (L : List Value) (M : Mem) (Q : Option Value → Mem → Prop), Wp d 197 712 (.ref x :: L) [.int a, .ref b] M Q ↔ Wp d 197 713 (.ref x :: L) [.ref x, .int a, .ref b] M Q) ∧
    (∀ (d : Nat) (a : Nat) (b : Int32) (c : Nat) (v0 : Value) (v1 : Value) (v2 : Value) (x : Int32) (L : List Value) (M : Mem) (Q : Option Value → Mem → Prop), Wp d 197 713 (v0 :: v1 :: v2 :: .int x :: L) [.ref a, .int b, .ref c] M Q ↔ Wp d 197 714 (v0 :: v1 :: v2 :: .int x :: L) [.int x, .ref a, .int b, .ref c] M Q) ∧
    (∀ (d : Nat) (a : Int32) (b : Nat) (c : Int32) (d2 : Nat) (L : List Value) (M : Mem) (Q : Option Value → Mem → Prop), Wp d 197 714 L [.int a, .ref b, .int c, .ref d2] M Q ↔ Wp d 197 715 L [.int 2, .int a, .ref b, .int c, .ref d2] M Q) ∧
    (∀ (d : Nat) (a : Int32) (b : Int32) (c : Nat) (d2 : Int32) (e : Nat) (L : List Value) (M : Mem) (Q : Option Value → Mem → Prop), Wp d 197 715 L [.int a, .int b, .ref c, .int d2, .ref e] M Q ↔ Wp d 197 716 L [.int (b + a), .ref c, .int d2, .ref e] M Q) ∧
    (∀ (d : Nat) (a : Int32) (b : Nat) (c : Int32) (d2 : Nat) (L : List Value) (M : Mem) (Q : Option Value → Mem → Prop), Wp d 197 716 L [.int a, .ref b, .int c, .ref d2] M Q ↔ ((isR b = true ∧ inr a (lnm M b)) ∧ Wp d 197 717 L [.int (M b a.toNatClampNeg), .int c, .ref d2] M Q)) ∧
    (∀ (d : Nat) (a : Int32) (b : Int32) (c : Nat) (L : List Value) (M : Mem) (Q : Option Value → Mem → Prop), Wp (d + 1) 197 717 L [.int a, .int b, .ref c] M Q ↔ (isK c 11 = true ∧ Wp d 98 0 [.ref c, .int b, .int a, .null, .null] [] M (fun r M2 => Wp (d + 1) 197 720 L (r.toList ++ []) M2 Q))) ∧
    (∀ (d : Nat) (a : Int32) (v0 : Value) (v1 : Value) (x : Nat) (L : List Value) (M : Mem) (Q : Option Value → Mem → Prop), Wp d 197 720 (v0 :: v1 :: .ref x :: L) [.int a] M Q ↔ Wp d 197 721 (v0 :: v1 :: .ref x :: L) [.ref x, .int a] M Q) ∧
    (∀ (d : Nat) (a : Nat) (b : Int32) (x : Nat) (L : List Value) (M : Mem) (Q : Option Value → Mem → Prop), Wp d 197 721 (.ref x :: L) [.ref a, .int b] M Q ↔ Wp d 197 722 (.ref x :: L) [.ref x, .ref a, .int b] M Q) ∧
    (∀ (d : Nat) (a : Nat) (b : Nat) (c : Int32) (v0 : Value) (v1 : Value) (v2 : Value) (x : Int32) (L : List Value) (M : Mem) (Q : Option Value → Mem → Prop), Wp d 197 722 (v0 :: v1 :: v2 :: .int x :: L) [.ref a, .ref b, .int c] M Q ↔ Wp d 197 723 (v0 :: v1 :: v2 :: .int x :: L) [.int x, .ref a, .ref b, .int c] M Q) ∧
    (∀ (d : Nat) (a : Int32) (b : Nat) (c : Nat) (d2 : Int32) (L : List Value) (M : Mem) (Q : Option Value → Mem → Prop), Wp d 197 723 L [.int a, .ref b, .ref c, .int d2] M Q ↔ Wp d 197 724 L [.int 1, .int a, .ref b, .ref c, .int d2] M Q) ∧
    (∀ (d : Nat) (a : Int32) (b : Int32) (c : Nat) (d2 : Nat) (e : Int32) (L : List Value) (M : Mem) (Q : Option Value → Mem → Prop), Wp d 197 724 L [.int a, .int b, .ref c, .ref d2, .int e] M Q ↔ Wp d 197 725 L [.int (b + a), .ref c, .ref d2, .int e] M Q) ∧
    (∀ (d : Nat) (a : Int32) (b : Nat) (c : Nat) (d2 : Int32) (L : List Value) (M : Mem) (Q : Option Value → Mem → Prop), Wp d 197 725 L [.int a, .ref b, .ref c, .int d2] M Q ↔ ((isR b = true ∧ inr a (lnm M b)) ∧ Wp d 197 726 L [.int (M b a.toNatClampNeg), .ref c, .int d2] M Q)) ∧
    (∀ (d : Nat) (a : Int32) (b : Nat) (c : Int32) (x : Nat) (L : List Value) (M : Mem) (Q : Option Value → Mem → Prop), Wp d 197 726 (.ref x :: L) [.int a, .ref b, .int c] M Q ↔ Wp d 197 727 (.ref x :: L) [.ref x, .int a, .ref b, .int c] M Q) ∧
    (∀ (d : Nat) (a : Nat) (b : Int32) (c : Nat) (d2 : Int32) (v0 : Value) (v1 : Value) (v2 : Value) (x : Int32) (L : List Value) (M : Mem) (Q : Option Value → Mem → Prop), Wp d 197 727 (v0 :: v1 :: v2 :: .int x :: L) [.ref a, .int b, .ref c, .int d2] M Q ↔ Wp d 197 728 (v0 :: v1 :: v2 :: .int x :: L) [.int x, .ref a, .int b, .ref c, .int d2] M Q) ∧
    (∀ (d : Nat) (a : Int32) (b : Nat) (c : Int32) (d2 : Nat) (e : Int32) (L : List Value) (M : Mem) (Q : Option Value → Mem → Prop), Wp d 197 728 L [.int a, .ref b, .int c, .ref d2, .int e] M Q ↔ Wp d 197 729 L [.int 2, .int a, .ref b, .int c, .ref d2, .int e] M Q) ∧
    (∀ (d : Nat) (a : Int32) (b : Int32) (c : Nat) (d2 : Int32) (e : Nat) (f : Int32) (L : List Value) (M : Mem) (Q : Option Value → Mem → Prop), Wp d 197 729 L [.int a, .int b, .ref c, .int d2, .ref e, .int f] M Q ↔ Wp d 197 730 L [.int (b + a), .ref c, .int d2, .ref e, .int f] M Q) ∧
    (∀ (d : Nat) (a : Int32) (b : Nat) (c : Int32) (d2 : Nat) (e : Int32) (L : List Value) (M : Mem) (Q : Option Value → Mem → Prop), Wp d 197 730 L [.int a, .ref b, .int c, .ref d2, .int e] M Q ↔ ((isR b = true ∧ inr a (lnm M b)) ∧ Wp d 197 731 L [.int (M b a.toNatClampNeg), .int c, .ref d2, .int e] M Q)) ∧
    (∀ (d : Nat) (a : Int32) (b : Int32) (c : Nat) (d2 : Int32) (L : List Value) (M : Mem) (Q : Option Value → Mem → Prop), Wp (d + 1) 197 731 L [.int a, .int b, .ref c, .int d2] M Q ↔ (isK c 12 = true ∧ Wp d 180 0 [.ref c, .int b, .int a, .null, .null] [] M (fun r M2 => Wp (d + 1) 197 734 L (r.toList ++ [.int d2]) M2 Q))) ∧
    (∀ (d : Nat) (a : Int32) (b : Int32) (L : List Value) (M : Mem) (Q : Option Value → Mem → Prop), Wp d 197 734 L [.int a, .int b] M Q ↔ (if b = a then Wp d 197 1018 L [] M Q else Wp d 197 737 L [] M Q)) ∧
    (∀ (d : Nat) (L : List Value) (M : Mem) (Q : Option Value → Mem → Prop), Wp d 197 737 L [] M Q ↔ Wp d 197 738 L [.int 0] M Q) ∧
    (∀ (d : Nat) (a : Int32) (L : List Value) (M : Mem) (Q : Option Value → Mem → Prop), Wp d 197 738 L [.int a] M Q ↔ ((a = 0 ∨ a = 1) ∧ Q (some (.int a)) M)) ∧
    (∀ (d : Nat) (v0 : Value) (x : Nat) (L : List Value) (M : Mem) (Q : Option Value → Mem → Prop), Wp d 197 739 (v0 :: .ref x :: L) [] M Q ↔ Wp d 197 740 (v0 :: .ref x :: L) [.ref x] M Q) ∧
    (∀ (d : Nat) (a : Nat) (x : Nat) (L : List Value) (M : Mem) (Q : Option Value → Mem → Prop), Wp d 197 740 (.ref x :: L) [.ref a] M Q ↔ Wp d 197 741 (.ref x :: L) [.ref x, .ref a] M Q) ∧
    (∀ (d : Nat) (a : Nat) (b : Nat) (v0 : Value) (v1 : Value) (v2 : Value) (x : Int32) (L : List Value) (M : Mem) (Q : Option Value → Mem → Prop), Wp d 197 741 (v0 :: v1 :: v2 :: .int x :: L) [.ref a, .ref b] M Q ↔ Wp d 197 742 (v0 :: v1 :: v2 :: .int x :: L) [.int x, .ref a, .ref b] M Q) ∧
    (∀ (d : Nat) (a : Int32) (b : Nat) (c : Nat) (L : List Value) (M : Mem) (Q : Option Value → Mem → Prop), Wp d 197 742 L [.int a, .ref b, .ref c] M Q ↔ Wp d 197 743 L [.int 1, .int a, .ref b, .ref c] M Q) ∧
    (∀ (d : Nat) (a : Int32) (b : Int32) (c : Nat) (d2 : Nat) (L : List Value) (M : Mem) (Q : Option Value → Mem → Prop), Wp d 197 743 L [.int a, .int b, .ref c, .ref d2] M Q ↔ Wp d 197 744 L [.int (b + a), .ref c, .ref d2] M Q) ∧
    (∀ (d : Nat) (a : Int32) (b : Nat) (c : Nat) (L : List Value) (M : Mem) (Q : Option Value → Mem → Prop), Wp d 197 744 L [.int a, .ref b, .ref c] M Q ↔ ((isR b = true ∧ inr a (lnm M b)) ∧ Wp d 197 745 L [.int (M b a.toNatClampNeg), .ref c] M Q)) ∧
    (∀ (d : Nat) (a : Int32) (b : Nat) (x : Nat) (L : List Value) (M : Mem) (Q : Option Value → Mem → Prop), Wp d 197 745 (.ref x :: L) [.int a, .ref b] M Q ↔ Wp d 197 746 (.ref x :: L) [.ref x, .int a, .ref b] M Q) ∧
    (∀ (d : Nat) (a : Nat) (b : Int32) (c : Nat) (v0 : Value) (v1 : Value) (v2 : Value) (x : Int32) (L : List Value) (M : Mem) (Q : Option Value → Mem → Prop), Wp d 197 746 (v0 :: v1 :: v2 :: .int x :: L) [.ref a, .int b, .ref c] M Q ↔ Wp d 197 747 (v0 :: v1 :: v2 :: .int x :: L) [.int x, .ref a, .int b, .ref c] M Q) ∧
    (∀ (d : Nat) (a : Int32) (b : Nat) (c : Int32) (d2 : Nat) (L : List Value) (M : Mem) (Q : Option Value → Mem → Prop), Wp d 197 747 L [.int a, .ref b, .int c, .ref d2] M Q ↔ Wp d 197 748 L [.int 2, .int a, .ref b, .int c, .ref d2] M Q) ∧
    (∀ (d : Nat) (a : Int32) (b : Int32) (c : Nat) (d2 : Int32) (e : Nat) (L : List Value) (M : Mem) (Q : Option Value → Mem → Prop), Wp d 197 748 L [.int a, .int b, .ref c, .int d2, .ref e] M Q ↔ Wp d 197 749 L [.int (b + a), .ref c, .int d2, .ref e] M Q) ∧
    (∀ (d : Nat) (a : Int32) (b : Nat) (c : Int32) (d2 : Nat) (L : List Value) (M : Mem) (Q : Option Value → Mem → Prop), Wp d 197 749 L [.int a, .ref b, .int c, .ref d2] M Q ↔ ((isR b = true ∧ inr a (lnm M b)) ∧ Wp d 197 750 L [.int (M b a.toNatClampNeg), .int c, .ref d2] M Q)) ∧
    (∀ (d : Nat) (a : Int32) (b : Int32) (c : Nat) (L : List Value) (M : Mem) (Q : Option Value → Mem → Prop), Wp (d + 1) 197 750 L [.int a, .int b, .ref c] M Q ↔ (isK c 11 = true ∧ Wp d 99 0 [.ref c, .int b, .int a] [] M (fun r M2 => Wp (d + 1) 197 753 L (r.toList ++ []) M2 Q))) ∧
    (∀ (d : Nat) (a : Int32) (v0 : Value) (v1 : Value) (x : Nat) (L : List Value) (M : Mem) (Q : Option Value → Mem → Prop), Wp d 197 753 (v0 :: v1 :: .ref x :: L) [.int a] M Q ↔ Wp d 197 754 (v0 :: v1 :: .ref x :: L) [.ref x, .int a] M Q) ∧
    (∀ (d : Nat) (a : Nat) (b : Int32) (x : Nat) (L : List Value) (M : Mem) (Q : Option Value → Mem → Prop), Wp d 197 754 (.ref x :: L) [.ref a, .int b] M Q ↔ Wp d 197 755 (.ref x :: L) [.ref x, .ref a, .int b] M Q) ∧
    (∀ (d : Nat) (a : Nat) (b : Nat) (c : Int32) (v0 : Value) (v1 : Value) (v2 : Value) (x : Int32) (L : List Value) (M : Mem) (Q : Option Value → Mem → Prop), Wp d 197 755 (v0 :: v1 :: v2 :: .int x :: L) [.ref a, .ref b, .int c] M Q ↔ Wp d 197 756 (v0 :: v1 :: v2 :: .int x :: L) [.int x, .ref a, .ref b, .int c] M Q) ∧
    (∀ (d : Nat) (a : Int32) (b : Nat) (c : Nat) (d2 : Int32) (L : List Value) (M : Mem) (Q : Option Value → Mem → Prop), Wp d 197 756 L [.int a, .ref b, .ref c, .int d2] M Q ↔ Wp d 197 757 L [.int 1, .int a, .ref b, .ref c, .int d2] M Q) ∧
    (∀ (d : Nat) (a : Int32) (b : Int32) (c : Nat) (d2 : Nat) (e : Int32) (L : List Value) (M : Mem) (Q : Option Value → Mem → Prop), Wp d 197 757 L [.int a, .int b, .ref c, .ref d2, .int e] M Q ↔ Wp d 197 758 L [.int (b + a), .ref c, .ref d2, .int e] M Q) ∧
    (∀ (d : Nat) (a : Int32) (b : Nat) (c : Nat) (d2 : Int32) (L : List Value) (M : Mem) (Q : Option Value → Mem → Prop), Wp d 197 758 L [.int a, .ref b, .ref c, .int d2] M Q ↔ ((isR b = true ∧ inr a (lnm M b)) ∧ Wp d 197 759 L [.int (M b a.toNatClampNeg), .ref c, .int d2] M Q)) ∧
    (∀ (d : Nat) (a : Int32) (b : Nat) (c : Int32) (x : Nat) (L : List Value) (M : Mem) (Q : Option Value → Mem → Prop), Wp d 197 759 (.ref x :: L) [.int a, .ref b, .int c] M Q ↔ Wp d 197 760 (.ref x :: L) [.ref x, .int a, .ref b, .int c] M Q) ∧
    (∀ (d : Nat) (a : Nat) (b : Int32) (c : Nat) (d2 : Int32) (v0 : Value) (v1 : Value) (v2 : Value) (x : Int32) (L : List Value) (M : Mem) (Q : Option Value → Mem → Prop), Wp d 197 760 (v0 :: v1 :: v2 :: .int x :: L) [.ref a, .int b, .ref c, .int d2] M Q ↔ Wp d 197 761 (v0 :: v1 :: v2 :: .int x :: L) [.int x, .ref a, .int b, .ref c, .int d2] M Q) ∧
    (∀ (d : Nat) (a : Int32) (b : Nat) (c : Int32) (d2 : Nat) (e : Int32) (L : List Value) (M : Mem) (Q : Option Value → Mem → Prop), Wp d 197 761 L [.int a, .ref b, .int c, .ref d2, .int e] M Q ↔ Wp d 197 762 L [.int 2, .int a, .ref b, .int c, .ref d2, .int e] M Q) ∧
    (∀ (d : Nat) (a : Int32) (b : Int32) (c : Nat) (d2 : Int32) (e : Nat) (f : Int32) (L : List Value) (M : Mem) (Q : Option Value → Mem → Prop), Wp d 197 762 L [.int a, .int b, .ref c, .int d2, .ref e, .int f] M Q ↔ Wp d 197 763 L [.int (b + a), .ref c, .int d2, .ref e, .int f] M Q) ∧
    (∀ (d : Nat) (a : Int32) (b : Nat) (c : Int32) (d2 : Nat) (e : Int32) (L : List Value) (M : Mem) (Q : Option Value → Mem → Prop), Wp d 197 763 L [.int a, .ref b, .int c, .ref d2, .int e] M Q ↔ ((isR b = true ∧ inr a (lnm M b)) ∧ Wp d 197 764 L [.int (M b a.toNatClampNeg), .int c, .ref d2, .int e] M Q)) ∧
    (∀ (d : Nat) (a : Int32) (b : Int32) (c : Nat) (d2 : Int32) (L : List Value) (M : Mem) (Q : Option Value → Mem → Prop), Wp (d + 1) 197 764 L [.int a, .int b, .ref c, .int d2] M Q ↔ (isK c 12 = true ∧ Wp d 181 0 [.ref c, .int b, .int a, .null, .null, .null] [] M (fun r M2 => Wp (d + 1) 197 767 L (r.toList ++ [.int d2]) M2 Q))) ∧
    (∀ (d : Nat) (a : Int32) (b : Int32) (L : List Value) (M : Mem) (Q : Option Value → Mem → Prop), Wp d 197 767 L [.int a, .int b] M Q ↔ (if b = a then Wp d 197 1018 L [] M Q else Wp d 197 770 L [] M Q)) ∧
    (∀ (d : Nat) (L : List Value) (M : Mem) (Q : Option Value → Mem → Prop), Wp d 197 770 L [] M Q ↔ Wp d 197 771 L [.int 0] M Q) := by
  refine ⟨?_, ?_, ?_, ?_, ?_, ?_, ?_, ?_, ?_, ?_, ?_, ?_, ?_, ?_, ?_, ?_, ?_, ?_, ?_, ?_, ?_, ?_, ?_, ?_, ?_, ?_, ?_, ?_, ?_, ?_, ?_, ?_, ?_, ?_, ?_, ?_, ?_, ?_, ?_, ?_, ?_, ?_, ?_, ?_, ?_, ?_, ?_, ?_, ?_, ?_, ?_, ?_, ?_, ?_, ?_, ?_, ?_, ?_, ?_, ?_⟩
  · intro d a b c d2 e L M Q; exact Wp_sim (by decide +kernel : decode (cd 197) 695 = .ok (.iconst 2, 1)) rfl rfl
  · intro d a b c d2 e f L M Q; exact Wp_sim (by decide +kernel : decode (cd 197) 696 = .ok (.iadd , 1)) rfl rfl
  · intro d a b c d2 e L M Q; exact q_ald (by decide +kernel : decode (cd 197) 697 = .ok (.iaload , 1))
  · intro d a b c d2 L M Q; exact q_invV (pz := 1214) (n := 2) (c := 12) (m := 8) (k := c) (As := [.int b, .int a]) (rest := [.int d2]) (by decide +kernel : decode (cd 197) 698 = .ok (.invokevirtual 96, 3)) (by decide +kernel) (by decide +kernel) rfl rfl (Nat.le_of_ble_eq_true rfl) (Nat.le_of_ble_eq_true rfl) rfl
  · intro d a b L M Q; exact q_ieq (by decide +kernel : decode (cd 197) 701 = .ok (.if_icmp .eq 317, 3)) (by decide)
  · intro d L M Q; exact Wp_sim (by decide +kernel : decode (cd 197) 704 = .ok (.iconst 0, 1)) rfl rfl
  · intro d a L M Q; exact q_zret (by decide +kernel : decode (cd 197) 705 = .ok (.ireturn , 1)) (by decide +kernel)
  · intro d v0 x L M Q; exact Wp_sim (by decide +kernel : decode (cd 197) 706 = .ok (.aload_n 1, 1)) rfl rfl
  · intro d a x L M Q; exact Wp_sim (by decide +kernel : decode (cd 197) 707 = .ok (.aload_n 0, 1)) rfl rfl
  · intro d a b v0 v1 v2 x L M Q; exact Wp_sim (by decide +kernel : decode (cd 197) 708 = .ok (.iload_n 3, 1)) rfl rfl
  · intro d a b c L M Q; exact Wp_sim (by decide +kernel : decode (cd 197) 709 = .ok (.iconst 1, 1)) rfl rfl
  · intro d a b c d2 L M Q; exact Wp_sim (by decide +kernel : decode (cd 197) 710 = .ok (.iadd , 1)) rfl rfl
  · intro d a b c L M Q; exact q_ald (by decide +kernel : decode (cd 197) 711 = .ok (.iaload , 1))
  · intro d a b x L M Q; exact Wp_sim (by decide +kernel : decode (cd 197) 712 = .ok (.aload_n 0, 1)) rfl rfl
  · intro d a b c v0 v1 v2 x L M Q; exact Wp_sim (by decide +kernel : decode (cd 197) 713 = .ok (.iload_n 3, 1)) rfl rfl
  · intro d a b c d2 L M Q; exact Wp_sim (by decide +kernel : decode (cd 197) 714 = .ok (.iconst 2, 1)) rfl rfl
  · intro d a b c d2 e L M Q; exact Wp_sim (by decide +kernel : decode (cd 197) 715 = .ok (.iadd , 1)) rfl rfl
  · intro d a b c d2 L M Q; exact q_ald (by decide +kernel : decode (cd 197) 716 = .ok (.iaload , 1))
  · intro d a b c L M Q; exact q_invV (pz := 740) (n := 2) (c := 11) (m := 5) (k := c) (As := [.int b, .int a]) (rest := []) (by decide +kernel : decode (cd 197) 717 = .ok (.invokevirtual 97, 3)) (by decide +kernel) (by decide +kernel) rfl rfl (Nat.le_of_ble_eq_true rfl) (Nat.le_of_ble_eq_true rfl) rfl
  · intro d a v0 v1 x L M Q; exact Wp_sim (by decide +kernel : decode (cd 197) 720 = .ok (.aload_n 2, 1)) rfl rfl
  · intro d a b x L M Q; exact Wp_sim (by decide +kernel : decode (cd 197) 721 = .ok (.aload_n 0, 1)) rfl rfl
  · intro d a b c v0 v1 v2 x L M Q; exact Wp_sim (by decide +kernel : decode (cd 197) 722 = .ok (.iload_n 3, 1)) rfl rfl
  · intro d a b c d2 L M Q; exact Wp_sim (by decide +kernel : decode (cd 197) 723 = .ok (.iconst 1, 1)) rfl rfl
  · intro d a b c d2 e L M Q; exact Wp_sim (by decide +kernel : decode (cd 197) 724 = .ok (.iadd , 1)) rfl rfl
  · intro d a b c d2 L M Q; exact q_ald (by decide +kernel : decode (cd 197) 725 = .ok (.iaload , 1))
  · intro d a b c x L M Q; exact Wp_sim (by decide +kernel : decode (cd 197) 726 = .ok (.aload_n 0, 1)) rfl rfl
  · intro d a b c d2 v0 v1 v2 x L M Q; exact Wp_sim (by decide +kernel : decode (cd 197) 727 = .ok (.iload_n 3, 1)) rfl rfl
  · intro d a b c d2 e L M Q; exact Wp_sim (by decide +kernel : decode (cd 197) 728 = .ok (.iconst 2, 1)) rfl rfl
  · intro d a b c d2 e f L M Q; exact Wp_sim (by decide +kernel : decode (cd 197) 729 = .ok (.iadd , 1)) rfl rfl
  · intro d a b c d2 e L M Q; exact q_ald (by decide +kernel : decode (cd 197) 730 = .ok (.iaload , 1))
  · intro d a b c d2 L M Q; exact q_invV (pz := 1219) (n := 2) (c := 12) (m := 5) (k := c) (As := [.int b, .int a]) (rest := [.int d2]) (by decide +kernel : decode (cd 197) 731 = .ok (.invokevirtual 100, 3)) (by decide +kernel) (by decide +kernel) rfl rfl (Nat.le_of_ble_eq_true rfl) (Nat.le_of_ble_eq_true rfl) rfl
  · intro d a b L M Q; exact q_ieq (by decide +kernel : decode (cd 197) 734 = .ok (.if_icmp .eq 284, 3)) (by decide)
  · intro d L M Q; exact Wp_sim (by decide +kernel : decode (cd 197) 737 = .ok (.iconst 0, 1)) rfl rfl
  · intro d a L M Q; exact q_zret (by decide +kernel : decode (cd 197) 738 = .ok (.ireturn , 1)) (by decide +kernel)
  · intro d v0 x L M Q; exact Wp_sim (by decide +kernel : decode (cd 197) 739 = .ok (.aload_n 1, 1)) rfl rfl
  · intro d a x L M Q; exact Wp_sim (by decide +kernel : decode (cd 197) 740 = .ok (.aload_n 0, 1)) rfl rfl
  · intro d a b v0 v1 v2 x L M Q; exact Wp_sim (by decide +kernel : decode (cd 197) 741 = .ok (.iload_n 3, 1)) rfl rfl
  · intro d a b c L M Q; exact Wp_sim (by decide +kernel : decode (cd 197) 742 = .ok (.iconst 1, 1)) rfl rfl
  · intro d a b c d2 L M Q; exact Wp_sim (by decide +kernel : decode (cd 197) 743 = .ok (.iadd , 1)) rfl rfl
  · intro d a b c L M Q; exact q_ald (by decide +kernel : decode (cd 197) 744 = .ok (.iaload , 1))
  · intro d a b x L M Q; exact Wp_sim (by decide +kernel : decode (cd 197) 745 = .ok (.aload_n 0, 1)) rfl rfl
  · intro d a b c v0 v1 v2 x L M Q; exact Wp_sim (by decide +kernel : decode (cd 197) 746 = .ok (.iload_n 3, 1)) rfl rfl
  · intro d a b c d2 L M Q; exact Wp_sim (by decide +kernel : decode (cd 197) 747 = .ok (.iconst 2, 1)) rfl rfl
  · intro d a b c d2 e L M Q; exact Wp_sim (by decide +kernel : decode (cd 197) 748 = .ok (.iadd , 1)) rfl rfl
  · intro d a b c d2 L M Q; exact q_ald (by decide +kernel : decode (cd 197) 749 = .ok (.iaload , 1))
  · intro d a b c L M Q; exact q_invV (pz := 745) (n := 2) (c := 11) (m := 3) (k := c) (As := [.int b, .int a]) (rest := []) (by decide +kernel : decode (cd 197) 750 = .ok (.invokevirtual 101, 3)) (by decide +kernel) (by decide +kernel) rfl rfl (Nat.le_of_ble_eq_true rfl) (Nat.le_of_ble_eq_true rfl) rfl
  · intro d a v0 v1 x L M Q; exact Wp_sim (by decide +kernel : decode (cd 197) 753 = .ok (.aload_n 2, 1)) rfl rfl
  · intro d a b x L M Q; exact Wp_sim (by decide +kernel : decode (cd 197) 754 = .ok (.aload_n 0, 1)) rfl rfl
  · intro d a b c v0 v1 v2 x L M Q; exact Wp_sim (by decide +kernel : decode (cd 197) 755 = .ok (.iload_n 3, 1)) rfl rfl
  · intro d a b c d2 L M Q; exact Wp_sim (by decide +kernel : decode (cd 197) 756 = .ok (.iconst 1, 1)) rfl rfl
  · intro d a b c d2 e L M Q; exact Wp_sim (by decide +kernel : decode (cd 197) 757 = .ok (.iadd , 1)) rfl rfl
  · intro d a b c d2 L M Q; exact q_ald (by decide +kernel : decode (cd 197) 758 = .ok (.iaload , 1))
  · intro d a b c x L M Q; exact Wp_sim (by decide +kernel : decode (cd 197) 759 = .ok (.aload_n 0, 1)) rfl rfl
  · intro d a b c d2 v0 v1 v2 x L M Q; exact Wp_sim (by decide +kernel : decode (cd 197) 760 = .ok (.iload_n 3, 1)) rfl rfl
  · intro d a b c d2 e L M Q; exact Wp_sim (by decide +kernel : decode (cd 197) 761 = .ok (.iconst 2, 1)) rfl rfl
  · intro d a b c d2 e f L M Q; exact Wp_sim (by decide +kernel : decode (cd 197) 762 = .ok (.iadd , 1)) rfl rfl
  · intro d a b c d2 e L M Q; exact q_ald (by decide +kernel : decode (cd 197) 763 = .ok (.iaload , 1))
  · intro d a b c d2 L M Q; exact q_invV (pz := 1223) (n := 2) (c := 12) (m := 6) (k := c) (As := [.int b, .int a]) (rest := [.int d2]) (by decide +kernel : decode (cd 197) 764 = .ok (.invokevirtual 104, 3)) (by decide +kernel) (by decide +kernel) rfl rfl (Nat.le_of_ble_eq_true rfl) (Nat.le_of_ble_eq_true rfl) rfl
  · intro d a b L M Q; exact q_ieq (by decide +kernel : decode (cd 197) 767 = .ok (.if_icmp .eq 251, 3)) (by decide)
  · intro d L M Q; exact Wp_sim (by decide +kernel : decode (cd 197) 770 = .ok (.iconst 0, 1)) rfl rfl
set_option maxRecDepth 10000 in
theorem e197_8 : (∀ (d : Nat) (a : Int32) (L : List Value) (M : Mem) (Q : Option Value → Mem → Prop), Wp d 197 771 L [.int a] M Q ↔ ((a = 0 ∨ a = 1) ∧ Q (some (.int a)) M)) ∧
    (∀ (d : Nat) (v0 : Value) (x : Nat) (L : List Value) (M : Mem) (Q : Option Value → Mem → Prop), Wp d 197 772 (v0 :: .ref x :: L) [] M Q ↔ Wp d 197 773 (v0 :: .ref x :: L) [.ref x] M Q) ∧
    (∀ (d : Nat) (a : Nat) (x : Nat) (L : List Value) (M : Mem) (Q : Option Value → Mem → Prop), Wp d 197 773 (.ref x :: L) [.ref a] M Q ↔ Wp d 197 774 (.ref x :: L) [.ref x, .ref a] M Q) ∧
    (∀ (d : Nat) (a : Nat) (b : Nat) (v0 : Value) (v1 : Value) (v2 : Value) (x : Int32) (L : List Value) (M : Mem) (Q : Option Value → Mem → Prop), Wp d 197 774 (v0 :: v1 :: v2 :: .int x :: L) [.ref a, .ref b] M Q ↔ Wp d 197 775 (v0 :: v1 :: v2 :: .int x :: L) [.int x, .ref a, .ref b] M Q) ∧
    (∀ (d : Nat) (a : Int32) (b : Nat) (c : Nat) (L : List Value) (M : Mem) (Q : Option Value → Mem → Prop), Wp d 197 775 L [.int a, .ref b, .ref c] M Q ↔ Wp d 197 776 L [.int 1, .int a, .ref b, .ref c] M Q) ∧
    (∀ (d : Nat) (a : Int32) (b : Int32) (c : Nat) (d2 : Nat) (L : List Value) (M : Mem) (Q : Option Value → Mem → Prop), Wp d 197 776 L [.int a, .int b, .ref c, .ref d2] M Q ↔ Wp d 197 777 L [.int (b + a), .ref c, .ref d2] M Q) ∧
    (∀ (d : Nat) (a : Int32) (b : Nat) (c : Nat) (L : List Value) (M : Mem) (Q : Option Value → Mem → Prop), Wp d 197 777 L [.int a, .ref b, .ref c] M Q ↔ ((isR b = true ∧ inr a (lnm M b)) ∧ Wp d 197 778 L [.int (M b a.toNatClampNeg), .ref c] M Q)) ∧
    (∀ (d : Nat) (a : Int32) (b : Nat) (x : Nat) (L : List Value) (M : Mem) (Q : Option Value → Mem → Prop), Wp d 197 778 (.ref x :: L) [.int a, .ref b] M Q ↔ Wp d 197 779 (.ref x :: L) [.ref x, .int a, .ref b] M Q) ∧
    (∀ (d : Nat) (a : Nat) (b : Int32) (c : Nat) (v0 : Value) (v1 : Value) (v2 : Value) (x : Int32) (L : List Value) (M : Mem) (Q : Option Value → Mem → Prop), Wp d 197 779 (v0 :: v1 :: v2 :: .int x :: L) [.ref a, .int b, .ref c] M Q ↔ Wp d 197 780 (v0 :: v1 :: v2 :: .int x :: L) [.int x, .ref a, .int b, .ref c] M Q) ∧
    (∀ (d : Nat) (a : Int32) (b : Nat) (c : Int32) (d2 : Nat) (L : List Value) (M : Mem) (Q : Option Value → Mem → Prop), Wp d 197 780 L [.int a, .ref b, .int c, .ref d2] M Q ↔ Wp d 197 781 L [.int 2, .int a, .ref b, .int c, .ref d2] M Q) ∧
    (∀ (d : Nat) (a : Int32) (b : Int32) (c : Nat) (d2 : Int32) (e : Nat) (L : List Value) (M : Mem) (Q : Option Value → Mem → Prop), Wp d 197 781 L [.int a, .int b, .ref c, .int d2, .ref e] M Q ↔ Wp d 197 782 L [.int (b + a), .ref c, .int d2, .ref e] M Q) ∧
    (∀ (d : Nat) (a : Int32) (b : Nat) (c : Int32) (d2 : Nat) (L : List Value) (M : Mem) (Q : Option Value → Mem → Prop), Wp d 197 782 L [.int a, .ref b, .int c, .ref d2] M Q ↔ ((isR b = true ∧ inr a (lnm M b)) ∧ Wp d 197 783 L [.int (M b a.toNatClampNeg), .int c, .ref d2] M Q)) ∧
    (∀ (d : Nat) (a : Int32) (b : Int32) (c : Nat) (L : List Value) (M : Mem) (Q : Option Value → Mem → Prop), Wp (d + 1) 197 783 L [.int a, .int b, .ref c] M Q ↔ (isK c 11 = true ∧ Wp d 100 0 [.ref c, .int b, .int a, .null, .null, .null] [] M (fun r M2 => Wp (d + 1) 197 786 L (r.toList ++ []) M2 Q))) ∧
    (∀ (d : Nat) (a : Int32) (v0 : Value) (v1 : Value) (x : Nat) (L : List Value) (M : Mem) (Q : Option Value → Mem → Prop), Wp d 197 786 (v0 :: v1 :: .ref x :: L) [.int a] M Q ↔ Wp d 197 787 (v0 :: v1 :: .ref x :: L) [.ref x, .int a] M Q) ∧
    (∀ (d : Nat) (a : Nat) (b : Int32) (x : Nat) (L : List Value) (M : Mem) (Q : Option Value → Mem → Prop), Wp d 197 787 (.ref x :: L) [.ref a, .int b] M Q ↔ Wp d 197 788 (.ref x :: L) [.ref x, .ref a, .int b] M Q) ∧
    (∀ (d : Nat) (a : Nat) (b : Nat) (c : Int32) (v0 : Value) (v1 : Value) (v2 : Value) (x : Int32) (L : List Value) (M : Mem) (Q : Option Value → Mem → Prop), Wp d 197 788 (v0 :: v1 :: v2 :: .int x :: L) [.ref a, .ref b, .int c] M Q ↔ Wp d 197 789 (v0 :: v1 :: v2 :: .int x :: L) [.int x, .ref a, .ref b, .int c] M Q) ∧
    (∀ (d : Nat) (a : Int32) (b : Nat) (c : Nat) (d2 : Int32) (L : List Value) (M : Mem) (Q : Option Value → Mem → Prop), Wp d 197 789 L [.int a, .ref b, .ref c, .int d2] M Q ↔ Wp d 197 790 L [.int 1, .int a, .ref b, .ref c, .int d2] M Q) ∧
    (∀ (d : Nat) (a : Int32) (b : Int32) (c : Nat) (d2 : Nat) (e : Int32) (L : List Value) (M : Mem) (Q : Option Value → Mem → Prop), Wp d 197 790 L [.int a, .int b, .ref c, .ref d2, .int e] M Q ↔ Wp d 197 791 L [.int (b + a), .ref c, .ref d2, .int e] M Q) ∧
    (∀ (d : Nat) (a : Int32) (b : Nat) (c : Nat) (d2 : Int32) (L : List Value) (M : Mem) (Q : Option Value → Mem → Prop), Wp d 197 791 L [.int a, .ref b, .ref c, .int d2] M Q ↔ ((isR b = true ∧ inr a (lnm M b)) ∧ Wp d 197 792 L [.int (M b a.toNatClampNeg), .ref c, .int d2] M Q)) ∧
    (∀ (d : Nat) (a : Int32) (b : Nat) (c : Int32) (x : Nat) (L : List Value) (M : Mem) (Q : Option Value → Mem → Prop), Wp d 197 792 (.ref x :: L) [.int a, .ref b, .int c] M Q ↔ Wp d 197 793 (.ref x :: L) [.ref x, .int a, .ref b, .int c] M Q) ∧
    (∀ (d : Nat) (a : Nat) (b : Int32) (c : Nat) (d2 : Int32) (v0 : Value) (v1 : Value) (v2 : Value) (x : Int32) (L : List Value) (M : Mem) (Q : Option Value → Mem → Prop), Wp d 197 793 (v0 :: v1 :: v2 :: .int x :: L) [.ref a, .int b, .ref c, .int d2] M Q ↔ Wp d 197 794 (v0 :: v1 :: v2 :: .int x :: L) [.int x, .ref a, .int b, .ref c, .int d2] M Q) ∧
    (∀ (d : Nat) (a : Int32) (b : Nat) (c : Int32) (d2 : Nat) (e : Int32) (L : List Value) (M : Mem) (Q : Option Value → Mem → Prop), Wp d 197 794 L [.int a, .ref b, .int c, .ref d2, .int e] M Q ↔ Wp d 197 795 L [.int 2, .int a, .ref b, .int c, .ref d2, .int e] M Q) ∧
    (∀ (d : Nat) (a : Int32) (b : Int32) (c : Nat) (d2 : Int32) (e : Nat) (f : Int32) (L : List Value) (M : Mem) (Q : Option Value → Mem → Prop), Wp d 197 795 L [.int a, .int b, .ref c, .int d2, .ref e, .int f] M Q ↔ Wp d 197 796 L [.int (b + a), .ref c, .int d2, .ref e, .int f] M Q) ∧
    (∀ (d : Nat) (a : Int32) (b : Nat) (c : Int32) (d2 : Nat) (e : Int32) (L : List Value) (M : Mem) (Q : Option Value → Mem → Prop), Wp d 197 796 L [.int a, .ref b, .int c, .ref d2, .int e] M Q ↔ ((isR b = true ∧ inr a (lnm M b)) ∧ Wp d 197 797 L [.int (M b a.toNatClampNeg), .int c, .ref d2, .int e] M Q)) ∧
    (∀ (d : Nat) (a : Int32) (b : Int32) (c : Nat) (d2 : Int32) (L : List Value) (M : Mem) (Q : Option Value → Mem → Prop), Wp (d + 1) 197 797 L [.int a, .int b, .ref c, .int d2] M Q ↔ (isK c 12 = true ∧ Wp d 183 0 [.ref c, .int b, .int a, .null, .null, .null] [] M (fun r M2 => Wp (d + 1) 197 800 L (r.toList ++ [.int d2]) M2 Q))) ∧
    (∀ (d : Nat) (a : Int32) (b : Int32) (L : List Value) (M : Mem) (Q : Option Value → Mem → Prop), Wp d 197 800 L [.int a, .int b] M Q ↔ (if b = a then Wp d 197 1018 L [] M Q else Wp d 197 803 L [] M Q)) ∧
    (∀ (d : Nat) (L : List Value) (M : Mem) (Q : Option Value → Mem → Prop), Wp d 197 803 L [] M Q ↔ Wp d 197 804 L [.int 0] M Q) ∧
    (∀ (d : Nat) (a : Int32) (L : List Value) (M : Mem) (Q : Option Value → Mem → Prop), Wp d 197 804 L [.int a] M Q ↔ ((a = 0 ∨ a = 1) ∧ Q (some (.int a)) M)) ∧
    (∀ (d : Nat) (v0 : Value) (x : Nat) (L : List Value) (M : Mem) (Q : Option Value → Mem → Prop), Wp d 197 805 (v0 :: .ref x :: L) [] M Q ↔ Wp d 197 806 (v0 :: .ref x :: L) [.ref x] M Q) ∧
    (∀ (d : Nat) (a : Nat) (x : Nat) (L : List Value) (M : Mem) (Q : Option Value → Mem → Prop), Wp d 197 806 (.ref x :: L) [.ref a] M Q ↔ Wp d 197 807 (.ref x :: L) [.ref x, .ref a] M Q) ∧
    (∀ (d : Nat) (a : Nat) (b : Nat) (v0 : Value) (v1 : Value) (v2 : Value) (x : Int32) (L : List Value) (M : Mem) (Q : Option Value → Mem → Prop), Wp d 197 807 (v0 :: v1 :: v2 :: .int x :: L) [.ref a, .ref b] M Q ↔ Wp d 197 808 (v0 :: v1 :: v2 :: .int x :: L) [.int x, .ref a, .ref b] M Q) ∧
    (∀ (d : Nat) (a : Int32) (b : Nat) (c : Nat) (L : List Value) (M : Mem) (Q : Option Value → Mem → Prop), Wp d 197 808 L [.int a, .ref b, .ref c] M Q ↔ Wp d 197 809 L [.int 1, .int a, .ref b, .ref c] M Q) ∧
    (∀ (d : Nat) (a : Int32) (b : Int32) (c : Nat) (d2 : Nat) (L : List Value) (M : Mem) (Q : Option Value → Mem → Prop), Wp d 197 809 L [.int a, .int b, .ref c, .ref d2] M Q ↔ Wp d 197 810 L [.int (b + a), .ref c, .ref d2] M Q) ∧
    (∀ (d : Nat) (a : Int32) (b : Nat) (c : Nat) (L : List Value) (M : Mem) (Q : Option Value → Mem → Prop), Wp d 197 810 L [.int a, .ref b, .ref c] M Q ↔ ((isR b = true ∧ inr a (lnm M b)) ∧ Wp d 197 811 L [.int (M b a.toNatClampNeg), .ref c] M Q)) ∧
    (∀ (d : Nat) (a : Int32) (b : Nat) (x : Nat) (L : List Value) (M : Mem) (Q : Option Value → Mem → Prop), Wp d 197 811 (.ref x :: L) [.int a, .ref b] M Q ↔ Wp d 197 812 (.ref x :: L) [.ref x, .int a, .ref b] M Q) ∧
    (∀ (d : Nat) (a : Nat) (b : Int32) (c : Nat) (v0 : Value) (v1 : Value) (v2 : Value) (x : Int32) (L : List Value) (M : Mem) (Q : Option Value → Mem → Prop), Wp d 197 812 (v0 :: v1 :: v2 :: .int x :: L) [.ref a, .int b, .ref c] M Q ↔ Wp d 197 813 (v0 :: v1 :: v2 :: .int x :: L) [.int x, .ref a, .int b, .ref c] M Q) ∧
    (∀ (d : Nat) (a : Int32) (b : Nat) (c : Int32) (d2 : Nat) (L : List Value) (M : Mem) (Q : Option Value → Mem → Prop), Wp d 197 813 L [.int a, .ref b, .int c, .ref d2] M Q ↔ Wp d 197 814 L [.int 2, .int a, .ref b, .int c, .ref d2] M Q) ∧
    (∀ (d : Nat) (a : Int32) (b : Int32) (c : Nat) (d2 : Int32) (e : Nat) (L : List Value) (M : Mem) (Q : Option Value → Mem → Prop), Wp d 197 814 L [.int a, .int b, .ref c, .int d2, .ref e] M Q ↔ Wp d 197 815 L [.int (b + a), .ref c, .int d2, .ref e] M Q) ∧
    (∀ (d : Nat) (a : Int32) (b : Nat) (c : Int32) (d2 : Nat) (L : List Value) (M : Mem) (Q : Option Value → Mem → Prop), Wp d 197 815 L [.int a, .ref b, .int c, .ref d2] M Q ↔ ((isR b = true ∧ inr a (lnm M b)) ∧ Wp d 197 816 L [.int (M b a.toNatClampNeg), .int c, .ref d2] M Q)) ∧
    (∀ (d : Nat) (a : Int32) (b : Int32) (c : Nat) (L : List Value) (M : Mem) (Q : Option Value → Mem → Prop), Wp d 197 816 L [.int a, .int b, .ref c] M Q ↔ (if a = 0 then Wp d 197 823 L [.int b, .ref c] M Q else Wp d 197 819 L [.int b, .ref c] M Q)) ∧
    (∀ (d : Nat) (a : Int32) (b : Nat) (L : List Value) (M : Mem) (Q : Option Value → Mem → Prop), Wp d 197 819 L [.int a, .ref b] M Q ↔ Wp d 197 820 L [.int 1, .int a, .ref b] M Q) ∧
    (∀ (d : Nat) (a : Int32) (b : Int32) (c : Nat) (L : List Value) (M : Mem) (Q : Option Value → Mem → Prop), Wp d 197 820 L [.int a, .int b, .ref c] M Q ↔ Wp d 197 824 L [.int a, .int b, .ref c] M Q) ∧
    (∀ (d : Nat) (a : Int32) (b : Nat) (L : List Value) (M : Mem) (Q : Option Value → Mem → Prop), Wp d 197 823 L [.int a, .ref b] M Q ↔ Wp d 197 824 L [.int 0, .int a, .ref b] M Q) ∧
    (∀ (d : Nat) (a : Int32) (b : Int32) (c : Nat) (L : List Value) (M : Mem) (Q : Option Value → Mem → Prop), Wp (d + 1) 197 824 L [.int a, .int b, .ref c] M Q ↔ (isK c 11 = true ∧ Wp d 101 0 [.ref c, .int b, .int a] [] M (fun r M2 => Wp (d + 1) 197 827 L (r.toList ++ []) M2 Q))) ∧
    (∀ (d : Nat) (a : Int32) (v0 : Value) (v1 : Value) (x : Nat) (L : List Value) (M : Mem) (Q : Option Value → Mem → Prop), Wp d 197 827 (v0 :: v1 :: .ref x :: L) [.int a] M Q ↔ Wp d 197 828 (v0 :: v1 :: .ref x :: L) [.ref x, .int a] M Q) ∧
    (∀ (d : Nat) (a : Nat) (b : Int32) (x : Nat) (L : List Value) (M : Mem) (Q : Option Value → Mem → Prop), Wp d 197 828 (.ref x :: L) [.ref a, .int b] M Q ↔ Wp d 197 829 (.ref x :: L) [.ref x, .ref a, .int b] M Q) ∧
    (∀ (d : Nat) (a : Nat) (b : Nat) (c : Int32) (v0 : Value) (v1 : Value) (v2 : Value) (x : Int32) (L : List Value) (M : Mem) (Q : Option Value → Mem → Prop), Wp d 197 829 (v0 :: v1 :: v2 :: .int x :: L) [.ref a, .ref b, .int c] M Q ↔ Wp d 197 830 (v0 :: v1 :: v2 :: .int x :: L) [.int x, .ref a, .ref b, .int c] M Q) ∧
    (∀ (d : Nat) (a : Int32) (b : Nat) (c : Nat) (d2 : Int32) (L : List Value) (M : Mem) (Q : Option Value → Mem → Prop), Wp d 197 830 L [.int a, .ref b, .ref c, .int d2] M Q ↔ Wp d 197 831 L [.int 1, .int a, .ref b, .ref c, .int d2] M Q) ∧
    (∀ (d : Nat) (a : Int32) (b : Int32) (c : Nat) (d2 : Nat) (e : Int32) (L : List Value) (M : Mem) (Q : Option Value → Mem → Prop), Wp d 197 831 L [.int a, .int b, .ref c, .ref d2, .int e] M Q ↔ Wp d 197 832 L [.int (b + a), .ref c, .ref d2, .int e] M Q) ∧
    (∀ (d : Nat) (a : Int32) (b : Nat) (c : Nat) (d2 : Int32) (L : List Value) (M : Mem) (Q : Option Value → Mem → Prop), Wp d 197 832 L [.int a, .ref b, .ref c, .int d2] M Q ↔ ((isR b = true ∧ inr a (lnm M b)) ∧ Wp d 197 833 L [.int (M b a.toNatClampNeg), .ref c, .int d2] M Q)) ∧
    (∀ (d : Nat) (a : Int32) (b : Nat) (c : Int32) (x : Nat) (L : List Value) (M : Mem) (Q : Option Value → Mem → Prop), Wp d 197 833 (.ref x :: L) [.int a, .ref b, .int c] M Q ↔ Wp d 197 834 (.ref x :: L) [.ref x, .int a, .ref b, .int c] M Q) ∧
    (∀ (d : Nat) (a : Nat) (b : Int32) (c : Nat) (d2 : Int32) (v0 : Value) (v1 : Value) (v2 : Value) (x : Int32) (L : List Value) (M : Mem) (Q : Option Value → Mem → Prop), Wp d 197 834 (v0 :: v1 :: v2 :: .int x :: L) [.ref a, .int b, .ref c, .int d2] M Q ↔ Wp d 197 835 (v0 :: v1 :: v2 :: .int x :: L) [.int x, .ref a, .int b, .ref c, .int d2] M Q) ∧
    (∀ (d : Nat) (a : Int32) (b : Nat) (c : Int32) (d2 : Nat) (e : Int32) (L : List Value) (M : Mem) (Q : Option Value → Mem → Prop), Wp d 197 835 L [.int a, .ref b, .int c, .ref d2, .int e] M Q ↔ Wp d 197 836 L [.int 2, .int a, .ref b, .int c, .ref d2, .int e] M Q) ∧
    (∀ (d : Nat) (a : Int32) (b : Int32) (c : Nat) (d2 : Int32) (e : Nat) (f : Int32) (L : List Value) (M : Mem) (Q : Option Value → Mem → Prop), Wp d 197 836 L [.int a, .int b, .ref c, .int d2, .ref e, .int f] M Q ↔ Wp d 197 837 L [.int (b + a), .ref c, .int d2, .ref e, .int f] M Q) ∧
    (∀ (d : Nat) (a : Int32) (b : Nat) (c : Int32) (d2 : Nat) (e : Int32) (L : List Value) (M : Mem) (Q : Option Value → Mem → Prop), Wp d 197 837 L [.int a, .ref b, .int c, .ref d2, .int e] M Q ↔ ((isR b = true ∧ inr a (lnm M b)) ∧ Wp d 197 838 L [.int (M b a.toNatClampNeg), .int c, .ref d2, .int e] M Q)) ∧
    (∀ (d : Nat) (a : Int32) (b : Int32) (c : Nat) (d2 : Int32) (L : List Value) (M : Mem) (Q : Option Value → Mem → Prop), Wp d 197 838 L [.int a, .int b, .ref c, .int d2] M Q ↔ (if a = 0 then Wp d 197 845 L [.int b, .ref c, .int d2] M Q else Wp d 197 841 L [.int b, .ref c, .int d2] M Q)) ∧
    (∀ (d : Nat) (a : Int32) (b : Nat) (c : Int32) (L : List Value) (M : Mem) (Q : Option Value → Mem → Prop), Wp d 197 841 L [.int a, .ref b, .int c] M Q ↔ Wp d 197 842 L [.int 1, .int a, .ref b, .int c] M Q) ∧
    (∀ (d : Nat) (a : Int32) (b : Int32) (c : Nat) (d2 : Int32) (L : List Value) (M : Mem) (Q : Option Value → Mem → Prop), Wp d 197 842 L [.int a, .int b, .ref c, .int d2] M Q ↔ Wp d 197 846 L [.int a, .int b, .ref c, .int d2] M Q) ∧
    (∀ (d : Nat) (a : Int32) (b : Nat) (c : Int32) (L : List Value) (M : Mem) (Q : Option Value → Mem → Prop), Wp d 197 845 L [.int a, .ref b, .int c] M Q ↔ Wp d 197 846 L [.int 0, .int a, .ref b, .int c] M Q) ∧
    (∀ (d : Nat) (a : Int32) (b : Int32) (c : Nat) (d2 : Int32) (L : List Value) (M : Mem) (Q : Option Value → Mem → Prop), Wp (d + 1) 197 846 L [.int a, .int b, .ref c, .int d2] M Q ↔ (isK c 12 = true ∧ Wp d 184 0 [.ref c, .int b, .int a] [] M (fun r M2 => Wp (d + 1) 197 849 L (r.toList ++ [.int d2]) M2 Q))) := by
  refine ⟨?_, ?_, ?_, ?_, ?_, ?_, ?_, ?_, ?_, ?_, ?_, ?_, ?_, ?_, ?_, ?_, ?_, ?_, ?_, ?_, ?_, ?_, ?_, ?_, ?_, ?_, ?_, ?_, ?_, ?_, ?_, ?_, ?_, ?_, ?_, ?_, ?_, ?_, ?_, ?_, ?_, ?_, ?_, ?_, ?_, ?_, ?_, ?_, ?_, ?_, ?_, ?_, ?_, ?_, ?_, ?_, ?_, ?_, ?_, ?_⟩
  · intro d a L M Q; exact q_zret (by decide +kernel : decode (cd 197) 771 = .ok (.ireturn , 1)) (by decide +kernel)
  · intro d v0 x L M Q; exact Wp_sim (by decide +kernel : decode (cd 197) 772 = .ok (.aload_n 1, 1)) rfl rfl
  · intro d a x L M Q; exact Wp_sim (by decide +kernel : decode (cd 197) 773 = .ok (.aload_n 0, 1)) rfl rfl
  · intro d a b v0 v1 v2 x L M Q; exact Wp_sim (by decide +kernel : decode (cd 197) 774 = .ok (.iload_n 3, 1)) rfl rfl
  · intro d a b c L M Q; exact Wp_sim (by decide +kernel : decode (cd 197) 775 = .ok (.iconst 1, 1)) rfl rfl
  · intro d a b c d2 L M Q; exact Wp_sim (by decide +kernel : decode (cd 197) 776 = .ok (.iadd , 1)) rfl rfl
  · intro d a b c L M Q; exact q_ald (by decide +kernel : decode (cd 197) 777 = .ok (.iaload , 1))
  · intro d a b x L M Q; exact Wp_sim (by decide +kernel : decode (cd 197) 778 = .ok (.aload_n 0, 1)) rfl rfl
  · intro d a b c v0 v1 v2 x L M Q; exact Wp_sim (by decide +kernel : decode (cd 197) 779 = .ok (.iload_n 3, 1)) rfl rfl
  · intro d a b c d2 L M Q; exact Wp_sim (by decide +kernel : decode (cd 197) 780 = .ok (.iconst 2, 1)) rfl rfl
  · intro d a b c d2 e L M Q; exact Wp_sim (by decide +kernel : decode (cd 197) 781 = .ok (.iadd , 1)) rfl rfl
  · intro d a b c d2 L M Q; exact q_ald (by decide +kernel : decode (cd 197) 782 = .ok (.iaload , 1))
  · intro d a b c L M Q; exact q_invV (pz := 758) (n := 2) (c := 11) (m := 6) (k := c) (As := [.int b, .int a]) (rest := []) (by decide +kernel : decode (cd 197) 783 = .ok (.invokevirtual 105, 3)) (by decide +kernel) (by decide +kernel) rfl rfl (Nat.le_of_ble_eq_true rfl) (Nat.le_of_ble_eq_true rfl) rfl
  · intro d a v0 v1 x L M Q; exact Wp_sim (by decide +kernel : decode (cd 197) 786 = .ok (.aload_n 2, 1)) rfl rfl
  · intro d a b x L M Q; exact Wp_sim (by decide +kernel : decode (cd 197) 787 = .ok (.aload_n 0, 1)) rfl rfl
  · intro d a b c v0 v1 v2 x L M Q; exact Wp_sim (by decide +kernel : decode (cd 197) 788 = .ok (.iload_n 3, 1)) rfl rfl
  · intro d a b c d2 L M Q; exact Wp_sim (by decide +kernel : decode (cd 197) 789 = .ok (.iconst 1, 1)) rfl rfl
  · intro d a b c d2 e L M Q; exact Wp_sim (by decide +kernel : decode (cd 197) 790 = .ok (.iadd , 1)) rfl rfl
  · intro d a b c d2 L M Q; exact q_ald (by decide +kernel : decode (cd 197) 791 = .ok (.iaload , 1))
  · intro d a b c x L M Q; exact Wp_sim (by decide +kernel : decode (cd 197) 792 = .ok (.aload_n 0, 1)) rfl rfl
  · intro d a b c d2 v0 v1 v2 x L M Q; exact Wp_sim (by decide +kernel : decode (cd 197) 793 = .ok (.iload_n 3, 1)) rfl rfl
  · intro d a b c d2 e L M Q; exact Wp_sim (by decide +kernel : decode (cd 197) 794 = .ok (.iconst 2, 1)) rfl rfl
  · intro d a b c d2 e f L M Q; exact Wp_sim (by decide +kernel : decode (cd 197) 795 = .ok (.iadd , 1)) rfl rfl
  · intro d a b c d2 e L M Q; exact q_ald (by decide +kernel : decode (cd 197) 796 = .ok (.iaload , 1))
  · intro d a b c d2 L M Q; exact q_invV (pz := 1231) (n := 2) (c := 12) (m := 6) (k := c) (As := [.int b, .int a]) (rest := [.int d2]) (by decide +kernel : decode (cd 197) 797 = .ok (.invokevirtual 108, 3)) (by decide +kernel) (by decide +kernel) rfl rfl (Nat.le_of_ble_eq_true rfl) (Nat.le_of_ble_eq_true rfl) rfl
  · intro d a b L M Q; exact q_ieq (by decide +kernel : decode (cd 197) 800 = .ok (.if_icmp .eq 218, 3)) (by decide)
  · intro d L M Q; exact Wp_sim (by decide +kernel : decode (cd 197) 803 = .ok (.iconst 0, 1)) rfl rfl
  · intro d a L M Q; exact q_zret (by decide +kernel : decode (cd 197) 804 = .ok (.ireturn , 1)) (by decide +kernel)
  · intro d v0 x L M Q; exact Wp_sim (by decide +kernel : decode (cd 197) 805 = .ok (.aload_n 1, 1)) rfl rfl
  · intro d a x L M Q; exact Wp_sim (by decide +kernel : decode (cd 197) 806 = .ok (.aload_n 0, 1)) rfl rfl
  · intro d a b v0 v1 v2 x L M Q; exact Wp_sim (by decide +kernel : decode (cd 197) 807 = .ok (.iload_n 3, 1)) rfl rfl
  · intro d a b c L M Q; exact Wp_sim (by decide +kernel : decode (cd 197) 808 = .ok (.iconst 1, 1)) rfl rfl
  · intro d a b c d2 L M Q; exact Wp_sim (by decide +kernel : decode (cd 197) 809 = .ok (.iadd , 1)) rfl rfl
  · intro d a b c L M Q; exact q_ald (by decide +kernel : decode (cd 197) 810 = .ok (.iaload , 1))
  · intro d a b x L M Q; exact Wp_sim (by decide +kernel : decode (cd 197) 811 = .ok (.aload_n 0, 1)) rfl rfl
  · intro d a b c v0 v1 v2 x L M Q; exact Wp_sim (by decide +kernel : decode (cd 197) 812 = .ok (.iload_n 3, 1)) rfl rfl
  · intro d a b c d2 L M Q; exact Wp_sim (by decide +kernel : decode (cd 197) 813 = .ok (.iconst 2, 1)) rfl rfl
  · intro d a b c d2 e L M Q; exact Wp_sim (by decide +kernel : decode (cd 197) 814 = .ok (.iadd , 1)) rfl rfl
  · intro d a b c d2 L M Q; exact q_ald (by decide +kernel : decode (cd 197) 815 = .ok (.iaload , 1))
  · intro d a b c L M Q; exact q_zeq (by decide +kernel : decode (cd 197) 816 = .ok (.ifCond .eq 7, 3)) (by decide)
  · intro d a b L M Q; exact Wp_sim (by decide +kernel : decode (cd 197) 819 = .ok (.iconst 1, 1)) rfl rfl
  · intro d a b c L M Q; exact q_goto (by decide +kernel : decode (cd 197) 820 = .ok (.goto 4, 3)) (by decide)
  · intro d a b L M Q; exact Wp_sim (by decide +kernel : decode (cd 197) 823 = .ok (.iconst 0, 1)) rfl rfl
  · intro d a b c L M Q; exact q_invV (pz := 764) (n := 2) (c := 11) (m := 3) (k := c) (As := [.int b, .int a]) (rest := []) (by decide +kernel : decode (cd 197) 824 = .ok (.invokevirtual 109, 3)) (by decide +kernel) (by decide +kernel) rfl rfl (Nat.le_of_ble_eq_true rfl) (Nat.le_of_ble_eq_true rfl) rfl
  · intro d a v0 v1 x L M Q; exact Wp_sim (by decide +kernel : decode (cd 197) 827 = .ok (.aload_n 2, 1)) rfl rfl
  · intro d a b x L M Q; exact Wp_sim (by decide +kernel : decode (cd 197) 828 = .ok (.aload_n 0, 1)) rfl rfl
  · intro d a b c v0 v1 v2 x L M Q; exact Wp_sim (by decide +kernel : decode (cd 197) 829 = .ok (.iload_n 3, 1)) rfl rfl
  · intro d a b c d2 L M Q; exact Wp_sim (by decide +kernel : decode (cd 197) 830 = .ok (.iconst 1, 1)) rfl rfl
  · intro d a b c d2 e L M Q; exact Wp_sim (by decide +kernel : decode (cd 197) 831 = .ok (.iadd , 1)) rfl rfl
  · intro d a b c d2 L M Q; exact q_ald (by decide +kernel : decode (cd 197) 832 = .ok (.iaload , 1))
  · intro d a b c x L M Q; exact Wp_sim (by decide +kernel : decode (cd 197) 833 = .ok (.aload_n 0, 1)) rfl rfl
  · intro d a b c d2 v0 v1 v2 x L M Q; exact Wp_sim (by decide +kernel : decode (cd 197) 834 = .ok (.iload_n 3, 1)) rfl rfl
  · intro d a b c d2 e L M Q; exact Wp_sim (by decide +kernel : decode (cd 197) 835 = .ok (.iconst 2, 1)) rfl rfl
  · intro d a b c d2 e f L M Q; exact Wp_sim (by decide +kernel : decode (cd 197) 836 = .ok (.iadd , 1)) rfl rfl
  · intro d a b c d2 e L M Q; exact q_ald (by decide +kernel : decode (cd 197) 837 = .ok (.iaload , 1))
  · intro d a b c d2 L M Q; exact q_zeq (by decide +kernel : decode (cd 197) 838 = .ok (.ifCond .eq 7, 3)) (by decide)
  · intro d a b c L M Q; exact Wp_sim (by decide +kernel : decode (cd 197) 841 = .ok (.iconst 1, 1)) rfl rfl
  · intro d a b c d2 L M Q; exact q_goto (by decide +kernel : decode (cd 197) 842 = .ok (.goto 4, 3)) (by decide)
  · intro d a b c L M Q; exact Wp_sim (by decide +kernel : decode (cd 197) 845 = .ok (.iconst 0, 1)) rfl rfl
  · intro d a b c d2 L M Q; exact q_invV (pz := 1236) (n := 2) (c := 12) (m := 3) (k := c) (As := [.int b, .int a]) (rest := [.int d2]) (by decide +kernel : decode (cd 197) 846 = .ok (.invokevirtual 113, 3)) (by decide +kernel) (by decide +kernel) rfl rfl (Nat.le_of_ble_eq_true rfl) (Nat.le_of_ble_eq_true rfl) rfl
set_option maxRecDepth 10000 in
theorem e197_9 : (∀ (d : Nat) (a : Int32) (b : Int32) (L : List Value) (M : Mem) (Q : Option Value → Mem → Prop), Wp d 197 849 L [.int a, .int b] M Q ↔ (if b = a then Wp d 197 1018 L [] M Q else Wp d 197 852 L [] M Q)) ∧
    (∀ (d : Nat) (L : List Value) (M : Mem) (Q : Option Value → Mem → Prop), Wp d 197 852 L [] M Q ↔ Wp d 197 853 L [.int 0] M Q) ∧
    (∀ (d : Nat) (a : Int32) (L : List Value) (M : Mem) (Q : Option Value → Mem → Prop), Wp d 197 853 L [.int a] M Q ↔ ((a = 0 ∨ a = 1) ∧ Q (some (.int a)) M)) ∧
    (∀ (d : Nat) (v0 : Value) (x : Nat) (L : List Value) (M : Mem) (Q : Option Value → Mem → Prop), Wp d 197 854 (v0 :: .ref x :: L) [] M Q ↔ Wp d 197 855 (v0 :: .ref x :: L) [.ref x] M Q) ∧
    (∀ (d : Nat) (a : Nat) (x : Nat) (L : List Value) (M : Mem) (Q : Option Value → Mem → Prop), Wp d 197 855 (.ref x :: L) [.ref a] M Q ↔ Wp d 197 856 (.ref x :: L) [.ref x, .ref a] M Q) ∧
    (∀ (d : Nat) (a : Nat) (b : Nat) (v0 : Value) (v1 : Value) (v2 : Value) (x : Int32) (L : List Value) (M : Mem) (Q : Option Value → Mem → Prop), Wp d 197 856 (v0 :: v1 :: v2 :: .int x :: L) [.ref a, .ref b] M Q ↔ Wp d 197 857 (v0 :: v1 :: v2 :: .int x :: L) [.int x, .ref a, .ref b] M Q) ∧
    (∀ (d : Nat) (a : Int32) (b : Nat) (c : Nat) (L : List Value) (M : Mem) (Q : Option Value → Mem → Prop), Wp d 197 857 L [.int a, .ref b, .ref c] M Q ↔ Wp d 197 858 L [.int 1, .int a, .ref b, .ref c] M Q) ∧
    (∀ (d : Nat) (a : Int32) (b : Int32) (c : Nat) (d2 : Nat) (L : List Value) (M : Mem) (Q : Option Value → Mem → Prop), Wp d 197 858 L [.int a, .int b, .ref c, .ref d2] M Q ↔ Wp d 197 859 L [.int (b + a), .ref c, .ref d2] M Q) ∧
    (∀ (d : Nat) (a : Int32) (b : Nat) (c : Nat) (L : List Value) (M : Mem) (Q : Option Value → Mem → Prop), Wp d 197 859 L [.int a, .ref b, .ref c] M Q ↔ ((isR b = true ∧ inr a (lnm M b)) ∧ Wp d 197 860 L [.int (M b a.toNatClampNeg), .ref c] M Q)) ∧
    (∀ (d : Nat) (a : Int32) (b : Nat) (L : List Value) (M : Mem) (Q : Option Value → Mem → Prop), Wp (d + 1) 197 860 L [.int a, .ref b] M Q ↔ (isK b 11 = true ∧ Wp d 102 0 [.ref b, .int a] [] M (fun r M2 => Wp (d + 1) 197 863 L (r.toList ++ []) M2 Q))) ∧
    (∀ (d : Nat) (a : Int32) (v0 : Value) (v1 : Value) (x : Nat) (L : List Value) (M : Mem) (Q : Option Value → Mem → Prop), Wp d 197 863 (v0 :: v1 :: .ref x :: L) [.int a] M Q ↔ Wp d 197 864 (v0 :: v1 :: .ref x :: L) [.ref x, .int a] M Q) ∧
    (∀ (d : Nat) (a : Nat) (b : Int32) (x : Nat) (L : List Value) (M : Mem) (Q : Option Value → Mem → Prop), Wp d 197 864 (.ref x :: L) [.ref a, .int b] M Q ↔ Wp d 197 865 (.ref x :: L) [.ref x, .ref a, .int b] M Q) ∧
    (∀ (d : Nat) (a : Nat) (b : Nat) (c : Int32) (v0 : Value) (v1 : Value) (v2 : Value) (x : Int32) (L : List Value) (M : Mem) (Q : Option Value → Mem → Prop), Wp d 197 865 (v0 :: v1 :: v2 :: .int x :: L) [.ref a, .ref b, .int c] M Q ↔ Wp d 197 866 (v0 :: v1 :: v2 :: .int x :: L) [.int x, .ref a, .ref b, .int c] M Q) ∧
    (∀ (d : Nat) (a : Int32) (b : Nat) (c : Nat) (d2 : Int32) (L : List Value) (M : Mem) (Q : Option Value → Mem → Prop), Wp d 197 866 L [.int a, .ref b, .ref c, .int d2] M Q ↔ Wp d 197 867 L [.int 1, .int a, .ref b, .ref c, .int d2] M Q) ∧
    (∀ (d : Nat) (a : Int32) (b : Int32) (c : Nat) (d2 : Nat) (e : Int32) (L : List Value) (M : Mem) (Q : Option Value → Mem → Prop), Wp d 197 867 L [.int a, .int b, .ref c, .ref d2, .int e] M Q ↔ Wp d 197 868 L [.int (b + a), .ref c, .ref d2, .int e] M Q) ∧
    (∀ (d : Nat) (a : Int32) (b : Nat) (c : Nat) (d2 : Int32) (L : List Value) (M : Mem) (Q : Option Value → Mem → Prop), Wp d 197 868 L [.int a, .ref b, .ref c, .int d2] M Q ↔ ((isR b = true ∧ inr a (lnm M b)) ∧ Wp d 197 869 L [.int (M b a.toNatClampNeg), .ref c, .int d2] M Q)) ∧
    (∀ (d : Nat) (a : Int32) (b : Nat) (c : Int32) (L : List Value) (M : Mem) (Q : Option Value → Mem → Prop), Wp (d + 1) 197 869 L [.int a, .ref b, .int c] M Q ↔ (isK b 12 = true ∧ Wp d 185 0 [.ref b, .int a, .null, .null, .null] [] M (fun r M2 => Wp (d + 1) 197 872 L (r.toList ++ [.int c]) M2 Q))) ∧
    (∀ (d : Nat) (a : Int32) (b : Int32) (L : List Value) (M : Mem) (Q : Option Value → Mem → Prop), Wp d 197 872 L [.int a, .int b] M Q ↔ (if b = a then Wp d 197 1018 L [] M Q else Wp d 197 875 L [] M Q)) ∧
    (∀ (d : Nat) (L : List Value) (M : Mem) (Q : Option Value → Mem → Prop), Wp d 197 875 L [] M Q ↔ Wp d 197 876 L [.int 0] M Q) ∧
    (∀ (d : Nat) (a : Int32) (L : List Value) (M : Mem) (Q : Option Value → Mem → Prop), Wp d 197 876 L [.int a] M Q ↔ ((a = 0 ∨ a = 1) ∧ Q (some (.int a)) M)) ∧
    (∀ (d : Nat) (v0 : Value) (x : Nat) (L : List Value) (M : Mem) (Q : Option Value → Mem → Prop), Wp d 197 877 (v0 :: .ref x :: L) [] M Q ↔ Wp d 197 878 (v0 :: .ref x :: L) [.ref x] M Q) ∧
    (∀ (d : Nat) (a : Nat) (L : List Value) (M : Mem) (Q : Option Value → Mem → Prop), Wp (d + 1) 197 878 L [.ref a] M Q ↔ (isK a 11 = true ∧ Wp d 103 0 [.ref a] [] M (fun r M2 => Wp (d + 1) 197 881 L (r.toList ++ []) M2 Q))) ∧
    (∀ (d : Nat) (a : Int32) (v0 : Value) (v1 : Value) (x : Nat) (L : List Value) (M : Mem) (Q : Option Value → Mem → Prop), Wp d 197 881 (v0 :: v1 :: .ref x :: L) [.int a] M Q ↔ Wp d 197 882 (v0 :: v1 :: .ref x :: L) [.ref x, .int a] M Q) ∧
    (∀ (d : Nat) (a : Nat) (b : Int32) (L : List Value) (M : Mem) (Q : Option Value → Mem → Prop), Wp (d + 1) 197 882 L [.ref a, .int b] M Q ↔ (isK a 12 = true ∧ Wp d 188 0 [.ref a, .null, .null, .null, .null, .null, .null] [] M (fun r M2 => Wp (d + 1) 197 885 L (r.toList ++ [.int b]) M2 Q))) ∧
    (∀ (d : Nat) (a : Int32) (b : Int32) (L : List Value) (M : Mem) (Q : Option Value → Mem → Prop), Wp d 197 885 L [.int a, .int b] M Q ↔ (if b = a then Wp d 197 1018 L [] M Q else Wp d 197 888 L [] M Q)) ∧
    (∀ (d : Nat) (L : List Value) (M : Mem) (Q : Option Value → Mem → Prop), Wp d 197 888 L [] M Q ↔ Wp d 197 889 L [.int 0] M Q) ∧
    (∀ (d : Nat) (a : Int32) (L : List Value) (M : Mem) (Q : Option Value → Mem → Prop), Wp d 197 889 L [.int a] M Q ↔ ((a = 0 ∨ a = 1) ∧ Q (some (.int a)) M)) ∧
    (∀ (d : Nat) (v0 : Value) (x : Nat) (L : List Value) (M : Mem) (Q : Option Value → Mem → Prop), Wp d 197 890 (v0 :: .ref x :: L) [] M Q ↔ Wp d 197 891 (v0 :: .ref x :: L) [.ref x] M Q) ∧
    (∀ (d : Nat) (a : Nat) (x : Nat) (L : List Value) (M : Mem) (Q : Option Value → Mem → Prop), Wp d 197 891 (.ref x :: L) [.ref a] M Q ↔ Wp d 197 892 (.ref x :: L) [.ref x, .ref a] M Q) ∧
    (∀ (d : Nat) (a : Nat) (b : Nat) (v0 : Value) (v1 : Value) (v2 : Value) (x : Int32) (L : List Value) (M : Mem) (Q : Option Value → Mem → Prop), Wp d 197 892 (v0 :: v1 :: v2 :: .int x :: L) [.ref a, .ref b] M Q ↔ Wp d 197 893 (v0 :: v1 :: v2 :: .int x :: L) [.int x, .ref a, .ref b] M Q) ∧
    (∀ (d : Nat) (a : Int32) (b : Nat) (c : Nat) (L : List Value) (M : Mem) (Q : Option Value → Mem → Prop), Wp d 197 893 L [.int a, .ref b, .ref c] M Q ↔ Wp d 197 894 L [.int 1, .int a, .ref b, .ref c] M Q) ∧
    (∀ (d : Nat) (a : Int32) (b : Int32) (c : Nat) (d2 : Nat) (L : List Value) (M : Mem) (Q : Option Value → Mem → Prop), Wp d 197 894 L [.int a, .int b, .ref c, .ref d2] M Q ↔ Wp d 197 895 L [.int (b + a), .ref c, .ref d2] M Q) ∧
    (∀ (d : Nat) (a : Int32) (b : Nat) (c : Nat) (L : List Value) (M : Mem) (Q : Option Value → Mem → Prop), Wp d 197 895 L [.int a, .ref b, .ref c] M Q ↔ ((isR b = true ∧ inr a (lnm M b)) ∧ Wp d 197 896 L [.int (M b a.toNatClampNeg), .ref c] M Q)) ∧
    (∀ (d : Nat) (a : Int32) (b : Nat) (x : Nat) (L : List Value) (M : Mem) (Q : Option Value → Mem → Prop), Wp d 197 896 (.ref x :: L) [.int a, .ref b] M Q ↔ Wp d 197 897 (.ref x :: L) [.ref x, .int a, .ref b] M Q) ∧
    (∀ (d : Nat) (a : Nat) (b : Int32) (c : Nat) (v0 : Value) (v1 : Value) (v2 : Value) (x : Int32) (L : List Value) (M : Mem) (Q : Option Value → Mem → Prop), Wp d 197 897 (v0 :: v1 :: v2 :: .int x :: L) [.ref a, .int b, .ref c] M Q ↔ Wp d 197 898 (v0 :: v1 :: v2 :: .int x :: L) [.int x, .ref a, .int b, .ref c] M Q) ∧
    (∀ (d : Nat) (a : Int32) (b : Nat) (c : Int32) (d2 : Nat) (L : List Value) (M : Mem) (Q : Option Value → Mem → Prop), Wp d 197 898 L [.int a, .ref b, .int c, .ref d2] M Q ↔ Wp d 197 899 L [.int 2, .int a, .ref b, .int c, .ref d2] M Q) ∧
    (∀ (d : Nat) (a : Int32) (b : Int32) (c : Nat) (d2 : Int32) (e : Nat) (L : List Value) (M : Mem) (Q : Option Value → Mem → Prop), Wp d 197 899 L [.int a, .int b, .ref c, .int d2, .ref e] M Q ↔ Wp d 197 900 L [.int (b + a), .ref c, .int d2, .ref e] M Q) ∧
    (∀ (d : Nat) (a : Int32) (b : Nat) (c : Int32) (d2 : Nat) (L : List Value) (M : Mem) (Q : Option Value → Mem → Prop), Wp d 197 900 L [.int a, .ref b, .int c, .ref d2] M Q ↔ ((isR b = true ∧ inr a (lnm M b)) ∧ Wp d 197 901 L [.int (M b a.toNatClampNeg), .int c, .ref d2] M Q)) ∧
    (∀ (d : Nat) (a : Int32) (b : Int32) (c : Nat) (L : List Value) (M : Mem) (Q : Option Value → Mem → Prop), Wp (d + 1) 197 901 L [.int a, .int b, .ref c] M Q ↔ (isK c 11 = true ∧ Wp d 104 0 [.ref c, .int b, .int a] [] M (fun r M2 => Wp (d + 1) 197 904 L (r.toList ++ []) M2 Q))) ∧
    (∀ (d : Nat) (a : Int32) (v0 : Value) (v1 : Value) (x : Nat) (L : List Value) (M : Mem) (Q : Option Value → Mem → Prop), Wp d 197 904 (v0 :: v1 :: .ref x :: L) [.int a] M Q ↔ Wp d 197 905 (v0 :: v1 :: .ref x :: L) [.ref x, .int a] M Q) ∧
    (∀ (d : Nat) (a : Nat) (b : Int32) (x : Nat) (L : List Value) (M : Mem) (Q : Option Value → Mem → Prop), Wp d 197 905 (.ref x :: L) [.ref a, .int b] M Q ↔ Wp d 197 906 (.ref x :: L) [.ref x, .ref a, .int b] M Q) ∧
    (∀ (d : Nat) (a : Nat) (b : Nat) (c : Int32) (v0 : Value) (v1 : Value) (v2 : Value) (x : Int32) (L : List Value) (M : Mem) (Q : Option Value → Mem → Prop), Wp d 197 906 (v0 :: v1 :: v2 :: .int x :: L) [.ref a, .ref b, .int c] M Q ↔ Wp d 197 907 (v0 :: v1 :: v2 :: .int x :: L) [.int x, .ref a, .ref b, .int c] M Q) ∧
    (∀ (d : Nat) (a : Int32) (b : Nat) (c : Nat) (d2 : Int32) (L : List Value) (M : Mem) (Q : Option Value → Mem → Prop), Wp d 197 907 L [.int a, .ref b, .ref c, .int d2] M Q ↔ Wp d 197 908 L [.int 1, .int a, .ref b, .ref c, .int d2] M Q) ∧
    (∀ (d : Nat) (a : Int32) (b : Int32) (c : Nat) (d2 : Nat) (e : Int32) (L : List Value) (M : Mem) (Q : Option Value → Mem → Prop), Wp d 197 908 L [.int a, .int b, .ref c, .ref d2, .int e] M Q ↔ Wp d 197 909 L [.int (b + a), .ref c, .ref d2, .int e] M Q) ∧
    (∀ (d : Nat) (a : Int32) (b : Nat) (c : Nat) (d2 : Int32) (L : List Value) (M : Mem) (Q : Option Value → Mem → Prop), Wp d 197 909 L [.int a, .ref b, .ref c, .int d2] M Q ↔ ((isR b = true ∧ inr a (lnm M b)) ∧ Wp d 197 910 L [.int (M b a.toNatClampNeg), .ref c, .int d2] M Q)) ∧
    (∀ (d : Nat) (a : Int32) (b : Nat) (c : Int32) (x : Nat) (L : List Value) (M : Mem) (Q : Option Value → Mem → Prop), Wp d 197 910 (.ref x :: L) [.int a, .ref b, .int c] M Q ↔ Wp d 197 911 (.ref x :: L) [.ref x, .int a, .ref b, .int c] M Q) ∧
    (∀ (d : Nat) (a : Nat) (b : Int32) (c : Nat) (d2 : Int32) (v0 : Value) (v1 : Value) (v2 : Value) (x : Int32) (L : List Value) (M : Mem) (Q : Option Value → Mem → Prop), Wp d 197 911 (v0 :: v1 :: v2 :: .int x :: L) [.ref a, .int b, .ref c, .int d2] M Q ↔ Wp d 197 912 (v0 :: v1 :: v2 :: .int x :: L) [.int x, .ref a, .int b, .ref c, .int d2] M Q) ∧
    (∀ (d : Nat) (a : Int32) (b : Nat) (c : Int32) (d2 : Nat) (e : Int32) (L : List Value) (M : Mem) (Q : Option Value → Mem → Prop), Wp d 197 912 L [.int a, .ref b, .int c, .ref d2, .int e] M Q ↔ Wp d 197 913 L [.int 2, .int a, .ref b, .int c, .ref d2, .int e] M Q) ∧
    (∀ (d : Nat) (a : Int32) (b : Int32) (c : Nat) (d2 : Int32) (e : Nat) (f : Int32) (L : List Value) (M : Mem) (Q : Option Value → Mem → Prop), Wp d 197 913 L [.int a, .int b, .ref c, .int d2, .ref e, .int f] M Q ↔ Wp d 197 914 L [.int (b + a), .ref c, .int d2, .ref e, .int f] M Q) ∧
    (∀ (d : Nat) (a : Int32) (b : Nat) (c : Int32) (d2 : Nat) (e : Int32) (L : List Value) (M : Mem) (Q : Option Value → Mem → Prop), Wp d 197 914 L [.int a, .ref b, .int c, .ref d2, .int e] M Q ↔ ((isR b = true ∧ inr a (lnm M b)) ∧ Wp d 197 915 L [.int (M b a.toNatClampNeg), .int c, .ref d2, .int e] M Q)) ∧
    (∀ (d : Nat) (a : Int32) (b : Int32) (c : Nat) (d2 : Int32) (L : List Value) (M : Mem) (Q : Option Value → Mem → Prop), Wp (d + 1) 197 915 L [.int a, .int b, .ref c, .int d2] M Q ↔ (isK c 12 = true ∧ Wp d 189 0 [.ref c, .int b, .int a] [] M (fun r M2 => Wp (d + 1) 197 918 L (r.toList ++ [.int d2]) M2 Q))) ∧
    (∀ (d : Nat) (a : Int32) (b : Int32) (L : List Value) (M : Mem) (Q : Option Value → Mem → Prop), Wp d 197 918 L [.int a, .int b] M Q ↔ (if b = a then Wp d 197 1018 L [] M Q else Wp d 197 921 L [] M Q)) ∧
    (∀ (d : Nat) (L : List Value) (M : Mem) (Q : Option Value → Mem → Prop), Wp d 197 921 L [] M Q ↔ Wp d 197 922 L [.int 0] M Q) ∧
    (∀ (d : Nat) (a : Int32) (L : List Value) (M : Mem) (Q : Option Value → Mem → Prop), Wp d 197 922 L [.int a] M Q ↔ ((a = 0 ∨ a = 1) ∧ Q (some (.int a)) M)) ∧
    (∀ (d : Nat) (v0 : Value) (x : Nat) (L : List Value) (M : Mem) (Q : Option Value → Mem → Prop), Wp d 197 923 (v0 :: .ref x :: L) [] M Q ↔ Wp d 197 924 (v0 :: .ref x :: L) [.ref x] M Q) ∧
    (∀ (d : Nat) (a : Nat) (L : List Value) (M : Mem) (Q : Option Value → Mem → Prop), Wp (d + 1) 197 924 L [.ref a] M Q ↔ (isK a 11 = true ∧ Wp d 105 0 [.ref a, .null] [] M (fun r M2 => Wp (d + 1) 197 927 L (r.toList ++ []) M2 Q))) ∧
    (∀ (d : Nat) (a : Int32) (v0 : Value) (v1 : Value) (x : Nat) (L : List Value) (M : Mem) (Q : Option Value → Mem → Prop), Wp d 197 927 (v0 :: v1 :: .ref x :: L) [.int a] M Q ↔ Wp d 197 928 (v0 :: v1 :: .ref x :: L) [.ref x, .int a] M Q) ∧
    (∀ (d : Nat) (a : Nat) (b : Int32) (L : List Value) (M : Mem) (Q : Option Value → Mem → Prop), Wp (d + 1) 197 928 L [.ref a, .int b] M Q ↔ (isK a 12 = true ∧ Wp d 190 0 [.ref a, .null] [] M (fun r M2 => Wp (d + 1) 197 931 L (r.toList ++ [.int b]) M2 Q))) ∧
    (∀ (d : Nat) (a : Int32) (b : Int32) (L : List Value) (M : Mem) (Q : Option Value → Mem → Prop), Wp d 197 931 L [.int a, .int b] M Q ↔ (if b = a then Wp d 197 1018 L [] M Q else Wp d 197 934 L [] M Q)) ∧
    (∀ (d : Nat) (L : List Value) (M : Mem) (Q : Option Value → Mem → Prop), Wp d 197 934 L [] M Q ↔ Wp d 197 935 L [.int 0] M Q) := by
  refine ⟨?_, ?_, ?_, ?_, ?_, ?_, ?_, ?_, ?_, ?_, ?_, ?_, ?_, ?_, ?_, ?_, ?_, ?_, ?_, ?_, ?_, ?_, ?_, ?_, ?_, ?_, ?_, ?_, ?_, ?_, ?_, ?_, ?_, ?_, ?_, ?_, ?_, ?_, ?_, ?_, ?_, ?_, ?_, ?_, ?_, ?_, ?_, ?_, ?_, ?_, ?_, ?_, ?_, ?_, ?_, ?_, ?_, ?_, ?_, ?_⟩
  · intro d a b L M Q; exact q_ieq (by decide +kernel : decode (cd 197) 849 = .ok (.if_icmp .eq 169, 3)) (by decide)
  · intro d L M Q; exact Wp_sim (by decide +kernel : decode (cd 197) 852 = .ok (.iconst 0, 1)) rfl rfl
  · intro d a L M Q; exact q_zret (by decide +kernel : decode (cd 197) 853 = .ok (.ireturn , 1)) (by decide +kernel)
  · intro d v0 x L M Q; exact Wp_sim (by decide +kernel : decode (cd 197) 854 = .ok (.aload_n 1, 1)) rfl rfl
  · intro d a x L M Q; exact Wp_sim (by decide +kernel : decode (cd 197) 855 = .ok (.aload_n 0, 1)) rfl rfl
  · intro d a b v0 v1 v2 x L M Q; exact Wp_sim (by decide +kernel : decode (cd 197) 856 = .ok (.iload_n 3, 1)) rfl rfl
  · intro d a b c L M Q; exact Wp_sim (by decide +kernel : decode (cd 197) 857 = .ok (.iconst 1, 1)) rfl rfl
  · intro d a b c d2 L M Q; exact Wp_sim (by decide +kernel : decode (cd 197) 858 = .ok (.iadd , 1)) rfl rfl
  · intro d a b c L M Q; exact q_ald (by decide +kernel : decode (cd 197) 859 = .ok (.iaload , 1))
  · intro d a b L M Q; exact q_invV (pz := 774) (n := 1) (c := 11) (m := 2) (k := b) (As := [.int a]) (rest := []) (by decide +kernel : decode (cd 197) 860 = .ok (.invokevirtual 114, 3)) (by decide +kernel) (by decide +kernel) rfl rfl (Nat.le_of_ble_eq_true rfl) (Nat.le_of_ble_eq_true rfl) rfl
  · intro d a v0 v1 x L M Q; exact Wp_sim (by decide +kernel : decode (cd 197) 863 = .ok (.aload_n 2, 1)) rfl rfl
  · intro d a b x L M Q; exact Wp_sim (by decide +kernel : decode (cd 197) 864 = .ok (.aload_n 0, 1)) rfl rfl
  · intro d a b c v0 v1 v2 x L M Q; exact Wp_sim (by decide +kernel : decode (cd 197) 865 = .ok (.iload_n 3, 1)) rfl rfl
  · intro d a b c d2 L M Q; exact Wp_sim (by decide +kernel : decode (cd 197) 866 = .ok (.iconst 1, 1)) rfl rfl
  · intro d a b c d2 e L M Q; exact Wp_sim (by decide +kernel : decode (cd 197) 867 = .ok (.iadd , 1)) rfl rfl
  · intro d a b c d2 L M Q; exact q_ald (by decide +kernel : decode (cd 197) 868 = .ok (.iaload , 1))
  · intro d a b c L M Q; exact q_invV (pz := 1240) (n := 1) (c := 12) (m := 5) (k := b) (As := [.int a]) (rest := [.int c]) (by decide +kernel : decode (cd 197) 869 = .ok (.invokevirtual 117, 3)) (by decide +kernel) (by decide +kernel) rfl rfl (Nat.le_of_ble_eq_true rfl) (Nat.le_of_ble_eq_true rfl) rfl
  · intro d a b L M Q; exact q_ieq (by decide +kernel : decode (cd 197) 872 = .ok (.if_icmp .eq 146, 3)) (by decide)
  · intro d L M Q; exact Wp_sim (by decide +kernel : decode (cd 197) 875 = .ok (.iconst 0, 1)) rfl rfl
  · intro d a L M Q; exact q_zret (by decide +kernel : decode (cd 197) 876 = .ok (.ireturn , 1)) (by decide +kernel)
  · intro d v0 x L M Q; exact Wp_sim (by decide +kernel : decode (cd 197) 877 = .ok (.aload_n 1, 1)) rfl rfl
  · intro d a L M Q; exact q_invV (pz := 782) (n := 0) (c := 11) (m := 1) (k := a) (As := []) (rest := []) (by decide +kernel : decode (cd 197) 878 = .ok (.invokevirtual 118, 3)) (by decide +kernel) (by decide +kernel) rfl rfl (Nat.le_of_ble_eq_true rfl) (Nat.le_of_ble_eq_true rfl) rfl
  · intro d a v0 v1 x L M Q; exact Wp_sim (by decide +kernel : decode (cd 197) 881 = .ok (.aload_n 2, 1)) rfl rfl
  · intro d a b L M Q; exact q_invV (pz := 1252) (n := 0) (c := 12) (m := 7) (k := a) (As := []) (rest := [.int b]) (by decide +kernel : decode (cd 197) 882 = .ok (.invokevirtual 121, 3)) (by decide +kernel) (by decide +kernel) rfl rfl (Nat.le_of_ble_eq_true rfl) (Nat.le_of_ble_eq_true rfl) rfl
  · intro d a b L M Q; exact q_ieq (by decide +kernel : decode (cd 197) 885 = .ok (.if_icmp .eq 133, 3)) (by decide)
  · intro d L M Q; exact Wp_sim (by decide +kernel : decode (cd 197) 888 = .ok (.iconst 0, 1)) rfl rfl
  · intro d a L M Q; exact q_zret (by decide +kernel : decode (cd 197) 889 = .ok (.ireturn , 1)) (by decide +kernel)
  · intro d v0 x L M Q; exact Wp_sim (by decide +kernel : decode (cd 197) 890 = .ok (.aload_n 1, 1)) rfl rfl
  · intro d a x L M Q; exact Wp_sim (by decide +kernel : decode (cd 197) 891 = .ok (.aload_n 0, 1)) rfl rfl
  · intro d a b v0 v1 v2 x L M Q; exact Wp_sim (by decide +kernel : decode (cd 197) 892 = .ok (.iload_n 3, 1)) rfl rfl
  · intro d a b c L M Q; exact Wp_sim (by decide +kernel : decode (cd 197) 893 = .ok (.iconst 1, 1)) rfl rfl
  · intro d a b c d2 L M Q; exact Wp_sim (by decide +kernel : decode (cd 197) 894 = .ok (.iadd , 1)) rfl rfl
  · intro d a b c L M Q; exact q_ald (by decide +kernel : decode (cd 197) 895 = .ok (.iaload , 1))
  · intro d a b x L M Q; exact Wp_sim (by decide +kernel : decode (cd 197) 896 = .ok (.aload_n 0, 1)) rfl rfl
  · intro d a b c v0 v1 v2 x L M Q; exact Wp_sim (by decide +kernel : decode (cd 197) 897 = .ok (.iload_n 3, 1)) rfl rfl
  · intro d a b c d2 L M Q; exact Wp_sim (by decide +kernel : decode (cd 197) 898 = .ok (.iconst 2, 1)) rfl rfl
  · intro d a b c d2 e L M Q; exact Wp_sim (by decide +kernel : decode (cd 197) 899 = .ok (.iadd , 1)) rfl rfl
  · intro d a b c d2 L M Q; exact q_ald (by decide +kernel : decode (cd 197) 900 = .ok (.iaload , 1))
  · intro d a b c L M Q; exact q_invV (pz := 791) (n := 2) (c := 11) (m := 3) (k := c) (As := [.int b, .int a]) (rest := []) (by decide +kernel : decode (cd 197) 901 = .ok (.invokevirtual 122, 3)) (by decide +kernel) (by decide +kernel) rfl rfl (Nat.le_of_ble_eq_true rfl) (Nat.le_of_ble_eq_true rfl) rfl
  · intro d a v0 v1 x L M Q; exact Wp_sim (by decide +kernel : decode (cd 197) 904 = .ok (.aload_n 2, 1)) rfl rfl
  · intro d a b x L M Q; exact Wp_sim (by decide +kernel : decode (cd 197) 905 = .ok (.aload_n 0, 1)) rfl rfl
  · intro d a b c v0 v1 v2 x L M Q; exact Wp_sim (by decide +kernel : decode (cd 197) 906 = .ok (.iload_n 3, 1)) rfl rfl
  · intro d a b c d2 L M Q; exact Wp_sim (by decide +kernel : decode (cd 197) 907 = .ok (.iconst 1, 1)) rfl rfl
  · intro d a b c d2 e L M Q; exact Wp_sim (by decide +kernel : decode (cd 197) 908 = .ok (.iadd , 1)) rfl rfl
  · intro d a b c d2 L M Q; exact q_ald (by decide +kernel : decode (cd 197) 909 = .ok (.iaload , 1))
  · intro d a b c x L M Q; exact Wp_sim (by decide +kernel : decode (cd 197) 910 = .ok (.aload_n 0, 1)) rfl rfl
  · intro d a b c d2 v0 v1 v2 x L M Q; exact Wp_sim (by decide +kernel : decode (cd 197) 911 = .ok (.iload_n 3, 1)) rfl rfl
  · intro d a b c d2 e L M Q; exact Wp_sim (by decide +kernel : decode (cd 197) 912 = .ok (.iconst 2, 1)) rfl rfl
  · intro d a b c d2 e f L M Q; exact Wp_sim (by decide +kernel : decode (cd 197) 913 = .ok (.iadd , 1)) rfl rfl
  · intro d a b c d2 e L M Q; exact q_ald (by decide +kernel : decode (cd 197) 914 = .ok (.iaload , 1))
  · intro d a b c d2 L M Q; exact q_invV (pz := 1256) (n := 2) (c := 12) (m := 3) (k := c) (As := [.int b, .int a]) (rest := [.int d2]) (by decide +kernel : decode (cd 197) 915 = .ok (.invokevirtual 125, 3)) (by decide +kernel) (by decide +kernel) rfl rfl (Nat.le_of_ble_eq_true rfl) (Nat.le_of_ble_eq_true rfl) rfl
  · intro d a b L M Q; exact q_ieq (by decide +kernel : decode (cd 197) 918 = .ok (.if_icmp .eq 100, 3)) (by decide)
  · intro d L M Q; exact Wp_sim (by decide +kernel : decode (cd 197) 921 = .ok (.iconst 0, 1)) rfl rfl
  · intro d a L M Q; exact q_zret (by decide +kernel : decode (cd 197) 922 = .ok (.ireturn , 1)) (by decide +kernel)
  · intro d v0 x L M Q; exact Wp_sim (by decide +kernel : decode (cd 197) 923 = .ok (.aload_n 1, 1)) rfl rfl
  · intro d a L M Q; exact q_invV (pz := 799) (n := 0) (c := 11) (m := 2) (k := a) (As := []) (rest := []) (by decide +kernel : decode (cd 197) 924 = .ok (.invokevirtual 126, 3)) (by decide +kernel) (by decide +kernel) rfl rfl (Nat.le_of_ble_eq_true rfl) (Nat.le_of_ble_eq_true rfl) rfl
  · intro d a v0 v1 x L M Q; exact Wp_sim (by decide +kernel : decode (cd 197) 927 = .ok (.aload_n 2, 1)) rfl rfl
  · intro d a b L M Q; exact q_invV (pz := 1261) (n := 0) (c := 12) (m := 2) (k := a) (As := []) (rest := [.int b]) (by decide +kernel : decode (cd 197) 928 = .ok (.invokevirtual 129, 3)) (by decide +kernel) (by decide +kernel) rfl rfl (Nat.le_of_ble_eq_true rfl) (Nat.le_of_ble_eq_true rfl) rfl
  · intro d a b L M Q; exact q_ieq (by decide +kernel : decode (cd 197) 931 = .ok (.if_icmp .eq 87, 3)) (by decide)
  · intro d L M Q; exact Wp_sim (by decide +kernel : decode (cd 197) 934 = .ok (.iconst 0, 1)) rfl rfl
set_option maxRecDepth 10000 in
theorem e197_10 : (∀ (d : Nat) (a : Int32) (L : List Value) (M : Mem) (Q : Option Value → Mem → Prop), Wp d 197 935 L [.int a] M Q ↔ ((a = 0 ∨ a = 1) ∧ Q (some (.int a)) M)) ∧
    (∀ (d : Nat) (v0 : Value) (x : Nat) (L : List Value) (M : Mem) (Q : Option Value → Mem → Prop), Wp d 197 936 (v0 :: .ref x :: L) [] M Q ↔ Wp d 197 937 (v0 :: .ref x :: L) [.ref x] M Q) ∧
    (∀ (d : Nat) (a : Nat) (L : List Value) (M : Mem) (Q : Option Value → Mem → Prop), Wp (d + 1) 197 937 L [.ref a] M Q ↔ (isK a 11 = true ∧ Wp d 106 0 [.ref a] [] M (fun r M2 => Wp (d + 1) 197 940 L (r.toList ++ []) M2 Q))) ∧
    (∀ (d : Nat) (a : Int32) (v0 : Value) (v1 : Value) (x : Nat) (L : List Value) (M : Mem) (Q : Option Value → Mem → Prop), Wp d 197 940 (v0 :: v1 :: .ref x :: L) [.int a] M Q ↔ Wp d 197 941 (v0 :: v1 :: .ref x :: L) [.ref x, .int a] M Q) ∧
    (∀ (d : Nat) (a : Nat) (b : Int32) (L : List Value) (M : Mem) (Q : Option Value → Mem → Prop), Wp (d + 1) 197 941 L [.ref a, .int b] M Q ↔ (isK a 12 = true ∧ Wp d 191 0 [.ref a, .null] [] M (fun r M2 => Wp (d + 1) 197 944 L (r.toList ++ [.int b]) M2 Q))) ∧
    (∀ (d : Nat) (a : Int32) (b : Int32) (L : List Value) (M : Mem) (Q : Option Value → Mem → Prop), Wp d 197 944 L [.int a, .int b] M Q ↔ (if b = a then Wp d 197 1018 L [] M Q else Wp d 197 947 L [] M Q)) ∧
    (∀ (d : Nat) (L : List Value) (M : Mem) (Q : Option Value → Mem → Prop), Wp d 197 947 L [] M Q ↔ Wp d 197 948 L [.int 0] M Q) ∧
    (∀ (d : Nat) (a : Int32) (L : List Value) (M : Mem) (Q : Option Value → Mem → Prop), Wp d 197 948 L [.int a] M Q ↔ ((a = 0 ∨ a = 1) ∧ Q (some (.int a)) M)) ∧
    (∀ (d : Nat) (v0 : Value) (x : Nat) (L : List Value) (M : Mem) (Q : Option Value → Mem → Prop), Wp d 197 949 (v0 :: .ref x :: L) [] M Q ↔ Wp d 197 950 (v0 :: .ref x :: L) [.ref x] M Q) ∧
    (∀ (d : Nat) (a : Nat) (x : Nat) (L : List Value) (M : Mem) (Q : Option Value → Mem → Prop), Wp d 197 950 (.ref x :: L) [.ref a] M Q ↔ Wp d 197 951 (.ref x :: L) [.ref x, .ref a] M Q) ∧
    (∀ (d : Nat) (a : Nat) (b : Nat) (v0 : Value) (v1 : Value) (v2 : Value) (x : Int32) (L : List Value) (M : Mem) (Q : Option Value → Mem → Prop), Wp d 197 951 (v0 :: v1 :: v2 :: .int x :: L) [.ref a, .ref b] M Q ↔ Wp d 197 952 (v0 :: v1 :: v2 :: .int x :: L) [.int x, .ref a, .ref b] M Q) ∧
    (∀ (d : Nat) (a : Int32) (b : Nat) (c : Nat) (L : List Value) (M : Mem) (Q : Option Value → Mem → Prop), Wp d 197 952 L [.int a, .ref b, .ref c] M Q ↔ Wp d 197 953 L [.int 1, .int a, .ref b, .ref c] M Q) ∧
    (∀ (d : Nat) (a : Int32) (b : Int32) (c : Nat) (d2 : Nat) (L : List Value) (M : Mem) (Q : Option Value → Mem → Prop), Wp d 197 953 L [.int a, .int b, .ref c, .ref d2] M Q ↔ Wp d 197 954 L [.int (b + a), .ref c, .ref d2] M Q) ∧
    (∀ (d : Nat) (a : Int32) (b : Nat) (c : Nat) (L : List Value) (M : Mem) (Q : Option Value → Mem → Prop), Wp d 197 954 L [.int a, .ref b, .ref c] M Q ↔ ((isR b = true ∧ inr a (lnm M b)) ∧ Wp d 197 955 L [.int (M b a.toNatClampNeg), .ref c] M Q)) ∧
    (∀ (d : Nat) (a : Int32) (b : Nat) (L : List Value) (M : Mem) (Q : Option Value → Mem → Prop), Wp (d + 1) 197 955 L [.int a, .ref b] M Q ↔ (isK b 11 = true ∧ Wp d 107 0 [.ref b, .int a, .null] [] M (fun r M2 => Wp (d + 1) 197 958 L (r.toList ++ []) M2 Q))) ∧
    (∀ (d : Nat) (a : Int32) (v0 : Value) (v1 : Value) (x : Nat) (L : List Value) (M : Mem) (Q : Option Value → Mem → Prop), Wp d 197 958 (v0 :: v1 :: .ref x :: L) [.int a] M Q ↔ Wp d 197 959 (v0 :: v1 :: .ref x :: L) [.ref x, .int a] M Q) ∧
    (∀ (d : Nat) (a : Nat) (b : Int32) (x : Nat) (L : List Value) (M : Mem) (Q : Option Value → Mem → Prop), Wp d 197 959 (.ref x :: L) [.ref a, .int b] M Q ↔ Wp d 197 960 (.ref x :: L) [.ref x, .ref a, .int b] M Q) ∧
    (∀ (d : Nat) (a : Nat) (b : Nat) (c : Int32) (v0 : Value) (v1 : Value) (v2 : Value) (x : Int32) (L : List Value) (M : Mem) (Q : Option Value → Mem → Prop), Wp d 197 960 (v0 :: v1 :: v2 :: .int x :: L) [.ref a, .ref b, .int c] M Q ↔ Wp d 197 961 (v0 :: v1 :: v2 :: .int x :: L) [.int x, .ref a, .ref b, .int c] M Q) ∧
    (∀ (d : Nat) (a : Int32) (b : Nat) (c : Nat) (d2 : Int32) (L : List Value) (M : Mem) (Q : Option Value → Mem → Prop), Wp d 197 961 L [.int a, .ref b, .ref c, .int d2] M Q ↔ Wp d 197 962 L [.int 1, .int a, .ref b, .ref c, .int d2] M Q) ∧
    (∀ (d : Nat) (a : Int32) (b : Int32) (c : Nat) (d2 : Nat) (e : Int32) (L : List Value) (M : Mem) (Q : Option Value → Mem → Prop), Wp d 197 962 L [.int a, .int b, .ref c, .ref d2, .int e] M Q ↔ Wp d 197 963 L [.int (b + a), .ref c, .ref d2, .int e] M Q) ∧
    (∀ (d : Nat) (a : Int32) (b : Nat) (c : Nat) (d2 : Int32) (L : List Value) (M : Mem) (Q : Option Value → Mem → Prop), Wp d 197 963 L [.int a, .ref b, .ref c, .int d2] M Q ↔ ((isR b = true ∧ inr a (lnm M b)) ∧ Wp d 197 964 L [.int (M b a.toNatClampNeg), .ref c, .int d2] M Q)) ∧
    (∀ (d : Nat) (a : Int32) (b : Nat) (c : Int32) (L : List Value) (M : Mem) (Q : Option Value → Mem → Prop), Wp (d + 1) 197 964 L [.int a, .ref b, .int c] M Q ↔ (isK b 12 = true ∧ Wp d 192 0 [.ref b, .int a, .null] [] M (fun r M2 => Wp (d + 1) 197 967 L (r.toList ++ [.int c]) M2 Q))) ∧
    (∀ (d : Nat) (a : Int32) (b : Int32) (L : List Value) (M : Mem) (Q : Option Value → Mem → Prop), Wp d 197 967 L [.int a, .int b] M Q ↔ (if b = a then Wp d 197 1018 L [] M Q else Wp d 197 970 L [] M Q)) ∧
    (∀ (d : Nat) (L : List Value) (M : Mem) (Q : Option Value → Mem → Prop), Wp d 197 970 L [] M Q ↔ Wp d 197 971 L [.int 0] M Q) ∧
    (∀ (d : Nat) (a : Int32) (L : List Value) (M : Mem) (Q : Option Value → Mem → Prop), Wp d 197 971 L [.int a] M Q ↔ ((a = 0 ∨ a = 1) ∧ Q (some (.int a)) M)) ∧
    (∀ (d : Nat) (v0 : Value) (x : Nat) (L : List Value) (M : Mem) (Q : Option Value → Mem → Prop), Wp d 197 972 (v0 :: .ref x :: L) [] M Q ↔ Wp d 197 973 (v0 :: .ref x :: L) [.ref x] M Q) ∧
    (∀ (d : Nat) (a : Nat) (x : Nat) (L : List Value) (M : Mem) (Q : Option Value → Mem → Prop), Wp d 197 973 (.ref x :: L) [.ref a] M Q ↔ Wp d 197 974 (.ref x :: L) [.ref x, .ref a] M Q) ∧
    (∀ (d : Nat) (a : Nat) (b : Nat) (v0 : Value) (v1 : Value) (v2 : Value) (x : Int32) (L : List Value) (M : Mem) (Q : Option Value → Mem → Prop), Wp d 197 974 (v0 :: v1 :: v2 :: .int x :: L) [.ref a, .ref b] M Q ↔ Wp d 197 975 (v0 :: v1 :: v2 :: .int x :: L) [.int x, .ref a, .ref b] M Q) ∧
    (∀ (d : Nat) (a : Int32) (b : Nat) (c : Nat) (L : List Value) (M : Mem) (Q : Option Value → Mem → Prop), Wp d 197 975 L [.int a, .ref b, .ref c] M Q ↔ Wp d 197 976 L [.int 1, .int a, .ref b, .ref c] M Q) ∧
    (∀ (d : Nat) (a : Int32) (b : Int32) (c : Nat) (d2 : Nat) (L : List Value) (M : Mem) (Q : Option Value → Mem → Prop), Wp d 197 976 L [.int a, .int b, .ref c, .ref d2] M Q ↔ Wp d 197 977 L [.int (b + a), .ref c, .ref d2] M Q) ∧
    (∀ (d : Nat) (a : Int32) (b : Nat) (c : Nat) (L : List Value) (M : Mem) (Q : Option Value → Mem → Prop), Wp d 197 977 L [.int a, .ref b, .ref c] M Q ↔ ((isR b = true ∧ inr a (lnm M b)) ∧ Wp d 197 978 L [.int (M b a.toNatClampNeg), .ref c] M Q)) ∧
    (∀ (d : Nat) (a : Int32) (b : Nat) (L : List Value) (M : Mem) (Q : Option Value → Mem → Prop), Wp (d + 1) 197 978 L [.int a, .ref b] M Q ↔ (isK b 11 = true ∧ Wp d 108 0 [.ref b, .int a] [] M (fun r M2 => Wp (d + 1) 197 981 L (r.toList ++ []) M2 Q))) ∧
    (∀ (d : Nat) (a : Int32) (v0 : Value) (v1 : Value) (x : Nat) (L : List Value) (M : Mem) (Q : Option Value → Mem → Prop), Wp d 197 981 (v0 :: v1 :: .ref x :: L) [.int a] M Q ↔ Wp d 197 982 (v0 :: v1 :: .ref x :: L) [.ref x, .int a] M Q) ∧
    (∀ (d : Nat) (a : Nat) (b : Int32) (x : Nat) (L : List Value) (M : Mem) (Q : Option Value → Mem → Prop), Wp d 197 982 (.ref x :: L) [.ref a, .int b] M Q ↔ Wp d 197 983 (.ref x :: L) [.ref x, .ref a, .int b] M Q) ∧
    (∀ (d : Nat) (a : Nat) (b : Nat) (c : Int32) (v0 : Value) (v1 : Value) (v2 : Value) (x : Int32) (L : List Value) (M : Mem) (Q : Option Value → Mem → Prop), Wp d 197 983 (v0 :: v1 :: v2 :: .int x :: L) [.ref a, .ref b, .int c] M Q ↔ Wp d 197 984 (v0 :: v1 :: v2 :: .int x :: L) [.int x, .ref a, .ref b, .int c] M Q) ∧
    (∀ (d : Nat) (a : Int32) (b : Nat) (c : Nat) (d2 : Int32) (L : List Value) (M : Mem) (Q : Option Value → Mem → Prop), Wp d 197 984 L [.int a, .ref b, .ref c, .int d2] M Q ↔ Wp d 197 985 L [.int 1, .int a, .ref b, .ref c, .int d2] M Q) ∧
    (∀ (d : Nat) (a : Int32) (b : Int32) (c : Nat) (d2 : Nat) (e : Int32) (L : List Value) (M : Mem) (Q : Option Value → Mem → Prop), Wp d 197 985 L [.int a, .int b, .ref c, .ref d2, .int e] M Q ↔ Wp d 197 986 L [.int (b + a), .ref c, .ref d2, .int e] M Q) ∧
    (∀ (d : Nat) (a : Int32) (b : Nat) (c : Nat) (d2 : Int32) (L : List Value) (M : Mem) (Q : Option Value → Mem → Prop), Wp d 197 986 L [.int a, .ref b, .ref c, .int d2] M Q ↔ ((isR b = true ∧ inr a (lnm M b)) ∧ Wp d 197 987 L [.int (M b a.toNatClampNeg), .ref c, .int d2] M Q)) ∧
    (∀ (d : Nat) (a : Int32) (b : Nat) (c : Int32) (L : List Value) (M : Mem) (Q : Option Value → Mem → Prop), Wp (d + 1) 197 987 L [.int a, .ref b, .int c] M Q ↔ (isK b 12 = true ∧ Wp d 193 0 [.ref b, .int a] [] M (fun r M2 => Wp (d + 1) 197 990 L (r.toList ++ [.int c]) M2 Q))) ∧
    (∀ (d : Nat) (a : Int32) (b : Int32) (L : List Value) (M : Mem) (Q : Option Value → Mem → Prop), Wp d 197 990 L [.int a, .int b] M Q ↔ (if b = a then Wp d 197 1018 L [] M Q else Wp d 197 993 L [] M Q)) ∧
    (∀ (d : Nat) (L : List Value) (M : Mem) (Q : Option Value → Mem → Prop), Wp d 197 993 L [] M Q ↔ Wp d 197 994 L [.int 0] M Q) ∧
    (∀ (d : Nat) (a : Int32) (L : List Value) (M : Mem) (Q : Option Value → Mem → Prop), Wp d 197 994 L [.int a] M Q ↔ ((a = 0 ∨ a = 1) ∧ Q (some (.int a)) M)) ∧
    (∀ (d : Nat) (v0 : Value) (x : Nat) (L : List Value) (M : Mem) (Q : Option Value → Mem → Prop), Wp d 197 995 (v0 :: .ref x :: L) [] M Q ↔ Wp d 197 996 (v0 :: .ref x :: L) [.ref x] M Q) ∧
    (∀ (d : Nat) (a : Nat) (x : Nat) (L : List Value) (M : Mem) (Q : Option Value → Mem → Prop), Wp d 197 996 (.ref x :: L) [.ref a] M Q ↔ Wp d 197 997 (.ref x :: L) [.ref x, .ref a] M Q) ∧
    (∀ (d : Nat) (a : Nat) (b : Nat) (v0 : Value) (v1 : Value) (v2 : Value) (x : Int32) (L : List Value) (M : Mem) (Q : Option Value → Mem → Prop), Wp d 197 997 (v0 :: v1 :: v2 :: .int x :: L) [.ref a, .ref b] M Q ↔ Wp d 197 998 (v0 :: v1 :: v2 :: .int x :: L) [.int x, .ref a, .ref b] M Q) ∧
    (∀ (d : Nat) (a : Int32) (b : Nat) (c : Nat) (L : List Value) (M : Mem) (Q : Option Value → Mem → Prop), Wp d 197 998 L [.int a, .ref b, .ref c] M Q ↔ Wp d 197 999 L [.int 1, .int a, .ref b, .ref c] M Q) ∧
    (∀ (d : Nat) (a : Int32) (b : Int32) (c : Nat) (d2 : Nat) (L : List Value) (M : Mem) (Q : Option Value → Mem → Prop), Wp d 197 999 L [.int a, .int b, .ref c, .ref d2] M Q ↔ Wp d 197 1000 L [.int (b + a), .ref c, .ref d2] M Q) ∧
    (∀ (d : Nat) (a : Int32) (b : Nat) (c : Nat) (L : List Value) (M : Mem) (Q : Option Value → Mem → Prop), Wp d 197 1000 L [.int a, .ref b, .ref c] M Q ↔ ((isR b = true ∧ inr a (lnm M b)) ∧ Wp d 197 1001 L [.int (M b a.toNatClampNeg), .ref c] M Q)) ∧
    (∀ (d : Nat) (a : Int32) (b : Nat) (L : List Value) (M : Mem) (Q : Option Value → Mem → Prop), Wp (d + 1) 197 1001 L [.int a, .ref b] M Q ↔ (isK b 11 = true ∧ Wp d 110 0 [.ref b, .int a, .null] [] M (fun r M2 => Wp (d + 1) 197 1004 L (r.toList ++ []) M2 Q))) ∧
    (∀ (d : Nat) (a : Int32) (v0 : Value) (v1 : Value) (x : Nat) (L : List Value) (M : Mem) (Q : Option Value → Mem → Prop), Wp d 197 1004 (v0 :: v1 :: .ref x :: L) [.int a] M Q ↔ Wp d 197 1005 (v0 :: v1 :: .ref x :: L) [.ref x, .int a] M Q) ∧
    (∀ (d : Nat) (a : Nat) (b : Int32) (x : Nat) (L : List Value) (M : Mem) (Q : Option Value → Mem → Prop), Wp d 197 1005 (.ref x :: L) [.ref a, .int b] M Q ↔ Wp d 197 1006 (.ref x :: L) [.ref x, .ref a, .int b] M Q) ∧
    (∀ (d : Nat) (a : Nat) (b : Nat) (c : Int32) (v0 : Value) (v1 : Value) (v2 : Value) (x : Int32) (L : List Value) (M : Mem) (Q : Option Value → Mem → Prop), Wp d 197 1006 (v0 :: v1 :: v2 :: .int x :: L) [.ref a, .ref b, .int c] M Q ↔ Wp d 197 1007 (v0 :: v1 :: v2 :: .int x :: L) [.int x, .ref a, .ref b, .int c] M Q) ∧
    (∀ (d : Nat) (a : Int32) (b : Nat) (c : Nat) (d2 : Int32) (L : List Value) (M : Mem) (Q : Option Value → Mem → Prop), Wp d 197 1007 L [.int a, .ref b, .ref c, .int d2] M Q ↔ Wp d 197 1008 L [.int 1, .int a, .ref b, .ref c, .int d2] M Q) ∧
    (∀ (d : Nat) (a : Int32) (b : Int32) (c : Nat) (d2 : Nat) (e : Int32) (L : List Value) (M : Mem) (Q : Option Value → Mem → Prop), Wp d 197 1008 L [.int a, .int b, .ref c, .ref d2, .int e] M Q ↔ Wp d 197 1009 L [.int (b + a), .ref c, .ref d2, .int e] M Q) ∧
    (∀ (d : Nat) (a : Int32) (b : Nat) (c : Nat) (d2 : Int32) (L : List Value) (M : Mem) (Q : Option Value → Mem → Prop), Wp d 197 1009 L [.int a, .ref b, .ref c, .int d2] M Q ↔ ((isR b = true ∧ inr a (lnm M b)) ∧ Wp d 197 1010 L [.int (M b a.toNatClampNeg), .ref c, .int d2] M Q)) ∧
    (∀ (d : Nat) (a : Int32) (b : Nat) (c : Int32) (L : List Value) (M : Mem) (Q : Option Value → Mem → Prop), Wp (d + 1) 197 1010 L [.int a, .ref b, .int c] M Q ↔ (isK b 12 = true ∧ Wp d 194 0 [.ref b, .int a] [] M (fun r M2 => Wp (d + 1) 197 1013 L (r.toList ++ [.int c]) M2 Q))) ∧
    (∀ (d : Nat) (a : Int32) (b : Int32) (L : List Value) (M : Mem) (Q : Option Value → Mem → Prop), Wp d 197 1013 L [.int a, .int b] M Q ↔ (if b = a then Wp d 197 1018 L [] M Q else Wp d 197 1016 L [] M Q)) ∧
    (∀ (d : Nat) (L : List Value) (M : Mem) (Q : Option Value → Mem → Prop), Wp d 197 1016 L [] M Q ↔ Wp d 197 1017 L [.int 0] M Q) ∧
    (∀ (d : Nat) (a : Int32) (L : List Value) (M : Mem) (Q : Option Value → Mem → Prop), Wp d 197 1017 L [.int a] M Q ↔ ((a = 0 ∨ a = 1) ∧ Q (some (.int a)) M)) ∧
    (∀ (d : Nat) (v0 : Value) (v1 : Value) (v2 : Value) (x : Int32) (L : List Value) (M : Mem) (Q : Option Value → Mem → Prop), Wp d 197 1018 (v0 :: v1 :: v2 :: .int x :: L) [] M Q ↔ Wp d 197 1021 (v0 :: v1 :: clr v2 :: .int (x + 4) :: L) [] M Q) := by
  refine ⟨?_, ?_, ?_, ?_, ?_, ?_, ?_, ?_, ?_, ?_, ?_, ?_, ?_, ?_, ?_, ?_, ?_, ?_, ?_, ?_, ?_, ?_, ?_, ?_, ?_, ?_, ?_, ?_, ?_, ?_, ?_, ?_, ?_, ?_, ?_, ?_, ?_, ?_, ?_, ?_, ?_, ?_, ?_, ?_, ?_, ?_, ?_, ?_, ?_, ?_, ?_, ?_, ?_, ?_, ?_, ?_, ?_, ?_, ?_, ?_⟩
  · intro d a L M Q; exact q_zret (by decide +kernel : decode (cd 197) 935 = .ok (.ireturn , 1)) (by decide +kernel)
  · intro d v0 x L M Q; exact Wp_sim (by decide +kernel : decode (cd 197) 936 = .ok (.aload_n 1, 1)) rfl rfl
  · intro d a L M Q; exact q_invV (pz := 803) (n := 0) (c := 11) (m := 1) (k := a) (As := []) (rest := []) (by decide +kernel : decode (cd 197) 937 = .ok (.invokevirtual 130, 3)) (by decide +kernel) (by decide +kernel) rfl rfl (Nat.le_of_ble_eq_true rfl) (Nat.le_of_ble_eq_true rfl) rfl
  · intro d a v0 v1 x L M Q; exact Wp_sim (by decide +kernel : decode (cd 197) 940 = .ok (.aload_n 2, 1)) rfl rfl
  · intro d a b L M Q; exact q_invV (pz := 1265) (n := 0) (c := 12) (m := 2) (k := a) (As := []) (rest := [.int b]) (by decide +kernel : decode (cd 197) 941 = .ok (.invokevirtual 133, 3)) (by decide +kernel) (by decide +kernel) rfl rfl (Nat.le_of_ble_eq_true rfl) (Nat.le_of_ble_eq_true rfl) rfl
  · intro d a b L M Q; exact q_ieq (by decide +kernel : decode (cd 197) 944 = .ok (.if_icmp .eq 74, 3)) (by decide)
  · intro d L M Q; exact Wp_sim (by decide +kernel : decode (cd 197) 947 = .ok (.iconst 0, 1)) rfl rfl
  · intro d a L M Q; exact q_zret (by decide +kernel : decode (cd 197) 948 = .ok (.ireturn , 1)) (by decide +kernel)
  · intro d v0 x L M Q; exact Wp_sim (by decide +kernel : decode (cd 197) 949 = .ok (.aload_n 1, 1)) rfl rfl
  · intro d a x L M Q; exact Wp_sim (by decide +kernel : decode (cd 197) 950 = .ok (.aload_n 0, 1)) rfl rfl
  · intro d a b v0 v1 v2 x L M Q; exact Wp_sim (by decide +kernel : decode (cd 197) 951 = .ok (.iload_n 3, 1)) rfl rfl
  · intro d a b c L M Q; exact Wp_sim (by decide +kernel : decode (cd 197) 952 = .ok (.iconst 1, 1)) rfl rfl
  · intro d a b c d2 L M Q; exact Wp_sim (by decide +kernel : decode (cd 197) 953 = .ok (.iadd , 1)) rfl rfl
  · intro d a b c L M Q; exact q_ald (by decide +kernel : decode (cd 197) 954 = .ok (.iaload , 1))
  · intro d a b L M Q; exact q_invV (pz := 811) (n := 1) (c := 11) (m := 3) (k := b) (As := [.int a]) (rest := []) (by decide +kernel : decode (cd 197) 955 = .ok (.invokevirtual 134, 3)) (by decide +kernel) (by decide +kernel) rfl rfl (Nat.le_of_ble_eq_true rfl) (Nat.le_of_ble_eq_true rfl) rfl
  · intro d a v0 v1 x L M Q; exact Wp_sim (by decide +kernel : decode (cd 197) 958 = .ok (.aload_n 2, 1)) rfl rfl
  · intro d a b x L M Q; exact Wp_sim (by decide +kernel : decode (cd 197) 959 = .ok (.aload_n 0, 1)) rfl rfl
  · intro d a b c v0 v1 v2 x L M Q; exact Wp_sim (by decide +kernel : decode (cd 197) 960 = .ok (.iload_n 3, 1)) rfl rfl
  · intro d a b c d2 L M Q; exact Wp_sim (by decide +kernel : decode (cd 197) 961 = .ok (.iconst 1, 1)) rfl rfl
  · intro d a b c d2 e L M Q; exact Wp_sim (by decide +kernel : decode (cd 197) 962 = .ok (.iadd , 1)) rfl rfl
  · intro d a b c d2 L M Q; exact q_ald (by decide +kernel : decode (cd 197) 963 = .ok (.iaload , 1))
  · intro d a b c L M Q; exact q_invV (pz := 1269) (n := 1) (c := 12) (m := 3) (k := b) (As := [.int a]) (rest := [.int c]) (by decide +kernel : decode (cd 197) 964 = .ok (.invokevirtual 137, 3)) (by decide +kernel) (by decide +kernel) rfl rfl (Nat.le_of_ble_eq_true rfl) (Nat.le_of_ble_eq_true rfl) rfl
  · intro d a b L M Q; exact q_ieq (by decide +kernel : decode (cd 197) 967 = .ok (.if_icmp .eq 51, 3)) (by decide)
  · intro d L M Q; exact Wp_sim (by decide +kernel : decode (cd 197) 970 = .ok (.iconst 0, 1)) rfl rfl
  · intro d a L M Q; exact q_zret (by decide +kernel : decode (cd 197) 971 = .ok (.ireturn , 1)) (by decide +kernel)
  · intro d v0 x L M Q; exact Wp_sim (by decide +kernel : decode (cd 197) 972 = .ok (.aload_n 1, 1)) rfl rfl
  · intro d a x L M Q; exact Wp_sim (by decide +kernel : decode (cd 197) 973 = .ok (.aload_n 0, 1)) rfl rfl
  · intro d a b v0 v1 v2 x L M Q; exact Wp_sim (by decide +kernel : decode (cd 197) 974 = .ok (.iload_n 3, 1)) rfl rfl
  · intro d a b c L M Q; exact Wp_sim (by decide +kernel : decode (cd 197) 975 = .ok (.iconst 1, 1)) rfl rfl
  · intro d a b c d2 L M Q; exact Wp_sim (by decide +kernel : decode (cd 197) 976 = .ok (.iadd , 1)) rfl rfl
  · intro d a b c L M Q; exact q_ald (by decide +kernel : decode (cd 197) 977 = .ok (.iaload , 1))
  · intro d a b L M Q; exact q_invV (pz := 815) (n := 1) (c := 11) (m := 2) (k := b) (As := [.int a]) (rest := []) (by decide +kernel : decode (cd 197) 978 = .ok (.invokevirtual 138, 3)) (by decide +kernel) (by decide +kernel) rfl rfl (Nat.le_of_ble_eq_true rfl) (Nat.le_of_ble_eq_true rfl) rfl
  · intro d a v0 v1 x L M Q; exact Wp_sim (by decide +kernel : decode (cd 197) 981 = .ok (.aload_n 2, 1)) rfl rfl
  · intro d a b x L M Q; exact Wp_sim (by decide +kernel : decode (cd 197) 982 = .ok (.aload_n 0, 1)) rfl rfl
  · intro d a b c v0 v1 v2 x L M Q; exact Wp_sim (by decide +kernel : decode (cd 197) 983 = .ok (.iload_n 3, 1)) rfl rfl
  · intro d a b c d2 L M Q; exact Wp_sim (by decide +kernel : decode (cd 197) 984 = .ok (.iconst 1, 1)) rfl rfl
  · intro d a b c d2 e L M Q; exact Wp_sim (by decide +kernel : decode (cd 197) 985 = .ok (.iadd , 1)) rfl rfl
  · intro d a b c d2 L M Q; exact q_ald (by decide +kernel : decode (cd 197) 986 = .ok (.iaload , 1))
  · intro d a b c L M Q; exact q_invV (pz := 1273) (n := 1) (c := 12) (m := 2) (k := b) (As := [.int a]) (rest := [.int c]) (by decide +kernel : decode (cd 197) 987 = .ok (.invokevirtual 141, 3)) (by decide +kernel) (by decide +kernel) rfl rfl (Nat.le_of_ble_eq_true rfl) (Nat.le_of_ble_eq_true rfl) rfl
  · intro d a b L M Q; exact q_ieq (by decide +kernel : decode (cd 197) 990 = .ok (.if_icmp .eq 28, 3)) (by decide)
  · intro d L M Q; exact Wp_sim (by decide +kernel : decode (cd 197) 993 = .ok (.iconst 0, 1)) rfl rfl
  · intro d a L M Q; exact q_zret (by decide +kernel : decode (cd 197) 994 = .ok (.ireturn , 1)) (by decide +kernel)
  · intro d v0 x L M Q; exact Wp_sim (by decide +kernel : decode (cd 197) 995 = .ok (.aload_n 1, 1)) rfl rfl
  · intro d a x L M Q; exact Wp_sim (by decide +kernel : decode (cd 197) 996 = .ok (.aload_n 0, 1)) rfl rfl
  · intro d a b v0 v1 v2 x L M Q; exact Wp_sim (by decide +kernel : decode (cd 197) 997 = .ok (.iload_n 3, 1)) rfl rfl
  · intro d a b c L M Q; exact Wp_sim (by decide +kernel : decode (cd 197) 998 = .ok (.iconst 1, 1)) rfl rfl
  · intro d a b c d2 L M Q; exact Wp_sim (by decide +kernel : decode (cd 197) 999 = .ok (.iadd , 1)) rfl rfl
  · intro d a b c L M Q; exact q_ald (by decide +kernel : decode (cd 197) 1000 = .ok (.iaload , 1))
  · intro d a b L M Q; exact q_invV (pz := 828) (n := 1) (c := 11) (m := 3) (k := b) (As := [.int a]) (rest := []) (by decide +kernel : decode (cd 197) 1001 = .ok (.invokevirtual 142, 3)) (by decide +kernel) (by decide +kernel) rfl rfl (Nat.le_of_ble_eq_true rfl) (Nat.le_of_ble_eq_true rfl) rfl
  · intro d a v0 v1 x L M Q; exact Wp_sim (by decide +kernel : decode (cd 197) 1004 = .ok (.aload_n 2, 1)) rfl rfl
  · intro d a b x L M Q; exact Wp_sim (by decide +kernel : decode (cd 197) 1005 = .ok (.aload_n 0, 1)) rfl rfl
  · intro d a b c v0 v1 v2 x L M Q; exact Wp_sim (by decide +kernel : decode (cd 197) 1006 = .ok (.iload_n 3, 1)) rfl rfl
  · intro d a b c d2 L M Q; exact Wp_sim (by decide +kernel : decode (cd 197) 1007 = .ok (.iconst 1, 1)) rfl rfl
  · intro d a b c d2 e L M Q; exact Wp_sim (by decide +kernel : decode (cd 197) 1008 = .ok (.iadd , 1)) rfl rfl
  · intro d a b c d2 L M Q; exact q_ald (by decide +kernel : decode (cd 197) 1009 = .ok (.iaload , 1))
  · intro d a b c L M Q; exact q_invV (pz := 1277) (n := 1) (c := 12) (m := 2) (k := b) (As := [.int a]) (rest := [.int c]) (by decide +kernel : decode (cd 197) 1010 = .ok (.invokevirtual 145, 3)) (by decide +kernel) (by decide +kernel) rfl rfl (Nat.le_of_ble_eq_true rfl) (Nat.le_of_ble_eq_true rfl) rfl
  · intro d a b L M Q; exact q_ieq (by decide +kernel : decode (cd 197) 1013 = .ok (.if_icmp .eq 5, 3)) (by decide)
  · intro d L M Q; exact Wp_sim (by decide +kernel : decode (cd 197) 1016 = .ok (.iconst 0, 1)) rfl rfl
  · intro d a L M Q; exact q_zret (by decide +kernel : decode (cd 197) 1017 = .ok (.ireturn , 1)) (by decide +kernel)
  · intro d v0 v1 v2 x L M Q; exact Wp_sim (by decide +kernel : decode (cd 197) 1018 = .ok (.iinc 3 4, 3)) rfl rfl
set_option maxRecDepth 10000 in
theorem e197_11 : (∀ (d : Nat) (L : List Value) (M : Mem) (Q : Option Value → Mem → Prop), Wp d 197 1021 L [] M Q ↔ Wp d 197 18 L [] M Q) ∧
    (∀ (d : Nat) (L : List Value) (M : Mem) (Q : Option Value → Mem → Prop), Wp d 197 1024 L [] M Q ↔ Wp d 197 1025 L [.int 1] M Q) ∧
    (∀ (d : Nat) (a : Int32) (L : List Value) (M : Mem) (Q : Option Value → Mem → Prop), Wp d 197 1025 L [.int a] M Q ↔ ((a = 0 ∨ a = 1) ∧ Q (some (.int a)) M)) := by
  refine ⟨?_, ?_, ?_⟩
  · intro d L M Q; exact q_goto (by decide +kernel : decode (cd 197) 1021 = .ok (.goto (-1003), 3)) (by decide)
  · intro d L M Q; exact Wp_sim (by decide +kernel : decode (cd 197) 1024 = .ok (.iconst 1, 1)) rfl rfl
  · intro d a L M Q; exact q_zret (by decide +kernel : decode (cd 197) 1025 = .ok (.ireturn , 1)) (by decide +kernel)
theorem h197_18 : (∀ (d : Nat) (v0 : Value) (v1 : Value) (v2 : Value) (x : Int32) (L : List Value) (M : Mem) (Q : Option Value → Mem → Prop), Wp d 197 18 (v0 :: v1 :: v2 :: .int x :: L) [] M Q ↔ Wp d 197 19 (v0 :: v1 :: v2 :: .int x :: L) [.int x] M Q) := by
  intro d v0 v1 v2 x L M Q; exact Wp_sim (by decide +kernel : decode (cd 197) 18 = .ok (.iload_n 3, 1)) rfl rfl
