/-! part 03: the abstract machine over the world's rows of ints; what it says of a run (Wp) -/
abbrev Mem : Type := Nat → Nat → Int32
def up2 (M : Mem) (k j : Nat) (v : Int32) : Mem := fun a => if a = k then upd (M k) j v else M a
def upr (M : Mem) (k : Nat) (f : Nat → Int32) : Mem := fun a => if a = k then f else M a
def lnm (M : Mem) (k : Nat) : Nat := if k = 63 then (M 64 0).toNatClampNeg else ln0 k
def clr : Value → Value
  | .long _ => .null
  | .double _ => .null
  | v => v
def lset : List Value → Nat → Value → List Value
  | [], _, _ => []
  | _ :: t, 0, v => v :: t
  | a :: t, i + 1, v => (if i = 0 then clr a else a) :: lset t i v
def lset2 (L : List Value) (i : Nat) (v : Value) : List Value := (lset L i v).set (i + 1) .null
abbrev Nx : Type := Nat × List Value × List Value × Mem
def ldI (pc i : Nat) (L st : List Value) (M : Mem) : Option Nx := match L[i]? with
  | some (.int v) => some (pc, L, .int v :: st, M)
  | _ => none
def ldA (pc i : Nat) (L st : List Value) (M : Mem) : Option Nx := match L[i]? with
  | some (.ref v) => some (pc, L, .ref v :: st, M)
  | _ => none
def ldL (pc i : Nat) (L st : List Value) (M : Mem) : Option Nx := match L[i]? with
  | some (.long v) => some (pc, L, .long v :: st, M)
  | _ => none
def stI (pc i : Nat) (L st : List Value) (M : Mem) : Option Nx := match st with
  | .int v :: r => if i < L.length then some (pc, lset L i (.int v), r, M) else none
  | _ => none
def stA (pc i : Nat) (L st : List Value) (M : Mem) : Option Nx := match st with
  | .ref v :: r => if i < L.length then some (pc, lset L i (.ref v), r, M) else none
  | _ => none
def stL (pc i : Nat) (L st : List Value) (M : Mem) : Option Nx := match st with
  | .long v :: r => if i + 1 < L.length then some (pc, lset2 L i (.long v), r, M) else none
  | _ => none
def jmp (pc : Nat) (off : Int) (L st : List Value) (M : Mem) : Option Nx := if 0 ≤ (pc : Int) + off then some (((pc : Int) + off).toNat, L, st, M) else none
def br (pc : Nat) (off : Int) (b : Bool) (L st : List Value) (M : Mem) : Option Nx := if 0 ≤ (pc : Int) + off then some (if b = true then ((pc : Int) + off).toNat else pc + 3, L, st, M) else none
def ccI (c : Jvm.ClassFile.Cond) (x y : Int32) : Bool := match c with
  | .eq => decide (x = y)
  | .ne => decide (¬ x = y)
  | .lt => decide (x < y)
  | .ge => decide (y ≤ x)
  | .gt => decide (y < x)
  | .le => decide (x ≤ y)
def bin (pc : Nat) (L st : List Value) (M : Mem) (f : Int32 → Int32 → Int32) : Option Nx := match st with
  | .int b :: .int a :: r => some (pc + 1, L, .int (f a b) :: r, M)
  | _ => none
def binL (pc : Nat) (L st : List Value) (M : Mem) (f : Int64 → Int64 → Int64) : Option Nx := match st with
  | .long b :: .long a :: r => some (pc + 1, L, .long (f a b) :: r, M)
  | _ => none
def getF (y pc idx : Nat) (L st : List Value) (M : Mem) : Option Nx := match st with
  | .ref k :: r => match lk fI (mc y) idx with
    | some q => if k < nC ∧ kd k = q.1 then
        some (pc + 3, L, (match fk q.1 q.2.1 with | 0 => .int (M k q.2.1) | 1 => .int (M k q.2.1) | 2 => .long (M k q.2.1).toInt64 | _ => .ref (rt k q.2.1)) :: r, M) else none
    | none => none
  | _ => none
def putF (y pc idx : Nat) (L st : List Value) (M : Mem) : Option Nx := match st with
  | .int v :: .ref k :: r => match lk fI (mc y) idx with
    | some q => if (k < nC ∧ kd k = q.1) ∧ (fk q.1 q.2.1 = 0 ∨ (fk q.1 q.2.1 = 1 ∧ (v = 0 ∨ v = 1))) then some (pc + 3, L, r, up2 M k q.2.1 v) else none
    | none => none
  | .long v :: .ref k :: r => match lk fI (mc y) idx with
    | some q => if (k < nC ∧ kd k = q.1) ∧ (fk q.1 q.2.1 = 2 ∧ v.toInt32.toInt64 = v) then some (pc + 3, L, r, up2 M k q.2.1 v.toInt32) else none
    | none => none
  | _ => none
/-- the static rows: 60, 61, 62 by their links in Reader -/
def stN (y idx : Nat) : Option Nat := if mc y = 8 then (if idx = 77 then some 60 else if idx = 80 then some 61 else if idx = 83 then some 62 else none) else none
/-- an index in a row: as the kit says it, decidable -/
def inr (i : Int32) (n : Nat) : Prop := ¬ i < 0 ∧ i.toNatClampNeg < n
theorem inr_in {i : Int32} {n : Nat} (h : inr i n) : vp_in i n := fun q => q.elim h.1 (fun z => absurd h.2 (Nat.not_lt.mpr z))
def inrB (i : Int32) (n : Nat) : Bool := decide (¬ i < 0) && decide (i.toNatClampNeg < n)
theorem inrB_iff {i : Int32} {n : Nat} : inrB i n = true ↔ inr i n := by simp [inrB, inr]
def ldE (pc : Nat) (L st : List Value) (M : Mem) : Option Nx := match st with
  | .int i :: .ref k :: r => if ((k < nC ∧ kd k = 13) ∨ kd k = 15) ∧ inrB i (lnm M k) = true then some (pc + 1, L, .int (M k i.toNatClampNeg) :: r, M) else none
  | _ => none
def ldZ (pc : Nat) (L st : List Value) (M : Mem) : Option Nx := match st with
  | .int i :: .ref k :: r => if (k < nC ∧ kd k = 14) ∧ inrB i (lnm M k) = true then some (pc + 1, L, .int (M k i.toNatClampNeg) :: r, M) else none
  | _ => none
def stE (pc : Nat) (L st : List Value) (M : Mem) : Option Nx := match st with
  | .int v :: .int i :: .ref k :: r => if (k < nC ∧ kd k = 13) ∧ inrB i (lnm M k) = true then some (pc + 1, L, r, up2 M k i.toNatClampNeg v) else none
  | _ => none
def stZ (pc : Nat) (L st : List Value) (M : Mem) : Option Nx := match st with
  | .int v :: .int i :: .ref k :: r => if ((k < nC ∧ kd k = 14) ∧ (v = 0 ∨ v = 1)) ∧ inrB i (lnm M k) = true then some (pc + 1, L, r, up2 M k i.toNatClampNeg v) else none
  | _ => none
def alen (pc : Nat) (L st : List Value) (M : Mem) : Option Nx := match st with
  | .ref k :: r => if (k < nC ∧ (kd k = 13 ∨ kd k = 14)) ∨ kd k = 15 then some (pc + 1, L, .int (Int32.ofNat (lnm M k)) :: r, M) else none
  | _ => none
/-- Math's three, arraycopy -/
def maF (d y pc idx : Nat) (L st : List Value) (M : Mem) : Option Nx := match d with
  | 0 => none
  | _ + 1 => match lk xI (mc y) idx with
    | some q => (match q.1, st with
      | 0, .int b :: .int a :: r => if (r.map fun v => v.category).sum ≤ 8 then some (pc + 3, L, .int (if a < b then b else a) :: r, M) else none
      | 1, .int b :: .int a :: r => if (r.map fun v => v.category).sum ≤ 8 then some (pc + 3, L, .int (if b < a then b else a) :: r, M) else none
      | 2, .int a :: r => if (r.map fun v => v.category).sum ≤ 8 then some (pc + 3, L, .int (if 0 ≤ a then a else 0 - a) :: r, M) else none
      | _, _ => none)
    | none => match lk aI (mc y) idx, st with
      | some _, .int n :: .int dp :: .ref kt :: .int sp :: .ref ks :: r => if ((r.map fun v => v.category).sum ≤ 8 ∧ (ks < nC ∧ kd ks = 13) ∧ (kt < nC ∧ kd kt = 13)) ∧ ((¬ sp < 0 ∧ ¬ dp < 0 ∧ ¬ n < 0) ∧ sp.toNatClampNeg + n.toNatClampNeg ≤ ln0 ks ∧ dp.toNatClampNeg + n.toNatClampNeg ≤ ln0 kt)
          then some (pc + 3, L, r, upr M kt (va_cpy (M ks) (M kt) sp.toNatClampNeg dp.toNatClampNeg n.toNatClampNeg)) else none
      | _, _ => none
def tsw (lo hi dflt : Int) (offs : Array Int) (x : Int32) : Int := if x.toInt < lo ∨ hi < x.toInt then dflt else offs.getD (x.toInt - lo).toNat dflt
def sim (d y pc len : Nat) (i : Instr) (L st : List Value) (M : Mem) : Option Nx := match i with
  | .iconst n => some (pc + 1, L, .int (Int32.ofInt n) :: st, M)
  | .bipush n => some (pc + 2, L, .int (Int8.ofInt n).toInt32 :: st, M)
  | .sipush n => some (pc + 3, L, .int (Int16.ofInt n).toInt32 :: st, M)
  | .lconst n => some (pc + 1, L, .long (Int64.ofNat n.val) :: st, M)
  | .ldc idx => match lk kI (mc y) idx with
    | some q => some (pc + 2, L, .int q.1 :: st, M)
    | none => none
  | .ldc_w idx => match lk kI (mc y) idx with
    | some q => some (pc + 3, L, .int q.1 :: st, M)
    | none => none
  | .ldc2_w idx => match lk kJ (mc y) idx with
    | some q => some (pc + 3, L, .long q.1 :: st, M)
    | none => none
  | .iload_n k => ldI (pc + 1) k.val L st M
  | .iload k => ldI (pc + 2) k L st M
  | .aload_n k => ldA (pc + 1) k.val L st M
  | .lload_n k => ldL (pc + 1) k.val L st M
  | .lload k => ldL (pc + 2) k L st M
  | .istore_n k => stI (pc + 1) k.val L st M
  | .istore k => stI (pc + 2) k L st M
  | .astore_n k => stA (pc + 1) k.val L st M
  | .lstore_n k => stL (pc + 1) k.val L st M
  | .iinc k n => match L[k]? with
    | some (.int v) => some (pc + 3, lset L k (.int (v + Int32.ofInt n)), st, M)
    | _ => none
  | .iadd => bin pc L st M (fun a b => a + b)
  | .isub => bin pc L st M (fun a b => a - b)
  | .imul => bin pc L st M (fun a b => a * b)
  | .iand => bin pc L st M (fun a b => a &&& b)
  | .ior => bin pc L st M (fun a b => a ||| b)
  | .ixor => bin pc L st M (fun a b => a ^^^ b)
  | .ishl => bin pc L st M (fun a b => a <<< (b &&& 31))
  | .ishr => bin pc L st M (fun a b => a >>> (b &&& 31))
  | .iushr => bin pc L st M (fun a b => (a.toUInt32 >>> (b.toUInt32 &&& Int32.toUInt32 31)).toInt32)
  | .idiv => match st with
    | .int b :: .int a :: r => if ¬ b = 0 then some (pc + 1, L, .int (a / b) :: r, M) else none
    | _ => none
  | .irem => match st with
    | .int b :: .int a :: r => if ¬ b = 0 then some (pc + 1, L, .int (a - a / b * b) :: r, M) else none
    | _ => none
  | .ineg => match st with
    | .int a :: r => some (pc + 1, L, .int (-a) :: r, M)
    | _ => none
  | .ladd => binL pc L st M (fun a b => a + b)
  | .lmul => binL pc L st M (fun a b => a * b)
  | .land => binL pc L st M (fun a b => a &&& b)
  | .ldiv => match st with
    | .long b :: .long a :: r => if ¬ b = 0 then some (pc + 1, L, .long (a / b) :: r, M) else none
    | _ => none
  | .lrem => match st with
    | .long b :: .long a :: r => if ¬ b = 0 then some (pc + 1, L, .long (a - a / b * b) :: r, M) else none
    | _ => none
  | .lcmp => match st with
    | .long b :: .long a :: r => some (pc + 1, L, .int (lg_cmp a b) :: r, M)
    | _ => none
  | .i2l => match st with
    | .int a :: r => some (pc + 1, L, .long a.toInt64 :: r, M)
    | _ => none
  | .l2i => match st with
    | .long a :: r => some (pc + 1, L, .int a.toInt32 :: r, M)
    | _ => none
  | .dup => match st with
    | .int a :: r => some (pc + 1, L, .int a :: .int a :: r, M)
    | .ref a :: r => some (pc + 1, L, .ref a :: .ref a :: r, M)
    | _ => none
  | .dup2 => match st with
    | .int a :: .ref b :: r => some (pc + 1, L, .int a :: .ref b :: .int a :: .ref b :: r, M)
    | _ => none
  | .pop => match st with
    | .int _ :: r => some (pc + 1, L, r, M)
    | _ => none
  | .goto off => jmp pc off L st M
  | .if_icmp c off => match st with
    | .int b :: .int a :: r => br pc off (ccI c a b) L r M
    | _ => none
  | .ifCond c off => match st with
    | .int a :: r => br pc off (ccI c a 0) L r M
    | _ => none
  | .tableswitch dflt lo hi offs => match st with
    | .int x :: r => if offs.size = (hi - lo + 1).toNat then jmp pc (tsw lo hi dflt offs x) L r M else none
    | _ => none
  | .lookupswitch dflt ps => match st with
    | .int x :: r => if (ps.toList.zip (ps.toList.drop 1)).all (fun (a, next) => a.1 < next.1) = true then jmp pc (Op.lookupswitch.offset ps.toList dflt x.toInt) L r M else none
    | _ => none
  | .getfield idx => getF y pc idx L st M
  | .putfield idx => putF y pc idx L st M
  | .getstatic idx => match stN y idx with
    | some t => some (pc + 3, L, .ref t :: st, M)
    | none => none
  | .iaload => ldE pc L st M
  | .baload => ldZ pc L st M
  | .iastore => stE pc L st M
  | .bastore => stZ pc L st M
  | .arraylength => alen pc L st M
  | .invokestatic idx => maF d y pc idx L st M
  | _ => none
def lenOK (i : Instr) (len : Nat) : Bool := match i with
  | .bipush _ | .ldc _ | .iload _ | .lload _ | .istore _ => len == 2
  | .sipush _ | .ldc_w _ | .ldc2_w _ | .iinc _ _ | .goto _ | .if_icmp _ _ | .ifCond _ _ | .getfield _ | .putfield _ | .getstatic _ | .invokestatic _ | .invokevirtual _ => len == 3
  | .tableswitch _ _ _ _ | .lookupswitch _ _ => true
  | _ => len == 1
def fin (y : Nat) (i : Instr) (st : List Value) : Option (Option Value) := match i with
  | .ireturn => match st with
    | [.int v] => if rty y = some .int ∨ (rty y = some .boolean ∧ (v = 0 ∨ v = 1)) then some (some (.int v)) else none
    | _ => none
  | .return_ => match st with
    | [] => if rty y = none then some none else none
    | _ => none
  | .areturn => match st with
    | [.ref k] => if rty y = some (.object "PalaceYard$Image") then some (some (.ref k)) else none
    | _ => none
  | _ => none
def exA (As : List Value) : List Value := As.flatMap (fun v => if v.category = 2 then [v, .null] else [v])
def ent (z : Nat) (As : List Value) : List Value := exA As ++ List.replicate (nl z - (exA As).length) .null
def cal (y : Nat) (i : Instr) (st : List Value) : Option (Nat × List Value × List Value) := match i with
  | .invokevirtual idx => match lk cI (mc y) idx with
    | some q => match st.drop (np q.1) with
      | .ref k :: r => if (sta q.1 = false ∧ k < nC ∧ kd k = mc q.1) ∧ (np q.1 ≤ st.length ∧ (r.map fun v => v.category).sum ≤ 8 ∧ (exA (.ref k :: (st.take (np q.1)).reverse)).length ≤ nl q.1) then some (q.1, .ref k :: (st.take (np q.1)).reverse, r) else none
      | _ => none
    | none => none
  | .invokestatic idx => match lk cI (mc y) idx with
    | some q => if sta q.1 = true ∧ (np q.1 ≤ st.length ∧ ((st.drop (np q.1)).map fun v => v.category).sum ≤ 8 ∧ (exA (st.take (np q.1)).reverse).length ≤ nl q.1) then some (q.1, (st.take (np q.1)).reverse, st.drop (np q.1)) else none
    | none => none
  | _ => none
def run : Nat → Nat → Nat → Nat → List Value → List Value → Mem → Option (Option Value × Mem)
  | 0, _, _, _, _, _, _ => none
  | n + 1, d, y, pc, L, st, M => match decode (cd y) pc with
    | .ok (i, len) => if lenOK i len = true then
        match sim d y pc len i L st M with
        | some q => run n d y q.1 q.2.1 q.2.2.1 q.2.2.2
        | none => match fin y i st with
          | some r => some (r, M)
          | none => match cal y i st, d with
            | some q, d' + 1 => match run n d' q.1 0 (ent q.1 q.2.1) [] M with
              | some x => run n (d' + 1) y (pc + 3) L (x.1.toList ++ q.2.2) x.2
              | none => none
            | _, _ => none
      else none
    | .error _ => none
theorem run_mono : ∀ (n d y pc : Nat) (L st : List Value) (M : Mem) (x : Option Value × Mem), run n d y pc L st M = some x → run (n + 1) d y pc L st M = some x
  | 0, _, _, _, _, _, _, _, h => by cases h
  | n + 1, d, y, pc, L, st, M, x, h => by
    rw [run] at h
    rw [run]
    cases hd : decode (cd y) pc with
    | error e => rw [hd] at h; cases h
    | ok q =>
      obtain ⟨i, len⟩ := q
      rw [hd] at h
      simp only at h ⊢
      by_cases hl : lenOK i len = true
      · rw [if_pos hl] at h ⊢
        cases hs : sim d y pc len i L st M with
        | some q => rw [hs] at h; simp only at h ⊢; exact run_mono n _ _ _ _ _ _ _ h
        | none =>
          rw [hs] at h
          simp only at h ⊢
          cases hf : fin y i st with
          | some r => rw [hf] at h; exact h
          | none =>
            rw [hf] at h
            simp only at h ⊢
            cases hc : cal y i st with
            | none => rw [hc] at h; cases h
            | some q =>
              rw [hc] at h
              cases d with
              | zero => cases h
              | succ d' =>
                simp only at h ⊢
                cases hr : run n d' q.1 0 (ent q.1 q.2.1) [] M with
                | none => rw [hr] at h; cases h
                | some z =>
                  rw [hr] at h
                  simp only at h
                  rw [run_mono n _ _ _ _ _ _ _ hr]
                  exact run_mono n _ _ _ _ _ _ _ h
      · rw [if_neg hl] at h; cases h
theorem run_le {n n' d y pc : Nat} {L st : List Value} {M : Mem} {x : Option Value × Mem} (hn : n ≤ n') (h : run n d y pc L st M = some x) : run n' d y pc L st M = some x := by
  induction hn with
  | refl => exact h
  | step _ ih => exact run_mono _ _ _ _ _ _ _ _ ih
/-- the run from here ends, and Q holds of its answer and of the rows behind it -/
def Wp (d y pc : Nat) (L st : List Value) (M : Mem) (Q : Option Value → Mem → Prop) : Prop := ∃ (n : Nat) (x : Option Value × Mem), run n d y pc L st M = some x ∧ Q x.1 x.2
theorem Wp_sim {d y pc len : Nat} {i : Instr} {L st : List Value} {M : Mem} {Q : Option Value → Mem → Prop} {pc' : Nat} {L' st' : List Value} {M' : Mem} (hd : decode (cd y) pc = .ok (i, len)) (hl : lenOK i len = true) (hs : sim d y pc len i L st M = some (pc', L', st', M')) : Wp d y pc L st M Q ↔ Wp d y pc' L' st' M' Q := by
  constructor
  · rintro ⟨n, x, h, hQ⟩
    cases n with
    | zero => cases h
    | succ n =>
      rw [run, hd] at h
      simp only [if_pos hl, hs] at h
      exact ⟨n, x, h, hQ⟩
  · rintro ⟨n, x, h, hQ⟩
    refine ⟨n + 1, x, ?_, hQ⟩
    rw [run, hd]
    simp only [if_pos hl, hs]
    exact h
theorem Wp_no {d y pc len : Nat} {i : Instr} {L st : List Value} {M : Mem} {Q : Option Value → Mem → Prop} (hd : decode (cd y) pc = .ok (i, len)) (hs : sim d y pc len i L st M = none) (hf : fin y i st = none) (hc : cal y i st = none) : ¬ Wp d y pc L st M Q := by
  rintro ⟨n, x, h, hQ⟩
  cases n with
  | zero => cases h
  | succ n =>
    rw [run, hd] at h
    simp only [hs, hf, hc] at h
    split at h <;> cases h
/-- a step under a condition -/
theorem Wp_if {d y pc len : Nat} {i : Instr} {L st : List Value} {M : Mem} {Q : Option Value → Mem → Prop} {pc' : Nat} {L' st' : List Value} {M' : Mem} {c : Prop} [Decidable c] (hd : decode (cd y) pc = .ok (i, len)) (hl : lenOK i len = true) (hf : fin y i st = none) (hc : cal y i st = none) (hs : sim d y pc len i L st M = if c then some (pc', L', st', M') else none) : Wp d y pc L st M Q ↔ c ∧ Wp d y pc' L' st' M' Q := by
  by_cases h : c
  · rw [if_pos h] at hs
    rw [Wp_sim hd hl hs]
    exact ⟨fun q => ⟨h, q⟩, fun q => q.2⟩
  · rw [if_neg h] at hs
    exact ⟨fun q => absurd q (Wp_no hd hs hf hc), fun q => absurd q.1 h⟩
theorem Wp_fin {d y pc len : Nat} {i : Instr} {L st : List Value} {M : Mem} {Q : Option Value → Mem → Prop} {r : Option Value} (hd : decode (cd y) pc = .ok (i, len)) (hl : lenOK i len = true) (hs : sim d y pc len i L st M = none) (hf : fin y i st = some r) : Wp d y pc L st M Q ↔ Q r M := by
  constructor
  · rintro ⟨n, x, h, hQ⟩
    cases n with
    | zero => cases h
    | succ n =>
      rw [run, hd] at h
      simp only [if_pos hl, hs, hf] at h
      cases h
      exact hQ
  · intro hQ
    refine ⟨1, (r, M), ?_, hQ⟩
    rw [run, hd]
    simp only [if_pos hl, hs, hf]
theorem Wp_cal {d y pc len : Nat} {i : Instr} {L st : List Value} {M : Mem} {Q : Option Value → Mem → Prop} {z : Nat} {As rest : List Value} (hd : decode (cd y) pc = .ok (i, len)) (hl : lenOK i len = true) (hs : sim (d + 1) y pc len i L st M = none) (hf : fin y i st = none) (hc : cal y i st = some (z, As, rest)) :
    Wp (d + 1) y pc L st M Q ↔ Wp d z 0 (ent z As) [] M (fun r M' => Wp (d + 1) y (pc + 3) L (r.toList ++ rest) M' Q) := by
  constructor
  · rintro ⟨n, x, h, hQ⟩
    cases n with
    | zero => cases h
    | succ n =>
      rw [run, hd] at h
      simp only [if_pos hl, hs, hf, hc] at h
      cases hr : run n d z 0 (ent z As) [] M with
      | none => rw [hr] at h; cases h
      | some w =>
        rw [hr] at h
        exact ⟨n, w, hr, n, x, h, hQ⟩
  · rintro ⟨n, w, hr, n2, x, h, hQ⟩
    refine ⟨max n n2 + 1, x, ?_, hQ⟩
    rw [run, hd]
    simp only [if_pos hl, hs, hf, hc]
    rw [run_le (Nat.le_max_left n n2) hr]
    simp only
    exact run_le (Nat.le_max_right n n2) h
/-- two runs from one place are one -/
theorem Wp_det {d y pc : Nat} {L st : List Value} {M : Mem} {r : Option Value} {M' : Mem} (h : Wp d y pc L st M (fun a b => a = r ∧ b = M')) (Q : Option Value → Mem → Prop) : Wp d y pc L st M Q ↔ Q r M' := by
  obtain ⟨n, x, hr, h1, h2⟩ := h
  subst h1; subst h2
  constructor
  · rintro ⟨n2, x2, hr2, hQ⟩
    have a := run_le (Nat.le_max_left n n2) hr
    have b := run_le (Nat.le_max_right n n2) hr2
    rw [a] at b
    cases b
    exact hQ
  · intro hQ
    exact ⟨n, x, hr, hQ⟩
theorem Wp_mono {d y pc : Nat} {L st : List Value} {M : Mem} {Q Q' : Option Value → Mem → Prop} (h : Wp d y pc L st M Q) (hQ : ∀ r M', Q r M' → Q' r M') : Wp d y pc L st M Q' := by
  obtain ⟨n, x, hr, hq⟩ := h
  exact ⟨n, x, hr, hQ _ _ hq⟩
theorem Wp_ite {d y a b : Nat} {L st : List Value} {M : Mem} {Q : Option Value → Mem → Prop} {c : Prop} [Decidable c] : Wp d y (if c then a else b) L st M Q ↔ if c then Wp d y a L st M Q else Wp d y b L st M Q := by
  split <;> exact Iff.rfl
