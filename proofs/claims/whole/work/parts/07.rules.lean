/-! part 07: what the abstract machine does at an instruction, as equivalences to rewrite with -/
def isK (k c : Nat) : Bool := decide (k < nC) && decide (kd k = c)
theorem isK_iff {k c : Nat} : isK k c = true ↔ k < nC ∧ kd k = c := by simp [isK]
/-- a row of ints that can be read -/
def isR (k : Nat) : Bool := (decide (k < nC) && decide (kd k = 13)) || decide (kd k = 15)
theorem isR_iff {k : Nat} : isR k = true ↔ (k < nC ∧ kd k = 13) ∨ kd k = 15 := by simp [isR]
def bI (c : Prop) [Decidable c] : Int32 := if c then 1 else 0
theorem bI_0 (c : Prop) [Decidable c] : bI c = 0 ↔ ¬ c := by
  unfold bI
  split
  next h => exact ⟨fun z => absurd z (by decide), fun z => absurd h z⟩
  next h => exact ⟨fun _ => h, fun _ => rfl⟩
theorem bI_1 (c : Prop) [Decidable c] : bI c = 1 ↔ c := by
  unfold bI
  split
  next h => exact ⟨fun _ => h, fun _ => rfl⟩
  next h => exact ⟨fun z => absurd z (by decide), fun z => absurd z h⟩
theorem bI_or (c : Prop) [Decidable c] : (bI c = 0 ∨ bI c = 1) ↔ True := by
  rw [bI_0, bI_1]
  by_cases h : c
  · exact ⟨fun _ => trivial, fun _ => Or.inr h⟩
  · exact ⟨fun _ => trivial, fun _ => Or.inl h⟩
theorem i_nlt (a b : Int32) : ¬ a < b ↔ b ≤ a := Int32.not_lt
theorem i_nle (a b : Int32) : ¬ a ≤ b ↔ b < a := Int32.not_le
/-- Math's max, min, abs -/
def mx (x y : Int32) : Int32 := if x < y then y else x
def mn (x y : Int32) : Int32 := if y < x then y else x
def ab (x : Int32) : Int32 := if 0 ≤ x then x else 0 - x
section RULES
variable {d y pc idx : Nat} {L st : List Value} {M : Mem} {Q : Option Value → Mem → Prop}
theorem q_ldc {v : Int32} {p : Nat} (hd : decode (cd y) pc = .ok (.ldc idx, 2)) (hk : lk kI (mc y) idx = some (v, p)) : Wp d y pc L st M Q ↔ Wp d y (pc + 2) L (.int v :: st) M Q := Wp_sim hd rfl (by simp only [sim, hk])
theorem q_ldcw {v : Int32} {p : Nat} (hd : decode (cd y) pc = .ok (.ldc_w idx, 3)) (hk : lk kI (mc y) idx = some (v, p)) : Wp d y pc L st M Q ↔ Wp d y (pc + 3) L (.int v :: st) M Q := Wp_sim hd rfl (by simp only [sim, hk])
theorem q_ldc2 {v : Int64} {p : Nat} (hd : decode (cd y) pc = .ok (.ldc2_w idx, 3)) (hk : lk kJ (mc y) idx = some (v, p)) : Wp d y pc L st M Q ↔ Wp d y (pc + 3) L (.long v :: st) M Q := Wp_sim hd rfl (by simp only [sim, hk])
theorem q_goto {off : Int} {t : Nat} (hd : decode (cd y) pc = .ok (.goto off, 3)) (ht : (pc : Int) + off = (t : Int)) : Wp d y pc L st M Q ↔ Wp d y t L st M Q := Wp_sim hd rfl (by simp only [sim, jmp, ht]; rw [if_pos (by omega)]; rfl)
theorem q_br {co : Jvm.ClassFile.Cond} {off : Int} {t : Nat} {a b : Int32} (hd : decode (cd y) pc = .ok (.if_icmp co off, 3)) (ht : (pc : Int) + off = (t : Int)) : Wp d y pc L (.int b :: .int a :: st) M Q ↔ if ccI co a b = true then Wp d y t L st M Q else Wp d y (pc + 3) L st M Q := by
  rw [Wp_sim (pc' := if ccI co a b = true then t else pc + 3) hd rfl (by simp only [sim, br, ht]; rw [if_pos (by omega)]; rfl), Wp_ite]
theorem q_bz {co : Jvm.ClassFile.Cond} {off : Int} {t : Nat} {a : Int32} (hd : decode (cd y) pc = .ok (.ifCond co off, 3)) (ht : (pc : Int) + off = (t : Int)) : Wp d y pc L (.int a :: st) M Q ↔ if ccI co a 0 = true then Wp d y t L st M Q else Wp d y (pc + 3) L st M Q := by
  rw [Wp_sim (pc' := if ccI co a 0 = true then t else pc + 3) hd rfl (by simp only [sim, br, ht]; rw [if_pos (by omega)]; rfl), Wp_ite]
theorem ite_flip {c e : Prop} [Decidable c] [Decidable e] {A B : Prop} (h : c ↔ ¬ e) : (if c then A else B) ↔ if e then B else A := by
  by_cases he : e
  · rw [if_neg (fun z => h.mp z he), if_pos he]
  · rw [if_pos (h.mpr he), if_neg he]
theorem ite_same {c e : Prop} [Decidable c] [Decidable e] {A B : Prop} (h : c ↔ e) : (if c then A else B) ↔ if e then A else B := by
  by_cases he : e
  · rw [if_pos (h.mpr he), if_pos he]
  · rw [if_neg (fun z => he (h.mp z)), if_neg he]
theorem q_ieq {off : Int} {t : Nat} {a b : Int32} (hd : decode (cd y) pc = .ok (.if_icmp .eq off, 3)) (ht : (pc : Int) + off = (t : Int)) : Wp d y pc L (.int b :: .int a :: st) M Q ↔ if a = b then Wp d y t L st M Q else Wp d y (pc + 3) L st M Q := (q_br hd ht).trans (ite_same (by simp [ccI]))
theorem q_ine {off : Int} {t : Nat} {a b : Int32} (hd : decode (cd y) pc = .ok (.if_icmp .ne off, 3)) (ht : (pc : Int) + off = (t : Int)) : Wp d y pc L (.int b :: .int a :: st) M Q ↔ if a = b then Wp d y (pc + 3) L st M Q else Wp d y t L st M Q := (q_br hd ht).trans (ite_flip (by simp [ccI]))
theorem q_ilt {off : Int} {t : Nat} {a b : Int32} (hd : decode (cd y) pc = .ok (.if_icmp .lt off, 3)) (ht : (pc : Int) + off = (t : Int)) : Wp d y pc L (.int b :: .int a :: st) M Q ↔ if a < b then Wp d y t L st M Q else Wp d y (pc + 3) L st M Q := (q_br hd ht).trans (ite_same (by simp [ccI]))
theorem q_ige {off : Int} {t : Nat} {a b : Int32} (hd : decode (cd y) pc = .ok (.if_icmp .ge off, 3)) (ht : (pc : Int) + off = (t : Int)) : Wp d y pc L (.int b :: .int a :: st) M Q ↔ if a < b then Wp d y (pc + 3) L st M Q else Wp d y t L st M Q := (q_br hd ht).trans (ite_flip (by simp [ccI, i_nlt]))
theorem q_igt {off : Int} {t : Nat} {a b : Int32} (hd : decode (cd y) pc = .ok (.if_icmp .gt off, 3)) (ht : (pc : Int) + off = (t : Int)) : Wp d y pc L (.int b :: .int a :: st) M Q ↔ if b < a then Wp d y t L st M Q else Wp d y (pc + 3) L st M Q := (q_br hd ht).trans (ite_same (by simp [ccI]))
theorem q_ile {off : Int} {t : Nat} {a b : Int32} (hd : decode (cd y) pc = .ok (.if_icmp .le off, 3)) (ht : (pc : Int) + off = (t : Int)) : Wp d y pc L (.int b :: .int a :: st) M Q ↔ if b < a then Wp d y (pc + 3) L st M Q else Wp d y t L st M Q := (q_br hd ht).trans (ite_flip (by simp [ccI, i_nlt]))
theorem q_zeq {off : Int} {t : Nat} {a : Int32} (hd : decode (cd y) pc = .ok (.ifCond .eq off, 3)) (ht : (pc : Int) + off = (t : Int)) : Wp d y pc L (.int a :: st) M Q ↔ if a = 0 then Wp d y t L st M Q else Wp d y (pc + 3) L st M Q := (q_bz hd ht).trans (ite_same (by simp [ccI]))
theorem q_zne {off : Int} {t : Nat} {a : Int32} (hd : decode (cd y) pc = .ok (.ifCond .ne off, 3)) (ht : (pc : Int) + off = (t : Int)) : Wp d y pc L (.int a :: st) M Q ↔ if a = 0 then Wp d y (pc + 3) L st M Q else Wp d y t L st M Q := (q_bz hd ht).trans (ite_flip (by simp [ccI]))
theorem q_zlt {off : Int} {t : Nat} {a : Int32} (hd : decode (cd y) pc = .ok (.ifCond .lt off, 3)) (ht : (pc : Int) + off = (t : Int)) : Wp d y pc L (.int a :: st) M Q ↔ if a < 0 then Wp d y t L st M Q else Wp d y (pc + 3) L st M Q := (q_bz hd ht).trans (ite_same (by simp [ccI]))
theorem q_zge {off : Int} {t : Nat} {a : Int32} (hd : decode (cd y) pc = .ok (.ifCond .ge off, 3)) (ht : (pc : Int) + off = (t : Int)) : Wp d y pc L (.int a :: st) M Q ↔ if a < 0 then Wp d y (pc + 3) L st M Q else Wp d y t L st M Q := (q_bz hd ht).trans (ite_flip (by simp [ccI, i_nlt]))
theorem q_zgt {off : Int} {t : Nat} {a : Int32} (hd : decode (cd y) pc = .ok (.ifCond .gt off, 3)) (ht : (pc : Int) + off = (t : Int)) : Wp d y pc L (.int a :: st) M Q ↔ if 0 < a then Wp d y t L st M Q else Wp d y (pc + 3) L st M Q := (q_bz hd ht).trans (ite_same (by simp [ccI]))
theorem q_zle {off : Int} {t : Nat} {a : Int32} (hd : decode (cd y) pc = .ok (.ifCond .le off, 3)) (ht : (pc : Int) + off = (t : Int)) : Wp d y pc L (.int a :: st) M Q ↔ if 0 < a then Wp d y (pc + 3) L st M Q else Wp d y t L st M Q := (q_bz hd ht).trans (ite_flip (by simp [ccI, i_nlt]))
theorem q_tsw {dflt lo hi : Int} {offs : Array Int} {len t : Nat} {x : Int32} (hd : decode (cd y) pc = .ok (.tableswitch dflt lo hi offs, len)) (hz : offs.size = (hi - lo + 1).toNat) (ht : (pc : Int) + tsw lo hi dflt offs x = (t : Int)) : Wp d y pc L (.int x :: st) M Q ↔ Wp d y t L st M Q := Wp_sim hd rfl (by simp only [sim, jmp, ht]; rw [if_pos hz, if_pos (by omega)]; rfl)
theorem tsw_out {lo hi dflt : Int} {offs : Array Int} {x : Int32} (h : x.toInt < lo ∨ hi < x.toInt) : tsw lo hi dflt offs x = dflt := by unfold tsw; rw [if_pos h]
theorem q_lsw {dflt : Int} {ps : Array (Int × Int)} {len t : Nat} {x : Int32} (hd : decode (cd y) pc = .ok (.lookupswitch dflt ps, len)) (hz : (ps.toList.zip (ps.toList.drop 1)).all (fun (a, next) => a.1 < next.1) = true) (ht : (pc : Int) + Op.lookupswitch.offset ps.toList dflt x.toInt = (t : Int)) : Wp d y pc L (.int x :: st) M Q ↔ Wp d y t L st M Q := Wp_sim hd rfl (by simp only [sim, jmp, ht]; rw [if_pos hz, if_pos (by omega)]; rfl)
theorem q_getI {k ci j p : Nat} (hd : decode (cd y) pc = .ok (.getfield idx, 3)) (hf : lk fI (mc y) idx = some (ci, j, p)) (h0 : fk ci j = 0 ∨ fk ci j = 1) : Wp d y pc L (.ref k :: st) M Q ↔ isK k ci = true ∧ Wp d y (pc + 3) L (.int (M k j) :: st) M Q := by
  rw [Wp_if (c := k < nC ∧ kd k = ci) (pc' := pc + 3) (L' := L) (st' := .int (M k j) :: st) (M' := M) hd rfl rfl rfl (by simp only [sim, getF, hf]; rcases h0 with h | h <;> simp only [h]), isK_iff]
theorem q_getJ {k ci j p : Nat} (hd : decode (cd y) pc = .ok (.getfield idx, 3)) (hf : lk fI (mc y) idx = some (ci, j, p)) (h0 : fk ci j = 2) : Wp d y pc L (.ref k :: st) M Q ↔ isK k ci = true ∧ Wp d y (pc + 3) L (.long (M k j).toInt64 :: st) M Q := by
  rw [Wp_if (c := k < nC ∧ kd k = ci) (pc' := pc + 3) (L' := L) (st' := .long (M k j).toInt64 :: st) (M' := M) hd rfl rfl rfl (by simp only [sim, getF, hf, h0]), isK_iff]
theorem q_getR {k ci j p : Nat} (hd : decode (cd y) pc = .ok (.getfield idx, 3)) (hf : lk fI (mc y) idx = some (ci, j, p)) (h0 : fk ci j = 3) : Wp d y pc L (.ref k :: st) M Q ↔ isK k ci = true ∧ Wp d y (pc + 3) L (.ref (rt k j) :: st) M Q := by
  rw [Wp_if (c := k < nC ∧ kd k = ci) (pc' := pc + 3) (L' := L) (st' := .ref (rt k j) :: st) (M' := M) hd rfl rfl rfl (by simp only [sim, getF, hf, h0]), isK_iff]
theorem q_putI {k ci j p : Nat} {v : Int32} (hd : decode (cd y) pc = .ok (.putfield idx, 3)) (hf : lk fI (mc y) idx = some (ci, j, p)) (h0 : fk ci j = 0) : Wp d y pc L (.int v :: .ref k :: st) M Q ↔ isK k ci = true ∧ Wp d y (pc + 3) L st (up2 M k j v) Q := by
  rw [Wp_if (c := (k < nC ∧ kd k = ci) ∧ (fk ci j = 0 ∨ (fk ci j = 1 ∧ (v = 0 ∨ v = 1)))) (pc' := pc + 3) (L' := L) (st' := st) (M' := up2 M k j v) hd rfl rfl rfl (by simp only [sim, putF, hf]), isK_iff, h0]
  simp
theorem q_putZ {k ci j p : Nat} {v : Int32} (hd : decode (cd y) pc = .ok (.putfield idx, 3)) (hf : lk fI (mc y) idx = some (ci, j, p)) (h0 : fk ci j = 1) : Wp d y pc L (.int v :: .ref k :: st) M Q ↔ (isK k ci = true ∧ (v = 0 ∨ v = 1)) ∧ Wp d y (pc + 3) L st (up2 M k j v) Q := by
  rw [Wp_if (c := (k < nC ∧ kd k = ci) ∧ (fk ci j = 0 ∨ (fk ci j = 1 ∧ (v = 0 ∨ v = 1)))) (pc' := pc + 3) (L' := L) (st' := st) (M' := up2 M k j v) hd rfl rfl rfl (by simp only [sim, putF, hf]), isK_iff, h0]
  simp
theorem q_putJ {k ci j p : Nat} {v : Int64} (hd : decode (cd y) pc = .ok (.putfield idx, 3)) (hf : lk fI (mc y) idx = some (ci, j, p)) (h0 : fk ci j = 2) : Wp d y pc L (.long v :: .ref k :: st) M Q ↔ (isK k ci = true ∧ v.toInt32.toInt64 = v) ∧ Wp d y (pc + 3) L st (up2 M k j v.toInt32) Q := by
  rw [Wp_if (c := (k < nC ∧ kd k = ci) ∧ (fk ci j = 2 ∧ v.toInt32.toInt64 = v)) (pc' := pc + 3) (L' := L) (st' := st) (M' := up2 M k j v.toInt32) hd rfl rfl rfl (by simp only [sim, putF, hf]), isK_iff, h0]
  simp
theorem q_gets {t : Nat} (hd : decode (cd y) pc = .ok (.getstatic idx, 3)) (ht : stN y idx = some t) : Wp d y pc L st M Q ↔ Wp d y (pc + 3) L (.ref t :: st) M Q := Wp_sim hd rfl (by simp only [sim, ht])
theorem q_ald {i : Int32} {k : Nat} (hd : decode (cd y) pc = .ok (.iaload, 1)) : Wp d y pc L (.int i :: .ref k :: st) M Q ↔ (isR k = true ∧ inr i (lnm M k)) ∧ Wp d y (pc + 1) L (.int (M k i.toNatClampNeg) :: st) M Q := by
  rw [Wp_if (c := ((k < nC ∧ kd k = 13) ∨ kd k = 15) ∧ inrB i (lnm M k) = true) (pc' := pc + 1) (L' := L) (st' := .int (M k i.toNatClampNeg) :: st) (M' := M) hd rfl rfl rfl (by simp only [sim, ldE]), isR_iff, inrB_iff]
theorem q_zld {i : Int32} {k : Nat} (hd : decode (cd y) pc = .ok (.baload, 1)) : Wp d y pc L (.int i :: .ref k :: st) M Q ↔ (isK k 14 = true ∧ inr i (lnm M k)) ∧ Wp d y (pc + 1) L (.int (M k i.toNatClampNeg) :: st) M Q := by
  rw [Wp_if (c := (k < nC ∧ kd k = 14) ∧ inrB i (lnm M k) = true) (pc' := pc + 1) (L' := L) (st' := .int (M k i.toNatClampNeg) :: st) (M' := M) hd rfl rfl rfl (by simp only [sim, ldZ]), isK_iff, inrB_iff]
theorem q_ast {i v : Int32} {k : Nat} (hd : decode (cd y) pc = .ok (.iastore, 1)) : Wp d y pc L (.int v :: .int i :: .ref k :: st) M Q ↔ (isK k 13 = true ∧ inr i (lnm M k)) ∧ Wp d y (pc + 1) L st (up2 M k i.toNatClampNeg v) Q := by
  rw [Wp_if (c := (k < nC ∧ kd k = 13) ∧ inrB i (lnm M k) = true) (pc' := pc + 1) (L' := L) (st' := st) (M' := up2 M k i.toNatClampNeg v) hd rfl rfl rfl (by simp only [sim, stE]), isK_iff, inrB_iff]
theorem q_zst {i v : Int32} {k : Nat} (hd : decode (cd y) pc = .ok (.bastore, 1)) : Wp d y pc L (.int v :: .int i :: .ref k :: st) M Q ↔ ((isK k 14 = true ∧ (v = 0 ∨ v = 1)) ∧ inr i (lnm M k)) ∧ Wp d y (pc + 1) L st (up2 M k i.toNatClampNeg v) Q := by
  rw [Wp_if (c := ((k < nC ∧ kd k = 14) ∧ (v = 0 ∨ v = 1)) ∧ inrB i (lnm M k) = true) (pc' := pc + 1) (L' := L) (st' := st) (M' := up2 M k i.toNatClampNeg v) hd rfl rfl rfl (by simp only [sim, stZ]), isK_iff, inrB_iff]
theorem q_aln {k : Nat} (hd : decode (cd y) pc = .ok (.arraylength, 1)) : Wp d y pc L (.ref k :: st) M Q ↔ (isR k = true ∨ isK k 14 = true) ∧ Wp d y (pc + 1) L (.int (nI (lnm M k)) :: st) M Q := by
  rw [Wp_if (c := (k < nC ∧ (kd k = 13 ∨ kd k = 14)) ∨ kd k = 15) (pc' := pc + 1) (L' := L) (st' := .int (nI (lnm M k)) :: st) (M' := M) hd rfl rfl rfl (by simp only [sim, alen, nI]), isR_iff, isK_iff]
  constructor
  · rintro ⟨h, q⟩
    refine ⟨?_, q⟩
    rcases h with ⟨a, b | b⟩ | h
    · exact Or.inl (Or.inl ⟨a, b⟩)
    · exact Or.inr ⟨a, b⟩
    · exact Or.inl (Or.inr h)
  · rintro ⟨h, q⟩
    refine ⟨?_, q⟩
    rcases h with (h | h) | h
    · exact Or.inl ⟨h.1, Or.inl h.2⟩
    · exact Or.inr h
    · exact Or.inl ⟨h.1, Or.inr h.2⟩
theorem q_max {a b : Int32} {p : Nat} (hd : decode (cd y) pc = .ok (.invokestatic idx, 3)) (hk : lk xI (mc y) idx = some (0, p)) (hs : (st.map fun v => v.category).sum ≤ 8) : Wp (d + 1) y pc L (.int b :: .int a :: st) M Q ↔ Wp (d + 1) y (pc + 3) L (.int (mx a b) :: st) M Q := Wp_sim hd rfl (by simp only [sim, maF, hk, mx]; rw [if_pos hs])
theorem q_min {a b : Int32} {p : Nat} (hd : decode (cd y) pc = .ok (.invokestatic idx, 3)) (hk : lk xI (mc y) idx = some (1, p)) (hs : (st.map fun v => v.category).sum ≤ 8) : Wp (d + 1) y pc L (.int b :: .int a :: st) M Q ↔ Wp (d + 1) y (pc + 3) L (.int (mn a b) :: st) M Q := Wp_sim hd rfl (by simp only [sim, maF, hk, mn]; rw [if_pos hs])
theorem q_abs {a : Int32} {p : Nat} (hd : decode (cd y) pc = .ok (.invokestatic idx, 3)) (hk : lk xI (mc y) idx = some (2, p)) (hs : (st.map fun v => v.category).sum ≤ 8) : Wp (d + 1) y pc L (.int a :: st) M Q ↔ Wp (d + 1) y (pc + 3) L (.int (ab a) :: st) M Q := Wp_sim hd rfl (by simp only [sim, maF, hk, ab]; rw [if_pos hs])
theorem q_cpy {n dp sp : Int32} {kt ks : Nat} {p : Nat} (hd : decode (cd y) pc = .ok (.invokestatic idx, 3)) (hx : lk xI (mc y) idx = none) (hk : lk aI (mc y) idx = some p) (hc : lk cI (mc y) idx = none) (hs : (st.map fun v => v.category).sum ≤ 8) : Wp (d + 1) y pc L (.int n :: .int dp :: .ref kt :: .int sp :: .ref ks :: st) M Q ↔ ((isK ks 13 = true ∧ isK kt 13 = true) ∧ ((¬ sp < 0 ∧ ¬ dp < 0 ∧ ¬ n < 0) ∧ sp.toNatClampNeg + n.toNatClampNeg ≤ ln0 ks ∧ dp.toNatClampNeg + n.toNatClampNeg ≤ ln0 kt)) ∧ Wp (d + 1) y (pc + 3) L st (upr M kt (va_cpy (M ks) (M kt) sp.toNatClampNeg dp.toNatClampNeg n.toNatClampNeg)) Q := by
  rw [Wp_if (c := ((st.map fun v => v.category).sum ≤ 8 ∧ (ks < nC ∧ kd ks = 13) ∧ (kt < nC ∧ kd kt = 13)) ∧ ((¬ sp < 0 ∧ ¬ dp < 0 ∧ ¬ n < 0) ∧ sp.toNatClampNeg + n.toNatClampNeg ≤ ln0 ks ∧ dp.toNatClampNeg + n.toNatClampNeg ≤ ln0 kt)) (pc' := pc + 3) (L' := L) (st' := st) (M' := upr M kt (va_cpy (M ks) (M kt) sp.toNatClampNeg dp.toNatClampNeg n.toNatClampNeg)) hd rfl rfl (by simp only [cal, hc]) (by simp only [sim, maF, hx, hk]), isK_iff, isK_iff]
  constructor
  · rintro ⟨⟨⟨-, h1, h2⟩, h3⟩, q⟩
    exact ⟨⟨⟨h1, h2⟩, h3⟩, q⟩
  · rintro ⟨⟨⟨h1, h2⟩, h3⟩, q⟩
    exact ⟨⟨⟨hs, h1, h2⟩, h3⟩, q⟩
theorem q_idiv {a b : Int32} (hd : decode (cd y) pc = .ok (.idiv, 1)) : Wp d y pc L (.int b :: .int a :: st) M Q ↔ ¬ b = 0 ∧ Wp d y (pc + 1) L (.int (a / b) :: st) M Q := Wp_if hd rfl rfl rfl (by simp only [sim])
theorem q_irem {a b : Int32} (hd : decode (cd y) pc = .ok (.irem, 1)) : Wp d y pc L (.int b :: .int a :: st) M Q ↔ ¬ b = 0 ∧ Wp d y (pc + 1) L (.int (a - a / b * b) :: st) M Q := Wp_if hd rfl rfl rfl (by simp only [sim])
theorem q_ldiv {a b : Int64} (hd : decode (cd y) pc = .ok (.ldiv, 1)) : Wp d y pc L (.long b :: .long a :: st) M Q ↔ ¬ b = 0 ∧ Wp d y (pc + 1) L (.long (a / b) :: st) M Q := Wp_if hd rfl rfl rfl (by simp only [sim])
theorem q_lrem {a b : Int64} (hd : decode (cd y) pc = .ok (.lrem, 1)) : Wp d y pc L (.long b :: .long a :: st) M Q ↔ ¬ b = 0 ∧ Wp d y (pc + 1) L (.long (a - a / b * b) :: st) M Q := Wp_if hd rfl rfl rfl (by simp only [sim])
theorem q_iret {v : Int32} (hd : decode (cd y) pc = .ok (.ireturn, 1)) (hr : rty y = some .int) : Wp d y pc L [.int v] M Q ↔ Q (some (.int v)) M := Wp_fin hd rfl rfl (by simp only [fin, hr]; simp)
theorem q_zret {v : Int32} (hd : decode (cd y) pc = .ok (.ireturn, 1)) (hr : rty y = some .boolean) : Wp d y pc L [.int v] M Q ↔ (v = 0 ∨ v = 1) ∧ Q (some (.int v)) M := by
  by_cases h : v = 0 ∨ v = 1
  · rw [Wp_fin (r := some (.int v)) hd rfl rfl (by simp only [fin, hr]; simp [h])]
    exact ⟨fun q => ⟨h, q⟩, fun q => q.2⟩
  · exact ⟨fun q => absurd q (Wp_no hd rfl (by simp only [fin, hr]; simp [h]) rfl), fun q => absurd q.1 h⟩
theorem q_vret (hd : decode (cd y) pc = .ok (.return_, 1)) (hr : rty y = none) : Wp d y pc L [] M Q ↔ Q none M := Wp_fin hd rfl rfl (by simp only [fin, hr]; simp)
theorem q_aret {k : Nat} (hd : decode (cd y) pc = .ok (.areturn, 1)) (hr : rty y = some (.object "PalaceYard$Image")) : Wp d y pc L [.ref k] M Q ↔ Q (some (.ref k)) M := Wp_fin hd rfl rfl (by simp only [fin, hr]; simp)
theorem q_invV {z pz n c m k : Nat} {As rest E : List Value} (hd : decode (cd y) pc = .ok (.invokevirtual idx, 3)) (hc : lk cI (mc y) idx = some (z, pz)) (hz : np z = n ∧ sta z = false ∧ mc z = c ∧ nl z = m) (hst : st = As.reverse ++ .ref k :: rest) (hn : As.length = n) (hsum : (rest.map fun v => v.category).sum ≤ 8) (hl : (exA (.ref k :: As)).length ≤ m) (hE : exA (.ref k :: As) ++ List.replicate (m - (exA (.ref k :: As)).length) .null = E) :
    Wp (d + 1) y pc L st M Q ↔ isK k c = true ∧ Wp d z 0 E [] M (fun r M' => Wp (d + 1) y (pc + 3) L (r.toList ++ rest) M' Q) := by
  obtain ⟨z1, z2, z3, z4⟩ := hz
  have h1 : st.drop n = .ref k :: rest := by rw [hst, ← hn, ← List.length_reverse]; exact List.drop_left
  have h2 : (st.take n).reverse = As := by rw [hst, ← hn, ← List.length_reverse, List.take_left, List.reverse_reverse]
  have h3 : n ≤ st.length := by rw [hst, ← hn]; simp
  by_cases hk : k < nC ∧ kd k = c
  · rw [isK_iff, Wp_cal (z := z) (As := .ref k :: As) (rest := rest) hd rfl rfl rfl ?_]
    · unfold ent
      rw [z4, hE]
      exact ⟨fun q => ⟨hk, q⟩, fun q => q.2⟩
    · simp only [cal, hc, z1, h1, h2, z2, z3, z4]
      rw [if_pos ⟨⟨trivial, hk.1, hk.2⟩, h3, hsum, hl⟩]
  · rw [isK_iff]
    refine ⟨fun q => absurd q (Wp_no hd rfl rfl ?_), fun q => absurd q.1 hk⟩
    simp only [cal, hc, z1, h1, h2, z2, z3, z4]
    rw [if_neg (fun q => hk ⟨q.1.2.1, q.1.2.2⟩)]
theorem q_invS {z pz n m : Nat} {As rest E : List Value} (hd : decode (cd y) pc = .ok (.invokestatic idx, 3)) (hx : lk xI (mc y) idx = none ∧ lk aI (mc y) idx = none) (hc : lk cI (mc y) idx = some (z, pz)) (hz : np z = n ∧ sta z = true ∧ nl z = m) (hst : st = As.reverse ++ rest) (hn : As.length = n) (hsum : (rest.map fun v => v.category).sum ≤ 8) (hl : (exA As).length ≤ m) (hE : exA As ++ List.replicate (m - (exA As).length) .null = E) :
    Wp (d + 1) y pc L st M Q ↔ Wp d z 0 E [] M (fun r M' => Wp (d + 1) y (pc + 3) L (r.toList ++ rest) M' Q) := by
  obtain ⟨z1, z2, z4⟩ := hz
  have h1 : st.drop n = rest := by rw [hst, ← hn, ← List.length_reverse]; exact List.drop_left
  have h2 : (st.take n).reverse = As := by rw [hst, ← hn, ← List.length_reverse, List.take_left, List.reverse_reverse]
  have h3 : n ≤ st.length := by rw [hst, ← hn]; simp
  rw [Wp_cal (z := z) (As := As) (rest := rest) hd rfl (by simp only [sim, maF, hx.1, hx.2]) rfl ?_]
  · unfold ent
    rw [z4, hE]
  · simp only [cal, hc, z1, h1, h2, z2, z4]
    rw [if_pos ⟨trivial, h3, hsum, hl⟩]
end RULES
