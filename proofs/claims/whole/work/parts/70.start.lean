/-! part 70: the start: owners, static rows, the first rows -/
def inL : List Nat := [282, 63, 154, 263, 245, 27, 148, 228, 43, 140, 206, 19, 838]
theorem ok_N : (List.range 13).all (fun ci => isW (inL.getD ci 0) (.instantiable (cn ci) (nf ci))) = true := by decide +kernel
theorem start_K {s : State} {args : Array Value} (hts : ∀ w ∈ tb, w.before args s = true) : ∃ (D : va_G) (cA cZ : ClassId), va_K D cl13 (T2 cA cZ) s := by
  obtain ⟨c0, i0, -⟩ := u_known (n := nf 0) hts (w_lay (ci := 0) (by decide)) (hts _ (isW_mem (all_at ok_N (i := 0) (by decide))))
  have h : ∀ ci : Nat, ∃ z : ClassId × (Nat → Nat), ci < 13 → u_Kn s (cn ci) (fT ci) (nf ci) z.1 z.2 := by
    intro ci
    by_cases hci : ci < 13
    · obtain ⟨cC, iS, hk⟩ := u_known (n := nf ci) hts (w_lay hci) (hts _ (isW_mem (all_at ok_N hci)))
      exact ⟨(cC, iS), fun _ => hk⟩
    · exact ⟨(c0, i0), fun h => absurd h hci⟩
  obtain ⟨f, hf⟩ := Classical.axiomOfChoice h
  obtain ⟨cA, kA, comp, hA1, hA2, hA3⟩ := Cond.arrayClass_spec (hts _ w_aI2)
  obtain ⟨cZ, kZ, compZ, hZ1, hZ2, hZ3⟩ := Cond.arrayClass_spec (hts _ w_aZ2)
  refine ⟨(fun k => (f k).1, fun k => (f k).2), cA, cZ, fun k q hq => ?_, fun k q hq => ?_⟩
  · have hk : k < 13 := by
      have := (List.getElem?_eq_some_iff.mp hq).1
      simpa [cl13] using this
    rw [cl_at hk] at hq
    cases hq
    exact hf k hk
  · match k, hq with
    | 0, hq => cases hq; exact ⟨fun n z => ⟨fun k h => (by cases h), kA, hA2, comp, hA3⟩, hA1⟩
    | 1, hq => cases hq; exact ⟨fun n z => ⟨fun k h => (by cases h), kZ, hZ2, compZ, hZ3⟩, hZ1⟩
    | k + 2, hq => simp at hq
theorem stat_T {args : Array Value} {s : State} {A : Nat → Prop} {n : String} {N : Nat} {vals : List Int32} (hN : N < 2 ^ 31) (harr : (Jvm.Cond.arrayOf (.static "PalaceYard" n "[I") .int).before args s = true) (hlen : (Jvm.Cond.eq (.length (.static "PalaceYard" n "[I")) (.int (Int32.ofNat N))).before args s = true) (hel : ∀ j, j < N → (Jvm.Cond.eq (.elem (.static "PalaceYard" n "[I") (.int (Int32.ofNat j))) (.int (vals.getD j 0))).before args s = true) (hl : (Jvm.Cond.laysStatic "PalaceYard" n "[I").before args s = true) (hini : (Jvm.Cond.initialized "PalaceYard").before args s = true) (hA : ∀ a : Nat, a < s.heap.size → ¬ A a) : ∃ t, va_T .int t N (fun j => .int (vals.getD j 0)) A s s.heap ∧ va_Z "PalaceYard" n "[I" (.ref t) A s s.heap := by
  obtain ⟨t, h1, h2⟩ := va_Tof hN harr (va_eqt hlen) (fun j hj => va_eqt (hel j hj)) hA
  exact ⟨t, h2, va_Zof hl hini h1 hA⟩
theorem start_NUMBERS_OF {args : Array Value} {s : State} {A : Nat → Prop} (hgv : (Jvm.Cond.and given_1 narrow_1).before args s = true) (hts : ∀ w ∈ lw_tbl, w.before args s = true) (hA : ∀ a : Nat, a < s.heap.size → ¬ A a) : ∃ t, va_T .int t 4 (fun j => .int (([3, 2, 3, 3] : List Int32).getD j 0)) A s s.heap ∧ va_Z "PalaceYard" "NUMBERS_OF" "[I" (.ref t) A s s.heap := by
  have hs := flat_of_before _ hgv
  refine stat_T (n := "NUMBERS_OF") (by decide) (hs _ (by decide +kernel)) (hs _ (by decide +kernel)) (fun j hj => ?_) (hts _ (wd_mem (p := 388) (by decide +kernel))) (hts _ (wd_mem (p := 1) (by decide +kernel))) hA
  have : j = 0 ∨ j = 1 ∨ j = 2 ∨ j = 3 := by omega
  rcases this with rfl | rfl | rfl | rfl <;> exact hs _ (by decide +kernel)
theorem start_LEAST {args : Array Value} {s : State} {A : Nat → Prop} (hgv : (Jvm.Cond.and given_1 narrow_1).before args s = true) (hts : ∀ w ∈ lw_tbl, w.before args s = true) (hA : ∀ a : Nat, a < s.heap.size → ¬ A a) : ∃ t, va_T .int t 12 (fun j => .int (([0, 1, 0, 1, 0, 0, 0, 1, 0, 0, 0, 0] : List Int32).getD j 0)) A s s.heap ∧ va_Z "PalaceYard" "LEAST" "[I" (.ref t) A s s.heap := by
  have hs := flat_of_before _ hgv
  refine stat_T (n := "LEAST") (by decide) (hs _ (by decide +kernel)) (hs _ (by decide +kernel)) (fun j hj => ?_) (hts _ (wd_mem (p := 390) (by decide +kernel))) (hts _ (wd_mem (p := 1) (by decide +kernel))) hA
  have : j = 0 ∨ j = 1 ∨ j = 2 ∨ j = 3 ∨ j = 4 ∨ j = 5 ∨ j = 6 ∨ j = 7 ∨ j = 8 ∨ j = 9 ∨ j = 10 ∨ j = 11 := by omega
  rcases this with rfl | rfl | rfl | rfl | rfl | rfl | rfl | rfl | rfl | rfl | rfl | rfl <;> exact hs _ (by decide +kernel)
theorem start_GREATEST {args : Array Value} {s : State} {A : Nat → Prop} (hgv : (Jvm.Cond.and given_1 narrow_1).before args s = true) (hts : ∀ w ∈ lw_tbl, w.before args s = true) (hA : ∀ a : Nat, a < s.heap.size → ¬ A a) : ∃ t, va_T .int t 12 (fun j => .int (([99, 6, 6, 100, 20, 0, 3, 999, 99, 20, 20, 99] : List Int32).getD j 0)) A s s.heap ∧ va_Z "PalaceYard" "GREATEST" "[I" (.ref t) A s s.heap := by
  have hs := flat_of_before _ hgv
  refine stat_T (n := "GREATEST") (by decide) (hs _ (by decide +kernel)) (hs _ (by decide +kernel)) (fun j hj => ?_) (hts _ (wd_mem (p := 392) (by decide +kernel))) (hts _ (wd_mem (p := 1) (by decide +kernel))) hA
  have : j = 0 ∨ j = 1 ∨ j = 2 ∨ j = 3 ∨ j = 4 ∨ j = 5 ∨ j = 6 ∨ j = 7 ∨ j = 8 ∨ j = 9 ∨ j = 10 ∨ j = 11 := by omega
  rcases this with rfl | rfl | rfl | rfl | rfl | rfl | rfl | rfl | rfl | rfl | rfl | rfl <;> exact hs _ (by decide +kernel)
def M0 (xs : Nat → Int32) (L : Nat) : Mem := fun k =>
  if k = 0 then fun j => if j = 10 then -1 else 0
  else if k = 3 then fun j => if j = 3 then -1 else 0
  else if k = 36 then fun j => if j = 2 then 60 else 0
  else if k = 40 then fun j => if j = 11 then -1 else 0
  else if k = 60 then fun j => ([3, 2, 3, 3] : List Int32).getD j 0
  else if k = 61 then fun j => ([0, 1, 0, 1, 0, 0, 0, 1, 0, 0, 0, 0] : List Int32).getD j 0
  else if k = 62 then fun j => ([99, 6, 6, 100, 20, 0, 3, 999, 99, 20, 20, 99] : List Int32).getD j 0
  else if k = 63 then xs
  else if k = 64 then fun _ => nI L
  else fun _ => 0
def ad0 (u w : Nat → Nat) (t0 t1 t2 b : Nat) : Nat → Nat := fun k => if k < 40 then u k else if k < 55 then w (k - 40) else if k = 60 then t0 else if k = 61 then t1 else if k = 62 then t2 else b
set_option maxRecDepth 100000 in
set_option maxHeartbeats 4000000 in
theorem wl_first (u w : Nat → Nat) (t0 t1 t2 b L : Nat) (xs : Nat → Int32) (cA cZ : ClassId) : wl (ad0 u w t0 t1 t2 b) cA cZ (M0 xs L) = wI_11 cA cZ u ++ wI_12 cA cZ w := rfl
theorem Old_first {s : State} {A : Nat → Prop} {b L : Nat} {xs : Nat → Int32} {args : Array Value} (hL : L ≤ 256) (hgv : (Jvm.Cond.and given_1 narrow_1).before args s = true) (hts : ∀ w ∈ lw_tbl, w.before args s = true) (hX : va_X b L xs s s.heap) (hA : ∀ a : Nat, a < s.heap.size → ¬ A a) : ∃ t0 t1 t2, ∀ u w, Old (ad0 u w t0 t1 t2 b) A s s.heap (M0 xs L) := by
  obtain ⟨t0, a0, z0⟩ := start_NUMBERS_OF hgv hts hA
  obtain ⟨t1, a1, z1⟩ := start_LEAST hgv hts hA
  obtain ⟨t2, a2, z2⟩ := start_GREATEST hgv hts hA
  obtain ⟨scr, x1, x2, x3, x4, x5⟩ := hX
  have hbl : b < s.heap.size := (Array.getElem?_eq_some_iff.mp x1).1
  refine ⟨t0, t1, t2, fun u w => ⟨fun t h1 h2 => ?_, ⟨z0, z1, z2⟩, va_Nw.of rfl (hts _ (wd_mem (p := 387) (by decide +kernel))), va_Nw.of rfl (hts _ (wd_mem (p := 389) (by decide +kernel))), va_Nw.of rfl (hts _ (wd_mem (p := 391) (by decide +kernel)))⟩⟩
  have : t = 60 ∨ t = 61 ∨ t = 62 ∨ t = 63 := by omega
  rcases this with rfl | rfl | rfl | rfl
  · exact a0
  · exact a1
  · exact a2
  · have e : lnm (M0 xs L) 63 = L := by
      unfold lnm
      rw [if_pos rfl]
      show (nI L).toNatClampNeg = L
      exact nI_clamp (by omega)
    rw [e]
    exact ⟨scr, x1, x2, x3, by rw [x4]; exact Nat.le_refl _, by rw [x4] <;> rfl, x5, hA b hbl⟩
