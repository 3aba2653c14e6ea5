/-! THE CLAIM OUT OF ONE WALK OF THE LAW'S BODY. Your part is whole_start (and what it stands on); all else here is the same for every law, but numbers. -/
def R_law : String := "PalaceYardLaw"
def lw_P (b : Addr) (xs : List Int32) (args : Array Value) (s : State) : Prop := args = #[.ref b] ∧ s.IntsAt b xs ∧ xs.length ≤ 256 ∧ (Jvm.Cond.and given_1 narrow_1).before args s = true
def lw_Q (_ : Array Value) (s : State) (o : Outcome) (t : State) : Prop := o = .returned (some (.int 1)) ∧ Framed s o t [] 600000 7302250
def lw_Z (below : List Frame) (a : Array Value) (s : State) : State → Prop := fun t => ∃ o, t.status = .running ∧ Ended t below o ∧ lw_Q a s o t
/-- the law's own end, with 1 on the stack, nothing written that was there before, its room as the claim has it -/
theorem lw_ret {p : Program} {l : Launch} {e : Env} {s : State} {m : MethodId} {below : List Frame} {meth : Method} {c : Code} {b : Nat} (hx : p.tables.exec = Jvm.exec) (hb : c.code = code) (hr : meth.sig.returnType = ret) (hlocks : meth.locks = false) {pc : Nat} {H : Heap} {ls : Array Slot} (hdg : decode code pc = .ok (.ireturn, 1)) : W p l e room_1 s m #[Value.ref b] below meth c H [] 600000 7302250 (lw_Z below #[Value.ref b] s) (F0 m pc ls [.int 1]) := by
  intro T hT X
  obtain ⟨fs, hret, hrun, hended, hW, hframe⟩ := X.leave (v := some (.int 1)) (hlocks := hlocks) (fun h => by rw [hr] at h; cases h)
  have hmeth' : T.vm.method? m = some meth := X.method'
  refine ⟨T.setFrames fs, ?_, .returned (some (.int 1)), hrun, hended, rfl, ⟨_, rfl⟩, hW, hframe⟩
  jvm_step X.here [X.here.top, hx, hb, hdg, hmeth', hr, ret, narrow_b1]
  (try refine ⟨rfl, ?_⟩); (try refine ⟨rfl, ?_⟩)
  first | (intro acts; rw [hret _ acts rfl rfl rfl]) | rw [hret _ _ rfl rfl rfl]
  exact Steps.refl _
/-- what holds at the law's entry: the machine, the code, the tables' words (any of lw_tbl by 'hts w (by decide +kernel)'), the script of L ints xs at the cell b, what the Statement gives of the start (any of its parts by flat_of_before) -/
def lw_At (p : Program) (s : State) (m : MethodId) (meth : Method) (c : Code) (b L : Nat) (xs : Nat → Int32) : Prop :=
  p.tables.exec = Jvm.exec ∧ c.code = code ∧ meth.sig.returnType = ret ∧ c.maxLocals = 4 ∧ s.vm.findClass R_law = some m.cls ∧ (∀ w ∈ lw_tbl, w.before #[Value.ref b] s = true) ∧ va_X b L xs s s.heap ∧ b < s.heap.size ∧ meth.locks = false ∧ (Jvm.Cond.and given_1 narrow_1).before #[Value.ref b] s = true
theorem d_law_0 : decode code 0 = .ok (.new 7, 3) := by decide +kernel
theorem d_law_3 : decode code 3 = .ok (.dup, 1) := by decide +kernel
theorem d_law_4 : decode code 4 = .ok (.invokespecial 9, 3) := by decide +kernel
theorem d_law_7 : decode code 7 = .ok (.astore_n 1, 1) := by decide +kernel
theorem d_law_8 : decode code 8 = .ok (.new 10, 3) := by decide +kernel
theorem d_law_11 : decode code 11 = .ok (.dup, 1) := by decide +kernel
theorem d_law_12 : decode code 12 = .ok (.invokespecial 12, 3) := by decide +kernel
theorem d_law_15 : decode code 15 = .ok (.astore_n 2, 1) := by decide +kernel
theorem d_law_16 : decode code 16 = .ok (.iconst 0, 1) := by decide +kernel
theorem d_law_17 : decode code 17 = .ok (.istore_n 3, 1) := by decide +kernel
theorem wd197 : (wd (mD 197).1).isNone = true := by decide +kernel
theorem mw197 : mw 197 = (⟨"PalaceYardLaw", "law", "([I)Z"⟩, code, 4, some .boolean) := by
  unfold mw
  rw [Option.isNone_iff_eq_none.mp wd197]
  rfl
theorem cd197 : cd 197 = code := by
  unfold cd
  rw [mw197]
theorem nl197 : nl 197 = 4 := by
  unfold nl
  rw [mw197]
theorem cn197 : cn (mc 197) = R_law := by decide +kernel
theorem Inv_first (xs : Nat → Int32) (L : Nat) : Inv (M0 xs L) := by
  have hY : YR 0 0 0 0 (M0 xs L) := by
    refine ⟨⟨by omega, by omega, by omega, by omega⟩, ⟨rfl, rfl⟩, ⟨rfl, rfl⟩, ⟨rfl, rfl⟩, ⟨rfl, rfl⟩, ⟨rfl, ?_⟩, ⟨rfl, ⟨0, by omega, rfl, fun _ => rfl⟩, ⟨fun _ => rfl, fun _ => rfl⟩, Or.inl rfl⟩, fun k hk => absurd hk (by omega), fun k hk => absurd hk (by omega), fun k hk => absurd hk (by omega)⟩
    exact (by decide : rg (0 : Int32) 0 99)
  exact Inv_new hY ⟨rfl, rfl, rfl⟩ (fun _ _ => rfl) (fun _ _ => rfl) (fun _ _ => rfl) (fun _ _ => rfl) ⟨0, by omega, rfl⟩ rfl rfl rfl rfl rfl rfl rfl rfl ⟨rfl, rfl, rfl⟩ rfl rfl rfl ⟨⟨0, by omega, rfl, rfl⟩, rfl⟩ ⟨⟨rfl, rfl, rfl, rfl⟩, fun _ _ => rfl, fun _ _ => rfl⟩
theorem law_we {p : Program} {l : Launch} {e : Env} {s : State} {m : MethodId} {below : List Frame} {meth : Method} {c : Code} {b : Nat} {D : va_G} {cA cZ : ClassId} {ad : Nat → Nat} {A : Nat → Prop} {z : Option Value × Mem} (hx : p.tables.exec = Jvm.exec) (hb : c.code = code) (hr : meth.sig.returnType = ret) (hlocks : meth.locks = false) (hA : ∀ q, A q → s.heap.size ≤ q) (hz : z.1 = some (.int 1)) : We p l e room_1 s m #[Value.ref b] below meth c 55 2866 (lw_Z below #[Value.ref b] s) D cA cZ ad A 197 z := by
  intro pc i st ls H locs hd hf hP hD hS hO
  rw [cd197] at hd
  rw [hz] at hf
  have hi : i = .ireturn ∧ st = [.int 1] := by
    unfold fin at hf
    split at hf
    · split at hf
      · split at hf
        · cases hf
          exact ⟨rfl, rfl⟩
        · cases hf
      · cases hf
    · split at hf
      · split at hf <;> cases hf
      · cases hf
    · split at hf
      · split at hf <;> cases hf
      · cases hf
    · cases hf
  obtain ⟨rfl, rfl⟩ := hi
  refine va_forget (fun q hq => hA _ (hS.2.2 q hq)) ?_
  refine W.widen (k := 600000) (n := 7302250) (by decide) (by decide) ?_
  exact lw_ret hx hb hr hlocks hd
theorem lrel_first {u w : Nat → Nat} {t0 t1 t2 b : Nat} {ls : Array Slot} (hl : lv_has ls 4 [(3, .int 0), (2, .ref (w 0)), (1, .ref (u 0)), (0, .ref b)]) : lrel (ad0 u w t0 t1 t2 b) [.ref 63, .ref 0, .ref 40, .int (nI 0)] ls (nl 197) := by
  rw [nl197]
  refine ⟨rfl, hl.1, hl.2.1, fun i v hi hv => ?_⟩
  match i, hi with
  | 0, hi => cases hi; exact lv_at hl 3 rfl
  | 1, hi => cases hi; exact lv_at hl 2 rfl
  | 2, hi => cases hi; exact lv_at hl 1 rfl
  | 3, hi => cases hi; exact lv_at hl 0 rfl
  | i + 4, hi => simp at hi
set_option maxHeartbeats 4000000 in
set_option maxRecDepth 100000 in
theorem whole_start {p : Program} {e : Env} {s : State} {m : MethodId} {below : List Frame} {meth : Method} {c : Code} (l : Launch) {b L : Nat} {xs : Nat → Int32} (hL : L ≤ 256) (C0 : lw_At p s m meth c b L xs) : W p l e room_1 s m #[Value.ref b] below meth c s.heap [] 0 0 (lw_Z below #[Value.ref b] s) (entryFrame m ([Value.ref b] : List Value).toArray 4) := by
  obtain ⟨hx, hb, hr, hml, hown, hts0, hX, hbl, hlocks, hgv⟩ := id C0
  have hts : ∀ w ∈ tb, w.before #[Value.ref b] s = true := fun w hw => hts0 w (List.mem_filter.mp hw).1
  obtain ⟨D, cA, cZ, hK⟩ := start_K hts
  obtain ⟨A, hAe⟩ : ∃ A : Nat → Prop, A = fun q => s.heap.size ≤ q := ⟨_, rfl⟩
  have hA : ∀ q : Nat, s.heap.size ≤ q → A q := fun q h => by rw [hAe]; exact h
  have hA2 : ∀ q : Nat, A q → s.heap.size ≤ q := fun q h => by rw [hAe] at h; exact h
  obtain ⟨t0, t1, t2, hO⟩ := Old_first (A := A) hL hgv hts0 hX (fun a h z => Nat.not_le.mpr h (hA2 a z))
  have hNw : va_Nw (.methodLinkNest (cn 11) 39 yI_10 "PalaceYard") s := va_Nw.of rfl (hts0 _ (wd_mem (p := 207) (by decide +kernel)))
  have hS : va_S A s.heap s.heap [] := va_S.rf
  have hP : va_P D cl13 [] s.heap := fun k q h => by simp at h
  have hD : va_D A [] := ⟨fun i j p q h => by simp at h, fun k q h => by simp at h⟩
  have hl := lv_entry ([.ref b]) (n := 4) (Nat.le_of_ble_eq_true rfl)
  rw [lg_entry_eq]
  generalize (lg_sl ([.ref b]) ++ List.replicate (4 - (lg_sl ([.ref b])).length) Slot.unset).toArray = ls at hl ⊢
  have hl : lv_has ls 4 [(0, .ref b)] := hl
  refine cNew (own := R_law) (ci := 11) (fs := [.null, .null, .null, .null, .null, .null, .null, .null, .null, .null, .int 0, .int 0]) hx hb hts (by decide) hown (isW_mem (p := 18) (by decide +kernel)) (isW_mem (p := 19) (by decide +kernel)) (isW_mem (p := 1) (by decide +kernel)) hK hP hD hS hA zI_11 (Nat.le_of_ble_eq_true rfl) (Nat.le_of_ble_eq_true rfl) d_law_0 (fun q1 H hP hD hS => ?_)
  have hP : va_P D cl13 [(q1, .inr (11, [.null, .null, .null, .null, .null, .null, .null, .null, .null, .null, .int 0, .int 0]))] H := hP
  have hD : va_D A [(q1, .inr (11, [.null, .null, .null, .null, .null, .null, .null, .null, .null, .null, .int 0, .int 0]))] := hD
  refine W.widen (k := 1) (n := 12) (by decide) (by decide) ?_
  refine lv_dup hx hb d_law_3 rfl ?_
  have hPc := hP.sub (ws' := [(q1, .inr (11, [.null, .null, .null, .null, .null, .null, .null, .null, .null, .null, .int 0, .int 0]))]) [0] rfl
  have hDc := hD.sub (ws' := [(q1, .inr (11, [.null, .null, .null, .null, .null, .null, .null, .null, .null, .null, .int 0, .int 0]))]) [0] (by decide) rfl
  have hFc := va_free (wc := [(q1, .inr (11, [.null, .null, .null, .null, .null, .null, .null, .null, .null, .null, .int 0, .int 0]))]) hD hS hA [0] rfl
  refine va_callv (va_runI (As := []) (rest := [.ref q1]) ⟨hx, hb, hml, hown, hts⟩ (cI_11 l D cA cZ q1 H.size) (cwI 0 hts gI_11 rfl rfl rfl (hts _ (isW_mem (p := 1) (by decide +kernel) : Jvm.Cond.initialized (cn 11) ∈ tb)) (hts (.methodLink R_law 9 yI_11) (isW_mem (p := 20) (by decide +kernel))) (hts (.instanceMethod yI_11) (isW_mem (p := 21) (by decide +kernel))) rfl (by decide +kernel) ⟨Nat.le_of_ble_eq_true rfl, Nat.le_of_ble_eq_true rfl⟩) ⟨fun a U g mk q => by obtain ⟨q0, ⟨q1, qP, qK, qD⟩, qN⟩ := q; exact ⟨q0, ⟨q1, qP, va_K.moved (u := U) (U := U.calling g mk a) (Vm.Alike.refl U.vm) qK, qD⟩, qN.same rfl rfl⟩, fun U hU hW => ⟨rfl, ⟨by rw [hU], by rw [hU]; exact hPc, va_K.moved hW.alike hK, hDc.weaken (fun _ _ _ _ => trivial)⟩, va_Nw.warmM hW hNw⟩⟩ rfl rfl hl.1 rfl (lv_room (Nat.le_of_ble_eq_true rfl)) d_law_4 ⟨Nat.le_of_ble_eq_true rfl, Nat.le_of_ble_eq_true rfl⟩) hS (fun q _ h => hFc q h) hFc (fun u t H1 locs ht hvm hw hB hz1 hk1 hS => ?_)
  obtain ⟨u1, rfl⟩ : ∃ z, z = u := ⟨_, rfl⟩
  subst hw
  obtain ⟨hP1, hK1, hD1⟩ := hB
  rw [ht] at hP1
  obtain ⟨hP, hD⟩ := va_join (wr := []) (w1 := wI_11 cA cZ u1) hP hD [0] [] rfl rfl (by decide) (by decide) hk1 hFc hP1 hD1
  generalize H1 = H at hP hS ⊢
  have hP : va_P D cl13 (wI_11 cA cZ u1) H := hP
  have hD : va_D A (wI_11 cA cZ u1) := hD
  refine W.widen (k := 40) (n := 1403) (by decide) (by decide) ?_
  refine lv_astore_n (lv' := [(1, .ref (u1 0)), (0, .ref b)]) hx hb d_law_7 rfl hl (by decide) rfl (fun ls hl => ?_)
  refine cNew (own := R_law) (ci := 12) (fs := [.null, .null, .null, .null, .null, .int 0, .null, .null, .long (Int32.toInt64 0), .null, .int 0, .int 0, .null, .int 0, .null, .int 0, .int 0, .int 0, .int 0, .int 0, .int 0, .int 0, .null, .null, .null, .null, .int 0, .int 0, .int 0]) hx hb hts (by decide) hown (isW_mem (p := 837) (by decide +kernel)) (isW_mem (p := 838) (by decide +kernel)) (isW_mem (p := 13) (by decide +kernel)) hK hP hD hS hA zI_12 (Nat.le_of_ble_eq_true rfl) (Nat.le_of_ble_eq_true rfl) d_law_8 (fun q2 H hP hD hS => ?_)
  refine W.widen (k := 41) (n := 1432) (by decide) (by decide) ?_
  refine lv_dup hx hb d_law_11 rfl ?_
  have hPc := hP.sub (ws' := [(q2, .inr (12, [.null, .null, .null, .null, .null, .int 0, .null, .null, .long (Int32.toInt64 0), .null, .int 0, .int 0, .null, .int 0, .null, .int 0, .int 0, .int 0, .int 0, .int 0, .int 0, .int 0, .null, .null, .null, .null, .int 0, .int 0, .int 0]))]) [40] rfl
  have hDc := hD.sub (ws' := [(q2, .inr (12, [.null, .null, .null, .null, .null, .int 0, .null, .null, .long (Int32.toInt64 0), .null, .int 0, .int 0, .null, .int 0, .null, .int 0, .int 0, .int 0, .int 0, .int 0, .int 0, .int 0, .null, .null, .null, .null, .int 0, .int 0, .int 0]))]) [40] (by decide) rfl
  have hFc := va_free (wc := [(q2, .inr (12, [.null, .null, .null, .null, .null, .int 0, .null, .null, .long (Int32.toInt64 0), .null, .int 0, .int 0, .null, .int 0, .null, .int 0, .int 0, .int 0, .int 0, .int 0, .int 0, .int 0, .null, .null, .null, .null, .int 0, .int 0, .int 0]))]) hD hS hA [40] rfl
  refine va_callv (va_runI (As := []) (rest := [.ref q2]) ⟨hx, hb, hml, hown, hts⟩ (cI_12 l D cA cZ q2 H.size) (cwI 0 hts gI_12 rfl rfl rfl (hts _ (isW_mem (p := 13) (by decide +kernel) : Jvm.Cond.initialized (cn 12) ∈ tb)) (hts (.methodLink R_law 12 yI_12) (isW_mem (p := 839) (by decide +kernel))) (hts (.instanceMethod yI_12) (isW_mem (p := 840) (by decide +kernel))) rfl (by decide +kernel) ⟨Nat.le_of_ble_eq_true rfl, Nat.le_of_ble_eq_true rfl⟩) ⟨fb_cPre, fun U hU hW => ⟨rfl, by rw [hU], by rw [hU]; exact hPc, va_K.moved hW.alike hK, hDc.weaken (fun _ _ _ _ => trivial)⟩⟩ rfl rfl hl.1 rfl (lv_room (Nat.le_of_ble_eq_true rfl)) d_law_12 ⟨Nat.le_of_ble_eq_true rfl, Nat.le_of_ble_eq_true rfl⟩) hS (fun q _ h => hFc q h) hFc (fun u t H1 locs ht hvm hw hB hz1 hk1 hS => ?_)
  obtain ⟨u2, rfl⟩ : ∃ z, z = u := ⟨_, rfl⟩
  subst hw
  obtain ⟨hP1, hK1, hD1⟩ := hB
  rw [ht] at hP1
  obtain ⟨hP, hD⟩ := va_join (wr := wI_11 cA cZ u1) (w1 := wI_12 cA cZ u2) hP hD [40] [0, 1, 2, 3, 4, 5, 6, 7, 8, 9, 10, 11, 12, 13, 14, 15, 16, 17, 18, 19, 20, 21, 22, 23, 24, 25, 26, 27, 28, 29, 30, 31, 32, 33, 34, 35, 36, 37, 38, 39] rfl rfl (by decide) (by decide) hk1 hFc hP1 hD1
  generalize H1 = H at hP hS ⊢
  refine W.widen (k := 55) (n := 2866) (by decide) (by decide) ?_
  refine lv_astore_n (lv' := [(2, .ref (u2 0)), (1, .ref (u1 0)), (0, .ref b)]) hx hb d_law_15 rfl hl (by decide) rfl (fun ls hl => ?_)
  refine lv_iconst (v := 0) hx hb d_law_16 (by decide) ?_
  refine lv_istore_n (lv' := [(3, .int 0), (2, .ref (u2 0)), (1, .ref (u1 0)), (0, .ref b)]) hx hb d_law_17 rfl hl (by decide) rfl (fun ls hl => ?_)
  obtain ⟨M2, -, hQ⟩ := law_all 0 L hL 300 0 (M0 xs L) (by omega) (by omega) (Inv_first xs L) rfl
  obtain ⟨n, z, hrun, hz⟩ := (hQ (fun a _ => a = some (.int 1))).mpr rfl
  exact run_ok l D cA cZ (ad0 u1 u2 t0 t1 t2 b) A n (0 + 12) 197 18 [.ref 63, .ref 0, .ref 40, .int (nI 0)] [] (M0 xs L) z hrun p e room_1 s m #[Value.ref b] below meth c 55 2866 (lw_Z below #[Value.ref b] s) ⟨hx, by rw [cd197]; exact hb, by rw [nl197]; exact hml, by rw [cn197]; exact hown, hts, by decide, by decide, by decide, by decide, hK⟩ hA (law_we hx hb hr hlocks hA2 hz) ls H locs (lrel_first hl) (by rw [wl_first]; exact hP) (by rw [wl_first]; exact hD) hS (hO u1 u2)
