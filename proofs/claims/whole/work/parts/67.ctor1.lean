/-! part 67: constructors of the parts -/
theorem zI_0 : ∀ j, j < nf 0 → defaultValue (fTy 0 j) = vp_V [.null, .null, .int 0] j := by decide +kernel
def wI_0 (cA cZ : ClassId) (q : Nat → Nat) : va_W := [(q 0, .inr (0, [.ref (q 1), .ref (q 2), .int 0])), (q 1, .inl (cA, (15, .inl (fun _ => 0)))), (q 2, .inl (cA, (15, .inl (fun _ => 0))))]
abbrev byI_0 : ByteArray := prog_2_method_1_code
def yI_0 : MethodName := ⟨cn 0, "<init>", "()V"⟩
def wsI_0 : List Jvm.Cond := .code yI_0 byI_0 1 none :: tb
theorem gI_0 : GoodIn tb wsI_0 := by
  intro w hw
  have hm : w ∈ tb := by
    rcases List.mem_cons.mp hw with rfl | h2
    · exact isW_mem (p := 285) (by decide +kernel)
    · exact h2
  exact ⟨hm, good_of_word (List.mem_filter.mp hm).2⟩
theorem dI_0_0 : decode byI_0 0 = .ok (.aload_n 0, 1) := by decide +kernel
theorem dI_0_1 : decode byI_0 1 = .ok (.invokespecial 3, 3) := by decide +kernel
theorem dI_0_4 : decode byI_0 4 = .ok (.aload_n 0, 1) := by decide +kernel
theorem dI_0_5 : decode byI_0 5 = .ok (.bipush 15, 2) := by decide +kernel
theorem dI_0_7 : decode byI_0 7 = .ok (.newarray .int, 2) := by decide +kernel
theorem dI_0_9 : decode byI_0 9 = .ok (.putfield 9, 3) := by decide +kernel
theorem dI_0_12 : decode byI_0 12 = .ok (.aload_n 0, 1) := by decide +kernel
theorem dI_0_13 : decode byI_0 13 = .ok (.bipush 15, 2) := by decide +kernel
theorem dI_0_15 : decode byI_0 15 = .ok (.newarray .int, 2) := by decide +kernel
theorem dI_0_17 : decode byI_0 17 = .ok (.putfield 15, 3) := by decide +kernel
theorem dI_0_20 : decode byI_0 20 = .ok (.return_, 1) := by decide +kernel
set_option maxHeartbeats 4000000 in
set_option maxRecDepth 100000 in
theorem cI_0 (l : Launch) (D : va_G) (cA cZ : ClassId) (h0 sz : Nat) : Met l yI_0 wsI_0 ({ frames := 1, cells := 2, slots := 30, locals := 12 }) (va_Pc [.ref h0] (cPre D cA cZ h0 sz 0 [.null, .null, .int 0])) (va_Qv (fun q : Nat → Nat => q 0 = h0) (cPost D cA cZ h0 sz 0 [.null, .null, .int 0] (wI_0 cA cZ)) (va_A [(h0, .inr (0, [.null, .null, .int 0]))] sz)) 2 30 (va_A [(h0, .inr (0, [.null, .null, .int 0]))] sz) := by
  refine Met.ofW (cc := byI_0) (maxL := 1) (ret := none) (by decide) rfl ?_
  intro p e s m args below meth c s₁ B hml hv
  obtain ⟨rfl, hsz, hP, hK, hD0⟩ := hv
  have hx := B.exec
  have hb := B.bytes
  have hr := B.returns
  have hts0 := atoms_spec (ws := wsI_0) B.pre
  have hts : ∀ w ∈ tb, w.before _ s = true := fun w hw => hts0 w (List.mem_cons_of_mem _ hw)
  have hown : s.vm.findClass (cn 0) = some m.cls := findClass_of_methodNamed B.named
  have hin : meth.name = "<init>" := (name_of_methodNamed B.named B.method).1
  subst hsz
  have hD := hD0.self (sz := s.heap.size)
  unfold cPost
  generalize hAe : va_A [(h0, .inr (0, [.null, .null, .int 0]))] s.heap.size = A at hD ⊢
  have hA : ∀ q : Nat, s.heap.size ≤ q → A q := fun q h => by rw [← hAe]; exact Or.inr h
  have hS : va_S A s.heap s.heap [] := va_S.rf
  have hP : va_P D cl13 [(h0, .inr (0, [.null, .null, .int 0]))] s.heap := hP
  have hl := lv_entry ([.ref h0]) (n := 1) (Nat.le_of_ble_eq_true rfl)
  rw [lg_entry_eq]
  generalize (lg_sl ([.ref h0]) ++ List.replicate (1 - (lg_sl ([.ref h0])).length) Slot.unset).toArray = ls at hl ⊢
  have hl : lv_has ls 1 [(0, .ref h0)] := hl
  refine lv_aload_n hx hb dI_0_0 rfl (lv_at hl 0 rfl) ?_
  refine W.objInit hx hb hown (hts (.methodLink (cn 0) 3 Lib.objectInit) (isW_mem (p := 286) (by decide +kernel))) (hts _ w_oI) (hts _ w_oC) rfl (by rw [hml]; exact hl.1) rfl dI_0_1 (Nat.le_of_ble_eq_true rfl) (Nat.le_of_ble_eq_true rfl) ?_
  refine W.eq (g2 := F0 m 4 ls []) rfl ?_
  refine lv_aload_n hx hb dI_0_4 rfl (lv_at hl 0 rfl) ?_
  refine lv_bipush (v := 15) hx hb dI_0_5 (by decide) ?_
  refine cNewI hx hb hts hK hP hD hS hA (n := 15) (N := 15) (by decide) (by decide) (by decide) (Nat.le_of_ble_eq_true rfl) (Nat.le_of_ble_eq_true rfl) dI_0_7 (fun q1 H hP hD hS => ?_)
  have hP : va_P D cl13 [(h0, .inr (0, [.null, .null, .int 0])), (q1, .inl (cA, (15, .inl (fun _ => 0))))] H := hP
  have hD : va_D A [(h0, .inr (0, [.null, .null, .int 0])), (q1, .inl (cA, (15, .inl (fun _ => 0))))] := hD
  refine W.widen (k := 1) (n := 15) (by decide) (by decide) ?_
  refine cPutF (ci := 0) (v := .ref (q1)) hx hb hts (by decide) hown hin hK hP hD hS rfl 0 (by decide) (isW_mem (p := 287) (by decide +kernel)) rfl rfl rfl rfl (Nat.le_of_ble_eq_true rfl) dI_0_9 (fun H locs hP hD hS => ?_)
  have hP : va_P D cl13 [(h0, .inr (0, [.ref (q1), .null, .int 0])), (q1, .inl (cA, (15, .inl (fun _ => 0))))] H := hP
  have hD : va_D A [(h0, .inr (0, [.ref (q1), .null, .int 0])), (q1, .inl (cA, (15, .inl (fun _ => 0))))] := hD
  refine lv_aload_n hx hb dI_0_12 rfl (lv_at hl 0 rfl) ?_
  refine lv_bipush (v := 15) hx hb dI_0_13 (by decide) ?_
  refine cNewI hx hb hts hK hP hD hS hA (n := 15) (N := 15) (by decide) (by decide) (by decide) (Nat.le_of_ble_eq_true rfl) (Nat.le_of_ble_eq_true rfl) dI_0_15 (fun q2 H hP hD hS => ?_)
  have hP : va_P D cl13 [(h0, .inr (0, [.ref (q1), .null, .int 0])), (q1, .inl (cA, (15, .inl (fun _ => 0)))), (q2, .inl (cA, (15, .inl (fun _ => 0))))] H := hP
  have hD : va_D A [(h0, .inr (0, [.ref (q1), .null, .int 0])), (q1, .inl (cA, (15, .inl (fun _ => 0)))), (q2, .inl (cA, (15, .inl (fun _ => 0))))] := hD
  refine W.widen (k := 2) (n := 30) (by decide) (by decide) ?_
  refine cPutF (ci := 0) (v := .ref (q2)) hx hb hts (by decide) hown hin hK hP hD hS rfl 1 (by decide) (isW_mem (p := 288) (by decide +kernel)) rfl rfl rfl rfl (Nat.le_of_ble_eq_true rfl) dI_0_17 (fun H locs hP hD hS => ?_)
  have hP : va_P D cl13 [(h0, .inr (0, [.ref (q1), .ref (q2), .int 0])), (q1, .inl (cA, (15, .inl (fun _ => 0)))), (q2, .inl (cA, (15, .inl (fun _ => 0))))] H := hP
  have hD : va_D A [(h0, .inr (0, [.ref (q1), .ref (q2), .int 0])), (q1, .inl (cA, (15, .inl (fun _ => 0)))), (q2, .inl (cA, (15, .inl (fun _ => 0))))] := hD
  have hP9 : va_P D cl13 (wI_0 cA cZ (fun i => ([h0, q1, q2] : List Nat).getD i 0)) H := hP
  have hD9 : va_D A (wI_0 cA cZ (fun i => ([h0, q1, q2] : List Nat).getD i 0)) := hD
  exact W.vret hx hb hr (fun t ht hW => ⟨⟨(fun i => ([h0, q1, q2] : List Nat).getD i 0), rfl, rfl, by rw [ht]; exact hP9, va_K.moved hW.alike hK, hD9⟩, hS.F ht⟩) hS.2.2 dI_0_20
theorem zI_1 : ∀ j, j < nf 1 → defaultValue (fTy 1 j) = vp_V [.null, .null, .null, .null, .null, .null, .null, .null, .int 0, .int 0, .int 0, .int 0, .int 0, .int 0, .int 0] j := by decide +kernel
def wI_1 (cA cZ : ClassId) (q : Nat → Nat) : va_W := [(q 0, .inr (1, [.ref (q 1), .ref (q 2), .ref (q 3), .ref (q 4), .ref (q 5), .ref (q 6), .ref (q 7), .ref (q 8), .int 0, .int 0, .int 0, .int 0, .int 0, .int 0, .int 0])), (q 1, .inl (cA, (4, .inl (fun _ => 0)))), (q 2, .inl (cA, (4, .inl (fun _ => 0)))), (q 3, .inl (cA, (6, .inl (fun _ => 0)))), (q 4, .inl (cA, (6, .inl (fun _ => 0)))), (q 5, .inl (cA, (6, .inl (fun _ => 0)))), (q 6, .inl (cA, (6, .inl (fun _ => 0)))), (q 7, .inl (cA, (6, .inl (fun _ => 0)))), (q 8, .inl (cA, (6, .inl (fun _ => 0))))]
abbrev byI_1 : ByteArray := prog_3_method_1_code
def yI_1 : MethodName := ⟨cn 1, "<init>", "()V"⟩
def wsI_1 : List Jvm.Cond := .code yI_1 byI_1 1 none :: tb
theorem gI_1 : GoodIn tb wsI_1 := by
  intro w hw
  have hm : w ∈ tb := by
    rcases List.mem_cons.mp hw with rfl | h2
    · exact isW_mem (p := 66) (by decide +kernel)
    · exact h2
  exact ⟨hm, good_of_word (List.mem_filter.mp hm).2⟩
theorem dI_1_0 : decode byI_1 0 = .ok (.aload_n 0, 1) := by decide +kernel
theorem dI_1_1 : decode byI_1 1 = .ok (.invokespecial 3, 3) := by decide +kernel
theorem dI_1_4 : decode byI_1 4 = .ok (.aload_n 0, 1) := by decide +kernel
theorem dI_1_5 : decode byI_1 5 = .ok (.iconst 4, 1) := by decide +kernel
theorem dI_1_6 : decode byI_1 6 = .ok (.newarray .int, 2) := by decide +kernel
theorem dI_1_8 : decode byI_1 8 = .ok (.putfield 9, 3) := by decide +kernel
theorem dI_1_11 : decode byI_1 11 = .ok (.aload_n 0, 1) := by decide +kernel
theorem dI_1_12 : decode byI_1 12 = .ok (.iconst 4, 1) := by decide +kernel
theorem dI_1_13 : decode byI_1 13 = .ok (.newarray .int, 2) := by decide +kernel
theorem dI_1_15 : decode byI_1 15 = .ok (.putfield 15, 3) := by decide +kernel
theorem dI_1_18 : decode byI_1 18 = .ok (.aload_n 0, 1) := by decide +kernel
theorem dI_1_19 : decode byI_1 19 = .ok (.bipush 6, 2) := by decide +kernel
theorem dI_1_21 : decode byI_1 21 = .ok (.newarray .int, 2) := by decide +kernel
theorem dI_1_23 : decode byI_1 23 = .ok (.putfield 18, 3) := by decide +kernel
theorem dI_1_26 : decode byI_1 26 = .ok (.aload_n 0, 1) := by decide +kernel
theorem dI_1_27 : decode byI_1 27 = .ok (.bipush 6, 2) := by decide +kernel
theorem dI_1_29 : decode byI_1 29 = .ok (.newarray .int, 2) := by decide +kernel
theorem dI_1_31 : decode byI_1 31 = .ok (.putfield 21, 3) := by decide +kernel
theorem dI_1_34 : decode byI_1 34 = .ok (.aload_n 0, 1) := by decide +kernel
theorem dI_1_35 : decode byI_1 35 = .ok (.bipush 6, 2) := by decide +kernel
theorem dI_1_37 : decode byI_1 37 = .ok (.newarray .int, 2) := by decide +kernel
theorem dI_1_39 : decode byI_1 39 = .ok (.putfield 24, 3) := by decide +kernel
theorem dI_1_42 : decode byI_1 42 = .ok (.aload_n 0, 1) := by decide +kernel
theorem dI_1_43 : decode byI_1 43 = .ok (.bipush 6, 2) := by decide +kernel
theorem dI_1_45 : decode byI_1 45 = .ok (.newarray .int, 2) := by decide +kernel
theorem dI_1_47 : decode byI_1 47 = .ok (.putfield 27, 3) := by decide +kernel
theorem dI_1_50 : decode byI_1 50 = .ok (.aload_n 0, 1) := by decide +kernel
theorem dI_1_51 : decode byI_1 51 = .ok (.bipush 6, 2) := by decide +kernel
theorem dI_1_53 : decode byI_1 53 = .ok (.newarray .int, 2) := by decide +kernel
theorem dI_1_55 : decode byI_1 55 = .ok (.putfield 30, 3) := by decide +kernel
theorem dI_1_58 : decode byI_1 58 = .ok (.aload_n 0, 1) := by decide +kernel
theorem dI_1_59 : decode byI_1 59 = .ok (.bipush 6, 2) := by decide +kernel
theorem dI_1_61 : decode byI_1 61 = .ok (.newarray .int, 2) := by decide +kernel
theorem dI_1_63 : decode byI_1 63 = .ok (.putfield 33, 3) := by decide +kernel
theorem dI_1_66 : decode byI_1 66 = .ok (.return_, 1) := by decide +kernel
set_option maxHeartbeats 4000000 in
set_option maxRecDepth 100000 in
theorem cI_1 (l : Launch) (D : va_G) (cA cZ : ClassId) (h0 sz : Nat) : Met l yI_1 wsI_1 ({ frames := 1, cells := 8, slots := 44, locals := 12 }) (va_Pc [.ref h0] (cPre D cA cZ h0 sz 1 [.null, .null, .null, .null, .null, .null, .null, .null, .int 0, .int 0, .int 0, .int 0, .int 0, .int 0, .int 0])) (va_Qv (fun q : Nat → Nat => q 0 = h0) (cPost D cA cZ h0 sz 1 [.null, .null, .null, .null, .null, .null, .null, .null, .int 0, .int 0, .int 0, .int 0, .int 0, .int 0, .int 0] (wI_1 cA cZ)) (va_A [(h0, .inr (1, [.null, .null, .null, .null, .null, .null, .null, .null, .int 0, .int 0, .int 0, .int 0, .int 0, .int 0, .int 0]))] sz)) 8 44 (va_A [(h0, .inr (1, [.null, .null, .null, .null, .null, .null, .null, .null, .int 0, .int 0, .int 0, .int 0, .int 0, .int 0, .int 0]))] sz) := by
  refine Met.ofW (cc := byI_1) (maxL := 1) (ret := none) (by decide) rfl ?_
  intro p e s m args below meth c s₁ B hml hv
  obtain ⟨rfl, hsz, hP, hK, hD0⟩ := hv
  have hx := B.exec
  have hb := B.bytes
  have hr := B.returns
  have hts0 := atoms_spec (ws := wsI_1) B.pre
  have hts : ∀ w ∈ tb, w.before _ s = true := fun w hw => hts0 w (List.mem_cons_of_mem _ hw)
  have hown : s.vm.findClass (cn 1) = some m.cls := findClass_of_methodNamed B.named
  have hin : meth.name = "<init>" := (name_of_methodNamed B.named B.method).1
  subst hsz
  have hD := hD0.self (sz := s.heap.size)
  unfold cPost
  generalize hAe : va_A [(h0, .inr (1, [.null, .null, .null, .null, .null, .null, .null, .null, .int 0, .int 0, .int 0, .int 0, .int 0, .int 0, .int 0]))] s.heap.size = A at hD ⊢
  have hA : ∀ q : Nat, s.heap.size ≤ q → A q := fun q h => by rw [← hAe]; exact Or.inr h
  have hS : va_S A s.heap s.heap [] := va_S.rf
  have hP : va_P D cl13 [(h0, .inr (1, [.null, .null, .null, .null, .null, .null, .null, .null, .int 0, .int 0, .int 0, .int 0, .int 0, .int 0, .int 0]))] s.heap := hP
  have hl := lv_entry ([.ref h0]) (n := 1) (Nat.le_of_ble_eq_true rfl)
  rw [lg_entry_eq]
  generalize (lg_sl ([.ref h0]) ++ List.replicate (1 - (lg_sl ([.ref h0])).length) Slot.unset).toArray = ls at hl ⊢
  have hl : lv_has ls 1 [(0, .ref h0)] := hl
  refine lv_aload_n hx hb dI_1_0 rfl (lv_at hl 0 rfl) ?_
  refine W.objInit hx hb hown (hts (.methodLink (cn 1) 3 Lib.objectInit) (isW_mem (p := 67) (by decide +kernel))) (hts _ w_oI) (hts _ w_oC) rfl (by rw [hml]; exact hl.1) rfl dI_1_1 (Nat.le_of_ble_eq_true rfl) (Nat.le_of_ble_eq_true rfl) ?_
  refine W.eq (g2 := F0 m 4 ls []) rfl ?_
  refine lv_aload_n hx hb dI_1_4 rfl (lv_at hl 0 rfl) ?_
  refine lv_iconst (v := 4) hx hb dI_1_5 (by decide) ?_
  refine cNewI hx hb hts hK hP hD hS hA (n := 4) (N := 4) (by decide) (by decide) (by decide) (Nat.le_of_ble_eq_true rfl) (Nat.le_of_ble_eq_true rfl) dI_1_6 (fun q1 H hP hD hS => ?_)
  have hP : va_P D cl13 [(h0, .inr (1, [.null, .null, .null, .null, .null, .null, .null, .null, .int 0, .int 0, .int 0, .int 0, .int 0, .int 0, .int 0])), (q1, .inl (cA, (4, .inl (fun _ => 0))))] H := hP
  have hD : va_D A [(h0, .inr (1, [.null, .null, .null, .null, .null, .null, .null, .null, .int 0, .int 0, .int 0, .int 0, .int 0, .int 0, .int 0])), (q1, .inl (cA, (4, .inl (fun _ => 0))))] := hD
  refine W.widen (k := 1) (n := 4) (by decide) (by decide) ?_
  refine cPutF (ci := 1) (v := .ref (q1)) hx hb hts (by decide) hown hin hK hP hD hS rfl 0 (by decide) (isW_mem (p := 68) (by decide +kernel)) rfl rfl rfl rfl (Nat.le_of_ble_eq_true rfl) dI_1_8 (fun H locs hP hD hS => ?_)
  have hP : va_P D cl13 [(h0, .inr (1, [.ref (q1), .null, .null, .null, .null, .null, .null, .null, .int 0, .int 0, .int 0, .int 0, .int 0, .int 0, .int 0])), (q1, .inl (cA, (4, .inl (fun _ => 0))))] H := hP
  have hD : va_D A [(h0, .inr (1, [.ref (q1), .null, .null, .null, .null, .null, .null, .null, .int 0, .int 0, .int 0, .int 0, .int 0, .int 0, .int 0])), (q1, .inl (cA, (4, .inl (fun _ => 0))))] := hD
  refine lv_aload_n hx hb dI_1_11 rfl (lv_at hl 0 rfl) ?_
  refine lv_iconst (v := 4) hx hb dI_1_12 (by decide) ?_
  refine cNewI hx hb hts hK hP hD hS hA (n := 4) (N := 4) (by decide) (by decide) (by decide) (Nat.le_of_ble_eq_true rfl) (Nat.le_of_ble_eq_true rfl) dI_1_13 (fun q2 H hP hD hS => ?_)
  have hP : va_P D cl13 [(h0, .inr (1, [.ref (q1), .null, .null, .null, .null, .null, .null, .null, .int 0, .int 0, .int 0, .int 0, .int 0, .int 0, .int 0])), (q1, .inl (cA, (4, .inl (fun _ => 0)))), (q2, .inl (cA, (4, .inl (fun _ => 0))))] H := hP
  have hD : va_D A [(h0, .inr (1, [.ref (q1), .null, .null, .null, .null, .null, .null, .null, .int 0, .int 0, .int 0, .int 0, .int 0, .int 0, .int 0])), (q1, .inl (cA, (4, .inl (fun _ => 0)))), (q2, .inl (cA, (4, .inl (fun _ => 0))))] := hD
  refine W.widen (k := 2) (n := 8) (by decide) (by decide) ?_
  refine cPutF (ci := 1) (v := .ref (q2)) hx hb hts (by decide) hown hin hK hP hD hS rfl 1 (by decide) (isW_mem (p := 69) (by decide +kernel)) rfl rfl rfl rfl (Nat.le_of_ble_eq_true rfl) dI_1_15 (fun H locs hP hD hS => ?_)
  have hP : va_P D cl13 [(h0, .inr (1, [.ref (q1), .ref (q2), .null, .null, .null, .null, .null, .null, .int 0, .int 0, .int 0, .int 0, .int 0, .int 0, .int 0])), (q1, .inl (cA, (4, .inl (fun _ => 0)))), (q2, .inl (cA, (4, .inl (fun _ => 0))))] H := hP
  have hD : va_D A [(h0, .inr (1, [.ref (q1), .ref (q2), .null, .null, .null, .null, .null, .null, .int 0, .int 0, .int 0, .int 0, .int 0, .int 0, .int 0])), (q1, .inl (cA, (4, .inl (fun _ => 0)))), (q2, .inl (cA, (4, .inl (fun _ => 0))))] := hD
  refine lv_aload_n hx hb dI_1_18 rfl (lv_at hl 0 rfl) ?_
  refine lv_bipush (v := 6) hx hb dI_1_19 (by decide) ?_
  refine cNewI hx hb hts hK hP hD hS hA (n := 6) (N := 6) (by decide) (by decide) (by decide) (Nat.le_of_ble_eq_true rfl) (Nat.le_of_ble_eq_true rfl) dI_1_21 (fun q3 H hP hD hS => ?_)
  have hP : va_P D cl13 [(h0, .inr (1, [.ref (q1), .ref (q2), .null, .null, .null, .null, .null, .null, .int 0, .int 0, .int 0, .int 0, .int 0, .int 0, .int 0])), (q1, .inl (cA, (4, .inl (fun _ => 0)))), (q2, .inl (cA, (4, .inl (fun _ => 0)))), (q3, .inl (cA, (6, .inl (fun _ => 0))))] H := hP
  have hD : va_D A [(h0, .inr (1, [.ref (q1), .ref (q2), .null, .null, .null, .null, .null, .null, .int 0, .int 0, .int 0, .int 0, .int 0, .int 0, .int 0])), (q1, .inl (cA, (4, .inl (fun _ => 0)))), (q2, .inl (cA, (4, .inl (fun _ => 0)))), (q3, .inl (cA, (6, .inl (fun _ => 0))))] := hD
  refine W.widen (k := 3) (n := 14) (by decide) (by decide) ?_
  refine cPutF (ci := 1) (v := .ref (q3)) hx hb hts (by decide) hown hin hK hP hD hS rfl 2 (by decide) (isW_mem (p := 70) (by decide +kernel)) rfl rfl rfl rfl (Nat.le_of_ble_eq_true rfl) dI_1_23 (fun H locs hP hD hS => ?_)
  have hP : va_P D cl13 [(h0, .inr (1, [.ref (q1), .ref (q2), .ref (q3), .null, .null, .null, .null, .null, .int 0, .int 0, .int 0, .int 0, .int 0, .int 0, .int 0])), (q1, .inl (cA, (4, .inl (fun _ => 0)))), (q2, .inl (cA, (4, .inl (fun _ => 0)))), (q3, .inl (cA, (6, .inl (fun _ => 0))))] H := hP
  have hD : va_D A [(h0, .inr (1, [.ref (q1), .ref (q2), .ref (q3), .null, .null, .null, .null, .null, .int 0, .int 0, .int 0, .int 0, .int 0, .int 0, .int 0])), (q1, .inl (cA, (4, .inl (fun _ => 0)))), (q2, .inl (cA, (4, .inl (fun _ => 0)))), (q3, .inl (cA, (6, .inl (fun _ => 0))))] := hD
  refine lv_aload_n hx hb dI_1_26 rfl (lv_at hl 0 rfl) ?_
  refine lv_bipush (v := 6) hx hb dI_1_27 (by decide) ?_
  refine cNewI hx hb hts hK hP hD hS hA (n := 6) (N := 6) (by decide) (by decide) (by decide) (Nat.le_of_ble_eq_true rfl) (Nat.le_of_ble_eq_true rfl) dI_1_29 (fun q4 H hP hD hS => ?_)
  have hP : va_P D cl13 [(h0, .inr (1, [.ref (q1), .ref (q2), .ref (q3), .null, .null, .null, .null, .null, .int 0, .int 0, .int 0, .int 0, .int 0, .int 0, .int 0])), (q1, .inl (cA, (4, .inl (fun _ => 0)))), (q2, .inl (cA, (4, .inl (fun _ => 0)))), (q3, .inl (cA, (6, .inl (fun _ => 0)))), (q4, .inl (cA, (6, .inl (fun _ => 0))))] H := hP
  have hD : va_D A [(h0, .inr (1, [.ref (q1), .ref (q2), .ref (q3), .null, .null, .null, .null, .null, .int 0, .int 0, .int 0, .int 0, .int 0, .int 0, .int 0])), (q1, .inl (cA, (4, .inl (fun _ => 0)))), (q2, .inl (cA, (4, .inl (fun _ => 0)))), (q3, .inl (cA, (6, .inl (fun _ => 0)))), (q4, .inl (cA, (6, .inl (fun _ => 0))))] := hD
  refine W.widen (k := 4) (n := 20) (by decide) (by decide) ?_
  refine cPutF (ci := 1) (v := .ref (q4)) hx hb hts (by decide) hown hin hK hP hD hS rfl 3 (by decide) (isW_mem (p := 73) (by decide +kernel)) rfl rfl rfl rfl (Nat.le_of_ble_eq_true rfl) dI_1_31 (fun H locs hP hD hS => ?_)
  have hP : va_P D cl13 [(h0, .inr (1, [.ref (q1), .ref (q2), .ref (q3), .ref (q4), .null, .null, .null, .null, .int 0, .int 0, .int 0, .int 0, .int 0, .int 0, .int 0])), (q1, .inl (cA, (4, .inl (fun _ => 0)))), (q2, .inl (cA, (4, .inl (fun _ => 0)))), (q3, .inl (cA, (6, .inl (fun _ => 0)))), (q4, .inl (cA, (6, .inl (fun _ => 0))))] H := hP
  have hD : va_D A [(h0, .inr (1, [.ref (q1), .ref (q2), .ref (q3), .ref (q4), .null, .null, .null, .null, .int 0, .int 0, .int 0, .int 0, .int 0, .int 0, .int 0])), (q1, .inl (cA, (4, .inl (fun _ => 0)))), (q2, .inl (cA, (4, .inl (fun _ => 0)))), (q3, .inl (cA, (6, .inl (fun _ => 0)))), (q4, .inl (cA, (6, .inl (fun _ => 0))))] := hD
  refine lv_aload_n hx hb dI_1_34 rfl (lv_at hl 0 rfl) ?_
  refine lv_bipush (v := 6) hx hb dI_1_35 (by decide) ?_
  refine cNewI hx hb hts hK hP hD hS hA (n := 6) (N := 6) (by decide) (by decide) (by decide) (Nat.le_of_ble_eq_true rfl) (Nat.le_of_ble_eq_true rfl) dI_1_37 (fun q5 H hP hD hS => ?_)
  have hP : va_P D cl13 [(h0, .inr (1, [.ref (q1), .ref (q2), .ref (q3), .ref (q4), .null, .null, .null, .null, .int 0, .int 0, .int 0, .int 0, .int 0, .int 0, .int 0])), (q1, .inl (cA, (4, .inl (fun _ => 0)))), (q2, .inl (cA, (4, .inl (fun _ => 0)))), (q3, .inl (cA, (6, .inl (fun _ => 0)))), (q4, .inl (cA, (6, .inl (fun _ => 0)))), (q5, .inl (cA, (6, .inl (fun _ => 0))))] H := hP
  have hD : va_D A [(h0, .inr (1, [.ref (q1), .ref (q2), .ref (q3), .ref (q4), .null, .null, .null, .null, .int 0, .int 0, .int 0, .int 0, .int 0, .int 0, .int 0])), (q1, .inl (cA, (4, .inl (fun _ => 0)))), (q2, .inl (cA, (4, .inl (fun _ => 0)))), (q3, .inl (cA, (6, .inl (fun _ => 0)))), (q4, .inl (cA, (6, .inl (fun _ => 0)))), (q5, .inl (cA, (6, .inl (fun _ => 0))))] := hD
  refine W.widen (k := 5) (n := 26) (by decide) (by decide) ?_
  refine cPutF (ci := 1) (v := .ref (q5)) hx hb hts (by decide) hown hin hK hP hD hS rfl 4 (by decide) (isW_mem (p := 76) (by decide +kernel)) rfl rfl rfl rfl (Nat.le_of_ble_eq_true rfl) dI_1_39 (fun H locs hP hD hS => ?_)
  have hP : va_P D cl13 [(h0, .inr (1, [.ref (q1), .ref (q2), .ref (q3), .ref (q4), .ref (q5), .null, .null, .null, .int 0, .int 0, .int 0, .int 0, .int 0, .int 0, .int 0])), (q1, .inl (cA, (4, .inl (fun _ => 0)))), (q2, .inl (cA, (4, .inl (fun _ => 0)))), (q3, .inl (cA, (6, .inl (fun _ => 0)))), (q4, .inl (cA, (6, .inl (fun _ => 0)))), (q5, .inl (cA, (6, .inl (fun _ => 0))))] H := hP
  have hD : va_D A [(h0, .inr (1, [.ref (q1), .ref (q2), .ref (q3), .ref (q4), .ref (q5), .null, .null, .null, .int 0, .int 0, .int 0, .int 0, .int 0, .int 0, .int 0])), (q1, .inl (cA, (4, .inl (fun _ => 0)))), (q2, .inl (cA, (4, .inl (fun _ => 0)))), (q3, .inl (cA, (6, .inl (fun _ => 0)))), (q4, .inl (cA, (6, .inl (fun _ => 0)))), (q5, .inl (cA, (6, .inl (fun _ => 0))))] := hD
  refine lv_aload_n hx hb dI_1_42 rfl (lv_at hl 0 rfl) ?_
  refine lv_bipush (v := 6) hx hb dI_1_43 (by decide) ?_
  refine cNewI hx hb hts hK hP hD hS hA (n := 6) (N := 6) (by decide) (by decide) (by decide) (Nat.le_of_ble_eq_true rfl) (Nat.le_of_ble_eq_true rfl) dI_1_45 (fun q6 H hP hD hS => ?_)
  have hP : va_P D cl13 [(h0, .inr (1, [.ref (q1), .ref (q2), .ref (q3), .ref (q4), .ref (q5), .null, .null, .null, .int 0, .int 0, .int 0, .int 0, .int 0, .int 0, .int 0])), (q1, .inl (cA, (4, .inl (fun _ => 0)))), (q2, .inl (cA, (4, .inl (fun _ => 0)))), (q3, .inl (cA, (6, .inl (fun _ => 0)))), (q4, .inl (cA, (6, .inl (fun _ => 0)))), (q5, .inl (cA, (6, .inl (fun _ => 0)))), (q6, .inl (cA, (6, .inl (fun _ => 0))))] H := hP
  have hD : va_D A [(h0, .inr (1, [.ref (q1), .ref (q2), .ref (q3), .ref (q4), .ref (q5), .null, .null, .null, .int 0, .int 0, .int 0, .int 0, .int 0, .int 0, .int 0])), (q1, .inl (cA, (4, .inl (fun _ => 0)))), (q2, .inl (cA, (4, .inl (fun _ => 0)))), (q3, .inl (cA, (6, .inl (fun _ => 0)))), (q4, .inl (cA, (6, .inl (fun _ => 0)))), (q5, .inl (cA, (6, .inl (fun _ => 0)))), (q6, .inl (cA, (6, .inl (fun _ => 0))))] := hD
  refine W.widen (k := 6) (n := 32) (by decide) (by decide) ?_
  refine cPutF (ci := 1) (v := .ref (q6)) hx hb hts (by decide) hown hin hK hP hD hS rfl 5 (by decide) (isW_mem (p := 79) (by decide +kernel)) rfl rfl rfl rfl (Nat.le_of_ble_eq_true rfl) dI_1_47 (fun H locs hP hD hS => ?_)
  have hP : va_P D cl13 [(h0, .inr (1, [.ref (q1), .ref (q2), .ref (q3), .ref (q4), .ref (q5), .ref (q6), .null, .null, .int 0, .int 0, .int 0, .int 0, .int 0, .int 0, .int 0])), (q1, .inl (cA, (4, .inl (fun _ => 0)))), (q2, .inl (cA, (4, .inl (fun _ => 0)))), (q3, .inl (cA, (6, .inl (fun _ => 0)))), (q4, .inl (cA, (6, .inl (fun _ => 0)))), (q5, .inl (cA, (6, .inl (fun _ => 0)))), (q6, .inl (cA, (6, .inl (fun _ => 0))))] H := hP
  have hD : va_D A [(h0, .inr (1, [.ref (q1), .ref (q2), .ref (q3), .ref (q4), .ref (q5), .ref (q6), .null, .null, .int 0, .int 0, .int 0, .int 0, .int 0, .int 0, .int 0])), (q1, .inl (cA, (4, .inl (fun _ => 0)))), (q2, .inl (cA, (4, .inl (fun _ => 0)))), (q3, .inl (cA, (6, .inl (fun _ => 0)))), (q4, .inl (cA, (6, .inl (fun _ => 0)))), (q5, .inl (cA, (6, .inl (fun _ => 0)))), (q6, .inl (cA, (6, .inl (fun _ => 0))))] := hD
  refine lv_aload_n hx hb dI_1_50 rfl (lv_at hl 0 rfl) ?_
  refine lv_bipush (v := 6) hx hb dI_1_51 (by decide) ?_
  refine cNewI hx hb hts hK hP hD hS hA (n := 6) (N := 6) (by decide) (by decide) (by decide) (Nat.le_of_ble_eq_true rfl) (Nat.le_of_ble_eq_true rfl) dI_1_53 (fun q7 H hP hD hS => ?_)
  have hP : va_P D cl13 [(h0, .inr (1, [.ref (q1), .ref (q2), .ref (q3), .ref (q4), .ref (q5), .ref (q6), .null, .null, .int 0, .int 0, .int 0, .int 0, .int 0, .int 0, .int 0])), (q1, .inl (cA, (4, .inl (fun _ => 0)))), (q2, .inl (cA, (4, .inl (fun _ => 0)))), (q3, .inl (cA, (6, .inl (fun _ => 0)))), (q4, .inl (cA, (6, .inl (fun _ => 0)))), (q5, .inl (cA, (6, .inl (fun _ => 0)))), (q6, .inl (cA, (6, .inl (fun _ => 0)))), (q7, .inl (cA, (6, .inl (fun _ => 0))))] H := hP
  have hD : va_D A [(h0, .inr (1, [.ref (q1), .ref (q2), .ref (q3), .ref (q4), .ref (q5), .ref (q6), .null, .null, .int 0, .int 0, .int 0, .int 0, .int 0, .int 0, .int 0])), (q1, .inl (cA, (4, .inl (fun _ => 0)))), (q2, .inl (cA, (4, .inl (fun _ => 0)))), (q3, .inl (cA, (6, .inl (fun _ => 0)))), (q4, .inl (cA, (6, .inl (fun _ => 0)))), (q5, .inl (cA, (6, .inl (fun _ => 0)))), (q6, .inl (cA, (6, .inl (fun _ => 0)))), (q7, .inl (cA, (6, .inl (fun _ => 0))))] := hD
  refine W.widen (k := 7) (n := 38) (by decide) (by decide) ?_
  refine cPutF (ci := 1) (v := .ref (q7)) hx hb hts (by decide) hown hin hK hP hD hS rfl 6 (by decide) (isW_mem (p := 81) (by decide +kernel)) rfl rfl rfl rfl (Nat.le_of_ble_eq_true rfl) dI_1_55 (fun H locs hP hD hS => ?_)
  have hP : va_P D cl13 [(h0, .inr (1, [.ref (q1), .ref (q2), .ref (q3), .ref (q4), .ref (q5), .ref (q6), .ref (q7), .null, .int 0, .int 0, .int 0, .int 0, .int 0, .int 0, .int 0])), (q1, .inl (cA, (4, .inl (fun _ => 0)))), (q2, .inl (cA, (4, .inl (fun _ => 0)))), (q3, .inl (cA, (6, .inl (fun _ => 0)))), (q4, .inl (cA, (6, .inl (fun _ => 0)))), (q5, .inl (cA, (6, .inl (fun _ => 0)))), (q6, .inl (cA, (6, .inl (fun _ => 0)))), (q7, .inl (cA, (6, .inl (fun _ => 0))))] H := hP
  have hD : va_D A [(h0, .inr (1, [.ref (q1), .ref (q2), .ref (q3), .ref (q4), .ref (q5), .ref (q6), .ref (q7), .null, .int 0, .int 0, .int 0, .int 0, .int 0, .int 0, .int 0])), (q1, .inl (cA, (4, .inl (fun _ => 0)))), (q2, .inl (cA, (4, .inl (fun _ => 0)))), (q3, .inl (cA, (6, .inl (fun _ => 0)))), (q4, .inl (cA, (6, .inl (fun _ => 0)))), (q5, .inl (cA, (6, .inl (fun _ => 0)))), (q6, .inl (cA, (6, .inl (fun _ => 0)))), (q7, .inl (cA, (6, .inl (fun _ => 0))))] := hD
  refine lv_aload_n hx hb dI_1_58 rfl (lv_at hl 0 rfl) ?_
  refine lv_bipush (v := 6) hx hb dI_1_59 (by decide) ?_
  refine cNewI hx hb hts hK hP hD hS hA (n := 6) (N := 6) (by decide) (by decide) (by decide) (Nat.le_of_ble_eq_true rfl) (Nat.le_of_ble_eq_true rfl) dI_1_61 (fun q8 H hP hD hS => ?_)
  have hP : va_P D cl13 [(h0, .inr (1, [.ref (q1), .ref (q2), .ref (q3), .ref (q4), .ref (q5), .ref (q6), .ref (q7), .null, .int 0, .int 0, .int 0, .int 0, .int 0, .int 0, .int 0])), (q1, .inl (cA, (4, .inl (fun _ => 0)))), (q2, .inl (cA, (4, .inl (fun _ => 0)))), (q3, .inl (cA, (6, .inl (fun _ => 0)))), (q4, .inl (cA, (6, .inl (fun _ => 0)))), (q5, .inl (cA, (6, .inl (fun _ => 0)))), (q6, .inl (cA, (6, .inl (fun _ => 0)))), (q7, .inl (cA, (6, .inl (fun _ => 0)))), (q8, .inl (cA, (6, .inl (fun _ => 0))))] H := hP
  have hD : va_D A [(h0, .inr (1, [.ref (q1), .ref (q2), .ref (q3), .ref (q4), .ref (q5), .ref (q6), .ref (q7), .null, .int 0, .int 0, .int 0, .int 0, .int 0, .int 0, .int 0])), (q1, .inl (cA, (4, .inl (fun _ => 0)))), (q2, .inl (cA, (4, .inl (fun _ => 0)))), (q3, .inl (cA, (6, .inl (fun _ => 0)))), (q4, .inl (cA, (6, .inl (fun _ => 0)))), (q5, .inl (cA, (6, .inl (fun _ => 0)))), (q6, .inl (cA, (6, .inl (fun _ => 0)))), (q7, .inl (cA, (6, .inl (fun _ => 0)))), (q8, .inl (cA, (6, .inl (fun _ => 0))))] := hD
  refine W.widen (k := 8) (n := 44) (by decide) (by decide) ?_
  refine cPutF (ci := 1) (v := .ref (q8)) hx hb hts (by decide) hown hin hK hP hD hS rfl 7 (by decide) (isW_mem (p := 83) (by decide +kernel)) rfl rfl rfl rfl (Nat.le_of_ble_eq_true rfl) dI_1_63 (fun H locs hP hD hS => ?_)
  have hP : va_P D cl13 [(h0, .inr (1, [.ref (q1), .ref (q2), .ref (q3), .ref (q4), .ref (q5), .ref (q6), .ref (q7), .ref (q8), .int 0, .int 0, .int 0, .int 0, .int 0, .int 0, .int 0])), (q1, .inl (cA, (4, .inl (fun _ => 0)))), (q2, .inl (cA, (4, .inl (fun _ => 0)))), (q3, .inl (cA, (6, .inl (fun _ => 0)))), (q4, .inl (cA, (6, .inl (fun _ => 0)))), (q5, .inl (cA, (6, .inl (fun _ => 0)))), (q6, .inl (cA, (6, .inl (fun _ => 0)))), (q7, .inl (cA, (6, .inl (fun _ => 0)))), (q8, .inl (cA, (6, .inl (fun _ => 0))))] H := hP
  have hD : va_D A [(h0, .inr (1, [.ref (q1), .ref (q2), .ref (q3), .ref (q4), .ref (q5), .ref (q6), .ref (q7), .ref (q8), .int 0, .int 0, .int 0, .int 0, .int 0, .int 0, .int 0])), (q1, .inl (cA, (4, .inl (fun _ => 0)))), (q2, .inl (cA, (4, .inl (fun _ => 0)))), (q3, .inl (cA, (6, .inl (fun _ => 0)))), (q4, .inl (cA, (6, .inl (fun _ => 0)))), (q5, .inl (cA, (6, .inl (fun _ => 0)))), (q6, .inl (cA, (6, .inl (fun _ => 0)))), (q7, .inl (cA, (6, .inl (fun _ => 0)))), (q8, .inl (cA, (6, .inl (fun _ => 0))))] := hD
  have hP9 : va_P D cl13 (wI_1 cA cZ (fun i => ([h0, q1, q2, q3, q4, q5, q6, q7, q8] : List Nat).getD i 0)) H := hP
  have hD9 : va_D A (wI_1 cA cZ (fun i => ([h0, q1, q2, q3, q4, q5, q6, q7, q8] : List Nat).getD i 0)) := hD
  exact W.vret hx hb hr (fun t ht hW => ⟨⟨(fun i => ([h0, q1, q2, q3, q4, q5, q6, q7, q8] : List Nat).getD i 0), rfl, rfl, by rw [ht]; exact hP9, va_K.moved hW.alike hK, hD9⟩, hS.F ht⟩) hS.2.2 dI_1_66
theorem zI_2 : ∀ j, j < nf 2 → defaultValue (fTy 2 j) = vp_V [.null] j := by decide +kernel
def wI_2 (cA cZ : ClassId) (q : Nat → Nat) : va_W := [(q 0, .inr (2, [.ref (q 1)])), (q 1, .inl (cA, (36, .inl (fun _ => 0))))]
abbrev byI_2 : ByteArray := prog_4_method_1_code
def yI_2 : MethodName := ⟨cn 2, "<init>", "()V"⟩
def wsI_2 : List Jvm.Cond := .code yI_2 byI_2 1 none :: tb
theorem gI_2 : GoodIn tb wsI_2 := by
  intro w hw
  have hm : w ∈ tb := by
    rcases List.mem_cons.mp hw with rfl | h2
    · exact isW_mem (p := 157) (by decide +kernel)
    · exact h2
  exact ⟨hm, good_of_word (List.mem_filter.mp hm).2⟩
theorem dI_2_0 : decode byI_2 0 = .ok (.aload_n 0, 1) := by decide +kernel
theorem dI_2_1 : decode byI_2 1 = .ok (.invokespecial 3, 3) := by decide +kernel
theorem dI_2_4 : decode byI_2 4 = .ok (.aload_n 0, 1) := by decide +kernel
theorem dI_2_5 : decode byI_2 5 = .ok (.bipush 36, 2) := by decide +kernel
theorem dI_2_7 : decode byI_2 7 = .ok (.newarray .int, 2) := by decide +kernel
theorem dI_2_9 : decode byI_2 9 = .ok (.putfield 11, 3) := by decide +kernel
theorem dI_2_12 : decode byI_2 12 = .ok (.return_, 1) := by decide +kernel
set_option maxHeartbeats 4000000 in
set_option maxRecDepth 100000 in
theorem cI_2 (l : Launch) (D : va_G) (cA cZ : ClassId) (h0 sz : Nat) : Met l yI_2 wsI_2 ({ frames := 1, cells := 1, slots := 36, locals := 12 }) (va_Pc [.ref h0] (cPre D cA cZ h0 sz 2 [.null])) (va_Qv (fun q : Nat → Nat => q 0 = h0) (cPost D cA cZ h0 sz 2 [.null] (wI_2 cA cZ)) (va_A [(h0, .inr (2, [.null]))] sz)) 1 36 (va_A [(h0, .inr (2, [.null]))] sz) := by
  refine Met.ofW (cc := byI_2) (maxL := 1) (ret := none) (by decide) rfl ?_
  intro p e s m args below meth c s₁ B hml hv
  obtain ⟨rfl, hsz, hP, hK, hD0⟩ := hv
  have hx := B.exec
  have hb := B.bytes
  have hr := B.returns
  have hts0 := atoms_spec (ws := wsI_2) B.pre
  have hts : ∀ w ∈ tb, w.before _ s = true := fun w hw => hts0 w (List.mem_cons_of_mem _ hw)
  have hown : s.vm.findClass (cn 2) = some m.cls := findClass_of_methodNamed B.named
  have hin : meth.name = "<init>" := (name_of_methodNamed B.named B.method).1
  subst hsz
  have hD := hD0.self (sz := s.heap.size)
  unfold cPost
  generalize hAe : va_A [(h0, .inr (2, [.null]))] s.heap.size = A at hD ⊢
  have hA : ∀ q : Nat, s.heap.size ≤ q → A q := fun q h => by rw [← hAe]; exact Or.inr h
  have hS : va_S A s.heap s.heap [] := va_S.rf
  have hP : va_P D cl13 [(h0, .inr (2, [.null]))] s.heap := hP
  have hl := lv_entry ([.ref h0]) (n := 1) (Nat.le_of_ble_eq_true rfl)
  rw [lg_entry_eq]
  generalize (lg_sl ([.ref h0]) ++ List.replicate (1 - (lg_sl ([.ref h0])).length) Slot.unset).toArray = ls at hl ⊢
  have hl : lv_has ls 1 [(0, .ref h0)] := hl
  refine lv_aload_n hx hb dI_2_0 rfl (lv_at hl 0 rfl) ?_
  refine W.objInit hx hb hown (hts (.methodLink (cn 2) 3 Lib.objectInit) (isW_mem (p := 158) (by decide +kernel))) (hts _ w_oI) (hts _ w_oC) rfl (by rw [hml]; exact hl.1) rfl dI_2_1 (Nat.le_of_ble_eq_true rfl) (Nat.le_of_ble_eq_true rfl) ?_
  refine W.eq (g2 := F0 m 4 ls []) rfl ?_
  refine lv_aload_n hx hb dI_2_4 rfl (lv_at hl 0 rfl) ?_
  refine lv_bipush (v := 36) hx hb dI_2_5 (by decide) ?_
  refine cNewI hx hb hts hK hP hD hS hA (n := 36) (N := 36) (by decide) (by decide) (by decide) (Nat.le_of_ble_eq_true rfl) (Nat.le_of_ble_eq_true rfl) dI_2_7 (fun q1 H hP hD hS => ?_)
  have hP : va_P D cl13 [(h0, .inr (2, [.null])), (q1, .inl (cA, (36, .inl (fun _ => 0))))] H := hP
  have hD : va_D A [(h0, .inr (2, [.null])), (q1, .inl (cA, (36, .inl (fun _ => 0))))] := hD
  refine W.widen (k := 1) (n := 36) (by decide) (by decide) ?_
  refine cPutF (ci := 2) (v := .ref (q1)) hx hb hts (by decide) hown hin hK hP hD hS rfl 0 (by decide) (isW_mem (p := 159) (by decide +kernel)) rfl rfl rfl rfl (Nat.le_of_ble_eq_true rfl) dI_2_9 (fun H locs hP hD hS => ?_)
  have hP : va_P D cl13 [(h0, .inr (2, [.ref (q1)])), (q1, .inl (cA, (36, .inl (fun _ => 0))))] H := hP
  have hD : va_D A [(h0, .inr (2, [.ref (q1)])), (q1, .inl (cA, (36, .inl (fun _ => 0))))] := hD
  have hP9 : va_P D cl13 (wI_2 cA cZ (fun i => ([h0, q1] : List Nat).getD i 0)) H := hP
  have hD9 : va_D A (wI_2 cA cZ (fun i => ([h0, q1] : List Nat).getD i 0)) := hD
  exact W.vret hx hb hr (fun t ht hW => ⟨⟨(fun i => ([h0, q1] : List Nat).getD i 0), rfl, rfl, by rw [ht]; exact hP9, va_K.moved hW.alike hK, hD9⟩, hS.F ht⟩) hS.2.2 dI_2_12
theorem zI_3 : ∀ j, j < nf 3 → defaultValue (fTy 3 j) = vp_V [.int 0, .int 0, .int 0] j := by decide +kernel
def wI_3 (cA cZ : ClassId) (q : Nat → Nat) : va_W := [(q 0, .inr (3, [.int 0, .int 0, .int 60]))]
abbrev byI_3 : ByteArray := prog_5_method_1_code
def yI_3 : MethodName := ⟨cn 3, "<init>", "()V"⟩
def wsI_3 : List Jvm.Cond := .code yI_3 byI_3 1 none :: tb
theorem gI_3 : GoodIn tb wsI_3 := by
  intro w hw
  have hm : w ∈ tb := by
    rcases List.mem_cons.mp hw with rfl | h2
    · exact isW_mem (p := 266) (by decide +kernel)
    · exact h2
  exact ⟨hm, good_of_word (List.mem_filter.mp hm).2⟩
theorem dI_3_0 : decode byI_3 0 = .ok (.aload_n 0, 1) := by decide +kernel
theorem dI_3_1 : decode byI_3 1 = .ok (.invokespecial 3, 3) := by decide +kernel
theorem dI_3_4 : decode byI_3 4 = .ok (.aload_n 0, 1) := by decide +kernel
theorem dI_3_5 : decode byI_3 5 = .ok (.bipush 60, 2) := by decide +kernel
theorem dI_3_7 : decode byI_3 7 = .ok (.putfield 9, 3) := by decide +kernel
theorem dI_3_10 : decode byI_3 10 = .ok (.return_, 1) := by decide +kernel
set_option maxHeartbeats 4000000 in
set_option maxRecDepth 100000 in
theorem cI_3 (l : Launch) (D : va_G) (cA cZ : ClassId) (h0 sz : Nat) : Met l yI_3 wsI_3 ({ frames := 1, cells := 0, slots := 0, locals := 12 }) (va_Pc [.ref h0] (cPre D cA cZ h0 sz 3 [.int 0, .int 0, .int 0])) (va_Qv (fun q : Nat → Nat => q 0 = h0) (cPost D cA cZ h0 sz 3 [.int 0, .int 0, .int 0] (wI_3 cA cZ)) (va_A [(h0, .inr (3, [.int 0, .int 0, .int 0]))] sz)) 0 0 (va_A [(h0, .inr (3, [.int 0, .int 0, .int 0]))] sz) := by
  refine Met.ofW (cc := byI_3) (maxL := 1) (ret := none) (by decide) rfl ?_
  intro p e s m args below meth c s₁ B hml hv
  obtain ⟨rfl, hsz, hP, hK, hD0⟩ := hv
  have hx := B.exec
  have hb := B.bytes
  have hr := B.returns
  have hts0 := atoms_spec (ws := wsI_3) B.pre
  have hts : ∀ w ∈ tb, w.before _ s = true := fun w hw => hts0 w (List.mem_cons_of_mem _ hw)
  have hown : s.vm.findClass (cn 3) = some m.cls := findClass_of_methodNamed B.named
  have hin : meth.name = "<init>" := (name_of_methodNamed B.named B.method).1
  subst hsz
  have hD := hD0.self (sz := s.heap.size)
  unfold cPost
  generalize hAe : va_A [(h0, .inr (3, [.int 0, .int 0, .int 0]))] s.heap.size = A at hD ⊢
  have hA : ∀ q : Nat, s.heap.size ≤ q → A q := fun q h => by rw [← hAe]; exact Or.inr h
  have hS : va_S A s.heap s.heap [] := va_S.rf
  have hP : va_P D cl13 [(h0, .inr (3, [.int 0, .int 0, .int 0]))] s.heap := hP
  have hl := lv_entry ([.ref h0]) (n := 1) (Nat.le_of_ble_eq_true rfl)
  rw [lg_entry_eq]
  generalize (lg_sl ([.ref h0]) ++ List.replicate (1 - (lg_sl ([.ref h0])).length) Slot.unset).toArray = ls at hl ⊢
  have hl : lv_has ls 1 [(0, .ref h0)] := hl
  refine lv_aload_n hx hb dI_3_0 rfl (lv_at hl 0 rfl) ?_
  refine W.objInit hx hb hown (hts (.methodLink (cn 3) 3 Lib.objectInit) (isW_mem (p := 267) (by decide +kernel))) (hts _ w_oI) (hts _ w_oC) rfl (by rw [hml]; exact hl.1) rfl dI_3_1 (Nat.le_of_ble_eq_true rfl) (Nat.le_of_ble_eq_true rfl) ?_
  refine W.eq (g2 := F0 m 4 ls []) rfl ?_
  refine lv_aload_n hx hb dI_3_4 rfl (lv_at hl 0 rfl) ?_
  refine lv_bipush (v := 60) hx hb dI_3_5 (by decide) ?_
  refine cPut (ci := 3) (v := .int 60) hx hb hts (by decide) hown hK hP hD hS rfl 2 (by decide) (isW_mem (p := 272) (by decide +kernel)) rfl rfl rfl (Nat.le_of_ble_eq_true rfl) dI_3_7 (fun H locs hP hD hS => ?_)
  have hP : va_P D cl13 [(h0, .inr (3, [.int 0, .int 0, .int 60]))] H := hP
  have hD : va_D A [(h0, .inr (3, [.int 0, .int 0, .int 60]))] := hD
  have hP9 : va_P D cl13 (wI_3 cA cZ (fun i => ([h0] : List Nat).getD i 0)) H := hP
  have hD9 : va_D A (wI_3 cA cZ (fun i => ([h0] : List Nat).getD i 0)) := hD
  exact W.vret hx hb hr (fun t ht hW => ⟨⟨(fun i => ([h0] : List Nat).getD i 0), rfl, rfl, by rw [ht]; exact hP9, va_K.moved hW.alike hK, hD9⟩, hS.F ht⟩) hS.2.2 dI_3_10
theorem zI_4 : ∀ j, j < nf 4 → defaultValue (fTy 4 j) = vp_V [.null, .int 0, .int 0] j := by decide +kernel
def wI_4 (cA cZ : ClassId) (q : Nat → Nat) : va_W := [(q 0, .inr (4, [.ref (q 1), .int 0, .int 0])), (q 1, .inl (cA, (51, .inl (fun _ => 0))))]
abbrev byI_4 : ByteArray := prog_6_method_1_code
def yI_4 : MethodName := ⟨cn 4, "<init>", "()V"⟩
def wsI_4 : List Jvm.Cond := .code yI_4 byI_4 1 none :: tb
theorem gI_4 : GoodIn tb wsI_4 := by
  intro w hw
  have hm : w ∈ tb := by
    rcases List.mem_cons.mp hw with rfl | h2
    · exact isW_mem (p := 248) (by decide +kernel)
    · exact h2
  exact ⟨hm, good_of_word (List.mem_filter.mp hm).2⟩
theorem dI_4_0 : decode byI_4 0 = .ok (.aload_n 0, 1) := by decide +kernel
theorem dI_4_1 : decode byI_4 1 = .ok (.invokespecial 1, 3) := by decide +kernel
theorem dI_4_4 : decode byI_4 4 = .ok (.aload_n 0, 1) := by decide +kernel
theorem dI_4_5 : decode byI_4 5 = .ok (.bipush 51, 2) := by decide +kernel
theorem dI_4_7 : decode byI_4 7 = .ok (.newarray .int, 2) := by decide +kernel
theorem dI_4_9 : decode byI_4 9 = .ok (.putfield 9, 3) := by decide +kernel
theorem dI_4_12 : decode byI_4 12 = .ok (.return_, 1) := by decide +kernel
set_option maxHeartbeats 4000000 in
set_option maxRecDepth 100000 in
theorem cI_4 (l : Launch) (D : va_G) (cA cZ : ClassId) (h0 sz : Nat) : Met l yI_4 wsI_4 ({ frames := 1, cells := 1, slots := 51, locals := 12 }) (va_Pc [.ref h0] (cPre D cA cZ h0 sz 4 [.null, .int 0, .int 0])) (va_Qv (fun q : Nat → Nat => q 0 = h0) (cPost D cA cZ h0 sz 4 [.null, .int 0, .int 0] (wI_4 cA cZ)) (va_A [(h0, .inr (4, [.null, .int 0, .int 0]))] sz)) 1 51 (va_A [(h0, .inr (4, [.null, .int 0, .int 0]))] sz) := by
  refine Met.ofW (cc := byI_4) (maxL := 1) (ret := none) (by decide) rfl ?_
  intro p e s m args below meth c s₁ B hml hv
  obtain ⟨rfl, hsz, hP, hK, hD0⟩ := hv
  have hx := B.exec
  have hb := B.bytes
  have hr := B.returns
  have hts0 := atoms_spec (ws := wsI_4) B.pre
  have hts : ∀ w ∈ tb, w.before _ s = true := fun w hw => hts0 w (List.mem_cons_of_mem _ hw)
  have hown : s.vm.findClass (cn 4) = some m.cls := findClass_of_methodNamed B.named
  have hin : meth.name = "<init>" := (name_of_methodNamed B.named B.method).1
  subst hsz
  have hD := hD0.self (sz := s.heap.size)
  unfold cPost
  generalize hAe : va_A [(h0, .inr (4, [.null, .int 0, .int 0]))] s.heap.size = A at hD ⊢
  have hA : ∀ q : Nat, s.heap.size ≤ q → A q := fun q h => by rw [← hAe]; exact Or.inr h
  have hS : va_S A s.heap s.heap [] := va_S.rf
  have hP : va_P D cl13 [(h0, .inr (4, [.null, .int 0, .int 0]))] s.heap := hP
  have hl := lv_entry ([.ref h0]) (n := 1) (Nat.le_of_ble_eq_true rfl)
  rw [lg_entry_eq]
  generalize (lg_sl ([.ref h0]) ++ List.replicate (1 - (lg_sl ([.ref h0])).length) Slot.unset).toArray = ls at hl ⊢
  have hl : lv_has ls 1 [(0, .ref h0)] := hl
  refine lv_aload_n hx hb dI_4_0 rfl (lv_at hl 0 rfl) ?_
  refine W.objInit hx hb hown (hts (.methodLink (cn 4) 1 Lib.objectInit) (isW_mem (p := 249) (by decide +kernel))) (hts _ w_oI) (hts _ w_oC) rfl (by rw [hml]; exact hl.1) rfl dI_4_1 (Nat.le_of_ble_eq_true rfl) (Nat.le_of_ble_eq_true rfl) ?_
  refine W.eq (g2 := F0 m 4 ls []) rfl ?_
  refine lv_aload_n hx hb dI_4_4 rfl (lv_at hl 0 rfl) ?_
  refine lv_bipush (v := 51) hx hb dI_4_5 (by decide) ?_
  refine cNewI hx hb hts hK hP hD hS hA (n := 51) (N := 51) (by decide) (by decide) (by decide) (Nat.le_of_ble_eq_true rfl) (Nat.le_of_ble_eq_true rfl) dI_4_7 (fun q1 H hP hD hS => ?_)
  have hP : va_P D cl13 [(h0, .inr (4, [.null, .int 0, .int 0])), (q1, .inl (cA, (51, .inl (fun _ => 0))))] H := hP
  have hD : va_D A [(h0, .inr (4, [.null, .int 0, .int 0])), (q1, .inl (cA, (51, .inl (fun _ => 0))))] := hD
  refine W.widen (k := 1) (n := 51) (by decide) (by decide) ?_
  refine cPutF (ci := 4) (v := .ref (q1)) hx hb hts (by decide) hown hin hK hP hD hS rfl 0 (by decide) (isW_mem (p := 250) (by decide +kernel)) rfl rfl rfl rfl (Nat.le_of_ble_eq_true rfl) dI_4_9 (fun H locs hP hD hS => ?_)
  have hP : va_P D cl13 [(h0, .inr (4, [.ref (q1), .int 0, .int 0])), (q1, .inl (cA, (51, .inl (fun _ => 0))))] H := hP
  have hD : va_D A [(h0, .inr (4, [.ref (q1), .int 0, .int 0])), (q1, .inl (cA, (51, .inl (fun _ => 0))))] := hD
  have hP9 : va_P D cl13 (wI_4 cA cZ (fun i => ([h0, q1] : List Nat).getD i 0)) H := hP
  have hD9 : va_D A (wI_4 cA cZ (fun i => ([h0, q1] : List Nat).getD i 0)) := hD
  exact W.vret hx hb hr (fun t ht hW => ⟨⟨(fun i => ([h0, q1] : List Nat).getD i 0), rfl, rfl, by rw [ht]; exact hP9, va_K.moved hW.alike hK, hD9⟩, hS.F ht⟩) hS.2.2 dI_4_12
theorem zI_5 : ∀ j, j < nf 5 → defaultValue (fTy 5 j) = vp_V [.null, .int 0] j := by decide +kernel
def wI_5 (cA cZ : ClassId) (q : Nat → Nat) : va_W := [(q 0, .inr (5, [.ref (q 1), .int 0])), (q 1, .inl (cA, (240, .inl (fun _ => 0))))]
abbrev byI_5 : ByteArray := prog_7_method_1_code
def yI_5 : MethodName := ⟨cn 5, "<init>", "()V"⟩
def wsI_5 : List Jvm.Cond := .code yI_5 byI_5 1 none :: tb
theorem gI_5 : GoodIn tb wsI_5 := by
  intro w hw
  have hm : w ∈ tb := by
    rcases List.mem_cons.mp hw with rfl | h2
    · exact isW_mem (p := 30) (by decide +kernel)
    · exact h2
  exact ⟨hm, good_of_word (List.mem_filter.mp hm).2⟩
theorem dI_5_0 : decode byI_5 0 = .ok (.aload_n 0, 1) := by decide +kernel
theorem dI_5_1 : decode byI_5 1 = .ok (.invokespecial 3, 3) := by decide +kernel
theorem dI_5_4 : decode byI_5 4 = .ok (.aload_n 0, 1) := by decide +kernel
theorem dI_5_5 : decode byI_5 5 = .ok (.sipush 240, 3) := by decide +kernel
theorem dI_5_8 : decode byI_5 8 = .ok (.newarray .int, 2) := by decide +kernel
theorem dI_5_10 : decode byI_5 10 = .ok (.putfield 9, 3) := by decide +kernel
theorem dI_5_13 : decode byI_5 13 = .ok (.aload_n 0, 1) := by decide +kernel
theorem dI_5_14 : decode byI_5 14 = .ok (.iconst 0, 1) := by decide +kernel
theorem dI_5_15 : decode byI_5 15 = .ok (.putfield 15, 3) := by decide +kernel
theorem dI_5_18 : decode byI_5 18 = .ok (.return_, 1) := by decide +kernel
set_option maxHeartbeats 4000000 in
set_option maxRecDepth 100000 in
theorem cI_5 (l : Launch) (D : va_G) (cA cZ : ClassId) (h0 sz : Nat) : Met l yI_5 wsI_5 ({ frames := 1, cells := 1, slots := 240, locals := 12 }) (va_Pc [.ref h0] (cPre D cA cZ h0 sz 5 [.null, .int 0])) (va_Qv (fun q : Nat → Nat => q 0 = h0) (cPost D cA cZ h0 sz 5 [.null, .int 0] (wI_5 cA cZ)) (va_A [(h0, .inr (5, [.null, .int 0]))] sz)) 1 240 (va_A [(h0, .inr (5, [.null, .int 0]))] sz) := by
  refine Met.ofW (cc := byI_5) (maxL := 1) (ret := none) (by decide) rfl ?_
  intro p e s m args below meth c s₁ B hml hv
  obtain ⟨rfl, hsz, hP, hK, hD0⟩ := hv
  have hx := B.exec
  have hb := B.bytes
  have hr := B.returns
  have hts0 := atoms_spec (ws := wsI_5) B.pre
  have hts : ∀ w ∈ tb, w.before _ s = true := fun w hw => hts0 w (List.mem_cons_of_mem _ hw)
  have hown : s.vm.findClass (cn 5) = some m.cls := findClass_of_methodNamed B.named
  have hin : meth.name = "<init>" := (name_of_methodNamed B.named B.method).1
  subst hsz
  have hD := hD0.self (sz := s.heap.size)
  unfold cPost
  generalize hAe : va_A [(h0, .inr (5, [.null, .int 0]))] s.heap.size = A at hD ⊢
  have hA : ∀ q : Nat, s.heap.size ≤ q → A q := fun q h => by rw [← hAe]; exact Or.inr h
  have hS : va_S A s.heap s.heap [] := va_S.rf
  have hP : va_P D cl13 [(h0, .inr (5, [.null, .int 0]))] s.heap := hP
  have hl := lv_entry ([.ref h0]) (n := 1) (Nat.le_of_ble_eq_true rfl)
  rw [lg_entry_eq]
  generalize (lg_sl ([.ref h0]) ++ List.replicate (1 - (lg_sl ([.ref h0])).length) Slot.unset).toArray = ls at hl ⊢
  have hl : lv_has ls 1 [(0, .ref h0)] := hl
  refine lv_aload_n hx hb dI_5_0 rfl (lv_at hl 0 rfl) ?_
  refine W.objInit hx hb hown (hts (.methodLink (cn 5) 3 Lib.objectInit) (isW_mem (p := 31) (by decide +kernel))) (hts _ w_oI) (hts _ w_oC) rfl (by rw [hml]; exact hl.1) rfl dI_5_1 (Nat.le_of_ble_eq_true rfl) (Nat.le_of_ble_eq_true rfl) ?_
  refine W.eq (g2 := F0 m 4 ls []) rfl ?_
  refine lv_aload_n hx hb dI_5_4 rfl (lv_at hl 0 rfl) ?_
  refine lv_sipush (v := 240) hx hb dI_5_5 (by decide) ?_
  refine cNewI hx hb hts hK hP hD hS hA (n := 240) (N := 240) (by decide) (by decide) (by decide) (Nat.le_of_ble_eq_true rfl) (Nat.le_of_ble_eq_true rfl) dI_5_8 (fun q1 H hP hD hS => ?_)
  have hP : va_P D cl13 [(h0, .inr (5, [.null, .int 0])), (q1, .inl (cA, (240, .inl (fun _ => 0))))] H := hP
  have hD : va_D A [(h0, .inr (5, [.null, .int 0])), (q1, .inl (cA, (240, .inl (fun _ => 0))))] := hD
  refine W.widen (k := 1) (n := 240) (by decide) (by decide) ?_
  refine cPutF (ci := 5) (v := .ref (q1)) hx hb hts (by decide) hown hin hK hP hD hS rfl 0 (by decide) (isW_mem (p := 32) (by decide +kernel)) rfl rfl rfl rfl (Nat.le_of_ble_eq_true rfl) dI_5_10 (fun H locs hP hD hS => ?_)
  have hP : va_P D cl13 [(h0, .inr (5, [.ref (q1), .int 0])), (q1, .inl (cA, (240, .inl (fun _ => 0))))] H := hP
  have hD : va_D A [(h0, .inr (5, [.ref (q1), .int 0])), (q1, .inl (cA, (240, .inl (fun _ => 0))))] := hD
  refine lv_aload_n hx hb dI_5_13 rfl (lv_at hl 0 rfl) ?_
  refine lv_iconst (v := 0) hx hb dI_5_14 (by decide) ?_
  refine cPut (ci := 5) (v := .int 0) hx hb hts (by decide) hown hK hP hD hS rfl 1 (by decide) (isW_mem (p := 33) (by decide +kernel)) rfl rfl rfl (Nat.le_of_ble_eq_true rfl) dI_5_15 (fun H locs hP hD hS => ?_)
  have hP : va_P D cl13 [(h0, .inr (5, [.ref (q1), .int 0])), (q1, .inl (cA, (240, .inl (fun _ => 0))))] H := hP
  have hD : va_D A [(h0, .inr (5, [.ref (q1), .int 0])), (q1, .inl (cA, (240, .inl (fun _ => 0))))] := hD
  have hP9 : va_P D cl13 (wI_5 cA cZ (fun i => ([h0, q1] : List Nat).getD i 0)) H := hP
  have hD9 : va_D A (wI_5 cA cZ (fun i => ([h0, q1] : List Nat).getD i 0)) := hD
  exact W.vret hx hb hr (fun t ht hW => ⟨⟨(fun i => ([h0, q1] : List Nat).getD i 0), rfl, rfl, by rw [ht]; exact hP9, va_K.moved hW.alike hK, hD9⟩, hS.F ht⟩) hS.2.2 dI_5_18
theorem zI_7 : ∀ j, j < nf 7 → defaultValue (fTy 7 j) = vp_V [.null, .int 0, .int 0] j := by decide +kernel
def wI_7 (cA cZ : ClassId) (q : Nat → Nat) : va_W := [(q 0, .inr (7, [.ref (q 1), .int 0, .int 0])), (q 1, .inl (cA, (816, .inl (fun _ => 0))))]
abbrev byI_7 : ByteArray := prog_9_method_1_code
def yI_7 : MethodName := ⟨cn 7, "<init>", "()V"⟩
def wsI_7 : List Jvm.Cond := .code yI_7 byI_7 1 none :: tb
theorem gI_7 : GoodIn tb wsI_7 := by
  intro w hw
  have hm : w ∈ tb := by
    rcases List.mem_cons.mp hw with rfl | h2
    · exact isW_mem (p := 231) (by decide +kernel)
    · exact h2
  exact ⟨hm, good_of_word (List.mem_filter.mp hm).2⟩
theorem dI_7_0 : decode byI_7 0 = .ok (.aload_n 0, 1) := by decide +kernel
theorem dI_7_1 : decode byI_7 1 = .ok (.invokespecial 3, 3) := by decide +kernel
theorem dI_7_4 : decode byI_7 4 = .ok (.aload_n 0, 1) := by decide +kernel
theorem dI_7_5 : decode byI_7 5 = .ok (.sipush 816, 3) := by decide +kernel
theorem dI_7_8 : decode byI_7 8 = .ok (.newarray .int, 2) := by decide +kernel
theorem dI_7_10 : decode byI_7 10 = .ok (.putfield 11, 3) := by decide +kernel
theorem dI_7_13 : decode byI_7 13 = .ok (.return_, 1) := by decide +kernel
set_option maxHeartbeats 4000000 in
set_option maxRecDepth 100000 in
theorem cI_7 (l : Launch) (D : va_G) (cA cZ : ClassId) (h0 sz : Nat) : Met l yI_7 wsI_7 ({ frames := 1, cells := 1, slots := 816, locals := 12 }) (va_Pc [.ref h0] (cPre D cA cZ h0 sz 7 [.null, .int 0, .int 0])) (va_Qv (fun q : Nat → Nat => q 0 = h0) (cPost D cA cZ h0 sz 7 [.null, .int 0, .int 0] (wI_7 cA cZ)) (va_A [(h0, .inr (7, [.null, .int 0, .int 0]))] sz)) 1 816 (va_A [(h0, .inr (7, [.null, .int 0, .int 0]))] sz) := by
  refine Met.ofW (cc := byI_7) (maxL := 1) (ret := none) (by decide) rfl ?_
  intro p e s m args below meth c s₁ B hml hv
  obtain ⟨rfl, hsz, hP, hK, hD0⟩ := hv
  have hx := B.exec
  have hb := B.bytes
  have hr := B.returns
  have hts0 := atoms_spec (ws := wsI_7) B.pre
  have hts : ∀ w ∈ tb, w.before _ s = true := fun w hw => hts0 w (List.mem_cons_of_mem _ hw)
  have hown : s.vm.findClass (cn 7) = some m.cls := findClass_of_methodNamed B.named
  have hin : meth.name = "<init>" := (name_of_methodNamed B.named B.method).1
  subst hsz
  have hD := hD0.self (sz := s.heap.size)
  unfold cPost
  generalize hAe : va_A [(h0, .inr (7, [.null, .int 0, .int 0]))] s.heap.size = A at hD ⊢
  have hA : ∀ q : Nat, s.heap.size ≤ q → A q := fun q h => by rw [← hAe]; exact Or.inr h
  have hS : va_S A s.heap s.heap [] := va_S.rf
  have hP : va_P D cl13 [(h0, .inr (7, [.null, .int 0, .int 0]))] s.heap := hP
  have hl := lv_entry ([.ref h0]) (n := 1) (Nat.le_of_ble_eq_true rfl)
  rw [lg_entry_eq]
  generalize (lg_sl ([.ref h0]) ++ List.replicate (1 - (lg_sl ([.ref h0])).length) Slot.unset).toArray = ls at hl ⊢
  have hl : lv_has ls 1 [(0, .ref h0)] := hl
  refine lv_aload_n hx hb dI_7_0 rfl (lv_at hl 0 rfl) ?_
  refine W.objInit hx hb hown (hts (.methodLink (cn 7) 3 Lib.objectInit) (isW_mem (p := 232) (by decide +kernel))) (hts _ w_oI) (hts _ w_oC) rfl (by rw [hml]; exact hl.1) rfl dI_7_1 (Nat.le_of_ble_eq_true rfl) (Nat.le_of_ble_eq_true rfl) ?_
  refine W.eq (g2 := F0 m 4 ls []) rfl ?_
  refine lv_aload_n hx hb dI_7_4 rfl (lv_at hl 0 rfl) ?_
  refine lv_sipush (v := 816) hx hb dI_7_5 (by decide) ?_
  refine cNewI hx hb hts hK hP hD hS hA (n := 816) (N := 816) (by decide) (by decide) (by decide) (Nat.le_of_ble_eq_true rfl) (Nat.le_of_ble_eq_true rfl) dI_7_8 (fun q1 H hP hD hS => ?_)
  have hP : va_P D cl13 [(h0, .inr (7, [.null, .int 0, .int 0])), (q1, .inl (cA, (816, .inl (fun _ => 0))))] H := hP
  have hD : va_D A [(h0, .inr (7, [.null, .int 0, .int 0])), (q1, .inl (cA, (816, .inl (fun _ => 0))))] := hD
  refine W.widen (k := 1) (n := 816) (by decide) (by decide) ?_
  refine cPutF (ci := 7) (v := .ref (q1)) hx hb hts (by decide) hown hin hK hP hD hS rfl 0 (by decide) (isW_mem (p := 233) (by decide +kernel)) rfl rfl rfl rfl (Nat.le_of_ble_eq_true rfl) dI_7_10 (fun H locs hP hD hS => ?_)
  have hP : va_P D cl13 [(h0, .inr (7, [.ref (q1), .int 0, .int 0])), (q1, .inl (cA, (816, .inl (fun _ => 0))))] H := hP
  have hD : va_D A [(h0, .inr (7, [.ref (q1), .int 0, .int 0])), (q1, .inl (cA, (816, .inl (fun _ => 0))))] := hD
  have hP9 : va_P D cl13 (wI_7 cA cZ (fun i => ([h0, q1] : List Nat).getD i 0)) H := hP
  have hD9 : va_D A (wI_7 cA cZ (fun i => ([h0, q1] : List Nat).getD i 0)) := hD
  exact W.vret hx hb hr (fun t ht hW => ⟨⟨(fun i => ([h0, q1] : List Nat).getD i 0), rfl, rfl, by rw [ht]; exact hP9, va_K.moved hW.alike hK, hD9⟩, hS.F ht⟩) hS.2.2 dI_7_13
theorem zI_8 : ∀ j, j < nf 8 → defaultValue (fTy 8 j) = vp_V [.null, .int 0, .int 0, .int 0] j := by decide +kernel
def wI_8 (cA cZ : ClassId) (q : Nat → Nat) : va_W := [(q 0, .inr (8, [.ref (q 1), .int 0, .int 0, .int (-1)])), (q 1, .inl (cA, (3, .inl (fun _ => 0))))]
abbrev byI_8 : ByteArray := prog_10_method_1_code
def yI_8 : MethodName := ⟨cn 8, "<init>", "()V"⟩
def wsI_8 : List Jvm.Cond := .code yI_8 byI_8 1 none :: tb
theorem gI_8 : GoodIn tb wsI_8 := by
  intro w hw
  have hm : w ∈ tb := by
    rcases List.mem_cons.mp hw with rfl | h2
    · exact isW_mem (p := 46) (by decide +kernel)
    · exact h2
  exact ⟨hm, good_of_word (List.mem_filter.mp hm).2⟩
theorem dI_8_0 : decode byI_8 0 = .ok (.aload_n 0, 1) := by decide +kernel
theorem dI_8_1 : decode byI_8 1 = .ok (.invokespecial 3, 3) := by decide +kernel
theorem dI_8_4 : decode byI_8 4 = .ok (.aload_n 0, 1) := by decide +kernel
theorem dI_8_5 : decode byI_8 5 = .ok (.iconst 3, 1) := by decide +kernel
theorem dI_8_6 : decode byI_8 6 = .ok (.newarray .int, 2) := by decide +kernel
theorem dI_8_8 : decode byI_8 8 = .ok (.putfield 9, 3) := by decide +kernel
theorem dI_8_11 : decode byI_8 11 = .ok (.aload_n 0, 1) := by decide +kernel
theorem dI_8_12 : decode byI_8 12 = .ok (.iconst (-1), 1) := by decide +kernel
theorem dI_8_13 : decode byI_8 13 = .ok (.putfield 15, 3) := by decide +kernel
theorem dI_8_16 : decode byI_8 16 = .ok (.return_, 1) := by decide +kernel
set_option maxHeartbeats 4000000 in
set_option maxRecDepth 100000 in
theorem cI_8 (l : Launch) (D : va_G) (cA cZ : ClassId) (h0 sz : Nat) : Met l yI_8 wsI_8 ({ frames := 1, cells := 1, slots := 3, locals := 12 }) (va_Pc [.ref h0] (cPre D cA cZ h0 sz 8 [.null, .int 0, .int 0, .int 0])) (va_Qv (fun q : Nat → Nat => q 0 = h0) (cPost D cA cZ h0 sz 8 [.null, .int 0, .int 0, .int 0] (wI_8 cA cZ)) (va_A [(h0, .inr (8, [.null, .int 0, .int 0, .int 0]))] sz)) 1 3 (va_A [(h0, .inr (8, [.null, .int 0, .int 0, .int 0]))] sz) := by
  refine Met.ofW (cc := byI_8) (maxL := 1) (ret := none) (by decide) rfl ?_
  intro p e s m args below meth c s₁ B hml hv
  obtain ⟨rfl, hsz, hP, hK, hD0⟩ := hv
  have hx := B.exec
  have hb := B.bytes
  have hr := B.returns
  have hts0 := atoms_spec (ws := wsI_8) B.pre
  have hts : ∀ w ∈ tb, w.before _ s = true := fun w hw => hts0 w (List.mem_cons_of_mem _ hw)
  have hown : s.vm.findClass (cn 8) = some m.cls := findClass_of_methodNamed B.named
  have hin : meth.name = "<init>" := (name_of_methodNamed B.named B.method).1
  subst hsz
  have hD := hD0.self (sz := s.heap.size)
  unfold cPost
  generalize hAe : va_A [(h0, .inr (8, [.null, .int 0, .int 0, .int 0]))] s.heap.size = A at hD ⊢
  have hA : ∀ q : Nat, s.heap.size ≤ q → A q := fun q h => by rw [← hAe]; exact Or.inr h
  have hS : va_S A s.heap s.heap [] := va_S.rf
  have hP : va_P D cl13 [(h0, .inr (8, [.null, .int 0, .int 0, .int 0]))] s.heap := hP
  have hl := lv_entry ([.ref h0]) (n := 1) (Nat.le_of_ble_eq_true rfl)
  rw [lg_entry_eq]
  generalize (lg_sl ([.ref h0]) ++ List.replicate (1 - (lg_sl ([.ref h0])).length) Slot.unset).toArray = ls at hl ⊢
  have hl : lv_has ls 1 [(0, .ref h0)] := hl
  refine lv_aload_n hx hb dI_8_0 rfl (lv_at hl 0 rfl) ?_
  refine W.objInit hx hb hown (hts (.methodLink (cn 8) 3 Lib.objectInit) (isW_mem (p := 47) (by decide +kernel))) (hts _ w_oI) (hts _ w_oC) rfl (by rw [hml]; exact hl.1) rfl dI_8_1 (Nat.le_of_ble_eq_true rfl) (Nat.le_of_ble_eq_true rfl) ?_
  refine W.eq (g2 := F0 m 4 ls []) rfl ?_
  refine lv_aload_n hx hb dI_8_4 rfl (lv_at hl 0 rfl) ?_
  refine lv_iconst (v := 3) hx hb dI_8_5 (by decide) ?_
  refine cNewI hx hb hts hK hP hD hS hA (n := 3) (N := 3) (by decide) (by decide) (by decide) (Nat.le_of_ble_eq_true rfl) (Nat.le_of_ble_eq_true rfl) dI_8_6 (fun q1 H hP hD hS => ?_)
  have hP : va_P D cl13 [(h0, .inr (8, [.null, .int 0, .int 0, .int 0])), (q1, .inl (cA, (3, .inl (fun _ => 0))))] H := hP
  have hD : va_D A [(h0, .inr (8, [.null, .int 0, .int 0, .int 0])), (q1, .inl (cA, (3, .inl (fun _ => 0))))] := hD
  refine W.widen (k := 1) (n := 3) (by decide) (by decide) ?_
  refine cPutF (ci := 8) (v := .ref (q1)) hx hb hts (by decide) hown hin hK hP hD hS rfl 0 (by decide) (isW_mem (p := 48) (by decide +kernel)) rfl rfl rfl rfl (Nat.le_of_ble_eq_true rfl) dI_8_8 (fun H locs hP hD hS => ?_)
  have hP : va_P D cl13 [(h0, .inr (8, [.ref (q1), .int 0, .int 0, .int 0])), (q1, .inl (cA, (3, .inl (fun _ => 0))))] H := hP
  have hD : va_D A [(h0, .inr (8, [.ref (q1), .int 0, .int 0, .int 0])), (q1, .inl (cA, (3, .inl (fun _ => 0))))] := hD
  refine lv_aload_n hx hb dI_8_11 rfl (lv_at hl 0 rfl) ?_
  refine lv_iconst (v := (-1)) hx hb dI_8_12 (by decide) ?_
  refine cPut (ci := 8) (v := .int (-1)) hx hb hts (by decide) hown hK hP hD hS rfl 3 (by decide) (isW_mem (p := 51) (by decide +kernel)) rfl rfl rfl (Nat.le_of_ble_eq_true rfl) dI_8_13 (fun H locs hP hD hS => ?_)
  have hP : va_P D cl13 [(h0, .inr (8, [.ref (q1), .int 0, .int 0, .int (-1)])), (q1, .inl (cA, (3, .inl (fun _ => 0))))] H := hP
  have hD : va_D A [(h0, .inr (8, [.ref (q1), .int 0, .int 0, .int (-1)])), (q1, .inl (cA, (3, .inl (fun _ => 0))))] := hD
  have hP9 : va_P D cl13 (wI_8 cA cZ (fun i => ([h0, q1] : List Nat).getD i 0)) H := hP
  have hD9 : va_D A (wI_8 cA cZ (fun i => ([h0, q1] : List Nat).getD i 0)) := hD
  exact W.vret hx hb hr (fun t ht hW => ⟨⟨(fun i => ([h0, q1] : List Nat).getD i 0), rfl, rfl, by rw [ht]; exact hP9, va_K.moved hW.alike hK, hD9⟩, hS.F ht⟩) hS.2.2 dI_8_16
theorem zI_10 : ∀ j, j < nf 10 → defaultValue (fTy 10 j) = vp_V [.int 0, .int 0, .int 0, .int 0] j := by decide +kernel
def wI_10 (cA cZ : ClassId) (q : Nat → Nat) : va_W := [(q 0, .inr (10, [.int 0, .int 0, .int 0, .int 0]))]
abbrev byI_10 : ByteArray := prog_12_method_1_code
def yI_10 : MethodName := ⟨cn 10, "<init>", "()V"⟩
def wsI_10 : List Jvm.Cond := .code yI_10 byI_10 1 none :: tb
theorem gI_10 : GoodIn tb wsI_10 := by
  intro w hw
  have hm : w ∈ tb := by
    rcases List.mem_cons.mp hw with rfl | h2
    · exact isW_mem (p := 209) (by decide +kernel)
    · exact h2
  exact ⟨hm, good_of_word (List.mem_filter.mp hm).2⟩
theorem dI_10_0 : decode byI_10 0 = .ok (.aload_n 0, 1) := by decide +kernel
theorem dI_10_1 : decode byI_10 1 = .ok (.invokespecial 3, 3) := by decide +kernel
theorem dI_10_4 : decode byI_10 4 = .ok (.return_, 1) := by decide +kernel
set_option maxHeartbeats 4000000 in
set_option maxRecDepth 100000 in
theorem cI_10 (l : Launch) (D : va_G) (cA cZ : ClassId) (h0 sz : Nat) : Met l yI_10 wsI_10 ({ frames := 1, cells := 0, slots := 0, locals := 12 }) (va_Pc [.ref h0] (cPre D cA cZ h0 sz 10 [.int 0, .int 0, .int 0, .int 0])) (va_Qv (fun q : Nat → Nat => q 0 = h0) (cPost D cA cZ h0 sz 10 [.int 0, .int 0, .int 0, .int 0] (wI_10 cA cZ)) (va_A [(h0, .inr (10, [.int 0, .int 0, .int 0, .int 0]))] sz)) 0 0 (va_A [(h0, .inr (10, [.int 0, .int 0, .int 0, .int 0]))] sz) := by
  refine Met.ofW (cc := byI_10) (maxL := 1) (ret := none) (by decide) rfl ?_
  intro p e s m args below meth c s₁ B hml hv
  obtain ⟨rfl, hsz, hP, hK, hD0⟩ := hv
  have hx := B.exec
  have hb := B.bytes
  have hr := B.returns
  have hts0 := atoms_spec (ws := wsI_10) B.pre
  have hts : ∀ w ∈ tb, w.before _ s = true := fun w hw => hts0 w (List.mem_cons_of_mem _ hw)
  have hown : s.vm.findClass (cn 10) = some m.cls := findClass_of_methodNamed B.named
  have hin : meth.name = "<init>" := (name_of_methodNamed B.named B.method).1
  subst hsz
  have hD := hD0.self (sz := s.heap.size)
  unfold cPost
  generalize hAe : va_A [(h0, .inr (10, [.int 0, .int 0, .int 0, .int 0]))] s.heap.size = A at hD ⊢
  have hA : ∀ q : Nat, s.heap.size ≤ q → A q := fun q h => by rw [← hAe]; exact Or.inr h
  have hS : va_S A s.heap s.heap [] := va_S.rf
  have hP : va_P D cl13 [(h0, .inr (10, [.int 0, .int 0, .int 0, .int 0]))] s.heap := hP
  have hl := lv_entry ([.ref h0]) (n := 1) (Nat.le_of_ble_eq_true rfl)
  rw [lg_entry_eq]
  generalize (lg_sl ([.ref h0]) ++ List.replicate (1 - (lg_sl ([.ref h0])).length) Slot.unset).toArray = ls at hl ⊢
  have hl : lv_has ls 1 [(0, .ref h0)] := hl
  refine lv_aload_n hx hb dI_10_0 rfl (lv_at hl 0 rfl) ?_
  refine W.objInit hx hb hown (hts (.methodLink (cn 10) 3 Lib.objectInit) (isW_mem (p := 210) (by decide +kernel))) (hts _ w_oI) (hts _ w_oC) rfl (by rw [hml]; exact hl.1) rfl dI_10_1 (Nat.le_of_ble_eq_true rfl) (Nat.le_of_ble_eq_true rfl) ?_
  refine W.eq (g2 := F0 m 4 ls []) rfl ?_
  have hP9 : va_P D cl13 (wI_10 cA cZ (fun i => ([h0] : List Nat).getD i 0)) s.heap := hP
  have hD9 : va_D A (wI_10 cA cZ (fun i => ([h0] : List Nat).getD i 0)) := hD
  exact W.vret hx hb hr (fun t ht hW => ⟨⟨(fun i => ([h0] : List Nat).getD i 0), rfl, rfl, by rw [ht]; exact hP9, va_K.moved hW.alike hK, hD9⟩, hS.F ht⟩) hS.2.2 dI_10_4
theorem zI_6 : ∀ j, j < nf 6 → defaultValue (fTy 6 j) = vp_V [.null, .null, .null, .int 0, .int 0, .int 0] j := by decide +kernel
def wI_6 (cA cZ : ClassId) (q : Nat → Nat) : va_W := [(q 0, .inr (6, [.ref (q 1), .ref (q 2), .ref (q 3), .int 0, .int 0, .int 0])), (q 1, .inl (cA, (6, .inl (fun _ => 0)))), (q 2, .inl (cA, (6, .inl (fun _ => 0)))), (q 3, .inr (2, [.ref (q 4)])), (q 4, .inl (cA, (36, .inl (fun _ => 0))))]
abbrev byI_6 : ByteArray := prog_8_method_1_code
def yI_6 : MethodName := ⟨cn 6, "<init>", "()V"⟩
def wsI_6 : List Jvm.Cond := .code yI_6 byI_6 1 none :: tb
theorem gI_6 : GoodIn tb wsI_6 := by
  intro w hw
  have hm : w ∈ tb := by
    rcases List.mem_cons.mp hw with rfl | h2
    · exact isW_mem (p := 151) (by decide +kernel)
    · exact h2
  exact ⟨hm, good_of_word (List.mem_filter.mp hm).2⟩
theorem dI_6_0 : decode byI_6 0 = .ok (.aload_n 0, 1) := by decide +kernel
theorem dI_6_1 : decode byI_6 1 = .ok (.invokespecial 5, 3) := by decide +kernel
theorem dI_6_4 : decode byI_6 4 = .ok (.aload_n 0, 1) := by decide +kernel
theorem dI_6_5 : decode byI_6 5 = .ok (.bipush 6, 2) := by decide +kernel
theorem dI_6_7 : decode byI_6 7 = .ok (.newarray .int, 2) := by decide +kernel
theorem dI_6_9 : decode byI_6 9 = .ok (.putfield 11, 3) := by decide +kernel
theorem dI_6_12 : decode byI_6 12 = .ok (.aload_n 0, 1) := by decide +kernel
theorem dI_6_13 : decode byI_6 13 = .ok (.bipush 6, 2) := by decide +kernel
theorem dI_6_15 : decode byI_6 15 = .ok (.newarray .int, 2) := by decide +kernel
theorem dI_6_17 : decode byI_6 17 = .ok (.putfield 17, 3) := by decide +kernel
theorem dI_6_20 : decode byI_6 20 = .ok (.aload_n 0, 1) := by decide +kernel
theorem dI_6_21 : decode byI_6 21 = .ok (.new 1, 3) := by decide +kernel
theorem dI_6_24 : decode byI_6 24 = .ok (.dup, 1) := by decide +kernel
theorem dI_6_25 : decode byI_6 25 = .ok (.invokespecial 20, 3) := by decide +kernel
theorem dI_6_28 : decode byI_6 28 = .ok (.putfield 21, 3) := by decide +kernel
theorem dI_6_31 : decode byI_6 31 = .ok (.return_, 1) := by decide +kernel
set_option maxHeartbeats 4000000 in
set_option maxRecDepth 100000 in
theorem cI_6 (l : Launch) (D : va_G) (cA cZ : ClassId) (h0 sz : Nat) : Met l yI_6 wsI_6 ({ frames := 2, cells := 4, slots := 49, locals := 32 }) (va_Pc [.ref h0] (cPre D cA cZ h0 sz 6 [.null, .null, .null, .int 0, .int 0, .int 0])) (va_Qv (fun q : Nat → Nat => q 0 = h0) (cPost D cA cZ h0 sz 6 [.null, .null, .null, .int 0, .int 0, .int 0] (wI_6 cA cZ)) (va_A [(h0, .inr (6, [.null, .null, .null, .int 0, .int 0, .int 0]))] sz)) 4 49 (va_A [(h0, .inr (6, [.null, .null, .null, .int 0, .int 0, .int 0]))] sz) := by
  refine Met.ofW (cc := byI_6) (maxL := 1) (ret := none) (by decide) rfl ?_
  intro p e s m args below meth c s₁ B hml hv
  obtain ⟨rfl, hsz, hP, hK, hD0⟩ := hv
  have hx := B.exec
  have hb := B.bytes
  have hr := B.returns
  have hts0 := atoms_spec (ws := wsI_6) B.pre
  have hts : ∀ w ∈ tb, w.before _ s = true := fun w hw => hts0 w (List.mem_cons_of_mem _ hw)
  have hown : s.vm.findClass (cn 6) = some m.cls := findClass_of_methodNamed B.named
  have hin : meth.name = "<init>" := (name_of_methodNamed B.named B.method).1
  subst hsz
  have hD := hD0.self (sz := s.heap.size)
  unfold cPost
  generalize hAe : va_A [(h0, .inr (6, [.null, .null, .null, .int 0, .int 0, .int 0]))] s.heap.size = A at hD ⊢
  have hA : ∀ q : Nat, s.heap.size ≤ q → A q := fun q h => by rw [← hAe]; exact Or.inr h
  have hS : va_S A s.heap s.heap [] := va_S.rf
  have hP : va_P D cl13 [(h0, .inr (6, [.null, .null, .null, .int 0, .int 0, .int 0]))] s.heap := hP
  have hl := lv_entry ([.ref h0]) (n := 1) (Nat.le_of_ble_eq_true rfl)
  rw [lg_entry_eq]
  generalize (lg_sl ([.ref h0]) ++ List.replicate (1 - (lg_sl ([.ref h0])).length) Slot.unset).toArray = ls at hl ⊢
  have hl : lv_has ls 1 [(0, .ref h0)] := hl
  refine lv_aload_n hx hb dI_6_0 rfl (lv_at hl 0 rfl) ?_
  refine W.objInit hx hb hown (hts (.methodLink (cn 6) 5 Lib.objectInit) (isW_mem (p := 152) (by decide +kernel))) (hts _ w_oI) (hts _ w_oC) rfl (by rw [hml]; exact hl.1) rfl dI_6_1 (Nat.le_of_ble_eq_true rfl) (Nat.le_of_ble_eq_true rfl) ?_
  refine W.eq (g2 := F0 m 4 ls []) rfl ?_
  refine lv_aload_n hx hb dI_6_4 rfl (lv_at hl 0 rfl) ?_
  refine lv_bipush (v := 6) hx hb dI_6_5 (by decide) ?_
  refine cNewI hx hb hts hK hP hD hS hA (n := 6) (N := 6) (by decide) (by decide) (by decide) (Nat.le_of_ble_eq_true rfl) (Nat.le_of_ble_eq_true rfl) dI_6_7 (fun q1 H hP hD hS => ?_)
  have hP : va_P D cl13 [(h0, .inr (6, [.null, .null, .null, .int 0, .int 0, .int 0])), (q1, .inl (cA, (6, .inl (fun _ => 0))))] H := hP
  have hD : va_D A [(h0, .inr (6, [.null, .null, .null, .int 0, .int 0, .int 0])), (q1, .inl (cA, (6, .inl (fun _ => 0))))] := hD
  refine W.widen (k := 1) (n := 6) (by decide) (by decide) ?_
  refine cPutF (ci := 6) (v := .ref (q1)) hx hb hts (by decide) hown hin hK hP hD hS rfl 0 (by decide) (isW_mem (p := 164) (by decide +kernel)) rfl rfl rfl rfl (Nat.le_of_ble_eq_true rfl) dI_6_9 (fun H locs hP hD hS => ?_)
  have hP : va_P D cl13 [(h0, .inr (6, [.ref (q1), .null, .null, .int 0, .int 0, .int 0])), (q1, .inl (cA, (6, .inl (fun _ => 0))))] H := hP
  have hD : va_D A [(h0, .inr (6, [.ref (q1), .null, .null, .int 0, .int 0, .int 0])), (q1, .inl (cA, (6, .inl (fun _ => 0))))] := hD
  refine lv_aload_n hx hb dI_6_12 rfl (lv_at hl 0 rfl) ?_
  refine lv_bipush (v := 6) hx hb dI_6_13 (by decide) ?_
  refine cNewI hx hb hts hK hP hD hS hA (n := 6) (N := 6) (by decide) (by decide) (by decide) (Nat.le_of_ble_eq_true rfl) (Nat.le_of_ble_eq_true rfl) dI_6_15 (fun q2 H hP hD hS => ?_)
  have hP : va_P D cl13 [(h0, .inr (6, [.ref (q1), .null, .null, .int 0, .int 0, .int 0])), (q1, .inl (cA, (6, .inl (fun _ => 0)))), (q2, .inl (cA, (6, .inl (fun _ => 0))))] H := hP
  have hD : va_D A [(h0, .inr (6, [.ref (q1), .null, .null, .int 0, .int 0, .int 0])), (q1, .inl (cA, (6, .inl (fun _ => 0)))), (q2, .inl (cA, (6, .inl (fun _ => 0))))] := hD
  refine W.widen (k := 2) (n := 12) (by decide) (by decide) ?_
  refine cPutF (ci := 6) (v := .ref (q2)) hx hb hts (by decide) hown hin hK hP hD hS rfl 1 (by decide) (isW_mem (p := 168) (by decide +kernel)) rfl rfl rfl rfl (Nat.le_of_ble_eq_true rfl) dI_6_17 (fun H locs hP hD hS => ?_)
  have hP : va_P D cl13 [(h0, .inr (6, [.ref (q1), .ref (q2), .null, .int 0, .int 0, .int 0])), (q1, .inl (cA, (6, .inl (fun _ => 0)))), (q2, .inl (cA, (6, .inl (fun _ => 0))))] H := hP
  have hD : va_D A [(h0, .inr (6, [.ref (q1), .ref (q2), .null, .int 0, .int 0, .int 0])), (q1, .inl (cA, (6, .inl (fun _ => 0)))), (q2, .inl (cA, (6, .inl (fun _ => 0))))] := hD
  refine lv_aload_n hx hb dI_6_20 rfl (lv_at hl 0 rfl) ?_
  refine cNew (ci := 2) (fs := [.null]) hx hb hts (by decide) hown (isW_mem (p := 153) (by decide +kernel)) (isW_mem (p := 154) (by decide +kernel)) (isW_mem (p := 7) (by decide +kernel)) hK hP hD hS hA zI_2 (Nat.le_of_ble_eq_true rfl) (Nat.le_of_ble_eq_true rfl) dI_6_21 (fun q3 H hP hD hS => ?_)
  have hP : va_P D cl13 [(h0, .inr (6, [.ref (q1), .ref (q2), .null, .int 0, .int 0, .int 0])), (q1, .inl (cA, (6, .inl (fun _ => 0)))), (q2, .inl (cA, (6, .inl (fun _ => 0)))), (q3, .inr (2, [.null]))] H := hP
  have hD : va_D A [(h0, .inr (6, [.ref (q1), .ref (q2), .null, .int 0, .int 0, .int 0])), (q1, .inl (cA, (6, .inl (fun _ => 0)))), (q2, .inl (cA, (6, .inl (fun _ => 0)))), (q3, .inr (2, [.null]))] := hD
  refine W.widen (k := 3) (n := 13) (by decide) (by decide) ?_
  refine lv_dup hx hb dI_6_24 rfl ?_
  have hPc := hP.sub (ws' := [(q3, .inr (2, [.null]))]) [3] rfl
  have hDc := hD.sub (ws' := [(q3, .inr (2, [.null]))]) [3] (by decide) rfl
  have hFc := va_free (wc := [(q3, .inr (2, [.null]))]) hD hS hA [3] rfl
  refine va_callv (va_runI (As := []) (rest := [.ref q3, .ref h0]) ⟨hx, hb, hml, hown, hts⟩ (cI_2 l D cA cZ q3 H.size) (cwI 0 hts gI_2 rfl rfl rfl (hts _ (isW_mem (p := 7) (by decide +kernel) : Jvm.Cond.initialized (cn 2) ∈ tb)) (hts (.methodLink (cn 6) 20 yI_2) (isW_mem (p := 155) (by decide +kernel))) (hts (.instanceMethod yI_2) (isW_mem (p := 156) (by decide +kernel))) rfl (by decide +kernel) ⟨Nat.le_of_ble_eq_true rfl, Nat.le_of_ble_eq_true rfl⟩) ⟨fb_cPre, fun U hU hW => ⟨rfl, by rw [hU], by rw [hU]; exact hPc, va_K.moved hW.alike hK, hDc.weaken (fun _ _ _ _ => trivial)⟩⟩ rfl rfl hl.1 rfl (lv_room (Nat.le_of_ble_eq_true rfl)) dI_6_25 ⟨Nat.le_of_ble_eq_true rfl, Nat.le_of_ble_eq_true rfl⟩) hS (fun q _ h => hFc q h) hFc (fun u t H1 locs ht hvm hw hB hz1 hk1 hS => ?_)
  obtain ⟨u3, rfl⟩ : ∃ z, z = u := ⟨_, rfl⟩
  subst hw
  obtain ⟨hP1, hK1, hD1⟩ := hB
  rw [ht] at hP1
  obtain ⟨hP, hD⟩ := va_join (wr := [(h0, .inr (6, [.ref (q1), .ref (q2), .null, .int 0, .int 0, .int 0])), (q1, .inl (cA, (6, .inl (fun _ => 0)))), (q2, .inl (cA, (6, .inl (fun _ => 0))))]) (w1 := wI_2 cA cZ u3) hP hD [3] [0, 1, 2] rfl rfl (by decide) (by decide) hk1 hFc hP1 hD1
  generalize H1 = H at hP hS ⊢
  have hP : va_P D cl13 [(h0, .inr (6, [.ref (q1), .ref (q2), .null, .int 0, .int 0, .int 0])), (q1, .inl (cA, (6, .inl (fun _ => 0)))), (q2, .inl (cA, (6, .inl (fun _ => 0)))), (u3 0, .inr (2, [.ref (u3 1)])), (u3 1, .inl (cA, (36, .inl (fun _ => 0))))] H := hP
  have hD : va_D A [(h0, .inr (6, [.ref (q1), .ref (q2), .null, .int 0, .int 0, .int 0])), (q1, .inl (cA, (6, .inl (fun _ => 0)))), (q2, .inl (cA, (6, .inl (fun _ => 0)))), (u3 0, .inr (2, [.ref (u3 1)])), (u3 1, .inl (cA, (36, .inl (fun _ => 0))))] := hD
  refine W.widen (k := 4) (n := 49) (by decide) (by decide) ?_
  refine cPutF (ci := 6) (v := .ref (u3 0)) hx hb hts (by decide) hown hin hK hP hD hS rfl 2 (by decide) (isW_mem (p := 171) (by decide +kernel)) rfl rfl rfl rfl (Nat.le_of_ble_eq_true rfl) dI_6_28 (fun H locs hP hD hS => ?_)
  have hP : va_P D cl13 [(h0, .inr (6, [.ref (q1), .ref (q2), .ref (u3 0), .int 0, .int 0, .int 0])), (q1, .inl (cA, (6, .inl (fun _ => 0)))), (q2, .inl (cA, (6, .inl (fun _ => 0)))), (u3 0, .inr (2, [.ref (u3 1)])), (u3 1, .inl (cA, (36, .inl (fun _ => 0))))] H := hP
  have hD : va_D A [(h0, .inr (6, [.ref (q1), .ref (q2), .ref (u3 0), .int 0, .int 0, .int 0])), (q1, .inl (cA, (6, .inl (fun _ => 0)))), (q2, .inl (cA, (6, .inl (fun _ => 0)))), (u3 0, .inr (2, [.ref (u3 1)])), (u3 1, .inl (cA, (36, .inl (fun _ => 0))))] := hD
  have hP9 : va_P D cl13 (wI_6 cA cZ (fun i => ([h0, q1, q2, u3 0, u3 1] : List Nat).getD i 0)) H := hP
  have hD9 : va_D A (wI_6 cA cZ (fun i => ([h0, q1, q2, u3 0, u3 1] : List Nat).getD i 0)) := hD
  exact W.vret hx hb hr (fun t ht hW => ⟨⟨(fun i => ([h0, q1, q2, u3 0, u3 1] : List Nat).getD i 0), rfl, rfl, by rw [ht]; exact hP9, va_K.moved hW.alike hK, hD9⟩, hS.F ht⟩) hS.2.2 dI_6_31
theorem zI_9 : ∀ j, j < nf 9 → defaultValue (fTy 9 j) = vp_V [.null, .null] j := by decide +kernel
def wI_9 (cA cZ : ClassId) (q : Nat → Nat) : va_W := [(q 0, .inr (9, [.ref (q 1), .ref (q 10)])), (q 1, .inr (1, [.ref (q 2), .ref (q 3), .ref (q 4), .ref (q 5), .ref (q 6), .ref (q 7), .ref (q 8), .ref (q 9), .int 0, .int 0, .int 0, .int 0, .int 0, .int 0, .int 0])), (q 2, .inl (cA, (4, .inl (fun _ => 0)))), (q 3, .inl (cA, (4, .inl (fun _ => 0)))), (q 4, .inl (cA, (6, .inl (fun _ => 0)))), (q 5, .inl (cA, (6, .inl (fun _ => 0)))), (q 6, .inl (cA, (6, .inl (fun _ => 0)))), (q 7, .inl (cA, (6, .inl (fun _ => 0)))), (q 8, .inl (cA, (6, .inl (fun _ => 0)))), (q 9, .inl (cA, (6, .inl (fun _ => 0)))), (q 10, .inr (6, [.ref (q 11), .ref (q 12), .ref (q 13), .int 0, .int 0, .int 0])), (q 11, .inl (cA, (6, .inl (fun _ => 0)))), (q 12, .inl (cA, (6, .inl (fun _ => 0)))), (q 13, .inr (2, [.ref (q 14)])), (q 14, .inl (cA, (36, .inl (fun _ => 0))))]
abbrev byI_9 : ByteArray := prog_11_method_1_code
def yI_9 : MethodName := ⟨cn 9, "<init>", "()V"⟩
def wsI_9 : List Jvm.Cond := .code yI_9 byI_9 1 none :: tb
theorem gI_9 : GoodIn tb wsI_9 := by
  intro w hw
  have hm : w ∈ tb := by
    rcases List.mem_cons.mp hw with rfl | h2
    · exact isW_mem (p := 143) (by decide +kernel)
    · exact h2
  exact ⟨hm, good_of_word (List.mem_filter.mp hm).2⟩
theorem dI_9_0 : decode byI_9 0 = .ok (.aload_n 0, 1) := by decide +kernel
theorem dI_9_1 : decode byI_9 1 = .ok (.invokespecial 3, 3) := by decide +kernel
theorem dI_9_4 : decode byI_9 4 = .ok (.aload_n 0, 1) := by decide +kernel
theorem dI_9_5 : decode byI_9 5 = .ok (.new 9, 3) := by decide +kernel
theorem dI_9_8 : decode byI_9 8 = .ok (.dup, 1) := by decide +kernel
theorem dI_9_9 : decode byI_9 9 = .ok (.invokespecial 11, 3) := by decide +kernel
theorem dI_9_12 : decode byI_9 12 = .ok (.putfield 12, 3) := by decide +kernel
theorem dI_9_15 : decode byI_9 15 = .ok (.aload_n 0, 1) := by decide +kernel
theorem dI_9_16 : decode byI_9 16 = .ok (.new 18, 3) := by decide +kernel
theorem dI_9_19 : decode byI_9 19 = .ok (.dup, 1) := by decide +kernel
theorem dI_9_20 : decode byI_9 20 = .ok (.invokespecial 20, 3) := by decide +kernel
theorem dI_9_23 : decode byI_9 23 = .ok (.putfield 21, 3) := by decide +kernel
theorem dI_9_26 : decode byI_9 26 = .ok (.return_, 1) := by decide +kernel
set_option maxHeartbeats 4000000 in
set_option maxRecDepth 100000 in
theorem cI_9 (l : Launch) (D : va_G) (cA cZ : ClassId) (h0 sz : Nat) : Met l yI_9 wsI_9 ({ frames := 3, cells := 14, slots := 114, locals := 52 }) (va_Pc [.ref h0] (cPre D cA cZ h0 sz 9 [.null, .null])) (va_Qv (fun q : Nat → Nat => q 0 = h0) (cPost D cA cZ h0 sz 9 [.null, .null] (wI_9 cA cZ)) (va_A [(h0, .inr (9, [.null, .null]))] sz)) 14 114 (va_A [(h0, .inr (9, [.null, .null]))] sz) := by
  refine Met.ofW (cc := byI_9) (maxL := 1) (ret := none) (by decide) rfl ?_
  intro p e s m args below meth c s₁ B hml hv
  obtain ⟨rfl, hsz, hP, hK, hD0⟩ := hv
  have hx := B.exec
  have hb := B.bytes
  have hr := B.returns
  have hts0 := atoms_spec (ws := wsI_9) B.pre
  have hts : ∀ w ∈ tb, w.before _ s = true := fun w hw => hts0 w (List.mem_cons_of_mem _ hw)
  have hown : s.vm.findClass (cn 9) = some m.cls := findClass_of_methodNamed B.named
  have hin : meth.name = "<init>" := (name_of_methodNamed B.named B.method).1
  subst hsz
  have hD := hD0.self (sz := s.heap.size)
  unfold cPost
  generalize hAe : va_A [(h0, .inr (9, [.null, .null]))] s.heap.size = A at hD ⊢
  have hA : ∀ q : Nat, s.heap.size ≤ q → A q := fun q h => by rw [← hAe]; exact Or.inr h
  have hS : va_S A s.heap s.heap [] := va_S.rf
  have hP : va_P D cl13 [(h0, .inr (9, [.null, .null]))] s.heap := hP
  have hl := lv_entry ([.ref h0]) (n := 1) (Nat.le_of_ble_eq_true rfl)
  rw [lg_entry_eq]
  generalize (lg_sl ([.ref h0]) ++ List.replicate (1 - (lg_sl ([.ref h0])).length) Slot.unset).toArray = ls at hl ⊢
  have hl : lv_has ls 1 [(0, .ref h0)] := hl
  refine lv_aload_n hx hb dI_9_0 rfl (lv_at hl 0 rfl) ?_
  refine W.objInit hx hb hown (hts (.methodLink (cn 9) 3 Lib.objectInit) (isW_mem (p := 144) (by decide +kernel))) (hts _ w_oI) (hts _ w_oC) rfl (by rw [hml]; exact hl.1) rfl dI_9_1 (Nat.le_of_ble_eq_true rfl) (Nat.le_of_ble_eq_true rfl) ?_
  refine W.eq (g2 := F0 m 4 ls []) rfl ?_
  refine lv_aload_n hx hb dI_9_4 rfl (lv_at hl 0 rfl) ?_
  refine cNew (ci := 1) (fs := [.null, .null, .null, .null, .null, .null, .null, .null, .int 0, .int 0, .int 0, .int 0, .int 0, .int 0, .int 0]) hx hb hts (by decide) hown (isW_mem (p := 145) (by decide +kernel)) (isW_mem (p := 63) (by decide +kernel)) (isW_mem (p := 4) (by decide +kernel)) hK hP hD hS hA zI_1 (Nat.le_of_ble_eq_true rfl) (Nat.le_of_ble_eq_true rfl) dI_9_5 (fun q1 H hP hD hS => ?_)
  have hP : va_P D cl13 [(h0, .inr (9, [.null, .null])), (q1, .inr (1, [.null, .null, .null, .null, .null, .null, .null, .null, .int 0, .int 0, .int 0, .int 0, .int 0, .int 0, .int 0]))] H := hP
  have hD : va_D A [(h0, .inr (9, [.null, .null])), (q1, .inr (1, [.null, .null, .null, .null, .null, .null, .null, .null, .int 0, .int 0, .int 0, .int 0, .int 0, .int 0, .int 0]))] := hD
  refine W.widen (k := 1) (n := 15) (by decide) (by decide) ?_
  refine lv_dup hx hb dI_9_8 rfl ?_
  have hPc := hP.sub (ws' := [(q1, .inr (1, [.null, .null, .null, .null, .null, .null, .null, .null, .int 0, .int 0, .int 0, .int 0, .int 0, .int 0, .int 0]))]) [1] rfl
  have hDc := hD.sub (ws' := [(q1, .inr (1, [.null, .null, .null, .null, .null, .null, .null, .null, .int 0, .int 0, .int 0, .int 0, .int 0, .int 0, .int 0]))]) [1] (by decide) rfl
  have hFc := va_free (wc := [(q1, .inr (1, [.null, .null, .null, .null, .null, .null, .null, .null, .int 0, .int 0, .int 0, .int 0, .int 0, .int 0, .int 0]))]) hD hS hA [1] rfl
  refine va_callv (va_runI (As := []) (rest := [.ref q1, .ref h0]) ⟨hx, hb, hml, hown, hts⟩ (cI_1 l D cA cZ q1 H.size) (cwI 0 hts gI_1 rfl rfl rfl (hts _ (isW_mem (p := 4) (by decide +kernel) : Jvm.Cond.initialized (cn 1) ∈ tb)) (hts (.methodLink (cn 9) 11 yI_1) (isW_mem (p := 146) (by decide +kernel))) (hts (.instanceMethod yI_1) (isW_mem (p := 65) (by decide +kernel))) rfl (by decide +kernel) ⟨Nat.le_of_ble_eq_true rfl, Nat.le_of_ble_eq_true rfl⟩) ⟨fb_cPre, fun U hU hW => ⟨rfl, by rw [hU], by rw [hU]; exact hPc, va_K.moved hW.alike hK, hDc.weaken (fun _ _ _ _ => trivial)⟩⟩ rfl rfl hl.1 rfl (lv_room (Nat.le_of_ble_eq_true rfl)) dI_9_9 ⟨Nat.le_of_ble_eq_true rfl, Nat.le_of_ble_eq_true rfl⟩) hS (fun q _ h => hFc q h) hFc (fun u t H1 locs ht hvm hw hB hz1 hk1 hS => ?_)
  obtain ⟨u1, rfl⟩ : ∃ z, z = u := ⟨_, rfl⟩
  subst hw
  obtain ⟨hP1, hK1, hD1⟩ := hB
  rw [ht] at hP1
  obtain ⟨hP, hD⟩ := va_join (wr := [(h0, .inr (9, [.null, .null]))]) (w1 := wI_1 cA cZ u1) hP hD [1] [0] rfl rfl (by decide) (by decide) hk1 hFc hP1 hD1
  generalize H1 = H at hP hS ⊢
  have hP : va_P D cl13 [(h0, .inr (9, [.null, .null])), (u1 0, .inr (1, [.ref (u1 1), .ref (u1 2), .ref (u1 3), .ref (u1 4), .ref (u1 5), .ref (u1 6), .ref (u1 7), .ref (u1 8), .int 0, .int 0, .int 0, .int 0, .int 0, .int 0, .int 0])), (u1 1, .inl (cA, (4, .inl (fun _ => 0)))), (u1 2, .inl (cA, (4, .inl (fun _ => 0)))), (u1 3, .inl (cA, (6, .inl (fun _ => 0)))), (u1 4, .inl (cA, (6, .inl (fun _ => 0)))), (u1 5, .inl (cA, (6, .inl (fun _ => 0)))), (u1 6, .inl (cA, (6, .inl (fun _ => 0)))), (u1 7, .inl (cA, (6, .inl (fun _ => 0)))), (u1 8, .inl (cA, (6, .inl (fun _ => 0))))] H := hP
  have hD : va_D A [(h0, .inr (9, [.null, .null])), (u1 0, .inr (1, [.ref (u1 1), .ref (u1 2), .ref (u1 3), .ref (u1 4), .ref (u1 5), .ref (u1 6), .ref (u1 7), .ref (u1 8), .int 0, .int 0, .int 0, .int 0, .int 0, .int 0, .int 0])), (u1 1, .inl (cA, (4, .inl (fun _ => 0)))), (u1 2, .inl (cA, (4, .inl (fun _ => 0)))), (u1 3, .inl (cA, (6, .inl (fun _ => 0)))), (u1 4, .inl (cA, (6, .inl (fun _ => 0)))), (u1 5, .inl (cA, (6, .inl (fun _ => 0)))), (u1 6, .inl (cA, (6, .inl (fun _ => 0)))), (u1 7, .inl (cA, (6, .inl (fun _ => 0)))), (u1 8, .inl (cA, (6, .inl (fun _ => 0))))] := hD
  refine W.widen (k := 9) (n := 59) (by decide) (by decide) ?_
  refine cPutF (ci := 9) (v := .ref (u1 0)) hx hb hts (by decide) hown hin hK hP hD hS rfl 0 (by decide) (isW_mem (p := 196) (by decide +kernel)) rfl rfl rfl rfl (Nat.le_of_ble_eq_true rfl) dI_9_12 (fun H locs hP hD hS => ?_)
  have hP : va_P D cl13 [(h0, .inr (9, [.ref (u1 0), .null])), (u1 0, .inr (1, [.ref (u1 1), .ref (u1 2), .ref (u1 3), .ref (u1 4), .ref (u1 5), .ref (u1 6), .ref (u1 7), .ref (u1 8), .int 0, .int 0, .int 0, .int 0, .int 0, .int 0, .int 0])), (u1 1, .inl (cA, (4, .inl (fun _ => 0)))), (u1 2, .inl (cA, (4, .inl (fun _ => 0)))), (u1 3, .inl (cA, (6, .inl (fun _ => 0)))), (u1 4, .inl (cA, (6, .inl (fun _ => 0)))), (u1 5, .inl (cA, (6, .inl (fun _ => 0)))), (u1 6, .inl (cA, (6, .inl (fun _ => 0)))), (u1 7, .inl (cA, (6, .inl (fun _ => 0)))), (u1 8, .inl (cA, (6, .inl (fun _ => 0))))] H := hP
  have hD : va_D A [(h0, .inr (9, [.ref (u1 0), .null])), (u1 0, .inr (1, [.ref (u1 1), .ref (u1 2), .ref (u1 3), .ref (u1 4), .ref (u1 5), .ref (u1 6), .ref (u1 7), .ref (u1 8), .int 0, .int 0, .int 0, .int 0, .int 0, .int 0, .int 0])), (u1 1, .inl (cA, (4, .inl (fun _ => 0)))), (u1 2, .inl (cA, (4, .inl (fun _ => 0)))), (u1 3, .inl (cA, (6, .inl (fun _ => 0)))), (u1 4, .inl (cA, (6, .inl (fun _ => 0)))), (u1 5, .inl (cA, (6, .inl (fun _ => 0)))), (u1 6, .inl (cA, (6, .inl (fun _ => 0)))), (u1 7, .inl (cA, (6, .inl (fun _ => 0)))), (u1 8, .inl (cA, (6, .inl (fun _ => 0))))] := hD
  refine lv_aload_n hx hb dI_9_15 rfl (lv_at hl 0 rfl) ?_
  refine cNew (ci := 6) (fs := [.null, .null, .null, .int 0, .int 0, .int 0]) hx hb hts (by decide) hown (isW_mem (p := 147) (by decide +kernel)) (isW_mem (p := 148) (by decide +kernel)) (isW_mem (p := 6) (by decide +kernel)) hK hP hD hS hA zI_6 (Nat.le_of_ble_eq_true rfl) (Nat.le_of_ble_eq_true rfl) dI_9_16 (fun q2 H hP hD hS => ?_)
  have hP : va_P D cl13 [(h0, .inr (9, [.ref (u1 0), .null])), (u1 0, .inr (1, [.ref (u1 1), .ref (u1 2), .ref (u1 3), .ref (u1 4), .ref (u1 5), .ref (u1 6), .ref (u1 7), .ref (u1 8), .int 0, .int 0, .int 0, .int 0, .int 0, .int 0, .int 0])), (u1 1, .inl (cA, (4, .inl (fun _ => 0)))), (u1 2, .inl (cA, (4, .inl (fun _ => 0)))), (u1 3, .inl (cA, (6, .inl (fun _ => 0)))), (u1 4, .inl (cA, (6, .inl (fun _ => 0)))), (u1 5, .inl (cA, (6, .inl (fun _ => 0)))), (u1 6, .inl (cA, (6, .inl (fun _ => 0)))), (u1 7, .inl (cA, (6, .inl (fun _ => 0)))), (u1 8, .inl (cA, (6, .inl (fun _ => 0)))), (q2, .inr (6, [.null, .null, .null, .int 0, .int 0, .int 0]))] H := hP
  have hD : va_D A [(h0, .inr (9, [.ref (u1 0), .null])), (u1 0, .inr (1, [.ref (u1 1), .ref (u1 2), .ref (u1 3), .ref (u1 4), .ref (u1 5), .ref (u1 6), .ref (u1 7), .ref (u1 8), .int 0, .int 0, .int 0, .int 0, .int 0, .int 0, .int 0])), (u1 1, .inl (cA, (4, .inl (fun _ => 0)))), (u1 2, .inl (cA, (4, .inl (fun _ => 0)))), (u1 3, .inl (cA, (6, .inl (fun _ => 0)))), (u1 4, .inl (cA, (6, .inl (fun _ => 0)))), (u1 5, .inl (cA, (6, .inl (fun _ => 0)))), (u1 6, .inl (cA, (6, .inl (fun _ => 0)))), (u1 7, .inl (cA, (6, .inl (fun _ => 0)))), (u1 8, .inl (cA, (6, .inl (fun _ => 0)))), (q2, .inr (6, [.null, .null, .null, .int 0, .int 0, .int 0]))] := hD
  refine W.widen (k := 10) (n := 65) (by decide) (by decide) ?_
  refine lv_dup hx hb dI_9_19 rfl ?_
  have hPc := hP.sub (ws' := [(q2, .inr (6, [.null, .null, .null, .int 0, .int 0, .int 0]))]) [10] rfl
  have hDc := hD.sub (ws' := [(q2, .inr (6, [.null, .null, .null, .int 0, .int 0, .int 0]))]) [10] (by decide) rfl
  have hFc := va_free (wc := [(q2, .inr (6, [.null, .null, .null, .int 0, .int 0, .int 0]))]) hD hS hA [10] rfl
  refine va_callv (va_runI (As := []) (rest := [.ref q2, .ref h0]) ⟨hx, hb, hml, hown, hts⟩ (cI_6 l D cA cZ q2 H.size) (cwI 0 hts gI_6 rfl rfl rfl (hts _ (isW_mem (p := 6) (by decide +kernel) : Jvm.Cond.initialized (cn 6) ∈ tb)) (hts (.methodLink (cn 9) 20 yI_6) (isW_mem (p := 149) (by decide +kernel))) (hts (.instanceMethod yI_6) (isW_mem (p := 150) (by decide +kernel))) rfl (by decide +kernel) ⟨Nat.le_of_ble_eq_true rfl, Nat.le_of_ble_eq_true rfl⟩) ⟨fb_cPre, fun U hU hW => ⟨rfl, by rw [hU], by rw [hU]; exact hPc, va_K.moved hW.alike hK, hDc.weaken (fun _ _ _ _ => trivial)⟩⟩ rfl rfl hl.1 rfl (lv_room (Nat.le_of_ble_eq_true rfl)) dI_9_20 ⟨Nat.le_of_ble_eq_true rfl, Nat.le_of_ble_eq_true rfl⟩) hS (fun q _ h => hFc q h) hFc (fun u t H1 locs ht hvm hw hB hz1 hk1 hS => ?_)
  obtain ⟨u2, rfl⟩ : ∃ z, z = u := ⟨_, rfl⟩
  subst hw
  obtain ⟨hP1, hK1, hD1⟩ := hB
  rw [ht] at hP1
  obtain ⟨hP, hD⟩ := va_join (wr := [(h0, .inr (9, [.ref (u1 0), .null])), (u1 0, .inr (1, [.ref (u1 1), .ref (u1 2), .ref (u1 3), .ref (u1 4), .ref (u1 5), .ref (u1 6), .ref (u1 7), .ref (u1 8), .int 0, .int 0, .int 0, .int 0, .int 0, .int 0, .int 0])), (u1 1, .inl (cA, (4, .inl (fun _ => 0)))), (u1 2, .inl (cA, (4, .inl (fun _ => 0)))), (u1 3, .inl (cA, (6, .inl (fun _ => 0)))), (u1 4, .inl (cA, (6, .inl (fun _ => 0)))), (u1 5, .inl (cA, (6, .inl (fun _ => 0)))), (u1 6, .inl (cA, (6, .inl (fun _ => 0)))), (u1 7, .inl (cA, (6, .inl (fun _ => 0)))), (u1 8, .inl (cA, (6, .inl (fun _ => 0))))]) (w1 := wI_6 cA cZ u2) hP hD [10] [0, 1, 2, 3, 4, 5, 6, 7, 8, 9] rfl rfl (by decide) (by decide) hk1 hFc hP1 hD1
  generalize H1 = H at hP hS ⊢
  have hP : va_P D cl13 [(h0, .inr (9, [.ref (u1 0), .null])), (u1 0, .inr (1, [.ref (u1 1), .ref (u1 2), .ref (u1 3), .ref (u1 4), .ref (u1 5), .ref (u1 6), .ref (u1 7), .ref (u1 8), .int 0, .int 0, .int 0, .int 0, .int 0, .int 0, .int 0])), (u1 1, .inl (cA, (4, .inl (fun _ => 0)))), (u1 2, .inl (cA, (4, .inl (fun _ => 0)))), (u1 3, .inl (cA, (6, .inl (fun _ => 0)))), (u1 4, .inl (cA, (6, .inl (fun _ => 0)))), (u1 5, .inl (cA, (6, .inl (fun _ => 0)))), (u1 6, .inl (cA, (6, .inl (fun _ => 0)))), (u1 7, .inl (cA, (6, .inl (fun _ => 0)))), (u1 8, .inl (cA, (6, .inl (fun _ => 0)))), (u2 0, .inr (6, [.ref (u2 1), .ref (u2 2), .ref (u2 3), .int 0, .int 0, .int 0])), (u2 1, .inl (cA, (6, .inl (fun _ => 0)))), (u2 2, .inl (cA, (6, .inl (fun _ => 0)))), (u2 3, .inr (2, [.ref (u2 4)])), (u2 4, .inl (cA, (36, .inl (fun _ => 0))))] H := hP
  have hD : va_D A [(h0, .inr (9, [.ref (u1 0), .null])), (u1 0, .inr (1, [.ref (u1 1), .ref (u1 2), .ref (u1 3), .ref (u1 4), .ref (u1 5), .ref (u1 6), .ref (u1 7), .ref (u1 8), .int 0, .int 0, .int 0, .int 0, .int 0, .int 0, .int 0])), (u1 1, .inl (cA, (4, .inl (fun _ => 0)))), (u1 2, .inl (cA, (4, .inl (fun _ => 0)))), (u1 3, .inl (cA, (6, .inl (fun _ => 0)))), (u1 4, .inl (cA, (6, .inl (fun _ => 0)))), (u1 5, .inl (cA, (6, .inl (fun _ => 0)))), (u1 6, .inl (cA, (6, .inl (fun _ => 0)))), (u1 7, .inl (cA, (6, .inl (fun _ => 0)))), (u1 8, .inl (cA, (6, .inl (fun _ => 0)))), (u2 0, .inr (6, [.ref (u2 1), .ref (u2 2), .ref (u2 3), .int 0, .int 0, .int 0])), (u2 1, .inl (cA, (6, .inl (fun _ => 0)))), (u2 2, .inl (cA, (6, .inl (fun _ => 0)))), (u2 3, .inr (2, [.ref (u2 4)])), (u2 4, .inl (cA, (36, .inl (fun _ => 0))))] := hD
  refine W.widen (k := 14) (n := 114) (by decide) (by decide) ?_
  refine cPutF (ci := 9) (v := .ref (u2 0)) hx hb hts (by decide) hown hin hK hP hD hS rfl 1 (by decide) (isW_mem (p := 198) (by decide +kernel)) rfl rfl rfl rfl (Nat.le_of_ble_eq_true rfl) dI_9_23 (fun H locs hP hD hS => ?_)
  have hP : va_P D cl13 [(h0, .inr (9, [.ref (u1 0), .ref (u2 0)])), (u1 0, .inr (1, [.ref (u1 1), .ref (u1 2), .ref (u1 3), .ref (u1 4), .ref (u1 5), .ref (u1 6), .ref (u1 7), .ref (u1 8), .int 0, .int 0, .int 0, .int 0, .int 0, .int 0, .int 0])), (u1 1, .inl (cA, (4, .inl (fun _ => 0)))), (u1 2, .inl (cA, (4, .inl (fun _ => 0)))), (u1 3, .inl (cA, (6, .inl (fun _ => 0)))), (u1 4, .inl (cA, (6, .inl (fun _ => 0)))), (u1 5, .inl (cA, (6, .inl (fun _ => 0)))), (u1 6, .inl (cA, (6, .inl (fun _ => 0)))), (u1 7, .inl (cA, (6, .inl (fun _ => 0)))), (u1 8, .inl (cA, (6, .inl (fun _ => 0)))), (u2 0, .inr (6, [.ref (u2 1), .ref (u2 2), .ref (u2 3), .int 0, .int 0, .int 0])), (u2 1, .inl (cA, (6, .inl (fun _ => 0)))), (u2 2, .inl (cA, (6, .inl (fun _ => 0)))), (u2 3, .inr (2, [.ref (u2 4)])), (u2 4, .inl (cA, (36, .inl (fun _ => 0))))] H := hP
  have hD : va_D A [(h0, .inr (9, [.ref (u1 0), .ref (u2 0)])), (u1 0, .inr (1, [.ref (u1 1), .ref (u1 2), .ref (u1 3), .ref (u1 4), .ref (u1 5), .ref (u1 6), .ref (u1 7), .ref (u1 8), .int 0, .int 0, .int 0, .int 0, .int 0, .int 0, .int 0])), (u1 1, .inl (cA, (4, .inl (fun _ => 0)))), (u1 2, .inl (cA, (4, .inl (fun _ => 0)))), (u1 3, .inl (cA, (6, .inl (fun _ => 0)))), (u1 4, .inl (cA, (6, .inl (fun _ => 0)))), (u1 5, .inl (cA, (6, .inl (fun _ => 0)))), (u1 6, .inl (cA, (6, .inl (fun _ => 0)))), (u1 7, .inl (cA, (6, .inl (fun _ => 0)))), (u1 8, .inl (cA, (6, .inl (fun _ => 0)))), (u2 0, .inr (6, [.ref (u2 1), .ref (u2 2), .ref (u2 3), .int 0, .int 0, .int 0])), (u2 1, .inl (cA, (6, .inl (fun _ => 0)))), (u2 2, .inl (cA, (6, .inl (fun _ => 0)))), (u2 3, .inr (2, [.ref (u2 4)])), (u2 4, .inl (cA, (36, .inl (fun _ => 0))))] := hD
  have hP9 : va_P D cl13 (wI_9 cA cZ (fun i => ([h0, u1 0, u1 1, u1 2, u1 3, u1 4, u1 5, u1 6, u1 7, u1 8, u2 0, u2 1, u2 2, u2 3, u2 4] : List Nat).getD i 0)) H := hP
  have hD9 : va_D A (wI_9 cA cZ (fun i => ([h0, u1 0, u1 1, u1 2, u1 3, u1 4, u1 5, u1 6, u1 7, u1 8, u2 0, u2 1, u2 2, u2 3, u2 4] : List Nat).getD i 0)) := hD
  exact W.vret hx hb hr (fun t ht hW => ⟨⟨(fun i => ([h0, u1 0, u1 1, u1 2, u1 3, u1 4, u1 5, u1 6, u1 7, u1 8, u2 0, u2 1, u2 2, u2 3, u2 4] : List Nat).getD i 0), rfl, rfl, by rw [ht]; exact hP9, va_K.moved hW.alike hK, hD9⟩, hS.F ht⟩) hS.2.2 dI_9_26
