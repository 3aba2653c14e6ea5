/-! part 66: making: rows for constructors -/
abbrev T2 (cA cZ : ClassId) : List (ClassId × FieldType) := [(cA, .int), (cZ, .boolean)]
theorem w_aI2 : (Jvm.Cond.arrayClass .int) ∈ tb := isW_mem (p := 41) (by decide +kernel)
theorem w_aZ2 : (Jvm.Cond.arrayClass .boolean) ∈ tb := isW_mem (p := 931) (by decide +kernel)
theorem w_oI : (Jvm.Cond.instanceMethod Lib.objectInit) ∈ tb := isW_mem (p := 24) (by decide +kernel)
theorem w_oC : (Jvm.Cond.code Lib.objectInit ⟨#[0xb1]⟩ 1 none) ∈ tb := isW_mem (p := 25) (by decide +kernel)
section MAKE
variable {p : Program} {l : Launch} {e : Env} {R : Room} {s : State} {m : MethodId} {args : Array Value} {below : List Frame} {meth : Method} {c : Code} {H : Heap} {locs : List Loc} {cells slots : Nat} {Q : State → Prop}
variable {cc : ByteArray} {pc : Nat} {ls : Array Slot} {rest : List Value} {A : Nat → Prop} {D : va_G} {cA cZ : ClassId} {ws : va_W}
theorem cNewI (hx : p.tables.exec = Jvm.exec) (hb : c.code = cc) (hts : ∀ w ∈ tb, w.before args s = true) (hK : va_K D cl13 (T2 cA cZ) s) (hP : va_P D cl13 ws H) (hD : va_D A ws) (hS : va_S A s.heap H locs) (hA : ∀ q, s.heap.size ≤ q → A q) {n : Int32} {N : Nat} (hn : ¬ n < 0) (hN : n.toNatClampNeg = N) (hby : N * componentBytes .int ≤ 536870912) (hcells : cells + 1 ≤ R.cells) (hslots : slots + N ≤ R.slots) (hdg : decode cc pc = .ok (.newarray .int, 2))
    (kk : ∀ (q : Nat) (H1 : Heap), va_P D cl13 (ws ++ [(q, .inl (cA, (N, .inl (fun _ => 0))))]) H1 → va_D A (ws ++ [(q, .inl (cA, (N, .inl (fun _ => 0))))]) → va_S A s.heap H1 locs → W p l e R s m args below meth c H1 locs (cells + 1) (slots + N) Q (F0 m (pc + 2) ls (.ref q :: rest))) : W p l e R s m args below meth c H locs cells slots Q (F0 m pc ls (.int n :: rest)) := by
  refine va_newa (atype := .int) hx hb (hts _ w_aI2) rfl hK hP hD hS hA (a0 := (N, .inl (fun _ => 0))) (fun cA => rfl) hn hN hby hcells hslots hdg (fun q cA2 H1 hK2 hP2 hD2 hS2 => ?_)
  have e1 := va_nm_int (hK.2 0 (cA, .int) rfl).2
  have e2 := va_nm_int (hK2.2 2 (cA2, .int) rfl).2
  rw [e1] at e2
  cases e2
  exact kk q H1 hP2 hD2 hS2
theorem cNewZ (hx : p.tables.exec = Jvm.exec) (hb : c.code = cc) (hts : ∀ w ∈ tb, w.before args s = true) (hK : va_K D cl13 (T2 cA cZ) s) (hP : va_P D cl13 ws H) (hD : va_D A ws) (hS : va_S A s.heap H locs) (hA : ∀ q, s.heap.size ≤ q → A q) {n : Int32} {N : Nat} (hn : ¬ n < 0) (hN : n.toNatClampNeg = N) (hby : N * componentBytes .boolean ≤ 536870912) (hcells : cells + 1 ≤ R.cells) (hslots : slots + N ≤ R.slots) (hdg : decode cc pc = .ok (.newarray .boolean, 2))
    (kk : ∀ (q : Nat) (H1 : Heap), va_P D cl13 (ws ++ [(q, .inl (cZ, (N, .inl (fun _ => 0))))]) H1 → va_D A (ws ++ [(q, .inl (cZ, (N, .inl (fun _ => 0))))]) → va_S A s.heap H1 locs → W p l e R s m args below meth c H1 locs (cells + 1) (slots + N) Q (F0 m (pc + 2) ls (.ref q :: rest))) : W p l e R s m args below meth c H locs cells slots Q (F0 m pc ls (.int n :: rest)) := by
  refine va_newa (atype := .boolean) hx hb (hts _ w_aZ2) rfl hK hP hD hS hA (a0 := (N, .inl (fun _ => 0))) (fun cA => rfl) hn hN hby hcells hslots hdg (fun q cA2 H1 hK2 hP2 hD2 hS2 => ?_)
  have e1 := va_nm_boolean (hK.2 1 (cZ, .boolean) rfl).2
  have e2 := va_nm_boolean (hK2.2 2 (cA2, .boolean) rfl).2
  rw [e1] at e2
  cases e2
  exact kk q H1 hP2 hD2 hS2
theorem cPutF (hx : p.tables.exec = Jvm.exec) (hb : c.code = cc) (hts : ∀ w ∈ tb, w.before args s = true) {ci idx : Nat} (hci : ci < 13) (hown : s.vm.findClass (cn ci) = some m.cls) (hin : meth.name = "<init>") (hK : va_K D cl13 (T2 cA cZ) s) (hP : va_P D cl13 ws H) (hD : va_D A ws) (hS : va_S A s.heap H locs) {a : Nat} {fs : List Value} (he : ws[0]? = some (a, .inr (ci, fs))) (k : Nat) (hk : k < nf ci) (hlink : Jvm.Cond.fieldLink (cn ci) idx (fT ci k).1 (fT ci k).2.1 (fT ci k).2.2.1 ∈ tb) (hfin : (fT ci k).2.2.2 = true) (hdecl : (fT ci k).1 = cn ci) {v : Value} (hn : narrow (fTy ci k) v = v) (hfit : fits (fTy ci k) v = true) (hl : k < fs.length) (hdg : decode cc pc = .ok (.putfield idx, 3))
    (kk : ∀ (H1 : Heap) (locs1 : List Loc), va_P D cl13 (ws.set 0 (a, .inr (ci, fs.set k v))) H1 → va_D A (ws.set 0 (a, .inr (ci, fs.set k v))) → va_S A s.heap H1 locs1 → W p l e R s m args below meth c H1 locs1 cells slots Q (F0 m (pc + 3) ls rest)) : W p l e R s m args below meth c H locs cells slots Q (F0 m pc ls (v :: .ref a :: rest)) :=
  va_putF (C := cn ci) (T := fT ci) (N := nf ci) hx hb hts (w_lay hci) (fTy ci) (w_ty hci) (w_nm hci) hown hK hP hD hS 0 he (cl_at hci) k hk (hts _ hlink) (fun _ h => h) hfin hin hdecl (w_ty hci k hk) hn hfit hl hdg kk
theorem cPut (hx : p.tables.exec = Jvm.exec) (hb : c.code = cc) (hts : ∀ w ∈ tb, w.before args s = true) {ci idx : Nat} (hci : ci < 13) (hown : s.vm.findClass (cn ci) = some m.cls) (hK : va_K D cl13 (T2 cA cZ) s) (hP : va_P D cl13 ws H) (hD : va_D A ws) (hS : va_S A s.heap H locs) {a : Nat} {fs : List Value} (he : ws[0]? = some (a, .inr (ci, fs))) (k : Nat) (hk : k < nf ci) (hlink : Jvm.Cond.fieldLink (cn ci) idx (fT ci k).1 (fT ci k).2.1 (fT ci k).2.2.1 ∈ tb) (hfin : (fT ci k).2.2.2 = false) {v : Value} (hn : narrow (fTy ci k) v = v) (hfit : fits (fTy ci k) v = true) (hl : k < fs.length) (hdg : decode cc pc = .ok (.putfield idx, 3))
    (kk : ∀ (H1 : Heap) (locs1 : List Loc), va_P D cl13 (ws.set 0 (a, .inr (ci, fs.set k v))) H1 → va_D A (ws.set 0 (a, .inr (ci, fs.set k v))) → va_S A s.heap H1 locs1 → W p l e R s m args below meth c H1 locs1 cells slots Q (F0 m (pc + 3) ls rest)) : W p l e R s m args below meth c H locs cells slots Q (F0 m pc ls (v :: .ref a :: rest)) :=
  va_put (C := cn ci) (T := fT ci) (N := nf ci) hx hb hts (w_lay hci) (fTy ci) (w_ty hci) (w_nm hci) hown hK hP hD hS 0 he (cl_at hci) k hk (hts _ hlink) (fun _ h => h) hfin (w_ty hci k hk) hn hfit hl hdg kk
theorem cNew (hx : p.tables.exec = Jvm.exec) (hb : c.code = cc) (hts : ∀ w ∈ tb, w.before args s = true) {own : String} {ci idx : Nat} (hci : ci < 13) (hown : s.vm.findClass own = some m.cls) (hcl : Jvm.Cond.classLink own idx (cn ci) ∈ tb) (hinst : Jvm.Cond.instantiable (cn ci) (nf ci) ∈ tb) (hini : Jvm.Cond.initialized (cn ci) ∈ tb) (hK : va_K D cl13 (T2 cA cZ) s) (hP : va_P D cl13 ws H) (hD : va_D A ws) (hS : va_S A s.heap H locs) (hA : ∀ q, s.heap.size ≤ q → A q) {fs : List Value} (hfs : ∀ j, j < nf ci → defaultValue (fTy ci j) = vp_V fs j) (hcells : cells + 1 ≤ R.cells) (hslots : slots + nf ci ≤ R.slots) (hdg : decode cc pc = .ok (.new idx, 3))
    (kk : ∀ (q : Nat) (H1 : Heap), va_P D cl13 (ws ++ [(q, .inr (ci, fs))]) H1 → va_D A (ws ++ [(q, .inr (ci, fs))]) → va_S A s.heap H1 locs → W p l e R s m args below meth c H1 locs (cells + 1) (slots + nf ci) Q (F0 m (pc + 3) ls (.ref q :: rest))) : W p l e R s m args below meth c H locs cells slots Q (F0 m pc ls rest) :=
  va_new (C := cn ci) (T := fT ci) (N := nf ci) hx hb hts (w_lay hci) (fTy ci) (w_ty hci) hown (hts _ hcl) (hts _ hinst) (hts _ hini) hK hP hD hS hA (cl_at hci) hfs hcells hslots hdg kk
end MAKE
/-- what a constructor's call begins with, and ends with -/
def cPre (D : va_G) (cA cZ : ClassId) (h0 sz ci : Nat) (fs : List Value) (U : State) : Prop := U.heap.size = sz ∧ va_P D cl13 [(h0, .inr (ci, fs))] U.heap ∧ va_K D cl13 (T2 cA cZ) U ∧ va_D (fun _ => True) [(h0, .inr (ci, fs))]
def cPost (D : va_G) (cA cZ : ClassId) (h0 sz ci : Nat) (fs : List Value) (wF : (Nat → Nat) → va_W) (q : Nat → Nat) (t : State) : Prop := va_P D cl13 (wF q) t.heap ∧ va_K D cl13 (T2 cA cZ) t ∧ va_D (va_A [(h0, .inr (ci, fs))] sz) (wF q)
theorem fb_cPre {D : va_G} {cA cZ : ClassId} {h0 sz ci : Nat} {fs av : List Value} : FrameBlind (va_Pc av (cPre D cA cZ h0 sz ci fs)) := by
  intro a U g mk q
  obtain ⟨q0, q1, qP, qK, qD⟩ := q
  exact ⟨q0, q1, qP, va_K.moved (u := U) (U := U.calling g mk a) (Vm.Alike.refl U.vm) qK, qD⟩
