/-! part 06: a run of the abstract machine is one of the machine -/
set_option maxHeartbeats 4000000 in
theorem sim_rows {d y pc len : Nat} {i : Instr} {L st : List Value} {M : Mem} {q : Nx} (hs : sim d y pc len i L st M = some q) : ∀ t, 60 ≤ t → q.2.2.2 t = M t := by
  have e55 : nC = 55 := rfl
  intro t ht
  cases i
  case putfield idx =>
    simp only [sim, putF] at hs
    split at hs
    · split at hs
      · split at hs
        next hc => cases hs; exact up2_hi hc.1.1 t ht
        · cases hs
      · cases hs
    · split at hs
      · split at hs
        next hc => cases hs; exact up2_hi hc.1.1 t ht
        · cases hs
      · cases hs
    · cases hs
  case iastore =>
    simp only [sim, stE] at hs
    split at hs
    · split at hs
      next hc => cases hs; exact up2_hi hc.1.1 t ht
      · cases hs
    · cases hs
  case bastore =>
    simp only [sim, stZ] at hs
    split at hs
    · split at hs
      next hc => cases hs; exact up2_hi hc.1.1.1 t ht
      · cases hs
    · cases hs
  case invokestatic idx =>
    simp only [sim] at hs
    unfold maF at hs
    split at hs
    · cases hs
    · split at hs
      · split at hs
        · split at hs
          · cases hs; rfl
          · cases hs
        · split at hs
          · cases hs; rfl
          · cases hs
        · split at hs
          · cases hs; rfl
          · cases hs
        · cases hs
      · split at hs
        · split at hs
          next hc => cases hs; exact upr_hi hc.1.2.2.1 t ht
          · cases hs
        · cases hs
  all_goals first
    | (cases hs; done)
    | (cases hs; rfl)
    | (simp only [sim, ldI, ldA, ldL, stI, stA, stL, jmp, br, bin, binL, getF, ldE, ldZ, alen] at hs
       repeat' (split at hs)
       all_goals first | (cases hs; rfl) | (cases hs; done))
theorem run_rows : ∀ (n d y pc : Nat) (L st : List Value) (M : Mem) (x : Option Value × Mem), run n d y pc L st M = some x → ∀ t, 60 ≤ t → x.2 t = M t
  | 0, _, _, _, _, _, _, _, h => by cases h
  | n + 1, d, y, pc, L, st, M, x, h => by
    rw [run] at h
    intro t ht
    cases hd : decode (cd y) pc with
    | error e => rw [hd] at h; cases h
    | ok q =>
      obtain ⟨i, len⟩ := q
      rw [hd] at h
      simp only at h
      by_cases hl : lenOK i len = true
      · rw [if_pos hl] at h
        cases hs : sim d y pc len i L st M with
        | some q => rw [hs] at h; simp only at h; exact (run_rows n _ _ _ _ _ _ _ h t ht).trans (sim_rows hs t ht)
        | none =>
          rw [hs] at h
          simp only at h
          cases hf : fin y i st with
          | some r => rw [hf] at h; cases h; rfl
          | none =>
            rw [hf] at h
            simp only at h
            cases hc : cal y i st with
            | none => rw [hc] at h; cases h
            | some q =>
              rw [hc] at h
              cases d with
              | zero => cases h
              | succ d2 =>
                simp only at h
                cases hr : run n d2 q.1 0 (ent q.1 q.2.1) [] M with
                | none => rw [hr] at h; cases h
                | some z =>
                  rw [hr] at h
                  simp only at h
                  exact (run_rows n _ _ _ _ _ _ _ h t ht).trans (run_rows n _ _ _ _ _ _ _ hr t ht)
      · rw [if_neg hl] at h; cases h
/-- a state that holds the world -/
def Wd (D : va_G) (cA cZ : ClassId) (ad : Nat → Nat) (A : Nat → Prop) (M : Mem) (U : State) : Prop :=
  va_P D cl13 (wl ad cA cZ M) U.heap ∧ va_D A (wl ad cA cZ M) ∧ va_K D cl13 [(cA, .int), (cZ, .boolean)] U ∧ Old ad A U U.heap M ∧ ∀ q, U.heap.size ≤ q → A q
def Wq (D : va_G) (cA cZ : ClassId) (ad : Nat → Nat) (A : Nat → Prop) (x : Option Value × Mem) : Array Value → State → Outcome → State → Prop := fun _ st o t =>
  o = .returned (x.1.map (cv ad)) ∧ Wd D cA cZ ad A x.2 t ∧ va_F A st t
def rmD (d : Nat) : Room := { frames := d, cells := 0, slots := 0, locals := 64 * d }
def wsM (z : Nat) : List Jvm.Cond := .code (nm z) (cd z) (nl z) (rty z) :: tb
theorem good_tb {z : Nat} (h : z < nM) : GoodIn tb (wsM z) := by
  intro w hw
  have hm : w ∈ tb := by
    rcases List.mem_cons.mp hw with rfl | h2
    · exact (w_m h).1
    · exact h2
  exact ⟨hm, good_of_word (List.mem_filter.mp hm).2⟩
/-- what is due at a method's end -/
def We (p : Program) (l : Launch) (e : Env) (R : Room) (s : State) (m : MethodId) (args : Array Value) (below : List Frame) (meth : Method) (c : Code) (cells slots : Nat) (Q : State → Prop) (D : va_G) (cA cZ : ClassId) (ad : Nat → Nat) (A : Nat → Prop) (y : Nat) (x : Option Value × Mem) : Prop :=
  ∀ (pc : Nat) (i : Instr) (st : List Value) (ls : Array Slot) (H : Heap) (locs : List Loc), decode (cd y) pc = .ok (i, 1) → fin y i st = some x.1 → va_P D cl13 (wl ad cA cZ x.2) H → va_D A (wl ad cA cZ x.2) → va_S A s.heap H locs → Old ad A s s.heap x.2 → W p l e R s m args below meth c H locs cells slots Q (F0 m pc ls (st.map (cv ad)))
theorem we_met {p : Program} {l : Launch} {e : Env} {R : Room} {s : State} {m : MethodId} {args : Array Value} {below : List Frame} {meth : Method} {c : Code} {D : va_G} {cA cZ : ClassId} {ad : Nat → Nat} {A : Nat → Prop} {z : Nat} {x : Option Value × Mem} (hx : p.tables.exec = Jvm.exec) (hb : c.code = cd z) (hr : meth.sig.returnType = rty z) (hlocks : meth.locks = false) (hK : va_K D cl13 [(cA, .int), (cZ, .boolean)] s) (hA : ∀ q, s.heap.size ≤ q → A q) :
    We p l e R s m args below meth c 0 0 (MQ below (Wq D cA cZ ad A x) args s 0 0 A) D cA cZ ad A z x := by
  intro pc i st ls H locs hd hf hP hD hS hO
  obtain ⟨xr, xM⟩ := x
  simp only at hf hP hD hO
  have hO2 : Old ad A s H xM := hO.kept (fun a h1 h2 => hS.2.1 a h1 h2)
  have fine : ∀ t : State, t.heap = H → s.WarmedH t.vm → Wq D cA cZ ad A (xr, xM) args s (.returned (xr.map (cv ad))) t := by
    intro t ht hW
    refine ⟨rfl, ⟨by rw [ht]; exact hP, hD, va_K.moved hW.alike hK, by rw [ht]; exact hO2.warm hW, fun q hq => hA q ?_⟩, hS.F ht⟩
    rw [ht] at hq
    exact Nat.le_trans hS.1 hq
  unfold fin at hf
  split at hf
  · split at hf
    · split at hf
      next h =>
        cases hf
        rcases h with h | ⟨h, hv⟩
        · exact W.iret hx hb (hr.trans h) fine hS.2.2 hd
        · exact W.zret hx hb (hr.trans h) (by rcases hv with rfl | rfl <;> rfl) fine hS.2.2 hd
      · cases hf
    · cases hf
  · split at hf
    · split at hf
      next h =>
        cases hf
        exact W.vret hx hb (hr.trans h) fine hS.2.2 hd
      · cases hf
    · cases hf
  · split at hf
    · split at hf
      next h =>
        cases hf
        exact W.aret hx hb (hr.trans h) (Or.inl ⟨_, rfl⟩) (Or.inr ⟨_, rfl⟩) fine hS.2.2 hd
      · cases hf
    · cases hf
  · cases hf
/-- a contract out of a run -/
theorem met_of {l : Launch} {D : va_G} {cA cZ : ClassId} {ad : Nat → Nat} {A : Nat → Prop} {d z : Nat} {As : List Value} {M : Mem} {x : Option Value × Mem} (hz : z < nM) (hAs : (exA As).length ≤ nl z)
    (ih : ∀ {p : Program} {e : Env} {s : State} {m : MethodId} {args : Array Value} {below : List Frame} {meth : Method} {c : Code}, Cx D cA cZ p (rmD d) s m args c 0 0 d z → (∀ q, s.heap.size ≤ q → A q) → We p l e (rmD d) s m args below meth c 0 0 (MQ below (Wq D cA cZ ad A x) args s 0 0 A) D cA cZ ad A z x → Wn p l e (rmD d) s m args below meth c 0 0 (MQ below (Wq D cA cZ ad A x) args s 0 0 A) D cA cZ ad A z 0 (ent z As) [] M) :
    Met l (nm z) (wsM z) (rmD d) (va_Pc (As.map (cv ad)) (Wd D cA cZ ad A M)) (Wq D cA cZ ad A x) 0 0 A := by
  obtain ⟨g1, g2, -, -, -, -, -, -⟩ := w_m2 hz
  refine Met.ofW (cc := cd z) (maxL := nl z) (ret := rty z) g1 rfl ?_
  intro p e s m args below meth c s₁ B hml hv
  obtain ⟨rfl, hP, hD, hK, hO, hA⟩ := hv
  have hts := atoms_spec (ws := wsM z) B.pre
  have hown : s.vm.findClass (cn (mc z)) = some m.cls := by rw [← g2]; exact findClass_of_methodNamed B.named
  have C : Cx D cA cZ p (rmD d) s m (As.map (cv ad)).toArray c 0 0 d z := ⟨B.exec, B.bytes, hml, hown, fun w hw => hts w (List.mem_cons_of_mem _ hw), Nat.le_refl _, Nat.le_refl _, Nat.le_refl _, Nat.le_refl _, hK⟩
  rw [lg_entry_eq]
  exact ih C hA (we_met B.exec B.bytes B.returns B.notSynchronized hK hA) _ s.heap [] (ent_rel ad z As hAs) hP hD va_S.rf hO
theorem fb_Pc {D : va_G} {cA cZ : ClassId} {ad : Nat → Nat} {A : Nat → Prop} {M : Mem} {av : List Value} : FrameBlind (va_Pc av (Wd D cA cZ ad A M)) := by
  intro a U g mk h
  obtain ⟨h1, hP, hD, hK, hO, hA⟩ := h
  exact ⟨h1, hP, hD, va_K.moved (u := U) (U := U.calling g mk a) (Vm.Alike.refl U.vm) hK, hO.same rfl, hA⟩
theorem wd_call {D : va_G} {cA cZ : ClassId} {ad : Nat → Nat} {A : Nat → Prop} {M : Mem} {s U : State} {H : Heap} {locs : List Loc} (hK : va_K D cl13 [(cA, .int), (cZ, .boolean)] s) (hP : va_P D cl13 (wl ad cA cZ M) H) (hD : va_D A (wl ad cA cZ M)) (hS : va_S A s.heap H locs) (hO : Old ad A s s.heap M) (hA : ∀ q, s.heap.size ≤ q → A q) (hU : U.heap = H) (hW : s.WarmedH U.vm) : Wd D cA cZ ad A M U := by
  refine ⟨by rw [hU]; exact hP, hD, va_K.moved hW.alike hK, ?_, fun q hq => hA q ?_⟩
  · rw [hU]
    exact (hO.kept (fun a h1 h2 => hS.2.1 a h1 h2)).warm hW
  · rw [hU] at hq
    exact Nat.le_trans hS.1 hq
/-- behind a call -/
theorem behind {p : Program} {l : Launch} {e : Env} {R : Room} {s : State} {m : MethodId} {args : Array Value} {below : List Frame} {meth : Method} {c : Code} {cells slots : Nat} {Q : State → Prop} {D : va_G} {cA cZ : ClassId} {ad : Nat → Nat} {A : Nat → Prop} {y pc : Nat} {L st rest : List Value} {x : Option Value × Mem} {a : Array Value} {ls : Array Slot} {H : Heap} {locs : List Loc}
    (hr : va_Run p l e R s m args below meth c H locs cells slots 0 0 (F0 m pc ls (st.map (cv ad))) (rest.map (cv ad)) (Wq D cA cZ ad A x a) A) (hL : lrel ad L ls (nl y)) (hS : va_S A s.heap H locs) (hO : Old ad A s s.heap x.2)
    (kk : Wn p l e R s m args below meth c cells slots Q D cA cZ ad A y (pc + 3) L (x.1.toList ++ rest) x.2) : W p l e R s m args below meth c H locs cells slots Q (F0 m pc ls (st.map (cv ad))) := by
  intro T hT X
  obtain ⟨v, st₀, t, T', L2, h0, X', hL2, e1, e2, ⟨hv, ⟨hP, hD, hK, hO2, hA⟩, hz, hk⟩, go⟩ := hr T hT X
  cases hv
  rw [h0] at hz hk
  have K := kk ls T'.heap (locs ++ L2) hL (by rw [e1]; exact hP) hD ⟨Nat.le_trans hS.1 (by rw [e1]; exact hz), fun q h1 h2 => by rw [e1, hk q (Nat.lt_of_lt_of_le h1 hS.1) h2]; exact hS.2.1 q h1 h2, fun q hq => by
      rcases List.mem_append.mp hq with h | h
      · exact hS.2.2 q h
      · exact hL2 q h⟩ hO
  obtain ⟨t2, a1, b1⟩ := K T' rfl X'
  refine ⟨t2, go t2 ?_, b1⟩
  have es : (x.1.toList ++ rest).map (cv ad) = (x.1.map (cv ad)).toList ++ rest.map (cv ad) := by
    cases x.1 <;> rfl
  rw [es] at a1
  exact a1
set_option maxHeartbeats 4000000 in
theorem run_ok (l : Launch) (D : va_G) (cA cZ : ClassId) (ad : Nat → Nat) (A : Nat → Prop) : ∀ (n d y pc : Nat) (L st : List Value) (M : Mem) (x : Option Value × Mem), run n d y pc L st M = some x → ∀ (p : Program) (e : Env) (R : Room) (s : State) (m : MethodId) (args : Array Value) (below : List Frame) (meth : Method) (c : Code) (cells slots : Nat) (Q : State → Prop), Cx D cA cZ p R s m args c cells slots d y → (∀ q, s.heap.size ≤ q → A q) → We p l e R s m args below meth c cells slots Q D cA cZ ad A y x → Wn p l e R s m args below meth c cells slots Q D cA cZ ad A y pc L st M
  | 0, _, _, _, _, _, _, _, h => by cases h
  | n + 1, d, y, pc, L, st, M, x, h => by
    intro p e R s m args below meth c cells slots Q C hA hE
    rw [run] at h
    cases hd : decode (cd y) pc with
    | error e => rw [hd] at h; cases h
    | ok q =>
      obtain ⟨i, len⟩ := q
      rw [hd] at h
      simp only at h
      by_cases hl : lenOK i len = true
      · rw [if_pos hl] at h
        cases hs : sim d y pc len i L st M with
        | some q =>
          rw [hs] at h
          simp only at h
          exact sim_ok C hd hl hs (run_ok l D cA cZ ad A n d y _ _ _ _ x h _ _ _ _ _ _ _ _ _ _ _ _ C hA hE)
        | none =>
          rw [hs] at h
          simp only at h
          cases hf : fin y i st with
          | some r =>
            rw [hf] at h
            cases h
            intro ls H locs hL hP hD hS hO
            have h1 : len = 1 := by
              unfold fin at hf
              split at hf
              · simpa [lenOK] using hl
              · simpa [lenOK] using hl
              · simpa [lenOK] using hl
              · cases hf
            subst h1
            exact hE pc i st ls H locs hd hf hP hD hS hO
          | none =>
            rw [hf] at h
            simp only at h
            cases hc : cal y i st with
            | none => rw [hc] at h; cases h
            | some q =>
              obtain ⟨z, As, rest⟩ := q
              rw [hc] at h
              cases d with
              | zero => cases h
              | succ d2 =>
                simp only at h
                cases hr : run n d2 z 0 (ent z As) [] M with
                | none => rw [hr] at h; cases h
                | some w =>
                  rw [hr] at h
                  simp only at h
                  have kk : Wn p l e R s m args below meth c cells slots Q D cA cZ ad A y (pc + 3) L (w.1.toList ++ rest) w.2 := run_ok l D cA cZ ad A n (d2 + 1) y _ _ _ _ x h _ _ _ _ _ _ _ _ _ _ _ _ C hA hE
                  obtain ⟨hx, hb, hml, hown, hts, hfr, hlo, hce, hsl, hK⟩ := C
                  intro ls H locs hL hP hD hS hO
                  have hO2 : Old ad A s s.heap w.2 := hO.rows (run_rows _ _ _ _ _ _ _ _ hr)
                  unfold cal at hc
                  split at hc
                  · split at hc
                    next idx q hq =>
                      obtain ⟨wl1, hz⟩ := w_cI hq
                      obtain ⟨wm1, wm2, wm3, wm4⟩ := w_m hz
                      obtain ⟨g1, g2, g3, g4, g5, g6, g7, g8⟩ := w_m2 hz
                      split at hc
                      next k r hk =>
                        split at hc
                        next hcnd =>
                          cases hc
                          obtain ⟨⟨c1, c2, c3⟩, c4, c5, c6⟩ := hcnd
                          obtain rfl : len = 3 := by simpa [lenOK] using hl
                          have hM := met_of (l := l) (D := D) (cA := cA) (cZ := cZ) (ad := ad) (A := A) (d := d2) (M := M) (x := w) hz c6 (fun C2 hA2 hE2 => run_ok l D cA cZ ad A n d2 _ 0 _ _ M w hr _ _ _ _ _ _ _ _ _ _ _ _ C2 hA2 hE2)
                          rw [c1] at wm2
                          have est : st = (st.take (np q.1)) ++ .ref k :: rest := by rw [← hk]; exact (List.take_append_drop _ _).symm
                          have c13 : mc q.1 < 13 := g7 c1
                          refine behind (y := y) (L := L) (va_runV (C := cn (mc q.1)) (As := (st.take (np q.1)).reverse.map (cv ad)) (b := ad k) (n := np q.1) ⟨hx, hb, hml, hown, hts⟩ hM ⟨callB_of (np q.1) hts (good_tb hz) rfl rfl rfl (by rw [g2]; exact hts _ wm4) (hts _ wl1) (by rw [g2]; exact ⟨g3, g4, g5⟩) ⟨?_, ?_⟩, hts _ wm2, hts _ (wm3 c1)⟩ ⟨fb_Pc, va_recv hK hP (cl_at c13) (wl_obj c2 c3 c13), fun U hU hW => ⟨by simp [cv], wd_call hK hP hD hS hO hA hU hW⟩⟩ rfl ?_ hL.2.1 ?_ ?_ hd ⟨by omega, by omega⟩) hL hS hO2 kk
                          · show d2 + 1 ≤ R.frames; exact hfr
                          · show 8 + (nl q.1 + 11) + 64 * d2 ≤ R.locals; omega
                          · simp; omega
                          · show st.map (cv ad) = _
                            rw [← List.map_reverse, List.reverse_reverse]
                            conv => lhs; rw [est]
                            rw [List.map_append]
                            rfl
                          · exact lv_room (by rw [cv_sum]; exact c5)
                        next => cases hc
                      next => cases hc
                    next => cases hc
                  · split at hc
                    next idx q hq =>
                      obtain ⟨wl1, hz⟩ := w_cI hq
                      obtain ⟨wm1, wm2, wm3, wm4⟩ := w_m hz
                      obtain ⟨g1, g2, g3, g4, g5, g6, g7, g8⟩ := w_m2 hz
                      split at hc
                      next hcnd =>
                        cases hc
                        obtain ⟨c1, c4, c5, c6⟩ := hcnd
                        obtain rfl : len = 3 := by simpa [lenOK] using hl
                        have hM := met_of (l := l) (D := D) (cA := cA) (cZ := cZ) (ad := ad) (A := A) (d := d2) (M := M) (x := w) hz c6 (fun C2 hA2 hE2 => run_ok l D cA cZ ad A n d2 _ 0 _ _ M w hr _ _ _ _ _ _ _ _ _ _ _ _ C2 hA2 hE2)
                        rw [c1] at wm2
                        refine behind (y := y) (L := L) (va_runS (As := (st.take (np q.1)).reverse.map (cv ad)) (n := np q.1) ⟨hx, hb, hml, hown, hts⟩ hM ⟨callB_of (np q.1) hts (good_tb hz) rfl rfl rfl (by rw [g2]; exact hts _ wm4) (hts _ wl1) (by rw [g2]; exact ⟨g3, g4, g5⟩) ⟨?_, ?_⟩, hts _ wm2⟩ ⟨fb_Pc, fun U hU hW => ⟨rfl, wd_call hK hP hD hS hO hA hU hW⟩⟩ rfl ?_ hL.2.1 ?_ ?_ hd ⟨by omega, by omega⟩) hL hS hO2 kk
                        · show d2 + 1 ≤ R.frames; exact hfr
                        · show 8 + (nl q.1 + 11) + 64 * d2 ≤ R.locals; omega
                        · simp; omega
                        · show st.map (cv ad) = _
                          rw [← List.map_reverse, List.reverse_reverse, ← List.map_append, List.take_append_drop]
                        · exact lv_room (by rw [cv_sum]; exact c5)
                      next => cases hc
                    next => cases hc
                  · cases hc
      · rw [if_neg hl] at h; cases h
