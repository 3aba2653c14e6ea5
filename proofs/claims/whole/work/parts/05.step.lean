/-! part 05: a step of the abstract machine is one of the machine -/
theorem kd15 {k : Nat} (h : kd k = 15) : 60 ≤ k ∧ k < 64 := by
  unfold kd at h
  by_cases h1 : k < 60
  · rw [if_pos h1] at h
    exfalso
    have := all_at (n := 60) (p := fun k => decide ((ceL.getD k (99, 0)).1 ≠ 15)) (by decide +kernel) h1
    simp only [decide_eq_true_eq] at this
    exact this h
  · rw [if_neg h1] at h
    by_cases h2 : k < 64
    · exact ⟨by omega, h2⟩
    · rw [if_neg h2] at h
      cases h
def Cx (D : va_G) (cA cZ : ClassId) (p : Program) (R : Room) (s : State) (m : MethodId) (args : Array Value) (c : Code) (cells slots d y : Nat) : Prop :=
  p.tables.exec = Jvm.exec ∧ c.code = cd y ∧ c.maxLocals = nl y ∧ s.vm.findClass (cn (mc y)) = some m.cls ∧ (∀ w ∈ tb, w.before args s = true) ∧ d ≤ R.frames ∧ 64 * d ≤ R.locals ∧ cells ≤ R.cells ∧ slots ≤ R.slots ∧ va_K D cl13 [(cA, .int), (cZ, .boolean)] s
def Wn (p : Program) (l : Launch) (e : Env) (R : Room) (s : State) (m : MethodId) (args : Array Value) (below : List Frame) (meth : Method) (c : Code) (cells slots : Nat) (Q : State → Prop) (D : va_G) (cA cZ : ClassId) (ad : Nat → Nat) (A : Nat → Prop) (y pc : Nat) (L st : List Value) (M : Mem) : Prop :=
  ∀ (ls : Array Slot) (H : Heap) (locs : List Loc), lrel ad L ls (nl y) → va_P D cl13 (wl ad cA cZ M) H → va_D A (wl ad cA cZ M) → va_S A s.heap H locs → Old ad A s s.heap M → W p l e R s m args below meth c H locs cells slots Q (F0 m pc ls (st.map (cv ad)))
theorem fv_cv {ad : Nat → Nat} {M : Mem} {k ci j : Nat} (h : kd k = ci) : fv ad M k j = cv ad (match fk ci j with | 0 => .int (M k j) | 1 => .int (M k j) | 2 => .long (M k j).toInt64 | _ => .ref (rt k j)) := by
  unfold fv
  rw [h]
  generalize fk ci j = g
  match g with
  | 0 => rfl
  | 1 => rfl
  | 2 => rfl
  | _ + 3 => rfl
section STEP
variable {p : Program} {l : Launch} {e : Env} {R : Room} {s : State} {m : MethodId} {args : Array Value} {below : List Frame} {meth : Method} {c : Code} {cells slots : Nat} {Q : State → Prop} {D : va_G} {cA cZ : ClassId} {ad : Nat → Nat} {A : Nat → Prop} {d y : Nat}
theorem br_tgt {pc : Nat} {off : Int} (h : 0 ≤ (pc : Int) + off) : (pc : Int) + off = ((((pc : Int) + off).toNat : Nat) : Int) := (Int.toNat_of_nonneg h).symm
set_option maxHeartbeats 4000000 in
theorem sim_ok (C : Cx D cA cZ p R s m args c cells slots d y) {pc len : Nat} {i : Instr} {L st : List Value} {M : Mem} {q : Nx} (hd : decode (cd y) pc = .ok (i, len)) (hl : lenOK i len = true) (hs : sim d y pc len i L st M = some q)
    (kk : Wn p l e R s m args below meth c cells slots Q D cA cZ ad A y q.1 q.2.1 q.2.2.1 q.2.2.2) : Wn p l e R s m args below meth c cells slots Q D cA cZ ad A y pc L st M := by
  intro ls H locs hL hP hD hS hO
  obtain ⟨hx, hb, hml, hown, hts, hfr, hlo, hce, hsl, hK⟩ := C
  cases i
  case iconst n =>
    obtain rfl : len = 1 := by simpa [lenOK] using hl
    cases hs
    exact lv_iconst hx hb hd rfl (kk ls H locs hL hP hD hS hO)
  case bipush n =>
    obtain rfl : len = 2 := by simpa [lenOK] using hl
    cases hs
    exact lv_bipush hx hb hd rfl (kk ls H locs hL hP hD hS hO)
  case sipush n =>
    obtain rfl : len = 3 := by simpa [lenOK] using hl
    cases hs
    exact lv_sipush hx hb hd rfl (kk ls H locs hL hP hD hS hO)
  case lconst n =>
    obtain rfl : len = 1 := by simpa [lenOK] using hl
    cases hs
    exact lv_lconst hx hb hd rfl (kk ls H locs hL hP hD hS hO)
  case ldc idx =>
    obtain rfl : len = 2 := by simpa [lenOK] using hl
    simp only [sim] at hs
    split at hs
    next z hz =>
      cases hs
      exact lv_ldc hx hb hown (hts _ (w_kI hz)) hd (kk ls H locs hL hP hD hS hO)
    next => cases hs
  case ldc_w idx =>
    obtain rfl : len = 3 := by simpa [lenOK] using hl
    simp only [sim] at hs
    split at hs
    next z hz =>
      cases hs
      exact lv_ldcw hx hb hown (hts _ (w_kI hz)) hd (kk ls H locs hL hP hD hS hO)
    next => cases hs
  case ldc2_w idx =>
    obtain rfl : len = 3 := by simpa [lenOK] using hl
    simp only [sim] at hs
    split at hs
    next z hz =>
      cases hs
      exact lv_ldc2 hx hb hown (hts _ (w_kJ hz)) hd (kk ls H locs hL hP hD hS hO)
    next => cases hs
  case iload_n k =>
    obtain rfl : len = 1 := by simpa [lenOK] using hl
    simp only [sim, ldI] at hs
    split at hs
    next z hz =>
      cases hs
      exact lv_iload_n hx hb hd rfl (hL.2.2.2 _ _ hz (by simp)) (kk ls H locs hL hP hD hS hO)
    next => cases hs
  case aload_n k =>
    obtain rfl : len = 1 := by simpa [lenOK] using hl
    simp only [sim, ldA] at hs
    split at hs
    next z hz =>
      cases hs
      exact lv_aload_n hx hb hd rfl (hL.2.2.2 _ _ hz (by simp)) (kk ls H locs hL hP hD hS hO)
    next => cases hs
  case lload_n k =>
    obtain rfl : len = 1 := by simpa [lenOK] using hl
    simp only [sim, ldL] at hs
    split at hs
    next z hz =>
      cases hs
      exact lv_lload_n hx hb hd rfl (hL.2.2.2 _ _ hz (by simp)) (kk ls H locs hL hP hD hS hO)
    next => cases hs
  case iload k =>
    obtain rfl : len = 2 := by simpa [lenOK] using hl
    simp only [sim, ldI] at hs
    split at hs
    next z hz =>
      cases hs
      exact lv_iload hx hb hd (hL.2.2.2 _ _ hz (by simp)) (kk ls H locs hL hP hD hS hO)
    next => cases hs
  case lload k =>
    obtain rfl : len = 2 := by simpa [lenOK] using hl
    simp only [sim, ldL] at hs
    split at hs
    next z hz =>
      cases hs
      exact lv_lload hx hb hd (hL.2.2.2 _ _ hz (by simp)) (kk ls H locs hL hP hD hS hO)
    next => cases hs
  case istore_n k =>
    obtain rfl : len = 1 := by simpa [lenOK] using hl
    simp only [sim, stI] at hs
    split at hs
    next z r =>
      split at hs
      next hi =>
        cases hs
        exact lv_istore_n hx hb hd rfl hL.has (by rw [← hL.1]; exact hi) rfl (fun ls2 h2 => kk ls2 H locs (hL.set1 (v := .int z) hi h2) hP hD hS hO)
      next => cases hs
    next => cases hs
  case istore k =>
    obtain rfl : len = 2 := by simpa [lenOK] using hl
    simp only [sim, stI] at hs
    split at hs
    next z r =>
      split at hs
      next hi =>
        cases hs
        exact lv_istore hx hb hd hL.has (by rw [← hL.1]; exact hi) rfl (fun ls2 h2 => kk ls2 H locs (hL.set1 (v := .int z) hi h2) hP hD hS hO)
      next => cases hs
    next => cases hs
  case astore_n k =>
    obtain rfl : len = 1 := by simpa [lenOK] using hl
    simp only [sim, stA] at hs
    split at hs
    next z r =>
      split at hs
      next hi =>
        cases hs
        exact lv_astore_n hx hb hd rfl hL.has (by rw [← hL.1]; exact hi) rfl (fun ls2 h2 => kk ls2 H locs (hL.set1 (v := .ref z) hi h2) hP hD hS hO)
      next => cases hs
    next => cases hs
  case lstore_n k =>
    obtain rfl : len = 1 := by simpa [lenOK] using hl
    simp only [sim, stL] at hs
    split at hs
    next z r =>
      split at hs
      next hi =>
        cases hs
        exact lv_lstore_n hx hb hd rfl hL.has (by rw [← hL.1]; exact hi) rfl (fun ls2 h2 => kk ls2 H locs (hL.set2 (v := .long z) hi h2) hP hD hS hO)
      next => cases hs
    next => cases hs
  case iinc k n =>
    obtain rfl : len = 3 := by simpa [lenOK] using hl
    simp only [sim] at hs
    split at hs
    next z hz =>
      cases hs
      have hi := (List.getElem?_eq_some_iff.mp hz).1
      obtain ⟨j, hj⟩ := List.getElem?_of_mem (la_mem (ad := ad) hz (by simp))
      exact lv_iinc (k := j) (v := z + Int32.ofInt n) hx hb hd hL.has hj rfl (by rw [← hL.1]; exact hi) rfl (fun ls2 h2 => kk ls2 H locs (hL.set1 (v := .int (z + Int32.ofInt n)) hi h2) hP hD hS hO)
    next => cases hs
  case iadd =>
    obtain rfl : len = 1 := by simpa [lenOK] using hl
    simp only [sim, bin] at hs
    split at hs
    next b a r =>
      cases hs
      exact lv_iadd hx hb hd (kk ls H locs hL hP hD hS hO)
    next => cases hs
  case isub =>
    obtain rfl : len = 1 := by simpa [lenOK] using hl
    simp only [sim, bin] at hs
    split at hs
    next b a r =>
      cases hs
      exact lv_isub hx hb hd (kk ls H locs hL hP hD hS hO)
    next => cases hs
  case imul =>
    obtain rfl : len = 1 := by simpa [lenOK] using hl
    simp only [sim, bin] at hs
    split at hs
    next b a r =>
      cases hs
      exact lv_imul hx hb hd (kk ls H locs hL hP hD hS hO)
    next => cases hs
  case iand =>
    obtain rfl : len = 1 := by simpa [lenOK] using hl
    simp only [sim, bin] at hs
    split at hs
    next b a r =>
      cases hs
      exact lv_iand hx hb hd (kk ls H locs hL hP hD hS hO)
    next => cases hs
  case ior =>
    obtain rfl : len = 1 := by simpa [lenOK] using hl
    simp only [sim, bin] at hs
    split at hs
    next b a r =>
      cases hs
      exact lv_ior hx hb hd (kk ls H locs hL hP hD hS hO)
    next => cases hs
  case ixor =>
    obtain rfl : len = 1 := by simpa [lenOK] using hl
    simp only [sim, bin] at hs
    split at hs
    next b a r =>
      cases hs
      exact lv_ixor hx hb hd (kk ls H locs hL hP hD hS hO)
    next => cases hs
  case ishl =>
    obtain rfl : len = 1 := by simpa [lenOK] using hl
    simp only [sim, bin] at hs
    split at hs
    next b a r =>
      cases hs
      exact lv_ishl hx hb hd (kk ls H locs hL hP hD hS hO)
    next => cases hs
  case ishr =>
    obtain rfl : len = 1 := by simpa [lenOK] using hl
    simp only [sim, bin] at hs
    split at hs
    next b a r =>
      cases hs
      exact lv_ishr hx hb hd (kk ls H locs hL hP hD hS hO)
    next => cases hs
  case iushr =>
    obtain rfl : len = 1 := by simpa [lenOK] using hl
    simp only [sim, bin] at hs
    split at hs
    next b a r =>
      cases hs
      exact lv_iushr hx hb hd rfl (kk ls H locs hL hP hD hS hO)
    next => cases hs
  case ladd =>
    obtain rfl : len = 1 := by simpa [lenOK] using hl
    simp only [sim, binL] at hs
    split at hs
    next b a r =>
      cases hs
      exact lv_ladd hx hb hd (kk ls H locs hL hP hD hS hO)
    next => cases hs
  case lmul =>
    obtain rfl : len = 1 := by simpa [lenOK] using hl
    simp only [sim, binL] at hs
    split at hs
    next b a r =>
      cases hs
      exact lv_lmul hx hb hd (kk ls H locs hL hP hD hS hO)
    next => cases hs
  case land =>
    obtain rfl : len = 1 := by simpa [lenOK] using hl
    simp only [sim, binL] at hs
    split at hs
    next b a r =>
      cases hs
      exact lv_land hx hb hd (kk ls H locs hL hP hD hS hO)
    next => cases hs
  case idiv =>
    obtain rfl : len = 1 := by simpa [lenOK] using hl
    simp only [sim] at hs
    split at hs
    next b a r =>
      split at hs
      next hne =>
        cases hs
        exact lv_idiv hx hb hd hne (kk ls H locs hL hP hD hS hO)
      next => cases hs
    next => cases hs
  case irem =>
    obtain rfl : len = 1 := by simpa [lenOK] using hl
    simp only [sim] at hs
    split at hs
    next b a r =>
      split at hs
      next hne =>
        cases hs
        exact lv_irem hx hb hd hne (kk ls H locs hL hP hD hS hO)
      next => cases hs
    next => cases hs
  case ldiv =>
    obtain rfl : len = 1 := by simpa [lenOK] using hl
    simp only [sim] at hs
    split at hs
    next b a r =>
      split at hs
      next hne =>
        cases hs
        exact lv_ldiv hx hb hd hne (kk ls H locs hL hP hD hS hO)
      next => cases hs
    next => cases hs
  case lrem =>
    obtain rfl : len = 1 := by simpa [lenOK] using hl
    simp only [sim] at hs
    split at hs
    next b a r =>
      split at hs
      next hne =>
        cases hs
        exact lv_lrem hx hb hd hne (kk ls H locs hL hP hD hS hO)
      next => cases hs
    next => cases hs
  case ineg =>
    obtain rfl : len = 1 := by simpa [lenOK] using hl
    simp only [sim] at hs
    split at hs
    next a r =>
      cases hs
      exact lv_ineg hx hb hd (kk ls H locs hL hP hD hS hO)
    next => cases hs
  case lcmp =>
    obtain rfl : len = 1 := by simpa [lenOK] using hl
    simp only [sim] at hs
    split at hs
    next b a r =>
      cases hs
      exact W.lcmp hx hb hd (kk ls H locs hL hP hD hS hO)
    next => cases hs
  case i2l =>
    obtain rfl : len = 1 := by simpa [lenOK] using hl
    simp only [sim] at hs
    split at hs
    next a r =>
      cases hs
      exact lv_i2l hx hb hd rfl (kk ls H locs hL hP hD hS hO)
    next => cases hs
  case l2i =>
    obtain rfl : len = 1 := by simpa [lenOK] using hl
    simp only [sim] at hs
    split at hs
    next a r =>
      cases hs
      exact lv_l2i hx hb hd rfl (kk ls H locs hL hP hD hS hO)
    next => cases hs
  case dup =>
    obtain rfl : len = 1 := by simpa [lenOK] using hl
    simp only [sim] at hs
    split at hs
    next a r =>
      cases hs
      exact lv_dup hx hb hd rfl (kk ls H locs hL hP hD hS hO)
    next a r =>
      cases hs
      exact lv_dup hx hb hd rfl (kk ls H locs hL hP hD hS hO)
    next => cases hs
  case dup2 =>
    obtain rfl : len = 1 := by simpa [lenOK] using hl
    simp only [sim] at hs
    split at hs
    next a b r =>
      cases hs
      exact lv_dup2_11 hx hb hd rfl rfl (kk ls H locs hL hP hD hS hO)
    next => cases hs
  case pop =>
    obtain rfl : len = 1 := by simpa [lenOK] using hl
    simp only [sim] at hs
    split at hs
    next a r =>
      cases hs
      exact lv_pop hx hb hd rfl (kk ls H locs hL hP hD hS hO)
    next => cases hs
  case goto off =>
    obtain rfl : len = 3 := by simpa [lenOK] using hl
    simp only [sim, jmp] at hs
    split at hs
    next h0 =>
      cases hs
      exact lv_goto hx hb hd (br_tgt h0) (kk ls H locs hL hP hD hS hO)
    next => cases hs
  case if_icmp co off =>
    obtain rfl : len = 3 := by simpa [lenOK] using hl
    simp only [sim, br] at hs
    split at hs
    next b a r =>
      split at hs
      next h0 =>
        cases hs
        have K := kk ls H locs hL hP hD hS hO
        simp only at K
        cases co
        case eq => exact lv_icmp_eq hx hb hd (br_tgt h0) (fun h => by rw [if_pos (by simpa [ccI] using h)] at K; exact K) (fun h => by rw [if_neg (by simpa [ccI] using h)] at K; exact K)
        case ne => exact lv_icmp_ne hx hb hd (br_tgt h0) (fun h => by rw [if_pos (by simpa [ccI] using h)] at K; exact K) (fun h => by rw [if_neg (by simpa [ccI] using h)] at K; exact K)
        case lt => exact lv_icmp_lt hx hb hd (br_tgt h0) (fun h => by rw [if_pos (by simpa [ccI] using h)] at K; exact K) (fun h => by rw [if_neg (by simpa [ccI] using h)] at K; exact K)
        case ge => exact lv_icmp_ge hx hb hd (br_tgt h0) (fun h => by rw [if_pos (by simpa [ccI] using h)] at K; exact K) (fun h => by rw [if_neg (by simpa [ccI] using h)] at K; exact K)
        case gt => exact lv_icmp_gt hx hb hd (br_tgt h0) (fun h => by rw [if_pos (by simpa [ccI] using h)] at K; exact K) (fun h => by rw [if_neg (by simpa [ccI] using h)] at K; exact K)
        case le => exact lv_icmp_le hx hb hd (br_tgt h0) (fun h => by rw [if_pos (by simpa [ccI] using h)] at K; exact K) (fun h => by rw [if_neg (by simpa [ccI] using h)] at K; exact K)
      next => cases hs
    next => cases hs
  case ifCond co off =>
    obtain rfl : len = 3 := by simpa [lenOK] using hl
    simp only [sim, br] at hs
    split at hs
    next a r =>
      split at hs
      next h0 =>
        cases hs
        have K := kk ls H locs hL hP hD hS hO
        simp only at K
        cases co
        case eq => exact lv_if_eq hx hb hd (br_tgt h0) (fun h => by rw [if_pos (by simpa [ccI] using h)] at K; exact K) (fun h => by rw [if_neg (by simpa [ccI] using h)] at K; exact K)
        case ne => exact lv_if_ne hx hb hd (br_tgt h0) (fun h => by rw [if_pos (by simpa [ccI] using h)] at K; exact K) (fun h => by rw [if_neg (by simpa [ccI] using h)] at K; exact K)
        case lt => exact lv_if_lt hx hb hd (br_tgt h0) (fun h => by rw [if_pos (by simpa [ccI] using h)] at K; exact K) (fun h => by rw [if_neg (by simpa [ccI] using h)] at K; exact K)
        case ge => exact lv_if_ge hx hb hd (br_tgt h0) (fun h => by rw [if_pos (by simpa [ccI] using h)] at K; exact K) (fun h => by rw [if_neg (by simpa [ccI] using h)] at K; exact K)
        case gt => exact lv_if_gt hx hb hd (br_tgt h0) (fun h => by rw [if_pos (by simpa [ccI] using h)] at K; exact K) (fun h => by rw [if_neg (by simpa [ccI] using h)] at K; exact K)
        case le => exact lv_if_le hx hb hd (br_tgt h0) (fun h => by rw [if_pos (by simpa [ccI] using h)] at K; exact K) (fun h => by rw [if_neg (by simpa [ccI] using h)] at K; exact K)
      next => cases hs
    next => cases hs
  case tableswitch dflt lo hi offs =>
    simp only [sim, jmp] at hs
    split at hs
    next x r =>
      split at hs
      next hz =>
        split at hs
        next h0 =>
          cases hs
          by_cases h1 : x.toInt < lo ∨ hi < x.toInt
          · have e1 : tsw lo hi dflt offs x = dflt := by unfold tsw; rw [if_pos h1]
            rw [e1] at h0 kk
            exact lv_tableOut hx hb hd h1 (br_tgt h0) (kk ls H locs hL hP hD hS hO)
          · have e1 : tsw lo hi dflt offs x = offs.getD (x.toInt - lo).toNat dflt := by unfold tsw; rw [if_neg h1]
            have h2 : (x.toInt - lo).toNat < offs.size := by rw [hz]; omega
            have e2 : offs.getD (x.toInt - lo).toNat dflt = offs[(x.toInt - lo).toNat] := by simp [Array.getD, h2]
            rw [e1, e2] at h0 kk
            exact lv_tableIn hx hb hd (fun z => h1 (Or.inl z)) (fun z => h1 (Or.inr z)) (Array.getElem?_eq_getElem h2) (br_tgt h0) (kk ls H locs hL hP hD hS hO)
        next => cases hs
      next => cases hs
    next => cases hs
  case lookupswitch dflt ps =>
    simp only [sim, jmp] at hs
    split at hs
    next x r =>
      split at hs
      next hz =>
        split at hs
        next h0 =>
          cases hs
          exact lv_lookup hx hb hd hz rfl (br_tgt h0) (kk ls H locs hL hP hD hS hO)
        next => cases hs
      next => cases hs
    next => cases hs
  case getfield idx =>
    obtain rfl : len = 3 := by simpa [lenOK] using hl
    simp only [sim, getF] at hs
    split at hs
    next k r =>
      split at hs
      next z hz =>
        split at hs
        next hc =>
          cases hs
          obtain ⟨w1, w2, w3⟩ := w_fld hz
          have K := kk ls H locs hL hP hD hS hO
          refine va_get (D := D) (cl := cl13) (ws := wl ad cA cZ M) (ci := z.1) (C := cn z.1) (T := fT z.1) (N := nf z.1) (own := cn (mc y)) (ref := (fT z.1 z.2.1).1) (v := fv ad M k z.2.1) hx hb hts (w_lay w2) hown hK hP k (wl_obj hc.1 hc.2 w2) (cl_at w2) z.2.1 w3 (hts _ w1) (fun _ h => h) (by rw [List.getElem?_map, List.getElem?_range w3]; rfl) hd ?_
          rw [fv_cv hc.2]
          exact K
        next => cases hs
      next => cases hs
    next => cases hs
  case putfield idx =>
    obtain rfl : len = 3 := by simpa [lenOK] using hl
    simp only [sim, putF] at hs
    split at hs
    next v k r =>
      split at hs
      next z hz =>
        split at hs
        next hc =>
          cases hs
          obtain ⟨w1, w2, w3⟩ := w_fld hz
          have e1 : (wl ad cA cZ M).set k (ad k, .inr (z.1, ((List.range (nf z.1)).map (fv ad M k)).set z.2.1 (.int v))) = wl ad cA cZ (up2 M k z.2.1 v) := by
            refine wl_set (cel_put hc.1.2 w2 ?_) (fun a ha => up2_ne ha)
            unfold fv
            rw [hc.1.2, up2_eq]
            rcases hc.2 with h | h
            · rw [h]; simp [upd]
            · rw [h.1]; simp [upd]
          rcases w_fk w2 w3 with h | h | h | h
          · exact va_put (D := D) (cl := cl13) (ws := wl ad cA cZ M) (ci := z.1) (C := cn z.1) (T := fT z.1) (N := nf z.1) (own := cn (mc y)) (ref := (fT z.1 z.2.1).1) hx hb hts (w_lay w2) (fTy z.1) (w_ty w2) (w_nm w2) hown hK hP hD hS k (wl_obj hc.1.1 hc.1.2 w2) (cl_at w2) z.2.1 w3 (hts _ w1) (fun _ h => h) h.2.2 (ty := .int) (by rw [w_ty w2 _ w3, h.2.1]) (vp_nar_int v) rfl (by simpa using w3) hd (fun H1 locs1 hP1 hD1 hS1 => kk ls H1 locs1 hL (e1 ▸ hP1) (e1 ▸ hD1) hS1 (hO.rows (up2_hi hc.1.1)))
          · have hv : v = 0 ∨ v = 1 := by rcases hc.2 with g | g; (rw [h.1] at g; cases g); exact g.2
            exact va_put (D := D) (cl := cl13) (ws := wl ad cA cZ M) (ci := z.1) (C := cn z.1) (T := fT z.1) (N := nf z.1) (own := cn (mc y)) (ref := (fT z.1 z.2.1).1) hx hb hts (w_lay w2) (fTy z.1) (w_ty w2) (w_nm w2) hown hK hP hD hS k (wl_obj hc.1.1 hc.1.2 w2) (cl_at w2) z.2.1 w3 (hts _ w1) (fun _ h => h) h.2.2 (ty := .boolean) (by rw [w_ty w2 _ w3, h.2.1]) (by rcases hv with rfl | rfl <;> rfl) (by rcases hv with rfl | rfl <;> rfl) (by simpa using w3) hd (fun H1 locs1 hP1 hD1 hS1 => kk ls H1 locs1 hL (e1 ▸ hP1) (e1 ▸ hD1) hS1 (hO.rows (up2_hi hc.1.1)))
          · exfalso; rcases hc.2 with g | g; (rw [h.1] at g; cases g); (rw [h.1] at g; cases g.1)
          · exfalso; rcases hc.2 with g | g; (rw [h] at g; cases g); (rw [h] at g; cases g.1)
        next => cases hs
      next => cases hs
    next v k r =>
      split at hs
      next z hz =>
        split at hs
        next hc =>
          cases hs
          obtain ⟨w1, w2, w3⟩ := w_fld hz
          have e1 : (wl ad cA cZ M).set k (ad k, .inr (z.1, ((List.range (nf z.1)).map (fv ad M k)).set z.2.1 (.long v))) = wl ad cA cZ (up2 M k z.2.1 v.toInt32) := by
            refine wl_set (cel_put hc.1.2 w2 ?_) (fun a ha => up2_ne ha)
            unfold fv
            rw [hc.1.2, up2_eq, hc.2.1]
            simp [upd, hc.2.2]
          rcases w_fk w2 w3 with h | h | h | h
          · exfalso; rw [h.1] at hc; exact absurd hc.2.1 (by decide)
          · exfalso; rw [h.1] at hc; exact absurd hc.2.1 (by decide)
          · exact va_put (D := D) (cl := cl13) (ws := wl ad cA cZ M) (ci := z.1) (C := cn z.1) (T := fT z.1) (N := nf z.1) (own := cn (mc y)) (ref := (fT z.1 z.2.1).1) hx hb hts (w_lay w2) (fTy z.1) (w_ty w2) (w_nm w2) hown hK hP hD hS k (wl_obj hc.1.1 hc.1.2 w2) (cl_at w2) z.2.1 w3 (hts _ w1) (fun _ h => h) h.2.2 (ty := .long) (by rw [w_ty w2 _ w3, h.2.1]) rfl rfl (by simpa using w3) hd (fun H1 locs1 hP1 hD1 hS1 => kk ls H1 locs1 hL (e1 ▸ hP1) (e1 ▸ hD1) hS1 (hO.rows (up2_hi hc.1.1)))
          · exfalso; rw [h] at hc; exact absurd hc.2.1 (by decide)
        next => cases hs
      next => cases hs
    next => cases hs
  case getstatic idx =>
    obtain rfl : len = 3 := by simpa [lenOK] using hl
    simp only [sim] at hs
    split at hs
    next t ht =>
      cases hs
      unfold stN at ht
      split at ht
      next h8 =>
        have ho : s.vm.findClass "PalaceYard$Reader" = some m.cls := by rw [h8] at hown; exact hown
        split at ht
        next h => cases ht; subst h; exact va_getsN hx hb hO.2.1.1 hS ho (hO.2.2.1.use rfl) (fun _ h => h) hd (kk ls H locs hL hP hD hS hO)
        next =>
          split at ht
          next h => cases ht; subst h; exact va_getsN hx hb hO.2.1.2.1 hS ho (hO.2.2.2.1.use rfl) (fun _ h => h) hd (kk ls H locs hL hP hD hS hO)
          next =>
            split at ht
            next h => cases ht; subst h; exact va_getsN hx hb hO.2.1.2.2 hS ho (hO.2.2.2.2.use rfl) (fun _ h => h) hd (kk ls H locs hL hP hD hS hO)
            next => cases ht
      next => cases ht
    next => cases hs
  case iaload =>
    obtain rfl : len = 1 := by simpa [lenOK] using hl
    simp only [sim, ldE] at hs
    split at hs
    next i k r =>
      split at hs
      next hc =>
        cases hs
        have hi := inr_in (inrB_iff.mp hc.2)
        rcases hc.1 with h | h
        · rw [lnm_lo h.1] at hi
          exact va_iald hx hb hK hP k 0 (wl_int h.1 h.2) rfl hi hd (kk ls H locs hL hP hD hS hO)
        · obtain ⟨h1, h2⟩ := kd15 h
          exact va_ti hx hb (hO.1 k h1 h2) hS hi rfl hd (kk ls H locs hL hP hD hS hO)
      next => cases hs
    next => cases hs
  case baload =>
    obtain rfl : len = 1 := by simpa [lenOK] using hl
    simp only [sim, ldZ] at hs
    split at hs
    next i k r =>
      split at hs
      next hc =>
        cases hs
        have hi := inr_in (inrB_iff.mp hc.2)
        rw [lnm_lo hc.1.1] at hi
        exact va_zald hx hb hK hP k 1 (wl_bool hc.1.1 hc.1.2) rfl hi hd (kk ls H locs hL hP hD hS hO)
      next => cases hs
    next => cases hs
  case iastore =>
    obtain rfl : len = 1 := by simpa [lenOK] using hl
    simp only [sim, stE] at hs
    split at hs
    next v i k r =>
      split at hs
      next hc =>
        cases hs
        have hi := inr_in (inrB_iff.mp hc.2)
        rw [lnm_lo hc.1.1] at hi
        have e1 : (wl ad cA cZ M).set k (ad k, .inl (cA, (ln0 k, .inl (upd (M k) i.toNatClampNeg v)))) = wl ad cA cZ (up2 M k i.toNatClampNeg v) := wl_set (cel_row hc.1.2 up2_eq) (fun a ha => up2_ne ha)
        exact va_iast hx hb hK hP hD hS k 0 (wl_int hc.1.1 hc.1.2) rfl hi hd (fun H1 locs1 hP1 hD1 hS1 => kk ls H1 locs1 hL (e1 ▸ hP1) (e1 ▸ hD1) hS1 (hO.rows (up2_hi hc.1.1)))
      next => cases hs
    next => cases hs
  case bastore =>
    obtain rfl : len = 1 := by simpa [lenOK] using hl
    simp only [sim, stZ] at hs
    split at hs
    next v i k r =>
      split at hs
      next hc =>
        cases hs
        have hi := inr_in (inrB_iff.mp hc.2)
        rw [lnm_lo hc.1.1.1] at hi
        have hv : vp_nar .boolean v = v := by rcases hc.1.2 with rfl | rfl <;> rfl
        have e1 : (wl ad cA cZ M).set k (ad k, .inl (cZ, (ln0 k, .inl (upd (M k) i.toNatClampNeg (vp_nar .boolean v))))) = wl ad cA cZ (up2 M k i.toNatClampNeg v) := by rw [hv]; exact wl_set (cel_rowZ hc.1.1.2 up2_eq) (fun a ha => up2_ne ha)
        exact va_zast hx hb hK hP hD hS k 1 (wl_bool hc.1.1.1 hc.1.1.2) rfl hi hd (fun H1 locs1 hP1 hD1 hS1 => kk ls H1 locs1 hL (e1 ▸ hP1) (e1 ▸ hD1) hS1 (hO.rows (up2_hi hc.1.1.1)))
      next => cases hs
    next => cases hs
  case arraylength =>
    obtain rfl : len = 1 := by simpa [lenOK] using hl
    simp only [sim, alen] at hs
    split at hs
    next k r =>
      split at hs
      next hc =>
        cases hs
        rcases hc with ⟨h1, h2 | h2⟩ | h
        · exact va_alen hx hb hK hP k 0 (wl_int h1 h2) rfl (by rw [lnm_lo h1]) hd (kk ls H locs hL hP hD hS hO)
        · exact va_alen hx hb hK hP k 1 (wl_bool h1 h2) rfl (by rw [lnm_lo h1]) hd (kk ls H locs hL hP hD hS hO)
        · obtain ⟨h1, h2⟩ := kd15 h
          exact va_tlen hx hb (hO.1 k h1 h2) hS rfl hd (kk ls H locs hL hP hD hS hO)
      next => cases hs
    next => cases hs
  case invokestatic idx =>
    obtain rfl : len = 3 := by simpa [lenOK] using hl
    simp only [sim] at hs
    unfold maF at hs
    split at hs
    next => cases hs
    next d2 =>
      have hml2 : c.maxLocals = ls.size := hml.trans hL.2.1.symm
      split at hs
      next z hz =>
        have hlk := hts _ (w_xI hz)
        obtain ⟨zk, zp⟩ := z
        simp only at hs hlk
        split at hs
        next b a r =>
          split at hs
          next hsum =>
            cases hs
            exact va_mmax hx hb hml2 hown hlk (hts _ (isW_mem ok_Xmax.2)) (hts _ (isW_mem ok_Xi)) (hts _ (isW_mem ok_Xmax.1)) (by omega) (by rw [cv_sum]; omega) hce hsl hd (kk ls H locs hL hP hD hS hO)
          next => cases hs
        next b a r =>
          split at hs
          next hsum =>
            cases hs
            exact va_mmin hx hb hml2 hown hlk (hts _ (isW_mem ok_Xmin.2)) (hts _ (isW_mem ok_Xi)) (hts _ (isW_mem ok_Xmin.1)) (by omega) (by rw [cv_sum]; omega) hce hsl hd (kk ls H locs hL hP hD hS hO)
          next => cases hs
        next a r =>
          split at hs
          next hsum =>
            cases hs
            exact va_mabs hx hb hml2 hown hlk (hts _ (isW_mem ok_Xabs.2)) (hts _ (isW_mem ok_Xi)) (hts _ (isW_mem ok_Xabs.1)) (by omega) (by rw [cv_sum]; omega) hce hsl hd (kk ls H locs hL hP hD hS hO)
          next => cases hs
        next => cases hs
      next hz0 =>
        split at hs
        next z n dp kt sp ks r hz =>
          split at hs
          next hc =>
            cases hs
            obtain ⟨⟨hsum, ⟨k1, k2⟩, ⟨t1, t2⟩⟩, ⟨g1, g2, g3⟩, g4, g5⟩ := hc
            have e1 : (wl ad cA cZ M).set kt (ad kt, .inl (cA, (ln0 kt, .inl (va_cpy (M ks) (M kt) sp.toNatClampNeg dp.toNatClampNeg n.toNatClampNeg)))) = wl ad cA cZ (upr M kt (va_cpy (M ks) (M kt) sp.toNatClampNeg dp.toNatClampNeg n.toNatClampNeg)) := wl_set (cel_row t2 upr_eq) (fun a ha => upr_ne ha)
            have hnw : nativeFrameWords "java/lang/System" "arraycopy" 5 = 7 := by decide +kernel
            exact va_copyi hx hb hml2 hown (hts _ (w_aI hz)) (hts _ (isW_mem ok_A2.1)) (hts _ (isW_mem ok_A2.2.1)) (hts _ (isW_mem ok_A2.2.2)) hK hP hD hS ks kt 0 0 (wl_int k1 k2) (wl_int t1 t2) rfl rfl rfl g1 g2 g3 g4 g5 (fun _ _ => rfl) (by omega) (by rw [cv_sum, hnw]; omega) hd (fun H1 locs1 hP1 hD1 hS1 => kk ls H1 locs1 hL (e1 ▸ hP1) (e1 ▸ hD1) hS1 (hO.rows (upr_hi t1)))
          next => cases hs
        next => cases hs
  all_goals cases hs
end STEP
