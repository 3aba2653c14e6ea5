/-! part 04: the world of cells, the locals, and what the machine's rows need -/
def cv (ad : Nat → Nat) : Value → Value
  | .ref k => .ref (ad k)
  | v => v
theorem cv_cat (ad : Nat → Nat) (v : Value) : (cv ad v).category = v.category := by cases v <;> rfl
theorem cv_sum (ad : Nat → Nat) (l : List Value) : ((l.map (cv ad)).map fun v => v.category).sum = (l.map fun v => v.category).sum := by
  rw [List.map_map]
  congr 1
  exact List.map_congr_left (fun v _ => cv_cat ad v)
def lrel (ad : Nat → Nat) (L : List Value) (ls : Array Slot) (n : Nat) : Prop := L.length = n ∧ ls.size = n ∧ lv_wf ls ∧ ∀ (i : Nat) (v : Value), L[i]? = some v → v ≠ .null → ls[i]? = some (.val (cv ad v))
def la (ad : Nat → Nat) (L : List Value) : List (Nat × Value) := (List.range L.length).filterMap (fun (j : Nat) => match L[j]? with
  | some .null => none
  | some v => some (j, cv ad v)
  | none => none)
theorem la_mem {ad : Nat → Nat} {L : List Value} {i : Nat} {v : Value} (h : L[i]? = some v) (hv : v ≠ .null) : (i, cv ad v) ∈ la ad L := by
  unfold la
  refine List.mem_filterMap.mpr ⟨i, List.mem_range.mpr (List.getElem?_eq_some_iff.mp h).1, ?_⟩
  rw [h]
  cases v <;> first | rfl | exact absurd rfl hv
theorem la_of {ad : Nat → Nat} {L : List Value} {q : Nat × Value} (h : q ∈ la ad L) : ∃ v, L[q.1]? = some v ∧ v ≠ .null ∧ q.2 = cv ad v := by
  unfold la at h
  obtain ⟨j, -, hj⟩ := List.mem_filterMap.mp h
  cases hL : L[j]? with
  | none => rw [hL] at hj; cases hj
  | some v =>
    rw [hL] at hj
    by_cases hv : v = .null
    · subst hv; cases hj
    · have : q = (j, cv ad v) := by
        cases v <;> first | exact absurd rfl hv | exact (Option.some.inj hj).symm
      subst this
      exact ⟨v, hL, hv, rfl⟩
theorem lrel.has {ad : Nat → Nat} {L : List Value} {ls : Array Slot} {n : Nat} (h : lrel ad L ls n) : lv_has ls n (la ad L) := by
  refine ⟨h.2.1, h.2.2.1, fun q hq => ?_⟩
  obtain ⟨v, h1, h2, h3⟩ := la_of hq
  rw [h3]
  exact h.2.2.2 q.1 v h1 h2
theorem lset_len : ∀ (L : List Value) (i : Nat) (v : Value), (lset L i v).length = L.length
  | [], _, _ => rfl
  | _ :: _, 0, _ => rfl
  | _ :: t, i + 1, v => by simp [lset, lset_len t i v]
theorem lset_at : ∀ (L : List Value) (i : Nat) (v : Value), i < L.length → (lset L i v)[i]? = some v
  | [], i, v, h => by simp at h
  | _ :: _, 0, _, _ => rfl
  | _ :: t, i + 1, v, h => by
    simp only [lset, List.getElem?_cons_succ]
    exact lset_at t i v (by simpa using h)
theorem lset_ne : ∀ (L : List Value) (i : Nat) (v : Value) (j : Nat) (u : Value), j ≠ i → (lset L i v)[j]? = some u → u ≠ .null → L[j]? = some u ∧ ¬ (j + 1 = i ∧ u.category = 2)
  | [], i, v, j, u, _, h, _ => by simp [lset] at h
  | a :: t, 0, v, j, u, hj, h, hu => by
    cases j with
    | zero => exact absurd rfl hj
    | succ j =>
      simp only [lset, List.getElem?_cons_succ] at h ⊢
      exact ⟨h, by omega⟩
  | a :: t, i + 1, v, j, u, hj, h, hu => by
    cases j with
    | zero =>
      simp only [lset, List.getElem?_cons_zero, Option.some.injEq] at h ⊢
      by_cases h0 : i = 0
      · rw [if_pos h0] at h
        cases a <;> simp only [clr] at h <;> first | exact absurd h.symm hu | (subst h; exact ⟨rfl, by simp [Value.category]⟩)
      · rw [if_neg h0] at h
        exact ⟨h, by omega⟩
    | succ j =>
      simp only [lset, List.getElem?_cons_succ] at h ⊢
      obtain ⟨h1, h2⟩ := lset_ne t i v j u (by omega) h hu
      exact ⟨h1, fun q => h2 ⟨by omega, q.2⟩⟩
theorem lrel.set1 {ad : Nat → Nat} {L : List Value} {ls ls' : Array Slot} {n i : Nat} {v : Value} (h : lrel ad L ls n) (hi : i < L.length) (h' : lv_has ls' n ((i, cv ad v) :: (la ad L).filter (fun q => !(q.1 == i) && !(q.1 + 1 == i && q.2.category == 2)))) : lrel ad (lset L i v) ls' n := by
  refine ⟨(lset_len L i v).trans h.1, h'.1, h'.2.1, fun j u hj hu => ?_⟩
  by_cases hji : j = i
  · subst hji
    rw [lset_at L j v hi] at hj
    cases hj
    exact h'.2.2 (j, cv ad v) List.mem_cons_self
  · obtain ⟨h1, h2⟩ := lset_ne L i v j u hji hj hu
    refine h'.2.2 (j, cv ad u) (List.mem_cons_of_mem _ (List.mem_filter.mpr ⟨la_mem h1 hu, ?_⟩))
    rw [cv_cat]
    simp only [Bool.and_eq_true, Bool.not_eq_true', beq_eq_false_iff_ne, ne_eq, Bool.and_eq_false_iff]
    refine ⟨hji, ?_⟩
    by_cases hq : j + 1 = i
    · exact Or.inr (fun z => h2 ⟨hq, z⟩)
    · exact Or.inl hq
theorem lrel.set2 {ad : Nat → Nat} {L : List Value} {ls ls' : Array Slot} {n i : Nat} {v : Value} (h : lrel ad L ls n) (hi : i + 1 < L.length) (h' : lv_has ls' n ((i, cv ad v) :: (la ad L).filter (fun q => !(q.1 == i) && (!(q.1 == i + 1) && !(q.1 + 1 == i && q.2.category == 2))))) : lrel ad (lset2 L i v) ls' n := by
  refine ⟨by unfold lset2; rw [List.length_set]; exact (lset_len L i v).trans h.1, h'.1, h'.2.1, fun j u hj hu => ?_⟩
  unfold lset2 at hj
  by_cases hj1 : j = i + 1
  · subst hj1
    rw [List.getElem?_set_self (by rw [lset_len]; exact hi)] at hj
    cases hj
    exact absurd rfl hu
  · rw [List.getElem?_set_ne (fun z => hj1 z.symm)] at hj
    by_cases hji : j = i
    · subst hji
      rw [lset_at L j v (by omega)] at hj
      cases hj
      exact h'.2.2 (j, cv ad v) List.mem_cons_self
    · obtain ⟨h1, h2⟩ := lset_ne L i v j u hji hj hu
      refine h'.2.2 (j, cv ad u) (List.mem_cons_of_mem _ (List.mem_filter.mpr ⟨la_mem h1 hu, ?_⟩))
      rw [cv_cat]
      simp only [Bool.and_eq_true, Bool.not_eq_true', beq_eq_false_iff_ne, ne_eq, Bool.and_eq_false_iff]
      refine ⟨hji, hj1, ?_⟩
      by_cases hq : j + 1 = i
      · exact Or.inr (fun z => h2 ⟨hq, z⟩)
      · exact Or.inl hq
theorem exA_args (ad : Nat → Nat) : ∀ (As : List Value) (o j : Nat) (v : Value), (exA As)[j]? = some v → v ≠ .null → (o + j, cv ad v) ∈ lv_args o (As.map (cv ad))
  | [], o, j, v, h, _ => by simp [exA] at h
  | a :: As, o, j, v, h, hv => by
    have ih := exA_args ad As
    simp only [exA, List.flatMap_cons] at h
    simp only [List.map_cons, lv_args, cv_cat]
    by_cases hc : a.category = 2
    · simp only [if_pos hc] at h ⊢
      match j, h with
      | 0, h => simp at h; subst h; simp
      | 1, h => simp at h; exact absurd h.symm hv
      | j + 2, h =>
        simp at h
        have := ih (o + 2) j v h hv
        rw [show o + (j + 2) = o + 2 + j by omega]
        exact List.mem_cons_of_mem _ this
    · simp only [if_neg hc] at h ⊢
      match j, h with
      | 0, h => simp at h; subst h; simp
      | j + 1, h =>
        simp at h
        have := ih (o + 1) j v h hv
        rw [show o + (j + 1) = o + 1 + j by omega]
        exact List.mem_cons_of_mem _ this
theorem exA_len (ad : Nat → Nat) (As : List Value) : (lg_sl (As.map (cv ad))).length = (exA As).length := by
  unfold lg_sl exA
  induction As with
  | nil => rfl
  | cons a As ih =>
    simp only [List.map_cons, List.flatMap_cons, List.length_append, ih, cv_cat]
    split <;> rfl
theorem ent_rel (ad : Nat → Nat) (z : Nat) (As : List Value) (h : (exA As).length ≤ nl z) : lrel ad (ent z As) ((lg_sl (As.map (cv ad)) ++ List.replicate (nl z - (lg_sl (As.map (cv ad))).length) Slot.unset).toArray) (nl z) := by
  have h0 := lv_entry (As.map (cv ad)) (n := nl z) (by rw [exA_len]; exact h)
  refine ⟨by unfold ent; simp; omega, h0.1, h0.2.1, fun i v hi hv => ?_⟩
  unfold ent at hi
  by_cases hl : i < (exA As).length
  · rw [List.getElem?_append_left hl] at hi
    have := exA_args ad As 0 i v hi hv
    rw [Nat.zero_add] at this
    exact h0.2.2 _ this
  · rw [List.getElem?_append_right (by omega)] at hi
    have := List.mem_of_getElem? hi
    exact absurd (List.eq_of_mem_replicate this) hv
/-! the cells -/
def fv (ad : Nat → Nat) (M : Mem) (k j : Nat) : Value := match fk (kd k) j with
  | 0 => .int (M k j)
  | 1 => .int (M k j)
  | 2 => .long (M k j).toInt64
  | _ => .ref (ad (rt k j))
def cel (ad : Nat → Nat) (cA cZ : ClassId) (M : Mem) (k : Nat) : va_E := if kd k < 13 then .inr (kd k, (List.range (nf (kd k))).map (fv ad M k)) else .inl (if kd k = 13 then cA else cZ, (ln0 k, .inl (M k)))
def wl (ad : Nat → Nat) (cA cZ : ClassId) (M : Mem) : va_W := (List.range nC).map (fun k => (ad k, cel ad cA cZ M k))
theorem wl_at {ad : Nat → Nat} {cA cZ : ClassId} {M : Mem} {k : Nat} (h : k < nC) : (wl ad cA cZ M)[k]? = some (ad k, cel ad cA cZ M k) := by
  unfold wl
  rw [List.getElem?_map, List.getElem?_range h]
  rfl
theorem wl_obj {ad : Nat → Nat} {cA cZ : ClassId} {M : Mem} {k ci : Nat} (h : k < nC) (hk : kd k = ci) (hc : ci < 13) : (wl ad cA cZ M)[k]? = some (ad k, .inr (ci, (List.range (nf ci)).map (fv ad M k))) := by
  rw [wl_at h]
  unfold cel
  rw [hk, if_pos hc]
theorem wl_int {ad : Nat → Nat} {cA cZ : ClassId} {M : Mem} {k : Nat} (h : k < nC) (hk : kd k = 13) : (wl ad cA cZ M)[k]? = some (ad k, .inl (cA, (ln0 k, .inl (M k)))) := by
  rw [wl_at h]
  unfold cel
  rw [hk, if_neg (by omega), if_pos rfl]
theorem wl_bool {ad : Nat → Nat} {cA cZ : ClassId} {M : Mem} {k : Nat} (h : k < nC) (hk : kd k = 14) : (wl ad cA cZ M)[k]? = some (ad k, .inl (cZ, (ln0 k, .inl (M k)))) := by
  rw [wl_at h]
  unfold cel
  rw [hk, if_neg (by omega), if_neg (by omega)]
theorem cel_cong {ad : Nat → Nat} {cA cZ : ClassId} {M M' : Mem} {k : Nat} (h : M' k = M k) : cel ad cA cZ M' k = cel ad cA cZ M k := by
  have : fv ad M' k = fv ad M k := by
    funext j
    unfold fv
    rw [h]
  unfold cel
  rw [this, h]
theorem wl_set {ad : Nat → Nat} {cA cZ : ClassId} {M M' : Mem} {k : Nat} {x : va_E} (hx : x = cel ad cA cZ M' k) (h : ∀ a, a ≠ k → M' a = M a) : (wl ad cA cZ M).set k (ad k, x) = wl ad cA cZ M' := by
  subst hx
  unfold wl
  apply List.ext_getElem?
  intro i
  by_cases hi : i = k
  · subst hi
    by_cases hl : i < nC
    · rw [List.getElem?_set_self (by simpa using hl), List.getElem?_map, List.getElem?_range hl]
      rfl
    · rw [List.getElem?_eq_none (by simp; omega), List.getElem?_eq_none (by simp; omega)]
  · rw [List.getElem?_set_ne (fun z => hi z.symm), List.getElem?_map, List.getElem?_map]
    cases hr : (List.range nC)[i]? with
    | none => rfl
    | some j =>
      have hj : j = i := by
        have := List.getElem?_eq_some_iff.mp hr
        obtain ⟨h1, h2⟩ := this
        rw [← h2]
        simp
      subst hj
      simp only [Option.map_some, Option.some.injEq, Prod.mk.injEq, true_and]
      exact (cel_cong (h j hi)).symm
theorem map_set {f f' : Nat → Value} {n j : Nat} {v : Value} (hv : f' j = v) (h : ∀ i, i ≠ j → f' i = f i) : ((List.range n).map f).set j v = (List.range n).map f' := by
  apply List.ext_getElem?
  intro i
  by_cases hi : i = j
  · subst hi
    by_cases hl : i < n
    · rw [List.getElem?_set_self (by simpa using hl), List.getElem?_map, List.getElem?_range hl]
      simp [hv]
    · rw [List.getElem?_eq_none (by simp; omega), List.getElem?_eq_none (by simp; omega)]
  · rw [List.getElem?_set_ne (fun z => hi z.symm), List.getElem?_map, List.getElem?_map]
    cases hr : (List.range n)[i]? with
    | none => rfl
    | some q =>
      have hj : q = i := by
        obtain ⟨h1, h2⟩ := List.getElem?_eq_some_iff.mp hr
        rw [← h2]
        simp
      subst hj
      simp [h q hi]
theorem up2_ne {M : Mem} {k j : Nat} {v : Int32} {a : Nat} (h : a ≠ k) : up2 M k j v a = M a := by
  unfold up2
  rw [if_neg h]
theorem up2_eq {M : Mem} {k j : Nat} {v : Int32} : up2 M k j v k = upd (M k) j v := by
  unfold up2
  rw [if_pos rfl]
theorem upr_ne {M : Mem} {k : Nat} {f : Nat → Int32} {a : Nat} (h : a ≠ k) : upr M k f a = M a := by
  unfold upr
  rw [if_neg h]
theorem upr_eq {M : Mem} {k : Nat} {f : Nat → Int32} : upr M k f k = f := by
  unfold upr
  rw [if_pos rfl]
theorem fv_ne {ad : Nat → Nat} {M : Mem} {k j : Nat} {v : Int32} {i : Nat} (h : i ≠ j) : fv ad (up2 M k j v) k i = fv ad M k i := by
  unfold fv
  rw [up2_eq]
  unfold upd
  rw [if_neg h]
theorem cel_put {ad : Nat → Nat} {cA cZ : ClassId} {M : Mem} {k ci j : Nat} {v : Int32} {w : Value} (hk : kd k = ci) (hc : ci < 13) (hw : fv ad (up2 M k j v) k j = w) : (Sum.inr (ci, ((List.range (nf ci)).map (fv ad M k)).set j w) : va_E) = cel ad cA cZ (up2 M k j v) k := by
  unfold cel
  rw [hk, if_pos hc, map_set (f' := fv ad (up2 M k j v) k) hw (fun i hi => fv_ne hi)]
theorem cel_row {ad : Nat → Nat} {cA cZ : ClassId} {M : Mem} {k : Nat} {f : Nat → Int32} (hk : kd k = 13) (hf : M k = f) : (Sum.inl (cA, (ln0 k, .inl f)) : va_E) = cel ad cA cZ M k := by
  unfold cel
  rw [hk, if_neg (by omega), if_pos rfl, hf]
theorem cel_rowZ {ad : Nat → Nat} {cA cZ : ClassId} {M : Mem} {k : Nat} {f : Nat → Int32} (hk : kd k = 14) (hf : M k = f) : (Sum.inl (cZ, (ln0 k, .inl f)) : va_E) = cel ad cA cZ M k := by
  unfold cel
  rw [hk, if_neg (by omega), if_neg (by omega), hf]
theorem lnm_lo {M : Mem} {k : Nat} (h : k < nC) : lnm M k = ln0 k := by
  unfold lnm
  rw [if_neg (by intro z; have h : k < 55 := h; omega)]
theorem cl_at {ci : Nat} (h : ci < 13) : cl13[ci]? = some (cn ci, fT ci, nf ci) := by
  unfold cl13
  rw [List.getElem?_map, List.getElem?_range h]
  rfl
/-! words out of the checks -/
theorem all_at {p : Nat → Bool} {n i : Nat} (h : (List.range n).all p = true) (hi : i < n) : p i = true := List.all_eq_true.mp h i (List.mem_range.mpr hi)
theorem w_lay {ci : Nat} (h : ci < 13) : ∀ w ∈ u_ws (cn ci) (fT ci) (nf ci), w ∈ tb := by
  intro w hw
  obtain ⟨j, hj, rfl⟩ := List.mem_map.mp hw
  exact isW_mem (all_at (all_at ok_L h) (List.mem_range.mp hj))
theorem w_ty {ci : Nat} (h : ci < 13) : ∀ j, j < nf ci → parseFieldDescriptor (fT ci j).2.2.1 = some (fTy ci j) := by
  intro j hj
  have := all_at (all_at ok_T h) hj
  simp only [Bool.and_eq_true, decide_eq_true_eq] at this
  exact this.1.1.1
theorem w_nm {ci : Nat} (h : ci < 13) : ∀ a, a < nf ci → ∀ b, b < nf ci → a ≠ b → (fT ci a).2.1 ≠ (fT ci b).2.1 := by
  intro a ha b hb hab
  have := all_at (all_at ok_T h) hb
  simp only [Bool.and_eq_true, decide_eq_true_eq] at this
  have h2 := all_at this.1.2 ha
  simp only [Bool.or_eq_true, decide_eq_true_eq] at h2
  exact h2.resolve_left hab
theorem w_fk {ci j : Nat} (h : ci < 13) (hj : j < nf ci) : (fk ci j = 0 ∧ fTy ci j = .int ∧ (fT ci j).2.2.2 = false) ∨ (fk ci j = 1 ∧ fTy ci j = .boolean ∧ (fT ci j).2.2.2 = false) ∨ (fk ci j = 2 ∧ fTy ci j = .long ∧ (fT ci j).2.2.2 = false) ∨ fk ci j = 3 := by
  have := all_at (all_at ok_T h) hj
  simp only [Bool.and_eq_true, decide_eq_true_eq] at this
  exact this.2
theorem w_fld {o idx : Nat} {q : Nat × Nat × Nat} (h : lk fI o idx = some q) : (Jvm.Cond.fieldLink (cn o) idx (fT q.1 q.2.1).1 (fT q.1 q.2.1).2.1 (fT q.1 q.2.1).2.2.1) ∈ tb ∧ q.1 < 13 ∧ q.2.1 < nf q.1 := by
  have := List.all_eq_true.mp ok_F _ (lk_mem h)
  simp only [Bool.and_eq_true, decide_eq_true_eq] at this
  exact ⟨isW_mem this.1.1, this.1.2, this.2⟩
theorem w_kI {o idx : Nat} {q : Int32 × Nat} (h : lk kI o idx = some q) : (Jvm.Cond.constant (cn o) idx q.1) ∈ tb := isW_mem (List.all_eq_true.mp ok_K _ (lk_mem h))
theorem w_kJ {o idx : Nat} {q : Int64 × Nat} (h : lk kJ o idx = some q) : (Jvm.Cond.constantLong (cn o) idx q.1) ∈ tb := isW_mem (List.all_eq_true.mp ok_J _ (lk_mem h))
theorem w_xI {o idx : Nat} {q : Nat × Nat} (h : lk xI o idx = some q) : (Jvm.Cond.methodLink (cn o) idx (xN q.1)) ∈ tb := isW_mem (List.all_eq_true.mp ok_X _ (lk_mem h))
theorem w_aI {o idx q : Nat} (h : lk aI o idx = some q) : (Jvm.Cond.methodLink (cn o) idx arraycopyName) ∈ tb := isW_mem (List.all_eq_true.mp ok_A _ (lk_mem h))
theorem w_cI {o idx : Nat} {q : Nat × Nat} (h : lk cI o idx = some q) : (Jvm.Cond.methodLink (cn o) idx (nm q.1)) ∈ tb ∧ q.1 < nM := by
  have := List.all_eq_true.mp ok_C _ (lk_mem h)
  simp only [Bool.and_eq_true, decide_eq_true_eq] at this
  exact ⟨isW_mem this.1, this.2⟩
theorem w_m {z : Nat} (h : z < nM) : (Jvm.Cond.code (nm z) (cd z) (nl z) (rty z)) ∈ tb ∧ (if sta z then Jvm.Cond.static (nm z) else Jvm.Cond.instanceMethod (nm z)) ∈ tb ∧ (sta z = false → Jvm.Cond.selects (cn (mc z)) (nm z) (nm z) ∈ tb) ∧ Jvm.Cond.initialized (cn (mc z)) ∈ tb := by
  have := all_at ok_M1 h
  simp only [ok_m1, Bool.and_eq_true, Bool.or_eq_true] at this
  obtain ⟨⟨⟨h1, h2⟩, h3⟩, h4⟩ := this
  refine ⟨tb_mem (cw_eq h1) rfl, isW_mem h2, fun hs => isW_mem (h3.resolve_left (by rw [hs]; simp)), isW_mem h4⟩
theorem w_m2 {z : Nat} (h : z < nM) : plainName (nm z).cls = true ∧ (nm z).cls = cn (mc z) ∧ cn (mc z) ≠ "java/lang/invoke/MethodHandle" ∧ cn (mc z) ≠ "java/lang/invoke/VarHandle" ∧ (parseMethodDescriptor (nm z).desc).map (fun d => d.parameters.length) = some (np z) ∧ nl z ≤ 40 ∧ (sta z = false → mc z < 13) ∧ (rty z = none ∨ rty z = some .int ∨ rty z = some .boolean ∨ rty z = some (.object "PalaceYard$Image")) := by
  have := all_at ok_M2 h
  simp only [ok_m2, Bool.and_eq_true, Bool.or_eq_true, decide_eq_true_eq] at this
  obtain ⟨⟨⟨⟨⟨⟨⟨h1, h2⟩, h3⟩, h4⟩, h5⟩, h6⟩, h7⟩, h8⟩ := this
  exact ⟨by rw [h2]; exact h1, h2, h3, h4, h5, h6, fun hs => h7.resolve_left (by rw [hs]; simp), h8⟩
/-! what stands since the start: the three static rows, the script, the links to them -/
def Old (ad : Nat → Nat) (A : Nat → Prop) (U : State) (H : Heap) (M : Mem) : Prop :=
  (∀ t, 60 ≤ t → t < 64 → va_T .int (ad t) (lnm M t) (fun j => .int (M t j)) A U H) ∧
  (va_Z "PalaceYard" "NUMBERS_OF" "[I" (.ref (ad 60)) A U H ∧ va_Z "PalaceYard" "LEAST" "[I" (.ref (ad 61)) A U H ∧ va_Z "PalaceYard" "GREATEST" "[I" (.ref (ad 62)) A U H) ∧
  (va_Nw (.fieldLinkNest "PalaceYard$Reader" 77 "PalaceYard" "NUMBERS_OF" "[I" "PalaceYard") U ∧ va_Nw (.fieldLinkNest "PalaceYard$Reader" 80 "PalaceYard" "LEAST" "[I" "PalaceYard") U ∧ va_Nw (.fieldLinkNest "PalaceYard$Reader" 83 "PalaceYard" "GREATEST" "[I" "PalaceYard") U)
theorem Old.rows {ad : Nat → Nat} {A : Nat → Prop} {U : State} {H : Heap} {M M' : Mem} (h : Old ad A U H M) (e : ∀ t, 60 ≤ t → M' t = M t) : Old ad A U H M' := by
  refine ⟨fun t h1 h2 => ?_, h.2⟩
  have := h.1 t h1 h2
  have e1 : lnm M' t = lnm M t := by
    unfold lnm
    rw [e 64 (by omega)]
  rw [e1, e t h1]
  exact this
theorem Old.kept {ad : Nat → Nat} {A : Nat → Prop} {U : State} {H H1 : Heap} {M : Mem} (h : Old ad A U H M) (hq : ∀ a : Nat, a < H.size → ¬ A a → H1[a]? = H[a]?) : Old ad A U H1 M :=
  ⟨fun t h1 h2 => (h.1 t h1 h2).kept hq, ⟨h.2.1.1.kept hq, h.2.1.2.1.kept hq, h.2.1.2.2.kept hq⟩, h.2.2⟩
theorem Old.warm {ad : Nat → Nat} {A : Nat → Prop} {s U : State} {H : Heap} {M : Mem} (h : Old ad A s H M) (hW : s.WarmedH U.vm) : Old ad A U H M :=
  ⟨fun t h1 h2 => (h.1 t h1 h2).moved hW.alike, ⟨h.2.1.1.moved hW.alike, h.2.1.2.1.moved hW.alike, h.2.1.2.2.moved hW.alike⟩, h.2.2.1.warmF hW, h.2.2.2.1.warmF hW, h.2.2.2.2.warmF hW⟩
theorem Old.same {ad : Nat → Nat} {A : Nat → Prop} {s U : State} {H : Heap} {M : Mem} (h : Old ad A s H M) (e : s.vm = U.vm) : Old ad A U H M :=
  ⟨fun t h1 h2 => (h.1 t h1 h2).moved (e ▸ Vm.Alike.refl _), ⟨h.2.1.1.moved (e ▸ Vm.Alike.refl _), h.2.1.2.1.moved (e ▸ Vm.Alike.refl _), h.2.1.2.2.moved (e ▸ Vm.Alike.refl _)⟩, h.2.2.1.same rfl e, h.2.2.2.1.same rfl e, h.2.2.2.2.same rfl e⟩
theorem up2_hi {M : Mem} {k j : Nat} {v : Int32} (h : k < nC) : ∀ t, 60 ≤ t → up2 M k j v t = M t := fun t ht => up2_ne (by intro z; have h : k < 55 := h; omega)
theorem upr_hi {M : Mem} {k : Nat} {f : Nat → Int32} (h : k < nC) : ∀ t, 60 ≤ t → upr M k f t = M t := fun t ht => upr_ne (by intro z; have h : k < 55 := h; omega)
