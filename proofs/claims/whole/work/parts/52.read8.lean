/-! part 52: reading: the program's clause -/
def loK (kd i : Nat) : Int32 := ([0, 1, 0, 1, 0, 0, 0, 1, 0, 0, 0, 0] : List Int32).getD (kd * 3 + i) 0
def hiK (nc kd i : Nat) : Int32 := if kd = 2 ∧ i = 0 then nI nc - 1 else ([99, 6, 6, 100, 20, 0, 3, 999, 99, 20, 20, 99] : List Int32).getD (kd * 3 + i) 0
def KK (kd : Nat) : Nat := if kd = 1 then 2 else 3
theorem s37 (d c kd nc a : Nat) (N : Mem) (Q : Option Value → Mem → Prop) (hc : c ≤ 240) (h1 : N 1 1 = nI c) (hkd : kd < 4) (hSt : ST N) (h12 : N 5 12 = nI nc) (hf : N 3 2 = 0) (ha : a ≤ c) (h3 : N 3 1 = nI a) : Wp (d + 3) 37 0 [.ref 3, .ref 1, .int (nI kd), .ref 5, .null, .null, .null] [] N Q ↔ Q none (upr (upr N 3 (r3F (N 3) (nmF (N 2) c (loK kd) (hiK nc kd) (KK kd) 0 a (N 4)).2.2.1 (nmF (N 2) c (loK kd) (hiK nc kd) (KK kd) 0 a (N 4)).1 (nmF (N 2) c (loK kd) (hiK nc kd) (KK kd) 0 a (N 4)).2.1)) 4 (nmF (N 2) c (loK kd) (hiK nc kd) (KK kd) 0 a (N 4)).2.2.2) := by
  obtain ⟨⟨a0, a1, a2, a3⟩, hl, hg⟩ := hSt
  have h60 : N 60 kd = nI (KK kd) := by
    have : kd = 0 ∨ kd = 1 ∨ kd = 2 ∨ kd = 3 := by omega
    rcases this with rfl | rfl | rfl | rfl
    · exact a0
    · exact a1
    · exact a2
    · exact a3
  have hK : KK kd ≤ 3 := by unfold KK; split <;> omega
  have e := l37 d c kd (KK kd) (loK kd) (hiK nc kd) N Q hc h1 hkd hK h60 (fun i hi => hl (kd * 3 + i) (by omega)) (fun i hi => by
    unfold hiK
    rw [h12, hg (kd * 3 + i) (by omega)]) hf (KK kd) 0 a (N 4) .null .null (by omega) ha
  rw [show upr (upr N 3 (upd (N 3) 1 (nI a))) 4 (N 4) = N by rw [← h3, upd_id, upr_id, upr_id]] at e
  rw [← e]
  have hk4 : nI kd < 4 ↔ True := iff_true_intro ((nI_lt2 (by omega) (by omega : 4 < 2147483648)).mpr hkd)
  simp (maxSteps := 400000) (disch := first | omega | assumption) only [e37_0, e37_1, hkd, kv, rv, tv, lnv, lv0, clv, clr_i, clr_r, clr_n, clr_l, true_and, and_true, Option.toList_some, Option.toList_none, List.cons_append, List.nil_append, bI_0, bI_1, bI_or, ↓reduceIte, or_true, true_or, eq_self, irv, i0_add, not_true_eq_false, not_false_eq_true, Bool.false_eq_true, and_false, false_and, or_false, false_or, reduceCtorEq, nev, ngv, nc_or, in64, l64v, ite_not, ite_notP, up2_upr, upr_upr, upr_at, nI_cl, nI_ir, iav, nI_1, nI_mul6, nI_6mul, nI_lt2, nI_eq2, nI_neg, nI_m1, ltv, nI_z, upd_at, upd_off, upr_off, usv, upd_upd]
  exact Iff.rfl
theorem nm_le (T : Nat → Int32) (c : Nat) (lo hi : Nat → Int32) : ∀ j i a r, a ≤ c → (nmF T c lo hi j i a r).2.2.1 ≤ c
  | 0, _, a, _, h => by rw [nmF]; exact h
  | j + 1, i, a, r, h => by
    rw [nmF]
    split
    · exact nm_le T c lo hi j (i + 1) _ _ (dg_e h)
    · exact dg_e h
