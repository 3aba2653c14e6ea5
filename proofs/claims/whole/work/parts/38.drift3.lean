/-! part 38: drift -/
theorem c89_3 (d n s k : Nat) (N : Mem) (Q : Option Value → Mem → Prop) (hn : n ≤ 6) (hk : k < n) (h13 : N 15 13 = nI n) (hs : s < 2147483648) (h11 : N 0 11 = nI s) (m e : Nat) (hm : nxt s / 65536 % 20 = m) (he : nxt (nxt s) / 65536 % n = e) : Wp (d + 6) 89 29 [.ref 0, .int (nI k)] [.int 3] N Q ↔ Q none (if ¬ k = e ∧ N 25 k = 1 ∧ N 25 e = 1 ∧ ¬ N 26 k < nI (m + 1) ∧ ¬ 9999 < N 28 (e * 6 + k) + nI (m + 1) then upr (upr (upr N 0 (upd (N 0) 11 (nI (nxt (nxt s))))) 26 (upd (upd (N 26) k (bo (N 26 k + -nI (m + 1)))) e (bo (N 26 e + nI (m + 1))))) 28 (upd (upd (N 28) (e * 6 + k) (N 28 (e * 6 + k) + nI (m + 1))) (k * 6 + e) (N 28 (k * 6 + e) - nI (m + 1))) else upr N 0 (upd (N 0) 11 (nI (nxt (nxt s))))) := by
  have e1 := fun Q => s91 d n s k N Q hn hk h13 hs h11 m e hm he
  generalize (if ¬ k = e ∧ N 25 k = 1 ∧ N 25 e = 1 ∧ ¬ N 26 k < nI (m + 1) ∧ ¬ 9999 < N 28 (e * 6 + k) + nI (m + 1) then upr (upr (upr N 0 (upd (N 0) 11 (nI (nxt (nxt s))))) 26 (upd (upd (N 26) k (bo (N 26 k + -nI (m + 1)))) e (bo (N 26 e + nI (m + 1))))) 28 (upd (upd (N 28) (e * 6 + k) (N 28 (e * 6 + k) + nI (m + 1))) (k * 6 + e) (N 28 (k * 6 + e) - nI (m + 1))) else upr N 0 (upd (N 0) 11 (nI (nxt (nxt s))))) = R at e1 ⊢
  simp (maxSteps := 400000) (disch := first | omega | assumption) only [e89_0, e89_1, e1, kv, rv, tv, lnv, lv0, clv, clr_i, clr_r, clr_n, clr_l, true_and, and_true, Option.toList_some, Option.toList_none, List.cons_append, List.nil_append, bI_0, bI_1, bI_or, ↓reduceIte, or_true, true_or, eq_self, irv, i0_add, not_true_eq_false, not_false_eq_true, Bool.false_eq_true, and_false, false_and, or_false, false_or, reduceCtorEq, nev, ngv, nc_or, in64, l64v, ite_not, ite_notP, up2_upr, upr_upr, upr_at, nI_cl, nI_ir, iav, nI_1, nI_mul6, nI_6mul, nI_lt2, nI_eq2, nI_neg, nI_m1, ltv, nI_z, upd_at, upd_off, upr_off, usv, upd_upd]
theorem c89_4 (d k : Nat) (N R : Mem) (Q : Option Value → Mem → Prop) (h : ∀ Q, Wp (d + 5) 92 0 [.ref 0, .int (nI k), .null] [] N Q ↔ Q none R) : Wp (d + 6) 89 29 [.ref 0, .int (nI k)] [.int 4] N Q ↔ Q none R := by
  simp (maxSteps := 400000) (disch := first | omega | assumption) only [e89_0, e89_1, h, kv, rv, tv, lnv, lv0, clv, clr_i, clr_r, clr_n, clr_l, true_and, and_true, Option.toList_some, Option.toList_none, List.cons_append, List.nil_append, bI_0, bI_1, bI_or, ↓reduceIte, or_true, true_or, eq_self, irv, i0_add, not_true_eq_false, not_false_eq_true, Bool.false_eq_true, and_false, false_and, or_false, false_or, reduceCtorEq, nev, ngv, nc_or, in64, l64v, ite_not, ite_notP, up2_upr, upr_upr, upr_at, nI_cl, nI_ir, iav, nI_1, nI_mul6, nI_6mul, nI_lt2, nI_eq2, nI_neg, nI_m1, ltv, nI_z, upd_at, upd_off, upr_off, usv, upd_upd]
theorem act_S (d n nc np B w : Nat) (M : Mem) (hn0 : 0 < n) (hG : Gd n nc np B w M) : ∃ a c e f x g, Stw n w M a (M 24) c e f x g ∧ (∀ N, agC N M → ∀ Q, Wp (d + 6) 89 0 [.ref 0, .null] [] N Q ↔ Q none (uC N a (M 24) c e f)) ∧ (∀ N, agM N M → ∀ Q, Wp (d + 6) 166 0 [.ref 40, .null, .null, .null, .null] [] N Q ↔ Q none (uM N x g)) := by
  obtain ⟨hY, hL, h3, s, hs, h11, h8⟩ := id hG
  obtain ⟨⟨g1, g2, g3, g4⟩, ⟨h13, h4⟩, ⟨h12, -⟩, -, -, -, ⟨h41, -⟩, hC, hD, -⟩ := id hY
  obtain ⟨l1, l2, l3, ⟨l48, -⟩, l5, l6, l7, l8, ⟨w', aa, hw, -, lw, -⟩, -⟩ := id hL
  have PC : ∀ N, agC N M → ∀ Q, Wp (d + 6) 89 0 [.ref 0, .null] [] N Q ↔ Wp (d + 6) 89 29 [.ref 0, .int (nI (nxt s / 65536 % n))] [.int (nI (nxt (nxt s) / 65536 % 5))] (upr N 0 (upd (M 0) 11 (nI (nxt (nxt s))))) Q := fun N hN Q => by
    have := a89 d n s N Q g1 hn0 (by rw [hN 15 (by omega)]; exact h13) hs (by rw [hN 0 (by omega)]; exact h11)
    rw [hN 0 (by omega)] at this
    exact this
  have PM : ∀ N, agM N M → ∀ Q, Wp (d + 6) 166 0 [.ref 40, .null, .null, .null, .null] [] N Q ↔ Wp (d + 6) 166 17 [.ref 40, .int (nI (nxt s / 65536 % n)), .int (nI (nxt (nxt s) / 65536 % 5)), .null, .null] [] (upr N 40 (upd (M 40) 8 (nI (nxt (nxt s))))) Q := fun N hN Q => by
    have := a166 d n s N Q g1 hn0 (by rw [hN 41 (by omega)]; exact h4) hs (by rw [hN 40 (by omega)]; exact h8)
    rw [hN 40 (by omega)] at this
    exact this
  have hk : nxt s / 65536 % n < n := Nat.mod_lt _ hn0
  have hh : nxt (nxt s) / 65536 % 5 < 5 := Nat.mod_lt _ (by omega)
  have hb : nxt (nxt s) < 2147483648 := nxt_lt _
  generalize nxt s / 65536 % n = k at PC PM hk
  generalize nxt (nxt s) / 65536 % 5 = h at PC PM hh
  generalize nxt (nxt s) = b at PC PM hb
  have hk6 : k < 6 := by omega
  have N13 : ∀ N, agC N M → N 15 13 = nI n := fun N hN => by rw [hN 15 (by omega)]; exact h13
  have N12 : ∀ N, agC N M → N 15 12 = nI nc := fun N hN => by rw [hN 15 (by omega)]; exact h12
  have N4 : ∀ N, agM N M → N 41 4 = nI n := fun N hN => by rw [hN 41 (by omega)]; exact h4
  have same : Stw n w M (upd (M 0) 11 (nI b)) (M 24) (M 25) (M 26) (M 28) (upd (M 40) 8 (nI b)) (M 43) := ⟨hL, h3, ⟨b, hb, rfl, rfl⟩, fun q hq => pk_un hq, fun q hq => pk_un hq⟩
  have hcase : h = 0 ∨ h = 1 ∨ h = 2 ∨ h = 3 ∨ h = 4 := by omega
  rcases hcase with rfl | rfl | rfl | rfl | rfl
  · have ew0 : whoN (M 43) 1 n = whoN (M 25) 1 n := whoN_c (fun q hq => l1 q (by omega))
    by_cases hc : M 25 k = 0 ∧ nI (pcN (whoN (M 25) 1 n)) < M 15 10
    · refine ⟨upd (M 0) 11 (nI b), upd (M 25) k 1, M 26, M 28, upd (M 40) 8 (nI b), upd (M 43) k 1, ⟨LR_is 1 hk6 hL, h3, ⟨b, hb, rfl, rfl⟩, fun q hq => pk_un hq, fun q hq => pk_un hq⟩, fun N hN Q => (PC N hN Q).trans ((c89_0 d n k (upr N 0 (upd (M 0) 11 (nI b))) Q g1 hk (N13 N hN)).trans ?_), fun N hN Q => (PM N hN Q).trans ((m166_0 d n k (upr N 40 (upd (M 40) 8 (nI b))) Q g1 hk (N4 N hN)).trans ?_)⟩
      · rw [if_pos (by show N 25 k = 0 ∧ nI (pcN (whoN (N 25) 1 n)) < N 15 10; rw [hN 25 (by omega), hN 15 (by omega)]; exact hc), uC_2 hN, ← hN 25 (by omega)]
        exact Iff.rfl
      · rw [if_pos (by show N 43 k = 0 ∧ nI (pcN (whoN (N 43) 1 n)) < N 41 1; rw [hN 43 (by omega), hN 41 (by omega), l1 k hk6, ew0, h41]; exact hc)]
        unfold uM
        rw [← hN 43 (by omega)]
        exact Iff.rfl
    · refine ⟨_, _, _, _, _, _, same, fun N hN Q => (PC N hN Q).trans ((c89_0 d n k (upr N 0 (upd (M 0) 11 (nI b))) Q g1 hk (N13 N hN)).trans ?_), fun N hN Q => (PM N hN Q).trans ((m166_0 d n k (upr N 40 (upd (M 40) 8 (nI b))) Q g1 hk (N4 N hN)).trans ?_)⟩
      · rw [if_neg (by show ¬ (N 25 k = 0 ∧ nI (pcN (whoN (N 25) 1 n)) < N 15 10); rw [hN 25 (by omega), hN 15 (by omega)]; exact hc), uC_1 hN]
      · rw [if_neg (by show ¬ (N 43 k = 0 ∧ nI (pcN (whoN (N 43) 1 n)) < N 41 1); rw [hN 43 (by omega), hN 41 (by omega), l1 k hk6, ew0, h41]; exact hc), uM_1 hN]
  · by_cases hc : M 25 k = 1
    · refine ⟨upd (M 0) 11 (nI b), upd (M 25) k 0, M 26, M 28, upd (M 40) 8 (nI b), upd (M 43) k 0, ⟨LR_is 0 hk6 hL, h3, ⟨b, hb, rfl, rfl⟩, fun q hq => pk_un hq, fun q hq => pk_un hq⟩, fun N hN Q => (PC N hN Q).trans ((c89_1 d n k _ Q g1 hk).trans ?_), fun N hN Q => (PM N hN Q).trans ((m166_1 d n k _ Q g1 hk).trans ?_)⟩
      · rw [if_pos (by show N 25 k = 1; rw [hN 25 (by omega)]; exact hc), uC_2 hN, ← hN 25 (by omega)]
        exact Iff.rfl
      · rw [if_pos (by show N 43 k = 1; rw [hN 43 (by omega), l1 k hk6]; exact hc)]
        unfold uM
        rw [← hN 43 (by omega)]
        exact Iff.rfl
    · refine ⟨_, _, _, _, _, _, same, fun N hN Q => (PC N hN Q).trans ((c89_1 d n k _ Q g1 hk).trans ?_), fun N hN Q => (PM N hN Q).trans ((m166_1 d n k _ Q g1 hk).trans ?_)⟩
      · rw [if_neg (by show ¬ N 25 k = 1; rw [hN 25 (by omega)]; exact hc), uC_1 hN]
      · rw [if_neg (by show ¬ N 43 k = 1; rw [hN 43 (by omega), l1 k hk6]; exact hc), uM_1 hN]
  · obtain ⟨d1, ⟨c, hcn, d2⟩, d3, d4, d5, d6⟩ := hD k hk
    obtain ⟨c1, c2, c3, c4⟩ := hC c hcn
    have d2m : M 41 (14 + k) = nI c := d1.trans d2
    obtain ⟨ec, v, hv, ev⟩ := cst_eq (w := w') d4 c3 c4 (by omega)
    rw [← lw] at ec ev
    have ecm : cstF (M 41 (20 + k)) (accF (M 41 (6 + c)) (M 41 (10 + c)) (M 43 48)) = nI v := by rw [d3, c1, c2, l48, ec, ev]
    have cC := fun N (hN : agC N M) Q => c89_2 d k c nc (upr N 0 (upd (M 0) 11 (nI b))) Q hk6 (by show N 18 k = nI c; rw [hN 18 (by omega)]; exact d2) hcn g2 (N12 N hN)
    have cM := fun N (hN : agM N M) Q => m166_2 d k c (upr N 40 (upd (M 40) 8 (nI b))) Q hk6 (by show N 41 (14 + k) = nI c; rw [hN 41 (by omega)]; exact d2m) (by omega)
    by_cases hb2 : (M 25 k = 1 ∨ M 25 k = 0) ∧ ¬ M 26 k < nI v
    · have hse := LR_set (x := nI v) hk6 (by rw [nI_toInt (by omega)]; omega) (by have := hb2.2; rw [Int32.lt_iff_toInt_lt] at this; omega) hL
      refine ⟨upd (M 0) 11 (nI b), upd (M 25) k 3, upd (M 26) k (bo (M 26 k + -nI v)), M 28, upd (M 40) 8 (nI b), upd (upd (M 43) (6 + k) (M 43 (6 + k) - nI v)) k 3, ⟨hse, h3, ⟨b, hb, rfl, rfl⟩, fun q hq => pk_un hq, fun q hq => pk_un hq⟩, fun N hN Q => (PC N hN Q).trans ((cC N hN Q).trans ?_), fun N hN Q => (PM N hN Q).trans ((cM N hN Q).trans ?_)⟩
      · rw [if_pos (by show (N 25 k = 1 ∨ N 25 k = 0) ∧ ¬ N 26 k < cstC (N 19 k) (accF (N 16 c) (N 17 c) (N 24 3)); rw [hN 25 (by omega), hN 26 (by omega), hN 19 (by omega), hN 16 (by omega), hN 17 (by omega), hN 24 (by omega), ev]; exact hb2), uC_3 hN, ← ev, ← hN 25 (by omega), ← hN 26 (by omega), ← hN 19 (by omega), ← hN 16 (by omega), ← hN 17 (by omega), ← hN 24 (by omega)]
        exact Iff.rfl
      · rw [if_pos (by show (N 43 k = 1 ∨ N 43 k = 0) ∧ ¬ N 43 (6 + k) < cstF (N 41 (20 + k)) (accF (N 41 (6 + c)) (N 41 (10 + c)) (N 43 48)); rw [hN 43 (by omega), hN 41 (by omega), ecm, l1 k hk6, l2 k hk6]; exact hb2)]
        unfold uM
        rw [← ecm, ← hN 43 (by omega), ← hN 41 (by omega)]
        exact Iff.rfl
    · refine ⟨_, _, _, _, _, _, same, fun N hN Q => (PC N hN Q).trans ((cC N hN Q).trans ?_), fun N hN Q => (PM N hN Q).trans ((cM N hN Q).trans ?_)⟩
      · rw [if_neg (by show ¬ ((N 25 k = 1 ∨ N 25 k = 0) ∧ ¬ N 26 k < cstC (N 19 k) (accF (N 16 c) (N 17 c) (N 24 3))); rw [hN 25 (by omega), hN 26 (by omega), hN 19 (by omega), hN 16 (by omega), hN 17 (by omega), hN 24 (by omega), ev]; exact hb2), uC_1 hN]
      · rw [if_neg (by show ¬ ((N 43 k = 1 ∨ N 43 k = 0) ∧ ¬ N 43 (6 + k) < cstF (N 41 (20 + k)) (accF (N 41 (6 + c)) (N 41 (10 + c)) (N 43 48))); rw [hN 43 (by omega), hN 41 (by omega), ecm, l1 k hk6, l2 k hk6]; exact hb2), uM_1 hN]
  · obtain ⟨m, hm⟩ : ∃ m, nxt b / 65536 % 20 = m := ⟨_, rfl⟩
    obtain ⟨e, he⟩ : ∃ e, nxt (nxt b) / 65536 % n = e := ⟨_, rfl⟩
    have hm20 : m < 20 := by rw [← hm]; exact Nat.mod_lt _ (by omega)
    have hen : e < n := by rw [← he]; exact Nat.mod_lt _ hn0
    have he6 : e < 6 := by omega
    have cC := fun N (hN : agC N M) Q => c89_3 d n b k (upr N 0 (upd (M 0) 11 (nI b))) Q g1 hk (N13 N hN) hb rfl m e hm he
    have cM := fun N (hN : agM N M) Q => m166_3 d n b k (upr N 40 (upd (M 40) 8 (nI b))) Q g1 hk (N4 N hN) hb rfl m e hm he
    have e3 := l3 k hk6 e he6
    have sA : ∀ q, q ≠ 11 → upd (upd (M 0) 11 (nI b)) 11 (nI (nxt (nxt b))) q = M 0 q := fun q hq => by rw [pk_un hq, pk_un hq]
    have sX : ∀ q, q ≠ 8 → upd (upd (M 40) 8 (nI b)) 8 (nI (nxt (nxt b))) q = M 40 q := fun q hq => by rw [pk_un hq, pk_un hq]
    have sS : ∃ s, s < 2147483648 ∧ upd (upd (M 0) 11 (nI b)) 11 (nI (nxt (nxt b))) 11 = nI s ∧ upd (upd (M 40) 8 (nI b)) 8 (nI (nxt (nxt b))) 8 = nI s := ⟨nxt (nxt b), nxt_lt _, rfl, rfl⟩
    by_cases hc : ¬ k = e ∧ M 25 k = 1 ∧ M 25 e = 1 ∧ ¬ M 26 k < nI (m + 1) ∧ ¬ 9999 < M 28 (e * 6 + k) + nI (m + 1)
    · have r1 := l7 e he6 k hk6
      have tz : (nI (m + 1)).toInt = (m + 1 : Nat) := nI_toInt (by omega)
      have es : (M 28 (e * 6 + k) + nI (m + 1)).toInt = (M 28 (e * 6 + k)).toInt + (nI (m + 1)).toInt := addI (by have := r1.1; omega) (by have := r1.2; omega)
      have hmv := LR_mv (x := nI (m + 1)) hk hen g1 hc.1 (by omega) (by have := hc.2.2.2.1; rw [Int32.lt_iff_toInt_lt] at this; omega) (by have := hc.2.2.2.2; rw [Int32.lt_iff_toInt_lt, es, t9.2.1] at this; omega) hL
      refine ⟨_, _, _, _, _, _, ⟨hmv, h3, sS, sA, sX⟩, fun N hN Q => (PC N hN Q).trans ((cC N hN Q).trans ?_), fun N hN Q => (PM N hN Q).trans ((cM N hN Q).trans ?_)⟩
      · rw [if_pos (by show ¬ k = e ∧ N 25 k = 1 ∧ N 25 e = 1 ∧ ¬ N 26 k < nI (m + 1) ∧ ¬ 9999 < N 28 (e * 6 + k) + nI (m + 1); rw [hN 25 (by omega), hN 26 (by omega), hN 28 (by omega)]; exact hc), uC_4 hN, upr_upr, ← hN 26 (by omega), ← hN 28 (by omega)]
        exact Iff.rfl
      · rw [if_pos (by show ¬ k = e ∧ N 43 k = 1 ∧ N 43 e = 1 ∧ ¬ N 43 (6 + k) < nI (m + 1) ∧ ¬ 9999 < N 43 (12 + 6 * k + e) + nI (m + 1); rw [hN 43 (by omega), l1 k hk6, l1 e he6, l2 k hk6, e3]; exact hc), upr_upr]
        unfold uM
        rw [← hN 43 (by omega)]
        exact Iff.rfl
    · refine ⟨_, _, _, _, _, _, ⟨hL, h3, sS, sA, sX⟩, fun N hN Q => (PC N hN Q).trans ((cC N hN Q).trans ?_), fun N hN Q => (PM N hN Q).trans ((cM N hN Q).trans ?_)⟩
      · rw [if_neg (by show ¬ (¬ k = e ∧ N 25 k = 1 ∧ N 25 e = 1 ∧ ¬ N 26 k < nI (m + 1) ∧ ¬ 9999 < N 28 (e * 6 + k) + nI (m + 1)); rw [hN 25 (by omega), hN 26 (by omega), hN 28 (by omega)]; exact hc), uC_1 hN, upr_upr]
        exact Iff.rfl
      · rw [if_neg (by show ¬ (¬ k = e ∧ N 43 k = 1 ∧ N 43 e = 1 ∧ ¬ N 43 (6 + k) < nI (m + 1) ∧ ¬ 9999 < N 43 (12 + 6 * k + e) + nI (m + 1)); rw [hN 43 (by omega), l1 k hk6, l1 e he6, l2 k hk6, e3]; exact hc), uM_1 hN, upr_upr]
        exact Iff.rfl
  · have fe : fiF (fun e => mx 0 (M 28 (e * 6 + k))) 6 0 = firF (M 43) k n 0 := by
      have := fi_eq (ba := M 28) (g := M 43) (k := k) (n := n) (b := 6 - n) (fun e he => l3 k hk6 e (by omega)) (fun e h1 h2 => l8 e (by omega) k hk6 (Or.inl h1)) n 0 (by omega)
      rw [show n + (6 - n) = 6 by omega] at this
      exact this
    have fN : ∀ N, agC N M → fiF (fun e => mx 0 (upr N 0 (upd (M 0) 11 (nI b)) 28 (e * 6 + k))) 6 0 = firF (M 43) k n 0 := fun N hN => by
      rw [← fe, ← hN 28 (by omega)]
      rfl
    have fM : ∀ N, agM N M → firF (upr N 40 (upd (M 40) 8 (nI b)) 43) k n 0 = firF (M 43) k n 0 := fun N hN => by
      rw [← hN 43 (by omega)]
      rfl
    cases hf : firF (M 43) k n 0 with
    | none =>
      refine ⟨_, _, _, _, _, _, same, fun N hN Q => (PC N hN Q).trans ((c89_4 d k _ _ Q (fun Q => s92_n d n k (upr N 0 (upd (M 0) 11 (nI b))) Q g1 hk (N13 N hN) ((fN N hN).trans hf))).trans ?_), fun N hN Q => (PM N hN Q).trans ((m166_4n d n k (upr N 40 (upd (M 40) 8 (nI b))) Q g1 hk (N4 N hN) ((fM N hN).trans hf)).trans ?_)⟩
      · rw [uC_1 hN]
      · rw [uM_1 hN]
    | some e =>
      obtain ⟨he, hp0⟩ := firF_ok n 0 e hf
      have hen : e < n := by omega
      have he6 : e < 6 := by omega
      have hke : k ≠ e := by
        intro z
        subst z
        have q1 := l6 k hk6 k hk6
        have q2 := l3 k hk6 k hk6
        rw [q2, Int32.lt_iff_toInt_lt, t9.2.2.1] at hp0
        omega
      obtain ⟨sf, sg⟩ := sue_f g1 hk hen hke hL
      by_cases hsu : 0 < M 43 (12 + 6 * k + e) ∧ M 43 e = 1
      · obtain ⟨o, p, ho, ho2, hp, hp2, hl⟩ := sg hsu
        have cC := fun N (hN : agC N M) Q => c89_4 d k _ _ Q (fun Q => s92_s d n k e o p (upr N 0 (upd (M 0) 11 (nI b))) Q g1 hk hen hke (N13 N hN) ((fN N hN).trans hf) (by show 0 < mx 0 (N 28 (e * 6 + k)) ∧ N 25 e = 1; rw [hN 28 (by omega), hN 25 (by omega)]; exact sf.mpr hsu) (by show mx 0 (N 28 (e * 6 + k)) = o; rw [hN 28 (by omega)]; exact ho) (by show payC o (N 26 e) = p; rw [hN 26 (by omega)]; exact hp))
        have cM := fun N (hN : agM N M) Q => m166_4s d n k e o p (upr N 40 (upd (M 40) 8 (nI b))) Q g1 hk hen hke (N4 N hN) ((fM N hN).trans hf) (by show 0 < N 43 (12 + 6 * k + e) ∧ N 43 e = 1; rw [hN 43 (by omega)]; exact hsu) (by show N 43 (12 + 6 * k + e) = o; rw [hN 43 (by omega)]; exact ho2) (by show payF o (N 43 (6 + e)) = p; rw [hN 43 (by omega)]; exact hp2)
        refine ⟨_, _, _, _, _, _, ⟨hl, h3, ⟨b, hb, rfl, rfl⟩, fun q hq => pk_un hq, fun q hq => pk_un hq⟩, fun N hN Q => (PC N hN Q).trans ((cC N hN Q).trans ?_), fun N hN Q => (PM N hN Q).trans ((cM N hN Q).trans ?_)⟩
        · by_cases hpo : p < o
          · rw [if_pos hpo, if_pos hpo, uC_5 hN, ← hN 25 (by omega), ← hN 26 (by omega), ← hN 28 (by omega)]
            exact Iff.rfl
          · rw [if_neg hpo, if_neg hpo, uC_4 hN, ← hN 26 (by omega), ← hN 28 (by omega)]
            exact Iff.rfl
        · unfold uM
          rw [← hN 43 (by omega)]
          exact Iff.rfl
      · refine ⟨_, _, _, _, _, _, same, fun N hN Q => (PC N hN Q).trans ((c89_4 d k _ _ Q (fun Q => s92_x d n k e (upr N 0 (upd (M 0) 11 (nI b))) Q g1 hk hen hke (N13 N hN) ((fN N hN).trans hf) (by show ¬ (0 < mx 0 (N 28 (e * 6 + k)) ∧ N 25 e = 1); rw [hN 28 (by omega), hN 25 (by omega), sf]; exact hsu))).trans ?_), fun N hN Q => (PM N hN Q).trans ((m166_4x d n k e (upr N 40 (upd (M 40) 8 (nI b))) Q g1 hk hen (N4 N hN) ((fM N hN).trans hf) (by show ¬ (0 < N 43 (12 + 6 * k + e) ∧ N 43 e = 1); rw [hN 43 (by omega)]; exact hsu)).trans ?_)⟩
        · rw [uC_1 hN]
        · rw [uM_1 hN]
