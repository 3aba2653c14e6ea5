/-! part 60: reading: both loops -/
def AG (N NE : Mem) : Prop := ∀ k, k ≠ 3 → (k < 4 ∨ 13 < k) → NE k = N k
theorem stS_r (T : Nat → Int32) (c a q : Nat) (r : Nat → Int32) (hq : skN T c 240 a = q) : stS T c a r 17 = nI q ∧ (∀ k, k < 16 → stS T c a r k = r k) ∧ (rg (sgF T c q) 48 57 → stS T c a r 18 = 48) ∧ (¬ rg (sgF T c q) 48 57 → stS T c a r 18 = sgF T c q) ∧ (¬ rg (sgF T c q) 48 57 → ¬ sgF T c q < 0 → stS T c a r 16 = nI (q + 1)) := by
  unfold stS
  rw [hq]
  have hk : ∀ (A B S C V : Int32) k, k < 16 → rS r A B S C V k = r k := fun A B S C V k hk => by
    unfold rS
    rw [if_neg (by omega), if_neg (by omega), if_neg (by omega), if_neg (by omega), if_neg (by omega)]
  by_cases h : rg (sgF T c q) 48 57
  · rw [if_pos h]
    exact ⟨rfl, fun k h2 => hk _ _ _ _ _ k h2, fun _ => rfl, fun z => absurd h z, fun z => absurd h z⟩
  · rw [if_neg h]
    refine ⟨rfl, fun k h2 => hk _ _ _ _ _ k h2, fun z => absurd z h, fun _ => rfl, fun _ h2 => ?_⟩
    rw [if_neg h2]
    rfl
theorem sg_in {T : Nat → Int32} {c q : Nat} (hT : ∀ k, k < c → rg (T k) 0 255) (h : q < c) : ¬ sgF T c q < 0 := by
  unfold sgF
  rw [if_pos h, Int32.lt_iff_toInt_lt]
  have := (hT q h).1
  intro z
  have e : (0 : Int32).toInt = 0 := by decide
  rw [e] at z
  omega
theorem st_pos {T : Nat → Int32} {c a q : Nat} {r : Nat → Int32} (hq : skN T c 240 a = q) (hn : ¬ sgF T c q < 0) : ¬ stS T c a r 18 < 0 := by
  obtain ⟨-, -, s1, s2, -⟩ := stS_r T c a q r hq
  by_cases h : rg (sgF T c q) 48 57
  · rw [s1 h]; decide
  · rw [s2 h]; exact hn
theorem rf_bad (d c a q p : Nat) (cd : Int32) (T : Nat → Int32) (N : Mem) (hq : skN T c 240 a = q) (hn : ¬ sgF T c q < 0) (h : ∃ R r42, R 17 = nI p ∧ R 21 = cd ∧ (∀ k, k < 16 → R k = stS T c a (N 40) k) ∧ ∀ Q, Wp (d + 5) 116 0 [.ref 40] [] (upr N 40 (stS T c a (N 40))) Q ↔ Q (some (.int 0)) (upr (upr (upr N 40 (stS T c a (N 40))) 40 R) 42 r42)) : ∃ R r42, R 17 = nI p ∧ R 21 = cd ∧ (∀ k, k < 16 → R k = N 40 k) ∧ ∀ Q, Wp (d + 6) 113 37 [.ref 40, .int 1] [] (upr N 40 (stS T c a (N 40))) Q ↔ Wp (d + 6) 113 64 [.ref 40, .int 0] [] (upr (upr N 40 R) 42 r42) Q := by
  obtain ⟨R, r42, a1, a2, a3, a4⟩ := h
  refine ⟨R, r42, a1, a2, fun k hk => (a3 k hk).trans ((stS_r T c a q (N 40) hq).2.1 k hk), fun Q => ?_⟩
  rw [l113_bad d (upr N 40 (stS T c a (N 40))) _ Q (st_pos hq hn) a4, upr_upr]
theorem rf_ok (d c a q a1 : Nat) (T D1 : Nat → Int32) (N : Mem) (hq : skN T c 240 a = q) (hn : ¬ sgF T c q < 0) (h : ∃ R, RM (upr (upr (upr N 40 (stS T c a (N 40))) 40 R) 42 D1) T c a1 ∧ (∀ k, k < 16 → R k = stS T c a (N 40) k) ∧ ∀ Q, Wp (d + 5) 116 0 [.ref 40] [] (upr N 40 (stS T c a (N 40))) Q ↔ Q (some (.int 1)) (upr (upr (upr N 40 (stS T c a (N 40))) 40 R) 42 D1)) : ∃ R, RM (upr (upr N 40 R) 42 D1) T c a1 ∧ (∀ k, k < 16 → R k = N 40 k) ∧ ∀ Q, Wp (d + 6) 113 37 [.ref 40, .int 1] [] (upr N 40 (stS T c a (N 40))) Q ↔ Wp (d + 6) 113 37 [.ref 40, .int 1] [] (upr (upr (upr N 40 R) 42 D1) 40 (stS T c a1 ((upr (upr N 40 R) 42 D1) 40))) Q := by
  obtain ⟨R, x1, x3, x4⟩ := h
  have e := fun Q => l113_ok d c a1 T (upr N 40 (stS T c a (N 40))) _ Q (st_pos hq hn) x4 x1
  rw [upr_upr] at x1 e
  exact ⟨R, x1, fun k hk => (x3 k hk).trans ((stS_r T c a q (N 40) hq).2.1 k hk), e⟩
/-- what reading comes to, on both sides -/
def RD (d d2 c a i : Nat) (N : Mem) (D : Nat → Int32) : Prop :=
  (∃ cd p, ¬ cd = 0 ∧ (∃ NE, AG N NE ∧ NE 3 3 = nI p ∧ ∀ Q, Wp (d + 6) 31 21 [.ref 3, .ref 1, .ref 5, .int (nI i)] [] N Q ↔ Q (some (.int cd)) NE) ∧
    ∀ T' N', (∀ k, sgF T' c k = sgF (N 2) c k) → RM N' T' c a → N' 42 = D → ∃ R r42, R 17 = nI p ∧ R 21 = cd ∧ (∀ k, k < 16 → R k = N' 40 k) ∧ ∀ Q, Wp (d2 + 6) 113 37 [.ref 40, .int 1] [] (upr N' 40 (stS T' c a (N' 40))) Q ↔ Wp (d2 + 6) 113 64 [.ref 40, .int 0] [] (upr (upr N' 40 R) 42 r42) Q) ∨
  (∃ n' nc' np' D', (∃ NE, AG N NE ∧ NE 3 3 = N 3 3 ∧ PDM n' nc' np' NE D' ∧ ∀ Q, Wp (d + 6) 31 21 [.ref 3, .ref 1, .ref 5, .int (nI i)] [] N Q ↔ Q (some (.int 0)) NE) ∧
    ∀ T' N', (∀ k, sgF T' c k = sgF (N 2) c k) → RM N' T' c a → N' 42 = D → ∃ R, (∀ k, k < 16 → R k = N' 40 k) ∧ ∀ Q, Wp (d2 + 6) 113 37 [.ref 40, .int 1] [] (upr N' 40 (stS T' c a (N' 40))) Q ↔ Wp (d2 + 6) 113 64 [.ref 40, .int 1] [] (upr (upr N' 40 R) 42 D') Q)
theorem rd_end (d d2 c a i q : Nat) (N : Mem) (D : Nat → Int32) (n nc np : Nat) (hc : c ≤ 240) (hia : i ≤ a) (h1 : N 1 1 = nI c) (ha : a ≤ c) (h3 : N 3 1 = nI a) (hf : N 3 2 = 0) (hP : PDM n nc np N D) (hq : skN (N 2) c 240 a = q) (hqc : ¬ q < c) : RD d d2 c a i N D := by
  refine Or.inr ⟨n, nc, np, D, ⟨upr N 3 (upd (N 3) 1 (nI q)), fun k h _ => upr_off h, rfl, hP, fun Q => l31_end d c a i q N Q hc h1 ha h3 hf (by omega) hq hqc⟩, fun T' N' hT hM hD => ?_⟩
  have hq' : skN T' c 240 a = q := by rw [skC hT]; exact hq
  have hs : sgF T' c q = -1 := sg_end (by omega)
  obtain ⟨-, s0, -, s2, -⟩ := stS_r T' c a q (N' 40) hq'
  have h18 : stS T' c a (N' 40) 18 = -1 := by
    rw [s2 (by rw [hs]; exact fg_end), hs]
  refine ⟨stS T' c a (N' 40), s0, fun Q => ?_⟩
  rw [l113_end d2 (upr N' 40 (stS T' c a (N' 40))) Q (by rw [upr_at, h18]; decide), upr_e (k := 42) (M := upr N' 40 (stS T' c a (N' 40))) (f := D) hD.symm]
theorem rd_all (d d2 c : Nat) (hc : c ≤ 240) : ∀ (f a i : Nat) (N : Mem) (D : Nat → Int32) (n nc np : Nat), c ≤ a + f → i ≤ a → N 1 1 = nI c → a ≤ c → N 3 1 = nI a → N 3 2 = 0 → ST N → (∀ k, k < c → rg (N 2 k) 0 255) → PDM n nc np N D → RD d d2 c a i N D := by
  intro f
  induction f with
  | zero =>
    intro a i N D n nc np hfu hia h1 ha h3 hf hSt hT0 hP
    have := skN_ge (N 2) c 240 a
    exact rd_end d d2 c a i _ N D n nc np hc hia h1 ha h3 hf hP rfl (by omega)
  | succ f ih =>
    intro a i N D n nc np hfu hia h1 ha h3 hf hSt hT0 hP
    generalize hq : skN (N 2) c 240 a = q
    have hqa : a ≤ q := by rw [← hq]; exact skN_ge (N 2) c 240 a
    by_cases hqc : q < c
    rotate_left
    · exact rd_end d d2 c a i q N D n nc np hc hia h1 ha h3 hf hP hq hqc
    have hPc := id hP
    obtain ⟨hb, h13, h12, h14, h11, h9, h10, hC, hD', hPl⟩ := hPc
    obtain ⟨b1, ⟨ro, b2, b3, b4⟩, b5, b6⟩ := h10
    have hRC : RC (upr N 3 (upd (N 3) 1 (nI q))) c q nc n np := ⟨hc, h1, hqc, rfl, hf, b6, hb.2.1, h12.1, hb.1, h13.1, hb.2.2, h14.1, (ST_upr (by omega)).mpr hSt⟩
    have hst : N 5 8 = 0 ↔ ro = 0 := by
      rw [b5, b3]
      exact (nI_z (by omega)).1
    have hsg := sg_in hT0 hqc
    have hD1 : D 1 = nI ro := b1.trans b3
    by_cases hw : wdF (N 5 8) nc n np (knF (sgF (N 2) c q)) = 0
    rotate_left
    · refine Or.inl ⟨wdF (N 5 8) nc n np (knF (sgF (N 2) c q)), q, hw, ⟨upr (upr N 3 (upd (N 3) 1 (nI q))) 3 (upd (upd (upd (N 3) 1 (nI q)) 2 (wdF (N 5 8) nc n np (knF (sgF (N 2) c q)))) 3 (nI q)), fun k h _ => ?_, rfl, fun Q => ?_⟩, fun T' N' hT hM hD => ?_⟩
      · rw [upr_off h, upr_off h]
      · exact (l31_go d c a i q N _ Q hc h1 ha h3 hf (by omega) hq hqc (fun Q => s33_w d c q nc n np (upr N 3 (upd (N 3) 1 (nI q))) Q hRC hw)).trans (l31_bad d (i + 1) _ Q (by omega) hw)
      · have hq' : skN T' c 240 a = q := by rw [skC hT]; exact hq
        have hn' : ¬ sgF T' c q < 0 := by rw [hT]; exact hsg
        apply rf_bad d2 c a q q _ T' N' hq' hn'
        obtain ⟨t1, t0, t2, t3, t4⟩ := stS_r T' c a q (N' 40) hq'
        refine ⟨upd (stS T' c a (N' 40)) 21 (wdF (N 5 8) nc n np (knF (sgF (N 2) c q))), N' 42, ?_, upd_at _ _ _, fun k hk => upd_off (by omega), fun Q => ?_⟩
        · rw [upd_off (by omega)]; exact t1
        · rw [upr_e (k := 42) (f := N' 42) (by rfl)]
          refine s116_w (d2 + 2) ro nc n np (sgF (N 2) c q) _ (N 5 8) (upr N' 40 (stS T' c a (N' 40))) Q rfl ?_ b2 ?_ hst hb.2.1 ?_ hb.1 ?_ hb.2.2 ?_ hw
          · rw [upr_at, ← hT q]
            by_cases h : rg (sgF T' c q) 48 57
            · exact Or.inr ⟨h, t2 h⟩
            · exact Or.inl (t3 h)
          · exact (congrFun hD 1).trans hD1
          · exact (congrFun hD 3).trans h12.2
          · exact (congrFun hD 4).trans h13.2
          · exact (congrFun hD 5).trans h14.2
    cases hk : knF (sgF (N 2) c q) with
    | none => rw [hk] at hw; exact absurd (show (1 : Int32) = 0 from hw) (by decide)
    | some kd =>
      have hw' := hw
      rw [hk] at hw'
      have hk4 := knF_lt _ kd hk
      -- the reference's clause, for whatever rows it begins with
      have hfig : ¬ rg (sgF (N 2) c q) 48 57 := by
        rcases knF_sg hk with ⟨-, e⟩ | ⟨-, e⟩ | ⟨-, e⟩ | ⟨-, e⟩ <;> (rw [e]; decide)
      have href : ∀ T' N', (∀ k, sgF T' c k = sgF (N 2) c k) → RM N' T' c a → N' 42 = D → _ := fun T' N' hT hM hD =>
        have hq' : skN T' c 240 a = q := by rw [skC hT]; exact hq
        have hfig' : ¬ rg (sgF T' c q) 48 57 := by rw [hT]; exact hfig
        have hn' : ¬ sgF T' c q < 0 := by rw [hT]; exact hsg
        have t := stS_r T' c a q (N' 40) hq'
        have hM1 : RM (upr N' 40 (stS T' c a (N' 40))) T' c (q + 1) := ⟨hc, (t.2.1 10 (by omega)).trans hM.2.1, by omega, t.2.2.2.2 hfig' hn', hM.2.2.2.2⟩
        s116_k d2 c (q + 1) ro n nc np kd (N 5 8) (sgF (N 2) c q) T' (N 4) (upr N' 40 (stS T' c a (N' 40))) hM1 ((t.2.2.2.1 hfig').trans (hT q)) hk hw' b2 ((congrFun hD 1).trans hD1) hst hb.2.1 ((congrFun hD 3).trans h12.2) ((congrFun hD 4).trans h13.2) ((congrFun hD 5).trans h14.2)
      generalize hm : nmF (N 2) c (loK kd) (hiK nc kd) (KK kd) 0 (q + 1) (N 4) = t
      obtain ⟨cd, p, e, r⟩ := t
      by_cases hcd : cd = 0
      rotate_left
      · refine Or.inl ⟨cd, p, hcd, ⟨upr (upr (upr N 3 (upd (N 3) 1 (nI q))) 3 (upd (upd (upd (upd (N 3) 1 (nI q)) 1 (nI e)) 2 cd) 3 (nI p))) 4 r, fun k h h4 => ?_, rfl, fun Q => ?_⟩, fun T' N' hT hM hD => ?_⟩
        · rw [upr_off (by omega), upr_off h, upr_off h]
        · exact (l31_go d c a i q N _ Q hc h1 ha h3 hf (by omega) hq hqc (fun Q => s33_n d c q nc n np kd (upr N 3 (upd (N 3) 1 (nI q))) Q hRC hw hk cd p e r hm hcd)).trans (l31_bad d (i + 1) _ Q (by omega) hcd)
        · have hq' : skN T' c 240 a = q := by rw [skC hT]; exact hq
          have hn' : ¬ sgF T' c q < 0 := by rw [hT]; exact hsg
          exact rf_bad d2 c a q p cd T' N' hq' hn' ((href T' N' hT hM hD).1 cd p e r (by rw [nmC hT]; exact hm) hcd)
      subst hcd
      generalize hq2 : skN (N 2) c 240 e = q2
      have hle := nm_le (N 2) c (loK kd) (hiK nc kd) (KK kd) 0 (q + 1) (N 4) (by omega)
      have hge := nm_ge (N 2) c (loK kd) (hiK nc kd) (KK kd) 0 (q + 1) (N 4)
      rw [hm] at hle hge
      have hge2 := skN_ge (N 2) c 240 e
      rw [hq2] at hge2
      simp only at hle hge
      have hs33 := fun Q => s33_e d c q nc n np kd (upr N 3 (upd (N 3) 1 (nI q))) Q hRC hw hk p e q2 r hm hq2
      by_cases h59 : sgF (N 2) c q2 = 59
      rotate_left
      · refine Or.inl ⟨1, q2, by decide, ⟨upr (upr (upr N 3 (upd (N 3) 1 (nI q))) 3 (upd (upd (upd (upd (N 3) 1 (nI q)) 1 (nI q2)) 2 1) 3 (nI q2))) 4 r, fun k h h4 => ?_, rfl, fun Q => ?_⟩, fun T' N' hT hM hD => ?_⟩
        · rw [upr_off (by omega), upr_off h, upr_off h]
        · exact (l31_go d c a i q N _ Q hc h1 ha h3 hf (by omega) hq hqc (fun Q => (hs33 Q).1 h59)).trans (l31_bad d (i + 1) _ Q (by omega) (fun z => absurd (show (1 : Int32) = 0 from z) (by decide)))
        · have hq' : skN T' c 240 a = q := by rw [skC hT]; exact hq
          have hn' : ¬ sgF T' c q < 0 := by rw [hT]; exact hsg
          have hq2' : skN T' c 240 e = q2 := by rw [skC hT]; exact hq2
          have := (href T' N' hT hM hD).2.1 p e r (by rw [nmC hT]; exact hm) (by rw [hq2', hT]; exact h59)
          rw [hq2'] at this
          exact rf_bad d2 c a q q2 1 T' N' hq' hn' this
      have hq2c : q2 < c := by
        apply Classical.byContradiction
        intro w
        rw [sg_end (by omega)] at h59
        exact absurd h59 (by decide)
      obtain ⟨n', nc', np', NE1, hR4, hsame, hP1⟩ := s4_k d n nc np kd p e (q + 1) c (upr (upr (upr N 3 (upd (N 3) 1 (nI q))) 3 (upd ((upr N 3 (upd (N 3) 1 (nI q))) 3) 1 (nI (q2 + 1)))) 4 r) D (N 2) (N 4) r hP hk4 hw' hm
      have hgo := fun Q => l31_go d c a i q N NE1 Q hc h1 ha h3 hf (by omega) hq hqc (fun Q => (hs33 Q).2 h59 NE1 hR4)
      have hs2 : ∀ k, k ≠ 3 → (k < 4 ∨ 13 < k) → NE1 k = N k := fun k h h4 => by
        rw [hsame k (by omega), upr_off (by omega), upr_off h, upr_off h]
      have hs3 : NE1 3 = upd (upd (N 3) 1 (nI q)) 1 (nI (q2 + 1)) := hsame 3 (by omega)
      have hIH := ih (q2 + 1) (i + 1) NE1 (addD kd nc n np D r) n' nc' np' (by omega) (by omega) (by rw [hs2 1 (by omega) (by omega)]; exact h1) (by omega) (by rw [hs3, upd_at]) (by rw [hs3, upd_off (by omega), upd_off (by omega)]; exact hf) (by unfold ST at hSt ⊢; rw [hs2 60 (by omega) (by omega), hs2 61 (by omega) (by omega), hs2 62 (by omega) (by omega)]; exact hSt) (by rw [hs2 2 (by omega) (by omega)]; exact hT0) hP1
      have hnext : ∀ T' N', (∀ k, sgF T' c k = sgF (N 2) c k) → RM N' T' c a → N' 42 = D → ∃ R, RM (upr (upr N' 40 R) 42 (addD kd nc n np D r)) T' c (q2 + 1) ∧ (∀ k, k < 16 → R k = N' 40 k) ∧ ∀ Q, Wp (d2 + 6) 113 37 [.ref 40, .int 1] [] (upr N' 40 (stS T' c a (N' 40))) Q ↔ Wp (d2 + 6) 113 37 [.ref 40, .int 1] [] (upr (upr (upr N' 40 R) 42 (addD kd nc n np D r)) 40 (stS T' c (q2 + 1) ((upr (upr N' 40 R) 42 (addD kd nc n np D r)) 40))) Q := fun T' N' hT hM hD => by
        have hq' : skN T' c 240 a = q := by rw [skC hT]; exact hq
        have hn' : ¬ sgF T' c q < 0 := by rw [hT]; exact hsg
        have hq2' : skN T' c 240 e = q2 := by rw [skC hT]; exact hq2
        have := (href T' N' hT hM hD).2.2 p e r (by rw [nmC hT]; exact hm) (by rw [hq2', hT]; exact h59)
        rw [hq2', show (upr N' 40 (stS T' c a (N' 40))) 42 = D from hD] at this
        exact rf_ok d2 c a q (q2 + 1) T' (addD kd nc n np D r) N' hq' hn' this
      have hT2 : ∀ T', (∀ k, sgF T' c k = sgF (N 2) c k) → (∀ k, sgF T' c k = sgF (NE1 2) c k) := fun T' h k => by rw [hs2 2 (by omega) (by omega)]; exact h k
      rcases hIH with ⟨cd2, p2, c1, ⟨NE, g1, g2, g3⟩, g4⟩ | ⟨n2, nc2, np2, D2, ⟨NE, g1, g2, g5, g3⟩, g4⟩
      · refine Or.inl ⟨cd2, p2, c1, ⟨NE, fun k h h4 => (g1 k h h4).trans (hs2 k h h4), g2, fun Q => (hgo Q).trans (g3 Q)⟩, fun T' N' hT hM hD => ?_⟩
        obtain ⟨R1, x1, x2, x3⟩ := hnext T' N' hT hM hD
        obtain ⟨R, r42, y1, y2, y3, y4⟩ := g4 T' _ (hT2 T' hT) x1 (upr_at _ _ _)
        refine ⟨R, r42, y1, y2, fun k hk => (y3 k hk).trans (x2 k hk), fun Q => (x3 Q).trans ((y4 Q).trans ?_)⟩
        simp only [usz, upr_upr]
      · refine Or.inr ⟨n2, nc2, np2, D2, ⟨NE, fun k h h4 => (g1 k h h4).trans (hs2 k h h4), ?_, g5, fun Q => (hgo Q).trans (g3 Q)⟩, fun T' N' hT hM hD => ?_⟩
        · rw [g2, hs3, upd_off (by omega), upd_off (by omega)]
        · obtain ⟨R1, x1, x2, x3⟩ := hnext T' N' hT hM hD
          obtain ⟨R, y3, y4⟩ := g4 T' _ (hT2 T' hT) x1 (upr_at _ _ _)
          refine ⟨R, fun k hk => (y3 k hk).trans (x2 k hk), fun Q => (x3 Q).trans ((y4 Q).trans ?_)⟩
          simp only [usz, upr_upr]
