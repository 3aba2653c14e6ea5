/-! part 62: the yard: what holds behind it -/
theorem Inv_bad {M F : Mem} (hI : Inv M) (hk : ∀ k, (k = 2 ∨ 13 < k) → k ≠ 40 → k ≠ 42 → F k = M k) (h5 : F 40 5 = M 40 5) (h8 : F 40 8 = M 40 8) (h13 : F 40 13 = M 40 13) (h15 : F 40 15 = M 40 15) (h10 : F 40 10 = 0) (h1 : F 1 1 = 0) (h11 : F 0 11 = M 0 11) (hf : F 40 11 = F 0 10) : Inv F := by
  obtain ⟨n, nc, np, B, hY, hL, hP, h0, h1', hT, hH, hB, hS, hSt⟩ := hI
  refine ⟨n, nc, np, B, ?_, ?_, ?_, ?_, ?_, ⟨0, by omega, h1, h10, fun i hi => absurd hi (by omega)⟩, ?_, ?_, ⟨?_, hf⟩, ?_⟩
  · unfold YR at hY ⊢
    rw [hk 15 (by omega) (by omega) (by omega), hk 16 (by omega) (by omega) (by omega), hk 17 (by omega) (by omega) (by omega), hk 18 (by omega) (by omega) (by omega), hk 19 (by omega) (by omega) (by omega), hk 20 (by omega) (by omega) (by omega), hk 21 (by omega) (by omega) (by omega), hk 22 (by omega) (by omega) (by omega), hk 23 (by omega) (by omega) (by omega), hk 41 (by omega) (by omega) (by omega)]
    exact hY
  · unfold LM at hL ⊢
    rw [hk 24 (by omega) (by omega) (by omega), hk 25 (by omega) (by omega) (by omega), hk 26 (by omega) (by omega) (by omega), hk 28 (by omega) (by omega) (by omega), hk 43 (by omega) (by omega) (by omega)]
    exact hL
  · rw [hk 30 (by omega) (by omega) (by omega), hk 31 (by omega) (by omega) (by omega), hk 45 (by omega) (by omega) (by omega), h5]
    exact hP
  · rw [hk 32 (by omega) (by omega) (by omega), hk 33 (by omega) (by omega) (by omega), hk 46 (by omega) (by omega) (by omega), hk 47 (by omega) (by omega) (by omega)]
    exact h0
  · rw [hk 34 (by omega) (by omega) (by omega), hk 35 (by omega) (by omega) (by omega), hk 46 (by omega) (by omega) (by omega), hk 47 (by omega) (by omega) (by omega)]
    exact h1'
  · rw [hk 36 (by omega) (by omega) (by omega), hk 49 (by omega) (by omega) (by omega), h13]
    exact hH
  · rw [hk 37 (by omega) (by omega) (by omega), hk 38 (by omega) (by omega) (by omega), hk 39 (by omega) (by omega) (by omega), hk 50 (by omega) (by omega) (by omega), h15]
    exact hB
  · rw [h11, h8]
    exact hS.1
  · unfold ST at hSt ⊢
    rw [hk 60 (by omega) (by omega) (by omega), hk 61 (by omega) (by omega) (by omega), hk 62 (by omega) (by omega) (by omega)]
    exact hSt
theorem Inv_new {F : Mem} {n nc np B : Nat} (hY : YR n nc np B F) (hl : F 24 3 = 0 ∧ F 24 4 = 0 ∧ F 24 5 = 0) (his : ∀ k, k < 6 → F 25 k = 0) (hca : ∀ k, k < 6 → F 26 k = 0) (hba : ∀ k, k < 36 → F 28 k = 0) (hg : ∀ k, k < 51 → F 43 k = 0) (hp : ∃ x, x < 16 ∧ F 30 1 = nI x) (hp2 : F 30 2 = 0) (hu : F 40 5 = 0) (hi0 : F 32 1 = 0) (hi1 : F 34 1 = 0) (hk0 : F 47 0 = 0) (hk1 : F 47 1 = 0) (ht : F 1 1 = 0) (ht2 : F 40 10 = 0) (hh : F 36 0 = 0 ∧ F 36 1 = 0 ∧ F 36 2 = 60) (hh2 : F 40 13 = 0) (hb : F 37 2 = 0) (hb2 : F 40 15 = 0) (hS : SR (F 0 11) (F 0 10) (F 40 8) (F 40 11)) (hSt : ST F) : Inv F := by
  obtain ⟨x, hx, hx1⟩ := hp
  have z0 : rg (0 : Int32) (-9999) 9999 := by decide
  have z1 : rg (0 : Int32) 0 999999 := by decide
  refine ⟨n, nc, np, B, hY, ?_, ⟨x, 0, hx, by omega, hx1, hp2, hu, fun i hi => absurd hi (by omega)⟩, ⟨Or.inl hi0, hk0.trans hi0.symm, fun z => ?_⟩, ⟨Or.inl hi1, hk1.trans hi1.symm, fun z => ?_⟩, ⟨0, by omega, ht, ht2, fun i hi => absurd hi (by omega)⟩, ⟨0, 0, 60, by omega, by omega, by omega, hh.1, hh2, hh.2.1, hh.2.2, fun i hi => absurd hi (by omega), fun y hy => ⟨fun _ => ⟨by omega, hy⟩, fun _ k hk => absurd hk (by omega)⟩⟩, ⟨0, by omega, hb, hb2, fun i hi => absurd hi (by omega)⟩, hS, hSt⟩
  · unfold LM LR
    refine ⟨fun k hk => ?_, fun k hk => ?_, fun i hi j hj => ?_, ⟨?_, ?_, ?_⟩, fun k hk => ?_, fun i hi j hj => ?_, fun i hi j hj => ?_, fun i hi j hj _ => ?_, ⟨0, 0, by omega, by omega, hl.1, hl.2.1⟩, ?_⟩
    · rw [hg k (by omega), his k hk]
    · rw [hg (6 + k) (by omega), hca k hk]
    · rw [hg (12 + 6 * i + j) (by omega), hba (j * 6 + i) (by omega)]
    · rw [hg 48 (by omega), hl.1]
    · rw [hg 49 (by omega), hl.2.1]
    · rw [hg 50 (by omega), hl.2.2]
    · rw [hca k hk]; exact z0
    · rw [hba (i * 6 + j) (by omega), hba (j * 6 + i) (by omega)]; decide
    · rw [hba (i * 6 + j) (by omega)]; exact z0
    · exact hba (i * 6 + j) (by omega)
    · rw [hl.2.2]; exact z1
  · rw [hi0] at z; exact absurd z (by decide)
  · rw [hi1] at z; exact absurd z (by decide)
theorem YR_new {n nc np : Nat} {N F : Mem} {D : Nat → Int32} (hP : PDM n nc np N D) (h15 : ∀ j, 8 ≤ j → j ≤ 14 → F 15 j = N 5 j) (h16 : ∀ k, k < 4 → F 16 k = N 6 k) (h17 : ∀ k, k < 4 → F 17 k = N 7 k) (h18 : ∀ k, k < 6 → F 18 k = N 8 k) (h19 : ∀ k, k < 6 → F 19 k = N 9 k) (h20 : ∀ k, k < 6 → F 20 k = N 10 k) (h21 : ∀ k, k < 6 → F 21 k = N 11 k) (h22 : ∀ k, k < 6 → F 22 k = N 12 k) (h23 : ∀ k, k < 6 → F 23 k = N 13 k) (h41 : ∀ j, j < 50 → F 41 j = D j) : ∃ B, YR n nc np B F := by
  obtain ⟨⟨b1, b2, b3⟩, h13, h12, h14, h11, h9, h10, hC, hD, hPl⟩ := hP
  obtain ⟨B, hB6, hB⟩ := rg_nI (n := 6) (x := N 5 11) ⟨h11.2.1, h11.2.2⟩
  refine ⟨B, ⟨b1, b2, b3, hB6⟩, ?_, ?_, ?_, ?_, ?_, ?_, fun k hk => ?_, fun k hk => ?_, fun k hk => ?_⟩
  · rw [h15 13 (by omega) (by omega), h41 4 (by omega)]; exact h13
  · rw [h15 12 (by omega) (by omega), h41 3 (by omega)]; exact h12
  · rw [h15 14 (by omega) (by omega), h41 5 (by omega)]; exact h14
  · rw [h15 11 (by omega) (by omega), h41 2 (by omega)]; exact ⟨hB, h11.1.trans hB⟩
  · rw [h15 9 (by omega) (by omega), h41 0 (by omega)]; exact h9
  · rw [h15 10 (by omega) (by omega), h15 8 (by omega) (by omega), h41 1 (by omega)]; exact h10
  · rw [h16 k (by omega), h17 k (by omega), h41 (6 + k) (by omega), h41 (10 + k) (by omega)]; exact hC k hk
  · rw [h18 k (by omega), h19 k (by omega), h20 k (by omega), h41 (14 + k) (by omega), h41 (20 + k) (by omega), h41 (26 + k) (by omega)]; exact hD k hk
  · rw [h21 k (by omega), h22 k (by omega), h23 k (by omega), h41 (32 + k) (by omega), h41 (38 + k) (by omega), h41 (44 + k) (by omega)]; exact hPl k hk
theorem rd_yard (d c : Nat) (M : Mem) (hc : c ≤ 240) (t1 : M 1 1 = nI c) (hSt : ST M) (t3 : ∀ k, k < c → rg (M 2 k) 0 255) : RD d (d + 1) c 0 0 (upr (upr M 3 (upd (upd (upd (M 3) 1 0) 2 0) 3 (-1))) 5 (upd (upd (upd (upd (upd (upd (upd (M 5) 8 0) 9 0) 10 0) 11 0) 12 0) 13 0) 14 0)) (zf 50 (M 42)) := by
  have hz : ∀ j, j < 50 → zf 50 (M 42) j = 0 := fun j hj => if_pos hj
  have hPD : PDM 0 0 0 (upr (upr M 3 (upd (upd (upd (M 3) 1 0) 2 0) 3 (-1))) 5 (upd (upd (upd (upd (upd (upd (upd (M 5) 8 0) 9 0) 10 0) 11 0) 12 0) 13 0) 14 0)) (zf 50 (M 42)) := by
    refine ⟨⟨by omega, by omega, by omega⟩, ⟨rfl, hz 4 (by omega)⟩, ⟨rfl, hz 3 (by omega)⟩, ⟨rfl, hz 5 (by omega)⟩, ⟨(hz 2 (by omega)).trans rfl, ?_⟩, ⟨(hz 0 (by omega)).trans rfl, ?_⟩, ⟨(hz 1 (by omega)).trans rfl, ⟨0, by omega, rfl, fun _ => rfl⟩, ⟨fun _ => rfl, fun _ => rfl⟩, Or.inl rfl⟩, fun k hk => absurd hk (by omega), fun k hk => absurd hk (by omega), fun k hk => absurd hk (by omega)⟩
    · exact (by decide : rg (0 : Int32) 0 6)
    · exact (by decide : rg (0 : Int32) 0 99)
  exact rd_all d (d + 1) c hc 240 0 0 _ (zf 50 (M 42)) 0 0 0 (by omega) (by omega) t1 (by omega) rfl rfl ((ST_upr (by omega)).mpr ((ST_upr (by omega)).mpr hSt)) t3 hPD
theorem pair_yard (d : Nat) (M : Mem) (hI : Inv M) : PairOK (d + 7) 72 113 [.ref 0, .null] [.ref 40, .null] M := by
  intro K hK
  obtain ⟨n, nc, np, B, hY, hL, hP, h0, h1, ⟨c, hc, t1, t2, t3⟩, hH, hB, ⟨⟨sd, hsd, e1, e2⟩, e3⟩, hSt⟩ := id hI
  have hRD := rd_yard d c M hc t1 hSt (fun k hk => (t3 k hk).2)
  have hsg : ∀ k, sgF (M 48) c k = sgF (M 2) c k := fun k => by
    unfold sgF
    by_cases h : k < c
    · rw [if_pos h, if_pos h, (t3 k h).1]
    · rw [if_neg h, if_neg h]
  rcases hRD with ⟨cd, p, hcd, ⟨NE, g1, g2, g3⟩, g4⟩ | ⟨n', nc', np', D', ⟨NE, g1, g2, g5, g3⟩, g4⟩
  · have hag : ∀ k, (k < 3 ∨ 13 < k) → NE k = M k := fun k hk => by
      rw [g1 k (by omega) (by omega), upr_off (by omega), upr_off (by omega)]
    have g3' := fun Q => (s31_0 d M Q).trans (g3 Q)
    rw [s72_bad d M NE cd _ hcd g3']
    generalize hN1 : upr (upr NE 0 (upd (NE 0) 10 (NE 3 3))) 1 (upd (NE 1) 1 0) = N1
    have n40 : N1 40 = M 40 := by rw [← hN1]; exact hag 40 (by omega)
    have n42 : N1 42 = M 42 := by rw [← hN1]; exact hag 42 (by omega)
    have n48 : N1 48 = M 48 := by rw [← hN1]; exact hag 48 (by omega)
    have s0 := fun Q => s113_0 (d + 1) c N1 Q hc (by rw [n40]; exact t2)
    rw [n40, n42, n48] at s0
    obtain ⟨R, r42, y1, y2, y3, y4⟩ := g4 (M 48) (upr (upr N1 40 (upd (upd (M 40) 16 0) 11 (-1))) 42 (zf 50 (M 42))) hsg ⟨hc, t2, by omega, rfl, n48⟩ rfl
    refine (s0 _).mpr ((y4 _).mpr ((s113_bad (d + 1) _ _).mpr ?_))
    have a21 : (upr (upr (upr (upr N1 40 (upd (upd (M 40) 16 0) 11 (-1))) 42 (zf 50 (M 42))) 40 R) 42 r42) 40 = R := rfl
    rw [a21, y2]
    apply hK
    have r5 : ∀ k, k < 16 → k ≠ 11 → R k = M 40 k := fun k hk h11 => (y3 k hk).trans (by
      show upd (upd (M 40) 16 0) 11 (-1) k = M 40 k
      rw [upd_off h11, upd_off (by omega)])
    refine Inv_bad hI (fun k h2 h40 h42 => ?_) ?_ ?_ ?_ ?_ ?_ ?_ ?_ ?_
    · rw [upr_off h40, upr_off h42, upr_off h40, upr_off h42, upr_off h40, ← hN1, upr_off (by omega), upr_off (by omega)]
      exact hag k (by omega)
    · rw [upr_at, upd_off (by omega), upd_off (by omega)]; exact r5 5 (by omega) (by omega)
    · rw [upr_at, upd_off (by omega), upd_off (by omega)]; exact r5 8 (by omega) (by omega)
    · rw [upr_at, upd_off (by omega), upd_off (by omega)]; exact r5 13 (by omega) (by omega)
    · rw [upr_at, upd_off (by omega), upd_off (by omega)]; exact r5 15 (by omega) (by omega)
    · rw [upr_at, upd_off (by omega), upd_at]
    · rw [upr_off (by omega), upr_off (by omega), upr_off (by omega), upr_off (by omega), upr_off (by omega), ← hN1, upr_at, upd_at]
    · rw [upr_off (by omega), upr_off (by omega), upr_off (by omega), upr_off (by omega), upr_off (by omega), ← hN1, upr_off (by omega), upr_at, upd_off (by omega), hag 0 (by omega)]
    · rw [upr_at, upd_at, upr_off (by omega), upr_off (by omega), upr_off (by omega), upr_off (by omega), upr_off (by omega), ← hN1, upr_off (by omega), upr_at, upd_at, y1, g2]
  · have hag : ∀ k, (k < 3 ∨ 13 < k) → NE k = M k := fun k hk => by
      rw [g1 k (by omega) (by omega), upr_off (by omega), upr_off (by omega)]
    have g3' := fun Q => (s31_0 d M Q).trans (g3 Q)
    have h8 : NE 5 8 = 0 ∨ NE 5 8 = 1 := by
      obtain ⟨_, _, _, _, _, _, h10, _⟩ := g5
      exact h10.2.2.2
    have h13 : NE 5 13 = D' 4 := by
      obtain ⟨_, h13, _⟩ := g5
      exact h13.1.trans h13.2.symm
    rw [s72_ok d M NE _ h8 g3']
    have m40 : ME NE 40 = M 40 := hag 40 (by omega)
    have m42 : ME NE 42 = M 42 := hag 42 (by omega)
    have m48 : ME NE 48 = M 48 := hag 48 (by omega)
    have s0 := fun Q => s113_0 (d + 1) c (ME NE) Q hc (by rw [m40]; exact t2)
    rw [m40, m42, m48] at s0
    obtain ⟨R, y3, y4⟩ := g4 (M 48) (upr (upr (ME NE) 40 (upd (upd (M 40) 16 0) 11 (-1))) 42 (zf 50 (M 42))) hsg ⟨hc, t2, by omega, rfl, m48⟩ rfl
    refine (s0 _).mpr ((y4 _).mpr ((s113_ok (d + 1) _ _).mpr ?_))
    have r5 : ∀ k, k < 16 → k ≠ 11 → R k = M 40 k := fun k hk h11 => (y3 k hk).trans (by
      show upd (upd (M 40) 16 0) 11 (-1) k = M 40 k
      rw [upd_off h11, upd_off (by omega)])
    have r11 : R 11 = -1 := (y3 11 (by omega)).trans rfl
    have e42 : (upr (upr (upr (upr (ME NE) 40 (upd (upd (M 40) 16 0) 11 (-1))) 42 (zf 50 (M 42))) 40 R) 42 D') 42 = D' := rfl
    have e40 : (upr (upr (upr (upr (ME NE) 40 (upd (upd (M 40) 16 0) 11 (-1))) 42 (zf 50 (M 42))) 40 R) 42 D') 40 = R := rfl
    rw [e42, e40, ← h13]
    apply hK
    have hcp : ∀ (f g : Nat → Int32) (m k : Nat), k < m → va_cpy f g 0 0 m k = f k := fun f g m k hk => by
      rw [pk_cpy_in (by omega) (by omega)]
      congr 1
      omega
    obtain ⟨B', hYn⟩ := YR_new (F := upr (upr (upr (upr (upr (upr (upr (upr (ME NE) 40 (upd (upd (M 40) 16 0) 11 (-1))) 42 (zf 50 (M 42))) 40 R) 42 D') 40 (upd (upd (upd (upd R 10 0) 5 0) 13 0) 15 0)) 41 (va_cpy D' ((upr (upr (upr (upr (ME NE) 40 (upd (upd (M 40) 16 0) 11 (-1))) 42 (zf 50 (M 42))) 40 R) 42 D') 41) 0 0 50)) 43 (zf 51 ((upr (upr (upr (upr (ME NE) 40 (upd (upd (M 40) 16 0) 11 (-1))) 42 (zf 50 (M 42))) 40 R) 42 D') 43))) 47 (upd (upd ((upr (upr (upr (upr (ME NE) 40 (upd (upd (M 40) 16 0) 11 (-1))) 42 (zf 50 (M 42))) 40 R) 42 D') 47) 0 0) 1 0)) g5 (fun j h1 h2 => by
        have : j = 8 ∨ j = 9 ∨ j = 10 ∨ j = 11 ∨ j = 12 ∨ j = 13 ∨ j = 14 := by omega
        rcases this with rfl | rfl | rfl | rfl | rfl | rfl | rfl <;> rfl) (hcp (NE 6) (NE 16) 4) (hcp (NE 7) (NE 17) 4) (hcp (NE 8) (NE 18) 6) (hcp (NE 9) (NE 19) 6) (hcp (NE 10) (NE 20) 6) (hcp (NE 11) (NE 21) 6) (hcp (NE 12) (NE 22) 6) (hcp (NE 13) (NE 23) 6) (hcp D' _ 50)
    obtain ⟨x, u, hx, hu, p1, p2, -⟩ := hP
    have hn30 := hag 30 (by omega)
    refine Inv_new hYn ⟨rfl, rfl, rfl⟩ (fun k hk => if_pos hk) (fun k hk => if_pos hk) (fun k hk => if_pos hk) (fun k hk => if_pos hk) ⟨x, hx, ?_⟩ rfl rfl rfl rfl rfl rfl rfl rfl ⟨rfl, rfl, rfl⟩ rfl rfl rfl ⟨⟨sd, hsd, ?_, ?_⟩, ?_⟩ ?_
    · show NE 30 1 = nI x
      rw [hn30]; exact p1
    · show NE 0 11 = nI sd
      rw [hag 0 (by omega)]; exact e1
    · show R 8 = nI sd
      rw [r5 8 (by omega) (by omega)]; exact e2
    · show R 11 = NE 3 3
      rw [r11, g2]
      rfl
    · have h60 : NE 60 = M 60 := hag 60 (by omega)
      have h61 : NE 61 = M 61 := hag 61 (by omega)
      have h62 : NE 62 = M 62 := hag 62 (by omega)
      have : ST NE := by
        unfold ST at hSt ⊢
        rw [h60, h61, h62]
        exact hSt
      exact this
