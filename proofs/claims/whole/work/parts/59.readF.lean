/-! part 59: reading: what was read, on both sides -/
theorem skC {T T' : Nat → Int32} {c : Nat} (h : ∀ i, sgF T' c i = sgF T c i) : ∀ f a, skN T' c f a = skN T c f a
  | 0, a => rfl
  | f + 1, a => by rw [skN, skN, h a, skC h f (a + 1)]
theorem dgC {T T' : Nat → Int32} {c : Nat} (h : ∀ i, sgF T' c i = sgF T c i) : ∀ f i a v, dgF T' c f i a v = dgF T c f i a v
  | 0, i, a, v => by rw [dgF, dgF]
  | f + 1, i, a, v => by
    by_cases hs : rg (sgF T c a) 48 57
    · rw [dgF_S.1 hs, dgF_S.1 (by rw [h a]; exact hs), h a, dgC h f]
    · rw [dgF_S.2 hs, dgF_S.2 (by rw [h a]; exact hs)]
theorem nmC {T T' : Nat → Int32} {c : Nat} {lo hi : Nat → Int32} (h : ∀ i, sgF T' c i = sgF T c i) : ∀ j i a r, nmF T' c lo hi j i a r = nmF T c lo hi j i a r
  | 0, i, a, r => by rw [nmF, nmF]
  | j + 1, i, a, r => by
    rw [nmF, nmF, skC h, dgC h]
    by_cases hc : cdF (lo i) (hi i) (dgF T c 240 0 (skN T c 240 a) 0).1 (dgF T c 240 0 (skN T c 240 a) 0).2.2 = 0
    · rw [if_pos hc, if_pos hc, nmC h j]
    · rw [if_neg hc, if_neg hc]
theorem cd_rg {lo hi v : Int32} {n : Nat} (h : cdF lo hi n v = 0) : rg v lo.toInt hi.toInt := by
  rw [rg_v]
  unfold cdF at h
  by_cases h1 : n = 0
  · rw [if_pos h1] at h
    exact absurd h (by decide)
  · rw [if_neg h1] at h
    by_cases h2 : 3 < n ∨ v < lo ∨ hi < v
    · rw [if_pos h2] at h
      exact absurd h (by decide)
    · exact ⟨fun z => h2 (Or.inr (Or.inl z)), fun z => h2 (Or.inr (Or.inr z))⟩
theorem nm_rg (T : Nat → Int32) (c : Nat) (lo hi : Nat → Int32) : ∀ j i a r p e r', nmF T c lo hi j i a r = (0, p, e, r') → (∀ k, k < i → r' k = r k) ∧ ∀ k, i ≤ k → k < i + j → rg (r' k) (lo k).toInt (hi k).toInt
  | 0, i, a, r, p, e, r', h => by
    rw [nmF] at h
    cases h
    exact ⟨fun _ _ => rfl, fun k h1 h2 => absurd h2 (by omega)⟩
  | j + 1, i, a, r, p, e, r', h => by
    rw [nmF] at h
    by_cases hcd : cdF (lo i) (hi i) (dgF T c 240 0 (skN T c 240 a) 0).1 (dgF T c 240 0 (skN T c 240 a) 0).2.2 = 0
    · rw [if_pos hcd] at h
      obtain ⟨k1, k2⟩ := nm_rg T c lo hi j (i + 1) _ _ p e r' h
      refine ⟨fun k hk => (k1 k (by omega)).trans (pk_un (by omega)), fun k h1 h2 => ?_⟩
      by_cases hk : k = i
      · subst hk
        rw [k1 k (by omega), upd_at]
        exact cd_rg hcd
      · exact k2 k (by omega) (by omega)
    · rw [if_neg hcd] at h
      exact absurd (congrArg (fun z => z.1) h) hcd
theorem skN_ge (T : Nat → Int32) (c : Nat) : ∀ f a, a ≤ skN T c f a
  | 0, a => Nat.le_refl _
  | f + 1, a => by
    rw [skN]
    split
    · have := skN_ge T c f (a + 1)
      omega
    · exact Nat.le_refl _
theorem dg_ge (T : Nat → Int32) (c a : Nat) : a ≤ (dgF T c 240 0 (skN T c 240 a) 0).2.1 := by
  have h1 := skN_ge T c 240 a
  have h2 := dgF_at (T := T) (c := c) 240 0 (skN T c 240 a) 0
  omega
theorem nm_ge (T : Nat → Int32) (c : Nat) (lo hi : Nat → Int32) : ∀ j i a r, a ≤ (nmF T c lo hi j i a r).2.2.1
  | 0, _, a, _ => by rw [nmF]; exact Nat.le_refl _
  | j + 1, i, a, r => by
    rw [nmF]
    split
    · exact Nat.le_trans (dg_ge T c a) (nm_ge T c lo hi j (i + 1) _ _)
    · exact dg_ge T c a
/-- the draft: the program's rows and the reference's -/
def PDf (n nc np : Nat) (z5 z6 z7 z8 z9 z10 z11 z12 z13 D : Nat → Int32) : Prop :=
  (n ≤ 6 ∧ nc ≤ 4 ∧ np ≤ 6) ∧ (z5 13 = nI n ∧ D 4 = nI n) ∧ (z5 12 = nI nc ∧ D 3 = nI nc) ∧ (z5 14 = nI np ∧ D 5 = nI np) ∧ (D 2 = z5 11 ∧ rg (z5 11) 0 6) ∧
  (D 0 = z5 9 ∧ rg (z5 9) 0 99) ∧ (D 1 = z5 10 ∧ (∃ R, R ≤ 6 ∧ z5 10 = nI R ∧ (R = 0 → n = 0)) ∧ (z5 8 = 0 ↔ z5 10 = 0) ∧ (z5 8 = 0 ∨ z5 8 = 1)) ∧
  (∀ k, k < nc → D (6 + k) = z6 k ∧ D (10 + k) = z7 k ∧ rg (z6 k) 1 100 ∧ rg (z7 k) 0 20) ∧
  (∀ k, k < n → D (14 + k) = z8 k ∧ (∃ c, c < nc ∧ z8 k = nI c) ∧ D (20 + k) = z9 k ∧ rg (z9 k) 1 999 ∧ D (26 + k) = z10 k ∧ rg (z10 k) 0 99) ∧
  (∀ k, k < np → (D (32 + k) = z11 k ∧ rg (z11 k) 0 20) ∧ (D (38 + k) = z12 k ∧ rg (z12 k) 0 20) ∧ (D (44 + k) = z13 k ∧ rg (z13 k) 0 99))
theorem PD_y {n nc np : Nat} {z5 z6 z7 z8 z9 z10 z11 z12 z13 D : Nat → Int32} {x y z : Int32} (h : PDf n nc np z5 z6 z7 z8 z9 z10 z11 z12 z13 D) (hx : rg x 0 99) (hy : rg y 1 6) (hz : rg z 0 6) : PDf n nc np (upd (upd (upd (upd z5 8 1) 9 x) 10 y) 11 z) z6 z7 z8 z9 z10 z11 z12 z13 (upd (upd (upd D 0 x) 1 y) 2 z) := by
  obtain ⟨hb, h13, h12, h14, h11, h9, h10, hC, hD, hP⟩ := h
  obtain ⟨R, hR6, hR⟩ := rg_nI (n := 6) (x := y) ⟨by have := hy.1; omega, by have := hy.2; omega⟩
  have hR0 : R ≠ 0 := by
    intro e
    subst e
    subst hR
    exact absurd hy (by decide)
  refine ⟨hb, ?_, ?_, ?_, ?_, ?_, ?_, fun k hk => ?_, fun k hk => ?_, fun k hk => ?_⟩
  · simp (disch := omega) only [upd_at, upd_off]; exact h13
  · simp (disch := omega) only [upd_at, upd_off]; exact h12
  · simp (disch := omega) only [upd_at, upd_off]; exact h14
  · simp (disch := omega) only [upd_at, upd_off]; exact ⟨trivial, hz⟩
  · simp (disch := omega) only [upd_at, upd_off]; exact ⟨trivial, hx⟩
  · simp (disch := omega) only [upd_at, upd_off]
    refine ⟨trivial, ⟨R, hR6, hR, fun e => absurd e hR0⟩, ⟨fun e => absurd e (by decide), fun e => ?_⟩, Or.inr trivial⟩
    rw [hR] at e
    exact absurd ((nI_z (by omega)).1.mp e) hR0
  · simp (disch := omega) only [upd_at, upd_off]; exact hC k hk
  · simp (disch := omega) only [upd_at, upd_off]; exact hD k hk
  · simp (disch := omega) only [upd_at, upd_off]; exact hP k hk
theorem PD_c {n nc np : Nat} {z5 z6 z7 z8 z9 z10 z11 z12 z13 D : Nat → Int32} {x y : Int32} (h : PDf n nc np z5 z6 z7 z8 z9 z10 z11 z12 z13 D) (hn : nc < 4) (hx : rg x 1 100) (hy : rg y 0 20) : PDf n (nc + 1) np (upd z5 12 (nI (nc + 1))) (upd z6 nc x) (upd z7 nc y) z8 z9 z10 z11 z12 z13 (upd (upd (upd D 3 (nI (nc + 1))) (6 + nc) x) (10 + nc) y) := by
  obtain ⟨hb, h13, h12, h14, h11, h9, h10, hC, hD, hP⟩ := h
  refine ⟨⟨hb.1, by omega, hb.2.2⟩, ?_, ?_, ?_, ?_, ?_, ?_, fun k hk => ?_, fun k hk => ?_, fun k hk => ?_⟩
  · simp (disch := omega) only [upd_at, upd_off]; exact h13
  · simp (disch := omega) only [upd_at, upd_off]; exact ⟨trivial, trivial⟩
  · simp (disch := omega) only [upd_at, upd_off]; exact h14
  · simp (disch := omega) only [upd_at, upd_off]; exact h11
  · simp (disch := omega) only [upd_at, upd_off]; exact h9
  · simp (disch := omega) only [upd_at, upd_off]; exact h10
  · by_cases e : k = nc
    · subst e
      simp (disch := omega) only [upd_at, upd_off]; exact ⟨trivial, trivial, hx, hy⟩
    · simp (disch := omega) only [upd_at, upd_off]; exact hC k (by omega)
  · obtain ⟨a1, ⟨c, a2, a3⟩, a4⟩ := hD k hk
    simp (disch := omega) only [upd_at, upd_off]; exact ⟨a1, ⟨c, by omega, a3⟩, a4⟩
  · simp (disch := omega) only [upd_at, upd_off]; exact hP k hk
theorem PD_d {n nc np : Nat} {z5 z6 z7 z8 z9 z10 z11 z12 z13 D : Nat → Int32} {x y z : Int32} (h : PDf n nc np z5 z6 z7 z8 z9 z10 z11 z12 z13 D) (hn : n < 6) (h8 : ¬ z5 8 = 0) (hx : ∃ c, c < nc ∧ x = nI c) (hy : rg y 1 999) (hz : rg z 0 99) : PDf (n + 1) nc np (upd z5 13 (nI (n + 1))) z6 z7 (upd z8 n x) (upd z9 n y) (upd z10 n z) z11 z12 z13 (upd (upd (upd (upd D 4 (nI (n + 1))) (14 + n) x) (20 + n) y) (26 + n) z) := by
  obtain ⟨hb, h13, h12, h14, h11, h9, h10, hC, hD, hP⟩ := h
  refine ⟨⟨by omega, hb.2⟩, ?_, ?_, ?_, ?_, ?_, ?_, fun k hk => ?_, fun k hk => ?_, fun k hk => ?_⟩
  · simp (disch := omega) only [upd_at, upd_off]; exact ⟨trivial, trivial⟩
  · simp (disch := omega) only [upd_at, upd_off]; exact h12
  · simp (disch := omega) only [upd_at, upd_off]; exact h14
  · simp (disch := omega) only [upd_at, upd_off]; exact h11
  · simp (disch := omega) only [upd_at, upd_off]; exact h9
  · obtain ⟨b1, ⟨R, b2, b3, b4⟩, b5, b6⟩ := h10
    simp (disch := omega) only [upd_at, upd_off]
    refine ⟨b1, ⟨R, b2, b3, fun e => ?_⟩, b5, b6⟩
    subst e
    exact absurd (b5.mpr b3) h8
  · simp (disch := omega) only [upd_at, upd_off]; exact hC k hk
  · by_cases e : k = n
    · subst e
      simp (disch := omega) only [upd_at, upd_off]; exact ⟨trivial, hx, trivial, hy, trivial, hz⟩
    · simp (disch := omega) only [upd_at, upd_off]; exact hD k (by omega)
  · simp (disch := omega) only [upd_at, upd_off]; exact hP k hk
theorem PD_p {n nc np : Nat} {z5 z6 z7 z8 z9 z10 z11 z12 z13 D : Nat → Int32} {x y z : Int32} (h : PDf n nc np z5 z6 z7 z8 z9 z10 z11 z12 z13 D) (hn : np < 6) (hx : rg x 0 20) (hy : rg y 0 20) (hz : rg z 0 99) : PDf n nc (np + 1) (upd z5 14 (nI (np + 1))) z6 z7 z8 z9 z10 (upd z11 np x) (upd z12 np y) (upd z13 np z) (upd (upd (upd (upd D 5 (nI (np + 1))) (32 + np) x) (38 + np) y) (44 + np) z) := by
  obtain ⟨hb, h13, h12, h14, h11, h9, h10, hC, hD, hP⟩ := h
  refine ⟨⟨hb.1, hb.2.1, by omega⟩, ?_, ?_, ?_, ?_, ?_, ?_, fun k hk => ?_, fun k hk => ?_, fun k hk => ?_⟩
  · simp (disch := omega) only [upd_at, upd_off]; exact h13
  · simp (disch := omega) only [upd_at, upd_off]; exact h12
  · simp (disch := omega) only [upd_at, upd_off]; exact ⟨trivial, trivial⟩
  · simp (disch := omega) only [upd_at, upd_off]; exact h11
  · simp (disch := omega) only [upd_at, upd_off]; exact h9
  · simp (disch := omega) only [upd_at, upd_off]; exact h10
  · simp (disch := omega) only [upd_at, upd_off]; exact hC k hk
  · simp (disch := omega) only [upd_at, upd_off]; exact hD k hk
  · by_cases e : k = np
    · subst e
      simp (disch := omega) only [upd_at, upd_off]; exact ⟨⟨trivial, hx⟩, ⟨trivial, hy⟩, trivial, hz⟩
    · simp (disch := omega) only [upd_at, upd_off]; exact hP k (by omega)
def PDM (n nc np : Nat) (M : Mem) (D : Nat → Int32) : Prop := PDf n nc np (M 5) (M 6) (M 7) (M 8) (M 9) (M 10) (M 11) (M 12) (M 13) D
def addD (kd nc n np : Nat) (D r : Nat → Int32) : Nat → Int32 := match kd with
  | 0 => upd (upd (upd D 0 (r 0)) 1 (r 1)) 2 (r 2)
  | 1 => upd (upd (upd D 3 (nI (nc + 1))) (6 + nc) (r 0)) (10 + nc) (r 1)
  | 2 => upd (upd (upd (upd D 4 (nI (n + 1))) (14 + n) (r 0)) (20 + n) (r 1)) (26 + n) (r 2)
  | _ => upd (upd (upd (upd D 5 (nI (np + 1))) (32 + np) (r 0)) (38 + np) (r 1)) (44 + np) (r 2)
theorem knF_sg {x : Int32} {k : Nat} (h : knF x = some k) : (k = 0 ∧ x = 121) ∨ (k = 1 ∧ x = 99) ∨ (k = 2 ∧ x = 100) ∨ (k = 3 ∧ x = 112) := by
  unfold knF at h
  by_cases h1 : x = 121
  · rw [if_pos h1] at h; cases h; exact Or.inl ⟨rfl, h1⟩
  · rw [if_neg h1] at h
    by_cases h2 : x = 99
    · rw [if_pos h2] at h; cases h; exact Or.inr (Or.inl ⟨rfl, h2⟩)
    · rw [if_neg h2] at h
      by_cases h3 : x = 100
      · rw [if_pos h3] at h; cases h; exact Or.inr (Or.inr (Or.inl ⟨rfl, h3⟩))
      · rw [if_neg h3] at h
        by_cases h4 : x = 112
        · rw [if_pos h4] at h; cases h; exact Or.inr (Or.inr (Or.inr ⟨rfl, h4⟩))
        · rw [if_neg h4] at h; cases h
/-- a word that may stand -/
theorem wd_ok {st : Int32} {nc n np k : Nat} (h : wdF st nc n np (some k) = 0) : (k = 0 → st = 0) ∧ (¬ k = 0 → ¬ st = 0) ∧ (k = 1 → nc < 4) ∧ (k = 2 → n < 6) ∧ (k = 3 → np < 6) := by
  unfold wdF at h
  simp only at h
  by_cases h1 : st = 0 ∧ ¬ k = 0
  · rw [if_pos h1] at h; exact absurd h (by decide)
  · rw [if_neg h1] at h
    by_cases h2 : (k = 0 ∧ ¬ st = 0) ∨ (k = 1 ∧ ¬ nc < 4) ∨ (k = 2 ∧ ¬ n < 6) ∨ (k = 3 ∧ ¬ np < 6)
    · rw [if_pos h2] at h; exact absurd h (by decide)
    · refine ⟨fun e => Classical.byContradiction fun z => h2 (Or.inl ⟨e, z⟩), fun e z => h1 ⟨z, e⟩, fun e => Classical.byContradiction fun z => h2 (Or.inr (Or.inl ⟨e, z⟩)), fun e => Classical.byContradiction fun z => h2 (Or.inr (Or.inr (Or.inl ⟨e, z⟩))), fun e => Classical.byContradiction fun z => h2 (Or.inr (Or.inr (Or.inr ⟨e, z⟩)))⟩
theorem s4_k (d n nc np kd p e a c : Nat) (N : Mem) (D T r4 r : Nat → Int32) (hP : PDM n nc np N D) (hk4 : kd < 4) (hw : wdF (N 5 8) nc n np (some kd) = 0) (hm : nmF T c (loK kd) (hiK nc kd) (KK kd) 0 a r4 = (0, p, e, r)) : ∃ n' nc' np' NE, (∀ Q, Wp (d + 4) 4 0 [.ref 5, .int (nI kd), .int (r 0), .int (r 1), .int (r 2)] [] N Q ↔ Q none NE) ∧ (∀ k, (k < 5 ∨ 13 < k) → NE k = N k) ∧ PDM n' nc' np' NE (addD kd nc n np D r) := by
  obtain ⟨w0, w1, w2, w3, w4⟩ := wd_ok hw
  obtain ⟨-, hr⟩ := nm_rg T c (loK kd) (hiK nc kd) (KK kd) 0 a r4 p e r hm
  have hP' := hP
  obtain ⟨hb, h13, h12, h14, h11, h9, h10, hC, hD, hPl⟩ := hP
  have : kd = 0 ∨ kd = 1 ∨ kd = 2 ∨ kd = 3 := by omega
  rcases this with rfl | rfl | rfl | rfl
  · refine ⟨n, nc, np, _, fun Q => s4_0 (d + 3) (r 0) (r 1) (r 2) N Q (w0 rfl), fun k hk => ?_, ?_⟩
    · simp (disch := omega) only [upr_off]
    · exact PD_y hP' (hr 0 (by omega) (by decide)) (hr 1 (by omega) (by decide)) (hr 2 (by omega) (by decide))
  · refine ⟨n, nc + 1, np, _, fun Q => s4_1 (d + 3) nc (r 0) (r 1) (r 2) N Q (w2 rfl) h12.1, fun k hk => ?_, ?_⟩
    · simp (disch := omega) only [upr_off]
    · exact PD_c hP' (w2 rfl) (hr 0 (by omega) (by decide)) (hr 1 (by omega) (by decide))
  · have h0 := hr 0 (by omega) (by decide)
    have hx : ∃ c, c < nc ∧ r 0 = nI c := by
      apply rg_k (by omega)
      refine ⟨h0.1, ?_⟩
      have e2 : hiK nc 2 0 = nI nc - 1 := rfl
      have h2 := h0.2
      rw [e2] at h2
      by_cases z : nc = 0
      · subst z
        have : (nI 0 - 1 : Int32).toInt = -1 := by decide
        rw [this] at h2
        exact h2
      · have e3 : nI nc - 1 = nI (nc - 1) := pk_sub (a := nc) (b := 1) (by omega)
        rw [e3] at h2
        have := (rg_of (k := nc - 1) (lo := 0) (hi := (nc : Int) - 1) (by omega)).mpr ⟨by omega, by omega⟩
        exact Int.le_trans h2 this.2
    refine ⟨n + 1, nc, np, _, fun Q => s4_2 (d + 3) n (r 0) (r 1) (r 2) N Q (w3 rfl) h13.1, fun k hk => ?_, ?_⟩
    · simp (disch := omega) only [upr_off]
    · exact PD_d hP' (w3 rfl) (w1 (by decide)) hx (hr 1 (by omega) (by decide)) (hr 2 (by omega) (by decide))
  · refine ⟨n, nc, np + 1, _, fun Q => s4_3 (d + 3) np (r 0) (r 1) (r 2) N Q (w4 rfl) h14.1, fun k hk => ?_, ?_⟩
    · simp (disch := omega) only [upr_off]
    · exact PD_p hP' (w4 rfl) (hr 0 (by omega) (by decide)) (hr 1 (by omega) (by decide)) (hr 2 (by omega) (by decide))
theorem s116_k (d c a ro n nc np kd : Nat) (st sg : Int32) (T r4 : Nat → Int32) (N : Mem) (h : RM N T c a) (h18 : N 40 18 = sg) (hk : knF sg = some kd) (hw : wdF st nc n np (some kd) = 0) (hro : ro ≤ 6) (h1 : N 42 1 = nI ro) (hst : st = 0 ↔ ro = 0) (hnc : nc ≤ 4) (h3 : N 42 3 = nI nc) (h4 : N 42 4 = nI n) (h5 : N 42 5 = nI np) : (∀ cd p e r, nmF T c (loK kd) (hiK nc kd) (KK kd) 0 a r4 = (cd, p, e, r) → ¬ cd = 0 → ∃ R r42, R 17 = nI p ∧ R 21 = cd ∧ (∀ k, k < 16 → R k = N 40 k) ∧ ∀ Q, Wp (d + 5) 116 0 [.ref 40] [] N Q ↔ Q (some (.int 0)) (upr (upr N 40 R) 42 r42)) ∧ (∀ p e r, nmF T c (loK kd) (hiK nc kd) (KK kd) 0 a r4 = (0, p, e, r) → ¬ sgF T c (skN T c 240 e) = 59 → ∃ R r42, R 17 = nI (skN T c 240 e) ∧ R 21 = 1 ∧ (∀ k, k < 16 → R k = N 40 k) ∧ ∀ Q, Wp (d + 5) 116 0 [.ref 40] [] N Q ↔ Q (some (.int 0)) (upr (upr N 40 R) 42 r42)) ∧ (∀ p e r, nmF T c (loK kd) (hiK nc kd) (KK kd) 0 a r4 = (0, p, e, r) → sgF T c (skN T c 240 e) = 59 → ∃ R, RM (upr (upr N 40 R) 42 (addD kd nc n np (N 42) r)) T c (skN T c 240 e + 1) ∧ (∀ k, k < 16 → R k = N 40 k) ∧ ∀ Q, Wp (d + 5) 116 0 [.ref 40] [] N Q ↔ Q (some (.int 1)) (upr (upr N 40 R) 42 (addD kd nc n np (N 42) r))) := by
  obtain ⟨w0, w1, w2, w3, w4⟩ := wd_ok hw
  rcases knF_sg hk with ⟨rfl, rfl⟩ | ⟨rfl, rfl⟩ | ⟨rfl, rfl⟩ | ⟨rfl, rfl⟩
  · have r0 := hst.mp (w0 rfl)
    subst r0
    exact s116y (d + 2) c a nc T N r4 h h18 h1
  · have r0 : 0 < ro := Nat.pos_of_ne_zero (fun z => w1 (by decide) (hst.mpr z))
    obtain ⟨f1, f2, f3⟩ := s120 (d + 1) c a nc nc T N r4 h (w2 rfl) h3 h3 hnc
    refine ⟨fun cd p e r x y => ?_, fun p e r x y => ?_, fun p e r x y => ?_⟩
    · obtain ⟨R, r42, a1, a2, a3, a4⟩ := f1 cd p e r x y
      exact ⟨R, r42, a1, a2, a3, s116_c (d + 1) ro N _ 0 (Or.inl rfl) h18 r0 hro h1 a4⟩
    · obtain ⟨R, r42, a1, a2, a3, a4⟩ := f2 p e r x y
      exact ⟨R, r42, a1, a2, a3, s116_c (d + 1) ro N _ 0 (Or.inl rfl) h18 r0 hro h1 a4⟩
    · obtain ⟨R, a1, a3, a4⟩ := f3 p e r x y
      exact ⟨R, a1, a3, s116_c (d + 1) ro N _ 1 (Or.inr rfl) h18 r0 hro h1 a4⟩
  · have r0 : 0 < ro := Nat.pos_of_ne_zero (fun z => w1 (by decide) (hst.mpr z))
    obtain ⟨f1, f2, f3⟩ := s121 (d + 1) c a n nc T N r4 h (w3 rfl) h4 h3 hnc
    refine ⟨fun cd p e r x y => ?_, fun p e r x y => ?_, fun p e r x y => ?_⟩
    · obtain ⟨R, r42, a1, a2, a3, a4⟩ := f1 cd p e r x y
      exact ⟨R, r42, a1, a2, a3, s116_d (d + 1) ro N _ 0 (Or.inl rfl) h18 r0 hro h1 a4⟩
    · obtain ⟨R, r42, a1, a2, a3, a4⟩ := f2 p e r x y
      exact ⟨R, r42, a1, a2, a3, s116_d (d + 1) ro N _ 0 (Or.inl rfl) h18 r0 hro h1 a4⟩
    · obtain ⟨R, a1, a3, a4⟩ := f3 p e r x y
      exact ⟨R, a1, a3, s116_d (d + 1) ro N _ 1 (Or.inr rfl) h18 r0 hro h1 a4⟩
  · have r0 : 0 < ro := Nat.pos_of_ne_zero (fun z => w1 (by decide) (hst.mpr z))
    obtain ⟨f1, f2, f3⟩ := s122 (d + 1) c a np nc T N r4 h (w4 rfl) h5 h3 hnc
    refine ⟨fun cd p e r x y => ?_, fun p e r x y => ?_, fun p e r x y => ?_⟩
    · obtain ⟨R, r42, a1, a2, a3, a4⟩ := f1 cd p e r x y
      exact ⟨R, r42, a1, a2, a3, s116_p (d + 1) ro N _ 0 (Or.inl rfl) h18 r0 hro h1 a4⟩
    · obtain ⟨R, r42, a1, a2, a3, a4⟩ := f2 p e r x y
      exact ⟨R, r42, a1, a2, a3, s116_p (d + 1) ro N _ 0 (Or.inl rfl) h18 r0 hro h1 a4⟩
    · obtain ⟨R, a1, a3, a4⟩ := f3 p e r x y
      exact ⟨R, a1, a3, s116_p (d + 1) ro N _ 1 (Or.inr rfl) h18 r0 hro h1 a4⟩
