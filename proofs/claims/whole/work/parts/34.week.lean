/-! part 34: a week keeps both lives alike -/
theorem lod_eq {n L0 : Nat} {is y g : Nat → Int32} {L x : Int32} (hL : L = nI L0) (hL0 : L0 ≤ 99) (hy : y 0 = L) (hg : ∀ k, k < n → g k = is k) (h50 : g 50 = x) (hx : rg x 0 999999) : ∀ i, i ≤ n → lodF y g i = lod1 is L x i ∧ rg (lod1 is L x i) 0 999999
  | 0, _ => ⟨h50, hx⟩
  | i + 1, hi => by
    obtain ⟨e, r⟩ := lod_eq hL hL0 hy hg h50 hx i (by omega)
    rw [lodF, lod1, e, hg i (by omega), hy]
    obtain ⟨v, hv, ev⟩ := rg_nI (n := 999999) r
    rw [ev, hL]
    by_cases h : is i = 1
    · rw [if_pos h, if_pos h, nI_add]
      have em : mn 999999 (nI (v + L0)) = nI (min 999999 (v + L0)) := mnN (a := 999999) (by omega) (by omega)
      rw [em]
      exact ⟨rfl, (rg_of (by omega)).mpr ⟨by omega, by omega⟩⟩
    · rw [if_neg h, if_neg h, Int32.add_zero]
      have em : mn 999999 (nI v) = nI (min 999999 v) := mnN (a := 999999) (by omega) (by omega)
      rw [em, show min 999999 v = v by omega]
      exact ⟨rfl, (rg_of (by omega)).mpr ⟨by omega, by omega⟩⟩
def cbN (t : Nat) : Nat → Nat
  | 0 => 0
  | i + 1 => cbN t i + (if t.testBit i = true then 1 else 0)
theorem cb_pc : ∀ n, n ≤ 6 → ∀ t, t < 2 ^ n → cbN t n = pcN t := by
  intro n hn
  have : n = 0 ∨ n = 1 ∨ n = 2 ∨ n = 3 ∨ n = 4 ∨ n = 5 ∨ n = 6 := by omega
  rcases this with rfl | rfl | rfl | rfl | rfl | rfl | rfl <;> decide +kernel
theorem cb_le (t : Nat) : ∀ n, cbN t n ≤ n
  | 0 => by rw [cbN]; omega
  | n + 1 => by
    have := cb_le t n
    rw [cbN]
    split <;> omega
theorem arr_eq (t a : Nat) : ∀ n, arr1 t (nI a) n = nI (a + cbN t n)
  | 0 => rfl
  | n + 1 => by
    rw [arr1, cbN, arr_eq t a n]
    by_cases h : t.testBit n = true
    · rw [if_pos h, if_pos h]; exact nI_1 _
    · rw [if_neg h, if_neg h]; rfl
theorem bit_lt {n k : Nat} (hk : k < n) : 2 ^ k < 2 ^ n := Nat.pow_lt_pow_right (by omega) hk
theorem and_lt {m q n : Nat} (h : m < 2 ^ n) : m &&& q < 2 ^ n := Nat.lt_of_le_of_lt Nat.and_le_left h
theorem takN_lt (f : Nat → Int32) {n : Nat} : ∀ b m s, s < 2 ^ n → takN f n b m s < 2 ^ n
  | 0, m, s, hs => by rw [takN]; exact hs
  | b + 1, m, s, hs => by
    rw [takN]
    split
    · exact hs
    · split
      · exact hs
      · rename_i k hk
        exact takN_lt f b _ _ (Nat.or_lt_two_pow hs (bit_lt (bstN_lt hk)))
theorem caF_eq {y g is ca h : Nat → Int32} {L : Int32} {k : Nat} (h1 : g k = is k) (h2 : g (6 + k) = ca k) (h3 : y (26 + k) = h k) (h4 : y 0 = L) : caF y g k = caG is ca h L k := by
  unfold caF caG
  rw [h2, h3, h4]
  simp only [h1]
theorem caG_rg {is ca h : Nat → Int32} {L : Int32} {k : Nat} (hr : rg (ca k) (-9999) 9999) : rg (caG is ca h L k) (-9999) 9999 := by
  unfold caG
  split
  · exact bo_rg _
  · exact hr
theorem LR_week {n B w L0 : Nat} {l is ca ba g y h s : Nat → Int32} {L : Int32} (hn : n ≤ 6) (hL : L = nI L0) (hL0 : L0 ≤ 99) (hy0 : y 0 = L) (hyh : ∀ k, k < n → y (26 + k) = h k) (hys : ∀ k, k < n → y (20 + k) = s k) (hw : w < 9060) (h3 : l 3 = nI w) (H : LR n l is ca ba g) : LR n (wkL l is s L n B) (wkI is ca h s L n B) (ca1 is ca h L n) ba (wkF y g n B) ∧ wkL l is s L n B 3 = nI (w + 1) := by
  obtain ⟨a1, a2, a3, ⟨a4, a5, a6⟩, a7, a8, a9, a10, ⟨w', a, hw', ha, e3, e4⟩, a12⟩ := H
  have ew : w' = w := (nI_eq2 (by omega) (by omega)).mp (e3.symm.trans h3)
  subst ew
  have eT : takN (fun q => y (20 + q)) n B (whoN g 0 n) 0 = takN s n B (whoN is 0 n) 0 := by
    rw [whoN_c (fun k hk => a1 k (by omega))]
    exact takN_c (fun k hk => hys k hk) B _ _
  have hT : takN s n B (whoN is 0 n) 0 < 2 ^ n := takN_lt s B _ 0 (Nat.two_pow_pos n)
  generalize hTT : takN s n B (whoN is 0 n) 0 = T at eT hT
  have eL := lod_eq (n := n) hL hL0 hy0 (fun k hk => a1 k (by omega)) a6 a12 n (by omega)
  have ec := cb_pc n hn T hT
  have hcl := cb_le T n
  unfold wkL wkI wkF
  rw [hTT, eT, e4, arr_eq, ← a5.symm, ec]
  have c3 : ∀ X Y Z : Int32, upd (upd (upd l 5 X) 4 Y) 3 Z 3 = Z ∧ upd (upd (upd l 5 X) 4 Y) 3 Z 4 = Y ∧ upd (upd (upd l 5 X) 4 Y) 3 Z 5 = X := fun X Y Z => ⟨rfl, rfl, rfl⟩
  have e31 : l 3 + 1 = nI (w' + 1) := by rw [h3]; exact nI_1 _
  refine ⟨⟨fun k hk => ?_, fun k hk => ?_, fun i hi j hj => ?_, ⟨?_, ?_, ?_⟩, fun k hk => ?_, a8, a9, a10, ⟨w' + 1, a + pcN T, by omega, by omega, ?_, ?_⟩, ?_⟩, ?_⟩
  · rw [pk_un (by omega)]
    show w2F T _ n k = _
    unfold w2F is2
    by_cases hkn : k < n
    · rw [if_pos hkn, if_pos hkn]
      unfold stF is1
      rw [if_pos hkn, pk_un (by omega), pk_un (show 6 + k ≠ 49 by omega), w1_lo (by omega)]
      have ek : w1F y g n (6 + k) = ca1 is ca h L n k := by
        unfold w1F ca1
        rw [if_pos (by omega), if_pos hkn, show 6 + k - 6 = k by omega]
        exact caF_eq (a1 k hk) (a2 k hk) (hyh k hkn) hy0
      rw [ek, a1 k hk]
      by_cases hb : T.testBit k = true
      · rw [if_pos hb, if_neg (fun z => absurd z.1 (by rw [if_pos hb]; decide)), if_pos hb]
      · simp only [if_neg hb]
    · rw [if_neg hkn, if_neg hkn]
      unfold is1
      rw [if_neg hkn, pk_un (by omega), w1_lo hk]
      exact a1 k hk
  · rw [pk_un (by omega)]
    show w2F T _ n (6 + k) = _
    rw [w2_hi (by omega), pk_un (by omega)]
    unfold w1F ca1
    by_cases hkn : k < n
    · rw [if_pos (by omega), if_pos hkn, show 6 + k - 6 = k by omega]
      exact caF_eq (a1 k hk) (a2 k hk) (hyh k hkn) hy0
    · rw [if_neg (by omega), if_neg (by omega), if_neg hkn]
      exact a2 k hk
  · rw [pk_un (by omega), w2_hi (by omega), pk_un (by omega)]
    unfold w1F
    rw [if_neg (by omega), if_neg (by omega)]
    exact a3 i hi j hj
  · rw [pk_us, (c3 _ _ _).1, a4]
  · rw [pk_un (by omega), w2_hi (by omega), pk_us, (c3 _ _ _).2.1, e4, nI_add]
    have em : mn 999999 (nI (a + pcN T)) = nI (min 999999 (a + pcN T)) := mnN (a := 999999) (by omega) (by omega)
    rw [em, show min 999999 (a + pcN T) = a + pcN T by omega]
  · rw [pk_un (by omega), w2_hi (by omega), pk_un (by omega), (c3 _ _ _).2.2, w1_50 hn]
    exact eL.1
  · unfold ca1
    split
    · exact caG_rg (a7 k hk)
    · exact a7 k hk
  · rw [(c3 _ _ _).1]; exact e31
  · rw [(c3 _ _ _).2.1]
  · rw [(c3 _ _ _).2.2]; exact eL.2
  · rw [(c3 _ _ _).1]; exact e31
