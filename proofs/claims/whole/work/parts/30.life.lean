/-! part 30: deeds and weeks keep both lives alike -/
theorem addI {a b : Int32} (h1 : -2147483648 ≤ a.toInt + b.toInt) (h2 : a.toInt + b.toInt < 2147483648) : (a + b).toInt = a.toInt + b.toInt := by
  rw [Int32.toInt_add]; exact Int.bmod_eq_of_le (by omega) (by omega)
theorem subI {a b : Int32} (h1 : -2147483648 ≤ a.toInt - b.toInt) (h2 : a.toInt - b.toInt < 2147483648) : (a - b).toInt = a.toInt - b.toInt := by
  rw [Int32.toInt_sub]; exact Int.bmod_eq_of_le (by omega) (by omega)
theorem t9 : (-9999 : Int32).toInt = -9999 ∧ (9999 : Int32).toInt = 9999 ∧ (0 : Int32).toInt = 0 ∧ (999999 : Int32).toInt = 999999 ∧ (1 : Int32).toInt = 1 := by decide
theorem bo_rg (x : Int32) : rg (bo x) (-9999) 9999 := by
  obtain ⟨t1, t2, -⟩ := t9
  unfold bo mx mn
  by_cases h1 : x < 9999
  · rw [if_pos h1]
    by_cases h2 : -9999 < x
    · rw [if_pos h2]
      rw [Int32.lt_iff_toInt_lt] at h1 h2
      exact ⟨by omega, by omega⟩
    · rw [if_neg h2]
      exact ⟨by omega, by omega⟩
  · rw [if_neg h1, if_pos (by decide)]
    exact ⟨by omega, by omega⟩
theorem bo_id {x : Int32} (h : rg x (-9999) 9999) : bo x = x := by
  obtain ⟨t1, t2, -⟩ := t9
  obtain ⟨a, b⟩ := h
  unfold bo mx mn
  by_cases h1 : x < 9999
  · rw [if_pos h1]
    by_cases h2 : -9999 < x
    · rw [if_pos h2]
    · rw [if_neg h2]
      rw [Int32.lt_iff_toInt_lt] at h2
      exact Int32.toInt_inj.mp (by omega)
  · rw [if_neg h1, if_pos (by decide)]
    rw [Int32.lt_iff_toInt_lt] at h1
    exact Int32.toInt_inj.mp (by omega)
theorem LR_is {n k : Nat} {l is ca ba g : Nat → Int32} (v : Int32) (hk : k < 6) (h : LR n l is ca ba g) : LR n l (upd is k v) ca ba (upd g k v) := by
  obtain ⟨a1, a2, a3, ⟨a4, a5, a6⟩, a7⟩ := h
  refine ⟨fun q hq => ?_, fun q hq => ?_, fun i hi j hj => ?_, ⟨?_, ?_, ?_⟩, a7⟩
  · by_cases e : q = k
    · rw [e, pk_us, pk_us]
    · rw [pk_un e, pk_un e]; exact a1 q hq
  · rw [pk_un (by omega)]; exact a2 q hq
  · rw [pk_un (by omega)]; exact a3 i hi j hj
  · rw [pk_un (by omega)]; exact a4
  · rw [pk_un (by omega)]; exact a5
  · rw [pk_un (by omega)]; exact a6
theorem LR_ca {n k : Nat} {l is ca ba g : Nat → Int32} {v : Int32} (hk : k < 6) (hv : rg v (-9999) 9999) (h : LR n l is ca ba g) : LR n l is (upd ca k v) ba (upd g (6 + k) v) := by
  obtain ⟨a1, a2, a3, ⟨a4, a5, a6⟩, a7, a8⟩ := h
  refine ⟨fun q hq => ?_, fun q hq => ?_, fun i hi j hj => ?_, ⟨?_, ?_, ?_⟩, fun q hq => ?_, a8⟩
  · rw [pk_un (by omega)]; exact a1 q hq
  · by_cases e : q = k
    · rw [e, pk_us, pk_us]
    · rw [pk_un e, pk_un (by omega)]; exact a2 q hq
  · rw [pk_un (by omega)]; exact a3 i hi j hj
  · rw [pk_un (by omega)]; exact a4
  · rw [pk_un (by omega)]; exact a5
  · rw [pk_un (by omega)]; exact a6
  · by_cases e : q = k
    · rw [e, pk_us]; exact hv
    · rw [pk_un e]; exact a7 q hq
theorem ix {i j a b : Nat} (hi : i < 6) (hj : j < 6) (ha : a < 6) (hb : b < 6) : i * 6 + j = a * 6 + b ↔ i = a ∧ j = b := by omega
theorem ix2 {i j a b : Nat} (hi : i < 6) (hj : j < 6) (ha : a < 6) (hb : b < 6) : 12 + 6 * i + j = 12 + 6 * a + b ↔ i = a ∧ j = b := by omega
/-- what is owed inside moves -/
theorem LR_ba {n i j : Nat} {l is ca ba g : Nat → Int32} {x : Int32} (hi : i < n) (hj : j < n) (hn : n ≤ 6) (hij : i ≠ j) (hx : 0 ≤ x.toInt) (hb : (ba (j * 6 + i)).toInt + x.toInt ≤ 9999) (h : LR n l is ca ba g) : LR n l is ca (upd (upd ba (j * 6 + i) (ba (j * 6 + i) + x)) (i * 6 + j) (ba (i * 6 + j) - x)) (upd (upd g (12 + 6 * i + j) (g (12 + 6 * i + j) + x)) (12 + 6 * j + i) (g (12 + 6 * j + i) - x)) := by
  obtain ⟨a1, a2, a3, ⟨a4, a5, a6⟩, a7, a8, a9, a10, a11⟩ := h
  have hi6 : i < 6 := by omega
  have hj6 : j < 6 := by omega
  have b1 := a9 j hj6 i hi6
  have b2 := a9 i hi6 j hj6
  have b3 := a8 i hi6 j hj6
  have e1 : (ba (j * 6 + i) + x).toInt = (ba (j * 6 + i)).toInt + x.toInt := addI (by have := b1.1; omega) (by omega)
  have e2 : (ba (i * 6 + j) - x).toInt = (ba (i * 6 + j)).toInt - x.toInt := subI (by have := b1.2; omega) (by have := b2.2; omega)
  have hne : j * 6 + i ≠ i * 6 + j := by omega
  have V : ∀ p, p < 6 → ∀ q, q < 6 → (upd (upd ba (j * 6 + i) (ba (j * 6 + i) + x)) (i * 6 + j) (ba (i * 6 + j) - x)) (p * 6 + q) = if p = i ∧ q = j then ba (i * 6 + j) - x else if p = j ∧ q = i then ba (j * 6 + i) + x else ba (p * 6 + q) := fun p hp q hq => by
    by_cases h1 : p = i ∧ q = j
    · rw [if_pos h1, h1.1, h1.2, pk_us]
    · rw [if_neg h1, pk_un (fun z => h1 ((ix hp hq hi6 hj6).mp z))]
      by_cases h2 : p = j ∧ q = i
      · rw [if_pos h2, h2.1, h2.2, pk_us]
      · rw [if_neg h2, pk_un (fun z => h2 ((ix hp hq hj6 hi6).mp z))]
  refine ⟨fun q hq => ?_, fun q hq => ?_, fun p hp q hq => ?_, ⟨?_, ?_, ?_⟩, a7, fun p hp q hq => ?_, fun p hp q hq => ?_, fun p hp q hq hpq => ?_, a11⟩
  · rw [pk_un (by omega), pk_un (by omega)]; exact a1 q hq
  · rw [pk_un (by omega), pk_un (by omega)]; exact a2 q hq
  · rw [V q hq p hp]
    by_cases h1 : q = i ∧ p = j
    · rw [if_pos h1, h1.1, h1.2, pk_us, a3 j hj6 i hi6]
    · rw [if_neg h1, pk_un (fun z => h1 (((ix2 hp hq hj6 hi6).mp z).symm))]
      by_cases h2 : q = j ∧ p = i
      · rw [if_pos h2, h2.1, h2.2, pk_us, a3 i hi6 j hj6]
      · rw [if_neg h2, pk_un (fun z => h2 (((ix2 hp hq hi6 hj6).mp z).symm))]
        exact a3 p hp q hq
  · rw [pk_un (by omega), pk_un (by omega)]; exact a4
  · rw [pk_un (by omega), pk_un (by omega)]; exact a5
  · rw [pk_un (by omega), pk_un (by omega)]; exact a6
  · rw [V p hp q hq, V q hq p hp]
    by_cases h1 : p = i ∧ q = j
    · rw [if_pos h1, if_neg (by omega), if_pos ⟨h1.2, h1.1⟩, e1, e2]; omega
    · rw [if_neg h1]
      by_cases h2 : p = j ∧ q = i
      · rw [if_pos h2, if_pos ⟨h2.2, h2.1⟩, e1, e2]; omega
      · rw [if_neg h2, if_neg (by omega), if_neg (by omega)]; exact a8 p hp q hq
  · rw [V p hp q hq]
    by_cases h1 : p = i ∧ q = j
    · rw [if_pos h1]
      refine ⟨?_, ?_⟩
      · rw [e2]; omega
      · rw [e2]; have := b2.2; omega
    · rw [if_neg h1]
      by_cases h2 : p = j ∧ q = i
      · rw [if_pos h2]
        refine ⟨?_, ?_⟩
        · rw [e1]; have := b1.1; omega
        · rw [e1]; omega
      · rw [if_neg h2]; exact a9 p hp q hq
  · rw [V p hp q hq, if_neg (by omega), if_neg (by omega)]
    exact a10 p hp q hq hpq
theorem LR_mv {n i j : Nat} {l is ca ba g : Nat → Int32} {x : Int32} (hi : i < n) (hj : j < n) (hn : n ≤ 6) (hij : i ≠ j) (hx : 0 ≤ x.toInt) (hc : -9999 ≤ (ca i).toInt - x.toInt) (hb : (ba (j * 6 + i)).toInt + x.toInt ≤ 9999) (h : LR n l is ca ba g) : LR n l is (upd (upd ca i (bo (ca i + -x))) j (bo (ca j + x))) (upd (upd ba (j * 6 + i) (ba (j * 6 + i) + x)) (i * 6 + j) (ba (i * 6 + j) - x)) (mvF g i j x) := by
  have hi6 : i < 6 := by omega
  have hj6 : j < 6 := by omega
  have c1 := h.2.2.2.2.1 i hi6
  have e1 : bo (ca i + -x) = ca i - x := by
    rw [← Int32.sub_eq_add_neg]
    have e : (ca i - x).toInt = (ca i).toInt - x.toInt := subI (by omega) (by have := c1.2; omega)
    refine bo_id ⟨?_, ?_⟩
    · rw [e]; exact hc
    · rw [e]; have := c1.2; omega
  have g1 := h.2.1 i hi6
  have g2 := h.2.1 j hj6
  have h1 := LR_ca hi6 (v := ca i - x) (by rw [← e1]; exact bo_rg _) h
  have h2 := LR_ca hj6 (bo_rg (ca j + x)) h1
  have h3 := LR_ba hi hj hn hij hx hb h2
  rw [e1]
  unfold mvF
  rw [g1, g2]
  rw [pk_un (show 12 + 6 * i + j ≠ 6 + j by omega), pk_un (show 12 + 6 * i + j ≠ 6 + i by omega), pk_un (show 12 + 6 * j + i ≠ 6 + j by omega), pk_un (show 12 + 6 * j + i ≠ 6 + i by omega)] at h3
  exact h3
theorem upd_cm {f : Nat → Int32} {a b : Nat} {x y : Int32} (h : a ≠ b) : upd (upd f a x) b y = upd (upd f b y) a x := by
  funext q
  by_cases h1 : q = a
  · rw [h1, pk_un h, pk_us, pk_us]
  · by_cases h2 : q = b
    · rw [h2, pk_us, pk_un (fun z => h z.symm), pk_us]
    · rw [pk_un h2, pk_un h1, pk_un h1, pk_un h2]
theorem LR_up {n i j : Nat} {l is ca ba g : Nat → Int32} {x : Int32} (hi : i < n) (hj : j < n) (hn : n ≤ 6) (hij : i ≠ j) (hx : 0 ≤ x.toInt) (hc : -9999 ≤ (ca j).toInt - x.toInt) (hb : (ba (i * 6 + j)).toInt + x.toInt ≤ 9999) (h : LR n l is ca ba g) : LR n l is (upd (upd ca j (bo (ca j + -x))) i (bo (ca i + x))) (upd (upd ba (j * 6 + i) (ba (j * 6 + i) + -x)) (i * 6 + j) (ba (i * 6 + j) - -x)) (mvF g j i x) := by
  have := LR_mv hj hi hn (fun z => hij z.symm) hx hc hb h
  rw [upd_cm (show i * 6 + j ≠ j * 6 + i by omega)] at this
  rw [show ba (j * 6 + i) + -x = ba (j * 6 + i) - x from (Int32.sub_eq_add_neg _ _).symm, show ba (i * 6 + j) - -x = ba (i * 6 + j) + x by rw [Int32.sub_eq_add_neg, Int32.neg_neg]]
  exact this
theorem LR_set {n k : Nat} {l is ca ba g : Nat → Int32} {x : Int32} (hk : k < 6) (hx : 0 ≤ x.toInt) (hc : x.toInt ≤ (ca k).toInt) (h : LR n l is ca ba g) : LR n l (upd is k 3) (upd ca k (bo (ca k + -x))) ba (upd (upd g (6 + k) (g (6 + k) - x)) k 3) := by
  have c1 := h.2.2.2.2.1 k hk
  have e : (ca k - x).toInt = (ca k).toInt - x.toInt := subI (by omega) (by have := c1.2; omega)
  have r : rg (ca k - x) (-9999) 9999 := ⟨by rw [e]; omega, by rw [e]; have := c1.2; omega⟩
  rw [← Int32.sub_eq_add_neg, bo_id r, h.2.1 k hk]
  exact LR_is 3 hk (LR_ca hk r h)
