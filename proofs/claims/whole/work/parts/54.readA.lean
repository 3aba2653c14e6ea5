/-! part 54: reading: the reference's clauses -/
/-- the reference's rows before a number is read from a -/
def RM (N : Mem) (T : Nat → Int32) (c a : Nat) : Prop := c ≤ 240 ∧ N 40 10 = nI c ∧ a ≤ c ∧ N 40 16 = nI a ∧ N 48 = T
theorem n118 (d c a pl : Nat) (lo hi : Int32) (T : Nat → Int32) (N : Mem) (h : RM N T c a) (hpl : pl < 50) : (cdF lo hi (dgF T c 240 0 (skN T c 240 a) 0).1 (dgF T c 240 0 (skN T c 240 a) 0).2.2 = 0 → ∃ R, RM (upr (upr N 40 R) 42 (upd (N 42) pl (dgF T c 240 0 (skN T c 240 a) 0).2.2)) T c (dgF T c 240 0 (skN T c 240 a) 0).2.1 ∧ (∀ k, k < 16 → R k = N 40 k) ∧ ∀ Q, Wp (d + 2) 118 0 [.ref 40, .int (nI pl), .int lo, .int hi] [] N Q ↔ Q (some (.int 1)) (upr (upr N 40 R) 42 (upd (N 42) pl (dgF T c 240 0 (skN T c 240 a) 0).2.2))) ∧ (¬ cdF lo hi (dgF T c 240 0 (skN T c 240 a) 0).1 (dgF T c 240 0 (skN T c 240 a) 0).2.2 = 0 → ∃ R, R 17 = nI (skN T c 240 a) ∧ R 21 = cdF lo hi (dgF T c 240 0 (skN T c 240 a) 0).1 (dgF T c 240 0 (skN T c 240 a) 0).2.2 ∧ (∀ k, k < 16 → R k = N 40 k) ∧ ∀ Q, Wp (d + 2) 118 0 [.ref 40, .int (nI pl), .int lo, .int hi] [] N Q ↔ Q (some (.int 0)) (upr N 40 R)) := by
  obtain ⟨hc, h10, ha, h16, hT⟩ := h
  subst hT
  have hle := dg_e (T := N 48) ha
  generalize hq : skN (N 48) c 240 a = q at hle ⊢
  generalize hd : dgF (N 48) c 240 0 q 0 = t at hle ⊢
  obtain ⟨n, e, v⟩ := t
  obtain ⟨s1, s2⟩ := s118 d c a pl lo hi N hc h10 ha h16 hpl q n e v hq hd
  refine ⟨fun z => ⟨rS (N 40) (nI e) (nI q) 48 (nI n) v, ⟨hc, h10, hle, rfl, rfl⟩, fun k hk => ?_, s1 z⟩, s2⟩
  unfold rS
  rw [if_neg (by omega), if_neg (by omega), if_neg (by omega), if_neg (by omega), if_neg (by omega)]
theorem n119 (d c a : Nat) (T : Nat → Int32) (N : Mem) (h : RM N T c a) : (sgF T c (skN T c 240 a) = 59 → ∃ R, RM (upr N 40 R) T c (skN T c 240 a + 1) ∧ (∀ k, k < 16 → R k = N 40 k) ∧ ∀ Q, Wp (d + 2) 119 0 [.ref 40] [] N Q ↔ Q (some (.int 1)) (upr N 40 R)) ∧ (¬ sgF T c (skN T c 240 a) = 59 → ∃ R, R 17 = nI (skN T c 240 a) ∧ R 21 = 1 ∧ (∀ k, k < 16 → R k = N 40 k) ∧ ∀ Q, Wp (d + 2) 119 0 [.ref 40] [] N Q ↔ Q (some (.int 0)) (upr N 40 R)) := by
  obtain ⟨hc, h10, ha, h16, hT⟩ := h
  subst hT
  obtain ⟨s1, s2⟩ := s119 d c a N hc h10 ha h16 _ rfl
  refine ⟨fun z => ⟨rS (N 40) (nI (skN (N 48) c 240 a + 1)) (nI (skN (N 48) c 240 a)) 59 0 0, ⟨hc, h10, ?_, rfl, rfl⟩, fun k hk => ?_, s1 z⟩, s2⟩
  · have : skN (N 48) c 240 a < c := by
      apply Classical.byContradiction
      intro w
      rw [sg_end (by omega)] at z
      exact absurd z (by decide)
    omega
  · unfold rS
    rw [if_neg (by omega), if_neg (by omega), if_neg (by omega), if_neg (by omega), if_neg (by omega)]
