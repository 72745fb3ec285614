/-! WHAT BOTH HEAPS TELL ALIKE: c the class' heap, m the reference's -/
def zk_b (p : Prop) [Decidable p] : Int32 := if p then 1 else 0
theorem zk_b_t {p : Prop} [Decidable p] (h : p) : zk_b p = 1 := if_pos h
theorem zk_b_f {p : Prop} [Decidable p] (h : ¬ p) : zk_b p = 0 := if_neg h
theorem zk_b_0 {p : Prop} [Decidable p] : zk_b p = 0 ↔ ¬ p := by
  by_cases h : p
  · rw [zk_b_t h]; simp [h]
  · rw [zk_b_f h]; simp [h]
theorem zk_b_1 {p : Prop} [Decidable p] : zk_b p = 1 ↔ p := by
  by_cases h : p
  · rw [zk_b_t h]; simp [h]
  · rw [zk_b_f h]; simp [h]
theorem zk_b_or {p : Prop} [Decidable p] : zk_b p = 0 ∨ zk_b p = 1 := by
  by_cases h : p
  · exact Or.inr (zk_b_t h)
  · exact Or.inl (zk_b_f h)
theorem zk_b_c {p q : Prop} [Decidable p] [Decidable q] (h : p ↔ q) : zk_b p = zk_b q := by
  by_cases hp : p
  · rw [zk_b_t hp, zk_b_t (h.mp hp)]
  · rw [zk_b_f hp, zk_b_f (fun z => hp (h.mpr z))]
/-- an index out of an int -/
theorem zk_ix {x : Int32} {n : Nat} (hn : n < 2 ^ 31) (h0 : 0 ≤ x) (h1 : x < nI n) : ∃ j, j < n ∧ x = nI j := by
  have h2 : (0 : Int32).toInt ≤ x.toInt := Int32.le_iff_toInt_le.mp h0
  have h3 : x.toInt < (nI n).toInt := Int32.lt_iff_toInt_lt.mp h1
  rw [nI_toInt hn] at h3
  have h4 : (0 : Int32).toInt = 0 := rfl
  rw [h4] at h2
  refine ⟨x.toInt.toNat, by omega, ?_⟩
  rw [← Int32.toInt_inj, nI_toInt (by omega)]
  omega
theorem zk_xi {n j : Nat} (hn : n < 2 ^ 31) (hj : j < n) : 0 ≤ nI j ∧ nI j < nI n := ⟨nI_pos' (by omega), nI_lt hj hn⟩
theorem zk_ixs {x : Int32} {n : Nat} (hn : n < 2 ^ 31) : (0 ≤ x ∧ x < nI n) ↔ ∃ j, j < n ∧ x = nI j := ⟨fun h => zk_ix hn h.1 h.2, fun ⟨_, hj, e⟩ => e ▸ zk_xi hn hj⟩
def zk_off (P N : Nat) (c m : zk_H) : Prop := (P ≤ 8 ∧ N ≤ 6) ∧ (c.1 1 1 = nI P ∧ c.1 1 2 = nI N ∧ m.1 0 0 = nI P ∧ m.1 0 7 = nI N) ∧
  (∀ i, i < P → c.1 3 i = m.1 1 i ∧ c.1 4 i = m.1 2 i ∧ c.1 5 i = m.1 3 i ∧ c.1 6 i = m.1 4 i ∧ c.1 7 i = m.1 5 i ∧ c.1 8 i = m.1 6 i) ∧
  (∀ i, i < N → c.1 9 i = m.1 8 i ∧ c.1 10 i = m.1 9 i ∧ c.1 11 i = m.1 10 i ∧ c.1 12 i = m.1 11 i ∧ c.1 16 i = m.1 7 i ∧ c.1 17 i = m.1 12 i ∧ c.1 18 i = m.1 13 i) ∧
  (c.1 13 0 = m.1 14 0 ∧ c.1 14 0 = m.1 14 1 ∧ c.1 15 0 = m.1 14 2) ∧
  (∀ i, N ≤ i → i < 8 → c.1 17 i = -2 ∧ c.1 18 i = -2) ∧
  ((∀ i, i < N → -1 ≤ m.1 9 i ∧ ∃ j, j < P ∧ m.1 7 i = nI j) ∧ 0 ≤ m.1 14 0 ∧ m.1 14 0 ≤ 12)
/-- a change that is kept: what, whose, the value -/
def zk_rec (P N : Nat) (w j : Nat) (v : Int32) : Prop := ((w < 6 ∧ j < P) ∨ (6 ≤ w ∧ w < 10 ∧ j < N) ∨ (10 ≤ w ∧ w < 13 ∧ j = 0)) ∧ (w = 7 → -1 ≤ v) ∧ (w = 10 → 0 ≤ v ∧ v ≤ 12)
def zk_chg (P N D U : Nat) (c m : zk_H) : Prop := D + U ≤ 40 ∧ (c.1 19 5 = nI D ∧ c.1 19 6 = nI U ∧ m.1 0 42 = nI D ∧ m.1 0 41 = nI (D + U)) ∧
  (∀ i, i < D + U → c.1 20 i = m.1 29 (4 * i) ∧ c.1 21 i = m.1 29 (4 * i + 1) ∧ c.1 22 i = m.1 29 (4 * i + 2) ∧ c.1 23 i = m.1 29 (4 * i + 3) ∧ ∃ w j, c.1 20 i = nI j ∧ c.1 21 i = nI w ∧ zk_rec P N w j (c.1 22 i) ∧ zk_rec P N w j (c.1 23 i))
def zk_tap (T : Nat) (c m : zk_H) : Prop := T ≤ 120 ∧ c.1 24 1 = nI T ∧ m.1 0 17 = nI T ∧ ∀ i, i < T → c.1 25 i = m.1 15 i ∧ ∃ j, j < 256 ∧ m.1 15 i = nI j
def zk_dee (N : Nat) (c m : zk_H) : Prop := (c.1 40 1 = m.1 0 16 ∧ c.1 40 2 = m.1 26 0 ∧ c.1 40 3 = m.1 26 2 ∧ c.1 40 4 = m.1 26 3 ∧ m.1 26 1 = m.1 26 2 + m.1 26 3) ∧ c.1 40 5 = m.1 0 36 ∧
  (m.1 0 36 = 0 ∨ (m.1 0 36 = 1 ∧ (c.1 40 6 = m.1 0 38 ∧ c.1 40 7 = m.1 28 0 ∧ c.1 40 8 = m.1 28 2 ∧ c.1 40 9 = m.1 28 3 ∧ m.1 28 1 = m.1 28 2 + m.1 28 3) ∧ ∃ O, O ≤ N ∧ m.1 0 37 = nI O ∧ (∀ i, i < O → c.1 41 i = m.1 27 i) ∧ ∀ i, O ≤ i → i < 6 → c.1 41 i = -2))
def zk_bod (B : Nat) (c m : zk_H) : Prop := B ≤ 50 ∧ c.1 42 1 = nI B ∧ m.1 0 44 = nI B ∧ (∀ i, i < B → c.1 43 i = m.1 30 i ∧ ∃ j, j < 8 ∧ m.1 30 i = nI j)
def zk_tra (c m : zk_H) : Prop := ∃ Z, Z < 1000 ∧ c.1 42 3 = nI Z ∧ m.1 0 46 = nI Z ∧ ∀ i, i < Z → i < 24 → c.1 44 i = m.1 31 i
def zk_she (B s : Nat) (c m : zk_H) : Prop := (c.1 (46 + 2 * s) 0 = 0 ∧ m.1 32 s = -1) ∨ (c.1 (46 + 2 * s) 0 = 1 ∧ ∃ j, j < B ∧ c.1 (46 + 2 * s) 1 = nI j ∧ m.1 32 s = nI (10 + j)) ∨
  (c.1 (46 + 2 * s) 0 = 2 ∧ ∃ t z, t < 5 ∧ z ≤ 60 ∧ c.1 (46 + 2 * s) 2 = nI t ∧ m.1 32 s = nI t ∧ c.1 (46 + 2 * s) 3 = nI z ∧ m.1 33 s = nI z ∧ ∀ i, i < 60 → c.2 (47 + 2 * s) i = m.2 34 (60 * s + i))
