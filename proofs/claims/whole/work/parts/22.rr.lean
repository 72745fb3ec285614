/-! THE RELATION OF BOTH HEAPS, whole; what leaves it as it is -/
abbrev zk_lp : Type := Int32 → (Nat → Int32) → Int32 → Int32 → (Nat → Int32) → (Nat → Int32) → (Nat → Int32) → (Nat → Int32) → Prop
def zk_R8 (lp : zk_lp) (P N D U T B : Nat) (c m : zk_H) : Prop := zk_off P N c m ∧ zk_chg P N D U c m ∧ zk_tap T c m ∧ zk_dee N c m ∧ zk_bod B c m ∧ zk_tra c m ∧ (∀ s, s < 6 → zk_she B s c m) ∧ lp (c.1 28 1) (c.1 29) (m.1 0 19) (m.1 0 20) (m.1 16) (m.1 17) (m.1 18) (m.1 19)
def zk_RR (lp : zk_lp) (c m : zk_H) : Prop := ∃ P N D U T B, zk_R8 lp P N D U T B c m
theorem zk_b_n {p : Prop} [Decidable p] (h : ¬ zk_b p = 0) : p := Decidable.not_not.mp (fun q => h (zk_b_0.mpr q))
theorem zk_si_ne {h : zk_H} {k a j : Nat} {v : Int32} (hk : k ≠ a) : (zk_si h a j v).1 k = h.1 k := funext fun z => by simp [zk_si, hk]
theorem zk_si_at {h : zk_H} {a j j' : Nat} {v : Int32} : (zk_si h a j v).1 a j' = if j' = j then v else h.1 a j' := by simp [zk_si]
theorem zk_si_l {h : zk_H} {a j : Nat} {v : Int32} : (zk_si h a j v).2 = h.2 := rfl
theorem zk_sl_i {h : zk_H} {a j : Nat} {v : Int64} : (zk_sl h a j v).1 = h.1 := rfl
section ZKR
variable {lp : zk_lp} {P N D U T B s : Nat} {c m c' m' : zk_H}
theorem zk_off.cg (h : zk_off P N c m) (hc : ∀ k ∈ [1, 3, 4, 5, 6, 7, 8, 9, 10, 11, 12, 13, 14, 15, 16, 17, 18], c'.1 k = c.1 k) (hm0 : m'.1 0 0 = m.1 0 0 ∧ m'.1 0 7 = m.1 0 7) (hm : ∀ k ∈ [1, 2, 3, 4, 5, 6, 7, 8, 9, 10, 11, 12, 13, 14], m'.1 k = m.1 k) : zk_off P N c' m' := by
  simp only [List.forall_mem_cons, List.not_mem_nil, false_implies, implies_true, and_true] at hc hm
  obtain ⟨d1, d3, d4, d5, d6, d7, d8, d9, d10, d11, d12, d13, d14, d15, d16, d17, d18⟩ := hc
  obtain ⟨e1, e2, e3, e4, e5, e6, e7, e8, e9, e10, e11, e12, e13, e14⟩ := hm
  unfold zk_off at h ⊢
  rw [d1, d3, d4, d5, d6, d7, d8, d9, d10, d11, d12, d13, d14, d15, d16, d17, d18, e1, e2, e3, e4, e5, e6, e7, e8, e9, e10, e11, e12, e13, e14, hm0.1, hm0.2]
  exact h
theorem zk_chg.cg (h : zk_chg P N D U c m) (hc : ∀ k ∈ [20, 21, 22, 23], c'.1 k = c.1 k) (h5 : c'.1 19 5 = c.1 19 5 ∧ c'.1 19 6 = c.1 19 6) (hm0 : m'.1 0 42 = m.1 0 42 ∧ m'.1 0 41 = m.1 0 41) (hm : m'.1 29 = m.1 29) : zk_chg P N D U c' m' := by
  simp only [List.forall_mem_cons, List.not_mem_nil, false_implies, implies_true, and_true] at hc
  obtain ⟨d1, d2, d3, d4⟩ := hc
  unfold zk_chg at h ⊢
  rw [d1, d2, d3, d4, h5.1, h5.2, hm0.1, hm0.2, hm]
  exact h
theorem zk_tap.cg (h : zk_tap T c m) (hc : c'.1 24 1 = c.1 24 1) (h5 : c'.1 25 = c.1 25) (hm0 : m'.1 0 17 = m.1 0 17) (hm : m'.1 15 = m.1 15) : zk_tap T c' m' := by
  unfold zk_tap at h ⊢
  rw [hc, h5, hm0, hm]
  exact h
theorem zk_dee.cg (h : zk_dee N c m) (hc : c'.1 40 = c.1 40) (h5 : c'.1 41 = c.1 41) (hm0 : m'.1 0 16 = m.1 0 16 ∧ m'.1 0 36 = m.1 0 36 ∧ m'.1 0 37 = m.1 0 37 ∧ m'.1 0 38 = m.1 0 38) (hm : m'.1 26 = m.1 26 ∧ m'.1 27 = m.1 27 ∧ m'.1 28 = m.1 28) : zk_dee N c' m' := by
  unfold zk_dee at h ⊢
  rw [hc, h5, hm0.1, hm0.2.1, hm0.2.2.1, hm0.2.2.2, hm.1, hm.2.1, hm.2.2]
  exact h
theorem zk_bod.cg (h : zk_bod B c m) (hc : c'.1 42 1 = c.1 42 1) (h5 : c'.1 43 = c.1 43) (hm0 : m'.1 0 44 = m.1 0 44) (hm : m'.1 30 = m.1 30) : zk_bod B c' m' := by
  unfold zk_bod at h ⊢
  rw [hc, h5, hm0, hm]
  exact h
theorem zk_tra.cg (h : zk_tra c m) (hc : c'.1 42 3 = c.1 42 3) (h5 : c'.1 44 = c.1 44) (hm0 : m'.1 0 46 = m.1 0 46) (hm : m'.1 31 = m.1 31) : zk_tra c' m' := by
  unfold zk_tra at h ⊢
  rw [hc, h5, hm0, hm]
  exact h
theorem zk_she.cg (h : zk_she B s c m) (hc : c'.1 (46 + 2 * s) = c.1 (46 + 2 * s)) (h5 : c'.2 (47 + 2 * s) = c.2 (47 + 2 * s)) (hm : m'.1 32 s = m.1 32 s ∧ m'.1 33 s = m.1 33 s) (hl : m'.2 34 = m.2 34) : zk_she B s c' m' := by
  unfold zk_she at h ⊢
  rw [hc, h5, hm.1, hm.2, hl]
  exact h
/-- the law's part stays -/
theorem zk_lpcg (h : lp (c.1 28 1) (c.1 29) (m.1 0 19) (m.1 0 20) (m.1 16) (m.1 17) (m.1 18) (m.1 19)) (hc : c'.1 28 = c.1 28 ∧ c'.1 29 = c.1 29) (hm0 : m'.1 0 19 = m.1 0 19 ∧ m'.1 0 20 = m.1 0 20) (hm : m'.1 16 = m.1 16 ∧ m'.1 17 = m.1 17 ∧ m'.1 18 = m.1 18 ∧ m'.1 19 = m.1 19) : lp (c'.1 28 1) (c'.1 29) (m'.1 0 19) (m'.1 0 20) (m'.1 16) (m'.1 17) (m'.1 18) (m'.1 19) := by
  rw [hc.1, hc.2, hm0.1, hm0.2, hm.1, hm.2.1, hm.2.2.1, hm.2.2.2]
  exact h
end ZKR
