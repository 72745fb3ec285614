/-! THE START: both heaps tell alike -/
theorem lw_start : zk_RR zk_lpe lw_c0 lw_m0 := by
  refine ⟨0, 0, 0, 0, 0, 0, ⟨⟨by decide, by decide⟩, by decide +kernel, fun i h => absurd h (Nat.not_lt_zero i), fun i h => absurd h (Nat.not_lt_zero i), by decide +kernel, ?_, fun i h => absurd h (Nat.not_lt_zero i), by decide +kernel⟩, ⟨by decide, by decide +kernel, fun i h => absurd h (Nat.not_lt_zero i)⟩, ⟨by decide, by decide +kernel, by decide +kernel, fun i h => absurd h (Nat.not_lt_zero i)⟩, ⟨by decide +kernel, by decide +kernel, Or.inl (by decide +kernel)⟩, ⟨by decide, by decide +kernel, by decide +kernel, fun i h => absurd h (Nat.not_lt_zero i)⟩, ⟨0, by decide, by decide +kernel, by decide +kernel, fun i h => absurd h (Nat.not_lt_zero i)⟩, ?_, ?_⟩
  · have h : ∀ i, i < 8 → lw_c0.1 17 i = -2 ∧ lw_c0.1 18 i = -2 := by decide +kernel
    exact fun i _ hi => h i hi
  · have h : ∀ s, s < 6 → lw_c0.1 (46 + 2 * s) 0 = 0 ∧ lw_m0.1 32 s = -1 := by decide +kernel
    exact fun s hs => Or.inl (h s hs)
  · exact ⟨none, by decide +kernel, by decide +kernel⟩
