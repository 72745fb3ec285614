/-! CALL: shift -/
section ZKV
variable {h : zk_H} {x y z : Int32}
theorem jX8_isRowOf {K : Int32 → zk_H → Prop} {s : Nat} (hs : s < 6) (H : K (zk_b (h.1 (46 + 2 * s) 0 = 2 ∧ h.1 (46 + 2 * s) 2 = x)) h) : pX8_isRowOf [.retAddr (46 + 2 * s), .int x] h K := by
  have c := (zk_shelves hs).2.1
  refine ⟨rfl, zk_bk hX8_isRowOf (bX8_isRowOf_0 ?_)⟩
  refine ⟨c, fun q => ⟨Or.inl rfl, ?_⟩, fun q => ⟨c, fun q2 => ⟨Or.inl rfl, ?_⟩, fun q2 => ⟨Or.inr rfl, ?_⟩⟩⟩
  · rw [zk_b_f fun z => q z.1] at H; exact H
  · rw [zk_b_f fun z => q2 z.2] at H; exact H
  · rw [zk_b_t ⟨q, q2⟩] at H; exact H
theorem nI_sub {a b : Nat} (h : b ≤ a) : nI a - nI b = nI (a - b) := by
  have : nI a = nI (a - b) + nI b := by rw [nI_add, Nat.sub_add_cancel h]
  rw [this, Int32.add_sub_cancel]
theorem jX8_hasPlaces {K : Int32 → zk_H → Prop} {s n : Nat} (hs : s < 6) (hn : n ≤ 60) (e : h.1 (46 + 2 * s) 3 = nI n) (H : K (zk_b (0 ≤ x.toInt ∧ 0 ≤ y.toInt ∧ x.toInt + y.toInt ≤ (n : Int))) h) : pX8_hasPlaces [.retAddr (46 + 2 * s), .int x, .int y] h K := by
  have c := (zk_shelves hs).2.1
  have h0 : (0 : Int32).toInt = 0 := rfl
  have en := nI_toInt (n := n) (by omega)
  refine ⟨rfl, zk_bk hX8_hasPlaces (bX8_hasPlaces_0 ?_)⟩
  rw [e]
  refine ⟨fun q => ⟨Or.inl rfl, ?_⟩, fun q => ⟨fun q2 => ⟨Or.inl rfl, ?_⟩, fun q2 => ⟨c, fun q3 => ⟨Or.inl rfl, ?_⟩, fun q3 => ⟨c, ?_⟩⟩⟩⟩
  · rw [zk_b_f fun z => by simp only [Int32.lt_iff_toInt_lt] at q; omega] at H; exact H
  · rw [zk_b_f fun z => by simp only [Int32.lt_iff_toInt_lt] at q2; omega] at H; exact H
  · rw [zk_b_f fun z => by simp only [Int32.lt_iff_toInt_lt, en] at q3; omega] at H; exact H
  · obtain ⟨a, ha, ea⟩ := nI_of q
    obtain ⟨b, hb, eb⟩ := nI_of q2
    subst ea
    subst eb
    have ea := nI_toInt ha
    have eb := nI_toInt hb
    have han : a ≤ n := by
      rw [nI_ltI (by omega) ha] at q3
      omega
    rw [nI_sub han]
    refine ⟨fun q4 => ⟨Or.inl rfl, ?_⟩, fun q4 => ⟨Or.inr rfl, ?_⟩⟩
    · rw [nI_ltI (by omega) hb] at q4
      rw [zk_b_f fun z => by omega] at H; exact H
    · rw [nI_ltI (by omega) hb] at q4
      rw [zk_b_t (by omega)] at H; exact H
theorem zk_idx3 {s a i : Nat} : (((60 : Int32) * nI s) + nI a) + nI i = nI (60 * s + a + i) := by rw [zk_idx, nI_add]
theorem l_shift_188 {K : Int32 → zk_H → Prop} {m0 : zk_H} {s a r b N : Nat} (hs : s < 6) (hr : r < 6) (ha : a + N ≤ 60) (hb : b + N ≤ 60) (ok : 60 * r + b ≤ 60 * s + a ∨ 60 * s + a + N ≤ 60 * r + b) (next : ∀ h, h.1 = m0.1 → (∀ k, k ≠ 34 → h.2 k = m0.2 k) → (∀ j, h.2 34 j = if 60 * r + b ≤ j ∧ j < 60 * r + b + N then m0.2 34 (60 * s + a + (j - (60 * r + b))) else m0.2 34 j) → K (nI N) h) :
    ∀ (n i : Nat), i + n = N → ∀ h, h.1 = m0.1 → (∀ k, k ≠ 34 → h.2 k = m0.2 k) → (∀ j, h.2 34 j = if 60 * r + b ≤ j ∧ j < 60 * r + b + i then m0.2 34 (60 * s + a + (j - (60 * r + b))) else m0.2 34 j) → (zk_X zk_D (zk_lkl lkX12) zk_mt (zk_cxl [(162, zk_iP pX12_isShelf), (255, zk_iP pX12_isRow)]) (some .int) (zk_at cdX12_shift) (zk_qi K)) 188 [some (.ref 0), some (.int (nI s)), some (.int (nI a)), some (.int (nI r)), some (.int (nI b)), some (.int (nI N)), some (.int (nI i))] [] h := by
  intro n
  induction n with
  | zero =>
    intro i hi h h1 h2 h3
    refine zk_bk hX12_shift (bX12_shift_188 ?_)
    have hiN : i = N := by omega
    subst hiN
    exact ⟨fun _ => next h h1 h2 h3, fun q => absurd ((nI_leI (by omega) (by omega)).mpr (Nat.le_refl _)) q⟩
  | succ n ih =>
    intro i hi h h1 h2 h3
    refine zk_bk hX12_shift (bX12_shift_188 ?_)
    refine ⟨fun q => absurd q (nI_ge (by omega) (by omega)), fun _ => ?_⟩
    rw [zk_idx3, zk_idx3, nI_clamp (n := 60 * s + a + i) (by omega), nI_clamp (n := 60 * r + b + i) (by omega), nI_1]
    refine ⟨vp_in_nI (by omega) (by decide), vp_in_nI (by omega) (by decide), ih (i + 1) (by omega) _ h1 (fun k hk => ?_) (fun j => ?_)⟩
    · have a := h2 k hk
      funext zz
      simp [zk_sl, hk, a]
    · have a1 := h3 (60 * s + a + i)
      rw [if_neg (by omega)] at a1
      have a2 := h3 j
      by_cases e : j = 60 * r + b + i
      · rw [if_pos (by omega)]
        simp only [zk_sl, e, if_true, a1]
        rw [show 60 * r + b + i - (60 * r + b) = i by omega]
      · have : (60 * r + b ≤ j ∧ j < 60 * r + b + (i + 1)) = (60 * r + b ≤ j ∧ j < 60 * r + b + i) := propext ⟨fun q => ⟨q.1, by omega⟩, fun q => ⟨q.1, by omega⟩⟩
        simp only [this]
        rw [← a2]
        simp [zk_sl, e]
theorem l_shift_142 {K : Int32 → zk_H → Prop} {m0 : zk_H} {s a r b N : Nat} (hs : s < 6) (hr : r < 6) (ha : a + N ≤ 60) (hb : b + N ≤ 60) (ok : 60 * s + a ≤ 60 * r + b) (next : ∀ h, h.1 = m0.1 → (∀ k, k ≠ 34 → h.2 k = m0.2 k) → (∀ j, h.2 34 j = if 60 * r + b ≤ j ∧ j < 60 * r + b + N then m0.2 34 (60 * s + a + (j - (60 * r + b))) else m0.2 34 j) → K (nI N) h) :
    ∀ (n : Nat), n ≤ N → ∀ h, h.1 = m0.1 → (∀ k, k ≠ 34 → h.2 k = m0.2 k) → (∀ j, h.2 34 j = if 60 * r + b + n ≤ j ∧ j < 60 * r + b + N then m0.2 34 (60 * s + a + (j - (60 * r + b))) else m0.2 34 j) → (zk_X zk_D (zk_lkl lkX12) zk_mt (zk_cxl [(162, zk_iP pX12_isShelf), (255, zk_iP pX12_isRow)]) (some .int) (zk_at cdX12_shift) (zk_qi K)) 142 [some (.ref 0), some (.int (nI s)), some (.int (nI a)), some (.int (nI r)), some (.int (nI b)), some (.int (nI N)), some (.int (nI n - 1))] [] h := by
  intro n
  induction n with
  | zero =>
    intro hi h h1 h2 h3
    refine zk_bk hX12_shift (bX12_shift_142 ?_)
    exact ⟨fun _ => next h h1 h2 h3, fun q => absurd (by decide) q⟩
  | succ n ih =>
    intro hi h h1 h2 h3
    refine zk_bk hX12_shift (bX12_shift_142 ?_)
    rw [nI_pred]
    refine ⟨fun q => absurd q (nI_pos (by omega)), fun _ => ?_⟩
    rw [zk_idx3, zk_idx3, nI_clamp (n := 60 * s + a + n) (by omega), nI_clamp (n := 60 * r + b + n) (by omega), show nI n + (-1 : Int32) = nI n - 1 from (Int32.sub_eq_add_neg _ _).symm]
    refine ⟨vp_in_nI (by omega) (by decide), vp_in_nI (by omega) (by decide), ih (by omega) _ h1 (fun k hk => ?_) (fun j => ?_)⟩
    · have a := h2 k hk
      funext zz
      simp [zk_sl, hk, a]
    · have a1 := h3 (60 * s + a + n)
      rw [if_neg (by omega)] at a1
      have a2 := h3 j
      by_cases e : j = 60 * r + b + n
      · rw [if_pos (by omega)]
        simp only [zk_sl, e, if_true, a1]
        rw [show 60 * r + b + n - (60 * r + b) = n by omega]
      · have : (60 * r + b + n ≤ j ∧ j < 60 * r + b + N) = (60 * r + b + (n + 1) ≤ j ∧ j < 60 * r + b + N) := propext ⟨fun q => ⟨by omega, q.2⟩, fun q => ⟨by omega, q.2⟩⟩
        simp only [this]
        rw [← a2]
        simp [zk_sl, e]
/-- a sum of two ints as longs, against a small number -/
theorem zk_lsum {a b n : Nat} (ha : a < 2 ^ 31) (hb : b < 2 ^ 31) (hn : n ≤ 60) : ((nI n).toInt64 < (nI a).toInt64 + (nI b).toInt64) ↔ n < a + b := by
  rw [nI_l ha, nI_l hb, nI_l (by omega), Int64.lt_iff_toInt_lt, Int64.toInt_add, lN_toInt ha, lN_toInt hb, lN_toInt (by omega), Int.bmod_eq_of_le (by omega) (by omega)]
  omega
end ZKV
