/-! small questions: what they answer -/
theorem zk_pm {n : Nat} (h : n < 2 ^ 31) : (nI n - 1).toInt = (n : Int) - 1 := by
  cases n with
  | zero => rfl
  | succ n =>
    rw [nI_pred, nI_toInt (by omega)]
    omega
section ZKP
variable {K : Int32 → zk_H → Prop} {h : zk_H} {x y z : Int32} {P N B : Nat}
theorem jX4_isPerson (H : K (zk_b (0 ≤ x ∧ x < h.1 1 1)) h) : pX4_isPerson [.ref 1, .int x] h K := by
  refine ⟨rfl, zk_bk hX4_isPerson (bX4_isPerson_0 ?_)⟩
  ((repeat' (first | exact Or.inl rfl | exact Or.inr rfl | exact zk_b_or | (show ¬ (_ : Int32) = _; decide) | refine And.intro ?_ ?_ | intro _)) <;> (first | (rw [zk_b_t (by ((try simp only [zk_b_0, zk_b_1] at *); simp only [Int32.lt_iff_toInt_lt, Int32.le_iff_toInt_le, ← Int32.toInt_inj, Int32.reduceToInt] at *; omega))] at H; exact H) | (rw [zk_b_f (by ((try simp only [zk_b_0, zk_b_1] at *); simp only [Int32.lt_iff_toInt_lt, Int32.le_iff_toInt_le, ← Int32.toInt_inj, Int32.reduceToInt] at *; omega))] at H; exact H)))
theorem jX4_isCard (H : K (zk_b (0 ≤ x ∧ x < h.1 1 2)) h) : pX4_isCard [.ref 1, .int x] h K := by
  refine ⟨rfl, zk_bk hX4_isCard (bX4_isCard_0 ?_)⟩
  ((repeat' (first | exact Or.inl rfl | exact Or.inr rfl | exact zk_b_or | (show ¬ (_ : Int32) = _; decide) | refine And.intro ?_ ?_ | intro _)) <;> (first | (rw [zk_b_t (by ((try simp only [zk_b_0, zk_b_1] at *); simp only [Int32.lt_iff_toInt_lt, Int32.le_iff_toInt_le, ← Int32.toInt_inj, Int32.reduceToInt] at *; omega))] at H; exact H) | (rw [zk_b_f (by ((try simp only [zk_b_0, zk_b_1] at *); simp only [Int32.lt_iff_toInt_lt, Int32.le_iff_toInt_le, ← Int32.toInt_inj, Int32.reduceToInt] at *; omega))] at H; exact H)))
theorem jX4_isSecret (H : K (zk_b (0 ≤ x ∧ x < 8)) h) : pX4_isSecret [.ref 1, .int x] h K := by
  refine ⟨rfl, zk_bk hX4_isSecret (bX4_isSecret_0 ?_)⟩
  ((repeat' (first | exact Or.inl rfl | exact Or.inr rfl | exact zk_b_or | (show ¬ (_ : Int32) = _; decide) | refine And.intro ?_ ?_ | intro _)) <;> (first | (rw [zk_b_t (by ((try simp only [zk_b_0, zk_b_1] at *); simp only [Int32.lt_iff_toInt_lt, Int32.le_iff_toInt_le, ← Int32.toInt_inj, Int32.reduceToInt] at *; omega))] at H; exact H) | (rw [zk_b_f (by ((try simp only [zk_b_0, zk_b_1] at *); simp only [Int32.lt_iff_toInt_lt, Int32.le_iff_toInt_le, ← Int32.toInt_inj, Int32.reduceToInt] at *; omega))] at H; exact H)))
theorem jX4_isSet (H : K (zk_b (0 ≤ x ∧ x < (1 : Int32) <<< (h.1 1 2 &&& 31))) h) : pX4_isSet [.ref 1, .int x] h K := by
  refine ⟨rfl, zk_bk hX4_isSet (bX4_isSet_0 ?_)⟩
  ((repeat' (first | exact Or.inl rfl | exact Or.inr rfl | exact zk_b_or | (show ¬ (_ : Int32) = _; decide) | refine And.intro ?_ ?_ | intro _)) <;> (first | (rw [zk_b_t (by ((try simp only [zk_b_0, zk_b_1] at *); simp only [Int32.lt_iff_toInt_lt, Int32.le_iff_toInt_le, ← Int32.toInt_inj, Int32.reduceToInt] at *; omega))] at H; exact H) | (rw [zk_b_f (by ((try simp only [zk_b_0, zk_b_1] at *); simp only [Int32.lt_iff_toInt_lt, Int32.le_iff_toInt_le, ← Int32.toInt_inj, Int32.reduceToInt] at *; omega))] at H; exact H)))
theorem jX4_isCardAndPerson (H : K (zk_b (0 ≤ x ∧ (0 ≤ x / 10 ∧ x / 10 < h.1 1 2) ∧ (0 ≤ x - x / 10 * 10 ∧ x - x / 10 * 10 < h.1 1 1))) h) : pX4_isCardAndPerson [.ref 1, .int x] h K := by
  refine ⟨rfl, zk_bk hX4_isCardAndPerson (bX4_isCardAndPerson_0 ?_)⟩
  refine ⟨fun c1 => ⟨Or.inl rfl, ?_⟩, fun c1 => ⟨by decide, jX4_isCard ?_⟩⟩
  · ((repeat' (first | exact Or.inl rfl | exact Or.inr rfl | exact zk_b_or | (show ¬ (_ : Int32) = _; decide) | refine And.intro ?_ ?_ | intro _)) <;> (first | (rw [zk_b_t (by ((try simp only [zk_b_0, zk_b_1] at *); simp only [Int32.lt_iff_toInt_lt, Int32.le_iff_toInt_le, ← Int32.toInt_inj, Int32.reduceToInt] at *; omega))] at H; exact H) | (rw [zk_b_f (by ((try simp only [zk_b_0, zk_b_1] at *); simp only [Int32.lt_iff_toInt_lt, Int32.le_iff_toInt_le, ← Int32.toInt_inj, Int32.reduceToInt] at *; omega))] at H; exact H)))
  refine ⟨fun c2 => ⟨Or.inl rfl, ?_⟩, fun c2 => ⟨by decide, jX4_isPerson ?_⟩⟩
  · ((repeat' (first | exact Or.inl rfl | exact Or.inr rfl | exact zk_b_or | (show ¬ (_ : Int32) = _; decide) | refine And.intro ?_ ?_ | intro _)) <;> (first | (rw [zk_b_t (by ((try simp only [zk_b_0, zk_b_1] at *); simp only [Int32.lt_iff_toInt_lt, Int32.le_iff_toInt_le, ← Int32.toInt_inj, Int32.reduceToInt] at *; omega))] at H; exact H) | (rw [zk_b_f (by ((try simp only [zk_b_0, zk_b_1] at *); simp only [Int32.lt_iff_toInt_lt, Int32.le_iff_toInt_le, ← Int32.toInt_inj, Int32.reduceToInt] at *; omega))] at H; exact H)))
  ((repeat' (first | exact Or.inl rfl | exact Or.inr rfl | exact zk_b_or | (show ¬ (_ : Int32) = _; decide) | refine And.intro ?_ ?_ | intro _)) <;> (first | (rw [zk_b_t (by ((try simp only [zk_b_0, zk_b_1] at *); simp only [Int32.lt_iff_toInt_lt, Int32.le_iff_toInt_le, ← Int32.toInt_inj, Int32.reduceToInt] at *; omega))] at H; exact H) | (rw [zk_b_f (by ((try simp only [zk_b_0, zk_b_1] at *); simp only [Int32.lt_iff_toInt_lt, Int32.le_iff_toInt_le, ← Int32.toInt_inj, Int32.reduceToInt] at *; omega))] at H; exact H)))
theorem jX4_isTwoPeople (H : K (zk_b (0 ≤ x ∧ (0 ≤ x / 10 ∧ x / 10 < h.1 1 1) ∧ (0 ≤ x - x / 10 * 10 ∧ x - x / 10 * 10 < h.1 1 1) ∧ ¬ x / 10 = x - x / 10 * 10)) h) : pX4_isTwoPeople [.ref 1, .int x] h K := by
  refine ⟨rfl, zk_bk hX4_isTwoPeople (bX4_isTwoPeople_0 ?_)⟩
  refine ⟨fun c1 => ⟨Or.inl rfl, ?_⟩, fun c1 => ⟨by decide, jX4_isPerson ?_⟩⟩
  · ((repeat' (first | exact Or.inl rfl | exact Or.inr rfl | exact zk_b_or | (show ¬ (_ : Int32) = _; decide) | refine And.intro ?_ ?_ | intro _)) <;> (first | (rw [zk_b_t (by ((try simp only [zk_b_0, zk_b_1] at *); simp only [Int32.lt_iff_toInt_lt, Int32.le_iff_toInt_le, ← Int32.toInt_inj, Int32.reduceToInt] at *; omega))] at H; exact H) | (rw [zk_b_f (by ((try simp only [zk_b_0, zk_b_1] at *); simp only [Int32.lt_iff_toInt_lt, Int32.le_iff_toInt_le, ← Int32.toInt_inj, Int32.reduceToInt] at *; omega))] at H; exact H)))
  refine ⟨fun c2 => ⟨Or.inl rfl, ?_⟩, fun c2 => ⟨by decide, jX4_isPerson ?_⟩⟩
  · ((repeat' (first | exact Or.inl rfl | exact Or.inr rfl | exact zk_b_or | (show ¬ (_ : Int32) = _; decide) | refine And.intro ?_ ?_ | intro _)) <;> (first | (rw [zk_b_t (by ((try simp only [zk_b_0, zk_b_1] at *); simp only [Int32.lt_iff_toInt_lt, Int32.le_iff_toInt_le, ← Int32.toInt_inj, Int32.reduceToInt] at *; omega))] at H; exact H) | (rw [zk_b_f (by ((try simp only [zk_b_0, zk_b_1] at *); simp only [Int32.lt_iff_toInt_lt, Int32.le_iff_toInt_le, ← Int32.toInt_inj, Int32.reduceToInt] at *; omega))] at H; exact H)))
  ((repeat' (first | exact Or.inl rfl | exact Or.inr rfl | exact zk_b_or | (show ¬ (_ : Int32) = _; decide) | refine And.intro ?_ ?_ | intro _)) <;> (first | (rw [zk_b_t (by ((try simp only [zk_b_0, zk_b_1] at *); simp only [Int32.lt_iff_toInt_lt, Int32.le_iff_toInt_le, ← Int32.toInt_inj, Int32.reduceToInt] at *; omega))] at H; exact H) | (rw [zk_b_f (by ((try simp only [zk_b_0, zk_b_1] at *); simp only [Int32.lt_iff_toInt_lt, Int32.le_iff_toInt_le, ← Int32.toInt_inj, Int32.reduceToInt] at *; omega))] at H; exact H)))
theorem jX4_isWay (H : K (zk_b (0 ≤ x ∧ x / 100 < 9 ∧ x / 10 - x / 10 / 10 * 10 < 5 ∧ x - x / 10 * 10 < 2)) h) : pX4_isWay [.ref 1, .int x] h K := by
  refine ⟨rfl, zk_bk hX4_isWay (bX4_isWay_0 ?_)⟩
  ((repeat' (first | exact Or.inl rfl | exact Or.inr rfl | exact zk_b_or | (show ¬ (_ : Int32) = _; decide) | refine And.intro ?_ ?_ | intro _)) <;> (first | (rw [zk_b_t (by ((try simp only [zk_b_0, zk_b_1] at *); simp only [Int32.lt_iff_toInt_lt, Int32.le_iff_toInt_le, ← Int32.toInt_inj, Int32.reduceToInt] at *; omega))] at H; exact H) | (rw [zk_b_f (by ((try simp only [zk_b_0, zk_b_1] at *); simp only [Int32.lt_iff_toInt_lt, Int32.le_iff_toInt_le, ← Int32.toInt_inj, Int32.reduceToInt] at *; omega))] at H; exact H)))
theorem jX11_isZeroOrOne (H : K (zk_b (x = 0 ∨ x = 1)) h) : pX11_isZeroOrOne [.int x] h K := by
  refine ⟨rfl, zk_bk hX11_isZeroOrOne (bX11_isZeroOrOne_0 ?_)⟩
  ((repeat' (first | exact Or.inl rfl | exact Or.inr rfl | exact zk_b_or | (show ¬ (_ : Int32) = _; decide) | refine And.intro ?_ ?_ | intro _)) <;> (first | (rw [zk_b_t (by ((try simp only [zk_b_0, zk_b_1] at *); simp only [Int32.lt_iff_toInt_lt, Int32.le_iff_toInt_le, ← Int32.toInt_inj, Int32.reduceToInt] at *; omega))] at H; exact H) | (rw [zk_b_f (by ((try simp only [zk_b_0, zk_b_1] at *); simp only [Int32.lt_iff_toInt_lt, Int32.le_iff_toInt_le, ← Int32.toInt_inj, Int32.reduceToInt] at *; omega))] at H; exact H)))
theorem jX0_isKind (H : K (zk_b (0 ≤ x ∧ x < 8)) h) : pX0_isKind [.ref 42, .int x] h K := by
  refine ⟨rfl, zk_bk hX0_isKind (bX0_isKind_0 ?_)⟩
  ((repeat' (first | exact Or.inl rfl | exact Or.inr rfl | exact zk_b_or | (show ¬ (_ : Int32) = _; decide) | refine And.intro ?_ ?_ | intro _)) <;> (first | (rw [zk_b_t (by ((try simp only [zk_b_0, zk_b_1] at *); simp only [Int32.lt_iff_toInt_lt, Int32.le_iff_toInt_le, ← Int32.toInt_inj, Int32.reduceToInt] at *; omega))] at H; exact H) | (rw [zk_b_f (by ((try simp only [zk_b_0, zk_b_1] at *); simp only [Int32.lt_iff_toInt_lt, Int32.le_iff_toInt_le, ← Int32.toInt_inj, Int32.reduceToInt] at *; omega))] at H; exact H)))
theorem jX0_isBody (H : K (zk_b (0 ≤ x ∧ x < h.1 42 1)) h) : pX0_isBody [.ref 42, .int x] h K := by
  refine ⟨rfl, zk_bk hX0_isBody (bX0_isBody_0 ?_)⟩
  ((repeat' (first | exact Or.inl rfl | exact Or.inr rfl | exact zk_b_or | (show ¬ (_ : Int32) = _; decide) | refine And.intro ?_ ?_ | intro _)) <;> (first | (rw [zk_b_t (by ((try simp only [zk_b_0, zk_b_1] at *); simp only [Int32.lt_iff_toInt_lt, Int32.le_iff_toInt_le, ← Int32.toInt_inj, Int32.reduceToInt] at *; omega))] at H; exact H) | (rw [zk_b_f (by ((try simp only [zk_b_0, zk_b_1] at *); simp only [Int32.lt_iff_toInt_lt, Int32.le_iff_toInt_le, ← Int32.toInt_inj, Int32.reduceToInt] at *; omega))] at H; exact H)))
theorem jX12_within (H : K (zk_b (y ≤ x ∧ x ≤ z)) h) : pX12_within [.int x, .int y, .int z] h K := by
  refine ⟨rfl, zk_bk hX12_within (bX12_within_0 ?_)⟩
  ((repeat' (first | exact Or.inl rfl | exact Or.inr rfl | exact zk_b_or | (show ¬ (_ : Int32) = _; decide) | refine And.intro ?_ ?_ | intro _)) <;> (first | (rw [zk_b_t (by ((try simp only [zk_b_0, zk_b_1] at *); simp only [Int32.lt_iff_toInt_lt, Int32.le_iff_toInt_le, ← Int32.toInt_inj, Int32.reduceToInt] at *; omega))] at H; exact H) | (rw [zk_b_f (by ((try simp only [zk_b_0, zk_b_1] at *); simp only [Int32.lt_iff_toInt_lt, Int32.le_iff_toInt_le, ← Int32.toInt_inj, Int32.reduceToInt] at *; omega))] at H; exact H)))
theorem jX12_isOne (hP : h.1 0 0 = nI P) (h8 : P ≤ 8) (H : K (zk_b (0 ≤ x ∧ x < nI P)) h) : pX12_isOne [.ref 0, .int x] h K := by
  refine ⟨rfl, zk_bk hX12_isOne (bX12_isOne_0 ?_)⟩
  refine jX12_within ⟨zk_b_or, ?_⟩
  rw [hP, zk_b_c (q := 0 ≤ x ∧ x < nI P) (by
    have e1 := zk_pm (n := P) (by omega)
    have e2 := nI_toInt (n := P) (by omega)
    simp only [Int32.lt_iff_toInt_lt, Int32.le_iff_toInt_le, Int32.reduceToInt, e1, e2]
    omega)]
  exact H
theorem jX12_isCard (hN : h.1 0 7 = nI N) (h8 : N ≤ 8) (H : K (zk_b (0 ≤ x ∧ x < nI N)) h) : pX12_isCard [.ref 0, .int x] h K := by
  refine ⟨rfl, zk_bk hX12_isCard (bX12_isCard_0 ?_)⟩
  refine jX12_within ⟨zk_b_or, ?_⟩
  rw [hN, zk_b_c (q := 0 ≤ x ∧ x < nI N) (by
    have e1 := zk_pm (n := N) (by omega)
    have e2 := nI_toInt (n := N) (by omega)
    simp only [Int32.lt_iff_toInt_lt, Int32.le_iff_toInt_le, Int32.reduceToInt, e1, e2]
    omega)]
  exact H
theorem jX12_isCardOf (hP : h.1 0 0 = nI P) (hP8 : P ≤ 8) (hN : h.1 0 7 = nI N) (hN8 : N ≤ 8) (H : K (zk_b (0 ≤ x ∧ (0 ≤ x / 10 ∧ x / 10 < nI N) ∧ (0 ≤ x - x / 10 * 10 ∧ x - x / 10 * 10 < nI P))) h) : pX12_isCardOf [.ref 0, .int x] h K := by
  refine ⟨rfl, zk_bk hX12_isCardOf (bX12_isCardOf_0 ?_)⟩
  refine ⟨fun c1 => ⟨Or.inl rfl, ?_⟩, fun c1 => ⟨by decide, jX12_isCard hN hN8 ?_⟩⟩
  · ((repeat' (first | exact Or.inl rfl | exact Or.inr rfl | exact zk_b_or | (show ¬ (_ : Int32) = _; decide) | refine And.intro ?_ ?_ | intro _)) <;> (first | (rw [zk_b_t (by ((try simp only [zk_b_0, zk_b_1] at *); simp only [Int32.lt_iff_toInt_lt, Int32.le_iff_toInt_le, ← Int32.toInt_inj, Int32.reduceToInt] at *; omega))] at H; exact H) | (rw [zk_b_f (by ((try simp only [zk_b_0, zk_b_1] at *); simp only [Int32.lt_iff_toInt_lt, Int32.le_iff_toInt_le, ← Int32.toInt_inj, Int32.reduceToInt] at *; omega))] at H; exact H)))
  refine ⟨fun c2 => ⟨Or.inl rfl, ?_⟩, fun c2 => ⟨by decide, jX12_isOne hP hP8 ?_⟩⟩
  · ((repeat' (first | exact Or.inl rfl | exact Or.inr rfl | exact zk_b_or | (show ¬ (_ : Int32) = _; decide) | refine And.intro ?_ ?_ | intro _)) <;> (first | (rw [zk_b_t (by ((try simp only [zk_b_0, zk_b_1] at *); simp only [Int32.lt_iff_toInt_lt, Int32.le_iff_toInt_le, ← Int32.toInt_inj, Int32.reduceToInt] at *; omega))] at H; exact H) | (rw [zk_b_f (by ((try simp only [zk_b_0, zk_b_1] at *); simp only [Int32.lt_iff_toInt_lt, Int32.le_iff_toInt_le, ← Int32.toInt_inj, Int32.reduceToInt] at *; omega))] at H; exact H)))
  ((repeat' (first | exact Or.inl rfl | exact Or.inr rfl | exact zk_b_or | (show ¬ (_ : Int32) = _; decide) | refine And.intro ?_ ?_ | intro _)) <;> (first | (rw [zk_b_t (by ((try simp only [zk_b_0, zk_b_1] at *); simp only [Int32.lt_iff_toInt_lt, Int32.le_iff_toInt_le, ← Int32.toInt_inj, Int32.reduceToInt] at *; omega))] at H; exact H) | (rw [zk_b_f (by ((try simp only [zk_b_0, zk_b_1] at *); simp only [Int32.lt_iff_toInt_lt, Int32.le_iff_toInt_le, ← Int32.toInt_inj, Int32.reduceToInt] at *; omega))] at H; exact H)))
theorem jX12_areTwo (hP : h.1 0 0 = nI P) (hP8 : P ≤ 8) (H : K (zk_b (0 ≤ x ∧ (0 ≤ x / 10 ∧ x / 10 < nI P) ∧ (0 ≤ x - x / 10 * 10 ∧ x - x / 10 * 10 < nI P) ∧ ¬ x / 10 = x - x / 10 * 10)) h) : pX12_areTwo [.ref 0, .int x] h K := by
  refine ⟨rfl, zk_bk hX12_areTwo (bX12_areTwo_0 ?_)⟩
  refine ⟨fun c1 => ⟨Or.inl rfl, ?_⟩, fun c1 => ⟨by decide, jX12_isOne hP hP8 ?_⟩⟩
  · ((repeat' (first | exact Or.inl rfl | exact Or.inr rfl | exact zk_b_or | (show ¬ (_ : Int32) = _; decide) | refine And.intro ?_ ?_ | intro _)) <;> (first | (rw [zk_b_t (by ((try simp only [zk_b_0, zk_b_1] at *); simp only [Int32.lt_iff_toInt_lt, Int32.le_iff_toInt_le, ← Int32.toInt_inj, Int32.reduceToInt] at *; omega))] at H; exact H) | (rw [zk_b_f (by ((try simp only [zk_b_0, zk_b_1] at *); simp only [Int32.lt_iff_toInt_lt, Int32.le_iff_toInt_le, ← Int32.toInt_inj, Int32.reduceToInt] at *; omega))] at H; exact H)))
  refine ⟨fun c2 => ⟨Or.inl rfl, ?_⟩, fun c2 => ⟨by decide, jX12_isOne hP hP8 ?_⟩⟩
  · ((repeat' (first | exact Or.inl rfl | exact Or.inr rfl | exact zk_b_or | (show ¬ (_ : Int32) = _; decide) | refine And.intro ?_ ?_ | intro _)) <;> (first | (rw [zk_b_t (by ((try simp only [zk_b_0, zk_b_1] at *); simp only [Int32.lt_iff_toInt_lt, Int32.le_iff_toInt_le, ← Int32.toInt_inj, Int32.reduceToInt] at *; omega))] at H; exact H) | (rw [zk_b_f (by ((try simp only [zk_b_0, zk_b_1] at *); simp only [Int32.lt_iff_toInt_lt, Int32.le_iff_toInt_le, ← Int32.toInt_inj, Int32.reduceToInt] at *; omega))] at H; exact H)))
  ((repeat' (first | exact Or.inl rfl | exact Or.inr rfl | exact zk_b_or | (show ¬ (_ : Int32) = _; decide) | refine And.intro ?_ ?_ | intro _)) <;> (first | (rw [zk_b_t (by ((try simp only [zk_b_0, zk_b_1] at *); simp only [Int32.lt_iff_toInt_lt, Int32.le_iff_toInt_le, ← Int32.toInt_inj, Int32.reduceToInt] at *; omega))] at H; exact H) | (rw [zk_b_f (by ((try simp only [zk_b_0, zk_b_1] at *); simp only [Int32.lt_iff_toInt_lt, Int32.le_iff_toInt_le, ← Int32.toInt_inj, Int32.reduceToInt] at *; omega))] at H; exact H)))
theorem jX12_isMinute (H : K (zk_b (0 ≤ x ∧ x ≤ 99)) h) : pX12_isMinute [.int x] h K := by
  refine ⟨rfl, zk_bk hX12_isMinute (bX12_isMinute_0 ?_)⟩
  exact jX12_within ⟨zk_b_or, H⟩
theorem jX12_isWay (H : K (zk_b (0 ≤ x ∧ x / 100 < 9 ∧ x / 10 - x / 10 / 10 * 10 < 5 ∧ x - x / 10 * 10 < 2)) h) : pX12_isWay [.int x] h K := by
  refine ⟨rfl, zk_bk hX12_isWay (bX12_isWay_0 ?_)⟩
  ((repeat' (first | exact Or.inl rfl | exact Or.inr rfl | exact zk_b_or | (show ¬ (_ : Int32) = _; decide) | refine And.intro ?_ ?_ | intro _)) <;> (first | (rw [zk_b_t (by ((try simp only [zk_b_0, zk_b_1] at *); simp only [Int32.lt_iff_toInt_lt, Int32.le_iff_toInt_le, ← Int32.toInt_inj, Int32.reduceToInt] at *; omega))] at H; exact H) | (rw [zk_b_f (by ((try simp only [zk_b_0, zk_b_1] at *); simp only [Int32.lt_iff_toInt_lt, Int32.le_iff_toInt_le, ← Int32.toInt_inj, Int32.reduceToInt] at *; omega))] at H; exact H)))
theorem jX12_isSecret (H : K (zk_b (0 ≤ x ∧ x ≤ 7)) h) : pX12_isSecret [.int x] h K := by
  refine ⟨rfl, zk_bk hX12_isSecret (bX12_isSecret_0 ?_)⟩
  exact jX12_within ⟨zk_b_or, H⟩
theorem jX12_isShelf (H : K (zk_b (0 ≤ x ∧ x ≤ 5)) h) : pX12_isShelf [.int x] h K := by
  refine ⟨rfl, zk_bk hX12_isShelf (bX12_isShelf_0 ?_)⟩
  exact jX12_within ⟨zk_b_or, H⟩
theorem jX12_has (H : K (zk_b ((x >>> (y &&& 31)) &&& 1 = 1)) h) : pX12_has [.int x, .int y] h K := by
  refine ⟨rfl, zk_bk hX12_has (bX12_has_0 ?_)⟩
  ((repeat' (first | exact Or.inl rfl | exact Or.inr rfl | exact zk_b_or | (show ¬ (_ : Int32) = _; decide) | refine And.intro ?_ ?_ | intro _)) <;> (first | (rw [zk_b_t (by ((try simp only [zk_b_0, zk_b_1] at *); simp only [Int32.lt_iff_toInt_lt, Int32.le_iff_toInt_le, ← Int32.toInt_inj, Int32.reduceToInt] at *; omega))] at H; exact H) | (rw [zk_b_f (by ((try simp only [zk_b_0, zk_b_1] at *); simp only [Int32.lt_iff_toInt_lt, Int32.le_iff_toInt_le, ← Int32.toInt_inj, Int32.reduceToInt] at *; omega))] at H; exact H)))
end ZKP
