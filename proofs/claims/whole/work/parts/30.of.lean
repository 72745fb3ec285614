/-! the numbers that can be asked for; CALL: of -/
def zk_mc (w : Nat) : Nat := ([1, 2, 3, 4, 5, 6, 8, 9, 10, 11, 14, 14, 14, 7, 12, 13] : List Nat).getD w 0
def zk_mj (w j : Nat) : Nat := if 10 ≤ w ∧ w < 13 then w - 10 else j
def zk_val (P N w j : Nat) : Prop := (w < 6 ∧ j < P) ∨ (6 ≤ w ∧ w < 10 ∧ j < N) ∨ (10 ≤ w ∧ w < 13 ∧ j = 0)
theorem zk_c16 {w : Nat} (h : w < 16) : w = 0 ∨ w = 1 ∨ w = 2 ∨ w = 3 ∨ w = 4 ∨ w = 5 ∨ w = 6 ∨ w = 7 ∨ w = 8 ∨ w = 9 ∨ w = 10 ∨ w = 11 ∨ w = 12 ∨ w = 13 ∨ w = 14 ∨ w = 15 := by omega
theorem zk_c13 {w : Nat} (h : w < 13) : w = 0 ∨ w = 1 ∨ w = 2 ∨ w = 3 ∨ w = 4 ∨ w = 5 ∨ w = 6 ∨ w = 7 ∨ w = 8 ∨ w = 9 ∨ w = 10 ∨ w = 11 ∨ w = 12 := by omega
theorem zk_rows {w : Nat} (h : w < 16) : zk_C.2 2 w = some (3 + w) ∧ zk_Cs[3 + w]? = some (0, 8) := by
  rcases zk_c16 h with rfl | rfl | rfl | rfl | rfl | rfl | rfl | rfl | rfl | rfl | rfl | rfl | rfl | rfl | rfl | rfl <;> exact ⟨rfl, rfl⟩
theorem zk_off_at {P N w j : Nat} {c m : zk_H} (r : zk_off P N c m) (hv : zk_val P N w j ∨ (13 ≤ w ∧ w < 16 ∧ j < N)) : c.1 (3 + w) j = m.1 (zk_mc w) (zk_mj w j) := by
  obtain ⟨-, -, f5, f6, f7, -⟩ := r
  have hw : w < 16 := by unfold zk_val at hv; omega
  unfold zk_val at hv
  rcases zk_c16 hw with rfl | rfl | rfl | rfl | rfl | rfl | rfl | rfl | rfl | rfl | rfl | rfl | rfl | rfl | rfl | rfl
  · exact (f5 j (by omega)).1
  · exact (f5 j (by omega)).2.1
  · exact (f5 j (by omega)).2.2.1
  · exact (f5 j (by omega)).2.2.2.1
  · exact (f5 j (by omega)).2.2.2.2.1
  · exact (f5 j (by omega)).2.2.2.2.2
  · exact (f6 j (by omega)).1
  · exact (f6 j (by omega)).2.1
  · exact (f6 j (by omega)).2.2.1
  · exact (f6 j (by omega)).2.2.2.1
  · rw [show j = 0 by omega]; exact f7.1
  · rw [show j = 0 by omega]; exact f7.2.1
  · rw [show j = 0 by omega]; exact f7.2.2
  · exact (f6 j (by omega)).2.2.2.2.1
  · exact (f6 j (by omega)).2.2.2.2.2.1
  · exact (f6 j (by omega)).2.2.2.2.2.2
section ZKP
variable {K : Int32 → zk_H → Prop} {h : zk_H} {x y z : Int32} {P N w j : Nat}
theorem jX4_has (hP : h.1 1 1 = nI P) (hP8 : P ≤ 8) (hN : h.1 1 2 = nI N) (hN8 : N ≤ 6) (H1 : ∀ w j, y = nI w → x = nI j → (zk_val P N w j ∨ (13 ≤ w ∧ w < 16 ∧ j < N)) → K 1 h) (H0 : (∀ w j, y = nI w → x = nI j → ¬ (zk_val P N w j ∨ (13 ≤ w ∧ w < 16 ∧ j < N))) → K 0 h) : pX4_has [.ref 1, .int x, .int y] h K := by
  have inj : ∀ a b : Nat, a < 100 → b < 100 → nI a = nI b → a = b := fun a b ha hb e => (nI_eq (by omega) (by omega)).mp e
  have big : ∀ w j, y = nI w → x = nI j → (zk_val P N w j ∨ (13 ≤ w ∧ w < 16 ∧ j < N)) → w < 16 ∧ j < 100 := fun w j _ _ q => by unfold zk_val at q; omega
  refine ⟨rfl, zk_bk hX4_has (bX4_has_0 ?_)⟩
  have out : (y < 0 ∨ ¬ y ≤ 15) → K 0 h := fun q => H0 fun w j ey ex hv => by
    have hb := (big w j ey ex hv).1
    have e := nI_toInt (n := w) (by omega)
    subst ey
    ((try simp only [zk_b_0, zk_b_1] at *); simp only [Int32.lt_iff_toInt_lt, Int32.le_iff_toInt_le, ← Int32.toInt_inj, Int32.reduceToInt] at *; omega)
  refine ⟨fun c1 => ⟨Or.inl rfl, out (Or.inl c1)⟩, fun c1 => ⟨fun c2 => ?_, fun c2 => ⟨Or.inl rfl, out (Or.inr c2)⟩⟩⟩
  obtain ⟨w, hw, rfl⟩ := nI_of (x := y) c1
  have e := nI_toInt (n := w) (by omega)
  have hw16 : w < 16 := by ((try simp only [zk_b_0, zk_b_1] at *); simp only [Int32.lt_iff_toInt_lt, Int32.le_iff_toInt_le, ← Int32.toInt_inj, Int32.reduceToInt] at *; omega)
  -- the number asks for one of n
  have fin : ∀ n : Nat, n ≤ 8 → (∀ j, (zk_val P N w j ∨ (13 ≤ w ∧ w < 16 ∧ j < N)) ↔ j < n) → (zk_b (0 ≤ x ∧ x < nI n) = 0 ∨ zk_b (0 ≤ x ∧ x < nI n) = 1) ∧ K (zk_b (0 ≤ x ∧ x < nI n)) h := by
    intro n hn hiff
    refine ⟨zk_b_or, ?_⟩
    by_cases q : 0 ≤ x ∧ x < nI n
    · rw [zk_b_t q]
      obtain ⟨j, hj, ej⟩ := zk_ix (by omega) q.1 q.2
      exact H1 w j rfl ej ((hiff j).mpr hj)
    · rw [zk_b_f q]
      refine H0 fun w' j ew ex hv => q ?_
      have hb := big w' j ew ex hv
      have : w = w' := inj _ _ (by omega) (by omega) ew
      subst this
      rw [ex]
      exact zk_xi (by omega) ((hiff j).mp hv)
  refine ⟨fun c3 => ⟨fun c4 => jX4_isCard ?_, fun c4 => ⟨fun c5 => jX4_isCard ?_, fun c5 => ⟨fun c6 => ⟨Or.inl rfl, H0 fun w' j ew ex hv => c6 ?_⟩, fun c6 => ⟨Or.inr rfl, H1 w 0 rfl c6 ?_⟩⟩⟩⟩, fun c3 => jX4_isPerson ?_⟩
  · rw [hN]
    refine fin N (by omega) fun j => ?_
    have : 6 ≤ w ∧ w < 10 := by ((try simp only [zk_b_0, zk_b_1] at *); simp only [Int32.lt_iff_toInt_lt, Int32.le_iff_toInt_le, ← Int32.toInt_inj, Int32.reduceToInt] at *; omega)
    unfold zk_val
    omega
  · rw [hN]
    refine fin N (by omega) fun j => ?_
    have : 13 ≤ w := by ((try simp only [zk_b_0, zk_b_1] at *); simp only [Int32.lt_iff_toInt_lt, Int32.le_iff_toInt_le, ← Int32.toInt_inj, Int32.reduceToInt] at *; omega)
    unfold zk_val
    omega
  · have hb := big w' j ew ex hv
    have : w = w' := inj _ _ (by omega) (by omega) ew
    subst this
    have h1 : 10 ≤ w ∧ w < 13 := by ((try simp only [zk_b_0, zk_b_1] at *); simp only [Int32.lt_iff_toInt_lt, Int32.le_iff_toInt_le, ← Int32.toInt_inj, Int32.reduceToInt] at *; omega)
    unfold zk_val at hv
    rw [ex, show j = 0 by omega]
    rfl
  · have h1 : 10 ≤ w ∧ w < 13 := by ((try simp only [zk_b_0, zk_b_1] at *); simp only [Int32.lt_iff_toInt_lt, Int32.le_iff_toInt_le, ← Int32.toInt_inj, Int32.reduceToInt] at *; omega)
    unfold zk_val
    omega
  · rw [hP]
    refine fin P (by omega) fun j => ?_
    have : w < 6 := by ((try simp only [zk_b_0, zk_b_1] at *); simp only [Int32.lt_iff_toInt_lt, Int32.le_iff_toInt_le, ← Int32.toInt_inj, Int32.reduceToInt] at *; omega)
    unfold zk_val
    omega
theorem jX12_isOf (hP : h.1 0 0 = nI P) (hP8 : P ≤ 8) (hN : h.1 0 7 = nI N) (hN8 : N ≤ 6) (H1 : ∀ w j, y = nI w → x = nI j → zk_val P N w j → K 1 h) (H0 : (∀ w j, y = nI w → x = nI j → ¬ zk_val P N w j) → K 0 h) : pX12_isOf [.ref 0, .int x, .int y] h K := by
  have inj : ∀ a b : Nat, a < 100 → b < 100 → nI a = nI b → a = b := fun a b ha hb e => (nI_eq (by omega) (by omega)).mp e
  have big : ∀ w j, zk_val P N w j → w < 13 ∧ j < 100 := fun w j q => by unfold zk_val at q; omega
  have fin : ∀ w n : Nat, w < 13 → y = nI w → n ≤ 8 → (∀ j, zk_val P N w j ↔ j < n) → (zk_b (0 ≤ x ∧ x < nI n) = 0 ∨ zk_b (0 ≤ x ∧ x < nI n) = 1) ∧ K (zk_b (0 ≤ x ∧ x < nI n)) h := by
    intro w n hw ey hn hiff
    refine ⟨zk_b_or, ?_⟩
    by_cases q : 0 ≤ x ∧ x < nI n
    · rw [zk_b_t q]
      obtain ⟨j, hj, ej⟩ := zk_ix (by omega) q.1 q.2
      exact H1 w j ey ej ((hiff j).mpr hj)
    · rw [zk_b_f q]
      refine H0 fun w' j ew ex hv => q ?_
      have hb := big w' j hv
      have : w = w' := inj _ _ (by omega) (by omega) (ey.symm.trans ew)
      subst this
      rw [ex]
      exact zk_xi (by omega) ((hiff j).mp hv)
  refine ⟨rfl, zk_bk hX12_isOf (bX12_isOf_0 ?_)⟩
  refine jX12_within ⟨fun c1 => jX12_within ⟨fun c2 => jX12_within ⟨fun c3 => ⟨Or.inl rfl, H0 fun w j ey ex hv => ?_⟩, fun c3 => ?_⟩, fun c2 => jX12_isCard hN (by omega) ?_⟩, fun c1 => jX12_isOne hP hP8 ?_⟩
  · have hb := big w j hv
    have e := nI_toInt (n := w) (by omega)
    subst ey
    ((try simp only [zk_b_0, zk_b_1] at *); simp only [Int32.lt_iff_toInt_lt, Int32.le_iff_toInt_le, ← Int32.toInt_inj, Int32.reduceToInt] at *; omega)
  · obtain ⟨b1, b2⟩ := zk_b_n c3
    obtain ⟨w, hw, ew⟩ := nI_of (x := y) (by ((try simp only [zk_b_0, zk_b_1] at *); simp only [Int32.lt_iff_toInt_lt, Int32.le_iff_toInt_le, ← Int32.toInt_inj, Int32.reduceToInt] at *; omega))
    subst ew
    have e := nI_toInt (n := w) (by omega)
    have hw3 : 10 ≤ w ∧ w < 13 := by ((try simp only [zk_b_0, zk_b_1] at *); simp only [Int32.lt_iff_toInt_lt, Int32.le_iff_toInt_le, ← Int32.toInt_inj, Int32.reduceToInt] at *; omega)
    refine ⟨fun c4 => ⟨Or.inl rfl, H0 fun w' j ew ex hv => c4 ?_⟩, fun c4 => ⟨Or.inr rfl, H1 w 0 rfl c4 (by unfold zk_val; omega)⟩⟩
    have hb := big w' j hv
    have : w = w' := inj _ _ (by omega) (by omega) ew
    subst this
    unfold zk_val at hv
    rw [ex, show j = 0 by omega]
    rfl
  · obtain ⟨b1, b2⟩ := zk_b_n c2
    obtain ⟨w, hw, ew⟩ := nI_of (x := y) (by ((try simp only [zk_b_0, zk_b_1] at *); simp only [Int32.lt_iff_toInt_lt, Int32.le_iff_toInt_le, ← Int32.toInt_inj, Int32.reduceToInt] at *; omega))
    subst ew
    have e := nI_toInt (n := w) (by omega)
    have hw3 : 6 ≤ w ∧ w < 10 := by ((try simp only [zk_b_0, zk_b_1] at *); simp only [Int32.lt_iff_toInt_lt, Int32.le_iff_toInt_le, ← Int32.toInt_inj, Int32.reduceToInt] at *; omega)
    exact fin w N (by omega) rfl (by omega) fun j => by unfold zk_val; omega
  · obtain ⟨b1, b2⟩ := zk_b_n c1
    obtain ⟨w, hw, ew⟩ := nI_of (x := y) (by ((try simp only [zk_b_0, zk_b_1] at *); simp only [Int32.lt_iff_toInt_lt, Int32.le_iff_toInt_le, ← Int32.toInt_inj, Int32.reduceToInt] at *; omega))
    subst ew
    have e := nI_toInt (n := w) (by omega)
    have hw3 : w < 6 := by ((try simp only [zk_b_0, zk_b_1] at *); simp only [Int32.lt_iff_toInt_lt, Int32.le_iff_toInt_le, ← Int32.toInt_inj, Int32.reduceToInt] at *; omega)
    exact fin w P (by omega) rfl (by omega) fun j => by unfold zk_val; omega
theorem jX12_get (hP8 : P ≤ 8) (hN8 : N ≤ 6) (hv : zk_val P N w j) (H : K (h.1 (zk_mc w) (zk_mj w j)) h) : pX12_get [.ref 0, .int (nI j), .int (nI w)] h K := by
  unfold zk_val at hv
  have hj : j < 8 := by omega
  have hv8 := vp_in_nI (n := j) (N := 8) hj (by decide)
  refine ⟨rfl, zk_bk hX12_get (bX12_get_0 ?_)⟩
  rw [nI_clamp (by omega)]
  rcases zk_c13 (w := w) (by omega) with rfl | rfl | rfl | rfl | rfl | rfl | rfl | rfl | rfl | rfl | rfl | rfl | rfl
  · exact ⟨fun _ => ⟨hv8, H⟩, fun q => absurd rfl q⟩
  · exact ⟨fun q => absurd q (by decide), fun _ => ⟨fun _ => ⟨hv8, H⟩, fun q => absurd rfl q⟩⟩
  · exact ⟨fun q => absurd q (by decide), fun _ => ⟨fun q => absurd q (by decide), fun _ => ⟨fun _ => ⟨hv8, H⟩, fun q => absurd rfl q⟩⟩⟩
  · exact ⟨fun q => absurd q (by decide), fun _ => ⟨fun q => absurd q (by decide), fun _ => ⟨fun q => absurd q (by decide), fun _ => ⟨fun _ => ⟨hv8, H⟩, fun q => absurd rfl q⟩⟩⟩⟩
  · exact ⟨fun q => absurd q (by decide), fun _ => ⟨fun q => absurd q (by decide), fun _ => ⟨fun q => absurd q (by decide), fun _ => ⟨fun q => absurd q (by decide), fun _ => ⟨fun _ => ⟨hv8, H⟩, fun q => absurd rfl q⟩⟩⟩⟩⟩
  · exact ⟨fun q => absurd q (by decide), fun _ => ⟨fun q => absurd q (by decide), fun _ => ⟨fun q => absurd q (by decide), fun _ => ⟨fun q => absurd q (by decide), fun _ => ⟨fun q => absurd q (by decide), fun _ => ⟨fun _ => ⟨hv8, H⟩, fun q => absurd rfl q⟩⟩⟩⟩⟩⟩
  · have hv7 := vp_in_nI (n := j) (N := 7) (by omega) (by decide)
    exact ⟨fun q => absurd q (by decide), fun _ => ⟨fun q => absurd q (by decide), fun _ => ⟨fun q => absurd q (by decide), fun _ => ⟨fun q => absurd q (by decide), fun _ => ⟨fun q => absurd q (by decide), fun _ => ⟨fun q => absurd q (by decide), fun _ => ⟨fun _ => ⟨hv7, H⟩, fun q => absurd rfl q⟩⟩⟩⟩⟩⟩⟩
  · have hv7 := vp_in_nI (n := j) (N := 7) (by omega) (by decide)
    exact ⟨fun q => absurd q (by decide), fun _ => ⟨fun q => absurd q (by decide), fun _ => ⟨fun q => absurd q (by decide), fun _ => ⟨fun q => absurd q (by decide), fun _ => ⟨fun q => absurd q (by decide), fun _ => ⟨fun q => absurd q (by decide), fun _ => ⟨fun q => absurd q (by decide), fun _ => ⟨fun _ => ⟨hv7, H⟩, fun q => absurd rfl q⟩⟩⟩⟩⟩⟩⟩⟩
  · have hv7 := vp_in_nI (n := j) (N := 7) (by omega) (by decide)
    exact ⟨fun q => absurd q (by decide), fun _ => ⟨fun q => absurd q (by decide), fun _ => ⟨fun q => absurd q (by decide), fun _ => ⟨fun q => absurd q (by decide), fun _ => ⟨fun q => absurd q (by decide), fun _ => ⟨fun q => absurd q (by decide), fun _ => ⟨fun q => absurd q (by decide), fun _ => ⟨fun q => absurd q (by decide), fun _ => ⟨fun _ => ⟨hv7, H⟩, fun q => absurd rfl q⟩⟩⟩⟩⟩⟩⟩⟩⟩
  · have hv7 := vp_in_nI (n := j) (N := 7) (by omega) (by decide)
    exact ⟨fun q => absurd q (by decide), fun _ => ⟨fun q => absurd q (by decide), fun _ => ⟨fun q => absurd q (by decide), fun _ => ⟨fun q => absurd q (by decide), fun _ => ⟨fun q => absurd q (by decide), fun _ => ⟨fun q => absurd q (by decide), fun _ => ⟨fun q => absurd q (by decide), fun _ => ⟨fun q => absurd q (by decide), fun _ => ⟨fun q => absurd q (by decide), fun _ => ⟨fun _ => ⟨hv7, H⟩, fun q => absurd rfl q⟩⟩⟩⟩⟩⟩⟩⟩⟩⟩
  all_goals exact ⟨fun q => absurd q (by decide), fun _ => ⟨fun q => absurd q (by decide), fun _ => ⟨fun q => absurd q (by decide), fun _ => ⟨fun q => absurd q (by decide), fun _ => ⟨fun q => absurd q (by decide), fun _ => ⟨fun q => absurd q (by decide), fun _ => ⟨fun q => absurd q (by decide), fun _ => ⟨fun q => absurd q (by decide), fun _ => ⟨fun q => absurd q (by decide), fun _ => ⟨fun q => absurd q (by decide), fun _ => ⟨(by unfold vp_in; decide), H⟩⟩⟩⟩⟩⟩⟩⟩⟩⟩⟩
theorem jX12_becomes {K : zk_H → Prop} {v : Int32} (hP8 : P ≤ 8) (hN8 : N ≤ 6) (hv : zk_val P N w j) (H : K (zk_si h (zk_mc w) (zk_mj w j) v)) : pX12_becomes [.ref 0, .int (nI j), .int (nI w), .int v] h K := by
  unfold zk_val at hv
  have hj : j < 8 := by omega
  have hv8 := vp_in_nI (n := j) (N := 8) hj (by decide)
  refine ⟨rfl, zk_bk hX12_becomes (bX12_becomes_0 ?_)⟩
  rw [nI_clamp (by omega)]
  rcases zk_c13 (w := w) (by omega) with rfl | rfl | rfl | rfl | rfl | rfl | rfl | rfl | rfl | rfl | rfl | rfl | rfl
  · exact ⟨fun _ => ⟨hv8, H⟩, fun q => absurd rfl q⟩
  · exact ⟨fun q => absurd q (by decide), fun _ => ⟨fun _ => ⟨hv8, H⟩, fun q => absurd rfl q⟩⟩
  · exact ⟨fun q => absurd q (by decide), fun _ => ⟨fun q => absurd q (by decide), fun _ => ⟨fun _ => ⟨hv8, H⟩, fun q => absurd rfl q⟩⟩⟩
  · exact ⟨fun q => absurd q (by decide), fun _ => ⟨fun q => absurd q (by decide), fun _ => ⟨fun q => absurd q (by decide), fun _ => ⟨fun _ => ⟨hv8, H⟩, fun q => absurd rfl q⟩⟩⟩⟩
  · exact ⟨fun q => absurd q (by decide), fun _ => ⟨fun q => absurd q (by decide), fun _ => ⟨fun q => absurd q (by decide), fun _ => ⟨fun q => absurd q (by decide), fun _ => ⟨fun _ => ⟨hv8, H⟩, fun q => absurd rfl q⟩⟩⟩⟩⟩
  · exact ⟨fun q => absurd q (by decide), fun _ => ⟨fun q => absurd q (by decide), fun _ => ⟨fun q => absurd q (by decide), fun _ => ⟨fun q => absurd q (by decide), fun _ => ⟨fun q => absurd q (by decide), fun _ => ⟨fun _ => ⟨hv8, H⟩, fun q => absurd rfl q⟩⟩⟩⟩⟩⟩
  · have hv7 := vp_in_nI (n := j) (N := 7) (by omega) (by decide)
    exact ⟨fun q => absurd q (by decide), fun _ => ⟨fun q => absurd q (by decide), fun _ => ⟨fun q => absurd q (by decide), fun _ => ⟨fun q => absurd q (by decide), fun _ => ⟨fun q => absurd q (by decide), fun _ => ⟨fun q => absurd q (by decide), fun _ => ⟨fun _ => ⟨hv7, H⟩, fun q => absurd rfl q⟩⟩⟩⟩⟩⟩⟩
  · have hv7 := vp_in_nI (n := j) (N := 7) (by omega) (by decide)
    exact ⟨fun q => absurd q (by decide), fun _ => ⟨fun q => absurd q (by decide), fun _ => ⟨fun q => absurd q (by decide), fun _ => ⟨fun q => absurd q (by decide), fun _ => ⟨fun q => absurd q (by decide), fun _ => ⟨fun q => absurd q (by decide), fun _ => ⟨fun q => absurd q (by decide), fun _ => ⟨fun _ => ⟨hv7, H⟩, fun q => absurd rfl q⟩⟩⟩⟩⟩⟩⟩⟩
  · have hv7 := vp_in_nI (n := j) (N := 7) (by omega) (by decide)
    exact ⟨fun q => absurd q (by decide), fun _ => ⟨fun q => absurd q (by decide), fun _ => ⟨fun q => absurd q (by decide), fun _ => ⟨fun q => absurd q (by decide), fun _ => ⟨fun q => absurd q (by decide), fun _ => ⟨fun q => absurd q (by decide), fun _ => ⟨fun q => absurd q (by decide), fun _ => ⟨fun q => absurd q (by decide), fun _ => ⟨fun _ => ⟨hv7, H⟩, fun q => absurd rfl q⟩⟩⟩⟩⟩⟩⟩⟩⟩
  · have hv7 := vp_in_nI (n := j) (N := 7) (by omega) (by decide)
    exact ⟨fun q => absurd q (by decide), fun _ => ⟨fun q => absurd q (by decide), fun _ => ⟨fun q => absurd q (by decide), fun _ => ⟨fun q => absurd q (by decide), fun _ => ⟨fun q => absurd q (by decide), fun _ => ⟨fun q => absurd q (by decide), fun _ => ⟨fun q => absurd q (by decide), fun _ => ⟨fun q => absurd q (by decide), fun _ => ⟨fun q => absurd q (by decide), fun _ => ⟨fun _ => ⟨hv7, H⟩, fun q => absurd rfl q⟩⟩⟩⟩⟩⟩⟩⟩⟩⟩
  all_goals exact ⟨fun q => absurd q (by decide), fun _ => ⟨fun q => absurd q (by decide), fun _ => ⟨fun q => absurd q (by decide), fun _ => ⟨fun q => absurd q (by decide), fun _ => ⟨fun q => absurd q (by decide), fun _ => ⟨fun q => absurd q (by decide), fun _ => ⟨fun q => absurd q (by decide), fun _ => ⟨fun q => absurd q (by decide), fun _ => ⟨fun q => absurd q (by decide), fun _ => ⟨fun q => absurd q (by decide), fun _ => ⟨(by unfold vp_in; decide), H⟩⟩⟩⟩⟩⟩⟩⟩⟩⟩⟩
end ZKP
section ZK3
variable {lp : zk_lp} {c m : zk_H} {x y : Int32} {P N D U T B : Nat}
theorem e_of (R : zk_RR lp c m) : pX11_of [.ref 0, .int x, .int y] c (fun v c' => pX12_of [.ref 0, .int x, .int y] m (fun v' m' => v = v' ∧ zk_RR lp c' m')) := by
  obtain ⟨P, N, D, U, T, B, R8⟩ := id R
  obtain ⟨r1, -⟩ := id R8
  obtain ⟨⟨hP, hN⟩, ⟨f1, f2, f3, f4⟩, -⟩ := id r1
  refine ⟨rfl, zk_bk hX11_of (bX11_of_0 ?_)⟩
  refine jX4_has f1 hP f2 hN (fun w j ey ex hv => ⟨fun q => absurd q (by decide), fun _ => ?_⟩) (fun hno => ⟨fun _ => ?_, fun q => absurd rfl q⟩)
  · have hw : w < 16 ∧ j < 8 := by unfold zk_val at hv; omega
    subst ey
    subst ex
    refine ⟨vp_in_nI hw.1 (by decide), 3 + w, ?_, 8, (zk_rows hw.1).2, vp_in_nI hw.2 (by decide), ?_⟩
    · rw [nI_clamp (by omega)]
      exact (zk_rows hw.1).1
    · rw [nI_clamp (n := j) (by omega), zk_off_at r1 hv]
      show pX12_of _ _ _
      have e := nI_toInt (n := w) (by omega)
      refine ⟨rfl, zk_bk hX12_of (bX12_of_0 ?_)⟩
      refine jX12_within ⟨fun c1 => jX12_isOf f3 hP f4 hN (fun w' j' ew ej hv' => ⟨fun q => absurd q (by decide), fun _ => ?_⟩) (fun hno => ?_), fun c1 => jX12_isCard f4 (by omega) ⟨fun c2 => ?_, fun c2 => ?_⟩⟩
      · have hb : w' < 13 ∧ j' < 8 := by unfold zk_val at hv'; omega
        rw [(nI_eq (by omega) (by omega)).mp ew, (nI_eq (by omega) (by omega)).mp ej]
        exact jX12_get hP hN hv' ⟨rfl, R⟩
      · rcases hv with hv | hv
        · exact absurd hv (hno w j rfl rfl)
        · exfalso
          ((try simp only [zk_b_0, zk_b_1] at *); simp only [Int32.lt_iff_toInt_lt, Int32.le_iff_toInt_le, ← Int32.toInt_inj, Int32.reduceToInt] at *; omega)
      · have h13 : 13 ≤ w ∧ w < 16 := by
          have := zk_b_n c1
          ((try simp only [zk_b_0, zk_b_1] at *); simp only [Int32.lt_iff_toInt_lt, Int32.le_iff_toInt_le, ← Int32.toInt_inj, Int32.reduceToInt] at *; omega)
        have hj : j < N := by unfold zk_val at hv; omega
        refine ⟨fun c3 => ⟨fun c4 => ⟨vp_in_nI (by omega) (by decide), ?_, R⟩, fun c4 => ⟨vp_in_nI (by omega) (by decide), ?_, R⟩⟩, fun c3 => ⟨vp_in_nI (by omega) (by decide), ?_, R⟩⟩
        · have : w = 15 := by
            rcases (show w = 13 ∨ w = 14 ∨ w = 15 by omega) with q | q | q
            · subst q; exact absurd rfl c3
            · subst q; exact absurd rfl c4
            · exact q
          subst this
          rw [nI_clamp (by omega)]
          rfl
        · have : w = 14 := (nI_eq (b := 14) (by omega) (by decide)).mp c4
          subst this
          rw [nI_clamp (by omega)]
          rfl
        · have : w = 13 := (nI_eq (b := 13) (by omega) (by decide)).mp c3
          subst this
          rw [nI_clamp (by omega)]
          rfl
      · have h13 : 13 ≤ w ∧ w < 16 := by
          have := zk_b_n c1
          ((try simp only [zk_b_0, zk_b_1] at *); simp only [Int32.lt_iff_toInt_lt, Int32.le_iff_toInt_le, ← Int32.toInt_inj, Int32.reduceToInt] at *; omega)
        have hj : j < N := by unfold zk_val at hv; omega
        exact absurd (zk_xi (by omega) hj) (zk_b_0.mp c2)
  · show pX12_of _ _ _
    refine ⟨rfl, zk_bk hX12_of (bX12_of_0 ?_)⟩
    refine jX12_within ⟨fun c1 => jX12_isOf f3 hP f4 hN (fun w' j' ew ej hv' => absurd (Or.inl hv') (hno w' j' ew ej)) (fun _ => ⟨fun _ => ⟨rfl, R⟩, fun q => absurd rfl q⟩), fun c1 => jX12_isCard f4 (by omega) ⟨fun c2 => ?_, fun c2 => ⟨rfl, R⟩⟩⟩
    obtain ⟨j, hj, ej⟩ := zk_ix (by omega) (zk_b_n c2).1 (zk_b_n c2).2
    obtain ⟨b1, b2⟩ := zk_b_n c1
    obtain ⟨w, hw, ew⟩ := nI_of (x := y) (by ((try simp only [zk_b_0, zk_b_1] at *); simp only [Int32.lt_iff_toInt_lt, Int32.le_iff_toInt_le, ← Int32.toInt_inj, Int32.reduceToInt] at *; omega))
    have e := nI_toInt (n := w) (by omega)
    subst ew
    exact absurd (Or.inr ⟨by ((try simp only [zk_b_0, zk_b_1] at *); simp only [Int32.lt_iff_toInt_lt, Int32.le_iff_toInt_le, ← Int32.toInt_inj, Int32.reduceToInt] at *; omega), by ((try simp only [zk_b_0, zk_b_1] at *); simp only [Int32.lt_iff_toInt_lt, Int32.le_iff_toInt_le, ← Int32.toInt_inj, Int32.reduceToInt] at *; omega), hj⟩) (hno w j rfl ej)
end ZK3
