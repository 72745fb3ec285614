/-! CALLS: row, element, taken -/
section ZK3
variable {lp : zk_lp} {c m : zk_H} {x y z : Int32}
theorem e_row (R : zk_RR lp c m) : pX11_row [.ref 0, .int x, .int y, .int z] c (fun v c' => pX12_row [.ref 0, .int x, .int y, .int z] m (fun v' m' => v = v' ∧ zk_RR lp c' m')) := by
  obtain ⟨P, N, D, U, T, B, R8⟩ := id R
  obtain ⟨-, -, -, -, r5, -, r7, -⟩ := id R8
  refine ⟨rfl, zk_bk hX11_row (bX11_row_0r ?_)⟩
  refine jX11_shelfAt (fun q => ?_) (fun s hs e => ?_)
  · refine zk_bk hX11_row (bX11_row_5 ?_)
    show pX12_row _ _ _
    refine ⟨rfl, zk_bk hX12_row (bX12_row_0 ?_)⟩
    exact jX12_isShelf ⟨fun _ => ⟨rfl, R⟩, fun q2 => absurd (zk_isShelf q) q2⟩
  · subst e
    have z1 := zk_shelves hs
    have vs := vp_in_nI (n := s) (N := 6) hs (by decide)
    have out : (¬ (0 ≤ y ∧ y ≤ 4) ∨ ¬ z ≤ 60) → pX12_row [.ref 0, .int (nI s), .int y, .int z] m (fun v' m' => -1 = v' ∧ zk_RR lp c m') := by
      intro q
      refine ⟨rfl, zk_bk hX12_row (bX12_row_0 ?_)⟩
      refine jX12_isShelf ⟨fun q2 => absurd (q2.symm.trans (zk_onShelf hs)) (by decide), fun _ => jX12_within ⟨fun _ => ⟨rfl, R⟩, fun q3 => ⟨fun q4 => ?_, fun _ => ⟨rfl, R⟩⟩⟩⟩
      rcases q with q | q
      · exact absurd (zk_b_n q3) q
      · exact absurd q4 q
    refine zk_bk hX11_row (bX11_row_5a ?_)
    refine ⟨fun q1 => ?_, fun q1 => ⟨fun q2 => ?_, fun q2 => ⟨fun q3 => ⟨fun q4 => ⟨z1.2.1, ?_⟩, fun q4 => ?_⟩, fun q3 => ?_⟩⟩⟩
    · show pX12_row _ _ _
      exact out (Or.inl (by ((try simp only [zk_b_0, zk_b_1] at *); simp only [Int32.lt_iff_toInt_lt, Int32.le_iff_toInt_le, ← Int32.toInt_inj, Int32.reduceToInt] at *; omega)))
    · show pX12_row _ _ _
      exact out (Or.inl (by ((try simp only [zk_b_0, zk_b_1] at *); simp only [Int32.lt_iff_toInt_lt, Int32.le_iff_toInt_le, ← Int32.toInt_inj, Int32.reduceToInt] at *; omega)))
    · obtain ⟨t, ht, et⟩ := nI_of2 (x := y) (M := 4) (n := 4) rfl q1 (by ((try simp only [zk_b_0, zk_b_1] at *); simp only [Int32.lt_iff_toInt_lt, Int32.le_iff_toInt_le, ← Int32.toInt_inj, Int32.reduceToInt] at *; omega))
      obtain ⟨n, hn, en⟩ := nI_of2 (x := z) (M := 60) (n := 60) rfl (by ((try simp only [zk_b_0, zk_b_1] at *); simp only [Int32.lt_iff_toInt_lt, Int32.le_iff_toInt_le, ← Int32.toInt_inj, Int32.reduceToInt] at *; omega)) q3
      have t1 := zk_t4 (t := t) (by omega)
      subst et
      subst en
      refine ⟨rfl, zk_bk hX8_holdRow (bX8_holdRow_0 ?_)⟩
      refine ⟨z1.2.1, z1.2.1, z1.2.1, z1.2.1, _, z1.2.2.1, jJ7_fill0 z1.2.2.2 ?_⟩
      show pX12_row _ _ _
      refine ⟨rfl, zk_bk hX12_row (bX12_row_0 ?_)⟩
      refine jX12_isShelf ⟨fun q2 => absurd (q2.symm.trans (zk_onShelf hs)) (by decide), fun _ => jX12_within ⟨fun q3 => absurd t1 (zk_b_0.mp q3), fun _ => ⟨fun _ => ⟨fun _ => ⟨vs, vs, ?_⟩, fun q => absurd q4 q⟩, fun q => absurd q3 q⟩⟩⟩
      rw [nI_clamp (n := s) (by omega)]
      refine l_row_48 hs (fun h h1 h2 h3 => ⟨rfl, P, N, D, U, T, B, ?_⟩) 60 0 rfl _ rfl (fun _ _ => rfl) (fun j => by rw [if_neg (by omega)])
      refine zk_R_she R8 hs (Or.inr (Or.inr ⟨by simp [zk_wl, zk_si], t, n, by omega, hn, by simp [zk_wl, zk_si], ?_, by simp [zk_wl, zk_si], ?_, fun i hi => ?_⟩)) (fun k hk => ?_) (fun k hk => by simp [zk_wl, zk_si, hk]) (fun k a b => ?_) (fun i hi => ?_) (fun i hi => ?_)
      · rw [h1]; simp [zk_si]
      · rw [h1]; simp [zk_si]
      · rw [h3, if_pos (by omega)]
        simp [zk_wl, hi]
      · show (zk_si _ _ _ _).1 k = _
        rw [zk_si_ne hk, zk_si_ne hk, zk_si_ne hk]
      · rw [h1, zk_si_ne b, zk_si_ne a]
      · rw [h1]; simp [zk_si, hi]
      · rw [h3, if_neg (by omega)]
        rfl
    · show pX12_row _ _ _
      refine ⟨rfl, zk_bk hX12_row (bX12_row_0 ?_)⟩
      refine jX12_isShelf ⟨fun q2 => absurd (q2.symm.trans (zk_onShelf hs)) (by decide), fun _ => jX12_within ⟨fun q5 => absurd (show 0 ≤ y ∧ y ≤ 4 by ((try simp only [zk_b_0, zk_b_1] at *); simp only [Int32.lt_iff_toInt_lt, Int32.le_iff_toInt_le, ← Int32.toInt_inj, Int32.reduceToInt] at *; omega)) (zk_b_0.mp q5), fun q5 => ⟨fun _ => ⟨fun q => absurd q q4, fun _ => ⟨rfl, R⟩⟩, fun q => absurd q3 q⟩⟩⟩
    · show pX12_row _ _ _
      exact out (Or.inr q3)
theorem e_element (R : zk_RR lp c m) : pX11_element [.ref 0, .int x, .int y] c (fun v c' => pX12_element [.ref 0, .int x, .int y] m (fun v' m' => v = v' ∧ zk_RR lp c' m')) := by
  obtain ⟨P, N, D, U, T, B, R8⟩ := id R
  obtain ⟨-, -, -, -, r5, -, r7, -⟩ := id R8
  refine ⟨rfl, zk_bk hX11_element (bX11_element_0r ?_)⟩
  refine jX11_shelfAt (fun q => ?_) (fun s hs e => ?_)
  · refine zk_bk hX11_element (bX11_element_5 ?_)
    show pX12_element _ _ _
    refine ⟨rfl, zk_bk hX12_element (bX12_element_0 ?_)⟩
    exact jX12_isShelf ⟨fun _ => ⟨rfl, R⟩, fun q2 => absurd (zk_isShelf q) q2⟩
  · subst e
    have z1 := zk_shelves hs
    have vs := vp_in_nI (n := s) (N := 6) hs (by decide)
    refine zk_bk hX11_element (bX11_element_5a ?_)
    refine ⟨z1.2.1, jX8_refusalOfPlace hs ?_⟩
    have out : ¬ (0 ≤ m.1 32 s ∧ m.1 32 s ≤ 4) → pX12_element [.ref 0, .int (nI s), .int y] m (fun v' m' => -9223372036854775808 = v' ∧ zk_RR lp c m') := by
      intro q
      refine ⟨rfl, zk_bk hX12_element (bX12_element_0 ?_)⟩
      exact jX12_isShelf ⟨fun _ => ⟨rfl, R⟩, fun q2 => jX12_isRow hs ⟨fun _ => ⟨rfl, R⟩, fun q3 => absurd (zk_b_n q3) q⟩⟩
    rcases (r7 s hs).is r5.1 with h | h | ⟨h1, h2, h3, t, z, ht, hz, h4, h5, h6, h7, h8⟩
    · rw [if_neg (by rw [h.1]; decide), if_pos h.1]
      refine ⟨fun q => absurd q (by decide), fun _ => ?_⟩
      show pX12_element _ _ _
      exact out fun q => by rw [h.2] at q; exact absurd q (by decide)
    · rw [if_neg (by rw [h.1]; decide), if_neg (by rw [h.1]; decide)]
      refine ⟨fun q => absurd q (by decide), fun _ => ?_⟩
      show pX12_element _ _ _
      exact out h.2.2.1
    · rw [if_pos h1, h6]
      have e7 := nI_toInt (n := z) (by omega)
      have p7 := zk_pm (n := z) (by omega)
      by_cases q : 0 ≤ y ∧ y < nI z
      · rw [if_pos q]
        obtain ⟨i, hi, ei⟩ := zk_ix (by omega) q.1 q.2
        refine ⟨fun _ => ⟨z1.2.1, _, z1.2.2.1, _, z1.2.2.2, ?_⟩, fun q => absurd rfl q⟩
        rw [ei, nI_clamp (by omega)]
        refine ⟨vp_in_nI (by omega) (by decide), ?_⟩
        show pX12_element _ _ _
        refine ⟨rfl, zk_bk hX12_element (bX12_element_0 ?_)⟩
        refine jX12_isShelf ⟨fun q2 => absurd (q2.symm.trans (zk_onShelf hs)) (by decide), fun q2 => jX12_isRow hs ⟨fun q3 => absurd h3 (zk_b_0.mp q3), fun q3 => ⟨vs, jX12_within ⟨fun q4 => ?_, fun q4 => ?_⟩⟩⟩⟩
        · exfalso
          rw [nI_clamp (n := s) (by omega), h7] at q4
          have q5 := zk_b_0.mp q4
          have e8 := nI_toInt (n := i) (by omega)
          clear q4 q3 q2
          ((try simp only [zk_b_0, zk_b_1] at *); simp only [Int32.lt_iff_toInt_lt, Int32.le_iff_toInt_le, ← Int32.toInt_inj, Int32.reduceToInt] at *; omega)
        · rw [zk_idx, nI_clamp (n := 60 * s + i) (by omega)]
          exact ⟨vp_in_nI (by omega) (by decide), h8 i (by omega), R⟩
      · rw [if_neg q]
        refine ⟨fun q => absurd q (by decide), fun _ => ?_⟩
        show pX12_element _ _ _
        refine ⟨rfl, zk_bk hX12_element (bX12_element_0 ?_)⟩
        refine jX12_isShelf ⟨fun q2 => absurd (q2.symm.trans (zk_onShelf hs)) (by decide), fun q2 => jX12_isRow hs ⟨fun q3 => absurd h3 (zk_b_0.mp q3), fun q3 => ⟨vs, jX12_within ⟨fun _ => ⟨rfl, R⟩, fun q4 => ?_⟩⟩⟩⟩
        exfalso
        rw [nI_clamp (n := s) (by omega), h7] at q4
        have q5 := zk_b_n q4
        clear q4 q3 q2
        refine q ⟨q5.1, ?_⟩
        have q6 := q5.2
        clear q5 q
        ((try simp only [zk_b_0, zk_b_1] at *); simp only [Int32.lt_iff_toInt_lt, Int32.le_iff_toInt_le, ← Int32.toInt_inj, Int32.reduceToInt] at *; omega)
theorem e_taken (R : zk_RR lp c m) : pX11_taken [.ref 0, .int x, .int y] c (fun v c' => pX12_taken [.ref 0, .int x, .int y] m (fun v' m' => v = v' ∧ zk_RR lp c' m')) := by
  obtain ⟨P, N, D, U, T, B, R8⟩ := id R
  obtain ⟨-, -, -, -, r5, -, r7, -⟩ := id R8
  obtain ⟨hB, b1, b2, b3⟩ := id r5
  refine ⟨rfl, zk_bk hX11_taken (bX11_taken_0r ?_)⟩
  refine jX11_shelfAt (fun q => ?_) (fun s hs e => ?_)
  · refine zk_bk hX11_taken (bX11_taken_5 ?_)
    show pX12_taken _ _ _
    refine ⟨rfl, zk_bk hX12_taken (bX12_taken_0 ?_)⟩
    exact jX12_isShelf ⟨fun _ => ⟨rfl, R⟩, fun q2 => absurd (zk_isShelf q) q2⟩
  · subst e
    have z1 := zk_shelves hs
    have vs := vp_in_nI (n := s) (N := 6) hs (by decide)
    refine zk_bk hX11_taken (bX11_taken_5a ?_)
    -- the other, up to the state
    have go : ∀ K : Int32 → zk_H → Prop, (¬ (0 ≤ y ∧ y < 8) → K (-1) m) → ((0 ≤ y ∧ y < 8) → m.1 32 s = -1 → K (-11) m) → ((0 ≤ m.1 32 s ∧ m.1 32 s ≤ 4) → K (-12) m) → (∀ j k, j < B → k < 8 → m.1 32 s = nI (10 + j) → m.1 30 j = nI k → y ∈ zk_ch k → K (nI k) m) → (∀ j k, j < B → k < 8 → m.1 32 s = nI (10 + j) → m.1 30 j = nI k → ¬ y ∈ zk_ch k → K (-12) m) → pX12_taken [.ref 0, .int (nI s), .int y] m K := by
      intro K H1 H2 H3 H4 H5
      refine ⟨rfl, zk_bk hX12_taken (bX12_taken_0 ?_)⟩
      refine jX12_isShelf ⟨fun q2 => absurd (q2.symm.trans (zk_onShelf hs)) (by decide), fun _ => jX12_within ⟨fun q1 => ⟨vs, ?_⟩, fun q1 => H1 fun q => zk_b_0.mp q1 (by ((try simp only [zk_b_0, zk_b_1] at *); simp only [Int32.lt_iff_toInt_lt, Int32.le_iff_toInt_le, ← Int32.toInt_inj, Int32.reduceToInt] at *; omega))⟩⟩
      have q1' := zk_b_n q1
      rw [nI_clamp (n := s) (by omega)]
      refine ⟨fun q => jX12_isRow hs ⟨fun q2 => ?_, fun q2 => H3 (zk_b_n q2)⟩, fun q => H2 (by clear q1; ((try simp only [zk_b_0, zk_b_1] at *); simp only [Int32.lt_iff_toInt_lt, Int32.le_iff_toInt_le, ← Int32.toInt_inj, Int32.reduceToInt] at *; omega)) q⟩
      rcases (r7 s hs).is r5.1 with h | ⟨-, -, -, j, hj, h2, h3⟩ | h
      · exact absurd h.2 q
      · obtain ⟨a1, k, hk, a2⟩ := b3 j hj
        rw [h3, show nI (10 + j) - 10 = nI j by rw [Nat.add_comm, ← nI_add]; exact Int32.add_sub_cancel _ _, nI_clamp (n := j) (by omega), a2]
        exact ⟨vs, vp_in_nI (by omega) (by decide), l_taken_61 hk (H4 j k hj hk h3 a2) (H5 j k hj hk h3 a2)⟩
      · exact absurd h.2.2.1 (zk_b_0.mp q2)
    refine jX0_isKind ⟨fun q => ⟨z1.2.1, ?_⟩, fun q => ?_⟩
    · have q' := zk_b_n q
      rcases (r7 s hs).is r5.1 with h | ⟨h1, h2, h3, j, hj, h4, h5⟩ | ⟨h1, h2, h3, -⟩
      · rw [h.1]
        refine ⟨fun q => absurd rfl q, fun _ => ?_⟩
        show pX12_taken _ _ _
        refine go _ (fun q => absurd q' q) (fun _ _ => ⟨rfl, R⟩) (fun q => ?_) (fun j k hj _ e _ _ => ?_) (fun j k hj _ e _ _ => ?_)
        · rw [h.2] at q; exact absurd q (by decide)
        · exact absurd (e.symm.trans h.2) (zk_10 (by omega)).2
        · exact absurd (e.symm.trans h.2) (zk_10 (by omega)).2
      · obtain ⟨a1, k, hk, a2⟩ := b3 j hj
        have fin : ∀ v : Int32, (y ∈ zk_ch k → v = nI k) → (¬ y ∈ zk_ch k → v = -12) → pX12_taken [.ref 0, .int (nI s), .int y] m (fun v' m' => v = v' ∧ zk_RR lp c m') := by
          intro v H1 H0
          refine go _ (fun q => absurd q' q) (fun _ q => absurd q h2) (fun q => absurd q h3) (fun j' k' hj' hk' e1 e2 q => ⟨?_, R⟩) (fun j' k' hj' hk' e1 e2 q => ⟨?_, R⟩)
          · have : j' = j := by have := (nI_eq (by omega) (by omega)).mp (e1.symm.trans h5); omega
            subst this
            have : k' = k := (nI_eq (by omega) (by omega)).mp (e2.symm.trans a2)
            subst this
            exact H1 q
          · have : j' = j := by have := (nI_eq (by omega) (by omega)).mp (e1.symm.trans h5); omega
            subst this
            have : k' = k := (nI_eq (by omega) (by omega)).mp (e2.symm.trans a2)
            subst this
            exact H0 q
        rw [h1, h4]
        refine ⟨fun _ => ⟨z1.2.1, fun q => absurd rfl q, fun _ => ⟨z1.2.1, jX0_isUnder hB hj b1 (a1.trans a2) hk ⟨fun q => ⟨fun _ => ?_, fun q2 => absurd rfl q2⟩, fun q => ⟨fun q2 => absurd q2 (by decide), fun _ => ⟨z1.2.1, ?_⟩⟩⟩⟩⟩, fun q => absurd q (by decide)⟩
        · show pX12_taken _ _ _
          exact fin _ (fun z => absurd z (zk_b_0.mp q)) (fun _ => rfl)
        · rw [h4, nI_clamp (n := j) (by omega)]
          refine ⟨vp_in_nI (by omega) (by decide), ?_⟩
          show pX12_taken _ _ _
          exact fin _ (fun _ => a1.trans a2) (fun z => absurd (zk_b_n q) z)
      · rw [h1]
        refine ⟨fun _ => ⟨z1.2.1, fun _ => ⟨fun _ => ?_, fun q => absurd rfl q⟩, fun q => absurd q (by decide)⟩, fun q => absurd q (by decide)⟩
        show pX12_taken _ _ _
        exact go _ (fun q => absurd q' q) (fun _ q => absurd q h2) (fun _ => ⟨rfl, R⟩) (fun j k hj _ e _ _ => absurd h3 (e ▸ (zk_10 (by omega)).1)) (fun j k hj _ e _ _ => absurd h3 (e ▸ (zk_10 (by omega)).1))
    · show pX12_taken _ _ _
      have q' := zk_b_0.mp q
      refine ⟨rfl, zk_bk hX12_taken (bX12_taken_0 ?_)⟩
      refine jX12_isShelf ⟨fun _ => ⟨rfl, R⟩, fun _ => jX12_within ⟨fun q1 => ?_, fun q1 => ⟨rfl, R⟩⟩⟩
      have q2 := zk_b_n q1
      exact absurd (show 0 ≤ y ∧ y < 8 by clear q q1 q'; ((try simp only [zk_b_0, zk_b_1] at *); simp only [Int32.lt_iff_toInt_lt, Int32.le_iff_toInt_le, ← Int32.toInt_inj, Int32.reduceToInt] at *; omega)) q'
end ZK3
