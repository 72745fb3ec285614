/-! CALLS: keep, row, put, element, taken -/
section ZK3
variable {lp : zk_lp} {c m : zk_H} {x y z : Int32}
theorem zk_idx {s i : Nat} : ((60 : Int32) * nI s) + nI i = nI (60 * s + i) := by
  rw [show (60 : Int32) * nI s = nI (60 * s) from (Int32.ofNat_mul 60 s).symm, nI_add]
theorem zk_t4 {t : Nat} (h : t < 5) : 0 ≤ nI t ∧ nI t ≤ 4 := by
  have e := nI_toInt (n := t) (by omega)
  ((try simp only [zk_b_0, zk_b_1] at *); simp only [Int32.lt_iff_toInt_lt, Int32.le_iff_toInt_le, ← Int32.toInt_inj, Int32.reduceToInt] at *; omega)
theorem zk_tne {t : Nat} (h : t < 5) : ¬ nI t = -1 := by
  have e := nI_toInt (n := t) (by omega)
  ((try simp only [zk_b_0, zk_b_1] at *); simp only [Int32.lt_iff_toInt_lt, Int32.le_iff_toInt_le, ← Int32.toInt_inj, Int32.reduceToInt] at *; omega)
theorem zk_10 {j : Nat} (h : j < 50) : ¬ (0 ≤ nI (10 + j) ∧ nI (10 + j) ≤ 4) ∧ ¬ nI (10 + j) = -1 := by
  have e := nI_toInt (n := 10 + j) (by omega)
  ((try simp only [zk_b_0, zk_b_1] at *); simp only [Int32.lt_iff_toInt_lt, Int32.le_iff_toInt_le, ← Int32.toInt_inj, Int32.reduceToInt] at *; omega)
/-- a shelf, its three states -/
theorem zk_she.is {B s : Nat} (h : zk_she B s c m) (hB : B ≤ 50) : (c.1 (46 + 2 * s) 0 = 0 ∧ m.1 32 s = -1) ∨ (c.1 (46 + 2 * s) 0 = 1 ∧ ¬ m.1 32 s = -1 ∧ ¬ (0 ≤ m.1 32 s ∧ m.1 32 s ≤ 4) ∧ ∃ j, j < B ∧ c.1 (46 + 2 * s) 1 = nI j ∧ m.1 32 s = nI (10 + j)) ∨
    (c.1 (46 + 2 * s) 0 = 2 ∧ ¬ m.1 32 s = -1 ∧ (0 ≤ m.1 32 s ∧ m.1 32 s ≤ 4) ∧ ∃ t z, t < 5 ∧ z ≤ 60 ∧ c.1 (46 + 2 * s) 2 = nI t ∧ m.1 32 s = nI t ∧ c.1 (46 + 2 * s) 3 = nI z ∧ m.1 33 s = nI z ∧ ∀ i, i < 60 → c.2 (47 + 2 * s) i = m.2 34 (60 * s + i)) := by
  rcases h with h | ⟨h1, j, hj, h2, h3⟩ | ⟨h1, t, z, ht, hz, h2, h3, h4⟩
  · exact Or.inl h
  · refine Or.inr (Or.inl ⟨h1, ?_, ?_, j, hj, h2, h3⟩)
    · rw [h3]; exact (zk_10 (by omega)).2
    · rw [h3]; exact (zk_10 (by omega)).1
  · refine Or.inr (Or.inr ⟨h1, ?_, ?_, t, z, ht, hz, h2, h3, h4⟩)
    · rw [h3]; exact zk_tne ht
    · rw [h3]; exact zk_t4 ht
theorem e_keep (R : zk_RR lp c m) : pX11_keep [.ref 0, .int x, .int y] c (fun v c' => pX12_keep [.ref 0, .int x, .int y] m (fun v' m' => v = v' ∧ zk_RR lp c' m')) := by
  obtain ⟨P, N, D, U, T, B, R8⟩ := id R
  obtain ⟨-, -, -, -, r5, -, r7, -⟩ := id R8
  obtain ⟨hB, b1, b2, b3⟩ := id r5
  have eB := nI_toInt (n := B) (by omega)
  have pB := zk_pm (n := B) (by omega)
  refine ⟨rfl, zk_bk hX11_keep (bX11_keep_0r ?_)⟩
  refine jX11_shelfAt (fun q => ?_) (fun s hs e => ?_)
  · refine zk_bk hX11_keep (bX11_keep_5 ?_)
    show pX12_keep _ _ _
    refine ⟨rfl, zk_bk hX12_keep (bX12_keep_0 ?_)⟩
    exact jX12_isShelf ⟨fun _ => ⟨rfl, R⟩, fun q2 => absurd (zk_isShelf q) q2⟩
  · subst e
    have z1 := zk_shelves hs
    refine zk_bk hX11_keep (bX11_keep_5a ?_)
    refine ⟨fun q => ⟨z1.2.1, ?_⟩, fun q => jX0_isBody ⟨fun q2 => ⟨z1.2.1, ?_⟩, fun q2 => ?_⟩⟩
    · subst q
      refine ⟨rfl, zk_bk hX8_holdLook (bX8_holdLook_0 ?_)⟩
      refine ⟨fun q => absurd q (by decide), fun _ => ⟨z1.2.1, z1.2.1, ?_⟩⟩
      show pX12_keep _ _ _
      refine ⟨rfl, zk_bk hX12_keep (bX12_keep_0 ?_)⟩
      refine jX12_isShelf ⟨fun q2 => absurd (q2.symm.trans (zk_onShelf hs)) (by decide), fun _ => jX12_within ⟨fun _ => ⟨fun q => absurd q (by decide), fun _ => ?_⟩, fun q2 => ?_⟩⟩
      · rw [nI_clamp (by omega)]
        refine ⟨vp_in_nI hs (by decide), vp_in_nI hs (by decide), rfl, P, N, D, U, T, B, zk_R_she R8 hs (Or.inl ⟨by simp [zk_si], by simp [zk_si]⟩) (fun k hk => by rw [zk_si_ne hk, zk_si_ne hk]) (fun k hk => rfl) (fun k h1 h2 => by rw [zk_si_ne h2, zk_si_ne h1]) (fun i hi => ⟨by simp [zk_si, hi], by simp [zk_si, hi]⟩) (fun i hi => rfl)⟩
      · exfalso
        rw [b2] at q2
        ((try simp only [zk_b_0, zk_b_1] at *); simp only [Int32.lt_iff_toInt_lt, Int32.le_iff_toInt_le, ← Int32.toInt_inj, Int32.reduceToInt] at *; omega)
    · rw [b1] at q2
      obtain ⟨j, hj, ej⟩ := zk_ix (by omega) (zk_b_n q2).1 (zk_b_n q2).2
      subst ej
      have ej := nI_toInt (n := j) (by omega)
      refine ⟨rfl, zk_bk hX8_holdLook (bX8_holdLook_0 ?_)⟩
      refine ⟨fun _ => ⟨z1.2.1, z1.2.1, ?_⟩, fun q => absurd (nI_pos' (by omega)) q⟩
      show pX12_keep _ _ _
      refine ⟨rfl, zk_bk hX12_keep (bX12_keep_0 ?_)⟩
      refine jX12_isShelf ⟨fun q2 => absurd (q2.symm.trans (zk_onShelf hs)) (by decide), fun _ => jX12_within ⟨fun _ => ⟨fun _ => ?_, fun q => absurd (nI_pos' (by omega)) q⟩, fun q2 => ?_⟩⟩
      · rw [nI_clamp (n := s) (by omega)]
        refine ⟨vp_in_nI hs (by decide), vp_in_nI hs (by decide), rfl, P, N, D, U, T, B, zk_R_she R8 hs (Or.inr (Or.inl ⟨by simp [zk_si], j, hj, by simp [zk_si], ?_⟩)) (fun k hk => by rw [zk_si_ne hk, zk_si_ne hk]) (fun k hk => rfl) (fun k h1 h2 => by rw [zk_si_ne h2, zk_si_ne h1]) (fun i hi => ⟨by simp [zk_si, hi], by simp [zk_si, hi]⟩) (fun i hi => rfl)⟩
        rw [zk_si_ne (by decide), zk_si_at, if_pos rfl]
        exact nI_add 10 j
      · exfalso
        rw [b2] at q2
        clear q
        ((try simp only [zk_b_0, zk_b_1] at *); simp only [Int32.lt_iff_toInt_lt, Int32.le_iff_toInt_le, ← Int32.toInt_inj, Int32.reduceToInt] at *; omega)
    · rw [b1] at q2
      have q3 := zk_b_0.mp q2
      show pX12_keep _ _ _
      refine ⟨rfl, zk_bk hX12_keep (bX12_keep_0 ?_)⟩
      refine jX12_isShelf ⟨fun _ => ⟨rfl, R⟩, fun _ => jX12_within ⟨fun q4 => ?_, fun _ => ⟨rfl, R⟩⟩⟩
      exfalso
      have q5 := zk_b_n q4
      rw [b2] at q5
      refine q3 ?_
      clear q2 q4
      ((try simp only [zk_b_0, zk_b_1] at *); simp only [Int32.lt_iff_toInt_lt, Int32.le_iff_toInt_le, ← Int32.toInt_inj, Int32.reduceToInt] at *; omega)
theorem e_put {x3 : Int64} (R : zk_RR lp c m) : pX11_put [.ref 0, .int x, .int y, .long x3] c (fun v c' => pX12_put [.ref 0, .int x, .int y, .long x3] m (fun v' m' => v = v' ∧ zk_RR lp c' m')) := by
  obtain ⟨P, N, D, U, T, B, R8⟩ := id R
  obtain ⟨-, -, -, -, r5, -, r7, -⟩ := id R8
  refine ⟨rfl, zk_bk hX11_put (bX11_put_0r ?_)⟩
  refine jX11_shelfAt (fun q => ?_) (fun s hs e => ?_)
  · refine zk_bk hX11_put (bX11_put_5 ?_)
    show pX12_put _ _ _
    refine ⟨rfl, zk_bk hX12_put (bX12_put_0 ?_)⟩
    exact jX12_isShelf ⟨fun q2 => absurd (zk_isShelf q) q2, fun _ => ⟨rfl, R⟩⟩
  · subst e
    have z1 := zk_shelves hs
    have vs := vp_in_nI (n := s) (N := 6) hs (by decide)
    refine zk_bk hX11_put (bX11_put_5a ?_)
    refine ⟨z1.2.1, jX8_refusalOfPlace hs ?_⟩
    -- the other, up to the state
    have go : ∀ K : Int32 → zk_H → Prop, (m.1 32 s = -1 → K (-11) m) → (¬ m.1 32 s = -1 → ¬ (0 ≤ m.1 32 s ∧ m.1 32 s ≤ 4) → K (-12) m) → (∀ t z, t < 5 → z ≤ 60 → m.1 32 s = nI t → m.1 33 s = nI z → ¬ (0 ≤ y ∧ y < nI z) → K (-13) m) →
        (∀ t z i, t < 5 → z ≤ 60 → m.1 32 s = nI t → m.1 33 s = nI z → y = nI i → i < z → K 1 (zk_sl m 34 (60 * s + i) (if t = 0 then x3.toInt32.toInt8.toInt32.toInt64 else if t = 1 then x3.toInt32.toInt16.toInt32.toInt64 else if t = 2 then x3.toInt32.toInt64 else if t = 3 then x3 else if x3 = 0 then 0 else 1))) →
        pX12_put [.ref 0, .int (nI s), .int y, .long x3] m K := by
      intro K H1 H2 H3 H4
      refine ⟨rfl, zk_bk hX12_put (bX12_put_0 ?_)⟩
      refine jX12_isShelf ⟨fun _ => ⟨vs, ?_⟩, fun q2 => absurd (q2.symm.trans (zk_onShelf hs)) (by decide)⟩
      rw [nI_clamp (n := s) (by omega)]
      refine ⟨fun q => jX12_isRow hs ⟨fun q2 => ⟨vs, jX12_within ⟨fun q3 => ⟨vs, ?_⟩, fun q3 => ?_⟩⟩, fun q2 => H2 q (zk_b_0.mp q2)⟩, fun q => H1 q⟩
      · rcases (r7 s hs).is r5.1 with h | h | ⟨h1, h2, h3, t, z, ht, hz, h4, h5, h6, h7, h8⟩
        · exact absurd h.2 q
        · exact absurd (zk_b_n q2) h.2.2.1
        · have e7 := nI_toInt (n := z) (by omega)
          have p7 := zk_pm (n := z) (by omega)
          have q4 := zk_b_n q3
          rw [h7] at q4
          obtain ⟨i, hi, ei⟩ := zk_ix (x := y) (n := z) (by omega) q4.1 (by
            have a := q4.2
            clear q3 q2
            ((try simp only [zk_b_0, zk_b_1] at *); simp only [Int32.lt_iff_toInt_lt, Int32.le_iff_toInt_le, ← Int32.toInt_inj, Int32.reduceToInt] at *; omega))
          subst ei
          rw [h5, zk_idx, nI_clamp (n := 60 * s + i) (by omega)]
          exact zk_keep_ ht ⟨vp_in_nI (by omega) (by decide), H4 t z i ht hz h5 h7 rfl hi⟩
      · rcases (r7 s hs).is r5.1 with h | h | ⟨h1, h2, h3, t, z, ht, hz, h4, h5, h6, h7, h8⟩
        · exact absurd h.2 q
        · exact absurd (zk_b_n q2) h.2.2.1
        · have e7 := nI_toInt (n := z) (by omega)
          have p7 := zk_pm (n := z) (by omega)
          have q4 := zk_b_0.mp q3
          rw [h7] at q4
          refine H3 t z ht hz h5 h7 fun q5 => q4 ⟨q5.1, ?_⟩
          have a := q5.2
          clear q3 q2 q4
          ((try simp only [zk_b_0, zk_b_1] at *); simp only [Int32.lt_iff_toInt_lt, Int32.le_iff_toInt_le, ← Int32.toInt_inj, Int32.reduceToInt] at *; omega)
    rcases (r7 s hs).is r5.1 with h | h | ⟨h1, h2, h3, t, z, ht, hz, h4, h5, h6, h7, h8⟩
    · rw [if_neg (by rw [h.1]; decide), if_pos h.1]
      refine ⟨fun q => absurd q (by decide), fun _ => ?_⟩
      show pX12_put _ _ _
      exact go _ (fun _ => ⟨rfl, R⟩) (fun q => absurd h.2 q) (fun t z ht _ e => absurd (e.symm.trans h.2) (zk_tne ht)) (fun t z _ ht _ e => absurd (e.symm.trans h.2) (zk_tne ht))
    · rw [if_neg (by rw [h.1]; decide), if_neg (by rw [h.1]; decide)]
      refine ⟨fun q => absurd q (by decide), fun _ => ?_⟩
      show pX12_put _ _ _
      exact go _ (fun q => absurd q h.2.1) (fun _ _ => ⟨rfl, R⟩) (fun t z ht _ e => absurd (e ▸ zk_t4 ht) h.2.2.1) (fun t z _ ht _ e => absurd (e ▸ zk_t4 ht) h.2.2.1)
    · rw [if_pos h1, h6]
      by_cases q : 0 ≤ y ∧ y < nI z
      · rw [if_pos q]
        obtain ⟨i, hi, ei⟩ := zk_ix (by omega) q.1 q.2
        refine ⟨fun _ => ⟨z1.2.1, _, z1.2.2.1, z1.2.1, jX8_lowestBits hs ht h4 ⟨_, z1.2.2.2, ?_⟩⟩, fun q => absurd rfl q⟩
        rw [ei, nI_clamp (by omega)]
        refine ⟨vp_in_nI (by omega) (by decide), ?_⟩
        show pX12_put _ _ _
        rw [← ei]
        refine go _ (fun q => absurd q h2) (fun _ q => absurd h3 q) (fun t' z' _ hz' e e2 q2 => ?_) (fun t' z' i' ht' hz' e e2 e3 hi' => ⟨rfl, P, N, D, U, T, B, ?_⟩)
        · have : z' = z := (nI_eq (by omega) (by omega)).mp (e2.symm.trans h7)
          subst this
          exact absurd q q2
        · have a1 : t' = t := (nI_eq (by omega) (by omega)).mp (e.symm.trans h5)
          have a2 : i' = i := (nI_eq (by omega) (by omega)).mp (e3.symm.trans ei)
          subst a1
          subst a2
          refine zk_R_she R8 hs (Or.inr (Or.inr ⟨h1, t', z, ht, hz, h4, h5, h6, h7, fun k hk => ?_⟩)) (fun k hk => rfl) (fun k hk => by unfold zk_sl; simp [hk]) (fun k _ _ => rfl) (fun _ _ => ⟨rfl, rfl⟩) (fun k hk => ?_)
          · have a3 := h8 k hk
            by_cases e4 : k = i'
            · subst e4; simp [zk_sl]
            · have : ¬ 60 * s + k = 60 * s + i' := by omega
              simp [zk_sl, e4, a3]
          · have : ¬ k = 60 * s + i' := by omega
            simp [zk_sl, this]
      · rw [if_neg q]
        refine ⟨fun q => absurd q (by decide), fun _ => ?_⟩
        show pX12_put _ _ _
        refine go _ (fun q => absurd q h2) (fun _ q => absurd h3 q) (fun t' z' _ hz' e e2 q2 => ⟨rfl, R⟩) (fun t' z' i' ht' hz' e e2 e3 hi' => ?_)
        have : z' = z := (nI_eq (by omega) (by omega)).mp (e2.symm.trans h7)
        subst this
        exact absurd (e3 ▸ zk_xi (by omega) hi') q
end ZK3
