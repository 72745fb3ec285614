/-! CALL: shift -/
section ZK3
variable {lp : zk_lp} {c m : zk_H} {x y z : Int32}
theorem e_shift {u w : Int32} (R : zk_RR lp c m) : pX11_shift [.ref 0, .int x, .int y, .int z, .int u, .int w] c (fun v c' => pX12_shift [.ref 0, .int x, .int y, .int z, .int u, .int w] m (fun v' m' => v = v' ∧ zk_RR lp c' m')) := by
  obtain ⟨P, N, D, U, T, B, R8⟩ := id R
  obtain ⟨-, -, -, -, r5, -, r7, -⟩ := id R8
  have out : (x < 0 ∨ ¬ x ≤ 5) ∨ (z < 0 ∨ ¬ z ≤ 5) → pX12_shift [.ref 0, .int x, .int y, .int z, .int u, .int w] m (fun v' m' => -1 = v' ∧ zk_RR lp c m') := by
    intro q
    refine ⟨rfl, zk_bk hX12_shift (bX12_shift_0 ?_)⟩
    refine jX12_isShelf ⟨fun _ => ⟨rfl, R⟩, fun q1 => jX12_isShelf ⟨fun q2 => ?_, fun _ => ⟨rfl, R⟩⟩⟩
    rcases q with q | q
    · exact absurd (zk_isShelf q) q1
    · exact absurd (zk_isShelf q) q2
  refine ⟨rfl, zk_bk hX11_shift (bX11_shift_0r ?_)⟩
  refine jX11_shelfAt (fun q => ?_) (fun s hs e => ?_)
  · refine zk_bk hX11_shift (bX11_shift_5 ?_)
    refine jX11_shelfAt (fun q2 => ?_) (fun r hr e2 => ?_)
    · refine zk_bk hX11_shift (bX11_shift_12 ?_)
      show pX12_shift _ _ _
      exact out (Or.inl q)
    · refine zk_bk hX11_shift (bX11_shift_12a ?_)
      show pX12_shift _ _ _
      exact out (Or.inl q)
  refine zk_bk hX11_shift (bX11_shift_5a ?_)
  refine jX11_shelfAt (fun q2 => ?_) (fun r hr e2 => ?_)
  · refine zk_bk hX11_shift (bX11_shift_12b ?_)
    show pX12_shift _ _ _
    exact out (Or.inr q2)
  subst e
  subst e2
  clear out
  have z1 := zk_shelves hs
  have z2 := zk_shelves hr
  have vs := vp_in_nI (n := s) (N := 6) hs (by decide)
  have vr := vp_in_nI (n := r) (N := 6) hr (by decide)
  have h0 : (0 : Int32).toInt = 0 := rfl
  -- the other: its answer by the state
  have go : ∀ K : Int32 → zk_H → Prop, (m.1 32 s = -1 ∨ m.1 32 r = -1 → K (-11) m) → (¬ m.1 32 s = -1 → ¬ m.1 32 r = -1 → ¬ (0 ≤ m.1 32 s ∧ m.1 32 s ≤ 4) ∨ ¬ m.1 32 r = m.1 32 s → K (-12) m) →
      (∀ t a b, (0 ≤ m.1 32 s ∧ m.1 32 s ≤ 4) → m.1 32 r = m.1 32 s → m.1 32 s = t → a ≤ 60 → m.1 33 s = nI a → b ≤ 60 → m.1 33 r = nI b → ¬ ((0 ≤ y.toInt ∧ 0 ≤ w.toInt ∧ y.toInt + w.toInt ≤ (a : Int)) ∧ (0 ≤ u.toInt ∧ 0 ≤ w.toInt ∧ u.toInt + w.toInt ≤ (b : Int))) → K (-13) m) →
      (∀ a b n, (0 ≤ m.1 32 s ∧ m.1 32 s ≤ 4) → m.1 32 r = m.1 32 s → y = nI a → u = nI b → w = nI n → a + n ≤ 60 → b + n ≤ 60 → n < 2 ^ 31 → (∀ a' b', a' ≤ 60 → m.1 33 s = nI a' → b' ≤ 60 → m.1 33 r = nI b' → a + n ≤ a' ∧ b + n ≤ b') → ∀ h, h.1 = m.1 → (∀ k, k ≠ 34 → h.2 k = m.2 k) → (∀ j, h.2 34 j = if 60 * r + b ≤ j ∧ j < 60 * r + b + n then m.2 34 (60 * s + a + (j - (60 * r + b))) else m.2 34 j) → K (nI n) h) →
      pX12_shift [.ref 0, .int (nI s), .int y, .int (nI r), .int u, .int w] m K := by
    intro K H1 H2 H3 H4
    refine ⟨rfl, zk_bk hX12_shift (bX12_shift_0 ?_)⟩
    refine jX12_isShelf ⟨fun q2 => absurd (q2.symm.trans (zk_onShelf hs)) (by decide), fun _ => jX12_isShelf ⟨fun _ => ⟨vs, ?_⟩, fun q2 => absurd (q2.symm.trans (zk_onShelf hr)) (by decide)⟩⟩
    rw [nI_clamp (n := s) (by omega)]
    refine ⟨fun q => H1 (Or.inl q), fun q => ⟨vr, ?_⟩⟩
    rw [nI_clamp (n := r) (by omega)]
    refine ⟨fun q2 => jX12_isRow hs ⟨fun q3 => H2 q q2 (Or.inl (zk_b_0.mp q3)), fun q3 => jX12_isRow hr ⟨fun q4 => H2 q q2 (Or.inr fun z => ?_), fun q4 => ⟨vs, vr, ?_⟩⟩⟩, fun q2 => H1 (Or.inr q2)⟩
    · rw [← z] at q3
      exact absurd (zk_b_n q3) (zk_b_0.mp q4)
    have q3' := zk_b_n q3
    have q4' := zk_b_n q4
    refine ⟨fun q5 => ?_, fun q5 => H2 q q2 (Or.inr fun z => q5 z.symm)⟩
    rcases (r7 s hs).is r5.1 with g | g | ⟨g1, g2, g3, t, a, ht, ha, g4, g5, g6, g7, g8⟩
    · exact absurd g.2 q
    · exact absurd q3' g.2.2.1
    rcases (r7 r hr).is r5.1 with k | k | ⟨k1, k2, k3, t', b, ht', hb, k4, k5, k6, k7, k8⟩
    · exact absurd k.2 q2
    · exact absurd q4' k.2.2.1
    have ref : ¬ ((0 ≤ y.toInt ∧ 0 ≤ w.toInt ∧ y.toInt + w.toInt ≤ (a : Int)) ∧ (0 ≤ u.toInt ∧ 0 ≤ w.toInt ∧ u.toInt + w.toInt ≤ (b : Int))) → K (-13) m := H3 _ a b q3' q5.symm rfl ha g7 hb k7
    refine ⟨fun q6 => ref fun z => ?_, fun q6 => ⟨fun q7 => ref fun z => ?_, fun q7 => ⟨fun q8 => ref fun z => ?_, fun q8 => ⟨vs, ?_⟩⟩⟩⟩
    · simp only [Int32.lt_iff_toInt_lt] at q6; omega
    · simp only [Int32.lt_iff_toInt_lt] at q7; omega
    · simp only [Int32.lt_iff_toInt_lt] at q8; omega
    obtain ⟨n, hn, ew⟩ := nI_of q6
    obtain ⟨i, hi, ey⟩ := nI_of q7
    obtain ⟨j, hj, eu⟩ := nI_of q8
    subst ew
    subst ey
    subst eu
    rw [nI_toInt hn, nI_toInt hi, nI_toInt hj] at ref
    rw [g7, k7, lg_cmp_gt, lg_cmp_le]
    refine ⟨fun q9 => ref fun z => ?_, fun q9 => ⟨vr, fun q10 => ?_, fun q10 => ref fun z => ?_⟩⟩
    · rw [zk_lsum hi hn ha] at q9; omega
    · rw [zk_lsum hi hn ha] at q9
      rw [← Int64.not_lt, zk_lsum hj hn hb] at q10
      have fin := H4 i j n q3' q5.symm rfl rfl rfl (by omega) (by omega) hn (fun a' b' ha' ea' hb' eb' => by
        have u1 := (nI_eq (by omega) (by omega)).mp (ea'.symm.trans g7)
        have u2 := (nI_eq (by omega) (by omega)).mp (eb'.symm.trans k7)
        omega)
      refine ⟨fun q11 => ?_, fun q11 => ⟨fun q12 => ?_, fun q12 => ?_⟩⟩
      · have hne : s ≠ r := fun z => q11 (by rw [z])
        refine l_shift_188 (m0 := m) (N := n) hs hr (by omega) (by omega) (by omega) fin n 0 (by omega) m rfl (fun _ _ => rfl) (fun j => by rw [if_neg (by omega)])
      · have he : s = r := (nI_eq (by omega) (by omega)).mp q11
        rw [nI_leI (by omega) (by omega)] at q12
        refine l_shift_188 (m0 := m) (N := n) hs hr (by omega) (by omega) (by omega) fin n 0 (by omega) m rfl (fun _ _ => rfl) (fun j => by rw [if_neg (by omega)])
      · have he : s = r := (nI_eq (by omega) (by omega)).mp q11
        rw [nI_leI (by omega) (by omega)] at q12
        refine l_shift_142 (m0 := m) (N := n) hs hr (by omega) (by omega) (by omega) fin n (Nat.le_refl _) m rfl (fun _ _ => rfl) (fun j => by rw [if_neg (by omega)])
    · rw [← Int64.not_lt, zk_lsum hj hn hb] at q10
      omega
  refine zk_bk hX11_shift (bX11_shift_12c ?_)
  refine ⟨z1.2.1, ?_⟩
  rcases (r7 s hs).is r5.1 with g | ⟨g1, g2, g3, -⟩ | ⟨g1, g2, g3, t, a, ht, ha, g4, g5, g6, g7, g8⟩
  · refine ⟨fun _ => ?_, fun q => absurd g.1 q⟩
    show pX12_shift _ _ _
    exact go _ (fun _ => ⟨rfl, R⟩) (fun q => absurd g.2 q) (fun _ _ _ q => absurd q (by rw [g.2]; decide)) (fun _ _ _ q => absurd q (by rw [g.2]; decide))
  · rw [g1]
    refine ⟨fun q => absurd q (by decide), fun _ => ⟨z2.2.1, ?_⟩⟩
    rcases (r7 r hr).is r5.1 with k | k | k
    · refine ⟨fun q => absurd k.1 q, fun _ => ?_⟩
      show pX12_shift _ _ _
      exact go _ (fun _ => ⟨rfl, R⟩) (fun _ q => absurd k.2 q) (fun _ _ _ q => absurd q g3) (fun _ _ _ q => absurd q g3)
    · refine ⟨fun _ => ⟨z1.2.1, fun _ => ?_, fun q => absurd q (by decide)⟩, fun q => absurd (k.1.symm.trans q) (by decide)⟩
      show pX12_shift _ _ _
      exact go _ (fun q => by rcases q with q | q; exact absurd q g2; exact absurd q k.2.1) (fun _ _ _ => ⟨rfl, R⟩) (fun _ _ _ q => absurd q g3) (fun _ _ _ q => absurd q g3)
    · refine ⟨fun _ => ⟨z1.2.1, fun _ => ?_, fun q => absurd q (by decide)⟩, fun q => absurd (k.1.symm.trans q) (by decide)⟩
      show pX12_shift _ _ _
      exact go _ (fun q => by rcases q with q | q; exact absurd q g2; exact absurd q k.2.1) (fun _ _ _ => ⟨rfl, R⟩) (fun _ _ _ q => absurd q g3) (fun _ _ _ q => absurd q g3)
  · rw [g1]
    refine ⟨fun q => absurd q (by decide), fun _ => ⟨z2.2.1, ?_⟩⟩
    rcases (r7 r hr).is r5.1 with k | ⟨k1, k2, k3, -⟩ | ⟨k1, k2, k3, t', b, ht', hb, k4, k5, k6, k7, k8⟩
    · refine ⟨fun q => absurd k.1 q, fun _ => ?_⟩
      show pX12_shift _ _ _
      exact go _ (fun _ => ⟨rfl, R⟩) (fun _ q => absurd k.2 q) (fun _ _ _ _ q => absurd (q.trans g5) (by rw [k.2]; exact fun z => zk_tne ht z.symm)) (fun _ _ _ _ q => absurd (q.trans g5) (by rw [k.2]; exact fun z => zk_tne ht z.symm))
    · refine ⟨fun _ => ⟨z1.2.1, fun q => absurd rfl q, fun _ => ⟨z1.2.1, z2.2.1, jX8_isRowOf hr ⟨fun q => ?_, fun _ => ?_⟩⟩⟩, fun q => absurd (k1.symm.trans q) (by decide)⟩
      · exact absurd ((zk_b_n q).1.symm.trans k1) (by decide)
      · show pX12_shift _ _ _
        exact go _ (fun q => by rcases q with q | q; exact absurd q g2; exact absurd q k2) (fun _ _ _ => ⟨rfl, R⟩) (fun _ _ _ q e => absurd q (by rw [← e]; exact k3)) (fun _ _ _ q e => absurd q (by rw [← e]; exact k3))
    · refine ⟨fun _ => ⟨z1.2.1, fun q => absurd rfl q, fun _ => ⟨z1.2.1, z2.2.1, jX8_isRowOf hr ⟨fun q => ⟨z1.2.1, ?_⟩, fun q => ?_⟩⟩⟩, fun q => absurd (k1.symm.trans q) (by decide)⟩
      · have et : nI t' = nI t := by rw [← k4, (zk_b_n q).2, g4]
        have no : ∀ v : Int32, v = -13 → ¬ ((0 ≤ y.toInt ∧ 0 ≤ w.toInt ∧ y.toInt + w.toInt ≤ (a : Int)) ∧ (0 ≤ u.toInt ∧ 0 ≤ w.toInt ∧ u.toInt + w.toInt ≤ (b : Int))) → pX12_shift [.ref 0, .int (nI s), .int y, .int (nI r), .int u, .int w] m (fun v' m' => v = v' ∧ zk_RR lp c m') := by
          intro v hv hno
          refine go _ (fun q => by rcases q with q | q; exact absurd q g2; exact absurd q k2) (fun _ _ q => ?_) (fun _ a' b' _ _ _ ha' ea' hb' eb' _ => ⟨hv, R⟩) (fun a' b' n' _ _ e1 e2 e3 la lb _ big => absurd ?_ hno)
          · rcases q with q | q
            · exact absurd g3 q
            · exact absurd (by rw [k5, g5, et]) q
          · have u := big a b ha g7 hb k7
            rw [e1, e2, e3, nI_toInt (by omega), nI_toInt (by omega), nI_toInt (by omega)]
            omega
        refine jX8_hasPlaces hs ha g6 ⟨fun q2 => ?_, fun q2 => ⟨z2.2.1, jX8_hasPlaces hr hb k6 ⟨fun q3 => ⟨z1.2.1, _, z1.2.2.1, z2.2.1, _, z2.2.2.1, _, z1.2.2.2, _, z2.2.2.2, ?_⟩, fun q3 => ?_⟩⟩⟩
        · show pX12_shift _ _ _
          exact no _ rfl fun z => zk_b_0.mp q2 z.1
        · have p2 := zk_b_n q2
          have p3 := zk_b_n q3
          obtain ⟨i, hi, ey⟩ := nI_of (x := y) (by rw [Int32.lt_iff_toInt_lt, h0]; omega)
          obtain ⟨j, hj, eu⟩ := nI_of (x := u) (by rw [Int32.lt_iff_toInt_lt, h0]; omega)
          obtain ⟨n, hn, ew⟩ := nI_of (x := w) (by rw [Int32.lt_iff_toInt_lt, h0]; omega)
          subst ey
          subst eu
          subst ew
          rw [nI_toInt hi, nI_toInt hn] at p2
          rw [nI_toInt hj, nI_toInt hn] at p3
          rw [nI_clamp (n := i) (by omega), nI_clamp (n := j) (by omega), nI_clamp (n := n) (by omega)]
          refine ⟨⟨nI_pos hi, nI_pos hj, nI_pos hn, by omega, by omega⟩, ?_⟩
          show pX12_shift _ _ _
          refine go _ (fun q => by rcases q with q | q; exact absurd q g2; exact absurd q k2) (fun _ _ q => ?_) (fun _ a' b' _ _ _ ha' ea' hb' eb' q => absurd ?_ q) (fun i' j' n' _ _ e1 e2 e3 la lb hn' big h hh1 hh2 hh3 => ?_)
          · rcases q with q | q
            · exact absurd g3 q
            · exact absurd (by rw [k5, g5, et]) q
          · have u1 := (nI_eq (by omega) (by omega)).mp (ea'.symm.trans g7)
            have u2 := (nI_eq (by omega) (by omega)).mp (eb'.symm.trans k7)
            subst u1
            subst u2
            rw [nI_toInt hi, nI_toInt hn, nI_toInt hj]
            exact ⟨p2, p3⟩
          · have u1 := (nI_eq (by omega) (by omega)).mp e1
            have u2 := (nI_eq (by omega) (by omega)).mp e2
            have u3 := (nI_eq hn hn').mp e3
            subst u1
            subst u2
            subst u3
            refine ⟨rfl, P, N, D, U, T, B, zk_R_she R8 hr (Or.inr (Or.inr ⟨k1, t', b, ht', hb, k4, by rw [hh1]; exact k5, k6, by rw [hh1]; exact k7, fun k hk => ?_⟩)) (fun k hk => rfl) (fun k hk => by simp [zk_wl, hk]) (fun k _ _ => by rw [hh1]) (fun _ _ => by rw [hh1]; exact ⟨rfl, rfl⟩) (fun k hk => ?_)⟩
            · rw [hh3]
              simp only [zk_wl, if_true, va_cpy]
              by_cases e4 : j ≤ k ∧ k < j + n
              · rw [if_pos e4, if_pos (by omega), g8 _ (by omega)]
                rw [show 60 * s + i + (60 * r + k - (60 * r + j)) = 60 * s + (i + (k - j)) by omega]
              · rw [if_neg e4, if_neg (by omega), k8 k hk]
            · rw [hh3, if_neg (by omega)]
        · show pX12_shift _ _ _
          exact no _ rfl fun z => zk_b_0.mp q3 z.2
      · show pX12_shift _ _ _
        exact go _ (fun q => by rcases q with q | q; exact absurd q g2; exact absurd q k2) (fun _ _ _ => ⟨rfl, R⟩) (fun _ _ _ _ e => absurd ⟨k1, by rw [k4, g4, ← k5, ← g5, e]⟩ (zk_b_0.mp q)) (fun _ _ _ _ e => absurd ⟨k1, by rw [k4, g4, ← k5, ← g5, e]⟩ (zk_b_0.mp q))
end ZK3
