/-! CALL: people -/
section ZK3
variable {lp : zk_lp} {x y z : Int32}
theorem l_people {N D U T B s X : Nat} {x2 : Int32} (hs : s < 6) (hX : X ≤ 8) : ∀ (n k : Nat), k + n = X → ∀ (P : Nat) (c m : zk_H) (x5 : Int32) (K : Int32 → zk_H → Prop) (tl : zk_L), (tl = [none, none, none] ∨ ∃ x6 x8, tl = [some (.long x6), none, some (.int x8)]) → zk_R8 lp P N D U T B c m → c.1 (46 + 2 * s) 0 = 2 → x5.toInt = x2.toInt + 3 * k →
    (∀ v c', (zk_X zk_D (zk_lkl lkX12) zk_mt (zk_cxl [(153, zk_iP pX12_within), (162, zk_iP pX12_isShelf), (164, zk_iP pX12_newPerson)]) (some .int) (zk_at cdX12_people) (zk_qi (fun v' m' => v = v' ∧ zk_RR lp c' m'))) 50 (some (.ref 0) :: some (.int (nI s)) :: some (.int x2) :: some (.int (nI X)) :: some (.int (nI k)) :: some (.int (nI k)) :: tl) [] m → K v c') →
    (zk_X zk_C (zk_lkl lkX7) zk_mt (zk_cxl [(76, zk_iP pX7_comesFrom)]) (some .int) (zk_at cdX7_peopleCome) (zk_qi K)) 6 [some (.ref 38), some (.retAddr (46 + 2 * s)), some (.int x2), some (.int (nI X)), some (.int (nI k)), some (.int x5)] [] c := by
  intro n
  induction n with
  | zero =>
    intro k hk P c m x5 K tl htl R8 e2 e5 hK
    have hiN : k = X := by omega
    subst hiN
    have le := (nI_leI (a := k) (b := k) (by omega) (by omega)).mpr (Nat.le_refl _)
    refine zk_bk hX7_peopleCome (bX7_peopleCome_6 ?_)
    refine ⟨fun _ => hK _ _ ?_, fun q => absurd le q⟩
    rcases htl with rfl | ⟨x6, x8, rfl⟩
    refine zk_bk hX12_people (bX12_people_50 ?_)
    rotate_left
    refine zk_bk hX12_people (bX12_people_50a ?_)
    all_goals exact ⟨fun _ => ⟨rfl, P, N, D, U, T, B, R8⟩, fun q => absurd le q⟩
  | succ n ih =>
    intro k hk P c m x5 K tl htl R8 e2 e5 hK
    have R : zk_RR lp c m := ⟨P, N, D, U, T, B, R8⟩
    obtain ⟨r1, -, -, -, r5, -, r7, -⟩ := id R8
    obtain ⟨⟨hP, hN⟩, ⟨f1, f2, f3, f4⟩, -⟩ := id r1
    have z1 := zk_shelves hs
    have vs := vp_in_nI (n := s) (N := 6) hs (by decide)
    have h0 : (0 : Int32).toInt = 0 := rfl
    rcases (r7 s hs).is r5.1 with g | ⟨g1, -⟩ | ⟨g1, g2, g3, t, z, ht, hz, g4, g5, g6, g7, g8⟩
    · exact absurd (e2.symm.trans g.1) (by decide)
    · exact absurd (e2.symm.trans g1) (by decide)
    -- the other at this place
    have ob : ∀ Kr : Int32 → zk_H → Prop, (x5 < 0 → Kr (nI k) m) → (∀ q, q < 2 ^ 31 → x5 = nI q → ¬ q + 3 ≤ z → Kr (nI k) m) → (∀ q, x5 = nI q → q + 3 ≤ z → ¬ (zk_fit 2 (m.2 34 (60 * s + q)).toInt32 ∧ zk_fit 4 (m.2 34 (60 * s + (q + 1))).toInt32 ∧ zk_fit 5 (m.2 34 (60 * s + (q + 2))).toInt32 ∧ nI P < 8) → Kr (nI k) m) →
        (∀ q, x5 = nI q → q + 3 ≤ z → zk_fit 2 (m.2 34 (60 * s + q)).toInt32 → zk_fit 4 (m.2 34 (60 * s + (q + 1))).toInt32 → zk_fit 5 (m.2 34 (60 * s + (q + 2))).toInt32 → P < 8 → (zk_X zk_D (zk_lkl lkX12) zk_mt (zk_cxl [(153, zk_iP pX12_within), (162, zk_iP pX12_isShelf), (164, zk_iP pX12_newPerson)]) (some .int) (zk_at cdX12_people) (zk_qi Kr)) 50 [some (.ref 0), some (.int (nI s)), some (.int x2), some (.int (nI X)), some (.int (nI (k + 1))), some (.int (nI (k + 1))), some (.long (nI q).toInt64), none, some (.int (nI (60 * s + q)))] [] (zk_mP m P (m.2 34 (60 * s + q)).toInt32 (m.2 34 (60 * s + (q + 1))).toInt32 (m.2 34 (60 * s + (q + 2))).toInt32)) →
        (zk_X zk_D (zk_lkl lkX12) zk_mt (zk_cxl [(153, zk_iP pX12_within), (162, zk_iP pX12_isShelf), (164, zk_iP pX12_newPerson)]) (some .int) (zk_at cdX12_people) (zk_qi Kr)) 50 (some (.ref 0) :: some (.int (nI s)) :: some (.int x2) :: some (.int (nI X)) :: some (.int (nI k)) :: some (.int (nI k)) :: tl) [] m := by
      intro Kr H1 H2 H3 H4
      rcases htl with rfl | ⟨x6, x8, rfl⟩
      refine zk_bk hX12_people (bX12_people_50 ?_)
      rotate_left
      refine zk_bk hX12_people (bX12_people_50a ?_)
      all_goals
        rw [zk_place (by omega) e5, nI_clamp (n := s) (by omega), g7, lg_cmp_lt, lg_cmp_gt, zk_pl0, Int32.toInt32_toInt64]
        refine ⟨fun q => absurd q (nI_ge (by omega) (by omega)), fun _ => ⟨fun q => H1 q, fun q => ⟨vs, fun q2 => ?_, fun q2 => ?_⟩⟩⟩
        · obtain ⟨q5, hq5, e⟩ := nI_of q
          subst e
          rw [zk_pl3 hq5 hz] at q2
          exact H2 q5 hq5 rfl (by omega)
        · obtain ⟨q5, hq5, e⟩ := nI_of q
          subst e
          rw [zk_pl3 hq5 hz] at q2
          rw [f3, zk_idx, nI_1, nI_2, nI_clamp (n := 60 * s + q5) (by omega), nI_clamp (n := 60 * s + q5 + 1) (by omega), nI_clamp (n := 60 * s + q5 + 2) (by omega)]
          have v0 := vp_in_nI (n := 60 * s + q5) (N := 360) (by omega) (by decide)
          have v1 := vp_in_nI (n := 60 * s + q5 + 1) (N := 360) (by omega) (by decide)
          have v2 := vp_in_nI (n := 60 * s + q5 + 2) (N := 360) (by omega) (by decide)
          refine ⟨fun q3 => ⟨v0, jX12_within ⟨fun q6 => H3 q5 rfl (by omega) fun z => zk_b_0.mp q6 z.1, fun q6 => ⟨v1, jX12_within ⟨fun q7 => H3 q5 rfl (by omega) fun z => zk_b_0.mp q7 z.2.1, fun q7 => ⟨v2, jX12_within ⟨fun q8 => ⟨v0, v1, v2, ?_⟩, fun q8 => H3 q5 rfl (by omega) fun z => zk_b_0.mp q8 z.2.2.1⟩⟩⟩⟩⟩⟩, fun q3 => H3 q5 rfl (by omega) fun z => ?_⟩
          · have hP8 : P < 8 := by
              rcases Nat.lt_or_ge P 8 with a | a
              · exact a
              · exact absurd (by rw [show P = 8 by omega]; rfl) q3
            refine jX12_newPerson f3 hP8 ?_
            rw [nI_1]
            exact H4 q5 rfl (by omega) (zk_b_n q6) (zk_b_n q7) (zk_b_n q8) hP8
          · exact absurd z.2.2.2 (by rw [q3]; decide)
    refine zk_bk hX7_peopleCome (bX7_peopleCome_6 ?_)
    rw [g6]
    have pz := nI_toInt (n := z) (by omega)
    have sz : (nI z - 3).toInt = (z : Int) - 3 := by
      rw [Int32.toInt_sub, pz, show (3 : Int32).toInt = 3 from rfl, Int.bmod_eq_of_le (by omega) (by omega)]
    refine ⟨fun q => absurd q (nI_ge (by omega) (by omega)), fun _ => ⟨fun q1 => hK _ _ ?_, fun q1 => ⟨z1.2.1, fun q2 => hK _ _ ?_, fun q2 => ?_⟩⟩⟩
    · refine ob _ (fun _ => ⟨rfl, R⟩) (fun q _ e _ => ⟨rfl, R⟩) (fun q e h6 => absurd q1 (e ▸ nI_pos (by omega))) (fun q e h6 => absurd q1 (e ▸ nI_pos (by omega)))
    · obtain ⟨q5, hq5, e⟩ := nI_of q1
      rw [Int32.lt_iff_toInt_lt, sz, e, nI_toInt hq5] at q2
      refine ob _ (fun q => absurd q q1) (fun _ _ _ _ => ⟨rfl, R⟩) (fun q e6 h6 => ?_) (fun q e6 h6 => ?_)
      · have := (nI_eq hq5 (by omega)).mp (e.symm.trans e6)
        omega
      · have := (nI_eq hq5 (by omega)).mp (e.symm.trans e6)
        omega
    · obtain ⟨q5, hq5, e⟩ := nI_of q1
      rw [Int32.lt_iff_toInt_lt, sz, e, nI_toInt hq5] at q2
      have e' := nI_toInt hq5
      subst e
      refine jX7_comesFrom hs (by omega) f1 hP (congrArg Int64.toInt32 (g8 q5 (by omega))) (congrArg Int64.toInt32 (g8 (q5 + 1) (by omega))) (congrArg Int64.toInt32 (g8 (q5 + 2) (by omega))) (fun a1 a2 a3 a4 => ⟨fun q => absurd q (by decide), fun _ => ?_⟩) (fun a => ⟨fun _ => hK _ _ ?_, fun q => absurd rfl q⟩)
      · rw [nI_1]
        have e3 : (nI q5 + 3).toInt = (q5 : Int) + 3 := by rw [nI_3, nI_toInt (by omega)]; omega
        refine ih (k + 1) (by omega) (P + 1) _ _ _ K _ (Or.inr ⟨(nI q5).toInt64, nI (60 * s + q5), rfl⟩) (zk_R_person R8 a4 _ _ _) ?_ (by rw [e3]; omega) (fun v c' H => hK v c' (ob _ (fun q => absurd q q1) (fun q hq e6 h6 => ?_) (fun q e6 h6 h7 => ?_) (fun q e6 h6 _ _ _ _ => ?_)))
        · unfold zk_cP
          rw [zk_si_ne (by omega), zk_si_ne (by omega), zk_si_ne (by omega), zk_si_ne (by omega), zk_si_ne (by omega), zk_si_ne (by omega), zk_si_ne (by omega)]
          exact e2
        · have := (nI_eq hq5 hq).mp e6
          omega
        · have := (nI_eq hq5 (by omega)).mp e6
          subst this
          exact absurd ⟨a1, a2, a3, (nI_ltI (b := 8) (by omega) (by decide)).mpr a4⟩ h7
        · have := (nI_eq hq5 (by omega)).mp e6
          subst this
          exact H
      · refine ob _ (fun _ => ⟨rfl, R⟩) (fun _ _ _ _ => ⟨rfl, R⟩) (fun _ _ _ _ => ⟨rfl, R⟩) (fun q e6 h6 b1 b2 b3 b4 => ?_)
        have := (nI_eq hq5 (by omega)).mp e6
        subst this
        exact absurd ⟨b1, b2, b3, (nI_ltI (b := 8) (by omega) (by decide)).mpr b4⟩ a
theorem e_people {c m : zk_H} (R : zk_RR lp c m) : pX11_people [.ref 0, .int x, .int y, .int z] c (fun v c' => pX12_people [.ref 0, .int x, .int y, .int z] m (fun v' m' => v = v' ∧ zk_RR lp c' m')) := by
  obtain ⟨P, N, D, U, T, B, R8⟩ := id R
  obtain ⟨-, -, -, -, r5, -, r7, -⟩ := id R8
  refine ⟨rfl, zk_bk hX11_people (bX11_people_0r ?_)⟩
  refine jX11_shelfAt (fun q => ?_) (fun s hs e => ?_)
  · refine zk_bk hX11_people (bX11_people_5 ?_)
    show pX12_people _ _ _
    refine ⟨rfl, zk_bk hX12_people (bX12_people_0 ?_)⟩
    exact jX12_isShelf ⟨fun _ => ⟨rfl, R⟩, fun q2 => absurd (zk_isShelf q) q2⟩
  · subst e
    have z1 := zk_shelves hs
    have vs := vp_in_nI (n := s) (N := 6) hs (by decide)
    have go : ∀ K : Int32 → zk_H → Prop, (¬ (1 ≤ z ∧ z ≤ 8) → K (-1) m) → ((1 ≤ z ∧ z ≤ 8) → m.1 32 s = -1 → K 0 m) → ((1 ≤ z ∧ z ≤ 8) → ¬ m.1 32 s = -1 → ¬ m.1 32 s = 1 → K (-12) m) → ((1 ≤ z ∧ z ≤ 8) → m.1 32 s = 1 → (zk_X zk_D (zk_lkl lkX12) zk_mt (zk_cxl [(153, zk_iP pX12_within), (162, zk_iP pX12_isShelf), (164, zk_iP pX12_newPerson)]) (some .int) (zk_at cdX12_people) (zk_qi K)) 50 [some (.ref 0), some (.int (nI s)), some (.int y), some (.int z), some (.int 0), some (.int 0), none, none, none] [] m) → pX12_people [.ref 0, .int (nI s), .int y, .int z] m K := by
      intro K H1 H2 H3 H4
      refine ⟨rfl, zk_bk hX12_people (bX12_people_0 ?_)⟩
      refine jX12_isShelf ⟨fun q2 => absurd (q2.symm.trans (zk_onShelf hs)) (by decide), fun _ => jX12_within ⟨fun q1 => ⟨vs, ?_⟩, fun q1 => H1 (zk_b_0.mp q1)⟩⟩
      have q1' := zk_b_n q1
      rw [nI_clamp (n := s) (by omega)]
      exact ⟨fun q => ⟨vs, fun q2 => H4 q1' q2, fun q2 => H3 q1' q q2⟩, fun q => H2 q1' q⟩
    refine zk_bk hX11_people (bX11_people_5a ?_)
    refine ⟨fun q1 => ?_, fun q1 => ⟨fun q2 => ⟨z1.2.1, ?_⟩, fun q2 => ?_⟩⟩
    · show pX12_people _ _ _
      have : ¬ (1 ≤ z ∧ z ≤ 8) := by ((try simp only [zk_b_0, zk_b_1] at *); simp only [Int32.lt_iff_toInt_lt, Int32.le_iff_toInt_le, ← Int32.toInt_inj, Int32.reduceToInt] at *; omega)
      exact go _ (fun _ => ⟨rfl, R⟩) (fun q => absurd q this) (fun q => absurd q this) (fun q => absurd q this)
    · have hz8 : 1 ≤ z ∧ z ≤ 8 := by ((try simp only [zk_b_0, zk_b_1] at *); simp only [Int32.lt_iff_toInt_lt, Int32.le_iff_toInt_le, ← Int32.toInt_inj, Int32.reduceToInt] at *; omega)
      rcases (r7 s hs).is r5.1 with g | ⟨g1, g2, g3, -⟩ | ⟨g1, g2, g3, t, n, ht, hn, g4, g5, g6, g7, g8⟩
      · refine ⟨fun q => absurd g.1 q, fun _ => ?_⟩
        show pX12_people _ _ _
        exact go _ (fun q => absurd hz8 q) (fun _ _ => ⟨rfl, R⟩) (fun _ q => absurd g.2 q) (fun _ q => absurd (q.symm.trans g.2) (by decide))
      · rw [g1]
        refine ⟨fun _ => ⟨z1.2.1, jX8_isRowOf hs ⟨fun _ => ?_, fun q => absurd ((zk_b_n q).1.symm.trans g1) (by decide)⟩⟩, fun q => absurd q (by decide)⟩
        show pX12_people _ _ _
        exact go _ (fun q => absurd hz8 q) (fun _ q => absurd q g2) (fun _ _ _ => ⟨rfl, R⟩) (fun _ q => absurd (by rw [q]; decide) g3)
      · rw [g1]
        refine ⟨fun _ => ⟨z1.2.1, jX8_isRowOf hs ⟨fun q => ?_, fun q => ?_⟩⟩, fun q => absurd q (by decide)⟩
        · have q' := zk_b_0.mp q
          show pX12_people _ _ _
          have : ¬ m.1 32 s = 1 := fun z => q' ⟨g1, by rw [g4, ← g5, z]⟩
          exact go _ (fun q => absurd hz8 q) (fun _ q => absurd q g2) (fun _ _ _ => ⟨rfl, R⟩) (fun _ q => absurd q this)
        · obtain ⟨X, hX, eX⟩ := nI_of2 (x := z) (M := 8) (n := 8) rfl (by ((try simp only [zk_b_0, zk_b_1] at *); simp only [Int32.lt_iff_toInt_lt, Int32.le_iff_toInt_le, ← Int32.toInt_inj, Int32.reduceToInt] at *; omega)) q2
          have e1 : m.1 32 s = 1 := by rw [g5, ← g4, (zk_b_n q).2]
          subst eX
          refine ⟨rfl, zk_bk hX7_peopleCome (bX7_peopleCome_0 ?_)⟩
          refine l_people (X := X) hs hX X 0 (by omega) P c m y _ _ (Or.inl rfl) R8 g1 (by omega) (fun v c' H => ?_)
          show pX12_people _ _ _
          exact go _ (fun q => absurd hz8 q) (fun _ q => absurd q g2) (fun _ _ q => absurd e1 q) (fun _ _ => H)
    · show pX12_people _ _ _
      have : ¬ (1 ≤ z ∧ z ≤ 8) := by ((try simp only [zk_b_0, zk_b_1] at *); simp only [Int32.lt_iff_toInt_lt, Int32.le_iff_toInt_le, ← Int32.toInt_inj, Int32.reduceToInt] at *; omega)
      exact go _ (fun _ => ⟨rfl, R⟩) (fun q => absurd q this) (fun q => absurd q this) (fun q => absurd q this)
end ZK3
