/-! CALL: mend -/
section ZK3
variable {lp : zk_lp} {c m : zk_H} {x y z : Int32}
theorem l_mend_56 {K : Int32 → zk_H → Prop} {m0 : zk_H} {x1 x2 x3 x4 : Int32} (next : ∀ h, zk_ex [29] m0 h → (∀ j, j < 156 → h.1 29 j = m0.1 29 (j + 4)) → (zk_X zk_D (zk_lkl lkX12) zk_mt (zk_cxl [(170, zk_iP pX12_isOf), (171, zk_iP pX12_isFit), (172, zk_iP pX12_get), (173, zk_vP pX12_becomes)]) (some .int) (zk_at cdX12_mend) (zk_qi K)) 56 [some (.ref 0), some (.int x1), some (.int x2), some (.int x3), some (.int x4), some (.int (nI 156))] [] h) :
    ∀ (n i : Nat), i + n = 156 → ∀ h, zk_ex [29] m0 h → (∀ j, j < i → h.1 29 j = m0.1 29 (j + 4)) → (∀ j, i ≤ j → h.1 29 j = m0.1 29 j) → (zk_X zk_D (zk_lkl lkX12) zk_mt (zk_cxl [(170, zk_iP pX12_isOf), (171, zk_iP pX12_isFit), (172, zk_iP pX12_get), (173, zk_vP pX12_becomes)]) (some .int) (zk_at cdX12_mend) (zk_qi K)) 56 [some (.ref 0), some (.int x1), some (.int x2), some (.int x3), some (.int x4), some (.int (nI i))] [] h := by
  intro n
  induction n with
  | zero =>
    intro i hi h he hj hk
    have hiN : i = 156 := by omega
    subst hiN
    exact next h he hj
  | succ n ih =>
    intro i hi h he hj hk
    refine zk_bk hX12_mend (bX12_mend_56 ?_)
    refine ⟨fun q => absurd q (nI_ge (b := 156) (by omega) (by decide)), fun _ => ?_⟩
    rw [nI_p4, nI_1, nI_clamp (n := i) (by omega), nI_clamp (n := i + 4) (by omega)]
    refine ⟨vp_in_nI (by omega) (by decide), vp_in_nI (by omega) (by decide), ih (i + 1) (by omega) _ (he.si (by simp)) (fun j hj2 => ?_) (fun j hj2 => ?_)⟩
    · rw [zk_si_at]
      by_cases e : j = i
      · rw [if_pos e, e, hk _ (by omega)]
      · rw [if_neg e]
        exact hj j (by omega)
    · rw [zk_si_at, if_neg (by omega)]
      exact hk j (by omega)
/-- what the ring of changes holds behind a push -/
theorem zk_p29 {h : zk_H} {D i : Nat} {a b v z e f : Int32} (hi : i ≤ D) :
    let h' := zk_si (zk_si (zk_si (zk_si (zk_si (zk_si h 29 (4 * D) a) 29 (4 * D + 1) b) 29 (4 * D + 2) v) 29 (4 * D + 3) z) 0 42 e) 0 41 f
    h'.1 29 (4 * i) = (if i = D then a else h.1 29 (4 * i)) ∧ h'.1 29 (4 * i + 1) = (if i = D then b else h.1 29 (4 * i + 1)) ∧ h'.1 29 (4 * i + 2) = (if i = D then v else h.1 29 (4 * i + 2)) ∧ h'.1 29 (4 * i + 3) = (if i = D then z else h.1 29 (4 * i + 3)) := by
  intro h'
  have q : ∀ k, h'.1 29 k = if k = 4 * D + 3 then z else if k = 4 * D + 2 then v else if k = 4 * D + 1 then b else if k = 4 * D then a else h.1 29 k := fun k => by
    show (zk_si (zk_si (zk_si (zk_si (zk_si (zk_si h 29 (4 * D) a) 29 (4 * D + 1) b) 29 (4 * D + 2) v) 29 (4 * D + 3) z) 0 42 e) 0 41 f).1 29 k = _
    rw [zk_si_ne (k := 29) (a := 0) (by decide), zk_si_ne (k := 29) (a := 0) (by decide), zk_si_at, zk_si_at, zk_si_at, zk_si_at]
  rw [q, q, q, q]
  by_cases e : i = D
  · subst e
    rw [if_neg (by omega), if_neg (by omega), if_neg (by omega), if_pos rfl, if_pos rfl, if_neg (by omega), if_neg (by omega), if_pos rfl, if_pos rfl, if_neg (by omega), if_pos rfl, if_pos rfl, if_pos rfl, if_pos rfl]
    exact ⟨rfl, rfl, rfl, rfl⟩
  · rw [if_neg e, if_neg e, if_neg e, if_neg e]
    refine ⟨?_, ?_, ?_, ?_⟩ <;> rw [if_neg (by omega), if_neg (by omega), if_neg (by omega), if_neg (by omega)]
theorem e_mend (R : zk_RR lp c m) : pX11_mend [.ref 0, .int x, .int y, .int z] c (fun v c' => pX12_mend [.ref 0, .int x, .int y, .int z] m (fun v' m' => v = v' ∧ zk_RR lp c' m')) := by
  obtain ⟨P, N, D, U, T, B, R8⟩ := id R
  obtain ⟨r1, r2, -⟩ := id R8
  obtain ⟨⟨hP, hN⟩, ⟨f1, f2, f3, f4⟩, -⟩ := id r1
  obtain ⟨hD, ⟨g1, g2, g3, g4⟩, g5⟩ := id r2
  -- the refusal
  have out : (∀ w j, y = nI w → x = nI j → zk_val P N w j → ¬ zk_fit w z) → pX12_mend [.ref 0, .int x, .int y, .int z] m (fun v' m' => (-2000000000 : Int32) = v' ∧ zk_RR lp c m') := by
    intro hno
    refine ⟨rfl, zk_bk hX12_mend (bX12_mend_0 ?_)⟩
    refine jX12_isOf f3 hP f4 hN (fun w j ey ex hv => ⟨fun q => absurd q (by decide), fun _ => ?_⟩) (fun _ => ⟨fun _ => ⟨rfl, R⟩, fun q => absurd rfl q⟩)
    have hw : w < 13 ∧ j < 8 := by unfold zk_val at hv; omega
    rw [ey]
    refine jX12_isFit hw.1 ⟨fun q => absurd (zk_b_n q) (hno w j ey ex hv), fun _ => ⟨rfl, R⟩⟩
  refine ⟨rfl, zk_bk hX11_mend (bX11_mend_0 ?_)⟩
  refine ⟨fun c1 => out fun w j ey ex hv => ?_, fun c1 => jX4_has f1 hP f2 hN (fun w j ey ex hv => ⟨fun q => absurd q (by decide), fun _ => ?_⟩) (fun hno => ⟨fun _ => out fun w j ey ex hv => absurd (Or.inl hv) (hno w j ey ex), fun q => absurd rfl q⟩)⟩
  · have hw : w < 13 := by unfold zk_val at hv; omega
    have e := nI_toInt (n := w) (by omega)
    subst ey
    exfalso
    ((try simp only [zk_b_0, zk_b_1] at *); simp only [Int32.lt_iff_toInt_lt, Int32.le_iff_toInt_le, ← Int32.toInt_inj, Int32.reduceToInt] at *; omega)
  subst ey
  subst ex
  have hw : w < 13 ∧ j < 8 := by
    have h8 : j < 8 ∧ w < 16 := by unfold zk_val at hv; omega
    have e := nI_toInt (n := w) (by omega)
    refine ⟨?_, h8.1⟩
    ((try simp only [zk_b_0, zk_b_1] at *); simp only [Int32.lt_iff_toInt_lt, Int32.le_iff_toInt_le, ← Int32.toInt_inj, Int32.reduceToInt] at *; omega)
  have hm := zk_mc_le hw.1
  have hv : zk_val P N w j := by
    rcases hv with q | q
    · exact q
    · omega
  refine jX4_fits hw.1 ⟨fun c2 => ?_, fun c2 => out fun w' j' ey ex hv' => ?_⟩
  rotate_left
  · have hb : w' < 13 := by unfold zk_val at hv'; omega
    rw [← (nI_eq (a := w) (b := w') (by omega) (by omega)).mp ey]
    exact zk_b_0.mp c2
  have hf := zk_b_n c2
  have hrz := zk_fit_rec hv hf
  have hrv := r1.rec_ hv
  have ev := zk_off_at r1 (Or.inl hv)
  refine ⟨vp_in_nI (by omega) (by decide), 3 + w, ?_, 8, (zk_rows (by omega)).2, vp_in_nI hw.2 (by decide), ?_⟩
  · rw [nI_clamp (by omega)]
    exact (zk_rows (by omega)).1
  rw [nI_clamp (n := j) (by omega)]
  -- the other, up to the change
  have go : ∀ K : Int32 → zk_H → Prop, (m.1 (zk_mc w) (zk_mj w j) = z → K (m.1 (zk_mc w) (zk_mj w j)) m) → (¬ m.1 (zk_mc w) (zk_mj w j) = z → ∀ m1, m1 = zk_si m (zk_mc w) (zk_mj w j) z → D < 40 → K (m.1 (zk_mc w) (zk_mj w j)) (zk_si (zk_si (zk_si (zk_si (zk_si (zk_si m1 29 (4 * D) (nI j)) 29 (4 * D + 1) (nI w)) 29 (4 * D + 2) (m.1 (zk_mc w) (zk_mj w j))) 29 (4 * D + 3) z) 0 42 (nI (D + 1))) 0 41 (nI (D + 1)))) →
      (¬ m.1 (zk_mc w) (zk_mj w j) = z → ∀ m1, m1 = zk_si m (zk_mc w) (zk_mj w j) z → D = 40 → ∀ m2, zk_ex [29] m1 m2 → (∀ j, j < 156 → m2.1 29 j = m1.1 29 (j + 4)) → K (m.1 (zk_mc w) (zk_mj w j)) (zk_si (zk_si (zk_si (zk_si (zk_si (zk_si (zk_si m2 0 42 (nI 39)) 29 (4 * 39) (nI j)) 29 (4 * 39 + 1) (nI w)) 29 (4 * 39 + 2) (m.1 (zk_mc w) (zk_mj w j))) 29 (4 * 39 + 3) z) 0 42 (nI 40)) 0 41 (nI 40))) →
      pX12_mend [.ref 0, .int (nI j), .int (nI w), .int z] m K := by
    intro K H1 H2 H3
    refine ⟨rfl, zk_bk hX12_mend (bX12_mend_0 ?_)⟩
    refine jX12_isOf f3 hP f4 hN (fun w' j' ew ej hv' => ⟨fun q => absurd q (by decide), fun _ => ?_⟩) (fun hno => absurd hv (hno w j rfl rfl))
    clear hv' ew ej
    refine jX12_isFit hw.1 ⟨fun q => ?_, fun q => absurd hf (zk_b_0.mp q)⟩
    refine jX12_get hP hN hv ⟨fun q => ?_, fun q => H1 q⟩
    refine jX12_becomes hP hN hv ?_
    have e42 : (zk_si m (zk_mc w) (zk_mj w j) z).1 0 42 = nI D := by rw [zk_si_ne (k := 0) (a := zk_mc w) (by omega), g3]
    rw [e42]
    refine ⟨fun c3 => ?_, fun c3 => ?_⟩
    · have hD40 : D < 40 := by
        rcases Nat.lt_or_ge D 40 with a | a
        · exact a
        · exact absurd (by rw [show D = 40 by omega]; rfl) c3
      rw [nI_4, nI_1, nI_2, nI_3, nI_1, nI_clamp (n := 4 * D) (by omega), nI_clamp (n := 4 * D + 1) (by omega), nI_clamp (n := 4 * D + 2) (by omega), nI_clamp (n := 4 * D + 3) (by omega)]
      exact ⟨vp_in_nI (by omega) (by decide), vp_in_nI (by omega) (by decide), vp_in_nI (by omega) (by decide), vp_in_nI (by omega) (by decide), H2 q _ rfl hD40⟩
    · have hD40 : D = 40 := (nI_eq (b := 40) (by omega) (by decide)).mp c3
      refine l_mend_56 (fun m2 he hj => ?_) 156 0 rfl _ zk_ex.rf (fun j hj => absurd hj (Nat.not_lt_zero _)) (fun j _ => rfl)
      refine zk_bk hX12_mend (bX12_mend_56 ?_)
      refine ⟨fun _ => ?_, fun q => absurd (by decide) q⟩
      rw [he.1 0 (by decide), e42, hD40]
      rw [show nI 40 - 1 = nI 39 from rfl, nI_4, nI_1, nI_2, nI_3, nI_1, nI_clamp (n := 4 * 39) (by omega), nI_clamp (n := 4 * 39 + 1) (by omega), nI_clamp (n := 4 * 39 + 2) (by omega), nI_clamp (n := 4 * 39 + 3) (by omega)]
      exact ⟨vp_in_nI (by omega) (by decide), vp_in_nI (by omega) (by decide), vp_in_nI (by omega) (by decide), vp_in_nI (by omega) (by decide), H3 q _ rfl hD40 m2 he hj⟩
  rw [ev]
  refine ⟨fun c3 => ?_, fun c3 => ?_⟩
  · show pX12_mend _ _ _
    exact go _ (fun _ => ⟨rfl, R⟩) (fun q => absurd c3 q) (fun q => absurd c3 q)
  have Rs := zk_R_set R8 hrz
  obtain ⟨-, s2, -⟩ := id Rs
  rw [ev] at hrv
  refine ⟨rfl, zk_bk hX1_make (bX1_make_0 ?_)⟩
  rw [g1]
  refine ⟨fun c4 => ?_, fun c4 => ?_⟩
  · have hD40 : D < 40 := (nI_ltI (b := 40) (by omega) (by decide)).mp c4
    have v40 := vp_in_nI (n := D) (N := 40) (by omega) (by decide)
    rw [nI_clamp (n := D) (by omega), nI_clamp (n := w) (by omega), nI_clamp (n := j) (by omega), nI_1]
    refine ⟨v40, v40, vp_in_nI (by omega) (by decide), 3 + w, (zk_rows (by omega)).1, 8, (zk_rows (by omega)).2, vp_in_nI hw.2 (by decide), v40, v40, vp_in_nI (by omega) (by decide), 3 + w, (zk_rows (by omega)).1, 8, (zk_rows (by omega)).2, vp_in_nI hw.2 (by decide), ?_⟩
    rw [zk_si_ne (k := 3 + w) (a := 21) (by omega), zk_si_ne (k := 3 + w) (a := 20) (by omega), ev]
    show pX12_mend _ _ _
    refine go _ (fun q => absurd q c3) (fun _ m1 em _ => ⟨rfl, P, N, D + 1, 0, T, B, ?_⟩) (fun _ _ _ q => absurd q (by omega))
    subst em
    refine zk_R_chg Rs (s2.push (w := w) (j := j) (z := z) (v := m.1 (zk_mc w) (zk_mj w j)) hD40 hrz hrv ?_ ?_ (fun i hi => ?_) (fun i hi => ?_)) (fun k hk => ?_) rfl (fun i h1 h2 => ?_) (fun k h1 h2 => ?_) rfl
    · simp [zk_si, show (19 : Nat) ≠ 3 + w by omega]
    · simp [zk_si]
    · simp [zk_si, show (20 : Nat) ≠ 3 + w by omega, show (21 : Nat) ≠ 3 + w by omega, show (22 : Nat) ≠ 3 + w by omega, show (23 : Nat) ≠ 3 + w by omega]
    · exact zk_p29 hi
    · funext zz
      simp [zk_si, show k ≠ 19 by omega, show k ≠ 20 by omega, show k ≠ 21 by omega, show k ≠ 22 by omega, show k ≠ 23 by omega]
    · simp [zk_si, h1, h2]
    · funext zz
      simp [zk_si, h1, h2]
  · have hD40 : D = 40 := by
      rcases Nat.lt_or_ge D 40 with a | a
      · exact absurd ((nI_ltI (b := 40) (by omega) (by decide)).mpr a) c4
      · omega
    subst hD40
    refine ⟨rfl, zk_bk hX1_dropOldest (bX1_dropOldest_0 ?_)⟩
    refine ⟨by decide, by decide, by decide, by decide, ?_⟩
    -- what is dropped there
    have cut : ∀ c5 : zk_H, zk_ex [19, 20, 21, 22, 23] c c5 → c5.1 19 5 = nI 39 → c5.1 19 6 = nI U → (∀ i, i < 39 → c5.1 20 i = c.1 20 (i + 1) ∧ c5.1 21 i = c.1 21 (i + 1) ∧ c5.1 22 i = c.1 22 (i + 1) ∧ c5.1 23 i = c.1 23 (i + 1)) →
        (vp_in (c5.1 19 5) 40 ∧ (vp_in (c5.1 19 5) 40 ∧ (vp_in (nI w) 16 ∧ ∃ b6, zk_C.2 2 (nI w).toNatClampNeg = some b6 ∧ (∃ n7, zk_Cs[b6]? = some (0, n7) ∧ (vp_in (nI j) n7 ∧ (vp_in (c5.1 19 5) 40 ∧ (vp_in (c5.1 19 5) 40 ∧ (vp_in (nI w) 16 ∧ ∃ b8, zk_C.2 2 (nI w).toNatClampNeg = some b8 ∧ (∃ n9, zk_Cs[b8]? = some (0, n9) ∧ (vp_in (nI j) n9 ∧ pX12_mend [.ref 0, .int (nI j), .int (nI w), .int z] m (fun v' m' => m.1 (zk_mc w) (zk_mj w j) = v' ∧ zk_RR lp (zk_si (zk_si (zk_si (zk_si (zk_si (zk_si (zk_si c5 20 (c5.1 19 5).toNatClampNeg (nI j)) 21 (c5.1 19 5).toNatClampNeg (nI w)) 22 (c5.1 19 5).toNatClampNeg ((zk_si (zk_si c5 20 (c5.1 19 5).toNatClampNeg (nI j)) 21 (c5.1 19 5).toNatClampNeg (nI w)).1 b6 (nI j).toNatClampNeg)) 23 (c5.1 19 5).toNatClampNeg z) 19 5 ((c5.1 19 5) + (1 : Int32))) 19 6 (0 : Int32)) b8 (nI j).toNatClampNeg z) m'))))))))))) := by
      intro c5 he e5 e6 hj
      have v40 := vp_in_nI (n := 39) (N := 40) (by omega) (by decide)
      rw [e5, nI_clamp (n := 39) (by omega), nI_clamp (n := w) (by omega), nI_clamp (n := j) (by omega), nI_1]
      refine ⟨v40, v40, vp_in_nI (by omega) (by decide), 3 + w, (zk_rows (by omega)).1, 8, (zk_rows (by omega)).2, vp_in_nI hw.2 (by decide), v40, v40, vp_in_nI (by omega) (by decide), 3 + w, (zk_rows (by omega)).1, 8, (zk_rows (by omega)).2, vp_in_nI hw.2 (by decide), ?_⟩
      have hk : ∀ k, k < 19 ∨ 24 ≤ k → c5.1 k = c.1 k := fun k hk => he.1 k (by simp only [List.mem_cons, List.not_mem_nil, or_false]; omega)
      rw [zk_si_ne (k := 3 + w) (a := 21) (by omega), zk_si_ne (k := 3 + w) (a := 20) (by omega), hk (3 + w) (by omega), ev]
      refine go _ (fun q => absurd q c3) (fun _ _ _ q => absurd q (by omega)) (fun _ m1 em _ m2 hm2 hj2 => ⟨rfl, P, N, 39 + 1, 0, T, B, ?_⟩)
      subst em
      have s3 : zk_chg P N 39 0 (zk_si c5 (3 + w) j z) (zk_si (zk_si m2 0 42 (nI 39)) 0 41 (nI 39)) := by
        refine s2.drop ?_ ?_ (fun i hi => ?_) (fun i hi => ?_)
        · rw [zk_si_ne (k := 19) (by omega)]
          refine ⟨e5, ?_⟩
          rw [e6, show U = 0 by omega]
        · simp [zk_si]
        · rw [zk_si_ne (k := 20) (by omega), zk_si_ne (k := 21) (by omega), zk_si_ne (k := 22) (by omega), zk_si_ne (k := 23) (by omega), zk_si_ne (k := 20) (by omega), zk_si_ne (k := 21) (by omega), zk_si_ne (k := 22) (by omega), zk_si_ne (k := 23) (by omega)]
          exact hj i hi
        · rw [zk_si_ne (k := 29) (by decide), zk_si_ne (k := 29) (by decide)]
          exact hj2 i hi
      have hm0 : ∀ i, m2.1 0 i = (zk_si m (zk_mc w) (zk_mj w j) z).1 0 i := fun i => by rw [hm2.1 0 (by decide)]
      refine zk_R_chg Rs (s3.push (w := w) (j := j) (z := z) (v := m.1 (zk_mc w) (zk_mj w j)) (by decide) hrz hrv ?_ ?_ (fun i hi => ?_) (fun i hi => ?_)) (fun k hk2 => ?_) he.2 (fun i h1 h2 => ?_) (fun k h1 h2 => ?_) hm2.2
      · simp [zk_si, show (19 : Nat) ≠ 3 + w by omega]
      · simp [zk_si]
      · simp [zk_si, show (20 : Nat) ≠ 3 + w by omega, show (21 : Nat) ≠ 3 + w by omega, show (22 : Nat) ≠ 3 + w by omega, show (23 : Nat) ≠ 3 + w by omega]
      · exact zk_p29 hi
      · funext zz
        have := congrFun (hk k hk2) zz
        simp [zk_si, show k ≠ 19 by omega, show k ≠ 20 by omega, show k ≠ 21 by omega, show k ≠ 22 by omega, show k ≠ 23 by omega, this]
      · rw [zk_si_at, if_neg h1, zk_si_at, if_neg h2, zk_si_ne (k := 0) (by decide), zk_si_ne (k := 0) (by decide), zk_si_ne (k := 0) (by decide), zk_si_ne (k := 0) (by decide), zk_si_at, if_neg h2, hm0]
      · rw [zk_si_ne h1, zk_si_ne h1, zk_si_ne h2, zk_si_ne h2, zk_si_ne h2, zk_si_ne h2, zk_si_ne h1, hm2.1 k (by simp [h2])]
    refine cut _ ⟨fun k hk => ?_, rfl⟩ ?_ ?_ (fun i hi => ?_)
    · simp only [List.mem_cons, List.not_mem_nil, or_false] at hk
      funext zz
      simp [zk_si, zk_wi, show k ≠ 19 by omega, show k ≠ 20 by omega, show k ≠ 21 by omega, show k ≠ 22 by omega, show k ≠ 23 by omega]
    · simp only [zk_si, zk_wi]
      simp [g1]
      rfl
    · simp [zk_si, zk_wi, g2]
    · have h1 : (1 : Int32).toNatClampNeg = 1 := rfl
      have h0 : (0 : Int32).toNatClampNeg = 0 := rfl
      have h39 : (39 : Int32).toNatClampNeg = 39 := rfl
      simp [zk_si, zk_wi, va_cpy, hi, Nat.add_comm, h1, h0, h39]
end ZK3
