/-! CALLS: looks, since -/
section ZK3
variable {lp : zk_lp} {c m : zk_H} {x y z : Int32}
/-- what a tally leaves -/
theorem zk_R_tally {P N D U T B : Nat} {c' m' : zk_H} (R8 : zk_R8 lp P N D U T B c m) (hc : zk_ex [39] c c') (hm : zk_ex [36] m m') : zk_RR lp c' m' :=
  ⟨P, N, D, U, T, B, zk_R_scr R8 (fun k hk => hc.1 k (by simp; omega)) hc.2 (fun i _ => by rw [hm.1 0 (by decide)]) (fun k _ _ _ _ h => hm.1 k (by simp [h])) hm.2⟩
theorem e_looks (R : zk_RR lp c m) : pX11_looks [.ref 0, .int x, .int y] c (fun v c' => pX12_looks [.ref 0, .int x, .int y] m (fun v' m' => v = v' ∧ zk_RR lp c' m')) := by
  obtain ⟨P, N, D, U, T, B, R8⟩ := id R
  obtain ⟨r1, -, -, -, r5, -, r7, -⟩ := id R8
  obtain ⟨⟨hP, hN⟩, ⟨f1, f2, f3, f4⟩, -⟩ := id r1
  have eP := nI_toInt (n := P) (by omega)
  have pP := zk_pm (n := P) (by omega)
  refine ⟨rfl, zk_bk hX11_looks (bX11_looks_0r ?_)⟩
  refine jX11_shelfAt (fun q => ?_) (fun s hs e => ?_)
  · refine zk_bk hX11_looks (bX11_looks_5 ?_)
    show pX12_looks _ _ _
    refine ⟨rfl, zk_bk hX12_looks (bX12_looks_0 ?_)⟩
    exact jX12_isShelf ⟨fun _ => ⟨rfl, R⟩, fun q2 => absurd (zk_isShelf q) q2⟩
  subst e
  have z1 := zk_shelves hs
  have out : ¬ (-2 ≤ y ∧ y < nI P) → pX12_looks [.ref 0, .int (nI s), .int y] m (fun v' m' => -1 = v' ∧ zk_RR lp c m') := by
    intro q
    refine ⟨rfl, zk_bk hX12_looks (bX12_looks_0 ?_)⟩
    refine jX12_isShelf ⟨fun q2 => absurd (q2.symm.trans (zk_onShelf hs)) (by decide), fun _ => jX12_within ⟨fun q1 => ?_, fun _ => ⟨rfl, R⟩⟩⟩
    have q1' := zk_b_n q1
    rw [f3] at q1'
    clear q1
    exact absurd (show -2 ≤ y ∧ y < nI P by ((try simp only [zk_b_0, zk_b_1] at *); simp only [Int32.lt_iff_toInt_lt, Int32.le_iff_toInt_le, ← Int32.toInt_inj, Int32.reduceToInt] at *; omega)) q
  -- the other, to the row
  have go : ∀ K : Int32 → zk_H → Prop, (-2 ≤ y ∧ y < nI P) → (¬ 0 ≤ (if m.1 32 s = -1 then -11 else if m.1 32 s = nI 0 then (0 : Int32) else -12) → K (if m.1 32 s = -1 then -11 else if m.1 32 s = nI 0 then (0 : Int32) else -12) m) → (0 ≤ (if m.1 32 s = -1 then -11 else if m.1 32 s = nI 0 then (0 : Int32) else -12) → pX12_lookedFrom [.ref 0, .int (nI s), .int 0] m (fun h7 => (y < 0 → ((¬ y = (-1 : Int32) → pX12_strange [.ref 0, .int (nI s)] h7 (fun v9 h8 => K v9 h8)) ∧ (y = (-1 : Int32) → pX12_most [.ref 0] h7 (fun v11 h10 => K v11 h10)))) ∧ (¬ y < 0 → (vp_in y 8 ∧ K (h7.1 36 y.toNatClampNeg) h7)))) → pX12_looks [.ref 0, .int (nI s), .int y] m K := by
    intro K hy H1 H2
    refine ⟨rfl, zk_bk hX12_looks (bX12_looks_0 ?_)⟩
    refine jX12_isShelf ⟨fun q2 => absurd (q2.symm.trans (zk_onShelf hs)) (by decide), fun _ => jX12_within ⟨fun q1 => jX12_noRow hs ⟨fun q => H2 q, fun q => H1 q⟩, fun q1 => ?_⟩⟩
    have q1' := zk_b_0.mp q1
    rw [f3] at q1'
    clear q1 H1 H2
    exact absurd (show -2 ≤ y ∧ y ≤ nI P - 1 by ((try simp only [zk_b_0, zk_b_1] at *); simp only [Int32.lt_iff_toInt_lt, Int32.le_iff_toInt_le, ← Int32.toInt_inj, Int32.reduceToInt] at *; omega)) q1'
  refine zk_bk hX11_looks (bX11_looks_5a ?_)
  rw [f1]
  refine ⟨fun q1 => ?_, fun q1 => ⟨fun q2 => ⟨z1.2.1, jX8_refusalOfRow hs ?_⟩, fun q2 => ?_⟩⟩
  · show pX12_looks _ _ _
    exact out (by clear out go; ((try simp only [zk_b_0, zk_b_1] at *); simp only [Int32.lt_iff_toInt_lt, Int32.le_iff_toInt_le, ← Int32.toInt_inj, Int32.reduceToInt] at *; omega))
  · have hy : -2 ≤ y ∧ y < nI P := by clear out go; ((try simp only [zk_b_0, zk_b_1] at *); simp only [Int32.lt_iff_toInt_lt, Int32.le_iff_toInt_le, ← Int32.toInt_inj, Int32.reduceToInt] at *; omega)
    rcases (r7 s hs).row r5.1 (t := 0) (by decide) with ⟨v, v1, v2, e1, e2, -⟩ | ⟨e1, e2, g1, Z, hZ, g6, g7, g8⟩
    · rw [show (0 : Int32) = nI 0 from rfl]
      rw [show (nI 0 : Int32) = 0 from rfl] at e1 ⊢
      rw [e1]
      refine ⟨fun q => absurd q v1, fun _ => ?_⟩
      show pX12_looks _ _ _
      refine go _ hy (fun _ => ?_) (fun q => absurd q ?_)
      · rw [e2]; exact ⟨rfl, R⟩
      · rw [e2]; exact v2
    · rw [show (nI 0 : Int32) = 0 from rfl] at e1
      rw [e1]
      have er : ∀ i, i < Z → (c.2 (47 + 2 * s) i).toInt32 = (m.2 34 (60 * s + i)).toInt32 := fun i hi => by rw [g8 i (by omega)]
      refine ⟨fun _ => ⟨fun q3 => ?_, fun q3 => ?_⟩, fun q => absurd rfl q⟩
      · refine jX7_tallyLooks hs hP hZ f1 g6 fun c1 hc1 ht => ?_
        have ht' : ∀ o, o < P → c1.1 39 o = zk_tl (fun i => (m.2 34 (60 * s + i)).toInt32) P 0 Z o := fun o ho => (ht o ho).trans (zk_tl_c er)
        refine ⟨fun q4 => ?_, fun q4 => ?_⟩
        · obtain ⟨o, ho, eo⟩ := zk_ix (x := y) (n := P) (by omega) (by
            clear out go e1 e2 g1
            ((try simp only [zk_b_0, zk_b_1] at *); simp only [Int32.lt_iff_toInt_lt, Int32.le_iff_toInt_le, ← Int32.toInt_inj, Int32.reduceToInt] at *; omega)) hy.2
          rw [eo, nI_clamp (n := o) (by omega)]
          refine ⟨vp_in_nI (by omega) (by decide), ?_⟩
          show pX12_looks _ _ _
          rw [← eo]
          refine go _ hy (fun q => absurd (by rw [e2]; decide) q) (fun _ => jX12_lookedFrom hs hP hZ f3 g7 fun m1 hm1 hu => ⟨fun q5 => ?_, fun q5 => ?_⟩)
          · rw [eo] at q5; exact absurd q5 (nI_pos (by omega))
          · rw [eo, nI_clamp (n := o) (by omega)]
            exact ⟨vp_in_nI (by omega) (by decide), (ht' o ho).trans (hu o ho).symm, zk_R_tally R8 hc1 hm1⟩
        · refine jX7_mostTallied hP (by rw [hc1.1 1 (by decide)]; exact f1) ht' ?_
          show pX12_looks _ _ _
          refine go _ hy (fun q => absurd (by rw [e2]; decide) q) (fun _ => jX12_lookedFrom hs hP hZ f3 g7 fun m1 hm1 hu => ⟨fun q5 => ⟨fun q => absurd q4 q, fun _ => ?_⟩, fun q5 => absurd (by rw [q4]; decide) q5⟩)
          exact jX12_most hP (by rw [hm1.1 0 (by decide)]; exact f3) hu ⟨rfl, zk_R_tally R8 hc1 hm1⟩
      · refine ⟨rfl, zk_bk hX7_firstLookFromOutside (bX7_firstLookFromOutside_0 ?_)⟩
        refine l_first hs hZ r1 g6 g7 g8 Z 0 (by omega) fun v hv => ?_
        show pX12_looks _ _ _
        refine go _ hy (fun q => absurd (by rw [e2]; decide) q) (fun _ => jX12_lookedFrom hs hP hZ f3 g7 fun m1 hm1 hu => ⟨fun q5 => ⟨fun _ => ?_, fun q => absurd (q3.symm.trans q) (by decide)⟩, fun q5 => absurd (by rw [q3]; decide) q5⟩)
        refine ⟨rfl, zk_bk hX12_strange (bX12_strange_0 ?_)⟩
        exact hv m1 _ hm1 ⟨rfl, zk_R_tally R8 zk_ex.rf hm1⟩
  · show pX12_looks _ _ _
    exact out (by clear out go; ((try simp only [zk_b_0, zk_b_1] at *); simp only [Int32.lt_iff_toInt_lt, Int32.le_iff_toInt_le, ← Int32.toInt_inj, Int32.reduceToInt] at *; omega))
theorem e_since (R : zk_RR lp c m) : pX11_since [.ref 0, .int x, .int y] c (fun v c' => pX12_since [.ref 0, .int x, .int y] m (fun v' m' => v = v' ∧ zk_RR lp c' m')) := by
  obtain ⟨P, N, D, U, T, B, R8⟩ := id R
  obtain ⟨r1, -, -, -, r5, -, r7, -⟩ := id R8
  obtain ⟨⟨hP, hN⟩, ⟨f1, f2, f3, f4⟩, -⟩ := id r1
  refine ⟨rfl, zk_bk hX11_since (bX11_since_0r ?_)⟩
  refine jX11_shelfAt (fun q => ?_) (fun s hs e => ?_)
  · refine zk_bk hX11_since (bX11_since_5 ?_)
    show pX12_since _ _ _
    refine ⟨rfl, zk_bk hX12_since (bX12_since_0 ?_)⟩
    exact jX12_isShelf ⟨fun _ => ⟨rfl, R⟩, fun q2 => absurd (zk_isShelf q) q2⟩
  subst e
  have z1 := zk_shelves hs
  refine zk_bk hX11_since (bX11_since_5a ?_)
  refine jX4_fits (w := 6) (by decide) ⟨fun q => ⟨z1.2.1, jX8_refusalOfRow hs ?_⟩, fun q => ?_⟩
  · rcases (r7 s hs).row r5.1 (t := 0) (by decide) with ⟨v, v1, v2, e1, e2, -⟩ | ⟨e1, e2, g1, Z, hZ, g6, g7, g8⟩
    · rw [show (nI 0 : Int32) = 0 from rfl] at e1
      rw [e1]
      refine ⟨fun q => absurd q v1, fun _ => ?_⟩
      show pX12_since _ _ _
      refine ⟨rfl, zk_bk hX12_since (bX12_since_0 ?_)⟩
      refine jX12_isShelf ⟨fun q2 => absurd (q2.symm.trans (zk_onShelf hs)) (by decide), fun _ => jX12_isMinute ⟨fun q1 => jX12_noRow hs ⟨fun q2 => absurd q2 ?_, fun _ => ?_⟩, fun q1 => absurd (zk_b_n q) (zk_b_0.mp q1)⟩⟩
      · rw [show (0 : Int32) = nI 0 from rfl] at e2 ⊢
        rw [show (nI 0 : Int32) = 0 from rfl] at e2 ⊢
        rw [e2]; exact v2
      · rw [show (nI 0 : Int32) = 0 from rfl] at e2
        rw [e2]; exact ⟨rfl, R⟩
    · rw [show (nI 0 : Int32) = 0 from rfl] at e1 e2
      rw [e1]
      have er : ∀ i, i < Z → (c.2 (47 + 2 * s) i).toInt32 = (m.2 34 (60 * s + i)).toInt32 := fun i hi => by rw [g8 i (by omega)]
      refine ⟨fun _ => ?_, fun q => absurd rfl q⟩
      refine jX7_tallyLooks hs hP hZ f1 g6 fun c1 hc1 ht => ?_
      have ht' : ∀ o, o < P → c1.1 39 o = zk_tl (fun i => (m.2 34 (60 * s + i)).toInt32) P y Z o := fun o ho => (ht o ho).trans (zk_tl_c er)
      refine jX7_mostTallied hP (by rw [hc1.1 1 (by decide)]; exact f1) ht' ?_
      show pX12_since _ _ _
      refine ⟨rfl, zk_bk hX12_since (bX12_since_0 ?_)⟩
      refine jX12_isShelf ⟨fun q2 => absurd (q2.symm.trans (zk_onShelf hs)) (by decide), fun _ => jX12_isMinute ⟨fun q1 => jX12_noRow hs ⟨fun q2 => jX12_lookedFrom hs hP hZ f3 g7 fun m1 hm1 hu => ?_, fun q2 => absurd (by rw [e2]; decide) q2⟩, fun q1 => absurd (zk_b_n q) (zk_b_0.mp q1)⟩⟩
      exact jX12_most hP (by rw [hm1.1 0 (by decide)]; exact f3) hu ⟨rfl, zk_R_tally R8 hc1 hm1⟩
  · show pX12_since _ _ _
    refine ⟨rfl, zk_bk hX12_since (bX12_since_0 ?_)⟩
    refine jX12_isShelf ⟨fun q2 => absurd (q2.symm.trans (zk_onShelf hs)) (by decide), fun _ => jX12_isMinute ⟨fun q1 => absurd (zk_b_n q1) (zk_b_0.mp q), fun q1 => ⟨rfl, R⟩⟩⟩
end ZK3
