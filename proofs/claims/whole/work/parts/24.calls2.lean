/-! CALLS: led, body, trace, feed -/
section ZK2
variable {lp : zk_lp} {c m : zk_H} {x : Int32}
theorem e_led (R : zk_RR lp c m) : pX11_led [.ref 0, .int x] c (fun v c' => pX12_led [.ref 0, .int x] m (fun v' m' => v = v' ∧ zk_RR lp c' m')) := by
  obtain ⟨P, N, D, U, T, B, R8⟩ := id R
  obtain ⟨r1, r2, r3, r4, r5, r6, r7, r8⟩ := R8
  obtain ⟨⟨e1, e2, e3, e4, e5⟩, -⟩ := r4
  refine ⟨rfl, zk_bk hX11_led (bX11_led_0 ?_)⟩
  refine ⟨fun c1 => ?_, fun c1 => ⟨fun c2 => ?_, fun c2 => ⟨fun c3 => ?_, fun c3 => ⟨fun c4 => ?_, fun c4 => ⟨fun c5 => ?_, fun c5 => ?_⟩⟩⟩⟩⟩
  · subst c1
    show pX12_led _ _ _
    refine ⟨rfl, zk_bk hX12_led (bX12_led_0 ?_)⟩
    refine ⟨fun d1 => jX12_within ⟨fun d2 => ?_, fun d2 => ⟨(by unfold vp_in; decide), e2, R⟩⟩, fun d1 => ?_⟩
    · exact absurd d2 (by decide)
    · exact absurd d1 (by decide)
  · subst c2
    show pX12_led _ _ _
    refine ⟨rfl, zk_bk hX12_led (bX12_led_0 ?_)⟩
    refine ⟨fun d1 => jX12_within ⟨fun d2 => ?_, fun d2 => ⟨(by unfold vp_in; decide), ?_, R⟩⟩, fun d1 => ?_⟩
    · exact absurd d2 (by decide)
    · rw [e3, e4]
      exact e5.symm
    · exact absurd d1 (by decide)
  · subst c3
    show pX12_led _ _ _
    refine ⟨rfl, zk_bk hX12_led (bX12_led_0 ?_)⟩
    refine ⟨fun d1 => jX12_within ⟨fun d2 => ?_, fun d2 => ⟨(by unfold vp_in; decide), e3, R⟩⟩, fun d1 => ?_⟩
    · exact absurd d2 (by decide)
    · exact absurd d1 (by decide)
  · subst c4
    show pX12_led _ _ _
    refine ⟨rfl, zk_bk hX12_led (bX12_led_0 ?_)⟩
    refine ⟨fun d1 => jX12_within ⟨fun d2 => ?_, fun d2 => ⟨(by unfold vp_in; decide), e4, R⟩⟩, fun d1 => ?_⟩
    · exact absurd d2 (by decide)
    · exact absurd d1 (by decide)
  · subst c5
    show pX12_led _ _ _
    refine ⟨rfl, zk_bk hX12_led (bX12_led_0 ?_)⟩
    exact ⟨fun d1 => absurd rfl d1, fun d1 => ⟨e1, R⟩⟩
  · show pX12_led _ _ _
    refine ⟨rfl, zk_bk hX12_led (bX12_led_0 ?_)⟩
    refine ⟨fun d1 => jX12_within ⟨fun d2 => ⟨rfl, R⟩, fun d2 => ?_⟩, fun d1 => absurd d1 c5⟩
    exfalso
    ((try simp only [zk_b_0, zk_b_1] at *); simp only [Int32.lt_iff_toInt_lt, Int32.le_iff_toInt_le, ← Int32.toInt_inj, Int32.reduceToInt] at *; omega)
theorem e_body (R : zk_RR lp c m) : pX11_body [.ref 0, .int x] c (fun v c' => pX12_body [.ref 0, .int x] m (fun v' m' => v = v' ∧ zk_RR lp c' m')) := by
  obtain ⟨P, N, D, U, T, B, R8⟩ := id R
  obtain ⟨r1, r2, r3, r4, r5, r6, r7, r8⟩ := R8
  obtain ⟨hB, e1, e2, e3⟩ := r5
  have eB := nI_toInt (n := B) (by omega)
  refine ⟨rfl, zk_bk hX11_body (bX11_body_0 ?_)⟩
  refine jX0_isKind ⟨fun c1 => ⟨fun c2 => ?_, fun c2 => ?_⟩, fun c1 => ?_⟩
  · rw [e1] at c2
    have hB2 : B < 50 := by
      simp only [Int32.lt_iff_toInt_lt, Int32.reduceToInt, eB] at c2
      omega
    obtain ⟨j, hj, rfl⟩ := zk_ix (n := 8) (by decide) (zk_b_n c1).1 (zk_b_n c1).2
    refine ⟨rfl, zk_bk hX0_add (bX0_add_0 ?_)⟩
    rw [e1]
    refine ⟨vp_in_nI hB2 (by decide), ?_⟩
    show pX12_body _ _ _
    refine ⟨rfl, zk_bk hX12_body (bX12_body_0 ?_)⟩
    refine jX12_within ⟨fun d1 => ⟨fun d2 => ?_, fun d2 => ?_⟩, fun d1 => ?_⟩
    · rw [e2]
      refine ⟨vp_in_nI hB2 (by decide), rfl, P, N, D, U, T, B + 1, ?_⟩
      rw [nI_clamp (by omega)]
      refine ⟨r1.cg (by simp [zk_si, zk_sl, zk_wi, zk_wl]) (by simp [zk_si, zk_sl, zk_wi, zk_wl]) (by simp [zk_si, zk_sl, zk_wi, zk_wl]), r2.cg (by simp [zk_si, zk_sl, zk_wi, zk_wl]) (by simp [zk_si, zk_sl, zk_wi, zk_wl]) (by simp [zk_si, zk_sl, zk_wi, zk_wl]) (by simp [zk_si, zk_sl, zk_wi, zk_wl]), r3.cg (by simp [zk_si, zk_sl, zk_wi, zk_wl]) (by simp [zk_si, zk_sl, zk_wi, zk_wl]) (by simp [zk_si, zk_sl, zk_wi, zk_wl]) (by simp [zk_si, zk_sl, zk_wi, zk_wl]), r4.cg (by simp [zk_si, zk_sl, zk_wi, zk_wl]) (by simp [zk_si, zk_sl, zk_wi, zk_wl]) (by simp [zk_si, zk_sl, zk_wi, zk_wl]) (by simp [zk_si, zk_sl, zk_wi, zk_wl]), ⟨by omega, by simp [zk_si, nI_1], by simp [zk_si, nI_1], fun i hi => ?_⟩, r6.cg (by simp [zk_si, zk_sl, zk_wi, zk_wl]) (by simp [zk_si, zk_sl, zk_wi, zk_wl]) (by simp [zk_si, zk_sl, zk_wi, zk_wl]) (by simp [zk_si, zk_sl, zk_wi, zk_wl]), fun s hs => ?_, zk_lpcg r8 (by simp [zk_si, zk_sl, zk_wi, zk_wl]) (by simp [zk_si, zk_sl, zk_wi, zk_wl]) (by simp [zk_si, zk_sl, zk_wi, zk_wl])⟩
      · simp only [zk_si]
        by_cases hi2 : i = B
        · subst hi2
          simp
          exact ⟨j, hj, rfl⟩
        · simpa [hi2] using e3 i (by omega)
      · have q := (r7 s hs).cg (c' := zk_si (zk_si c 43 B (nI j)) 42 1 (nI B + 1)) (m' := zk_si (zk_si m 30 B (nI j)) 0 44 (nI B + 1)) (by rw [zk_si_ne (by omega), zk_si_ne (by omega)]) rfl (by simp [zk_si, zk_sl, zk_wi, zk_wl]) rfl
        rcases q with q | ⟨q1, i, q2, q3⟩ | q
        · exact Or.inl q
        · exact Or.inr (Or.inl ⟨q1, i, by omega, q3⟩)
        · exact Or.inr (Or.inr q)
    · rw [e2] at d2
      have := (nI_eq (a := B) (b := 50) (by omega) (by decide)).mp d2
      omega
    · exfalso
      ((try simp only [zk_b_0, zk_b_1] at *); simp only [Int32.lt_iff_toInt_lt, Int32.le_iff_toInt_le, ← Int32.toInt_inj, Int32.reduceToInt] at *; omega)
  · rw [e1] at c2
    have hB2 : B = 50 := by
      simp only [Int32.lt_iff_toInt_lt, Int32.reduceToInt, eB] at c2
      omega
    show pX12_body _ _ _
    refine ⟨rfl, zk_bk hX12_body (bX12_body_0 ?_)⟩
    refine jX12_within ⟨fun d1 => ⟨fun d2 => ?_, fun d2 => ⟨rfl, R⟩⟩, fun d1 => ?_⟩
    · rw [e2, hB2] at d2
      exact absurd rfl d2
    · exfalso
      ((try simp only [zk_b_0, zk_b_1] at *); simp only [Int32.lt_iff_toInt_lt, Int32.le_iff_toInt_le, ← Int32.toInt_inj, Int32.reduceToInt] at *; omega)
  · show pX12_body _ _ _
    refine ⟨rfl, zk_bk hX12_body (bX12_body_0 ?_)⟩
    refine jX12_within ⟨fun d1 => ?_, fun d1 => ⟨rfl, R⟩⟩
    exfalso
    ((try simp only [zk_b_0, zk_b_1] at *); simp only [Int32.lt_iff_toInt_lt, Int32.le_iff_toInt_le, ← Int32.toInt_inj, Int32.reduceToInt] at *; omega)
theorem e_feed (R : zk_RR lp c m) : pX11_feed [.ref 0, .int x] c (fun v c' => pX12_feed [.ref 0, .int x] m (fun v' m' => v = v' ∧ zk_RR lp c' m')) := by
  obtain ⟨P, N, D, U, T, B, R8⟩ := id R
  obtain ⟨r1, r2, r3, r4, r5, r6, r7, r8⟩ := R8
  obtain ⟨hT, e1, e2, e3⟩ := r3
  have eT := nI_toInt (n := T) (by omega)
  refine ⟨rfl, zk_bk hX11_feed (bX11_feed_0 ?_)⟩
  refine ⟨fun c1 => ?_, fun c1 => ⟨fun c2 => ⟨fun c3 => ?_, fun c3 => ?_⟩, fun c2 => ?_⟩⟩
  · show pX12_feed _ _ _
    refine ⟨rfl, zk_bk hX12_feed (bX12_feed_0 ?_)⟩
    refine jX12_within ⟨fun d1 => ?_, fun d1 => ⟨rfl, R⟩⟩
    exfalso
    ((try simp only [zk_b_0, zk_b_1] at *); simp only [Int32.lt_iff_toInt_lt, Int32.le_iff_toInt_le, ← Int32.toInt_inj, Int32.reduceToInt] at *; omega)
  · rw [e1] at c3
    have hT2 : T < 120 := by
      simp only [Int32.lt_iff_toInt_lt, Int32.reduceToInt, eT] at c3
      omega
    obtain ⟨j, hj, rfl⟩ := zk_ix (x := x) (n := 256) (by decide) (by ((try simp only [zk_b_0, zk_b_1] at *); simp only [Int32.lt_iff_toInt_lt, Int32.le_iff_toInt_le, ← Int32.toInt_inj, Int32.reduceToInt] at *; omega)) (by
      have : (nI 256).toInt = 256 := rfl
      ((try simp only [zk_b_0, zk_b_1] at *); simp only [Int32.lt_iff_toInt_lt, Int32.le_iff_toInt_le, ← Int32.toInt_inj, Int32.reduceToInt] at *; omega))
    refine ⟨rfl, zk_bk hX5_takeLetter (bX5_takeLetter_0 ?_)⟩
    rw [e1]
    refine ⟨vp_in_nI hT2 (by decide), ?_⟩
    show pX12_feed _ _ _
    refine ⟨rfl, zk_bk hX12_feed (bX12_feed_0 ?_)⟩
    refine jX12_within ⟨fun d1 => ⟨fun d2 => ?_, fun d2 => ?_⟩, fun d1 => ?_⟩
    · rw [e2]
      refine ⟨vp_in_nI hT2 (by decide), rfl, P, N, D, U, T + 1, B, ?_⟩
      rw [nI_clamp (by omega)]
      refine ⟨r1.cg (by simp [zk_si, zk_sl, zk_wi, zk_wl]) (by simp [zk_si, zk_sl, zk_wi, zk_wl]) (by simp [zk_si, zk_sl, zk_wi, zk_wl]), r2.cg (by simp [zk_si, zk_sl, zk_wi, zk_wl]) (by simp [zk_si, zk_sl, zk_wi, zk_wl]) (by simp [zk_si, zk_sl, zk_wi, zk_wl]) (by simp [zk_si, zk_sl, zk_wi, zk_wl]), ⟨by omega, by simp [zk_si, nI_1], by simp [zk_si, nI_1], fun i hi => ?_⟩, r4.cg (by simp [zk_si, zk_sl, zk_wi, zk_wl]) (by simp [zk_si, zk_sl, zk_wi, zk_wl]) (by simp [zk_si, zk_sl, zk_wi, zk_wl]) (by simp [zk_si, zk_sl, zk_wi, zk_wl]), r5.cg (by simp [zk_si, zk_sl, zk_wi, zk_wl]) (by simp [zk_si, zk_sl, zk_wi, zk_wl]) (by simp [zk_si, zk_sl, zk_wi, zk_wl]) (by simp [zk_si, zk_sl, zk_wi, zk_wl]), r6.cg (by simp [zk_si, zk_sl, zk_wi, zk_wl]) (by simp [zk_si, zk_sl, zk_wi, zk_wl]) (by simp [zk_si, zk_sl, zk_wi, zk_wl]) (by simp [zk_si, zk_sl, zk_wi, zk_wl]), fun s hs => (r7 s hs).cg (by rw [zk_si_ne (by omega), zk_si_ne (by omega)]) rfl (by simp [zk_si, zk_sl, zk_wi, zk_wl]) rfl, zk_lpcg r8 (by simp [zk_si, zk_sl, zk_wi, zk_wl]) (by simp [zk_si, zk_sl, zk_wi, zk_wl]) (by simp [zk_si, zk_sl, zk_wi, zk_wl])⟩
      simp only [zk_si]
      by_cases hi2 : i = T
      · subst hi2
        simp
        exact ⟨j, hj, rfl⟩
      · simpa [hi2] using e3 i (by omega)
    · rw [e2] at d2
      have := (nI_eq (a := T) (b := 120) (by omega) (by decide)).mp d2
      omega
    · exfalso
      ((try simp only [zk_b_0, zk_b_1] at *); simp only [Int32.lt_iff_toInt_lt, Int32.le_iff_toInt_le, ← Int32.toInt_inj, Int32.reduceToInt] at *; omega)
  · rw [e1] at c3
    have hT2 : T = 120 := by
      simp only [Int32.lt_iff_toInt_lt, Int32.reduceToInt, eT] at c3
      omega
    show pX12_feed _ _ _
    refine ⟨rfl, zk_bk hX12_feed (bX12_feed_0 ?_)⟩
    refine jX12_within ⟨fun d1 => ⟨fun d2 => ?_, fun d2 => ⟨rfl, R⟩⟩, fun d1 => ?_⟩
    · rw [e2, hT2] at d2
      exact absurd rfl d2
    · exfalso
      ((try simp only [zk_b_0, zk_b_1] at *); simp only [Int32.lt_iff_toInt_lt, Int32.le_iff_toInt_le, ← Int32.toInt_inj, Int32.reduceToInt] at *; omega)
  · show pX12_feed _ _ _
    refine ⟨rfl, zk_bk hX12_feed (bX12_feed_0 ?_)⟩
    refine jX12_within ⟨fun d1 => ?_, fun d1 => ⟨rfl, R⟩⟩
    exfalso
    ((try simp only [zk_b_0, zk_b_1] at *); simp only [Int32.lt_iff_toInt_lt, Int32.le_iff_toInt_le, ← Int32.toInt_inj, Int32.reduceToInt] at *; omega)
theorem e_trace (R : zk_RR lp c m) : pX11_trace [.ref 0, .int x] c (fun v c' => pX12_trace [.ref 0, .int x] m (fun v' m' => v = v' ∧ zk_RR lp c' m')) := by
  obtain ⟨P, N, D, U, T, B, R8⟩ := id R
  obtain ⟨r1, r2, r3, r4, r5, ⟨Z, hZ, e1, e2, e3⟩, r7, r8⟩ := R8
  have eZ := nI_toInt (n := Z) (by omega)
  have k1 : (if (24 : Int32) < nI Z then (24 : Int32) else nI Z) = nI (min Z 24) := by
    by_cases h : 24 < Z
    · rw [if_pos (by simp only [Int32.lt_iff_toInt_lt, Int32.reduceToInt, eZ]; omega), Nat.min_eq_right (by omega)]
      rfl
    · rw [if_neg (by simp only [Int32.lt_iff_toInt_lt, Int32.reduceToInt, eZ]; omega), Nat.min_eq_left (by omega)]
  have k2 : (if nI Z < (24 : Int32) then nI Z else (24 : Int32)) = nI (min Z 24) := by
    by_cases h : Z < 24
    · rw [if_pos (by simp only [Int32.lt_iff_toInt_lt, Int32.reduceToInt, eZ]; omega), Nat.min_eq_left (by omega)]
    · rw [if_neg (by simp only [Int32.lt_iff_toInt_lt, Int32.reduceToInt, eZ]; omega), Nat.min_eq_right (by omega)]
      rfl
  have k3 := nI_toInt (n := min Z 24) (by omega)
  have k4 := zk_pm (n := min Z 24) (by omega)
  refine ⟨rfl, zk_bk hX11_trace (bX11_trace_0 ?_)⟩
  refine ⟨fun c1 => ?_, fun c1 => ?_⟩
  · show pX12_trace _ _ _
    refine ⟨rfl, zk_bk hX12_trace (bX12_trace_0 ?_)⟩
    refine jX12_within ⟨fun d1 => ⟨rfl, R⟩, fun d1 => ?_⟩
    exfalso
    ((try simp only [zk_b_0, zk_b_1] at *); simp only [Int32.lt_iff_toInt_lt, Int32.le_iff_toInt_le, ← Int32.toInt_inj, Int32.reduceToInt] at *; omega)
  · refine ⟨rfl, zk_bk hX0_traced (bX0_traced_0 ?_)⟩
    rw [e1, k1]
    refine ⟨fun c2 => ?_, fun c2 => ?_⟩
    · show pX12_trace _ _ _
      refine ⟨rfl, zk_bk hX12_trace (bX12_trace_0 ?_)⟩
      rw [e2, k2]
      refine jX12_within ⟨fun d1 => ⟨rfl, R⟩, fun d1 => ?_⟩
      exfalso
      ((try simp only [zk_b_0, zk_b_1] at *); simp only [Int32.lt_iff_toInt_lt, Int32.le_iff_toInt_le, ← Int32.toInt_inj, Int32.reduceToInt] at *; omega)
    · obtain ⟨j, hj, rfl⟩ := zk_ix (x := x) (n := min Z 24) (by omega) (by ((try simp only [zk_b_0, zk_b_1] at *); simp only [Int32.lt_iff_toInt_lt, Int32.le_iff_toInt_le, ← Int32.toInt_inj, Int32.reduceToInt] at *; omega)) (by ((try simp only [zk_b_0, zk_b_1] at *); simp only [Int32.lt_iff_toInt_lt, Int32.le_iff_toInt_le, ← Int32.toInt_inj, Int32.reduceToInt] at *; omega))
      refine ⟨vp_in_nI (by omega) (by decide), ?_⟩
      show pX12_trace _ _ _
      refine ⟨rfl, zk_bk hX12_trace (bX12_trace_0 ?_)⟩
      rw [e2, k2]
      refine jX12_within ⟨fun d1 => ?_, fun d1 => ⟨vp_in_nI (by omega) (by decide), ?_, R⟩⟩
      · exfalso
        ((try simp only [zk_b_0, zk_b_1] at *); simp only [Int32.lt_iff_toInt_lt, Int32.le_iff_toInt_le, ← Int32.toInt_inj, Int32.reduceToInt] at *; omega)
      · rw [nI_clamp (by omega)]
        exact e3 j (by omega) (by omega)
end ZK2
