/-! CALLS: undo, redo -/
section ZK3
variable {lp : zk_lp} {c m : zk_H} {x y z : Int32}
theorem e_undo (R : zk_RR lp c m) : pX11_undo [.ref 0] c (fun v c' => pX12_undo [.ref 0] m (fun v' m' => v = v' ∧ zk_RR lp c' m')) := by
  obtain ⟨P, N, D, U, T, B, R8⟩ := id R
  obtain ⟨r1, r2, -⟩ := id R8
  obtain ⟨⟨hP, hN⟩, ⟨f1, f2, f3, f4⟩, -⟩ := id r1
  obtain ⟨hD, ⟨g1, g2, g3, g4⟩, g5⟩ := id r2
  refine ⟨rfl, zk_bk hX11_undo (bX11_undo_0 ?_)⟩
  rw [g1]
  refine ⟨fun q => ?_, fun q => ?_⟩
  · have hD0 : D = 0 := by
      rcases Nat.eq_zero_or_pos D with e | e
      · exact e
      · exact absurd q (nI_nle e (by omega))
    show pX12_undo _ _ _
    refine ⟨rfl, zk_bk hX12_undo (bX12_undo_0 ?_)⟩
    rw [g3, hD0]
    exact ⟨fun q => absurd rfl q, fun _ => ⟨rfl, R⟩⟩
  · have hD0 : 0 < D := by
      rcases Nat.eq_zero_or_pos D with e | e
      · subst e
        exact absurd (by decide) q
      · exact e
    obtain ⟨a1, a2, a3, a4, w, j, ej, ew, hrv, hrz⟩ := g5 (D - 1) (by omega)
    have hw : w < 13 ∧ j < 8 := by have := hrv.1; omega
    refine ⟨rfl, zk_bk hX1_takeBack (bX1_takeBack_0 ?_)⟩
    rw [g1, g2, nI_n1 hD0, nI_1, nI_clamp (n := D - 1) (by omega), ew, ej, nI_clamp (n := w) (by omega), nI_clamp (n := j) (by omega)]
    have v40 := vp_in_nI (n := D - 1) (N := 40) (by omega) (by decide)
    refine ⟨v40, vp_in_nI (by omega) (by decide), 3 + w, (zk_rows (by omega)).1, v40, v40, 8, (zk_rows (by omega)).2, vp_in_nI hw.2 (by decide), ?_⟩
    rw [zk_si_ne (k := 19) (a := 3 + w) (by omega), zk_si_at, if_neg (by decide), zk_si_at, if_pos rfl]
    show pX12_undo _ _ _
    refine ⟨rfl, zk_bk hX12_undo (bX12_undo_0 ?_)⟩
    rw [g3, nI_n1 hD0, nI_4, nI_1, nI_2, nI_clamp (n := 4 * (D - 1)) (by omega), nI_clamp (n := 4 * (D - 1) + 1) (by omega), nI_clamp (n := 4 * (D - 1) + 2) (by omega), ← a1, ← a2, ← a3, ew, ej]
    refine ⟨fun _ => ⟨vp_in_nI (by omega) (by decide), vp_in_nI (by omega) (by decide), vp_in_nI (by omega) (by decide), jX12_becomes hP hN hrv.1 ⟨?_, P, N, D - 1, U + 1, T, B, ?_⟩⟩, fun q => absurd q (nI_neq (b := 0) (by omega) (by omega) (by decide))⟩
    · rw [zk_si_ne (k := 0) (a := zk_mc w) (by have := zk_mc_le hw.1; omega), zk_si_at, if_pos rfl]
    · refine zk_R_set (zk_R_chg R8 ?_ (fun k hk => by rw [zk_si_ne (by omega), zk_si_ne (by omega)]) rfl (fun i h1 h2 => by rw [zk_si_at, if_neg h2]) (fun k h1 h2 => zk_si_ne h1) rfl) hrv
      refine ⟨by omega, ⟨by simp [zk_si], by simp [zk_si], by simp [zk_si], ?_⟩, fun i hi => ?_⟩
      · rw [zk_si_at, if_neg (by decide), g4, show D - 1 + (U + 1) = D + U by omega]
      · rw [zk_si_ne (k := 20) (by decide), zk_si_ne (k := 21) (by decide), zk_si_ne (k := 22) (by decide), zk_si_ne (k := 23) (by decide), zk_si_ne (k := 20) (by decide), zk_si_ne (k := 21) (by decide), zk_si_ne (k := 22) (by decide), zk_si_ne (k := 23) (by decide), zk_si_ne (k := 29) (by decide)]
        exact g5 i (by omega)
theorem e_redo (R : zk_RR lp c m) : pX11_redo [.ref 0] c (fun v c' => pX12_redo [.ref 0] m (fun v' m' => v = v' ∧ zk_RR lp c' m')) := by
  obtain ⟨P, N, D, U, T, B, R8⟩ := id R
  obtain ⟨r1, r2, -⟩ := id R8
  obtain ⟨⟨hP, hN⟩, ⟨f1, f2, f3, f4⟩, -⟩ := id r1
  obtain ⟨hD, ⟨g1, g2, g3, g4⟩, g5⟩ := id r2
  refine ⟨rfl, zk_bk hX11_redo (bX11_redo_0 ?_)⟩
  rw [g2]
  refine ⟨fun q => ?_, fun q => ?_⟩
  · have hD0 : U = 0 := by
      rcases Nat.eq_zero_or_pos U with e | e
      · exact e
      · exact absurd q (nI_nle e (by omega))
    show pX12_redo _ _ _
    refine ⟨rfl, zk_bk hX12_redo (bX12_redo_0 ?_)⟩
    rw [g3, g4, hD0]
    exact ⟨fun q => absurd rfl q, fun _ => ⟨rfl, R⟩⟩
  · have hD0 : 0 < U := by
      rcases Nat.eq_zero_or_pos U with e | e
      · subst e
        exact absurd (by decide) q
      · exact e
    obtain ⟨a1, a2, a3, a4, w, j, ej, ew, hrv, hrz⟩ := g5 D (by omega)
    have hw : w < 13 ∧ j < 8 := by have := hrv.1; omega
    have hm := zk_mc_le hw.1
    refine ⟨rfl, zk_bk hX1_makeAgain (bX1_makeAgain_0 ?_)⟩
    rw [g1, nI_clamp (n := D) (by omega), ew, ej, nI_clamp (n := w) (by omega), nI_clamp (n := j) (by omega)]
    have v40 := vp_in_nI (n := D) (N := 40) (by omega) (by decide)
    refine ⟨v40, vp_in_nI (by omega) (by decide), 3 + w, (zk_rows (by omega)).1, v40, v40, 8, (zk_rows (by omega)).2, vp_in_nI hw.2 (by decide), ?_⟩
    rw [zk_si_ne (k := 19) (a := 3 + w) (by omega), g1, g2, nI_1, nI_n1 hD0]
    show pX12_redo _ _ _
    refine ⟨rfl, zk_bk hX12_redo (bX12_redo_0 ?_)⟩
    rw [g3, g4, nI_4, nI_1, nI_3, nI_clamp (n := 4 * D) (by omega), nI_clamp (n := 4 * D + 1) (by omega), nI_clamp (n := 4 * D + 3) (by omega), ← a1, ← a2, ← a4, ew, ej]
    refine ⟨fun _ => ⟨vp_in_nI (by omega) (by decide), vp_in_nI (by omega) (by decide), vp_in_nI (by omega) (by decide), jX12_becomes hP hN hrv.1 ⟨?_, P, N, D + 1, U - 1, T, B, ?_⟩⟩, fun q => absurd q (nI_neq (by omega) (by omega) (by omega))⟩
    · rw [zk_si_ne (k := 0) (a := zk_mc w) (by omega), g3, g4, nI_1]
      have s1 := nI_toInt (n := U - 1) (by omega)
      have : nI (D + U) = nI (U - 1) + nI (D + 1) := by rw [nI_add, show U - 1 + (D + 1) = D + U by omega]
      rw [this, Int32.add_sub_cancel]
    · refine zk_R_chg (zk_R_set R8 hrz) ?_ (fun k hk => by rw [zk_si_ne (by omega), zk_si_ne (by omega)]) rfl (fun i h1 h2 => by rw [zk_si_at, if_neg h2]) (fun k h1 h2 => zk_si_ne h1) rfl
      refine ⟨by omega, ⟨by simp [zk_si], by simp [zk_si], ?_, ?_⟩, fun i hi => ?_⟩
      · rw [zk_si_at, if_pos rfl, zk_si_ne (k := 0) (a := zk_mc w) (by omega), g3, nI_1]
      · rw [zk_si_at, if_neg (by decide), zk_si_ne (k := 0) (a := zk_mc w) (by omega), g4, show D + 1 + (U - 1) = D + U by omega]
      · rw [zk_si_ne (k := 20) (by decide), zk_si_ne (k := 21) (by decide), zk_si_ne (k := 22) (by decide), zk_si_ne (k := 23) (by decide), zk_si_ne (k := 20) (by decide), zk_si_ne (k := 21) (by decide), zk_si_ne (k := 22) (by decide), zk_si_ne (k := 23) (by decide), zk_si_ne (k := 20) (by omega), zk_si_ne (k := 21) (by omega), zk_si_ne (k := 22) (by omega), zk_si_ne (k := 23) (by omega), zk_si_ne (k := 29) (by decide), zk_si_ne (k := 29) (by omega)]
        exact g5 i (by omega)
end ZK3
