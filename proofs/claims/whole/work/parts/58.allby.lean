/-! CALL: allByOne -/
section ZK3
variable {lp : zk_lp} {c m : zk_H} {x y z : Int32}
theorem jX12_areCards {K : Int32 → zk_H → Prop} {h : zk_H} {N : Nat} (e : h.1 0 7 = nI N) (hN : N ≤ 6) (H : K (zk_b (0 ≤ x ∧ x < (1 : Int32) <<< (nI N &&& 31))) h) : pX12_areCards [.ref 0, .int x] h K := by
  refine ⟨rfl, zk_bk hX12_areCards (bX12_areCards_0 ?_)⟩
  rw [e]
  refine jX12_within ⟨zk_b_or, ?_⟩
  have e2 := zk_shl N (by omega)
  rw [e2] at H ⊢
  have hk : 2 ^ N ≤ 64 := Nat.pow_le_pow_right (n := 2) (by decide) hN
  have e3 := zk_pm (n := 2 ^ N) (by omega)
  have e4 := nI_toInt (n := 2 ^ N) (by omega)
  rw [zk_b_c (q := 0 ≤ x ∧ x < nI (2 ^ N)) (by
    rw [Int32.le_iff_toInt_le (y := nI (2 ^ N) - 1), Int32.lt_iff_toInt_lt (y := nI (2 ^ N)), e3, e4]
    exact ⟨fun q => ⟨q.1, by omega⟩, fun q => ⟨q.1, by omega⟩⟩)]
  exact H
theorem l_allby {K : Int32 → zk_H → Prop} {P N : Nat} (r : zk_off P N c m) : ∀ (n i : Nat) (A : Int32), i + n = N → (∀ v, (∀ Kr : Int32 → zk_H → Prop, Kr v m → (zk_X zk_D (zk_lkl lkX12) zk_mt (zk_cxl [(158, zk_iP pX12_areCards), (163, zk_iP pX12_has), (199, zk_iP pX12_couldAll)]) (some .int) (zk_at cdX12_allByOne) (zk_qi Kr)) 21 [some (.ref 0), some (.int x), some (.int A), some (.int (nI i))] [] m) → K v c) → (zk_X zk_C (zk_lkl lkX10) zk_mt (zk_cxl [(41, zk_iP pX4_whoCould), (43, zk_iP pX4_everybody)]) (some .int) (zk_at cdX10_whoCouldAll) (zk_qi K)) 10 [some (.ref 31), some (.int x), some (.int A), some (.int (nI i))] [] c := by
  obtain ⟨⟨hP, hN⟩, ⟨f1, f2, f3, f4⟩, -⟩ := id r
  intro n
  induction n with
  | zero =>
    intro i A hi hK
    have hiN : i = N := by omega
    subst hiN
    have le := (nI_leI (a := i) (b := i) (by omega) (by omega)).mpr (Nat.le_refl _)
    refine zk_bk hX10_whoCouldAll (bX10_whoCouldAll_10 ?_)
    rw [f2]
    refine ⟨fun _ => hK _ fun Kr hk => ?_, fun q => absurd le q⟩
    refine zk_bk hX12_allByOne (bX12_allByOne_21 ?_)
    rw [f4]
    exact ⟨fun _ => hk, fun q => absurd le q⟩
  | succ n ih =>
    intro i A hi hK
    refine zk_bk hX10_whoCouldAll (bX10_whoCouldAll_10 ?_)
    rw [f2]
    refine ⟨fun q => absurd q (nI_ge (by omega) (by omega)), fun _ => ⟨fun q => ?_, fun q => jX4_whoCould r (by omega) ?_⟩⟩
    · rw [nI_1]
      refine ih (i + 1) A (by omega) fun v hv => hK v fun Kr hk => ?_
      refine zk_bk hX12_allByOne (bX12_allByOne_21 ?_)
      rw [f4, nI_1]
      exact ⟨fun q => absurd q (nI_ge (by omega) (by omega)), fun _ => jX12_has ⟨fun _ => hv Kr hk, fun q2 => absurd (q.symm.trans (zk_b_n q2)) (by decide)⟩⟩
    · rw [nI_1]
      refine ih (i + 1) _ (by omega) fun v hv => hK v fun Kr hk => ?_
      refine zk_bk hX12_allByOne (bX12_allByOne_21 ?_)
      rw [f4, nI_1]
      exact ⟨fun q => absurd q (nI_ge (by omega) (by omega)), fun _ => jX12_has ⟨fun q2 => absurd (zk_bitn.mp q) (zk_b_0.mp q2), fun _ => jX12_couldAll hP (by omega) f3 (hv Kr hk)⟩⟩
theorem e_allByOne (R : zk_RR lp c m) : pX11_allByOne [.ref 0, .int x] c (fun v c' => pX12_allByOne [.ref 0, .int x] m (fun v' m' => v = v' ∧ zk_RR lp c' m')) := by
  obtain ⟨P, N, D, U, T, B, R8⟩ := id R
  obtain ⟨r1, -⟩ := id R8
  obtain ⟨⟨hP, hN⟩, ⟨f1, f2, f3, f4⟩, -⟩ := id r1
  refine ⟨rfl, zk_bk hX11_allByOne (bX11_allByOne_0 ?_)⟩
  refine jX4_isSet ?_
  rw [f2]
  refine ⟨fun q => ?_, fun q => ?_⟩
  · show pX12_allByOne _ _ _
    refine ⟨rfl, zk_bk hX12_allByOne (bX12_allByOne_0 ?_)⟩
    refine jX12_areCards f4 (by omega) ⟨fun q2 => absurd (zk_b_n q2) (zk_b_0.mp q), fun _ => ⟨rfl, R⟩⟩
  · refine ⟨rfl, zk_bk hX10_whoCouldAll (bX10_whoCouldAll_0 ?_)⟩
    refine jX4_everybody hP f1 ?_
    refine l_allby r1 N 0 _ (by omega) fun v hv => ?_
    show pX12_allByOne _ _ _
    refine ⟨rfl, zk_bk hX12_allByOne (bX12_allByOne_0 ?_)⟩
    refine jX12_areCards f4 (by omega) ⟨fun _ => ?_, fun q2 => absurd (zk_b_n q) (zk_b_0.mp q2)⟩
    rw [f3, zk_every P (by omega)]
    exact hv _ ⟨rfl, R⟩
end ZK3
