/-! bitCount; hands' ground -/
/-- what bitCount answers, as it is computed -/
def zk_bc (x : Int32) : Int32 := ((((((((x - ((x.toUInt32 >>> ((1 : Int32).toUInt32 &&& Int32.toUInt32 31)).toInt32 &&& (1431655765 : Int32))) &&& (858993459 : Int32)) + (((x - ((x.toUInt32 >>> ((1 : Int32).toUInt32 &&& Int32.toUInt32 31)).toInt32 &&& (1431655765 : Int32))).toUInt32 >>> ((2 : Int32).toUInt32 &&& Int32.toUInt32 31)).toInt32 &&& (858993459 : Int32))) + ((((x - ((x.toUInt32 >>> ((1 : Int32).toUInt32 &&& Int32.toUInt32 31)).toInt32 &&& (1431655765 : Int32))) &&& (858993459 : Int32)) + (((x - ((x.toUInt32 >>> ((1 : Int32).toUInt32 &&& Int32.toUInt32 31)).toInt32 &&& (1431655765 : Int32))).toUInt32 >>> ((2 : Int32).toUInt32 &&& Int32.toUInt32 31)).toInt32 &&& (858993459 : Int32))).toUInt32 >>> ((4 : Int32).toUInt32 &&& Int32.toUInt32 31)).toInt32) &&& (252645135 : Int32)) + ((((((x - ((x.toUInt32 >>> ((1 : Int32).toUInt32 &&& Int32.toUInt32 31)).toInt32 &&& (1431655765 : Int32))) &&& (858993459 : Int32)) + (((x - ((x.toUInt32 >>> ((1 : Int32).toUInt32 &&& Int32.toUInt32 31)).toInt32 &&& (1431655765 : Int32))).toUInt32 >>> ((2 : Int32).toUInt32 &&& Int32.toUInt32 31)).toInt32 &&& (858993459 : Int32))) + ((((x - ((x.toUInt32 >>> ((1 : Int32).toUInt32 &&& Int32.toUInt32 31)).toInt32 &&& (1431655765 : Int32))) &&& (858993459 : Int32)) + (((x - ((x.toUInt32 >>> ((1 : Int32).toUInt32 &&& Int32.toUInt32 31)).toInt32 &&& (1431655765 : Int32))).toUInt32 >>> ((2 : Int32).toUInt32 &&& Int32.toUInt32 31)).toInt32 &&& (858993459 : Int32))).toUInt32 >>> ((4 : Int32).toUInt32 &&& Int32.toUInt32 31)).toInt32) &&& (252645135 : Int32)).toUInt32 >>> ((8 : Int32).toUInt32 &&& Int32.toUInt32 31)).toInt32) + (((((((x - ((x.toUInt32 >>> ((1 : Int32).toUInt32 &&& Int32.toUInt32 31)).toInt32 &&& (1431655765 : Int32))) &&& (858993459 : Int32)) + (((x - ((x.toUInt32 >>> ((1 : Int32).toUInt32 &&& Int32.toUInt32 31)).toInt32 &&& (1431655765 : Int32))).toUInt32 >>> ((2 : Int32).toUInt32 &&& Int32.toUInt32 31)).toInt32 &&& (858993459 : Int32))) + ((((x - ((x.toUInt32 >>> ((1 : Int32).toUInt32 &&& Int32.toUInt32 31)).toInt32 &&& (1431655765 : Int32))) &&& (858993459 : Int32)) + (((x - ((x.toUInt32 >>> ((1 : Int32).toUInt32 &&& Int32.toUInt32 31)).toInt32 &&& (1431655765 : Int32))).toUInt32 >>> ((2 : Int32).toUInt32 &&& Int32.toUInt32 31)).toInt32 &&& (858993459 : Int32))).toUInt32 >>> ((4 : Int32).toUInt32 &&& Int32.toUInt32 31)).toInt32) &&& (252645135 : Int32)) + ((((((x - ((x.toUInt32 >>> ((1 : Int32).toUInt32 &&& Int32.toUInt32 31)).toInt32 &&& (1431655765 : Int32))) &&& (858993459 : Int32)) + (((x - ((x.toUInt32 >>> ((1 : Int32).toUInt32 &&& Int32.toUInt32 31)).toInt32 &&& (1431655765 : Int32))).toUInt32 >>> ((2 : Int32).toUInt32 &&& Int32.toUInt32 31)).toInt32 &&& (858993459 : Int32))) + ((((x - ((x.toUInt32 >>> ((1 : Int32).toUInt32 &&& Int32.toUInt32 31)).toInt32 &&& (1431655765 : Int32))) &&& (858993459 : Int32)) + (((x - ((x.toUInt32 >>> ((1 : Int32).toUInt32 &&& Int32.toUInt32 31)).toInt32 &&& (1431655765 : Int32))).toUInt32 >>> ((2 : Int32).toUInt32 &&& Int32.toUInt32 31)).toInt32 &&& (858993459 : Int32))).toUInt32 >>> ((4 : Int32).toUInt32 &&& Int32.toUInt32 31)).toInt32) &&& (252645135 : Int32)).toUInt32 >>> ((8 : Int32).toUInt32 &&& Int32.toUInt32 31)).toInt32).toUInt32 >>> ((16 : Int32).toUInt32 &&& Int32.toUInt32 31)).toInt32) &&& (63 : Int32))
section ZKW
variable {K : Int32 → zk_H → Prop} {h c m : zk_H} {x y A : Int32} {P N : Nat}
theorem jJ6_bitCount {w : zk_Wd} (H : K (zk_bc x) h) : pJ6_bitCount_0f7a4 w [.int x] h K := by
  refine ⟨rfl, zk_bk hJ6_bitCount_0f7a4 (bJ6_bitCount_0f7a4_0 ?_)⟩
  exact H
/-- whether hands S could have written all of x: both alike -/
theorem l_areHands (r : zk_off P N c m) (he : zk_ex [34] c h) (hw : ∀ i, i < N → h.1 34 i = nI (zk_mask (zk_cq m i) P)) : ∀ (n i : Nat), i + n = N → (∀ v, (v = 0 ∨ v = 1) → (∀ Kr : Int32 → zk_H → Prop, Kr v m → (zk_X zk_D (zk_lkl lkX12) zk_mt (zk_cxl [(163, zk_iP pX12_has), (199, zk_iP pX12_couldAll)]) (some .boolean) (zk_at cdX12_areHands) (zk_qi Kr)) 2 [some (.ref 0), some (.int x), some (.int A), some (.int (nI i))] [] m) → K v h) → (zk_X zk_C (zk_lkl lkX10) zk_mt (zk_cxl []) (some .boolean) (zk_at cdX10_couldAllBeBy) (zk_qi K)) 2 [some (.ref 31), some (.int x), some (.int A), some (.int (nI i))] [] h := by
  obtain ⟨⟨hP, hN⟩, ⟨f1, f2, f3, f4⟩, -⟩ := id r
  intro n
  induction n with
  | zero =>
    intro i hi hK
    have hiN : i = N := by omega
    subst hiN
    have le := (nI_leI (a := i) (b := i) (by omega) (by omega)).mpr (Nat.le_refl _)
    refine zk_bk hX10_couldAllBeBy (bX10_couldAllBeBy_2 ?_)
    rw [he.1 1 (by decide), f2]
    refine ⟨fun _ => ⟨Or.inr rfl, hK _ (Or.inr rfl) fun Kr hk => ?_⟩, fun q => absurd le q⟩
    refine zk_bk hX12_areHands (bX12_areHands_2 ?_)
    rw [f4]
    exact ⟨fun _ => ⟨Or.inr rfl, hk⟩, fun q => absurd le q⟩
  | succ n ih =>
    intro i hi hK
    refine zk_bk hX10_couldAllBeBy (bX10_couldAllBeBy_2 ?_)
    rw [he.1 1 (by decide), f2, nI_clamp (n := i) (by omega), hw i (by omega), nI_1]
    refine ⟨fun q => absurd q (nI_ge (by omega) (by omega)), fun _ => ⟨fun q => ?_, fun q => ⟨vp_in_nI (by omega) (by decide), fun q2 => ?_, fun q2 => ⟨Or.inl rfl, hK _ (Or.inl rfl) fun Kr hk => ?_⟩⟩⟩⟩
    · refine ih (i + 1) (by omega) fun v hv0 hv => hK v hv0 fun Kr hk => ?_
      refine zk_bk hX12_areHands (bX12_areHands_2 ?_)
      rw [f4, nI_1]
      exact ⟨fun q => absurd q (nI_ge (by omega) (by omega)), fun _ => jX12_has ⟨fun _ => hv Kr hk, fun q2 => absurd (q.symm.trans (zk_b_n q2)) (by decide)⟩⟩
    · refine ih (i + 1) (by omega) fun v hv0 hv => hK v hv0 fun Kr hk => ?_
      refine zk_bk hX12_areHands (bX12_areHands_2 ?_)
      rw [f4, nI_1]
      exact ⟨fun q => absurd q (nI_ge (by omega) (by omega)), fun _ => jX12_has ⟨fun q3 => absurd (zk_bitn.mp q) (zk_b_0.mp q3), fun _ => jX12_couldAll hP (by omega) f3 ⟨fun _ => hv Kr hk, fun q3 => absurd q3 q2⟩⟩⟩
    · refine zk_bk hX12_areHands (bX12_areHands_2 ?_)
      rw [f4]
      exact ⟨fun q => absurd q (nI_ge (by omega) (by omega)), fun _ => jX12_has ⟨fun q3 => absurd (zk_bitn.mp q) (zk_b_0.mp q3), fun _ => jX12_couldAll hP (by omega) f3 ⟨fun q3 => absurd q2 q3, fun _ => ⟨Or.inl rfl, hk⟩⟩⟩⟩
end ZKW
