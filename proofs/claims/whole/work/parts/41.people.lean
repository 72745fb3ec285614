/-! CALL: people -/
section ZKW
variable {h : zk_H} {x y z : Int32}
theorem zk_place {a b : Int32} {k : Nat} (hk : k ≤ 8) (e : b.toInt = a.toInt + 3 * k) : a.toInt64 + (3 : Int64) * (nI k).toInt64 = b.toInt64 := by
  apply Int64.toInt_inj.mp
  rw [Int64.toInt_add, Int64.toInt_mul, Int32.toInt_toInt64, Int32.toInt_toInt64, Int32.toInt_toInt64, nI_toInt (by omega), show (3 : Int64).toInt = 3 from rfl]
  have h1 := Int32.le_toInt a
  have h2 := Int32.toInt_lt a
  rw [Int.bmod_eq_of_le (n := 3 * (k : Int)) (by omega) (by omega), Int.bmod_eq_of_le (by omega) (by omega), e]
theorem zk_pl3 {q n : Nat} (hq : q < 2 ^ 31) (hn : n ≤ 60) : ((nI n).toInt64 < (nI q).toInt64 + (3 : Int64)) ↔ n < q + 3 := by
  rw [show (3 : Int64) = (nI 3).toInt64 from rfl]
  exact zk_lsum hq (by decide) hn
theorem zk_pl0 {x : Int32} : (x.toInt64 < (0 : Int64)) ↔ x < 0 := by
  rw [Int64.lt_iff_toInt_lt, Int32.lt_iff_toInt_lt, Int32.toInt_toInt64]
  exact Iff.rfl
theorem jX7_comesFrom {K : Int32 → zk_H → Prop} {s q P : Nat} {a b d : Int32} (hs : s < 6) (hq : q + 3 ≤ 60) (hP : h.1 1 1 = nI P) (hPb : P ≤ 8) (ea : (h.2 (47 + 2 * s) q).toInt32 = a) (eb : (h.2 (47 + 2 * s) (q + 1)).toInt32 = b) (ed : (h.2 (47 + 2 * s) (q + 2)).toInt32 = d)
    (H1 : zk_fit 2 a → zk_fit 4 b → zk_fit 5 d → P < 8 → K 1 (zk_cP h P a b d)) (H0 : ¬ (zk_fit 2 a ∧ zk_fit 4 b ∧ zk_fit 5 d ∧ nI P < 8) → K 0 h) : pX7_comesFrom [.ref 38, .retAddr (46 + 2 * s), .int (nI q)] h K := by
  have c := zk_shelves hs
  refine ⟨rfl, zk_bk hX7_comesFrom (bX7_comesFrom_0 ?_)⟩
  rw [nI_1, nI_2, nI_clamp (n := q) (by omega), nI_clamp (n := q + 1) (by omega), nI_clamp (n := q + 2) (by omega)]
  refine ⟨c.2.1, _, c.2.2.1, _, c.2.2.2, vp_in_nI (by omega) (by decide), c.2.1, _, c.2.2.1, _, c.2.2.2, vp_in_nI (by omega) (by decide), c.2.1, _, c.2.2.1, _, c.2.2.2, vp_in_nI (by omega) (by decide), ?_⟩
  rw [ea, eb, ed]
  refine jX4_fits (w := 2) (by decide) ⟨fun q1 => ⟨fun _ => ⟨Or.inl rfl, H0 fun z => zk_b_0.mp q1 z.1⟩, fun q => absurd rfl q⟩, fun q1 => jX4_fits (w := 4) (by decide) ⟨fun q2 => ⟨fun _ => ⟨Or.inl rfl, H0 fun z => zk_b_0.mp q2 z.2.1⟩, fun q => absurd rfl q⟩, fun q2 => jX4_fits (w := 5) (by decide) ⟨fun q3 => ⟨fun _ => ⟨Or.inl rfl, H0 fun z => zk_b_0.mp q3 z.2.2.1⟩, fun q => absurd rfl q⟩, fun q3 => ⟨fun q => absurd q (by decide), fun _ => ?_⟩⟩⟩⟩
  rw [hP]
  refine ⟨fun q4 => ?_, fun q4 => ⟨Or.inl rfl, H0 fun z => q4 z.2.2.2⟩⟩
  have hP8 : P < 8 := (nI_ltI (b := 8) (by omega) (by decide)).mp q4
  exact jX4_addPerson hP hP8 ⟨Or.inr rfl, H1 (zk_b_n q1) (zk_b_n q2) (zk_b_n q3) hP8⟩
end ZKW
