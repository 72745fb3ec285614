/-! CALL: hands; scratch, told by sets of cells -/
theorem zk_shl9 : ∀ n, n < 9 → ((1 : Int32) <<< (nI n &&& 31)) = nI (2 ^ n) := by decide +kernel
theorem zk_mask9 : ∀ n, n < 9 → zk_mask (fun _ => true) n = 2 ^ n - 1 := by decide +kernel
theorem zk_ex.tr {S : List Nat} {a b d : zk_H} (h1 : zk_ex S a b) (h2 : zk_ex S b d) : zk_ex S a d := ⟨fun k hk => (h2.1 k hk).trans (h1.1 k hk), h2.2.trans h1.2⟩
theorem zk_ex.up {S S' : List Nat} {a b : zk_H} (h1 : zk_ex S a b) (hs : ∀ k ∈ S, k ∈ S') : zk_ex S' a b := ⟨fun k hk => h1.1 k fun q => hk (hs k q), h1.2⟩
section ZKX
variable {lp : zk_lp} {P N D U T B s : Nat} {c m c' m' : zk_H}
theorem zk_off.ex {S : List Nat} (r : zk_off P N c m) (he : zk_ex S c c') (hS : ∀ k ∈ S, 18 < k) : zk_off P N c' m := r.cg (fun k hk => he.1 k fun q => by
    have := hS k q
    simp only [List.mem_cons, List.not_mem_nil, or_false] at hk
    omega) ⟨rfl, rfl⟩ (fun _ _ => rfl)
theorem zk_off.exm {S : List Nat} (r : zk_off P N c m) (he : zk_ex S m m') (hS : ∀ k ∈ S, 14 < k) : zk_off P N c m' := r.cg (fun _ _ => rfl) ⟨by rw [he.1 0 fun q => absurd (hS 0 q) (by decide)], by rw [he.1 0 fun q => absurd (hS 0 q) (by decide)]⟩ (fun k hk => he.1 k fun q => by
    have := hS k q
    simp only [List.mem_cons, List.not_mem_nil, or_false] at hk
    omega)
theorem zk_R_ex {S S' : List Nat} (R : zk_R8 lp P N D U T B c m) (hc : zk_ex S c c') (hm : zk_ex S' m m') (hS : ∀ k ∈ S, 29 < k ∧ k < 40) (hS' : ∀ k ∈ S', k = 24 ∨ k = 25 ∨ k = 35 ∨ k = 36) : zk_R8 lp P N D U T B c' m' :=
  zk_R_scr R (fun k hk => hc.1 k fun q => by have := hS k q; omega) hc.2 (fun i _ => by rw [hm.1 0 fun q => by have := hS' 0 q; omega]) (fun k h0 h1 h2 h3 h4 => hm.1 k fun q => by have := hS' k q; omega) hm.2
end ZKX
section ZKW
variable {K : Int32 → zk_H → Prop} {h c m : zk_H} {x y A : Int32} {P N : Nat}
theorem l_hands_2 (r : zk_off P N c m) (next : ∀ h, zk_ex [34] c h → (∀ i, i < N → h.1 34 i = nI (zk_mask (zk_cq m i) P)) → (zk_X zk_C (zk_lkl lkX10) zk_mt (zk_cxl [(41, zk_iP pX4_whoCould), (43, zk_iP pX4_everybody), (100, zk_iP pX10_couldAllBeBy), (262, zk_iP (pJ6_bitCount_0f7a4 zk_C))]) (some .int) (zk_at cdX10_fewestHands) (zk_qi K)) 38 [some (.ref 31), some (.int x), some (.int (-2)), some (.int 0), none] [] h) :
    ∀ (n i : Nat), i + n = N → ∀ h, zk_ex [34] c h → (∀ j, j < i → h.1 34 j = nI (zk_mask (zk_cq m j) P)) → (zk_X zk_C (zk_lkl lkX10) zk_mt (zk_cxl [(41, zk_iP pX4_whoCould), (43, zk_iP pX4_everybody), (100, zk_iP pX10_couldAllBeBy), (262, zk_iP (pJ6_bitCount_0f7a4 zk_C))]) (some .int) (zk_at cdX10_fewestHands) (zk_qi K)) 2 [some (.ref 31), some (.int x), some (.int (nI i)), none, none] [] h := by
  obtain ⟨⟨hP, hN⟩, ⟨f1, f2, f3, f4⟩, -⟩ := id r
  intro n
  induction n with
  | zero =>
    intro i hi h he hj
    have hiN : i = N := by omega
    subst hiN
    have le := (nI_leI (a := i) (b := i) (by omega) (by omega)).mpr (Nat.le_refl _)
    refine zk_bk hX10_fewestHands (bX10_fewestHands_2 ?_)
    rw [he.1 1 (by decide), f2]
    exact ⟨fun _ => next h he hj, fun q => absurd le q⟩
  | succ n ih =>
    intro i hi h he hj
    refine zk_bk hX10_fewestHands (bX10_fewestHands_2 ?_)
    rw [he.1 1 (by decide), f2, nI_1]
    refine ⟨fun q => absurd q (nI_ge (by omega) (by omega)), fun _ => jX4_whoCould (r.ex he (by decide)) (by omega) ⟨vp_in_nI (by omega) (by decide), ?_⟩⟩
    rw [nI_clamp (n := i) (by omega)]
    refine ih (i + 1) (by omega) _ (he.si (by simp)) (fun j hj2 => ?_)
    rw [zk_si_at]
    by_cases e : j = i
    · rw [if_pos e, e]
    · rw [if_neg e]
      exact hj j (by omega)
theorem l_hands_38 (r : zk_off P N c m) (he : zk_ex [34] c h) (hw : ∀ i, i < N → h.1 34 i = nI (zk_mask (zk_cq m i) P)) : ∀ (n w : Nat) (A : Int32), w + n = 2 ^ P → (∀ v, (∀ Kr : Int32 → zk_H → Prop, Kr (if v = -2 then v else if y = 1 then v else zk_bc v) m → (zk_X zk_D (zk_lkl lkX12) zk_mt (zk_cxl [(153, zk_iP pX12_within), (158, zk_iP pX12_areCards), (208, zk_iP pX12_areHands), (262, zk_iP (pJ6_bitCount_0f7a4 zk_D))]) (some .int) (zk_at cdX12_hands) (zk_qi Kr)) 25 [some (.ref 0), some (.int x), some (.int y), some (.int A), some (.int (nI w))] [] m) → K v h) → (zk_X zk_C (zk_lkl lkX10) zk_mt (zk_cxl [(41, zk_iP pX4_whoCould), (43, zk_iP pX4_everybody), (100, zk_iP pX10_couldAllBeBy), (262, zk_iP (pJ6_bitCount_0f7a4 zk_C))]) (some .int) (zk_at cdX10_fewestHands) (zk_qi K)) 38 [some (.ref 31), some (.int x), some (.int A), some (.int (nI w)), none] [] h := by
  obtain ⟨⟨hP, hN⟩, ⟨f1, f2, f3, f4⟩, -⟩ := id r
  have h256 : 2 ^ P ≤ 256 := Nat.pow_le_pow_right (n := 2) (by decide) hP
  have h0 : 0 < 2 ^ P := Nat.two_pow_pos _
  have e1 : h.1 1 1 = nI P := (congrFun (he.1 1 (by decide)) 1).trans f1
  intro n
  induction n with
  | zero =>
    intro w A hw2 hK
    have hwP : w = 2 ^ P := by omega
    have le := (nI_leI (a := w) (b := w) (by omega) (by omega)).mpr (Nat.le_refl _)
    refine zk_bk hX10_fewestHands (bX10_fewestHands_38 ?_)
    refine jX4_everybody hP e1 ?_
    rw [zk_mask9 P (by omega)]
    refine ⟨fun _ => hK _ fun Kr hk => ?_, fun q => absurd (nI_lt (a := 2 ^ P - 1) (b := w) (by omega) (by omega)) q⟩
    refine zk_bk hX12_hands (bX12_hands_25 ?_)
    rw [f3, zk_shl9 P (by omega), ← hwP]
    refine ⟨fun _ => ⟨fun q => ?_, fun q => ⟨fun q2 => jJ6_bitCount ?_, fun q2 => ?_⟩⟩, fun q => absurd le q⟩
    · rw [if_pos q] at hk; exact hk
    · rw [if_neg q, if_neg q2] at hk; exact hk
    · rw [if_neg q, if_pos q2] at hk; exact hk
  | succ n ih =>
    intro w A hw2 hK
    have go : ∀ (A' : Int32), (∀ Kr : Int32 → zk_H → Prop, (zk_X zk_D (zk_lkl lkX12) zk_mt (zk_cxl [(153, zk_iP pX12_within), (158, zk_iP pX12_areCards), (208, zk_iP pX12_areHands), (262, zk_iP (pJ6_bitCount_0f7a4 zk_D))]) (some .int) (zk_at cdX12_hands) (zk_qi Kr)) 25 [some (.ref 0), some (.int x), some (.int y), some (.int A'), some (.int (nI (w + 1)))] [] m → (zk_X zk_D (zk_lkl lkX12) zk_mt (zk_cxl [(153, zk_iP pX12_within), (158, zk_iP pX12_areCards), (208, zk_iP pX12_areHands), (262, zk_iP (pJ6_bitCount_0f7a4 zk_D))]) (some .int) (zk_at cdX12_hands) (zk_qi Kr)) 25 [some (.ref 0), some (.int x), some (.int y), some (.int A), some (.int (nI w))] [] m) → ∀ q : Int32, (zk_X zk_C (zk_lkl lkX10) zk_mt (zk_cxl [(41, zk_iP pX4_whoCould), (43, zk_iP pX4_everybody), (100, zk_iP pX10_couldAllBeBy), (262, zk_iP (pJ6_bitCount_0f7a4 zk_C))]) (some .int) (zk_at cdX10_fewestHands) (zk_qi K)) 38 [some (.ref 31), some (.int x), some (.int A'), some (.int (nI w + 1)), some (.int q)] [] h := by
      intro A' hA q
      rw [nI_1]
      refine zk_fg hX10_fewestHands ?_ (ih (w + 1) A' (by omega) fun v hv => hK v fun Kr hk => hA Kr (hv Kr hk))
      exact ⟨rfl, rfl, rfl, rfl, rfl, trivial⟩
    have nlt : ¬ nI (2 ^ P) ≤ nI w := nI_ge (by omega) (by omega)
    have ob : ∀ Kr : Int32 → zk_H → Prop, ∀ G : Prop, (A = -2 ∨ ¬ zk_bc A ≤ zk_bc (nI w)) → pX12_areHands [.ref 0, .int x, .int (nI w)] m (fun v h3 => (v = 0 → (zk_X zk_D (zk_lkl lkX12) zk_mt (zk_cxl [(153, zk_iP pX12_within), (158, zk_iP pX12_areCards), (208, zk_iP pX12_areHands), (262, zk_iP (pJ6_bitCount_0f7a4 zk_D))]) (some .int) (zk_at cdX12_hands) (zk_qi Kr)) 25 [some (.ref 0), some (.int x), some (.int y), some (.int A), some (.int (nI w + 1))] [] h3) ∧ (¬ v = 0 → (zk_X zk_D (zk_lkl lkX12) zk_mt (zk_cxl [(153, zk_iP pX12_within), (158, zk_iP pX12_areCards), (208, zk_iP pX12_areHands), (262, zk_iP (pJ6_bitCount_0f7a4 zk_D))]) (some .int) (zk_at cdX12_hands) (zk_qi Kr)) 25 [some (.ref 0), some (.int x), some (.int y), some (.int (nI w)), some (.int (nI w + 1))] [] h3)) → (zk_X zk_D (zk_lkl lkX12) zk_mt (zk_cxl [(153, zk_iP pX12_within), (158, zk_iP pX12_areCards), (208, zk_iP pX12_areHands), (262, zk_iP (pJ6_bitCount_0f7a4 zk_D))]) (some .int) (zk_at cdX12_hands) (zk_qi Kr)) 25 [some (.ref 0), some (.int x), some (.int y), some (.int A), some (.int (nI w))] [] m := by
      intro Kr G hA hp
      refine zk_bk hX12_hands (bX12_hands_25 ?_)
      rw [f3, zk_shl9 P (by omega)]
      refine ⟨fun q => absurd q nlt, fun _ => ⟨fun q => hp, fun q => jJ6_bitCount (jJ6_bitCount ⟨fun q2 => ?_, fun q2 => hp⟩)⟩⟩
      rcases hA with z | z
      · exact absurd z q
      · exact absurd q2 z
    have both : ∀ F : Int32, (A = -2 ∨ ¬ zk_bc A ≤ zk_bc (nI w)) → pX10_couldAllBeBy [.ref 31, .int x, .int (nI w)] h (fun v h3 => (v = 0 → (zk_X zk_C (zk_lkl lkX10) zk_mt (zk_cxl [(41, zk_iP pX4_whoCould), (43, zk_iP pX4_everybody), (100, zk_iP pX10_couldAllBeBy), (262, zk_iP (pJ6_bitCount_0f7a4 zk_C))]) (some .int) (zk_at cdX10_fewestHands) (zk_qi K)) 38 [some (.ref 31), some (.int x), some (.int A), some (.int (nI w + 1)), some (.int F)] [] h3) ∧ (¬ v = 0 → (zk_X zk_C (zk_lkl lkX10) zk_mt (zk_cxl [(41, zk_iP pX4_whoCould), (43, zk_iP pX4_everybody), (100, zk_iP pX10_couldAllBeBy), (262, zk_iP (pJ6_bitCount_0f7a4 zk_C))]) (some .int) (zk_at cdX10_fewestHands) (zk_qi K)) 38 [some (.ref 31), some (.int x), some (.int (nI w)), some (.int (nI w + 1)), some (.int F)] [] h3)) := by
      intro F hA
      refine ⟨rfl, zk_bk hX10_couldAllBeBy (bX10_couldAllBeBy_0 ?_)⟩
      refine l_areHands r he hw N 0 (by omega) fun v hv0 hv => ?_
      rcases hv0 with rfl | rfl
      · refine ⟨fun _ => go A (fun Kr hk => ob Kr True hA ?_) F, fun q => absurd rfl q⟩
        refine ⟨rfl, zk_bk hX12_areHands (bX12_areHands_0 ?_)⟩
        exact hv _ ⟨fun _ => by rw [nI_1]; exact hk, fun q => absurd rfl q⟩
      · refine ⟨fun q => absurd q (by decide), fun _ => go (nI w) (fun Kr hk => ob Kr True hA ?_) F⟩
        refine ⟨rfl, zk_bk hX12_areHands (bX12_areHands_0 ?_)⟩
        exact hv _ ⟨fun q => absurd q (by decide), fun _ => by rw [nI_1]; exact hk⟩
    refine zk_bk hX10_fewestHands (bX10_fewestHands_38 ?_)
    refine jX4_everybody hP e1 ?_
    rw [zk_mask9 P (by omega)]
    refine ⟨fun q => absurd ((nI_ltI (by omega) (by omega)).mp q) (by omega), fun _ => ⟨fun q => ⟨fun q2 => absurd q2 (by decide), fun _ => both _ (Or.inl q)⟩, fun q => jJ6_bitCount (jJ6_bitCount ⟨fun q2 => ⟨fun _ => go A (fun Kr hk => ?_) _, fun q3 => absurd rfl q3⟩, fun q2 => ⟨fun q3 => absurd q3 (by decide), fun _ => both _ (Or.inr q2)⟩⟩)⟩⟩
    refine zk_bk hX12_hands (bX12_hands_25 ?_)
    rw [f3, zk_shl9 P (by omega)]
    exact ⟨fun q => absurd q nlt, fun _ => ⟨fun z => absurd z q, fun _ => jJ6_bitCount (jJ6_bitCount ⟨fun _ => by rw [nI_1]; exact hk, fun z => absurd q2 z⟩)⟩⟩
end ZKW
section ZK3
variable {lp : zk_lp} {c m : zk_H} {x y z : Int32}
theorem e_hands (R : zk_RR lp c m) : pX11_hands [.ref 0, .int x, .int y] c (fun v c' => pX12_hands [.ref 0, .int x, .int y] m (fun v' m' => v = v' ∧ zk_RR lp c' m')) := by
  obtain ⟨P, N, D, U, T, B, R8⟩ := id R
  obtain ⟨r1, -⟩ := id R8
  obtain ⟨⟨hP, hN⟩, ⟨f1, f2, f3, f4⟩, -⟩ := id r1
  refine ⟨rfl, zk_bk hX11_hands (bX11_hands_0 ?_)⟩
  refine jX4_isSet ?_
  rw [f2]
  refine ⟨fun q => ?_, fun q => jX11_isZeroOrOne ⟨fun q1 => ?_, fun q1 => ?_⟩⟩
  · show pX12_hands _ _ _
    refine ⟨rfl, zk_bk hX12_hands (bX12_hands_0 ?_)⟩
    exact jX12_areCards f4 (by omega) ⟨fun _ => ⟨rfl, R⟩, fun q2 => absurd (zk_b_n q2) (zk_b_0.mp q)⟩
  · refine ⟨rfl, zk_bk hX10_fewestHands (bX10_fewestHands_0 ?_)⟩
    refine l_hands_2 r1 (fun h he hw => ?_) N 0 (by omega) c zk_ex.rf (fun j hj => absurd hj (Nat.not_lt_zero _))
    refine l_hands_38 (y := y) r1 he hw (2 ^ P) 0 (-2) (by omega) fun v hv => ?_
    have fin : pX12_hands [.ref 0, .int x, .int y] m (fun v' m' => (if v = -2 then v else if y = 1 then v else zk_bc v) = v' ∧ zk_RR lp h m') := by
      refine ⟨rfl, zk_bk hX12_hands (bX12_hands_0 ?_)⟩
      refine jX12_areCards f4 (by omega) ⟨fun q2 => absurd (zk_b_n q) (zk_b_0.mp q2), fun _ => jX12_within ⟨fun _ => ?_, fun q2 => absurd (zk_b_n q1) (fun z => zk_b_0.mp q2 ?_)⟩⟩
      · exact hv _ ⟨rfl, P, N, D, U, T, B, zk_R_ex R8 he (zk_ex.rf (S := [])) (by decide) (by decide)⟩
      · rcases z with rfl | rfl <;> decide
    refine ⟨fun z => ?_, fun z => ⟨fun z2 => jJ6_bitCount ?_, fun z2 => ?_⟩⟩
    · rw [if_pos z] at fin; exact fin
    · rw [if_neg z, if_neg z2] at fin; exact fin
    · rw [if_neg z, if_pos z2] at fin; exact fin
  · show pX12_hands _ _ _
    refine ⟨rfl, zk_bk hX12_hands (bX12_hands_0 ?_)⟩
    refine jX12_areCards f4 (by omega) ⟨fun _ => ⟨rfl, R⟩, fun _ => jX12_within ⟨fun q2 => absurd (zk_b_n q2) fun z => zk_b_0.mp q1 ?_, fun _ => ⟨rfl, R⟩⟩⟩
    ((try simp only [zk_b_0, zk_b_1] at *); simp only [Int32.lt_iff_toInt_lt, Int32.le_iff_toInt_le, ← Int32.toInt_inj, Int32.reduceToInt] at *; omega)
end ZK3
