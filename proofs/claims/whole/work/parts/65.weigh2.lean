/-! HOW MUCH A CARD COUNTS: the class' side -/
section ZKX
variable {c c' : zk_H} {i o : Nat} {x : Int32}
theorem zk_cp_ex {S : List Nat} (hm : zk_ex S c c') (hS : ∀ k ∈ S, 16 < k) : zk_cp c' i x o = zk_cp c i x o := by
  have M : ∀ k, k ≤ 16 → c'.1 k = c.1 k := fun k hk => hm.1 k fun q => by have := hS k q; omega
  unfold zk_cp
  rw [M 16 (by decide), M 8 (by decide), M 12 (by decide), M 3 (by decide), M 9 (by decide), M 4 (by decide)]
end ZKX
section ZKW
variable {K : Int32 → zk_H → Prop} {lw : Option zk_lns} {h c m : zk_H} {x y A : Int32} {P N i o : Nat}
theorem jX10_likenessOfHand (hi : i < 8) (ho : o < 8) (hs : -1 ≤ h.1 10 i) (H : K (if h.1 10 i = -1 then 1 else if h.1 10 i = h.1 5 o then 2 else 0) h) : pX10_likenessOfHand [.ref 31, .int (nI o), .int (nI i)] h K := by
  refine ⟨rfl, zk_bk hX10_likenessOfHand (bX10_likenessOfHand_0 ?_)⟩
  rw [nI_clamp (n := i) (by omega), nI_clamp (n := o) (by omega)]
  refine ⟨(by unfold vp_in; decide), vp_in_nI hi (by decide), fun q => ⟨(by unfold vp_in; decide), vp_in_nI ho (by decide), fun q2 => ?_, fun q2 => ?_⟩, fun q => ?_⟩
  · rw [if_neg (fun z => absurd q (by rw [z]; decide)), if_neg q2] at H; exact H
  · rw [if_neg (fun z => absurd q (by rw [z]; decide)), if_pos q2] at H; exact H
  · rw [if_pos (by ((try simp only [zk_b_0, zk_b_1] at *); simp only [Int32.lt_iff_toInt_lt, Int32.le_iff_toInt_le, ← Int32.toInt_inj, Int32.reduceToInt] at *; omega))] at H; exact H
theorem jX10_valueWithoutLaw (H : K (zk_dv (h.1 32 0) (h.1 32 1) (h.1 13 0)) h) : pX10_valueWithoutLaw [.ref 31] h K := by
  refine ⟨rfl, zk_bk hX10_valueWithoutLaw (bX10_valueWithoutLaw_0 ?_)⟩
  unfold zk_dv at H
  refine ⟨(by unfold vp_in; decide), (by unfold vp_in; decide), (by unfold vp_in; decide), fun q => ⟨(by unfold vp_in; decide), fun q2 => ⟨(by unfold vp_in; decide), ?_⟩, fun q2 => ⟨(by unfold vp_in; decide), ?_⟩⟩, fun q => ⟨(by unfold vp_in; decide), ?_⟩⟩
  · rw [if_neg q, if_neg q2] at H; exact H
  · rw [if_neg q, if_pos q2] at H; exact H
  · rw [if_pos q] at H; exact H
theorem jX3_isTold (H : K (if h.1 28 1 ≤ 0 then 0 else 1) h) : pX3_isTold [.ref 28] h K := by
  refine ⟨rfl, zk_bk hX3_isTold (bX3_isTold_0 ?_)⟩
  exact ⟨fun q => ⟨Or.inl rfl, by rw [if_pos q] at H; exact H⟩, fun q => ⟨Or.inr rfl, by rw [if_neg q] at H; exact H⟩⟩
theorem jX10_countFor (W : zk_wo lw P c m i) (he : zk_ex [30, 32, 33] c h) (ho : o < P) (n3 : h.1 32 3 = zk_n3 m P i) (n4 : h.1 32 4 = m.1 11 i) (n5 : h.1 32 5 = nI i) (H : ∀ h', zk_ex [30, 32, 33] c h' → h'.1 33 = h.1 33 → (h'.1 32 3 = zk_n3 m P i ∧ h'.1 32 4 = m.1 11 i ∧ h'.1 32 5 = nI i) → K (zk_clp (zk_vw lw m P i o)) h') : pX10_countFor [.ref 31, .int (nI i), .int (nI o)] h K := by
  obtain ⟨⟨hP, hi⟩, ⟨f1, f3⟩, f5, ⟨b1, b2, b3, b4, b5, b6, jj, hjj, ejj⟩, ⟨g1, g2, g3⟩, LL⟩ := id W
  obtain ⟨a1, a2, a3, a4, a5, a6⟩ := f5 o ho
  have vi : vp_in (nI i) 8 := vp_in_nI (by omega) (by decide)
  have vo : vp_in (nI o) 8 := vp_in_nI (by omega) (by decide)
  have C : ∀ k, k ≤ 29 → h.1 k = c.1 k := fun k hk => he.1 k (by simp; omega)
  have rest : ∀ l : Int32, l = zk_nm m P i o 0 → pX10_likenessOfHand [.ref 31, .int (nI o), .int (nI i)] (zk_si h 32 0 l) (fun v4 h3 => (vp_in (1 : Int32) 6 ∧ (vp_in (3 : Int32) 16 ∧ (vp_in (nI o) 8 ∧ (vp_in (2 : Int32) 6 ∧ pX3_isTold [.ref 28] (zk_si (zk_si h3 32 1 v4) 32 2 (h3.1 6 (nI o).toNatClampNeg)) (fun v6 h5 => ((v6 = 0 → pX10_valueWithoutLaw [.ref 31] h5 (fun v8 h7 => K (zk_clp v8) h7)) ∧ (¬ v6 = 0 → pX3_valueFor [.ref 28, .ref 32] h5 (fun v10 h9 => K (zk_clp v10) h9))))))))) := by
    intro l hl
    refine jX10_likenessOfHand (by omega) (by omega) (by simp [zk_si, C, b2, b6]) ⟨(by unfold vp_in; decide), (by unfold vp_in; decide), vo, (by unfold vp_in; decide), ?_⟩
    rw [nI_clamp (n := o) (by omega)]
    have eh : (if (zk_si h 32 0 l).1 10 i = -1 then (1 : Int32) else if (zk_si h 32 0 l).1 10 i = (zk_si h 32 0 l).1 5 o then 2 else 0) = zk_nm m P i o 1 := by
      simp [zk_si, C, b2, a3, zk_nm]
    have e6 : (zk_si h 32 0 l).1 6 o = m.1 4 o := by simp [zk_si, C, a4]
    rw [eh, e6]
    have x5 : zk_ex [30, 32, 33] c (zk_si (zk_si (zk_si h 32 0 l) 32 1 (zk_nm m P i o 1)) 32 2 (m.1 4 o)) := ((he.si (by simp)).si (by simp)).si (by simp)
    have y5 : (zk_si (zk_si (zk_si h 32 0 l) 32 1 (zk_nm m P i o 1)) 32 2 (m.1 4 o)).1 33 = h.1 33 := by simp [zk_si]
    have z5 : ∀ z, z ≤ 5 → (zk_si (zk_si (zk_si h 32 0 l) 32 1 (zk_nm m P i o 1)) 32 2 (m.1 4 o)).1 32 z = zk_nm m P i o z := by
      intro z hz
      have hz' : z = 0 ∨ z = 1 ∨ z = 2 ∨ z = 3 ∨ z = 4 ∨ z = 5 := by omega
      rcases hz' with rfl | rfl | rfl | rfl | rfl | rfl
      · simp [zk_si, hl]
      · simp [zk_si]
      · simp [zk_si, zk_nm]
      · simp [zk_si, n3, zk_nm]
      · simp [zk_si, n4, zk_nm]
      · simp [zk_si, n5, zk_nm]
    generalize (zk_si (zk_si (zk_si h 32 0 l) 32 1 (zk_nm m P i o 1)) 32 2 (m.1 4 o)) = h5 at x5 y5 z5
    have C5 : ∀ k, k ≤ 29 → h5.1 k = c.1 k := fun k hk => x5.1 k (by simp; omega)
    refine jX3_isTold ?_
    cases lw with
    | none =>
      rw [C5 28 (by decide), LL.1, if_pos (by decide)]
      refine ⟨fun _ => jX10_valueWithoutLaw ?_, fun q => absurd rfl q⟩
      have := H h5 x5 y5 ⟨(z5 3 (by decide)).trans zk_nm3, (z5 4 (by decide)).trans zk_nm4, (z5 5 (by decide)).trans zk_nm5⟩
      unfold zk_vw at this
      dsimp only at this
      rw [z5 0 (by decide), z5 1 (by decide), C5 13 (by decide), g1]
      exact this
    | some L =>
      obtain ⟨L1, L2, L3, L4, L5, L6, L7, L8, L9⟩ := LL
      have hp := zk_flat_pos L1
      rw [C5 28 (by decide), L5, if_neg (show ¬ nI (zk_flat L).length ≤ (0 : Int32) from nI_ge (a := 0) hp (by omega))]
      refine ⟨fun q => absurd q (by decide), fun _ => jX3_valueFor L2 L4 (by rw [C5 28 (by decide)]; exact L5) (by rw [C5 29 (by decide)]; exact L6) fun h' he' => ?_⟩
      have := H h' (x5.tr (he'.up (by simp))) (by rw [he'.1 33 (by decide)]; exact y5) (by rw [he'.1 32 (by decide)]; exact ⟨(z5 3 (by decide)).trans zk_nm3, (z5 4 (by decide)).trans zk_nm4, (z5 5 (by decide)).trans zk_nm5⟩)
      unfold zk_vw at this
      dsimp only at this
      rw [zk_vL_c z5]
      exact this
  refine ⟨rfl, zk_bk hX10_countFor (bX10_countFor_0 ?_)⟩
  rw [nI_clamp (n := i) (by omega)]
  have eb : (h.1 7 o >>> (h.1 16 i &&& 31)) &&& 1 = (m.1 5 o >>> (m.1 7 i &&& 31)) &&& 1 := by rw [C 7 (by decide), C 16 (by decide), a5, b5]
  refine ⟨(by unfold vp_in; decide), vi, jX4_likes (by omega) ⟨fun q => ⟨(by unfold vp_in; decide), rest 0 ?_⟩, fun q => ⟨(by unfold vp_in; decide), rest 1 ?_⟩⟩⟩
  · exact (if_neg fun z => zk_b_0.mp q (eb.trans z)).symm
  · exact (if_pos (eb.symm.trans (zk_b_n q))).symm
theorem jX10_weigh (W : zk_wo lw P c m i) (H : ∀ c', zk_ex [30, 32, 33] c c' → (∀ o, o < P → c'.1 33 o = zk_wt lw m P i o) → K (zk_su (zk_wt lw m P i) P) c') : pX10_weigh [.ref 31, .int (nI i)] c K := by
  obtain ⟨⟨hP, hi⟩, ⟨f1, f3⟩, f5, ⟨b1, b2, b3, b4, b5, b6, jj, hjj, ejj⟩, ⟨g1, g2, g3⟩, LL⟩ := id W
  have vi : vp_in (nI i) 8 := vp_in_nI (by omega) (by decide)
  have M8 := zk_mask_lt (p := zk_cq m i) hP
  have key : ∀ (n o : Nat) (h : zk_H), o + n = P → zk_ex [30, 32, 33] c h → (h.1 32 3 = zk_n3 m P i ∧ h.1 32 4 = m.1 11 i ∧ h.1 32 5 = nI i) → (∀ k, k < o → h.1 33 k = zk_wt lw m P i k) → (zk_X zk_C (zk_lkl lkX10) zk_mt (zk_cxl [(42, zk_iP pX4_whoCouldWithSecret), (45, zk_iP pX4_whoKnows), (93, zk_iP pX10_countFor), (262, zk_iP (pJ6_bitCount_0f7a4 zk_C))]) (some .int) (zk_at cdX10_weigh) (zk_qi K)) 79 [some (.ref 31), some (.int (nI i)), some (.int (c.1 11 i)), some (.int (nI (zk_mask (zk_cq m i) P))), some (.int (zk_su (zk_wt lw m P i) o)), some (.int (nI o))] [] h := by
    intro n
    induction n with
    | zero =>
      intro o h ho he hn hw
      have hoP : o = P := by omega
      subst hoP
      refine zk_bk hX10_weigh (bX10_weigh_79 ?_)
      rw [he.1 1 (by decide), f1]
      exact ⟨fun _ => H h he hw, fun q => absurd ((nI_leI (by omega) (by omega)).mpr (Nat.le_refl _)) q⟩
    | succ n ih =>
      intro o h ho he hn hw
      have vo : vp_in (nI o) 8 := vp_in_nI (by omega) (by decide)
      have st : ∀ (h' : zk_H) (v : Int32), zk_ex [30, 32, 33] c h' → (h'.1 32 3 = zk_n3 m P i ∧ h'.1 32 4 = m.1 11 i ∧ h'.1 32 5 = nI i) → h'.1 33 = h.1 33 → v = zk_wt lw m P i o → (zk_X zk_C (zk_lkl lkX10) zk_mt (zk_cxl [(42, zk_iP pX4_whoCouldWithSecret), (45, zk_iP pX4_whoKnows), (93, zk_iP pX10_countFor), (262, zk_iP (pJ6_bitCount_0f7a4 zk_C))]) (some .int) (zk_at cdX10_weigh) (zk_qi K)) 79 [some (.ref 31), some (.int (nI i)), some (.int (c.1 11 i)), some (.int (nI (zk_mask (zk_cq m i) P))), some (.int (zk_su (zk_wt lw m P i) o + (zk_si h' 33 o v).1 33 o)), some (.int (nI (o + 1)))] [] (zk_si h' 33 o v) := by
        intro h' v he' hn' h33 hv
        have I := ih (o + 1) (zk_si h' 33 o v) (by omega) (he'.si (by simp)) (by rw [zk_si_ne (by decide)]; exact hn') (fun k hk => by
          rw [zk_si_at]
          by_cases e : k = o
          · rw [if_pos e, hv, e]
          · rw [if_neg e, h33]; exact hw k (by omega))
        rw [zk_si_at, if_pos rfl, hv]
        rw [hv] at I
        exact I
      refine zk_bk hX10_weigh (bX10_weigh_79 ?_)
      rw [he.1 1 (by decide), f1, nI_clamp (n := o) (by omega), nI_1, zk_bitof o (by omega) _ M8, zk_mask_tb, decide_eq_true (show o < P by omega), Bool.true_and]
      refine ⟨fun q => absurd q (nI_ge (by omega) (by omega)), fun _ => ⟨fun q => jX10_countFor W he (by omega) hn.1 hn.2.1 hn.2.2 fun h' he' h33 hn' => ⟨vo, vo, st h' _ he' hn' h33 ?_⟩, fun q => ⟨vo, vo, st h 0 he hn rfl ?_⟩⟩⟩
      · unfold zk_wt
        cases hq : zk_cq m i o
        · rw [hq] at q; exact absurd rfl q
        · rfl
      · unfold zk_wt
        cases hq : zk_cq m i o
        · rfl
        · rw [hq] at q; exact absurd q (by decide)
  have go : ∀ v : Int32, v = zk_n3 m P i → pX4_whoCouldWithSecret [.ref 1, .int (nI i), .int (c.1 11 i)] (zk_si (zk_si (zk_si c 32 3 v) 32 4 (c.1 12 i)) 32 5 (nI i)) (fun v6 h5 => (zk_X zk_C (zk_lkl lkX10) zk_mt (zk_cxl [(42, zk_iP pX4_whoCouldWithSecret), (45, zk_iP pX4_whoKnows), (93, zk_iP pX10_countFor), (262, zk_iP (pJ6_bitCount_0f7a4 zk_C))]) (some .int) (zk_at cdX10_weigh) (zk_qi K)) 79 [some (.ref 31), some (.int (nI i)), some (.int (c.1 11 i)), some (.int v6), some (.int (0 : Int32)), some (.int (0 : Int32))] [] h5) := by
    intro v hv
    have x5 : zk_ex [30, 32, 33] c (zk_si (zk_si (zk_si c 32 3 v) 32 4 (c.1 12 i)) 32 5 (nI i)) := ((zk_ex.rf.si (by simp)).si (by simp)).si (by simp)
    have n5 : (zk_si (zk_si (zk_si c 32 3 v) 32 4 (c.1 12 i)) 32 5 (nI i)).1 32 3 = zk_n3 m P i ∧ (zk_si (zk_si (zk_si c 32 3 v) 32 4 (c.1 12 i)) 32 5 (nI i)).1 32 4 = m.1 11 i ∧ (zk_si (zk_si (zk_si c 32 3 v) 32 4 (c.1 12 i)) 32 5 (nI i)).1 32 5 = nI i := by simp [zk_si, hv, b4]
    generalize (zk_si (zk_si (zk_si c 32 3 v) 32 4 (c.1 12 i)) 32 5 (nI i)) = h5 at x5 n5
    refine jX4_whoCouldWithSecret hP (by rw [x5.1 1 (by decide)]; exact f1) (by omega) (show jj < 8 by omega) (by rw [x5.1 16 (by decide), b5, ejj]) ?_
    rw [zk_mask_c (q := zk_cq m i) fun o ho => (zk_cp_ex x5 (by decide)).trans (W.could ho)]
    exact key P 0 h5 (by omega) x5 n5 (fun k hk => absurd hk (Nat.not_lt_zero _))
  refine ⟨rfl, zk_bk hX10_weigh (bX10_weigh_0 ?_)⟩
  rw [nI_clamp (n := i) (by omega)]
  refine ⟨(by unfold vp_in; decide), vi, fun q => jX4_whoKnows (p := fun o => decide ((c.1 8 o >>> (c.1 11 i &&& 31)) &&& 1 = 1)) hP f1 (fun o _ => by simp) (jJ6_bitCount ⟨(by unfold vp_in; decide), (by unfold vp_in; decide), vi, (by unfold vp_in; decide), (by unfold vp_in; decide), go _ ?_⟩), fun q => ⟨(by unfold vp_in; decide), (by unfold vp_in; decide), vi, (by unfold vp_in; decide), (by unfold vp_in; decide), go 0 ?_⟩⟩
  · rw [zk_bc_mask hP]
    show _ = nI _
    congr 1
    refine zk_cn_c fun o ho => ?_
    rw [b3] at q ⊢
    rw [(f5 o ho).2.2.2.2.2, decide_eq_true (show ¬ m.1 10 i < 0 by ((try simp only [zk_b_0, zk_b_1] at *); simp only [Int32.lt_iff_toInt_lt, Int32.le_iff_toInt_le, ← Int32.toInt_inj, Int32.reduceToInt] at *; omega))]
    rfl
  · rw [b3] at q
    have hz : ∀ n, zk_cn (fun o => decide (¬ m.1 10 i < 0) && decide ((m.1 6 o >>> (m.1 10 i &&& 31)) &&& 1 = 1)) n = 0 := by
      have hf : decide (¬ m.1 10 i < 0) = false := decide_eq_false (fun z => by ((try simp only [zk_b_0, zk_b_1] at *); simp only [Int32.lt_iff_toInt_lt, Int32.le_iff_toInt_le, ← Int32.toInt_inj, Int32.reduceToInt] at *; omega))
      intro n
      induction n with
      | zero => rfl
      | succ n ih =>
        unfold zk_cn
        rw [ih, hf]
        rfl
    show (0 : Int32) = nI _
    rw [hz]
    rfl
end ZKW
