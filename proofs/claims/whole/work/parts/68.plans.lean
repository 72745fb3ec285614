/-! CALLS: hope, worth, thank, ask -/
def zk_ho (lw : Option zk_lns) (m : zk_H) (P i : Nat) (M y : Int32) : Int32 := match zk_mo (zk_lk M (zk_wt lw m P i)) P with
  | none => if y = 0 then -2 else 0
  | some b => if y = 0 then nI b else if nI (zk_al lw m P i) = 0 then 0 else 1000000 * (zk_wt lw m P i b - zk_mv (zk_wt lw m P i) P) / nI (zk_al lw m P i)
/-- what it is worth to thank one -/
def zk_wv (lw : Option zk_lns) (m : zk_H) (P i o : Nat) : Int32 := if nI (zk_al lw m P i) = 0 then 0 else 1000 * (m.1 14 1 * zk_wt lw m P i o - m.1 14 2 * (nI (zk_al lw m P i) - zk_wt lw m P i o)) / nI (zk_al lw m P i)
def zk_yb (m : zk_H) (i q o : Nat) : Bool := if q < 8 then decide ((m.1 6 o >>> (nI q &&& 31)) &&& 1 = 1) else if q < 12 then decide (m.1 3 o = nI q - 8) else decide ((m.1 5 o >>> (m.1 7 i &&& 31)) &&& 1 = 1)
def zk_ys (lw : Option zk_lns) (m : zk_H) (P i q : Nat) : Nat → Nat := zk_sn (fun o => if zk_yb m i q o then zk_wn lw m P i o else 0)
def zk_gr (lw : Option zk_lns) (m : zk_H) (P i q : Nat) : Nat := if zk_ys lw m P i q P < zk_al lw m P i - zk_ys lw m P i q P then zk_al lw m P i - zk_ys lw m P i q P else zk_ys lw m P i q P
def zk_bq (g : Nat → Nat) : Nat → Nat
  | 0 => 0
  | n + 1 => if g (n + 1) < g (zk_bq g n) then n + 1 else zk_bq g n
theorem zk_bq_le {g : Nat → Nat} : ∀ n, zk_bq g n ≤ n
  | 0 => Nat.le_refl _
  | n + 1 => by
    unfold zk_bq
    have := zk_bq_le (g := g) n
    split <;> omega
theorem zk_sn_mono {f g : Nat → Nat} (h : ∀ o, f o ≤ g o) : ∀ n, zk_sn f n ≤ zk_sn g n
  | 0 => Nat.le_refl _
  | n + 1 => by
    unfold zk_sn
    have := zk_sn_mono h n
    have := h n
    omega
section ZKX
variable {lw : Option zk_lns} {P i o q : Nat} {m m' : zk_H}
theorem zk_ys_le : zk_ys lw m P i q P ≤ zk_al lw m P i := zk_sn_mono (fun o => by split <;> omega) P
theorem zk_gr_e (hP : P ≤ 8) : (if nI (zk_ys lw m P i q P) < nI (zk_al lw m P i) - nI (zk_ys lw m P i q P) then nI (zk_al lw m P i) - nI (zk_ys lw m P i q P) else nI (zk_ys lw m P i q P)) = nI (zk_gr lw m P i q) := by
  have h1 := zk_ys_le (lw := lw) (m := m) (P := P) (i := i) (q := q)
  have h2 := zk_al_b (lw := lw) (m := m) (i := i) hP
  rw [nI_sub h1]
  unfold zk_gr
  by_cases h : zk_ys lw m P i q P < zk_al lw m P i - zk_ys lw m P i q P
  · rw [if_pos h, if_pos (nI_lt h (by omega))]
  · rw [if_neg h, if_neg fun z => h ((nI_ltI (by omega) (by omega)).mp z)]
theorem zk_gr_b (hP : P ≤ 8) : zk_gr lw m P i q ≤ 792 ∧ zk_gr lw m P i q ≤ zk_al lw m P i := by
  have h1 := zk_ys_le (lw := lw) (m := m) (P := P) (i := i) (q := q)
  have h2 := zk_al_b (lw := lw) (m := m) (i := i) hP
  unfold zk_gr
  split <;> omega
theorem zk_yb_ex {S : List Nat} (hm : zk_ex S m m') (hS : ∀ k ∈ S, 14 < k) : zk_yb m' i q o = zk_yb m i q o := by
  have M : ∀ k, k ≤ 14 → m'.1 k = m.1 k := fun k hk => hm.1 k fun q => by have := hS k q; omega
  unfold zk_yb
  rw [M 6 (by decide), M 3 (by decide), M 5 (by decide), M 7 (by decide)]
end ZKX
section ZKW
variable {K : Int32 → zk_H → Prop} {lw : Option zk_lns} {h c m : zk_H} {x y A M : Int32} {P N i o : Nat}
theorem jX6_hopeOfReceiver (W : zk_wo lw P c m i) {j : Nat} (hj : j < P) (ej : m.1 7 i = nI j) (H : ∀ c', zk_ex [30, 32, 33] c c' → K (zk_ho lw m P i (m.1 5 j) y) c') : pX6_hopeOfReceiver [.ref 36, .int (nI i), .int y] c K := by
  obtain ⟨⟨hP, hi⟩, ⟨f1, f3⟩, f5, ⟨b1, b2, b3, b4, b5, b6, -⟩, ⟨g1, g2, g3⟩, LL⟩ := id W
  have vi : vp_in (nI i) 8 := vp_in_nI (by omega) (by decide)
  refine ⟨rfl, zk_bk hX6_hopeOfReceiver (bX6_hopeOfReceiver_0 ?_)⟩
  rw [nI_clamp (n := i) (by omega), b5, ej, nI_clamp (n := j) (by omega), (f5 j hj).2.2.2.2.1]
  refine ⟨(by unfold vp_in; decide), (by unfold vp_in; decide), vi, vp_in_nI (by omega) (by decide), jX10_likeliestOf W fun c1 hc1 hw1 => ?_⟩
  have H1 := H
  unfold zk_ho at H1
  cases hm : zk_mo (zk_lk (m.1 5 j) (zk_wt lw m P i)) P with
  | none =>
    rw [hm] at H1
    have H2 := H1 c1 hc1
    dsimp only at H2
    refine ⟨fun q => ⟨fun z => absurd q z, fun _ => ?_⟩, fun q => ⟨fun z => absurd rfl z, fun _ => ⟨fun _ => ?_, fun z => absurd z q⟩⟩⟩
    · rw [if_pos q] at H2; exact H2
    · rw [if_neg q] at H2; exact H2
  | some b =>
    rw [hm] at H1
    have hb := zk_mo_lt hm
    have hg := zk_mo_gt hm
    have nb : ¬ zk_bo (some b) = -2 := zk_bo_n2 (show b < 100 by omega)
    refine ⟨fun q => ⟨fun z => absurd q z, fun _ => ?_⟩, fun q => ⟨fun _ => ?_, fun z => absurd z nb⟩⟩
    · have H2 := H1 c1 hc1
      dsimp only at H2
      rw [if_pos q] at H2; exact H2
    · have W1 := W.ex hc1 (zk_ex.rf (S := [])) (by decide) (by decide)
      refine jX4_everybody hP W1.2.1.1 (jX10_likeliestOf W1 fun c2 hc2 hw2 => ?_)
      rw [(zk_lk_all hP).1]
      have W2 := W1.ex hc2 (zk_ex.rf (S := [])) (by decide) (by decide)
      refine jX10_weigh W2 fun c3 hc3 hw3 => ?_
      have H2 := H1 c3 (hc1.tr (hc2.tr hc3))
      dsimp only at H2
      rw [if_neg q] at H2
      rw [zk_al_e]
      have wb : zk_lk (m.1 5 j) (zk_wt lw m P i) b = zk_wt lw m P i b := by
        unfold zk_lk at hg ⊢
        by_cases z : (m.1 5 j >>> (nI b &&& 31)) &&& 1 = 1
        · rw [if_pos z]
        · rw [if_neg z] at hg; exact absurd hg (by decide)
      rw [wb] at hg
      cases hm2 : zk_mo (zk_wt lw m P i) P with
      | none =>
        have g := zk_mv_ge (t := zk_wt lw m P i) hb
        unfold zk_mv at g
        rw [hm2] at g
        exact absurd hg (Int32.not_lt.mpr g)
      | some b2 =>
        have hb2 := zk_mo_lt hm2
        have e2 : zk_mv (zk_wt lw m P i) P = zk_wt lw m P i b2 := by unfold zk_mv; rw [hm2]
        rw [e2] at H2
        refine ⟨fun z => absurd z (zk_bo_n2 (show b2 < 100 by omega)), fun _ => ⟨fun q3 => ⟨vp_in_nI (show b < 8 by omega) (by decide), vp_in_nI (show b2 < 8 by omega) (by decide), q3, ?_⟩, fun q3 => ?_⟩⟩
        · show K (1000000 * (c3.1 33 (nI b).toNatClampNeg - c3.1 33 (nI b2).toNatClampNeg) / nI (zk_al lw m P i)) c3
          rw [nI_clamp (n := b) (by omega), nI_clamp (n := b2) (by omega), hw3 b hb, hw3 b2 hb2]
          rw [if_neg q3] at H2
          exact H2
        · rw [if_pos q3] at H2
          exact H2
theorem l_hope_28 (W : zk_wo lw P c m i) {j : Nat} (hj : j < P) (ej : m.1 7 i = nI j) (H : ∀ h', zk_ex [24, 25] m h' → K (zk_ho lw m P i (m.1 5 j) y) h') : ∀ (n o : Nat) (h : zk_H), o + n = P → zk_ex [24, 25] m h → (zk_X zk_D (zk_lkl lkX12) zk_mt (zk_cxl [(153, zk_iP pX12_within), (155, zk_iP pX12_isCard), (163, zk_iP pX12_has), (197, zk_iP pX12_counted), (198, zk_iP pX12_countedAll)]) (some .int) (zk_at cdX12_hope) (zk_qi K)) 28 [some (.ref 0), some (.int (nI i)), some (.int y), some (.int (zk_bo (zk_mo (zk_lk (m.1 5 j) (zk_wt lw m P i)) o))), some (.int (zk_mv (zk_wt lw m P i) o)), some (.int (nI o))] [] h := by
  obtain ⟨⟨hP, hi⟩, ⟨f1, f3⟩, -⟩ := id W
  intro n
  induction n with
  | zero =>
    intro o h ho he
    have hoP : o = P := by omega
    subst hoP
    refine zk_bk hX12_hope (bX12_hope_28 ?_)
    rw [he.1 0 (by decide), f3]
    refine ⟨fun _ => ⟨fun q => jX12_countedAll W he fun h1 he1 => ?_, fun q => ?_⟩, fun q => absurd ((nI_leI (by omega) (by omega)).mpr (Nat.le_refl _)) q⟩
    · have H1 := H
      unfold zk_ho at H1
      rw [zk_al_e]
      cases hm : zk_mo (zk_lk (m.1 5 j) (zk_wt lw m o i)) o with
      | none =>
        rw [hm] at H1
        have H2 := H1 h1 he1
        dsimp only at H2
        rw [if_neg q] at H2
        exact ⟨fun _ => H2, fun z => absurd rfl z⟩
      | some b =>
        rw [hm] at H1
        have hb := zk_mo_lt hm
        refine ⟨fun z => absurd z (zk_bo_n2 (show b < 100 by omega)), fun _ => ⟨fun q3 => jX12_counted W he1 hb fun h2 he2 => ⟨q3, ?_⟩, fun q3 => ?_⟩⟩
        · have H2 := H1 h2 he2
          dsimp only at H2
          rw [if_neg q, if_neg q3] at H2
          exact H2
        · have H2 := H1 h1 he1
          dsimp only at H2
          rw [if_neg q, if_pos q3] at H2
          exact H2
    · have H1 := H h he
      unfold zk_ho at H1
      cases hm : zk_mo (zk_lk (m.1 5 j) (zk_wt lw m o i)) o with
      | none => rw [hm] at H1; dsimp only at H1; rw [if_pos q] at H1; exact H1
      | some b => rw [hm] at H1; dsimp only at H1; rw [if_pos q] at H1; exact H1
  | succ n ih =>
    intro o h ho he
    have emx : (if zk_mv (zk_wt lw m P i) o < zk_wt lw m P i o then zk_wt lw m P i o else zk_mv (zk_wt lw m P i) o) = zk_mv (zk_wt lw m P i) (o + 1) := by
      by_cases z : zk_mv (zk_wt lw m P i) o < zk_wt lw m P i o
      · rw [if_pos z, (zk_mo_up z).2]
      · rw [if_neg z, (zk_mo_no z).2]
    have up : ∀ h', zk_ex [24, 25] m h' → zk_mv (zk_lk (m.1 5 j) (zk_wt lw m P i)) o < zk_lk (m.1 5 j) (zk_wt lw m P i) o → (zk_X zk_D (zk_lkl lkX12) zk_mt (zk_cxl [(153, zk_iP pX12_within), (155, zk_iP pX12_isCard), (163, zk_iP pX12_has), (197, zk_iP pX12_counted), (198, zk_iP pX12_countedAll)]) (some .int) (zk_at cdX12_hope) (zk_qi K)) 28 [some (.ref 0), some (.int (nI i)), some (.int y), some (.int (nI o)), some (.int (zk_mv (zk_wt lw m P i) (o + 1))), some (.int (nI (o + 1)))] [] h' := by
      intro h' he' z
      have I := ih (o + 1) h' (by omega) he'
      rw [(zk_mo_up z).1] at I
      exact I
    have no : ∀ h', zk_ex [24, 25] m h' → ¬ zk_mv (zk_lk (m.1 5 j) (zk_wt lw m P i)) o < zk_lk (m.1 5 j) (zk_wt lw m P i) o → (zk_X zk_D (zk_lkl lkX12) zk_mt (zk_cxl [(153, zk_iP pX12_within), (155, zk_iP pX12_isCard), (163, zk_iP pX12_has), (197, zk_iP pX12_counted), (198, zk_iP pX12_countedAll)]) (some .int) (zk_at cdX12_hope) (zk_qi K)) 28 [some (.ref 0), some (.int (nI i)), some (.int y), some (.int (zk_bo (zk_mo (zk_lk (m.1 5 j) (zk_wt lw m P i)) o))), some (.int (zk_mv (zk_wt lw m P i) (o + 1))), some (.int (nI (o + 1)))] [] h' := by
      intro h' he' z
      have I := ih (o + 1) h' (by omega) he'
      rw [(zk_mo_no z).1] at I
      exact I
    refine zk_bk hX12_hope (bX12_hope_28 ?_)
    rw [he.1 0 (by decide), f3, nI_1]
    refine ⟨fun q => absurd q (nI_ge (by omega) (by omega)), fun _ => jX12_counted W he (by omega) fun h1 he1 => ⟨vp_in_nI (by omega) (by decide), ?_⟩⟩
    rw [nI_clamp (n := i) (by omega), he1.1 7 (by decide), ej, nI_clamp (n := j) (by omega), he1.1 5 (by decide), emx]
    refine ⟨vp_in_nI (by omega) (by decide), jX12_has ⟨fun q => no h1 he1 ?_, fun q => jX12_counted W he1 (by omega) fun h2 he2 => ⟨fun q2 => ?_, fun q2 => no h2 he2 ?_⟩⟩⟩
    · unfold zk_lk
      rw [if_neg (zk_b_0.mp q)]
      exact Int32.not_lt.mpr zk_mv_nn
    · have el : zk_lk (m.1 5 j) (zk_wt lw m P i) o = zk_wt lw m P i o := by unfold zk_lk; rw [if_pos (zk_b_n q)]
      cases hm : zk_mo (zk_lk (m.1 5 j) (zk_wt lw m P i)) o with
      | none =>
        refine ⟨fun _ => up h2 he2 ?_, fun z => absurd rfl z⟩
        unfold zk_mv
        rw [hm, el]
        exact Int32.lt_of_le_of_ne zk_wt_nn (fun z => q2 z.symm)
      | some b =>
        have hb := zk_mo_lt hm
        have hg := zk_mo_gt hm
        have wb : zk_lk (m.1 5 j) (zk_wt lw m P i) b = zk_wt lw m P i b := by
          unfold zk_lk at hg ⊢
          by_cases z : (m.1 5 j >>> (nI b &&& 31)) &&& 1 = 1
          · rw [if_pos z]
          · rw [if_neg z] at hg; exact absurd hg (by decide)
        have ev : zk_mv (zk_lk (m.1 5 j) (zk_wt lw m P i)) o = zk_wt lw m P i b := by unfold zk_mv; rw [hm]; exact wb
        refine ⟨fun z => absurd z (zk_bo_n2 (show b < 100 by omega)), fun _ => jX12_counted W he2 (by omega) fun h3 he3 => jX12_counted W he3 (by omega) fun h4 he4 => ⟨fun q3 => ?_, fun q3 => up h4 he4 (by rw [ev, el]; exact Int32.not_le.mp q3)⟩⟩
        have I := no h4 he4 (by rw [ev, el]; exact Int32.not_lt.mpr q3)
        rw [hm] at I
        exact I
    · unfold zk_lk
      rw [q2]
      split <;> exact Int32.not_lt.mpr zk_mv_nn
theorem jX6_worthOfThanking (W : zk_wo lw P c m i) (e1 : c.1 14 0 = m.1 14 1) (e2 : c.1 15 0 = m.1 14 2) (he : zk_ex [30, 32, 33] c h) (hw : ∀ o, o < P → h.1 33 o = zk_wt lw m P i o) (ho : o < P) (H : K (zk_wv lw m P i o) h) : pX6_worthOfThanking [.ref 36, .int (nI o), .int (nI (zk_al lw m P i))] h K := by
  refine ⟨rfl, zk_bk hX6_worthOfThanking (bX6_worthOfThanking_0 ?_)⟩
  unfold zk_wv at H
  have hP := W.1.1
  rw [nI_clamp (n := o) (by omega), hw o ho, he.1 14 (by decide), he.1 15 (by decide), e1, e2]
  refine ⟨fun q => ⟨vp_in_nI (by omega) (by decide), (by unfold vp_in; decide), (by unfold vp_in; decide), (by unfold vp_in; decide), (by unfold vp_in; decide), q, ?_⟩, fun q => ?_⟩
  · rw [if_neg q] at H; exact H
  · rw [if_pos q] at H; exact H
theorem jX12_worthOf (W : zk_wo lw P c m i) (he : zk_ex [24, 25] m h) (ho : o < P) (H : ∀ h', zk_ex [24, 25] m h' → K (zk_wv lw m P i o) h') : pX12_worthOf [.ref 0, .int (nI o), .int (nI i)] h K := by
  refine ⟨rfl, zk_bk hX12_worthOf (bX12_worthOf_0 ?_)⟩
  refine jX12_countedAll W he fun h1 he1 => jX12_counted W he1 ho fun h2 he2 => ?_
  have H2 := H h2 he2
  unfold zk_wv at H2
  rw [zk_al_e, he2.1 14 (by decide)]
  refine ⟨fun q => ⟨(by unfold vp_in; decide), (by unfold vp_in; decide), q, ?_⟩, fun q => ?_⟩
  · rw [if_neg q] at H2; exact H2
  · rw [if_pos q] at H2; exact H2
theorem jX6_whomToThank (W : zk_wo lw P c m i) (e1 : c.1 14 0 = m.1 14 1) (e2 : c.1 15 0 = m.1 14 2) (H : ∀ c', zk_ex [30, 32, 33] c c' → K (zk_bo (zk_mo (zk_wv lw m P i) P)) c') : pX6_whomToThank [.ref 36, .int (nI i)] c K := by
  obtain ⟨⟨hP, hi⟩, ⟨f1, f3⟩, -⟩ := id W
  refine ⟨rfl, zk_bk hX6_whomToThank (bX6_whomToThank_0 ?_)⟩
  refine jX10_weigh W fun c' hc hw => ?_
  rw [zk_al_e]
  have key : ∀ (n o : Nat), o + n = P → (zk_X zk_C (zk_lkl lkX6) zk_mt (zk_cxl [(67, zk_iP pX6_worthOfThanking), (92, zk_iP pX10_weigh)]) (some .int) (zk_at cdX6_whomToThank) (zk_qi K)) 18 [some (.ref 36), some (.int (nI i)), some (.int (nI (zk_al lw m P i))), some (.int (zk_bo (zk_mo (zk_wv lw m P i) o))), some (.int (zk_mv (zk_wv lw m P i) o)), some (.int (nI o)), none] [] c' := by
    intro n
    induction n with
    | zero =>
      intro o ho
      have hoP : o = P := by omega
      subst hoP
      refine zk_bk hX6_whomToThank (bX6_whomToThank_18 ?_)
      rw [hc.1 1 (by decide), f1]
      exact ⟨fun _ => H c' hc, fun q => absurd ((nI_leI (by omega) (by omega)).mpr (Nat.le_refl _)) q⟩
    | succ n ih =>
      intro o ho
      have I := ih (o + 1) (by omega)
      refine zk_bk hX6_whomToThank (bX6_whomToThank_18 ?_)
      rw [hc.1 1 (by decide), f1, nI_1]
      refine ⟨fun q => absurd q (nI_ge (by omega) (by omega)), fun _ => jX6_worthOfThanking W e1 e2 hc hw (by omega) ⟨fun q => ?_, fun q => ?_⟩⟩
      · obtain ⟨g1, g2⟩ := zk_mo_no (t := zk_wv lw m P i) (i := o) (Int32.not_lt.mpr q)
        rw [g1, g2] at I
        refine zk_fg hX6_whomToThank ?_ I
        exact ⟨rfl, rfl, rfl, rfl, rfl, rfl, rfl, trivial⟩
      · obtain ⟨g1, g2⟩ := zk_mo_up (t := zk_wv lw m P i) (i := o) (Int32.not_le.mp q)
        rw [g1, g2] at I
        refine zk_fg hX6_whomToThank ?_ I
        exact ⟨rfl, rfl, rfl, rfl, rfl, rfl, rfl, trivial⟩
  exact key P 0 (by omega)
theorem l_thank_18 (W : zk_wo lw P c m i) (H : ∀ h', zk_ex [24, 25] m h' → K (zk_bo (zk_mo (zk_wv lw m P i) P)) h') : ∀ (n o : Nat) (h : zk_H), o + n = P → zk_ex [24, 25] m h → (zk_X zk_D (zk_lkl lkX12) zk_mt (zk_cxl [(155, zk_iP pX12_isCard), (218, zk_iP pX12_worthOf)]) (some .int) (zk_at cdX12_thank) (zk_qi K)) 18 [some (.ref 0), some (.int (nI i)), some (.int (zk_bo (zk_mo (zk_wv lw m P i) o))), some (.int (zk_mv (zk_wv lw m P i) o)), some (.int (nI o))] [] h := by
  obtain ⟨⟨hP, hi⟩, ⟨f1, f3⟩, -⟩ := id W
  intro n
  induction n with
  | zero =>
    intro o h ho he
    have hoP : o = P := by omega
    subst hoP
    refine zk_bk hX12_thank (bX12_thank_18 ?_)
    rw [he.1 0 (by decide), f3]
    exact ⟨fun _ => H h he, fun q => absurd ((nI_leI (by omega) (by omega)).mpr (Nat.le_refl _)) q⟩
  | succ n ih =>
    intro o h ho he
    refine zk_bk hX12_thank (bX12_thank_18 ?_)
    rw [he.1 0 (by decide), f3, nI_1]
    refine ⟨fun q => absurd q (nI_ge (by omega) (by omega)), fun _ => jX12_worthOf W he (by omega) fun h1 he1 => ⟨fun q => jX12_worthOf W he1 (by omega) fun h2 he2 => ?_, fun q => ?_⟩⟩
    · have I := ih (o + 1) h2 (by omega) he2
      rw [(zk_mo_up q).1, (zk_mo_up q).2] at I
      exact I
    · have I := ih (o + 1) h1 (by omega) he1
      rw [(zk_mo_no q).1, (zk_mo_no q).2] at I
      exact I
theorem jX6_saysYes {q : Nat} (W : zk_wo lw P c m i) (hq : q < 13) (ho : o < P) (he : zk_ex [30, 32, 33] c h) (H : K (if zk_yb m i q o then 1 else 0) h) : pX6_saysYes [.ref 36, .int (nI q), .int (nI o), .int (nI i)] h K := by
  obtain ⟨⟨hP, hi⟩, ⟨f1, f3⟩, f5, ⟨b1, b2, b3, b4, b5, b6, -⟩, ⟨g1, g2, g3⟩, LL⟩ := id W
  obtain ⟨a1, a2, a3, a4, a5, a6⟩ := f5 o ho
  unfold zk_yb at H
  refine ⟨rfl, zk_bk hX6_saysYes (bX6_saysYes_0 ?_)⟩
  rw [nI_clamp (n := i) (by omega), nI_clamp (n := o) (by omega), he.1 16 (by decide), he.1 5 (by decide), a3, b5]
  refine ⟨fun z => ⟨fun z2 => ⟨(by unfold vp_in; decide), vp_in_nI (by omega) (by decide), jX4_likes (by omega) ⟨zk_b_or, ?_⟩⟩, fun z2 => ⟨(by unfold vp_in; decide), vp_in_nI (by omega) (by decide), fun z3 => ⟨Or.inl rfl, ?_⟩, fun z3 => ⟨Or.inr rfl, ?_⟩⟩⟩, fun z => jX4_knows (by omega) ⟨zk_b_or, ?_⟩⟩
  · have h1 := (nI_leI (a := 12) (by decide) (by omega)).mp z2
    rw [if_neg (show ¬ q < 8 by omega), if_neg (show ¬ q < 12 by omega)] at H
    rw [he.1 7 (by decide), a5]
    show K (zk_b _) h
    simpa [zk_b] using H
  · have h1 := (nI_leI (a := 8) (by decide) (by omega)).mp z
    have h2 : q < 12 := by
      rcases Nat.lt_or_ge q 12 with g | g
      · exact g
      · exact absurd ((nI_leI (a := 12) (by decide) (by omega)).mpr g) z2
    rw [if_neg (show ¬ q < 8 by omega), if_pos h2, decide_eq_false z3] at H
    exact H
  · have h1 := (nI_leI (a := 8) (by decide) (by omega)).mp z
    have h2 : q < 12 := by
      rcases Nat.lt_or_ge q 12 with g | g
      · exact g
      · exact absurd ((nI_leI (a := 12) (by decide) (by omega)).mpr g) z2
    rw [if_neg (show ¬ q < 8 by omega), if_pos h2, decide_eq_true z3] at H
    exact H
  · have h2 : q < 8 := by
      rcases Nat.lt_or_ge q 8 with g | g
      · exact g
      · exact absurd ((nI_leI (a := 8) (by decide) (by omega)).mpr g) z
    rw [if_pos h2] at H
    rw [he.1 8 (by decide), a6]
    show K (zk_b _) h
    simpa [zk_b] using H
theorem jX12_saysYes {q : Nat} (W : zk_wo lw P c m i) (hq : q < 13) (ho : o < P) (he : zk_ex [24, 25] m h) (H : K (if zk_yb m i q o then 1 else 0) h) : pX12_saysYes [.ref 0, .int (nI o), .int (nI i), .int (nI q)] h K := by
  obtain ⟨⟨hP, hi⟩, ⟨f1, f3⟩, -⟩ := id W
  unfold zk_yb at H
  refine ⟨rfl, zk_bk hX12_saysYes (bX12_saysYes_0 ?_)⟩
  rw [nI_clamp (n := i) (by omega), nI_clamp (n := o) (by omega), he.1 5 (by decide), he.1 7 (by decide), he.1 3 (by decide), he.1 6 (by decide)]
  refine ⟨fun z => ⟨fun z2 => ⟨vp_in_nI (by omega) (by decide), vp_in_nI (by omega) (by decide), jX12_has ⟨zk_b_or, ?_⟩⟩, fun z2 => ⟨vp_in_nI (by omega) (by decide), fun z3 => ⟨Or.inl rfl, ?_⟩, fun z3 => ⟨Or.inr rfl, ?_⟩⟩⟩, fun z => ⟨vp_in_nI (by omega) (by decide), jX12_has ⟨zk_b_or, ?_⟩⟩⟩
  · have h1 := (nI_leI (a := 12) (by decide) (by omega)).mp z2
    rw [if_neg (show ¬ q < 8 by omega), if_neg (show ¬ q < 12 by omega)] at H
    show K (zk_b _) h
    simpa [zk_b] using H
  · have h1 := (nI_leI (a := 8) (by decide) (by omega)).mp z
    have h2 : q < 12 := by
      rcases Nat.lt_or_ge q 12 with g | g
      · exact g
      · exact absurd ((nI_leI (a := 12) (by decide) (by omega)).mpr g) z2
    rw [if_neg (show ¬ q < 8 by omega), if_pos h2, decide_eq_false z3] at H
    exact H
  · have h1 := (nI_leI (a := 8) (by decide) (by omega)).mp z
    have h2 : q < 12 := by
      rcases Nat.lt_or_ge q 12 with g | g
      · exact g
      · exact absurd ((nI_leI (a := 12) (by decide) (by omega)).mpr g) z2
    rw [if_neg (show ¬ q < 8 by omega), if_pos h2, decide_eq_true z3] at H
    exact H
  · have h2 : q < 8 := by
      rcases Nat.lt_or_ge q 8 with g | g
      · exact g
      · exact absurd ((nI_leI (a := 8) (by decide) (by omega)).mpr g) z
    rw [if_pos h2] at H
    show K (zk_b _) h
    simpa [zk_b] using H
theorem zk_ys_st {q : Nat} {b : Bool} (hb : zk_yb m i q o = b) : zk_ys lw m P i q (o + 1) = zk_ys lw m P i q o + (if b then zk_wn lw m P i o else 0) := by
  subst hb
  rfl
theorem jX6_sumOfYes {q : Nat} (W : zk_wo lw P c m i) (hq : q < 13) (he : zk_ex [30, 32, 33] c h) (hw : ∀ o, o < P → h.1 33 o = zk_wt lw m P i o) (H : K (nI (zk_ys lw m P i q P)) h) : pX6_sumOfYes [.ref 36, .int (nI q), .int (nI i)] h K := by
  obtain ⟨⟨hP, hi⟩, ⟨f1, f3⟩, -⟩ := id W
  have key : ∀ (n o : Nat), o + n = P → (zk_X zk_C (zk_lkl lkX6) zk_mt (zk_cxl [(66, zk_iP pX6_saysYes)]) (some .int) (zk_at cdX6_sumOfYes) (zk_qi K)) 5 [some (.ref 36), some (.int (nI q)), some (.int (nI i)), some (.int (nI (zk_ys lw m P i q o))), some (.int (nI o))] [] h := by
    intro n
    induction n with
    | zero =>
      intro o ho
      have hoP : o = P := by omega
      subst hoP
      refine zk_bk hX6_sumOfYes (bX6_sumOfYes_5 ?_)
      rw [he.1 1 (by decide), f1]
      exact ⟨fun _ => H, fun q => absurd ((nI_leI (by omega) (by omega)).mpr (Nat.le_refl _)) q⟩
    | succ n ih =>
      intro o ho
      have I := ih (o + 1) (by omega)
      refine zk_bk hX6_sumOfYes (bX6_sumOfYes_5 ?_)
      rw [he.1 1 (by decide), f1, nI_1, nI_clamp (n := o) (by omega)]
      refine ⟨fun q => absurd q (nI_ge (by omega) (by omega)), fun _ => jX6_saysYes W hq (by omega) he ?_⟩
      cases hy : zk_yb m i q o
      · rw [zk_ys_st hy] at I
        exact ⟨fun _ => I, fun z => absurd rfl z⟩
      · rw [zk_ys_st hy] at I
        rw [hw o (by omega), zk_wn_b.1, nI_add]
        exact ⟨fun z => absurd z (by decide), fun _ => ⟨vp_in_nI (by omega) (by decide), I⟩⟩
  refine ⟨rfl, zk_bk hX6_sumOfYes (bX6_sumOfYes_0 ?_)⟩
  exact key P 0 (by omega)
theorem jX12_greater {q : Nat} (W : zk_wo lw P c m i) (hq : q < 13) (he : zk_ex [24, 25] m h) (H : ∀ h', zk_ex [24, 25] m h' → K (nI (zk_gr lw m P i q)) h') : pX12_greater [.ref 0, .int (nI i), .int (nI q)] h K := by
  obtain ⟨⟨hP, hi⟩, ⟨f1, f3⟩, -⟩ := id W
  have key : ∀ (n o : Nat) (h : zk_H), o + n = P → zk_ex [24, 25] m h → (zk_X zk_D (zk_lkl lkX12) zk_mt (zk_cxl [(197, zk_iP pX12_counted), (198, zk_iP pX12_countedAll), (215, zk_iP pX12_saysYes)]) (some .int) (zk_at cdX12_greater) (zk_qi K)) 5 [some (.ref 0), some (.int (nI i)), some (.int (nI q)), some (.int (nI (zk_ys lw m P i q o))), some (.int (nI o))] [] h := by
    intro n
    induction n with
    | zero =>
      intro o h ho he
      have hoP : o = P := by omega
      subst hoP
      refine zk_bk hX12_greater (bX12_greater_5 ?_)
      rw [he.1 0 (by decide), f3]
      refine ⟨fun _ => jX12_countedAll W he fun h1 he1 => ?_, fun q => absurd ((nI_leI (by omega) (by omega)).mpr (Nat.le_refl _)) q⟩
      rw [zk_al_e, zk_gr_e hP]
      exact H h1 he1
    | succ n ih =>
      intro o h ho he
      refine zk_bk hX12_greater (bX12_greater_5 ?_)
      rw [he.1 0 (by decide), f3, nI_1]
      refine ⟨fun q => absurd q (nI_ge (by omega) (by omega)), fun _ => jX12_saysYes W hq (by omega) he ?_⟩
      cases hy : zk_yb m i q o
      · have I := ih (o + 1) h (by omega) he
        rw [zk_ys_st hy] at I
        exact ⟨fun _ => I, fun z => absurd rfl z⟩
      · refine ⟨fun z => absurd z (by decide), fun _ => jX12_counted W he (by omega) fun h1 he1 => ?_⟩
        have I := ih (o + 1) h1 (by omega) he1
        rw [zk_ys_st hy] at I
        rw [zk_wn_b.1, nI_add]
        exact I
  refine ⟨rfl, zk_bk hX12_greater (bX12_greater_0 ?_)⟩
  exact key P 0 h (by omega) he
theorem jX6_bestQuestion (W : zk_wo lw P c m i) (H : ∀ c', zk_ex [30, 32, 33] c c' → K (if y = 0 then nI (zk_bq (zk_gr lw m P i) 12) else nI (zk_gr lw m P i (zk_bq (zk_gr lw m P i) 12))) c') : pX6_bestQuestion [.ref 36, .int (nI i), .int y] c K := by
  obtain ⟨⟨hP, hi⟩, ⟨f1, f3⟩, -⟩ := id W
  refine ⟨rfl, zk_bk hX6_bestQuestion (bX6_bestQuestion_0 ?_)⟩
  refine jX10_weigh W fun c' hc hw => ?_
  rw [zk_al_e]
  have hb := zk_al_b (lw := lw) (m := m) (i := i) hP
  have key : ∀ (n k : Nat), k + n = 12 → (zk_X zk_C (zk_lkl lkX6) zk_mt (zk_cxl [(65, zk_iP pX6_sumOfYes), (92, zk_iP pX10_weigh)]) (some .int) (zk_at cdX6_bestQuestion) (zk_qi K)) 20 [some (.ref 36), some (.int (nI i)), some (.int y), some (.int (nI (zk_al lw m P i))), some (.int (nI (zk_bq (zk_gr lw m P i) k))), some (.int (nI (zk_gr lw m P i (zk_bq (zk_gr lw m P i) k)))), some (.int (nI (k + 1))), none, none] [] c' := by
    intro n
    induction n with
    | zero =>
      intro k hk
      have hk12 : k = 12 := by omega
      subst hk12
      refine zk_bk hX6_bestQuestion (bX6_bestQuestion_20 ?_)
      refine ⟨fun _ => ⟨fun q => ?_, fun q => ?_⟩, fun q => absurd (by decide) q⟩
      · have := H c' hc; rw [if_neg q] at this; exact this
      · have := H c' hc; rw [if_pos q] at this; exact this
    | succ n ih =>
      intro k hk
      have I := ih (k + 1) (by omega)
      refine zk_bk hX6_bestQuestion (bX6_bestQuestion_20 ?_)
      rw [nI_1]
      refine ⟨fun q => absurd q (nI_ge (b := 13) (by omega) (by decide)), fun _ => jX6_sumOfYes W (by omega) hc hw ?_⟩
      rw [zk_gr_e hP]
      have g1 := zk_gr_b (lw := lw) (m := m) (i := i) (q := k + 1) hP
      have g2 := zk_gr_b (lw := lw) (m := m) (i := i) (q := zk_bq (zk_gr lw m P i) k) hP
      refine ⟨fun q => ?_, fun q => ?_⟩
      · have e : zk_bq (zk_gr lw m P i) (k + 1) = zk_bq (zk_gr lw m P i) k := if_neg fun z => by
          have := (nI_leI (by omega) (by omega)).mp q
          omega
        rw [e] at I
        refine zk_fg hX6_bestQuestion ?_ I
        exact ⟨rfl, rfl, rfl, rfl, rfl, rfl, rfl, rfl, rfl, trivial⟩
      · have e : zk_bq (zk_gr lw m P i) (k + 1) = k + 1 := if_pos (by
          rcases Nat.lt_or_ge (zk_gr lw m P i (k + 1)) (zk_gr lw m P i (zk_bq (zk_gr lw m P i) k)) with z | z
          · exact z
          · exact absurd ((nI_leI (by omega) (by omega)).mpr z) q)
        rw [e] at I
        refine zk_fg hX6_bestQuestion ?_ I
        exact ⟨rfl, rfl, rfl, rfl, rfl, rfl, rfl, rfl, rfl, trivial⟩
  have g0 := zk_gr_b (lw := lw) (m := m) (i := i) (q := 0) hP
  refine zk_bk hX6_bestQuestion (bX6_bestQuestion_20 ?_)
  refine ⟨fun q => absurd q (by decide), fun _ => jX6_sumOfYes (q := 0) W (by decide) hc hw ?_⟩
  rw [zk_gr_e hP, nI_1]
  refine ⟨fun q => absurd q (nI_ge (by omega) (by omega)), fun _ => zk_fg hX6_bestQuestion ?_ (key 12 0 (by omega))⟩
  exact ⟨rfl, rfl, rfl, rfl, rfl, rfl, rfl, rfl, rfl, trivial⟩
theorem l_ask_24 (W : zk_wo lw P c m i) (H : ∀ h', zk_ex [24, 25] m h' → K (if y = 0 then nI (zk_bq (zk_gr lw m P i) 12) else nI (zk_gr lw m P i (zk_bq (zk_gr lw m P i) 12))) h') : ∀ (n k : Nat) (h : zk_H), k + n = 12 → zk_ex [24, 25] m h → (zk_X zk_D (zk_lkl lkX12) zk_mt (zk_cxl [(153, zk_iP pX12_within), (155, zk_iP pX12_isCard), (216, zk_iP pX12_greater)]) (some .int) (zk_at cdX12_ask) (zk_qi K)) 24 [some (.ref 0), some (.int (nI i)), some (.int y), some (.int (nI (zk_bq (zk_gr lw m P i) k))), some (.int (nI (k + 1)))] [] h := by
  obtain ⟨⟨hP, hi⟩, ⟨f1, f3⟩, -⟩ := id W
  intro n
  induction n with
  | zero =>
    intro k h hk he
    have hk12 : k = 12 := by omega
    subst hk12
    have hb := zk_bq_le (g := zk_gr lw m P i) 12
    refine zk_bk hX12_ask (bX12_ask_24 ?_)
    refine ⟨fun _ => ⟨fun q => jX12_greater W (by omega) he fun h1 he1 => ?_, fun q => ?_⟩, fun q => absurd (by decide) q⟩
    · have := H h1 he1; rw [if_neg q] at this; exact this
    · have := H h he; rw [if_pos q] at this; exact this
  | succ n ih =>
    intro k h hk he
    have hb := zk_bq_le (g := zk_gr lw m P i) k
    have g1 := zk_gr_b (lw := lw) (m := m) (i := i) (q := k + 1) hP
    have g2 := zk_gr_b (lw := lw) (m := m) (i := i) (q := zk_bq (zk_gr lw m P i) k) hP
    refine zk_bk hX12_ask (bX12_ask_24 ?_)
    rw [nI_1]
    refine ⟨fun q => absurd q (nI_ge (b := 13) (by omega) (by decide)), fun _ => jX12_greater W (by omega) he fun h1 he1 => jX12_greater W (by omega) he1 fun h2 he2 => ⟨fun q => ?_, fun q => ?_⟩⟩
    · have I := ih (k + 1) h2 (by omega) he2
      have e : zk_bq (zk_gr lw m P i) (k + 1) = zk_bq (zk_gr lw m P i) k := if_neg fun z => by
        have := (nI_leI (by omega) (by omega)).mp q
        omega
      rw [e] at I
      exact I
    · have I := ih (k + 1) h2 (by omega) he2
      have e : zk_bq (zk_gr lw m P i) (k + 1) = k + 1 := if_pos (by
        rcases Nat.lt_or_ge (zk_gr lw m P i (k + 1)) (zk_gr lw m P i (zk_bq (zk_gr lw m P i) k)) with z | z
        · exact z
        · exact absurd ((nI_leI (by omega) (by omega)).mpr z) q)
      rw [e] at I
      exact I
end ZKW
section ZK3
variable {c m : zk_H} {x y z : Int32}
theorem e_hope (R : zk_RR zk_lpe c m) : pX11_hope [.ref 0, .int x, .int y] c (fun v c' => pX12_hope [.ref 0, .int x, .int y] m (fun v' m' => v = v' ∧ zk_RR zk_lpe c' m')) := by
  obtain ⟨P, N, D, U, T, B, R8⟩ := id R
  obtain ⟨r1, -, -, -, -, -, -, lw, LL⟩ := id R8
  obtain ⟨⟨hP, hN⟩, ⟨f1, f2, f3, f4⟩, -⟩ := id r1
  refine ⟨rfl, zk_bk hX11_hope (bX11_hope_0 ?_)⟩
  refine jX4_isCard ?_
  rw [f2]
  refine ⟨fun q => ?_, fun q => jX11_isZeroOrOne ⟨fun q1 => ?_, fun q1 => ?_⟩⟩
  · show pX12_hope _ _ _
    refine ⟨rfl, zk_bk hX12_hope (bX12_hope_0 ?_)⟩
    exact jX12_isCard f4 (by omega) ⟨fun _ => ⟨rfl, R⟩, fun q2 => absurd (zk_b_n q2) (zk_b_0.mp q)⟩
  · obtain ⟨i, hi, ei⟩ := zk_ix (by omega) (zk_b_n q).1 (zk_b_n q).2
    have W := r1.wo LL hi
    obtain ⟨j, hj, ej⟩ := id W.2.2.2.1.2.2.2.2.2.2
    rw [ei]
    refine jX6_hopeOfReceiver W hj ej fun c' hc => ?_
    show pX12_hope _ _ _
    refine ⟨rfl, zk_bk hX12_hope (bX12_hope_0 ?_)⟩
    refine jX12_isCard f4 (by omega) ⟨fun q2 => absurd (zk_b_n q) (by rw [ei]; exact zk_b_0.mp q2), fun _ => jX12_within ⟨fun _ => ?_, fun q2 => absurd (zk_b_n q1) (fun z => zk_b_0.mp q2 ?_)⟩⟩
    · exact l_hope_28 W hj ej (fun m' hm => ⟨rfl, P, N, D, U, T, B, zk_R_ex R8 hc hm (by decide) (by decide)⟩) P 0 m (by omega) zk_ex.rf
    · rcases z with rfl | rfl <;> decide
  · show pX12_hope _ _ _
    refine ⟨rfl, zk_bk hX12_hope (bX12_hope_0 ?_)⟩
    refine jX12_isCard f4 (by omega) ⟨fun _ => ⟨rfl, R⟩, fun _ => jX12_within ⟨fun q2 => absurd (zk_b_n q2) fun z => zk_b_0.mp q1 ?_, fun _ => ⟨rfl, R⟩⟩⟩
    ((try simp only [zk_b_0, zk_b_1] at *); simp only [Int32.lt_iff_toInt_lt, Int32.le_iff_toInt_le, ← Int32.toInt_inj, Int32.reduceToInt] at *; omega)
theorem e_ask (R : zk_RR zk_lpe c m) : pX11_ask [.ref 0, .int x, .int y] c (fun v c' => pX12_ask [.ref 0, .int x, .int y] m (fun v' m' => v = v' ∧ zk_RR zk_lpe c' m')) := by
  obtain ⟨P, N, D, U, T, B, R8⟩ := id R
  obtain ⟨r1, -, -, -, -, -, -, lw, LL⟩ := id R8
  obtain ⟨⟨hP, hN⟩, ⟨f1, f2, f3, f4⟩, -⟩ := id r1
  refine ⟨rfl, zk_bk hX11_ask (bX11_ask_0 ?_)⟩
  refine jX4_isCard ?_
  rw [f2]
  refine ⟨fun q => ?_, fun q => jX11_isZeroOrOne ⟨fun q1 => ?_, fun q1 => ?_⟩⟩
  · show pX12_ask _ _ _
    refine ⟨rfl, zk_bk hX12_ask (bX12_ask_0 ?_)⟩
    exact jX12_isCard f4 (by omega) ⟨fun _ => ⟨rfl, R⟩, fun q2 => absurd (zk_b_n q2) (zk_b_0.mp q)⟩
  · obtain ⟨i, hi, ei⟩ := zk_ix (by omega) (zk_b_n q).1 (zk_b_n q).2
    have W := r1.wo LL hi
    rw [ei]
    refine jX6_bestQuestion W fun c' hc => ?_
    show pX12_ask _ _ _
    refine ⟨rfl, zk_bk hX12_ask (bX12_ask_0 ?_)⟩
    refine jX12_isCard f4 (by omega) ⟨fun q2 => absurd (zk_b_n q) (by rw [ei]; exact zk_b_0.mp q2), fun _ => jX12_within ⟨fun _ => ?_, fun q2 => absurd (zk_b_n q1) (fun z => zk_b_0.mp q2 ?_)⟩⟩
    · exact l_ask_24 W (fun m' hm => ⟨rfl, P, N, D, U, T, B, zk_R_ex R8 hc hm (by decide) (by decide)⟩) 12 0 m (by omega) zk_ex.rf
    · rcases z with rfl | rfl <;> decide
  · show pX12_ask _ _ _
    refine ⟨rfl, zk_bk hX12_ask (bX12_ask_0 ?_)⟩
    refine jX12_isCard f4 (by omega) ⟨fun _ => ⟨rfl, R⟩, fun _ => jX12_within ⟨fun q2 => absurd (zk_b_n q2) fun z => zk_b_0.mp q1 ?_, fun _ => ⟨rfl, R⟩⟩⟩
    ((try simp only [zk_b_0, zk_b_1] at *); simp only [Int32.lt_iff_toInt_lt, Int32.le_iff_toInt_le, ← Int32.toInt_inj, Int32.reduceToInt] at *; omega)
theorem e_worth (R : zk_RR zk_lpe c m) : pX11_worth [.ref 0, .int x] c (fun v c' => pX12_worth [.ref 0, .int x] m (fun v' m' => v = v' ∧ zk_RR zk_lpe c' m')) := by
  obtain ⟨P, N, D, U, T, B, R8⟩ := id R
  obtain ⟨r1, -, -, -, -, -, -, lw, LL⟩ := id R8
  obtain ⟨⟨hP, hN⟩, ⟨f1, f2, f3, f4⟩, f5, f6, f7, -⟩ := id r1
  refine ⟨rfl, zk_bk hX11_worth (bX11_worth_0 ?_)⟩
  refine jX4_isCardAndPerson ?_
  rw [f1, f2]
  refine ⟨fun q => ?_, fun q => ?_⟩
  · obtain ⟨a1, ⟨a2, a3⟩, a4, a5⟩ := zk_b_n q
    obtain ⟨i, hi, ei⟩ := zk_ix (by omega) a2 a3
    obtain ⟨o, ho, eo⟩ := zk_ix (by omega) a4 a5
    refine ⟨by decide, ?_⟩
    rw [eo, ei]
    have W := r1.wo LL hi
    refine jX10_weigh W fun c' hc hw => ⟨by decide, ?_⟩
    rw [zk_al_e]
    refine jX6_worthOfThanking W f7.2.1 f7.2.2 hc hw ho ?_
    show pX12_worth _ _ _
    refine ⟨rfl, zk_bk hX12_worth (bX12_worth_0 ?_)⟩
    refine jX12_isCardOf f3 hP f4 (by omega) ⟨fun q2 => absurd (zk_b_n q) (zk_b_0.mp q2), fun _ => ⟨by decide, by decide, ?_⟩⟩
    rw [eo, ei]
    exact jX12_worthOf W zk_ex.rf ho fun m' hm => ⟨rfl, P, N, D, U, T, B, zk_R_ex R8 hc hm (by decide) (by decide)⟩
  · show pX12_worth _ _ _
    refine ⟨rfl, zk_bk hX12_worth (bX12_worth_0 ?_)⟩
    exact jX12_isCardOf f3 hP f4 (by omega) ⟨fun _ => ⟨rfl, R⟩, fun q2 => absurd (zk_b_n q2) (zk_b_0.mp q)⟩
theorem e_thank (R : zk_RR zk_lpe c m) : pX11_thank [.ref 0, .int x] c (fun v c' => pX12_thank [.ref 0, .int x] m (fun v' m' => v = v' ∧ zk_RR zk_lpe c' m')) := by
  obtain ⟨P, N, D, U, T, B, R8⟩ := id R
  obtain ⟨r1, -, -, -, -, -, -, lw, LL⟩ := id R8
  obtain ⟨⟨hP, hN⟩, ⟨f1, f2, f3, f4⟩, f5, f6, f7, -⟩ := id r1
  refine ⟨rfl, zk_bk hX11_thank (bX11_thank_0 ?_)⟩
  refine jX4_isCard ?_
  rw [f2]
  refine ⟨fun q => ?_, fun q => ?_⟩
  · show pX12_thank _ _ _
    refine ⟨rfl, zk_bk hX12_thank (bX12_thank_0 ?_)⟩
    exact jX12_isCard f4 (by omega) ⟨fun q2 => absurd (zk_b_n q2) (zk_b_0.mp q), fun _ => ⟨rfl, R⟩⟩
  · obtain ⟨i, hi, ei⟩ := zk_ix (by omega) (zk_b_n q).1 (zk_b_n q).2
    have W := r1.wo LL hi
    rw [ei]
    refine jX6_whomToThank W f7.2.1 f7.2.2 fun c' hc => ?_
    show pX12_thank _ _ _
    refine ⟨rfl, zk_bk hX12_thank (bX12_thank_0 ?_)⟩
    exact jX12_isCard f4 (by omega) ⟨fun _ => l_thank_18 W (fun m' hm => ⟨rfl, P, N, D, U, T, B, zk_R_ex R8 hc hm (by decide) (by decide)⟩) P 0 m (by omega) zk_ex.rf, fun q2 => absurd (zk_b_n q) (by rw [ei]; exact zk_b_0.mp q2)⟩
end ZK3
