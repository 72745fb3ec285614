/-! CALLS: row, element, taken -/
section ZKU
variable {h : zk_H} {x y z : Int32}
theorem l_row_48 {K : Int32 → zk_H → Prop} {m0 : zk_H} {s : Nat} {x2 x3 : Int32} (hs : s < 6) (next : ∀ h, h.1 = m0.1 → (∀ k, k ≠ 34 → h.2 k = m0.2 k) → (∀ j, h.2 34 j = if 60 * s ≤ j ∧ j < 60 * s + 60 then 0 else m0.2 34 j) → K 1 h) :
    ∀ (n i : Nat), i + n = 60 → ∀ h, h.1 = m0.1 → (∀ k, k ≠ 34 → h.2 k = m0.2 k) → (∀ j, h.2 34 j = if 60 * s ≤ j ∧ j < 60 * s + i then 0 else m0.2 34 j) → (zk_X zk_D (zk_lkl lkX12) zk_mt (zk_cxl [(153, zk_iP pX12_within), (162, zk_iP pX12_isShelf)]) (some .int) (zk_at cdX12_row) (zk_qi K)) 48 [some (.ref 0), some (.int (nI s)), some (.int x2), some (.int x3), some (.int (nI i))] [] h := by
  intro n
  induction n with
  | zero =>
    intro i hi h h1 h2 h3
    refine zk_bk hX12_row (bX12_row_48 ?_)
    have hiN : i = 60 := by omega
    subst hiN
    exact ⟨fun _ => next h h1 h2 h3, fun q => absurd (by decide) q⟩
  | succ n ih =>
    intro i hi h h1 h2 h3
    refine zk_bk hX12_row (bX12_row_48 ?_)
    refine ⟨fun q => absurd q (nI_ge (b := 60) (by omega) (by decide)), fun _ => ?_⟩
    rw [zk_idx, nI_clamp (n := 60 * s + i) (by omega), nI_1]
    refine ⟨vp_in_nI (by omega) (by decide), ih (i + 1) (by omega) _ h1 (fun k hk => ?_) (fun j => ?_)⟩
    · have a := h2 k hk
      funext zz
      simp [zk_sl, hk, a]
    · have a := h3 j
      by_cases e : j = 60 * s + i
      · rw [if_pos (by omega)]
        simp [zk_sl, e]
      · have : (60 * s ≤ j ∧ j < 60 * s + (i + 1)) = (60 * s ≤ j ∧ j < 60 * s + i) := propext ⟨fun q => ⟨q.1, by omega⟩, fun q => ⟨q.1, by omega⟩⟩
        simp only [this]
        rw [← a]
        simp [zk_sl, e]
abbrev zk_ch (k : Nat) : List Int32 := ([[0], [1, 0], [2, 0], [3, 2, 0], [4, 1, 0], [5, 3, 2, 0], [6, 0], [7, 4, 1, 0]] : List (List Int32)).getD k []
theorem l_under_22 {K : Int32 → zk_H → Prop} {x1 : Int32} {k i : Nat} (hk : k < 8) (hi : i < 4) (H : K (zk_b (x ∈ zk_ch k)) h) : (zk_X zk_C (zk_lkl lkX0) zk_mt (zk_cxl [(1, zk_iP pX0_isBody)]) (some .boolean) (zk_at cdX0_isUnder) (zk_qi K)) 22 [some (.ref 42), some (.int x1), some (.int x), some (.int (nI k)), some (.int (nI i))] [] h := by
  have st : ∀ k i, k < 8 → i < 8 → (nI k = x → K 1 h) → (¬ nI k = x → (zk_X zk_C (zk_lkl lkX0) zk_mt (zk_cxl [(1, zk_iP pX0_isBody)]) (some .boolean) (zk_at cdX0_isUnder) (zk_qi K)) 22 [some (.ref 42), some (.int x1), some (.int x), some (.int (zk_rm2.getD k 0)), some (.int (nI (i + 1)))] [] h) → (zk_X zk_C (zk_lkl lkX0) zk_mt (zk_cxl [(1, zk_iP pX0_isBody)]) (some .boolean) (zk_at cdX0_isUnder) (zk_qi K)) 22 [some (.ref 42), some (.int x1), some (.int x), some (.int (nI k)), some (.int (nI i))] [] h := by
    intro k i hk hi h1 h0
    refine zk_bk hX0_isUnder (bX0_isUnder_22 ?_)
    refine ⟨fun q => absurd q (nI_ge (b := 8) (by omega) (by decide)), fun _ => ⟨fun q => absurd q (nI_pos (by omega)), fun _ => ⟨fun q => ⟨vp_in_nI hk (by decide), ?_⟩, fun q => ⟨Or.inr rfl, h1 q⟩⟩⟩⟩
    rw [nI_clamp (by omega), nI_1]
    exact h0 q
  have en : ∀ i, i < 8 → K 0 h → (zk_X zk_C (zk_lkl lkX0) zk_mt (zk_cxl [(1, zk_iP pX0_isBody)]) (some .boolean) (zk_at cdX0_isUnder) (zk_qi K)) 22 [some (.ref 42), some (.int x1), some (.int x), some (.int (-1)), some (.int (nI i))] [] h := by
    intro i hi h0
    refine zk_bk hX0_isUnder (bX0_isUnder_22 ?_)
    exact ⟨fun q => absurd q (nI_ge (b := 8) (by omega) (by decide)), fun _ => ⟨fun _ => ⟨Or.inl rfl, h0⟩, fun q => absurd (by decide) q⟩⟩
  have s0 : ∀ i, i < 7 → K (zk_b (x ∈ zk_ch 0)) h → (zk_X zk_C (zk_lkl lkX0) zk_mt (zk_cxl [(1, zk_iP pX0_isBody)]) (some .boolean) (zk_at cdX0_isUnder) (zk_qi K)) 22 [some (.ref 42), some (.int x1), some (.int x), some (.int (nI 0)), some (.int (nI i))] [] h := by
    intro i hi H
    refine st 0 i (by decide) (by omega) (fun q => ?_) (fun q => en _ (by omega) ?_)
    · rw [zk_b_t (by rw [← q]; decide)] at H; exact H
    · rw [zk_b_f (fun z => by simp at z; exact q z.symm)] at H; exact H
  have sn : ∀ k j i, k < 8 → i < 7 → zk_rm2.getD k 0 = nI j → zk_ch k = nI k :: zk_ch j → K (zk_b (x ∈ zk_ch k)) h → (K (zk_b (x ∈ zk_ch j)) h → (zk_X zk_C (zk_lkl lkX0) zk_mt (zk_cxl [(1, zk_iP pX0_isBody)]) (some .boolean) (zk_at cdX0_isUnder) (zk_qi K)) 22 [some (.ref 42), some (.int x1), some (.int x), some (.int (nI j)), some (.int (nI (i + 1)))] [] h) → (zk_X zk_C (zk_lkl lkX0) zk_mt (zk_cxl [(1, zk_iP pX0_isBody)]) (some .boolean) (zk_at cdX0_isUnder) (zk_qi K)) 22 [some (.ref 42), some (.int x1), some (.int x), some (.int (nI k)), some (.int (nI i))] [] h := by
    intro k j i hk hi e1 e2 H go
    refine st k i hk (by omega) (fun q => ?_) (fun q => ?_)
    · rw [zk_b_t (by rw [e2, ← q]; exact List.mem_cons_self)] at H; exact H
    · rw [e1]
      refine go ?_
      rwa [zk_b_c (show x ∈ zk_ch k ↔ x ∈ zk_ch j by rw [e2, List.mem_cons]; exact ⟨fun z => z.resolve_left fun z => q z.symm, Or.inr⟩)] at H
  have s1 : ∀ i, i < 6 → K (zk_b (x ∈ zk_ch 1)) h → (zk_X zk_C (zk_lkl lkX0) zk_mt (zk_cxl [(1, zk_iP pX0_isBody)]) (some .boolean) (zk_at cdX0_isUnder) (zk_qi K)) 22 [some (.ref 42), some (.int x1), some (.int x), some (.int (nI 1)), some (.int (nI i))] [] h := fun i hi H => sn 1 0 i (by decide) (by omega) rfl rfl H (s0 _ (by omega))
  have s2 : ∀ i, i < 6 → K (zk_b (x ∈ zk_ch 2)) h → (zk_X zk_C (zk_lkl lkX0) zk_mt (zk_cxl [(1, zk_iP pX0_isBody)]) (some .boolean) (zk_at cdX0_isUnder) (zk_qi K)) 22 [some (.ref 42), some (.int x1), some (.int x), some (.int (nI 2)), some (.int (nI i))] [] h := fun i hi H => sn 2 0 i (by decide) (by omega) rfl rfl H (s0 _ (by omega))
  have s3 : ∀ i, i < 5 → K (zk_b (x ∈ zk_ch 3)) h → (zk_X zk_C (zk_lkl lkX0) zk_mt (zk_cxl [(1, zk_iP pX0_isBody)]) (some .boolean) (zk_at cdX0_isUnder) (zk_qi K)) 22 [some (.ref 42), some (.int x1), some (.int x), some (.int (nI 3)), some (.int (nI i))] [] h := fun i hi H => sn 3 2 i (by decide) (by omega) rfl rfl H (s2 _ (by omega))
  have s4 : ∀ i, i < 5 → K (zk_b (x ∈ zk_ch 4)) h → (zk_X zk_C (zk_lkl lkX0) zk_mt (zk_cxl [(1, zk_iP pX0_isBody)]) (some .boolean) (zk_at cdX0_isUnder) (zk_qi K)) 22 [some (.ref 42), some (.int x1), some (.int x), some (.int (nI 4)), some (.int (nI i))] [] h := fun i hi H => sn 4 1 i (by decide) (by omega) rfl rfl H (s1 _ (by omega))
  rcases (show k = 0 ∨ k = 1 ∨ k = 2 ∨ k = 3 ∨ k = 4 ∨ k = 5 ∨ k = 6 ∨ k = 7 by omega) with rfl | rfl | rfl | rfl | rfl | rfl | rfl | rfl
  · exact s0 _ (by omega) H
  · exact s1 _ (by omega) H
  · exact s2 _ (by omega) H
  · exact s3 _ (by omega) H
  · exact s4 _ (by omega) H
  · exact sn 5 3 i (by decide) (by omega) rfl rfl H (s3 _ (by omega))
  · exact sn 6 0 i (by decide) (by omega) rfl rfl H (s0 _ (by omega))
  · exact sn 7 4 i (by decide) (by omega) rfl rfl H (s4 _ (by omega))
theorem jX0_isUnder {K : Int32 → zk_H → Prop} {B j k : Nat} (hB : B ≤ 50) (hj : j < B) (e1 : h.1 42 1 = nI B) (e2 : h.1 43 j = nI k) (hk : k < 8) (H : K (zk_b (x ∈ zk_ch k)) h) : pX0_isUnder [.ref 42, .int (nI j), .int x] h K := by
  refine ⟨rfl, zk_bk hX0_isUnder (bX0_isUnder_0 ?_)⟩
  refine jX0_isBody ⟨fun q => ?_, fun q => ⟨vp_in_nI (by omega) (by decide), ?_⟩⟩
  · rw [e1] at q
    exact absurd (zk_xi (by omega) hj) (zk_b_0.mp q)
  · rw [nI_clamp (by omega), e2]
    exact l_under_22 (i := 0) hk (by decide) H
theorem jX12_above {K : Int32 → zk_H → Prop} {k : Nat} (hk : k < 8) (H : K (([0, 0, 0, 2, 1, 3, 0, 4] : List Int32).getD k 0) h) : pX12_above [.int (nI k)] h K := by
  refine ⟨rfl, zk_bk hX12_above (bX12_above_0 ?_)⟩
  rcases (show k = 0 ∨ k = 1 ∨ k = 2 ∨ k = 3 ∨ k = 4 ∨ k = 5 ∨ k = 6 ∨ k = 7 by omega) with rfl | rfl | rfl | rfl | rfl | rfl | rfl | rfl
  all_goals (repeat' (first | exact fun q => absurd q (by decide) | exact fun q => absurd rfl q | exact fun _ => H | exact H | refine And.intro ?_ ?_ | intro _))
theorem l_taken_61 {K : Int32 → zk_H → Prop} {x1 x3 : Int32} {k : Nat} (hk : k < 8) (H1 : x ∈ zk_ch k → K x3 h) (H0 : ¬ x ∈ zk_ch k → K (-12) h) : (zk_X zk_D (zk_lkl lkX12) zk_mt (zk_cxl [(153, zk_iP pX12_within), (162, zk_iP pX12_isShelf), (244, zk_iP pX12_above), (255, zk_iP pX12_isRow)]) (some .int) (zk_at cdX12_taken) (zk_qi K)) 61 [some (.ref 0), some (.int x1), some (.int x), some (.int x3), some (.int (nI k))] [] h := by
  have s0 : (x ∈ zk_ch 0 → K x3 h) → (¬ x ∈ zk_ch 0 → K (-12) h) → (zk_X zk_D (zk_lkl lkX12) zk_mt (zk_cxl [(153, zk_iP pX12_within), (162, zk_iP pX12_isShelf), (244, zk_iP pX12_above), (255, zk_iP pX12_isRow)]) (some .int) (zk_at cdX12_taken) (zk_qi K)) 61 [some (.ref 0), some (.int x1), some (.int x), some (.int x3), some (.int (nI 0))] [] h := by
    intro H1 H0
    refine zk_bk hX12_taken (bX12_taken_61 ?_)
    refine ⟨fun q => ⟨fun q2 => absurd q q2, fun _ => H1 (by rw [← q]; decide)⟩, fun q => ⟨fun _ => ⟨fun _ => H0 fun z => q ?_, fun q2 => absurd q2 q⟩, fun q => absurd (by decide) q⟩⟩
    simp at z
    exact z.symm
  have sn : ∀ k j, 0 < k → k < 8 → ([0, 0, 0, 2, 1, 3, 0, 4] : List Int32).getD k 0 = nI j → zk_ch k = nI k :: zk_ch j → (x ∈ zk_ch k → K x3 h) → (¬ x ∈ zk_ch k → K (-12) h) → ((x ∈ zk_ch j → K x3 h) → (¬ x ∈ zk_ch j → K (-12) h) → (zk_X zk_D (zk_lkl lkX12) zk_mt (zk_cxl [(153, zk_iP pX12_within), (162, zk_iP pX12_isShelf), (244, zk_iP pX12_above), (255, zk_iP pX12_isRow)]) (some .int) (zk_at cdX12_taken) (zk_qi K)) 61 [some (.ref 0), some (.int x1), some (.int x), some (.int x3), some (.int (nI j))] [] h) → (zk_X zk_D (zk_lkl lkX12) zk_mt (zk_cxl [(153, zk_iP pX12_within), (162, zk_iP pX12_isShelf), (244, zk_iP pX12_above), (255, zk_iP pX12_isRow)]) (some .int) (zk_at cdX12_taken) (zk_qi K)) 61 [some (.ref 0), some (.int x1), some (.int x), some (.int x3), some (.int (nI k))] [] h := by
    intro k j h0 hk e1 e2 H1 H0 go
    refine zk_bk hX12_taken (bX12_taken_61 ?_)
    refine ⟨fun q => ⟨fun q2 => absurd q q2, fun _ => H1 (by rw [e2, ← q]; exact List.mem_cons_self)⟩, fun q => ⟨fun q2 => absurd q2 (nI_nle h0 (by omega)), fun _ => jX12_above hk ?_⟩⟩
    rw [e1]
    have hh : x ∈ zk_ch k ↔ x ∈ zk_ch j := by rw [e2, List.mem_cons]; exact ⟨fun z => z.resolve_left fun z => q z.symm, Or.inr⟩
    exact go (fun z => H1 (hh.mpr z)) (fun z => H0 fun z2 => z (hh.mp z2))
  rcases (show k = 0 ∨ k = 1 ∨ k = 2 ∨ k = 3 ∨ k = 4 ∨ k = 5 ∨ k = 6 ∨ k = 7 by omega) with rfl | rfl | rfl | rfl | rfl | rfl | rfl | rfl
  · exact s0 H1 H0
  · exact sn 1 0 (by decide) (by decide) rfl rfl H1 H0 s0
  · exact sn 2 0 (by decide) (by decide) rfl rfl H1 H0 s0
  · exact sn 3 2 (by decide) (by decide) rfl rfl H1 H0 fun a b => sn 2 0 (by decide) (by decide) rfl rfl a b s0
  · exact sn 4 1 (by decide) (by decide) rfl rfl H1 H0 fun a b => sn 1 0 (by decide) (by decide) rfl rfl a b s0
  · exact sn 5 3 (by decide) (by decide) rfl rfl H1 H0 fun a b => sn 3 2 (by decide) (by decide) rfl rfl a b fun a b => sn 2 0 (by decide) (by decide) rfl rfl a b s0
  · exact sn 6 0 (by decide) (by decide) rfl rfl H1 H0 s0
  · exact sn 7 4 (by decide) (by decide) rfl rfl H1 H0 fun a b => sn 4 1 (by decide) (by decide) rfl rfl a b fun a b => sn 1 0 (by decide) (by decide) rfl rfl a b s0
end ZKU
