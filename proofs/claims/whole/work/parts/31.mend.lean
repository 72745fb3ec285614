/-! CALLS: mend, undo, redo -/
theorem nI_4 (a : Nat) : (4 : Int32) * nI a = nI (4 * a) := (Int32.ofNat_mul 4 a).symm
theorem nI_2 (a : Nat) : nI a + 2 = nI (a + 2) := nI_add a 2
theorem nI_3 (a : Nat) : nI a + 3 = nI (a + 3) := nI_add a 3
theorem nI_p4 (a : Nat) : nI a + 4 = nI (a + 4) := nI_add a 4
theorem nI_n1 {a : Nat} (h : 0 < a) : nI a - 1 = nI (a - 1) := by
  cases a with
  | zero => omega
  | succ n => exact nI_pred n
section ZKM
variable {lp : zk_lp} {P N D U D' U' T B w j : Nat} {c m c' m' : zk_H} {x y z v : Int32}
theorem zk_off.set (r : zk_off P N c m) (hr : zk_rec P N w j v) : zk_off P N (zk_si c (3 + w) j v) (zk_si m (zk_mc w) (zk_mj w j) v) := by
  obtain ⟨⟨hP, hN⟩, f4, f5, f6, f7, f8, f9, f10⟩ := r
  obtain ⟨hv, h7, h10⟩ := hr
  rcases zk_c13 (w := w) (by omega) with rfl | rfl | rfl | rfl | rfl | rfl | rfl | rfl | rfl | rfl | rfl | rfl | rfl
  all_goals
    simp only [Nat.reduceEqDiff, Nat.reduceLT, Nat.reduceLeDiff, false_implies, true_implies, false_and, true_and, and_true, and_false, false_or, or_false] at h7 h10 hv
    refine ⟨⟨hP, hN⟩, by simpa [zk_si, zk_mc, zk_mj] using f4, fun i hi => ?_, fun i hi => ?_, ?_, fun i hi hi8 => ?_, fun i hi => ?_, ?_⟩
    · have a := f5 i hi
      by_cases e : i = j <;> simp_all [zk_si, zk_mc, zk_mj]
    · have a := f6 i hi
      by_cases e : i = j <;> simp_all [zk_si, zk_mc, zk_mj]
    · simp_all [zk_si, zk_mc, zk_mj]
    · simpa [zk_si] using f8 i hi hi8
    · have a := f9 i hi
      by_cases e : i = j <;> simp_all [zk_si, zk_mc, zk_mj]
    · simp_all [zk_si, zk_mc, zk_mj]
theorem zk_mc_le (h : w < 13) : 1 ≤ zk_mc w ∧ zk_mc w ≤ 14 := by
  rcases zk_c13 (w := w) h with rfl | rfl | rfl | rfl | rfl | rfl | rfl | rfl | rfl | rfl | rfl | rfl | rfl <;> decide
theorem zk_R_set (R : zk_R8 lp P N D U T B c m) (hr : zk_rec P N w j v) : zk_R8 lp P N D U T B (zk_si c (3 + w) j v) (zk_si m (zk_mc w) (zk_mj w j) v) := by
  obtain ⟨r1, r2, r3, r4, r5, r6, r7, r8⟩ := R
  have hw : w < 13 := by have := hr.1; omega
  have hm := zk_mc_le hw
  have C : ∀ k, 16 ≤ k → (zk_si c (3 + w) j v).1 k = c.1 k := fun k hk => zk_si_ne (by omega)
  have M : ∀ k, k = 0 ∨ 15 ≤ k → (zk_si m (zk_mc w) (zk_mj w j) v).1 k = m.1 k := fun k hk => zk_si_ne (by omega)
  refine ⟨r1.set hr, r2.cg (fun k hk => ?_) ?_ ?_ (M 29 (by omega)), r3.cg ?_ (C 25 (by omega)) ?_ (M 15 (by omega)), r4.cg (C 40 (by omega)) (C 41 (by omega)) ?_ ?_, r5.cg ?_ (C 43 (by omega)) ?_ (M 30 (by omega)), r6.cg ?_ (C 44 (by omega)) ?_ (M 31 (by omega)), fun s hs => (r7 s hs).cg (C _ (by omega)) rfl ?_ rfl, zk_lpcg r8 ⟨C 28 (by omega), C 29 (by omega)⟩ ?_ ⟨M 16 (by omega), M 17 (by omega), M 18 (by omega), M 19 (by omega)⟩⟩
  · simp only [List.mem_cons, List.not_mem_nil, or_false] at hk
    exact C k (by omega)
  · rw [C 19 (by omega)]; exact ⟨rfl, rfl⟩
  · rw [M 0 (by omega)]; exact ⟨rfl, rfl⟩
  · rw [C 24 (by omega)]
  · rw [M 0 (by omega)]
  · rw [M 0 (by omega)]; exact ⟨rfl, rfl, rfl, rfl⟩
  · exact ⟨M 26 (by omega), M 27 (by omega), M 28 (by omega)⟩
  · rw [C 42 (by omega)]
  · rw [M 0 (by omega)]
  · rw [C 42 (by omega)]
  · rw [M 0 (by omega)]
  · rw [M 32 (by omega), M 33 (by omega)]; exact ⟨rfl, rfl⟩
  · rw [M 0 (by omega)]; exact ⟨rfl, rfl⟩
/-- other changes kept; the rest as it was -/
theorem zk_R_chg (R : zk_R8 lp P N D U T B c m) (hg : zk_chg P N D' U' c' m') (C : ∀ k, k < 19 ∨ 24 ≤ k → c'.1 k = c.1 k) (CL : c'.2 = c.2) (M0 : ∀ i, i ≠ 41 → i ≠ 42 → m'.1 0 i = m.1 0 i) (M : ∀ k, k ≠ 0 → k ≠ 29 → m'.1 k = m.1 k) (ML : m'.2 = m.2) : zk_R8 lp P N D' U' T B c' m' := by
  obtain ⟨r1, -, r3, r4, r5, r6, r7, r8⟩ := R
  refine ⟨r1.cg (fun k hk => ?_) ?_ (fun k hk => ?_), hg, r3.cg ?_ (C 25 (by omega)) (M0 _ (by decide) (by decide)) (M 15 (by decide) (by decide)), r4.cg (C 40 (by omega)) (C 41 (by omega)) ?_ ?_, r5.cg ?_ (C 43 (by omega)) (M0 _ (by decide) (by decide)) (M 30 (by decide) (by decide)), r6.cg ?_ (C 44 (by omega)) (M0 _ (by decide) (by decide)) (M 31 (by decide) (by decide)), fun s hs => (r7 s hs).cg (C _ (by omega)) (by rw [CL]) ?_ (by rw [ML]), zk_lpcg r8 ⟨C 28 (by omega), C 29 (by omega)⟩ ⟨M0 _ (by decide) (by decide), M0 _ (by decide) (by decide)⟩ ⟨M 16 (by decide) (by decide), M 17 (by decide) (by decide), M 18 (by decide) (by decide), M 19 (by decide) (by decide)⟩⟩
  · simp only [List.mem_cons, List.not_mem_nil, or_false] at hk
    exact C k (by omega)
  · exact ⟨M0 _ (by decide) (by decide), M0 _ (by decide) (by decide)⟩
  · simp only [List.mem_cons, List.not_mem_nil, or_false] at hk
    exact M k (by omega) (by omega)
  · rw [C 24 (by omega)]
  · exact ⟨M0 _ (by decide) (by decide), M0 _ (by decide) (by decide), M0 _ (by decide) (by decide), M0 _ (by decide) (by decide)⟩
  · exact ⟨M 26 (by decide) (by decide), M 27 (by decide) (by decide), M 28 (by decide) (by decide)⟩
  · rw [C 42 (by omega)]
  · rw [C 42 (by omega)]
  · rw [M 32 (by decide) (by decide), M 33 (by decide) (by decide)]; exact ⟨rfl, rfl⟩
theorem zk_off.rec_ (r : zk_off P N c m) (hv : zk_val P N w j) : zk_rec P N w j (c.1 (3 + w) j) := by
  have e := zk_off_at r (Or.inl hv)
  obtain ⟨-, -, -, -, -, -, f9, f10⟩ := r
  refine ⟨hv, fun h7 => ?_, fun h10 => ?_⟩
  · subst h7
    unfold zk_val at hv
    rw [e]
    exact (f9 j (by omega)).1
  · subst h10
    unfold zk_val at hv
    rw [e]
    exact f10
theorem zk_fit_rec (hv : zk_val P N w j) (hf : zk_fit w z) : zk_rec P N w j z := by
  refine ⟨hv, fun h7 => ?_, fun h10 => ?_⟩
  · subst h7; exact hf.1
  · subst h10; exact hf
/-- a change more -/
theorem zk_chg.push (h : zk_chg P N D U c m) (hD : D < 40) (hz : zk_rec P N w j z) (hv : zk_rec P N w j v)
    (e19 : c'.1 19 5 = nI (D + 1) ∧ c'.1 19 6 = 0) (e42 : m'.1 0 42 = nI (D + 1) ∧ m'.1 0 41 = nI (D + 1))
    (ec : ∀ i, i ≤ D → c'.1 20 i = (if i = D then nI j else c.1 20 i) ∧ c'.1 21 i = (if i = D then nI w else c.1 21 i) ∧ c'.1 22 i = (if i = D then v else c.1 22 i) ∧ c'.1 23 i = (if i = D then z else c.1 23 i))
    (em : ∀ i, i ≤ D → m'.1 29 (4 * i) = (if i = D then nI j else m.1 29 (4 * i)) ∧ m'.1 29 (4 * i + 1) = (if i = D then nI w else m.1 29 (4 * i + 1)) ∧ m'.1 29 (4 * i + 2) = (if i = D then v else m.1 29 (4 * i + 2)) ∧ m'.1 29 (4 * i + 3) = (if i = D then z else m.1 29 (4 * i + 3))) : zk_chg P N (D + 1) 0 c' m' := by
  obtain ⟨h1, h2, h3⟩ := h
  refine ⟨by omega, ⟨e19.1, e19.2, e42.1, e42.2⟩, fun i hi => ?_⟩
  obtain ⟨a1, a2, a3, a4⟩ := ec i (by omega)
  obtain ⟨b1, b2, b3, b4⟩ := em i (by omega)
  rw [a1, a2, a3, a4, b1, b2, b3, b4]
  by_cases e : i = D
  · simp only [if_pos e]
    exact ⟨trivial, trivial, trivial, trivial, w, j, rfl, rfl, hv, hz⟩
  · simp only [if_neg e]
    exact h3 i (by omega)
/-- the oldest dropped -/
theorem zk_chg.drop (h : zk_chg P N 40 U c m) (e19 : c'.1 19 5 = nI 39 ∧ c'.1 19 6 = nI 0) (e42 : m'.1 0 42 = nI 39 ∧ m'.1 0 41 = nI 39)
    (ec : ∀ i, i < 39 → c'.1 20 i = c.1 20 (i + 1) ∧ c'.1 21 i = c.1 21 (i + 1) ∧ c'.1 22 i = c.1 22 (i + 1) ∧ c'.1 23 i = c.1 23 (i + 1))
    (em : ∀ i, i < 156 → m'.1 29 i = m.1 29 (i + 4)) : zk_chg P N 39 0 c' m' := by
  obtain ⟨h1, h2, h3⟩ := h
  refine ⟨by omega, ⟨e19.1, e19.2, e42.1, e42.2⟩, fun i hi => ?_⟩
  obtain ⟨a1, a2, a3, a4⟩ := ec i (by omega)
  have b := h3 (i + 1) (by omega)
  rw [a1, a2, a3, a4, em _ (by omega), em _ (by omega), em _ (by omega), em _ (by omega)]
  rw [show 4 * i + 4 = 4 * (i + 1) by omega, show 4 * i + 1 + 4 = 4 * (i + 1) + 1 by omega, show 4 * i + 2 + 4 = 4 * (i + 1) + 2 by omega, show 4 * i + 3 + 4 = 4 * (i + 1) + 3 by omega]
  exact b
section ZKN
variable {K : Int32 → zk_H → Prop} {h : zk_H}
theorem jX12_isFit (hw : w < 13) (H : K (zk_b (zk_fit w y)) h) : pX12_isFit [.int (nI w), .int y] h K := by
  refine ⟨rfl, zk_bk hX12_isFit (bX12_isFit_0 ?_)⟩
  rcases zk_c13 hw with rfl | rfl | rfl | rfl | rfl | rfl | rfl | rfl | rfl | rfl | rfl | rfl | rfl
  · exact ⟨fun _ => jX12_isMinute ⟨zk_b_or, H⟩, fun q => absurd rfl q⟩
  · exact ⟨fun q => absurd q (by decide), fun _ => ⟨fun _ => jX12_isMinute ⟨zk_b_or, H⟩, fun q => absurd rfl q⟩⟩
  · exact ⟨fun q => absurd q (by decide), fun _ => ⟨fun q => absurd q (by decide), fun _ => ⟨fun _ => jX12_within ⟨zk_b_or, H⟩, fun q => absurd rfl q⟩⟩⟩
  · exact ⟨fun q => absurd q (by decide), fun _ => ⟨fun q => absurd q (by decide), fun _ => ⟨fun q => absurd q (by decide), fun _ => ⟨fun _ => jX12_within ⟨zk_b_or, H⟩, fun q => absurd rfl q⟩⟩⟩⟩
  · exact ⟨fun q => absurd q (by decide), fun _ => ⟨fun q => absurd q (by decide), fun _ => ⟨fun q => absurd q (by decide), fun _ => ⟨fun q => absurd q (by decide), fun _ => ⟨fun _ => jX12_within ⟨zk_b_or, H⟩, fun q => absurd rfl q⟩⟩⟩⟩⟩
  · exact ⟨fun q => absurd q (by decide), fun _ => ⟨fun q => absurd q (by decide), fun _ => ⟨fun q => absurd q (by decide), fun _ => ⟨fun q => absurd q (by decide), fun _ => ⟨fun q => absurd q (by decide), fun _ => ⟨fun _ => jX12_within ⟨zk_b_or, H⟩, fun q => absurd rfl q⟩⟩⟩⟩⟩⟩
  · exact ⟨fun q => absurd q (by decide), fun _ => ⟨fun q => absurd q (by decide), fun _ => ⟨fun q => absurd q (by decide), fun _ => ⟨fun q => absurd q (by decide), fun _ => ⟨fun q => absurd q (by decide), fun _ => ⟨fun q => absurd q (by decide), fun _ => ⟨fun _ => jX12_isMinute ⟨zk_b_or, H⟩, fun q => absurd rfl q⟩⟩⟩⟩⟩⟩⟩
  · exact ⟨fun q => absurd q (by decide), fun _ => ⟨fun q => absurd q (by decide), fun _ => ⟨fun q => absurd q (by decide), fun _ => ⟨fun q => absurd q (by decide), fun _ => ⟨fun q => absurd q (by decide), fun _ => ⟨fun q => absurd q (by decide), fun _ => ⟨fun q => absurd q (by decide), fun _ => ⟨fun _ => jX12_within ⟨zk_b_or, H⟩, fun q => absurd rfl q⟩⟩⟩⟩⟩⟩⟩⟩
  · exact ⟨fun q => absurd q (by decide), fun _ => ⟨fun q => absurd q (by decide), fun _ => ⟨fun q => absurd q (by decide), fun _ => ⟨fun q => absurd q (by decide), fun _ => ⟨fun q => absurd q (by decide), fun _ => ⟨fun q => absurd q (by decide), fun _ => ⟨fun q => absurd q (by decide), fun _ => ⟨fun q => absurd q (by decide), fun _ => ⟨fun _ => jX12_within ⟨zk_b_or, H⟩, fun q => absurd rfl q⟩⟩⟩⟩⟩⟩⟩⟩⟩
  · exact ⟨fun q => absurd q (by decide), fun _ => ⟨fun q => absurd q (by decide), fun _ => ⟨fun q => absurd q (by decide), fun _ => ⟨fun q => absurd q (by decide), fun _ => ⟨fun q => absurd q (by decide), fun _ => ⟨fun q => absurd q (by decide), fun _ => ⟨fun q => absurd q (by decide), fun _ => ⟨fun q => absurd q (by decide), fun _ => ⟨fun q => absurd q (by decide), fun _ => ⟨fun _ => jX12_within ⟨zk_b_or, H⟩, fun q => absurd rfl q⟩⟩⟩⟩⟩⟩⟩⟩⟩⟩
  · exact ⟨fun q => absurd q (by decide), fun _ => ⟨fun q => absurd q (by decide), fun _ => ⟨fun q => absurd q (by decide), fun _ => ⟨fun q => absurd q (by decide), fun _ => ⟨fun q => absurd q (by decide), fun _ => ⟨fun q => absurd q (by decide), fun _ => ⟨fun q => absurd q (by decide), fun _ => ⟨fun q => absurd q (by decide), fun _ => ⟨fun q => absurd q (by decide), fun _ => ⟨fun q => absurd q (by decide), fun _ => ⟨fun _ => jX12_within ⟨zk_b_or, H⟩, fun q => absurd rfl q⟩⟩⟩⟩⟩⟩⟩⟩⟩⟩⟩
  all_goals exact ⟨fun q => absurd q (by decide), fun _ => ⟨fun q => absurd q (by decide), fun _ => ⟨fun q => absurd q (by decide), fun _ => ⟨fun q => absurd q (by decide), fun _ => ⟨fun q => absurd q (by decide), fun _ => ⟨fun q => absurd q (by decide), fun _ => ⟨fun q => absurd q (by decide), fun _ => ⟨fun q => absurd q (by decide), fun _ => ⟨fun q => absurd q (by decide), fun _ => ⟨fun q => absurd q (by decide), fun _ => ⟨fun q => absurd q (by decide), fun _ => jX12_within ⟨zk_b_or, H⟩⟩⟩⟩⟩⟩⟩⟩⟩⟩⟩⟩
end ZKN
end ZKM
