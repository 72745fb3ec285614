/-! THE LAW read: lines, law; the reference -/
theorem zk_lc_app {q : List Nat × List Nat} : ∀ {L : zk_lns}, zk_lc (L ++ [q]) = zk_lc L + (q.1.length + q.2.length)
  | [] => by show q.1.length + q.2.length + 0 = 0 + _; omega
  | r :: L => by
    show r.1.length + r.2.length + zk_lc (L ++ [q]) = r.1.length + r.2.length + zk_lc L + _
    rw [zk_lc_app]
    omega
theorem zk_lay_app {a s e c : Nat → Int32} {q : List Nat × List Nat} : ∀ {L : zk_lns} {j p : Nat}, zk_lay a s e c j p L → zk_lay a s e c (j + L.length) (p + zk_lc L) [q] → zk_lay a s e c j p (L ++ [q])
  | [], j, p, _, h => h
  | r :: L, j, p, ⟨h1, h2, h3, h4, h5, h6⟩, h => by
    refine ⟨h1, h2, h3, h4, h5, zk_lay_app h6 ?_⟩
    rw [List.length_cons] at h
    rw [show j + 1 + L.length = j + (L.length + 1) by omega, show p + r.1.length + r.2.length + zk_lc L = p + zk_lc (r :: L) by show _ = p + (r.1.length + r.2.length + zk_lc L); omega]
    exact h
theorem zk_lay_keep {a s e c a' s' e' c' : Nat → Int32} : ∀ {L : zk_lns} {j p : Nat}, zk_lay a s e c j p L → (∀ i, j ≤ i → i < j + L.length → a' i = a i ∧ s' i = s i ∧ e' i = e i) → (∀ i, p ≤ i → i < p + zk_lc L → c' i = c i) → zk_lay a' s' e' c' j p L
  | [], _, _, _, _, _ => trivial
  | r :: L, j, p, ⟨h1, h2, h3, h4, h5, h6⟩, g1, g2 => by
    rw [List.length_cons] at g1
    have g2' : ∀ i, p ≤ i → i < p + (r.1.length + r.2.length + zk_lc L) → c' i = c i := g2
    obtain ⟨k1, k2, k3⟩ := g1 j (Nat.le_refl _) (by omega)
    refine ⟨k1.trans h1, k2.trans h2, k3.trans h3, zk_sg_keep h4 fun i i1 i2 => g2' i i1 ?_, zk_sg_keep h5 fun i i1 i2 => g2' i (by omega) ?_, zk_lay_keep h6 (fun i i1 i2 => g1 i (by omega) (by omega)) (fun i i1 i2 => g2' i (by omega) (by omega))⟩
    · rw [List.length_map] at i2; omega
    · rw [List.length_map] at i2; omega
def zk_fr (m0 h : zk_H) : Prop := (∀ c, c ≠ 0 → c ≠ 20 → c ≠ 21 → c ≠ 22 → c ≠ 23 → h.1 c = m0.1 c) ∧ h.2 = m0.2 ∧ (∀ j, j ≠ 25 → j ≠ 26 → j ≠ 27 → j ≠ 28 → h.1 0 j = m0.1 0 j)
def zk_pln (m0 : zk_H) (T : Nat) (t : List Nat) (L : zk_lns) (h : zk_H) : Prop := zk_fr m0 h ∧ (∃ a, a + t.length = T ∧ zk_sg (m0.1 15) a (t.map nI) ∧ h.1 0 25 = nI a) ∧ (h.1 0 26 = nI 0 ∧ h.1 0 27 = nI (zk_lc L) ∧ h.1 0 28 = nI L.length) ∧ zk_lay (h.1 20) (h.1 21) (h.1 22) (h.1 23) 0 0 L ∧ (m0.1 0 17 = nI T ∧ T ≤ 120 ∧ ∀ c ∈ t, c < 256)
section ZKW
variable {K : Int32 → zk_H → Prop} {m0 h h' : zk_H} {T k op a c : Nat} {t r : List Nat} {L : zk_lns}
theorem zk_pst.rb {h2 : zk_H} (S : zk_pst m0 T t k op h) (e0 : h2.1 0 = h.1 0) (e15 : h2.1 15 = h.1 15) : zk_pst h2 T t k op h2 := by
  obtain ⟨⟨s1, s2, s3⟩, ⟨a, ha, sg, ea⟩, ⟨s4, s5⟩, s6, s7, s8⟩ := S
  refine ⟨⟨fun _ _ _ => rfl, rfl, fun _ _ _ _ => rfl⟩, ⟨a, ha, ?_, by rw [e0]; exact ea⟩, ⟨by rw [e0]; exact s4, by rw [e0]; exact s5⟩, ?_, s7, s8⟩
  · rw [e15, s1 15 (by decide) (by decide)]; exact sg
  · rw [e0, s3 17 (by decide) (by decide) (by decide)]; exact s6
theorem jX12_isLine (S : zk_pln m0 T t L h) (hk : zk_lc L + t.length ≤ 120) (hL : L.length ≤ 60) (H1 : (zk_xL t).1 = true → ∀ h', zk_pln m0 T (zk_xL t).2.1 (L ++ [(zk_xL t).2.2]) h' → K 1 h') (H0 : (zk_xL t).1 = false → ∀ h', zk_fr m0 h' → (∃ a, a + (zk_xL t).2.1.length = T ∧ h'.1 0 25 = nI a) → K 0 h') : pX12_isLine [.ref 0] h K := by
  obtain ⟨⟨s1, s2, s3⟩, ⟨a, ha, sg, ea⟩, ⟨s4, s5, s6⟩, lay, s7, s8, s9⟩ := S
  have gE := zk_xE_g (zk_xO_g 6)
  obtain ⟨g1, g2⟩ := gE t
  have v61 : vp_in (nI L.length) 61 := vp_in_nI (by omega) (by decide)
  refine ⟨rfl, zk_bk hX12_isLine (bX12_isLine_0 ?_)⟩
  rw [s6, s5, nI_clamp (n := L.length) (by omega)]
  refine ⟨v61, ?_⟩
  have S1 : zk_pst (zk_si h 20 L.length (nI (zk_lc L))) T t (zk_lc L) 0 (zk_si h 20 L.length (nI (zk_lc L))) := by
    refine ⟨⟨fun _ _ _ => rfl, rfl, fun _ _ _ _ => rfl⟩, ⟨a, ha, ?_, ?_⟩, ⟨?_, ?_⟩, ?_, s8, s9⟩
    · rw [zk_si_ne (by decide), s1 15 (by decide) (by decide) (by decide) (by decide) (by decide)]; exact sg
    · rw [zk_si_ne (by decide)]; exact ea
    · rw [zk_si_ne (by decide)]; exact s4
    · rw [zk_si_ne (by decide)]; exact s5
    · rw [zk_si_ne (by decide), s3 17 (by decide) (by decide) (by decide) (by decide)]; exact s7
  refine misE_9 _ _ T (zk_lc L) t _ S1 hk fun h1 S2 sg2 e2 => ?_
  -- what is at the end of a line that goes
  have fin : ∀ (q : List Nat × List Nat) (t2 : List Nat) (hf : zk_H), zk_xL t = (true, t2, q) → zk_fr m0 hf → (∃ a, a + t2.length = T ∧ zk_sg (m0.1 15) a (t2.map nI) ∧ hf.1 0 25 = nI a) → hf.1 0 26 = nI 0 → hf.1 0 27 = nI (zk_lc L + q.1.length + q.2.length) → hf.1 0 28 = nI (L.length + 1) → (∀ i, i < L.length → hf.1 20 i = h.1 20 i ∧ hf.1 21 i = h.1 21 i ∧ hf.1 22 i = h.1 22 i) → (∀ i, i < zk_lc L → hf.1 23 i = h.1 23 i) → hf.1 20 L.length = nI (zk_lc L) → hf.1 21 L.length = nI (zk_lc L + q.1.length) → hf.1 22 L.length = nI (zk_lc L + q.1.length + q.2.length) → zk_sg (hf.1 23) (zk_lc L) (q.1.map nI) → zk_sg (hf.1 23) (zk_lc L + q.1.length) (q.2.map nI) → (∀ c ∈ t2, c < 256) → K 1 hf := by
    intro q t2 hf eq f1 f2 f3 f4 f5 f6 f7 f8 f9 f10 f11 f12 f13
    have := H1 (by rw [eq]) hf
    rw [eq] at this
    refine this ⟨f1, f2, ⟨f3, ?_, ?_⟩, zk_lay_app (zk_lay_keep lay (fun i _ hi => f6 i (by omega)) (fun i _ hi => f7 i (by omega))) ?_, s7, s8, f13⟩
    · rw [zk_lc_app, ← Nat.add_assoc]; exact f4
    · rw [List.length_append]; exact f5
    · rw [Nat.zero_add, Nat.zero_add]
      exact ⟨f8, f9, f10, f11, f12, trivial⟩
  obtain ⟨⟨p1, p2, p3⟩, ⟨a1, ha1, sg1, ea1⟩, ⟨p4, p5⟩, p6, p7, p8⟩ := id S2
  -- the frame of what a reading of E leaves
  have fr1 : ∀ hx : zk_H, (∀ c, c ≠ 0 → c ≠ 21 → c ≠ 22 → c ≠ 23 → hx.1 c = h1.1 c) → hx.2 = h1.2 → (∀ j, j ≠ 25 → j ≠ 26 → j ≠ 27 → j ≠ 28 → hx.1 0 j = h1.1 0 j) → zk_fr m0 hx := by
    intro hx x1 x2 x3
    refine ⟨fun c c0 c20 c21 c22 c23 => ?_, x2.trans (p2.trans s2), fun j j1 j2 j3 j4 => ?_⟩
    · rw [x1 c c0 c21 c22 c23, p1 c c0 c23, zk_si_ne c20]; exact s1 c c0 c20 c21 c22 c23
    · rw [x3 j j1 j2 j3 j4, p3 j j1 j2 j3, zk_si_ne (by decide)]; exact s3 j j1 j2 j3 j4
  have e15 : h1.1 15 = m0.1 15 := by rw [p1 15 (by decide) (by decide), zk_si_ne (by decide)]; exact s1 15 (by decide) (by decide) (by decide) (by decide) (by decide)
  have sgm1 : zk_sg (m0.1 15) a1 ((zk_xE (zk_xO 6) t).2.1.map nI) := by
    have : zk_sg ((zk_si h 20 L.length (nI (zk_lc L))).1 15) a1 ((zk_xE (zk_xO 6) t).2.1.map nI) := sg1
    rw [zk_si_ne (by decide), s1 15 (by decide) (by decide) (by decide) (by decide) (by decide)] at this
    exact this
  have e28 : h1.1 0 28 = nI L.length := by rw [p3 28 (by decide) (by decide) (by decide), zk_si_ne (by decide)]; exact s6
  have e20 : ∀ i, h1.1 20 i = if i = L.length then nI (zk_lc L) else h.1 20 i := fun i => by rw [p1 20 (by decide) (by decide), zk_si_at]
  have e21 : h1.1 21 = h.1 21 := by rw [p1 21 (by decide) (by decide), zk_si_ne (by decide)]
  have e22 : h1.1 22 = h.1 22 := by rw [p1 22 (by decide) (by decide), zk_si_ne (by decide)]
  have e23 : ∀ j, j < zk_lc L → h1.1 23 j = h.1 23 j := fun j hj => by rw [e2 j hj, zk_si_ne (by decide)]
  cases hq : (zk_xE (zk_xO 6) t).1
  · have ex : zk_xL t = (false, (zk_xE (zk_xO 6) t).2.1, [], []) := by unfold zk_xL; exact if_neg (by rw [hq]; decide)
    refine ⟨fun z => absurd rfl z, fun _ => ⟨Or.inl rfl, ?_⟩⟩
    have := H0 (by rw [ex]) h1
    rw [ex] at this
    exact this (fr1 h1 (fun _ _ _ _ _ => rfl) rfl (fun _ _ _ _ _ => rfl)) ⟨a1, ha1, ea1⟩
  · have g3 := (g2 hq).1
    refine ⟨fun _ => ?_, fun z => absurd z (by decide)⟩
    rw [e28, nI_clamp (n := L.length) (by omega)]
    have S3 : zk_pst (zk_si h1 21 L.length (h1.1 20 L.length)) T (zk_xE (zk_xO 6) t).2.1 (zk_lc L + (zk_xE (zk_xO 6) t).2.2.length) 0 (zk_si h1 21 L.length (h1.1 20 L.length)) := S2.rb (zk_si_ne (by decide)) (zk_si_ne (by decide))
    refine ⟨v61, v61, jX12_is (d := 63) (by decide) S3 (fun r2 et h3 S4 e4 => ⟨fun z => absurd z (by decide), fun _ => ?_⟩) (fun nq => ⟨fun _ => ?_, fun z => absurd rfl z⟩)⟩
    · rw [et, List.length_cons] at g1 g3
      obtain ⟨⟨r1, r2', r3⟩, ⟨a3, ha3, sg3, ea3⟩, ⟨r4, r5⟩, r6, r7, r8⟩ := id S4
      have e283 : h3.1 0 28 = nI L.length := by rw [r3 28 (by decide) (by decide) (by decide), zk_si_ne (by decide)]; exact e28
      rw [e283, r5, nI_clamp (n := L.length) (by omega)]
      refine ⟨v61, ?_⟩
      obtain ⟨k1, k2⟩ := gE r2
      have S5 : zk_pst (zk_si h3 21 L.length (nI (zk_lc L + (zk_xE (zk_xO 6) t).2.2.length))) T r2 (zk_lc L + (zk_xE (zk_xO 6) t).2.2.length) 0 (zk_si h3 21 L.length (nI (zk_lc L + (zk_xE (zk_xO 6) t).2.2.length))) := S4.rb (zk_si_ne (by decide)) (zk_si_ne (by decide))
      refine misE_9 _ _ T _ r2 _ S5 (by omega) fun h5 S6 sg6 e6 => ?_
      obtain ⟨⟨u1, u2, u3⟩, ⟨a5, ha5, sg5, ea5⟩, ⟨u4, u5⟩, u6, u7, u8⟩ := id S6
      have fr5 : ∀ hx : zk_H, (∀ c, c ≠ 0 → c ≠ 21 → c ≠ 22 → c ≠ 23 → hx.1 c = h5.1 c) → hx.2 = h5.2 → (∀ j, j ≠ 25 → j ≠ 26 → j ≠ 27 → j ≠ 28 → hx.1 0 j = h5.1 0 j) → zk_fr m0 hx := by
        intro hx x1 x2 x3
        refine fr1 hx (fun c c0 c21 c22 c23 => ?_) (x2.trans (u2.trans r2')) (fun j j1 j2 j3 j4 => ?_)
        · rw [x1 c c0 c21 c22 c23, u1 c c0 c23, zk_si_ne c21, r1 c c0 c23, zk_si_ne c21]
        · rw [x3 j j1 j2 j3 j4, u3 j j1 j2 j3, zk_si_ne (by decide), r3 j j1 j2 j3, zk_si_ne (by decide)]
      have exL : zk_xL t = ((zk_xE (zk_xO 6) r2).1, (zk_xE (zk_xO 6) r2).2.1, (zk_xE (zk_xO 6) t).2.2, (zk_xE (zk_xO 6) r2).2.2) := by
        unfold zk_xL
        rw [if_pos hq, et]
        exact if_pos rfl
      have f15 : h5.1 15 = m0.1 15 := (fr5 h5 (fun _ _ _ _ _ => rfl) rfl (fun _ _ _ _ _ => rfl)).1 15 (by decide) (by decide) (by decide) (by decide) (by decide)
      have sgm5 : zk_sg (m0.1 15) a5 ((zk_xE (zk_xO 6) r2).2.1.map nI) := by
        have e : (zk_si h3 21 L.length (nI (zk_lc L + (zk_xE (zk_xO 6) t).2.2.length))).1 15 = m0.1 15 := (u1 15 (by decide) (by decide)).symm.trans f15
        rw [e] at sg5
        exact sg5
      cases hq2 : (zk_xE (zk_xO 6) r2).1
      · rw [hq2] at exL
        refine ⟨fun z => absurd rfl z, fun _ => ⟨Or.inl rfl, ?_⟩⟩
        have := H0 (by rw [exL]) h5
        rw [exL] at this
        exact this (fr5 h5 (fun _ _ _ _ _ => rfl) rfl (fun _ _ _ _ _ => rfl)) ⟨a5, ha5, ea5⟩
      · rw [hq2] at exL
        have e285 : h5.1 0 28 = nI L.length := by rw [u3 28 (by decide) (by decide) (by decide), zk_si_ne (by decide)]; exact e283
        refine ⟨fun _ => ?_, fun z => absurd z (by decide)⟩
        rw [e285, nI_1, nI_clamp (n := L.length) (by omega)]
        refine ⟨v61, Or.inr rfl, ?_⟩
        have c20 : h5.1 20 = h1.1 20 := by rw [u1 20 (by decide) (by decide), zk_si_ne (by decide), r1 20 (by decide) (by decide), zk_si_ne (by decide)]
        have c21 : ∀ i, h5.1 21 i = if i = L.length then nI (zk_lc L + (zk_xE (zk_xO 6) t).2.2.length) else h.1 21 i := fun i => by
          rw [u1 21 (by decide) (by decide), zk_si_at]
          by_cases z : i = L.length
          · rw [if_pos z, if_pos z]
          · rw [if_neg z, if_neg z, r1 21 (by decide) (by decide), zk_si_at, if_neg z, e21]
        have c22 : h5.1 22 = h.1 22 := by rw [u1 22 (by decide) (by decide), zk_si_ne (by decide), r1 22 (by decide) (by decide), zk_si_ne (by decide), e22]
        have c23 : ∀ j, j < zk_lc L + (zk_xE (zk_xO 6) t).2.2.length → h5.1 23 j = h1.1 23 j := fun j hj => by rw [e6 j hj, zk_si_ne (by decide), e4, zk_si_ne (by decide)]
        refine fin ((zk_xE (zk_xO 6) t).2.2, (zk_xE (zk_xO 6) r2).2.2) _ _ exL (fr5 _ (fun c x0 x21 x22 x23 => by rw [zk_si_ne x22, zk_si_ne x0]) rfl (fun j j1 j2 j3 j4 => by rw [zk_si_ne (by decide), zk_si_at, if_neg j4])) ⟨a5, ha5, sgm5, by rw [zk_si_ne (by decide), zk_si_at, if_neg (by decide)]; exact ea5⟩ (by rw [zk_si_ne (by decide), zk_si_at, if_neg (by decide)]; exact u4) (by rw [zk_si_ne (by decide), zk_si_at, if_neg (by decide)]; exact u5) (by rw [zk_si_ne (by decide), zk_si_at, if_pos rfl]) (fun i hi => ?_) (fun i hi => ?_) ?_ ?_ ?_ ?_ ?_ u8
        · refine ⟨?_, ?_, ?_⟩
          · rw [zk_si_ne (by decide), zk_si_ne (by decide), c20, e20 i, if_neg (by omega)]
          · rw [zk_si_ne (by decide), zk_si_ne (by decide), c21 i, if_neg (by omega)]
          · rw [zk_si_at, if_neg (by omega), zk_si_ne (by decide), c22]
        · rw [zk_si_ne (by decide), zk_si_ne (by decide), c23 i (by omega)]; exact e23 i hi
        · rw [zk_si_ne (by decide), zk_si_ne (by decide), c20, e20, if_pos rfl]
        · rw [zk_si_ne (by decide), zk_si_ne (by decide), c21, if_pos rfl]
        · rw [zk_si_at, if_pos rfl]; exact u5
        · rw [zk_si_ne (by decide), zk_si_ne (by decide)]
          exact zk_sg_keep sg2 fun j _ hj => c23 j (by rw [List.length_map] at hj; omega)
        · rw [zk_si_ne (by decide), zk_si_ne (by decide)]
          exact sg6
    · have exL : zk_xL t = (true, (zk_xE (zk_xO 6) t).2.1, [], (zk_xE (zk_xO 6) t).2.2) := by
        unfold zk_xL
        rw [if_pos hq]
        split
        next z => rw [z]
        next c r z => rw [if_neg fun u => nq r (by rw [z, u]), z]
      have e283 : (zk_si h1 21 L.length (h1.1 20 L.length)).1 0 28 = nI L.length := by rw [zk_si_ne (by decide)]; exact e28
      have e273 : (zk_si h1 21 L.length (h1.1 20 L.length)).1 0 27 = nI (zk_lc L + (zk_xE (zk_xO 6) t).2.2.length) := by rw [zk_si_ne (by decide)]; exact p5
      rw [e283, e273, nI_1, nI_clamp (n := L.length) (by omega)]
      refine ⟨v61, Or.inr rfl, ?_⟩
      refine fin ([], (zk_xE (zk_xO 6) t).2.2) _ _ exL (fr1 _ (fun c x0 x21 x22 x23 => by rw [zk_si_ne x22, zk_si_ne x0, zk_si_ne x21]) rfl (fun j j1 j2 j3 j4 => by rw [zk_si_ne (by decide), zk_si_at, if_neg j4, zk_si_ne (by decide)])) ⟨a1, ha1, sgm1, by rw [zk_si_ne (by decide), zk_si_at, if_neg (by decide), zk_si_ne (by decide)]; exact ea1⟩ (by rw [zk_si_ne (by decide), zk_si_at, if_neg (by decide), zk_si_ne (by decide)]; exact p4) (by rw [zk_si_ne (by decide), zk_si_at, if_neg (by decide)]; exact e273) (by rw [zk_si_ne (by decide), zk_si_at, if_pos rfl]) (fun i hi => ?_) (fun i hi => ?_) ?_ ?_ ?_ trivial ?_ p8
      · refine ⟨?_, ?_, ?_⟩
        · rw [zk_si_ne (by decide), zk_si_ne (by decide), zk_si_ne (by decide), e20 i, if_neg (by omega)]
        · rw [zk_si_ne (by decide), zk_si_ne (by decide), zk_si_at, if_neg (by omega), e21]
        · rw [zk_si_at, if_neg (by omega), zk_si_ne (by decide), zk_si_ne (by decide), e22]
      · rw [zk_si_ne (by decide), zk_si_ne (by decide), zk_si_ne (by decide)]; exact e23 i hi
      · rw [zk_si_ne (by decide), zk_si_ne (by decide), zk_si_ne (by decide), e20, if_pos rfl]
      · rw [zk_si_ne (by decide), zk_si_ne (by decide), zk_si_at, if_pos rfl, e20, if_pos rfl]; rfl
      · rw [zk_si_at, if_pos rfl]; rfl
      · rw [zk_si_ne (by decide), zk_si_ne (by decide), zk_si_ne (by decide)]
        exact sg2
end ZKW
