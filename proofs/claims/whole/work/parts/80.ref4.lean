/-! THE LAW read: law, the reference -/
def zk_fl1 (q : List Nat × List Nat) : Nat := (if q.1 = [] then 0 else q.1.length + 1) + q.2.length
theorem zk_flat_len : ∀ L : zk_lns, ∀ q, (zk_flat (L ++ [q])).length = (zk_flat L).length + zk_fl1 q + 1
  | [], q => by
    show ((if q.1 = [] then [] else q.1.map zk_cs ++ [20063]) ++ (q.2.map zk_cs ++ [20059]) ++ []).length = 0 + zk_fl1 q + 1
    unfold zk_fl1
    by_cases e : q.1 = []
    · rw [if_pos e, if_pos e]; simp
    · rw [if_neg e, if_neg e]; simp; omega
  | r :: L, q => by
    show ((if r.1 = [] then [] else r.1.map zk_cs ++ [20063]) ++ (r.2.map zk_cs ++ [20059]) ++ zk_flat (L ++ [q])).length = ((if r.1 = [] then [] else r.1.map zk_cs ++ [20063]) ++ (r.2.map zk_cs ++ [20059]) ++ zk_flat L).length + zk_fl1 q + 1
    rw [List.length_append, zk_flat_len L q, List.length_append (bs := zk_flat L)]
    omega
theorem zk_xL_g (t : List Nat) : (zk_xL t).2.1.length ≤ t.length ∧ ((zk_xL t).1 = true → ((zk_xL t).2.2.1 = [] ∨ zk_wf (zk_xL t).2.2.1 0 1) ∧ zk_wf (zk_xL t).2.2.2 0 1 ∧ (zk_xL t).2.1.length < t.length ∧ (zk_xL t).2.2.1.length + (zk_xL t).2.2.2.length + (zk_xL t).2.1.length ≤ t.length ∧ zk_fl1 (zk_xL t).2.2 + (zk_xL t).2.1.length ≤ t.length) := by
  have gE := zk_xE_g (zk_xO_g 6)
  obtain ⟨g1, g2⟩ := gE t
  cases hq : (zk_xE (zk_xO 6) t).1
  · have ex : zk_xL t = (false, (zk_xE (zk_xO 6) t).2.1, [], []) := by unfold zk_xL; exact if_neg (by rw [hq]; decide)
    rw [ex]
    exact ⟨by dsimp only; omega, fun z => by cases z⟩
  · obtain ⟨g3, g4⟩ := g2 hq
    cases hr : (zk_xE (zk_xO 6) t).2.1 with
    | nil =>
      have ex : zk_xL t = (true, [], [], (zk_xE (zk_xO 6) t).2.2) := by
        unfold zk_xL
        rw [if_pos hq, hr]
      rw [hr] at g1 g3
      rw [ex]
      exact ⟨Nat.zero_le _, fun _ => ⟨Or.inl rfl, g4 0, g3, by dsimp only; rw [List.length_nil] at g1 ⊢; omega, by unfold zk_fl1; dsimp only; rw [if_pos rfl]; rw [List.length_nil] at g1 ⊢; omega⟩⟩
    | cons c r =>
      rw [hr, List.length_cons] at g1 g3
      obtain ⟨k1, k2⟩ := gE r
      by_cases hc : c = 63
      · have ex : zk_xL t = ((zk_xE (zk_xO 6) r).1, (zk_xE (zk_xO 6) r).2.1, (zk_xE (zk_xO 6) t).2.2, (zk_xE (zk_xO 6) r).2.2) := by
          unfold zk_xL
          rw [if_pos hq, hr]
          exact if_pos hc
        rw [ex]
        refine ⟨by dsimp only; omega, fun z => ?_⟩
        obtain ⟨k3, k4⟩ := k2 z
        refine ⟨Or.inr (g4 0), k4 0, by dsimp only; omega, by dsimp only; omega, ?_⟩
        unfold zk_fl1
        dsimp only
        split <;> omega
      · have ex : zk_xL t = (true, c :: r, [], (zk_xE (zk_xO 6) t).2.2) := by
          unfold zk_xL
          rw [if_pos hq, hr]
          exact if_neg hc
        rw [ex]
        exact ⟨by rw [List.length_cons]; omega, fun _ => ⟨Or.inl rfl, g4 0, by rw [List.length_cons]; omega, by dsimp only; rw [List.length_cons, List.length_nil]; omega, by unfold zk_fl1; dsimp only; rw [if_pos rfl, List.length_cons]; omega⟩⟩
theorem zk_xT_f {n : Nat} {t : List Nat} {L : zk_lns} (h : (zk_xL t).1 = false) : zk_xT (n + 1) t L = (false, (zk_xL t).2.1, L) := if_neg (by rw [h]; decide)
theorem zk_xT_e {n : Nat} {t : List Nat} {L : zk_lns} (h : (zk_xL t).1 = true) (e : (zk_xL t).2.1 = []) : zk_xT (n + 1) t L = (true, [], L ++ [(zk_xL t).2.2]) := by
  unfold zk_xT
  rw [if_pos h, e]
theorem zk_xT_s {n : Nat} {t r : List Nat} {L : zk_lns} (h : (zk_xL t).1 = true) (e : (zk_xL t).2.1 = 59 :: r) : zk_xT (n + 1) t L = zk_xT n r (L ++ [(zk_xL t).2.2]) := by
  rw [show zk_xT (n + 1) t L = (if (zk_xL t).1 then (match (zk_xL t).2.1 with
    | [] => (true, [], L ++ [(zk_xL t).2.2])
    | c :: r => if c = 59 then zk_xT n r (L ++ [(zk_xL t).2.2]) else (false, c :: r, L)) else (false, (zk_xL t).2.1, L)) from rfl, if_pos h, e]
  exact if_pos rfl
theorem zk_xT_o {n c : Nat} {t r : List Nat} {L : zk_lns} (h : (zk_xL t).1 = true) (e : (zk_xL t).2.1 = c :: r) (hc : c ≠ 59) : zk_xT (n + 1) t L = (false, c :: r, L) := by
  rw [show zk_xT (n + 1) t L = (if (zk_xL t).1 then (match (zk_xL t).2.1 with
    | [] => (true, [], L ++ [(zk_xL t).2.2])
    | c :: r => if c = 59 then zk_xT n r (L ++ [(zk_xL t).2.2]) else (false, c :: r, L)) else (false, (zk_xL t).2.1, L)) from rfl, if_pos h, e]
  exact if_neg hc
theorem zk_xT_g : ∀ (n : Nat) (t : List Nat) (L : zk_lns), t.length < n → (zk_xT n t L).2.1.length ≤ t.length ∧ ((zk_xT n t L).1 = true → zk_okL L → zk_okL (zk_xT n t L).2.2 ∧ (zk_xT n t L).2.2 ≠ [] ∧ 2 * (zk_xT n t L).2.2.length ≤ 2 * L.length + t.length + 1 ∧ zk_lc (zk_xT n t L).2.2 ≤ zk_lc L + t.length ∧ (zk_flat (zk_xT n t L).2.2).length ≤ (zk_flat L).length + t.length + 1)
  | 0, _, _, h => absurd h (Nat.not_lt_zero _)
  | n + 1, t, L, hn => by
    obtain ⟨g1, g2⟩ := zk_xL_g t
    cases hq : (zk_xL t).1
    · rw [zk_xT_f hq]
      exact ⟨g1, fun z => by cases z⟩
    · obtain ⟨g3, g4, g5, g6, g7⟩ := g2 hq
      have ok1 : zk_okL L → zk_okL (L ++ [(zk_xL t).2.2]) := fun ok q hq => by
        rcases List.mem_append.mp hq with z | z
        · exact ok q z
        · rw [List.mem_singleton.mp z]; exact ⟨g3, g4⟩
      cases hr : (zk_xL t).2.1 with
      | nil =>
        rw [zk_xT_e hq hr]
        rw [hr, List.length_nil] at g5 g6 g7
        refine ⟨Nat.zero_le _, fun _ ok => ⟨ok1 ok, by simp, ?_, ?_, ?_⟩⟩
        · rw [List.length_append]; show 2 * (L.length + 1) ≤ _; omega
        · rw [zk_lc_app]; omega
        · rw [zk_flat_len]; omega
      | cons c r =>
        rw [hr, List.length_cons] at g1 g5 g6 g7
        by_cases hc : c = 59
        · subst hc
          rw [zk_xT_s hq hr]
          obtain ⟨i1, i2⟩ := zk_xT_g n r (L ++ [(zk_xL t).2.2]) (by omega)
          refine ⟨by omega, fun z ok => ?_⟩
          obtain ⟨j1, j2, j3, j4, j5⟩ := i2 z (ok1 ok)
          rw [List.length_append] at j3
          rw [zk_lc_app] at j4
          rw [zk_flat_len] at j5
          exact ⟨j1, j2, by have : [(zk_xL t).2.2].length = 1 := rfl; omega, by omega, by omega⟩
        · rw [zk_xT_o hq hr hc]
          exact ⟨by rw [List.length_cons]; omega, fun z => by cases z⟩
def zk_frL (m m' : zk_H) : Prop := (∀ c, c ≠ 0 → (c ≤ 15 ∨ 24 ≤ c) → m'.1 c = m.1 c) ∧ m'.2 = m.2 ∧ (∀ j, j ≠ 17 → j ≠ 19 → j ≠ 20 → j ≠ 25 → j ≠ 26 → j ≠ 27 → j ≠ 28 → m'.1 0 j = m.1 0 j)
section ZKW
variable {K : Int32 → zk_H → Prop} {m0 m h h' : zk_H} {T k op a c : Nat} {t r : List Nat} {L : zk_lns} {x1 x2 : Int32}
theorem l_law_151 {N : Nat} (hN : N ≤ 120) (e27 : m0.1 0 27 = nI N) (H : ∀ h', zk_ex [19] m0 h' → (∀ j, j < N → h'.1 19 j = m0.1 23 j) → K 1 h') : ∀ (n i : Nat) (h : zk_H), i + n = N → zk_ex [19] m0 h → (∀ j, j < i → h.1 19 j = m0.1 23 j) → (zk_X zk_D (zk_lkl lkX12) zk_mt (zk_cxl [(180, zk_iP pX12_is), (190, zk_iP pX12_isLine)]) (some .int) (zk_at cdX12_law) (zk_qi K)) 151 [some (.ref 0), some (.int x1), some (.int x2), some (.int (nI i))] [] h := by
  intro n
  induction n with
  | zero =>
    intro i h hi he hj
    have hiN : i = N := by omega
    subst hiN
    refine zk_bk hX12_law (bX12_law_151 ?_)
    rw [he.1 0 (by decide), e27]
    exact ⟨fun _ => H h he hj, fun q => absurd ((nI_leI (by omega) (by omega)).mpr (Nat.le_refl _)) q⟩
  | succ n ih =>
    intro i h hi he hj
    refine zk_bk hX12_law (bX12_law_151 ?_)
    rw [he.1 0 (by decide), e27, nI_1, nI_clamp (n := i) (by omega), he.1 23 (by decide)]
    refine ⟨fun q => absurd q (nI_ge (by omega) (by omega)), fun _ => ⟨vp_in_nI (by omega) (by decide), vp_in_nI (by omega) (by decide), ih (i + 1) _ (by omega) (he.si (by simp)) fun j hj2 => ?_⟩⟩
    rw [zk_si_at]
    by_cases e : j = i
    · rw [if_pos e, e]
    · rw [if_neg e]; exact hj j (by omega)
theorem l_law_99 {N : Nat} (hN : N ≤ 60) (e20 : m0.1 0 20 = nI N) (next : ∀ h', zk_ex [16, 17, 18] m0 h' → (∀ j, j < N → h'.1 16 j = m0.1 20 j ∧ h'.1 17 j = m0.1 21 j ∧ h'.1 18 j = m0.1 22 j) → (zk_X zk_D (zk_lkl lkX12) zk_mt (zk_cxl [(180, zk_iP pX12_is), (190, zk_iP pX12_isLine)]) (some .int) (zk_at cdX12_law) (zk_qi K)) 151 [some (.ref 0), some (.int x1), some (.int x2), some (.int 0)] [] h') : ∀ (n i : Nat) (h : zk_H), i + n = N → zk_ex [16, 17, 18] m0 h → (∀ j, j < i → h.1 16 j = m0.1 20 j ∧ h.1 17 j = m0.1 21 j ∧ h.1 18 j = m0.1 22 j) → (zk_X zk_D (zk_lkl lkX12) zk_mt (zk_cxl [(180, zk_iP pX12_is), (190, zk_iP pX12_isLine)]) (some .int) (zk_at cdX12_law) (zk_qi K)) 99 [some (.ref 0), some (.int x1), some (.int x2), some (.int (nI i))] [] h := by
  intro n
  induction n with
  | zero =>
    intro i h hi he hj
    have hiN : i = N := by omega
    subst hiN
    refine zk_bk hX12_law (bX12_law_99 ?_)
    rw [he.1 0 (by decide), e20]
    exact ⟨fun _ => next h he hj, fun q => absurd ((nI_leI (by omega) (by omega)).mpr (Nat.le_refl _)) q⟩
  | succ n ih =>
    intro i h hi he hj
    have v61 : vp_in (nI i) 61 := vp_in_nI (by omega) (by decide)
    have v60 : vp_in (nI i) 60 := vp_in_nI (by omega) (by decide)
    refine zk_bk hX12_law (bX12_law_99 ?_)
    rw [he.1 0 (by decide), e20, nI_1, nI_clamp (n := i) (by omega), he.1 20 (by decide), he.1 21 (by decide), he.1 22 (by decide)]
    refine ⟨fun q => absurd q (nI_ge (by omega) (by omega)), fun _ => ⟨v61, v60, v61, v60, v61, v60, ih (i + 1) _ (by omega) (((he.si (by simp)).si (by simp)).si (by simp)) fun j hj2 => ?_⟩⟩
    by_cases e : j = i
    · subst e
      simp [zk_si]
    · have := hj j (by omega)
      simpa [zk_si, e] using this
theorem l_law_25 (hT : T ≤ 120) (e17 : m.1 0 17 = nI T) (Hok : ∀ L', L' ≠ [] → zk_okL L' → (zk_xT (T + 1) t [] = (true, [], L')) → ∀ m', zk_frL m m' → m'.1 0 17 = 0 → m'.1 0 19 = 1 → m'.1 0 20 = nI L'.length → zk_lay (m'.1 16) (m'.1 17) (m'.1 18) (m'.1 19) 0 0 L' → K 1 m') (Hno : ∀ rest L', zk_xT (T + 1) t [] = (false, rest, L') → ∀ a m', a + rest.length = T → zk_frL m m' → m'.1 0 17 = 0 → (m'.1 16 = m.1 16 ∧ m'.1 17 = m.1 17 ∧ m'.1 18 = m.1 18 ∧ m'.1 19 = m.1 19 ∧ m'.1 0 19 = m.1 0 19 ∧ m'.1 0 20 = m.1 0 20) → K (-100 - nI a) m') : ∀ (n : Nat) (t1 : List Nat) (L : zk_lns) (h : zk_H), t1.length < n → zk_xT (T + 1) t [] = zk_xT n t1 L → zk_pln m T t1 L h → zk_okL L → 2 * L.length + t1.length ≤ T → zk_lc L + t1.length ≤ T → pX12_isLine [.ref 0] h (fun v h1 => (zk_X zk_D (zk_lkl lkX12) zk_mt (zk_cxl [(180, zk_iP pX12_is), (190, zk_iP pX12_isLine)]) (some .int) (zk_at cdX12_law) (zk_qi K)) 25 [some (.ref 0), some (.int v), none, none] [] h1) := by
  -- a fault
  have bad : ∀ (rest : List Nat) (L' : zk_lns) (h1 : zk_H), zk_xT (T + 1) t [] = (false, rest, L') → zk_fr m h1 → (∃ a, a + rest.length = T ∧ h1.1 0 25 = nI a) → K (-100 - h1.1 0 25) (zk_si h1 0 17 0) := by
    intro rest L' h1 ex fr ⟨a, ha, ea⟩
    rw [ea]
    refine Hno rest L' ex a _ ha ⟨fun c c0 hc => ?_, fr.2.1, fun j j1 j2 j3 j4 j5 j6 j7 => ?_⟩ (by rw [zk_si_at, if_pos rfl]) ?_
    · rw [zk_si_ne c0]; exact fr.1 c c0 (by omega) (by omega) (by omega) (by omega)
    · rw [zk_si_at, if_neg j1]; exact fr.2.2 j j4 j5 j6 j7
    · rw [zk_si_ne (by decide), zk_si_ne (by decide), zk_si_ne (by decide), zk_si_ne (by decide), zk_si_at, if_neg (by decide), zk_si_at, if_neg (by decide)]
      exact ⟨fr.1 16 (by decide) (by decide) (by decide) (by decide) (by decide), fr.1 17 (by decide) (by decide) (by decide) (by decide) (by decide), fr.1 18 (by decide) (by decide) (by decide) (by decide) (by decide), fr.1 19 (by decide) (by decide) (by decide) (by decide) (by decide), fr.2.2 19 (by decide) (by decide) (by decide) (by decide), fr.2.2 20 (by decide) (by decide) (by decide) (by decide)⟩
  intro n
  induction n with
  | zero => exact fun t1 L h hn => absurd hn (Nat.not_lt_zero _)
  | succ n ih =>
    intro t1 L h hn ex S ok h2L hlc
    obtain ⟨g1, g2⟩ := zk_xL_g t1
    refine jX12_isLine S (by omega) (by omega) (fun hq h1 S1 => ?_) (fun hq h1 fr ha => ?_)
    · obtain ⟨g3, g4, g5, g6, g7⟩ := g2 hq
      have ok1 : zk_okL (L ++ [(zk_xL t1).2.2]) := fun q hq => by
        rcases List.mem_append.mp hq with z | z
        · exact ok q z
        · rw [List.mem_singleton.mp z]; exact ⟨g3, g4⟩
      obtain ⟨fr1, ⟨a1, ha1, sg1, ea1⟩, ⟨s4, s5, s6⟩, lay1, s7, s8, s9⟩ := id S1
      have S1' : zk_pst h1 T (zk_xL t1).2.1 (zk_lc (L ++ [(zk_xL t1).2.2])) 0 h1 := by
        refine ⟨⟨fun _ _ _ => rfl, rfl, fun _ _ _ _ => rfl⟩, ⟨a1, ha1, ?_, ea1⟩, ⟨s4, s5⟩, ?_, s8, s9⟩
        · rw [fr1.1 15 (by decide) (by decide) (by decide) (by decide) (by decide)]; exact sg1
        · rw [fr1.2.2 17 (by decide) (by decide) (by decide) (by decide)]; exact s7
      have e171 : h1.1 0 17 = nI T := by rw [fr1.2.2 17 (by decide) (by decide) (by decide) (by decide)]; exact s7
      refine zk_bk hX12_law (bX12_law_25 ?_)
      refine ⟨fun z => absurd z (by decide), fun _ => jX12_is (d := 59) (by decide) S1' (fun r et h3 S3 e3 => ⟨fun z => absurd z (by decide), fun _ => ?_⟩) (fun nq => ⟨fun _ => ⟨fun z => absurd z (by decide), fun _ => ⟨fun z => ⟨fun y => absurd rfl y, fun _ => ?_⟩, fun z => ⟨fun _ => ⟨Or.inr rfl, ?_⟩, fun y => absurd y (by decide)⟩⟩⟩, fun z => absurd rfl z⟩)⟩
      · rw [et, List.length_cons] at g5 g6 g7 ha1
        rw [zk_xT_s hq et] at ex
        obtain ⟨⟨p1, p2, p3⟩, ⟨a3, ha3, sg3, ea3⟩, ⟨p4, p5⟩, p6, p7, p8⟩ := id S3
        refine ih r (L ++ [(zk_xL t1).2.2]) h3 (by omega) ex ⟨⟨fun c c0 c20 c21 c22 c23 => (p1 c c0 c23).trans (fr1.1 c c0 c20 c21 c22 c23), p2.trans fr1.2.1, fun j j1 j2 j3 j4 => (p3 j j1 j2 j3).trans (fr1.2.2 j j1 j2 j3 j4)⟩, ⟨a3, ha3, ?_, ea3⟩, ⟨p4, p5, ?_⟩, ?_, s7, s8, p8⟩ ok1 ?_ ?_
        · rw [fr1.1 15 (by decide) (by decide) (by decide) (by decide) (by decide)] at sg3; exact sg3
        · rw [p3 28 (by decide) (by decide) (by decide)]; exact s6
        · rw [p1 20 (by decide) (by decide), p1 21 (by decide) (by decide), p1 22 (by decide) (by decide), e3]; exact lay1
        · rw [List.length_append]; show 2 * (L.length + 1) + r.length ≤ T; omega
        · rw [zk_lc_app]; omega
      · cases hr : (zk_xL t1).2.1 with
        | nil =>
          rw [hr, List.length_nil] at ha1
          exact absurd (by rw [ea1, e171, show a1 = T by omega]) z
        | cons c r =>
          rw [zk_xT_o hq hr fun u => nq r (by rw [hr, u])] at ex
          exact bad _ _ h1 ex fr1 ⟨a1, by rw [← hr]; exact ha1, ea1⟩
      · have hr : (zk_xL t1).2.1 = [] := by
          have e := (nI_eq (by omega) (by omega)).mp ((ea1.symm.trans z).trans e171)
          exact List.length_eq_zero_iff.mp (by omega)
        rw [zk_xT_e hq hr] at ex
        rw [hr, List.length_nil] at g5 g6 g7
        have hLn : (L ++ [(zk_xL t1).2.2]).length = L.length + 1 := by rw [List.length_append]; rfl
        have hlc2 : zk_lc (L ++ [(zk_xL t1).2.2]) ≤ 120 := by rw [zk_lc_app]; omega
        generalize hgL : L ++ [(zk_xL t1).2.2] = L2 at *
        have ne2 : L2 ≠ [] := fun u => by rw [u] at hLn; simp at hLn
        refine l_law_99 (m0 := zk_si (zk_si (zk_si h1 0 17 0) 0 19 1) 0 20 (h1.1 0 28)) (N := L2.length) (by omega) (by rw [zk_si_at, if_pos rfl]; exact s6) (fun h3 he3 hc3 => ?_) L2.length 0 _ (by omega) zk_ex.rf (fun j hj => absurd hj (Nat.not_lt_zero _))
        refine l_law_151 (m0 := h3) (N := zk_lc L2) hlc2 ?_ (fun h4 he4 hc4 => ?_) (zk_lc L2) 0 h3 (by omega) zk_ex.rf (fun j hj => absurd hj (Nat.not_lt_zero _))
        · rw [he3.1 0 (by decide), zk_si_at, if_neg (by decide), zk_si_at, if_neg (by decide), zk_si_at, if_neg (by decide)]; exact s5
        · have e0 : h4.1 0 = (zk_si (zk_si (zk_si h1 0 17 0) 0 19 1) 0 20 (h1.1 0 28)).1 0 := (he4.1 0 (by decide)).trans (he3.1 0 (by decide))
          refine Hok L2 ne2 ok1 ex h4 ⟨fun c c0 hc => ?_, he4.2.trans (he3.2.trans fr1.2.1), fun j j1 j2 j3 j4 j5 j6 j7 => ?_⟩ ?_ ?_ ?_ ?_
          · rw [he4.1 c (by simp; omega), he3.1 c (by simp; omega), zk_si_ne c0, zk_si_ne c0, zk_si_ne c0]
            exact fr1.1 c c0 (by omega) (by omega) (by omega) (by omega)
          · rw [e0, zk_si_at, if_neg j3, zk_si_at, if_neg j2, zk_si_at, if_neg j1]
            exact fr1.2.2 j j4 j5 j6 j7
          · rw [e0, zk_si_at, if_neg (by decide), zk_si_at, if_neg (by decide), zk_si_at, if_pos rfl]
          · rw [e0, zk_si_at, if_neg (by decide), zk_si_at, if_pos rfl]
          · rw [e0, zk_si_at, if_pos rfl]; exact s6
          · have q23 : ∀ c, c ≠ 0 → c ≠ 16 → c ≠ 17 → c ≠ 18 → h3.1 c = h1.1 c := fun c c0 c1 c2 c3 => by rw [he3.1 c (by simp [c1, c2, c3]), zk_si_ne c0, zk_si_ne c0, zk_si_ne c0]
            refine zk_lay_keep lay1 (fun i _ hi => ?_) (fun i _ hi => ?_)
            · rw [he4.1 16 (by decide), he4.1 17 (by decide), he4.1 18 (by decide)]
              obtain ⟨k1, k2, k3⟩ := hc3 i (by omega)
              rw [zk_si_ne (by decide), zk_si_ne (by decide), zk_si_ne (by decide)] at k1 k2 k3
              exact ⟨k1, k2, k3⟩
            · rw [hc4 i (by omega), q23 23 (by decide) (by decide) (by decide) (by decide)]
    · rw [zk_xT_f hq] at ex
      refine zk_bk hX12_law (bX12_law_25 ?_)
      exact ⟨fun _ => ⟨fun _ => ⟨fun y => absurd rfl y, fun _ => bad _ _ h1 ex fr ha⟩, fun z => absurd rfl z⟩, fun z => absurd rfl z⟩
theorem jX12_law (e17 : m.1 0 17 = nI T) (hT : T ≤ 120) (ht : t.length = T) (sg : zk_sg (m.1 15) 0 (t.map nI)) (ht2 : ∀ c ∈ t, c < 256) (Hok : ∀ L', L' ≠ [] → zk_okL L' → (zk_xT (T + 1) t [] = (true, [], L')) → ∀ m', zk_frL m m' → m'.1 0 17 = 0 → m'.1 0 19 = 1 → m'.1 0 20 = nI L'.length → zk_lay (m'.1 16) (m'.1 17) (m'.1 18) (m'.1 19) 0 0 L' → K 1 m') (Hno : ∀ rest L', zk_xT (T + 1) t [] = (false, rest, L') → ∀ a m', a + rest.length = T → zk_frL m m' → m'.1 0 17 = 0 → (m'.1 16 = m.1 16 ∧ m'.1 17 = m.1 17 ∧ m'.1 18 = m.1 18 ∧ m'.1 19 = m.1 19 ∧ m'.1 0 19 = m.1 0 19 ∧ m'.1 0 20 = m.1 0 20) → K (-100 - nI a) m') : pX12_law [.ref 0] m K := by
  refine ⟨rfl, zk_bk hX12_law (bX12_law_0 ?_)⟩
  refine l_law_25 hT e17 Hok Hno (T + 1) t [] _ (by omega) rfl ⟨⟨fun c c0 _ _ _ _ => ?_, rfl, fun j j1 j2 j3 j4 => ?_⟩, ⟨0, by omega, sg, ?_⟩, ⟨?_, ?_, ?_⟩, trivial, e17, hT, ht2⟩ (fun q hq => by cases hq) (by show 2 * 0 + _ ≤ _; omega) (by show 0 + _ ≤ _; omega)
  · rw [zk_si_ne c0, zk_si_ne c0, zk_si_ne c0, zk_si_ne c0]
  · rw [zk_si_at, if_neg j4, zk_si_at, if_neg j3, zk_si_at, if_neg j2, zk_si_at, if_neg j1]
  · rw [zk_si_at, if_neg (by decide), zk_si_at, if_neg (by decide), zk_si_at, if_neg (by decide), zk_si_at, if_pos rfl]; rfl
  · rw [zk_si_at, if_neg (by decide), zk_si_at, if_neg (by decide), zk_si_at, if_pos rfl]; rfl
  · rw [zk_si_at, if_neg (by decide), zk_si_at, if_pos rfl]; rfl
  · rw [zk_si_at, if_pos rfl]; rfl
end ZKW
