/-! CALL: act -/
section ZK3
variable {lp : zk_lp} {c m : zk_H} {x y z : Int32}
/-- both write down -/
theorem zk_R_lg {P N D U T B Z : Nat} {f : Int32} (R : zk_R8 lp P N D U T B c m) (ec : c.1 42 3 = nI Z) (em : m.1 0 46 = nI Z) (hZ : Z + 1 < 1000) (ht : ∀ i, i < Z → i < 24 → c.1 44 i = m.1 31 i) :
    zk_R8 lp P N D U T B (zk_lg c f) (zk_lm m f) ∧ (zk_lg c f).1 42 3 = nI (Z + 1) ∧ (zk_lm m f).1 0 46 = nI (Z + 1) ∧ ∀ i, i < Z + 1 → i < 24 → (zk_lg c f).1 44 i = (zk_lm m f).1 31 i := by
  have key : ∀ c' m' : zk_H, (∀ k, k ≠ 42 → k ≠ 44 → c'.1 k = c.1 k) → (∀ i, i ≠ 3 → c'.1 42 i = c.1 42 i) → c'.2 = c.2 → (∀ k, k ≠ 0 → k ≠ 31 → m'.1 k = m.1 k) → (∀ i, i ≠ 46 → m'.1 0 i = m.1 0 i) → m'.2 = m.2 → c'.1 42 3 = nI (Z + 1) → m'.1 0 46 = nI (Z + 1) → (∀ i, i < Z + 1 → i < 24 → c'.1 44 i = m'.1 31 i) →
      zk_R8 lp P N D U T B c' m' ∧ c'.1 42 3 = nI (Z + 1) ∧ m'.1 0 46 = nI (Z + 1) ∧ ∀ i, i < Z + 1 → i < 24 → c'.1 44 i = m'.1 31 i := by
    intro c' m' C C42 CL M M0 ML e1 e2 e3
    refine ⟨?_, e1, e2, e3⟩
    obtain ⟨r1, r2, r3, r4, r5, r6, r7, r8⟩ := R
    refine ⟨r1.cg (fun k hk => ?_) ⟨M0 _ (by decide), M0 _ (by decide)⟩ (fun k hk => ?_), r2.cg (fun k hk => ?_) ?_ ⟨M0 _ (by decide), M0 _ (by decide)⟩ (M 29 (by decide) (by decide)), r3.cg ?_ (C 25 (by decide) (by decide)) (M0 _ (by decide)) (M 15 (by decide) (by decide)), r4.cg (C 40 (by decide) (by decide)) (C 41 (by decide) (by decide)) ⟨M0 _ (by decide), M0 _ (by decide), M0 _ (by decide), M0 _ (by decide)⟩ ⟨M 26 (by decide) (by decide), M 27 (by decide) (by decide), M 28 (by decide) (by decide)⟩, r5.cg (C42 1 (by decide)) (C 43 (by decide) (by decide)) (M0 _ (by decide)) (M 30 (by decide) (by decide)), ⟨Z + 1, by omega, e1, e2, fun i h1 h2 => e3 i h1 h2⟩, fun s hs => (r7 s hs).cg (C _ (by omega) (by omega)) (by rw [CL]) ?_ (by rw [ML]), zk_lpcg r8 ⟨C 28 (by decide) (by decide), C 29 (by decide) (by decide)⟩ ⟨M0 _ (by decide), M0 _ (by decide)⟩ ⟨M 16 (by decide) (by decide), M 17 (by decide) (by decide), M 18 (by decide) (by decide), M 19 (by decide) (by decide)⟩⟩
    · simp only [List.mem_cons, List.not_mem_nil, or_false] at hk
      exact C k (by omega) (by omega)
    · simp only [List.mem_cons, List.not_mem_nil, or_false] at hk
      exact M k (by omega) (by omega)
    · simp only [List.mem_cons, List.not_mem_nil, or_false] at hk
      exact C k (by omega) (by omega)
    · rw [C 19 (by decide) (by decide)]; exact ⟨rfl, rfl⟩
    · rw [C 24 (by decide) (by decide)]
    · rw [M 32 (by decide) (by decide), M 33 (by decide) (by decide)]; exact ⟨rfl, rfl⟩
  unfold zk_lg zk_lm
  rw [ec, em, nI_1]
  by_cases q : (24 : Int32) ≤ nI Z
  · rw [if_pos q, if_pos q]
    have hq := (nI_leI (a := 24) (by decide) (by omega)).mp q
    refine key _ _ (fun k a _ => zk_si_ne a) (fun i hi => by simp [zk_si, hi]) rfl (fun k a _ => zk_si_ne a) (fun i hi => by simp [zk_si, hi]) rfl (by simp [zk_si]) (by simp [zk_si]) (fun i h1 h2 => ?_)
    rw [zk_si_ne (by decide), zk_si_ne (by decide)]
    exact ht i (by omega) h2
  · rw [if_neg q, if_neg q, nI_clamp (n := Z) (by omega)]
    refine key _ _ (fun k a b => by rw [zk_si_ne a, zk_si_ne b]) (fun i hi => by simp [zk_si, hi]) rfl (fun k a b => by rw [zk_si_ne a, zk_si_ne b]) (fun i hi => by simp [zk_si, hi]) rfl (by simp [zk_si]) (by simp [zk_si]) (fun i h1 h2 => ?_)
    rw [zk_si_ne (k := 44) (a := 42) (by decide), zk_si_ne (k := 31) (a := 0) (by decide), zk_si_at, zk_si_at]
    by_cases e : i = Z
    · rw [if_pos e, if_pos e]
    · rw [if_neg e, if_neg e]
      exact ht i (by omega) h2
theorem zk_R_lgs {P N D U T B : Nat} : ∀ (l : List Int32) (Z : Nat) (c m : zk_H), zk_R8 lp P N D U T B c m → c.1 42 3 = nI Z → m.1 0 46 = nI Z → Z + l.length < 1000 → (∀ i, i < Z → i < 24 → c.1 44 i = m.1 31 i) → zk_R8 lp P N D U T B (zk_lgs c l) (zk_lms m l)
  | [], _, _, _, R, _, _, _, _ => R
  | f :: l, Z, c, m, R, ec, em, hZ, ht => by
    have hl : (f :: l).length = l.length + 1 := rfl
    obtain ⟨R', e1, e2, e3⟩ := zk_R_lg (f := f) R ec em (by omega) ht
    exact zk_R_lgs l (Z + 1) _ _ R' e1 e2 (by omega) e3
theorem zk_len_act {k w : Nat} {u x : Int32} (hk : k < 8) (hw : w < 4) : (zk_aact k w u x).2.length ≤ 20 := by
  rcases zk_c4 hw with rfl | rfl | rfl | rfl <;> rcases zk_c8 hk with rfl | rfl | rfl | rfl | rfl | rfl | rfl | rfl <;> exact Nat.le_of_ble_eq_true rfl
theorem e_act (R : zk_RR lp c m) : pX11_act [.ref 0, .int x, .int y, .int z] c (fun v c' => pX12_act [.ref 0, .int x, .int y, .int z] m (fun v' m' => v = v' ∧ zk_RR lp c' m')) := by
  obtain ⟨P, N, D, U, T, B, R8⟩ := id R
  obtain ⟨-, -, -, -, r5, r6, -⟩ := id R8
  obtain ⟨hB, b1, b2, b3⟩ := id r5
  have eB := nI_toInt (n := B) (by omega)
  have pB := zk_pm (n := B) (by omega)
  -- nothing has run yet
  have R0 : ∀ c' : zk_H, (∀ k, k ≠ 42 → c'.1 k = c.1 k) → (∀ i, i ≠ 3 → i ≠ 4 → c'.1 42 i = c.1 42 i) → c'.1 42 3 = 0 → c'.2 = c.2 → zk_R8 lp P N D U T B c' (zk_si m 0 46 0) := by
    intro c' C C42 e3 CL
    obtain ⟨r1, r2, r3, r4, r5, r6, r7, r8⟩ := R8
    have M0 : ∀ i, i ≠ 46 → (zk_si m 0 46 0).1 0 i = m.1 0 i := fun i hi => by simp [zk_si, hi]
    have M : ∀ k, k ≠ 0 → (zk_si m 0 46 0).1 k = m.1 k := fun k hk => zk_si_ne hk
    refine ⟨r1.cg (fun k hk => ?_) ⟨M0 _ (by decide), M0 _ (by decide)⟩ (fun k hk => ?_), r2.cg (fun k hk => ?_) ?_ ⟨M0 _ (by decide), M0 _ (by decide)⟩ (M 29 (by decide)), r3.cg ?_ (C 25 (by decide)) (M0 _ (by decide)) (M 15 (by decide)), r4.cg (C 40 (by decide)) (C 41 (by decide)) ⟨M0 _ (by decide), M0 _ (by decide), M0 _ (by decide), M0 _ (by decide)⟩ ⟨M 26 (by decide), M 27 (by decide), M 28 (by decide)⟩, r5.cg (C42 1 (by decide) (by decide)) (C 43 (by decide)) (M0 _ (by decide)) (M 30 (by decide)), ⟨0, by decide, e3, by simp [zk_si, nI_0], fun i h1 h2 => absurd h1 (Nat.not_lt_zero _)⟩, fun s hs => (r7 s hs).cg (C _ (by omega)) (by rw [CL]) ?_ rfl, zk_lpcg r8 ⟨C 28 (by decide), C 29 (by decide)⟩ ⟨M0 _ (by decide), M0 _ (by decide)⟩ ⟨M 16 (by decide), M 17 (by decide), M 18 (by decide), M 19 (by decide)⟩⟩
    · simp only [List.mem_cons, List.not_mem_nil, or_false] at hk
      exact C k (by omega)
    · simp only [List.mem_cons, List.not_mem_nil, or_false] at hk
      exact M k (by omega)
    · simp only [List.mem_cons, List.not_mem_nil, or_false] at hk
      exact C k (by omega)
    · rw [C 19 (by decide)]; exact ⟨rfl, rfl⟩
    · rw [C 24 (by decide)]
    · rw [M 32 (by decide), M 33 (by decide)]; exact ⟨rfl, rfl⟩
  have R1 := R0 (zk_si c 42 3 0) (fun k hk => zk_si_ne hk) (fun i h1 _ => by simp [zk_si, h1]) (by simp [zk_si]) rfl
  have out : ¬ ((0 ≤ x ∧ x < nI B) ∧ (0 ≤ y ∧ y < 4)) → pX12_act [.ref 0, .int x, .int y, .int z] m (fun v' m' => 0 = v' ∧ zk_RR lp (zk_si c 42 3 0) m') := by
    intro q
    refine ⟨rfl, zk_bk hX12_act (bX12_act_0 ?_)⟩
    refine jX12_within ⟨fun _ => ⟨rfl, P, N, D, U, T, B, R1⟩, fun q1 => jX12_within ⟨fun q2 => ?_, fun _ => ⟨rfl, P, N, D, U, T, B, R1⟩⟩⟩
    have q1' := zk_b_n q1
    have q2' := zk_b_n q2
    rw [b2] at q1'
    clear q1 q2
    exact absurd (show (0 ≤ x ∧ x < nI B) ∧ (0 ≤ y ∧ y < 4) by clear q; ((try simp only [zk_b_0, zk_b_1] at *); simp only [Int32.lt_iff_toInt_lt, Int32.le_iff_toInt_le, ← Int32.toInt_inj, Int32.reduceToInt] at *; omega)) q
  refine ⟨rfl, zk_bk hX11_act (bX11_act_0 ?_)⟩
  refine ⟨rfl, zk_bk hX0_perform (bX0_perform_0 ?_)⟩
  refine jX0_isBody ?_
  rw [zk_si_at, if_neg (by decide), b1]
  refine ⟨fun q => ?_, fun q => ⟨fun q1 => ?_, fun q1 => ⟨fun q2 => ?_, fun q2 => ?_⟩⟩⟩
  · show pX12_act _ _ _
    exact out fun z => zk_b_0.mp q z.1
  · show pX12_act _ _ _
    exact out fun z => by
      have a := z.2.1
      clear z out R0 q
      ((try simp only [zk_b_0, zk_b_1] at *); simp only [Int32.lt_iff_toInt_lt, Int32.le_iff_toInt_le, ← Int32.toInt_inj, Int32.reduceToInt] at *; omega)
  · obtain ⟨j, hj, ej⟩ := zk_ix (x := x) (by omega) (zk_b_n q).1 (zk_b_n q).2
    obtain ⟨w, hw, ew⟩ := zk_ix (x := y) (n := 4) (by omega) (by clear q out R0; ((try simp only [zk_b_0, zk_b_1] at *); simp only [Int32.lt_iff_toInt_lt, Int32.le_iff_toInt_le, ← Int32.toInt_inj, Int32.reduceToInt] at *; omega)) q2
    obtain ⟨a1, k, hk, a2⟩ := b3 j hj
    subst ej
    subst ew
    have len := zk_len_act (u := nI j) (x := z) hk hw
    refine rC_own (U := j) (k := k) hw ⟨by simp [zk_si, nI_0], by simp [zk_si], by rw [zk_si_ne (by decide), zk_si_ne (by decide)]; exact a1.trans a2⟩ (by omega) hk ?_
    show pX12_act _ _ _
    have ja : zk_ja j k 0 (zk_si m 0 46 0) := ⟨by simp [zk_si, nI_0], by rw [zk_si_ne (by decide)]; exact a2⟩
    have Rf : zk_RR lp (zk_lgs (zk_si (zk_si c 42 3 0) 42 4 (nI j)) (zk_aact k w (nI j) z).2) (zk_lms (zk_si m 0 46 0) (zk_aact k w (nI j) z).2) :=
      ⟨P, N, D, U, T, B, zk_R_lgs _ 0 _ _ (R0 _ (fun k hk => by rw [zk_si_ne hk, zk_si_ne hk]) (fun i h1 h2 => by simp [zk_si, h1, h2]) (by simp [zk_si]) rfl) (by simp [zk_si, nI_0]) (by simp [zk_si, nI_0]) (by omega) (fun i h1 _ => absurd h1 (Nat.not_lt_zero _))⟩
    refine ⟨rfl, zk_bk hX12_act (bX12_act_0 ?_)⟩
    refine jX12_within ⟨fun q3 => ?_, fun _ => jX12_within ⟨fun _ => ⟨vp_in_nI (by omega) (by decide), ?_⟩, fun q3 => ?_⟩⟩
    · exfalso
      rw [b2] at q3
      have e := nI_toInt (n := j) (by omega)
      have q4 := zk_b_0.mp q3
      clear q q3 out R0
      ((try simp only [zk_b_0, zk_b_1] at *); simp only [Int32.lt_iff_toInt_lt, Int32.le_iff_toInt_le, ← Int32.toInt_inj, Int32.reduceToInt] at *; omega)
    · rw [nI_clamp (n := j) (by omega), ja.2]
      rcases zk_c4 hw with rfl | rfl | rfl | rfl
      · exact ⟨fun q => absurd rfl q, fun _ => rD_looksBy hk ja (by omega) hk (by decide) ⟨rfl, Rf⟩⟩
      · exact ⟨fun _ => ⟨fun q => absurd rfl q, fun _ => rD_writesBy hk ja (by omega) hk (by decide) ⟨rfl, Rf⟩⟩, fun q => absurd q (by decide)⟩
      · exact ⟨fun _ => ⟨fun _ => ⟨fun q => absurd rfl q, fun _ => rD_hidesBy hk ja (by omega) hk (by decide) ⟨rfl, Rf⟩⟩, fun q => absurd q (by decide)⟩, fun q => absurd q (by decide)⟩
      · exact ⟨fun _ => ⟨fun _ => ⟨fun _ => rD_tells_ hk ja (by omega) hk (by decide) ⟨rfl, Rf⟩, fun q => absurd q (by decide)⟩, fun q => absurd q (by decide)⟩, fun q => absurd q (by decide)⟩
    · exfalso
      have e := nI_toInt (n := w) (by omega)
      have q4 := zk_b_0.mp q3
      clear q q3 out R0
      ((try simp only [zk_b_0, zk_b_1] at *); simp only [Int32.lt_iff_toInt_lt, Int32.le_iff_toInt_le, ← Int32.toInt_inj, Int32.reduceToInt] at *; omega)
  · show pX12_act _ _ _
    exact out fun z => q2 z.2.2
end ZK3
