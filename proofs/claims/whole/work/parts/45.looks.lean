/-! CALLS: looks, since -/
theorem zk_tl_c {r r' : Nat → Int32} {P o : Nat} {y : Int32} : ∀ {n : Nat}, (∀ i, i < n → r i = r' i) → zk_tl r P y n o = zk_tl r' P y n o
  | 0, _ => rfl
  | n + 1, h => by rw [zk_tl_s, zk_tl_s, zk_tl_c fun i hi => h i (by omega), h n (by omega)]
section ZKY
variable {h : zk_H} {x y z : Int32}
theorem jX12_toldAt {K : Int32 → zk_H → Prop} {s i : Nat} (hs : s < 6) (hi : i < 60) (H : K (h.2 34 (60 * s + i)).toInt32 h) : pX12_toldAt [.ref 0, .int (nI s), .int (nI i)] h K := by
  refine ⟨rfl, zk_bk hX12_toldAt (bX12_toldAt_0 ?_)⟩
  rw [zk_idx, nI_clamp (by omega)]
  exact ⟨vp_in_nI (by omega) (by decide), H⟩
theorem jX12_noRow {K : Int32 → zk_H → Prop} {s : Nat} (hs : s < 6) (H : K (if h.1 32 s = -1 then -11 else if h.1 32 s = x then 0 else -12) h) : pX12_noRow [.ref 0, .int (nI s), .int x] h K := by
  refine ⟨rfl, zk_bk hX12_noRow (bX12_noRow_0 ?_)⟩
  rw [nI_clamp (n := s) (by omega)]
  have vs := vp_in_nI (n := s) (N := 6) hs (by decide)
  refine ⟨vs, fun q => ⟨vs, fun q2 => ?_, fun q2 => ?_⟩, fun q => ?_⟩
  · rw [if_neg q, if_pos q2] at H; exact H
  · rw [if_neg q, if_neg q2] at H; exact H
  · rw [if_pos q] at H; exact H
theorem jX8_refusalOfRow {K : Int32 → zk_H → Prop} {s : Nat} (hs : s < 6) (H : K (if h.1 (46 + 2 * s) 0 = 0 then -11 else if h.1 (46 + 2 * s) 0 = 2 ∧ h.1 (46 + 2 * s) 2 = x then 0 else -12) h) : pX8_refusalOfRow [.retAddr (46 + 2 * s), .int x] h K := by
  have c := (zk_shelves hs).2.1
  refine ⟨rfl, zk_bk hX8_refusalOfRow (bX8_refusalOfRow_0 ?_)⟩
  refine ⟨c, fun q => ⟨c, jX8_isRowOf hs ⟨fun q2 => ?_, fun q2 => ?_⟩⟩, fun q => ?_⟩
  · rw [if_neg q, if_neg (zk_b_0.mp q2)] at H; exact H
  · rw [if_neg q, if_pos (zk_b_n q2)] at H; exact H
  · rw [if_pos q] at H; exact H
/-- what both say of a row that is asked for -/
theorem zk_she.row {c m : zk_H} {B s t : Nat} (h : zk_she B s c m) (hB : B ≤ 50) (ht : t < 5) :
    (∃ v : Int32, ¬ v = 0 ∧ ¬ 0 ≤ v ∧ (if c.1 (46 + 2 * s) 0 = 0 then -11 else if c.1 (46 + 2 * s) 0 = 2 ∧ c.1 (46 + 2 * s) 2 = nI t then (0 : Int32) else -12) = v ∧ (if m.1 32 s = -1 then -11 else if m.1 32 s = nI t then (0 : Int32) else -12) = v ∧ ¬ (c.1 (46 + 2 * s) 0 = 2 ∧ c.1 (46 + 2 * s) 2 = nI t)) ∨
    ((if c.1 (46 + 2 * s) 0 = 0 then -11 else if c.1 (46 + 2 * s) 0 = 2 ∧ c.1 (46 + 2 * s) 2 = nI t then (0 : Int32) else -12) = 0 ∧ (if m.1 32 s = -1 then -11 else if m.1 32 s = nI t then (0 : Int32) else -12) = 0 ∧ (c.1 (46 + 2 * s) 0 = 2 ∧ c.1 (46 + 2 * s) 2 = nI t) ∧ ∃ Z, Z ≤ 60 ∧ c.1 (46 + 2 * s) 3 = nI Z ∧ m.1 33 s = nI Z ∧ ∀ i, i < 60 → c.2 (47 + 2 * s) i = m.2 34 (60 * s + i)) := by
  rcases h.is hB with g | ⟨g1, g2, g3, -⟩ | ⟨g1, g2, g3, t', n, ht', hn, g4, g5, g6, g7, g8⟩
  · refine Or.inl ⟨-11, by decide, by decide, by rw [if_pos g.1], by rw [if_pos g.2], fun q => ?_⟩
    exact absurd (g.1.symm.trans q.1) (by decide)
  · refine Or.inl ⟨-12, by decide, by decide, ?_, ?_, fun q => ?_⟩
    · rw [if_neg (by rw [g1]; decide), if_neg (fun q => absurd (g1.symm.trans q.1) (by decide))]
    · rw [if_neg g2, if_neg (fun q => g3 (by rw [q]; exact zk_t4 ht))]
    · exact absurd (g1.symm.trans q.1) (by decide)
  · by_cases e : nI t' = nI t
    · refine Or.inr ⟨?_, ?_, ⟨g1, g4.trans e⟩, n, hn, g6, g7, g8⟩
      · rw [if_neg (by rw [g1]; decide), if_pos ⟨g1, g4.trans e⟩]
      · rw [if_neg g2, if_pos (g5.trans e)]
    · refine Or.inl ⟨-12, by decide, by decide, ?_, ?_, fun q => e (g4.symm.trans q.2)⟩
      · rw [if_neg (by rw [g1]; decide), if_neg (fun q => e (g4.symm.trans q.2))]
      · rw [if_neg g2, if_neg (fun q => e (g5.symm.trans q))]
theorem l_looked_2 {K : zk_H → Prop} {m0 : zk_H} {s : Nat} (next : ∀ h, zk_ex [36] m0 h → (∀ j, j < 8 → h.1 36 j = 0) → (zk_X zk_D (zk_lkl lkX12) zk_mt (zk_cxl [(154, zk_iP pX12_isOne), (226, zk_iP pX12_toldAt)]) none (zk_at cdX12_lookedFrom) (zk_qv K)) 23 [some (.ref 0), some (.int (nI s)), some (.int y), some (.int (nI 0))] [] h) :
    ∀ (n i : Nat), i + n = 8 → ∀ h, zk_ex [36] m0 h → (∀ j, j < i → h.1 36 j = 0) → (zk_X zk_D (zk_lkl lkX12) zk_mt (zk_cxl [(154, zk_iP pX12_isOne), (226, zk_iP pX12_toldAt)]) none (zk_at cdX12_lookedFrom) (zk_qv K)) 2 [some (.ref 0), some (.int (nI s)), some (.int y), some (.int (nI i))] [] h := by
  intro n
  induction n with
  | zero =>
    intro i hi h he hj
    have hiN : i = 8 := by omega
    subst hiN
    refine zk_bk hX12_lookedFrom (bX12_lookedFrom_2 ?_)
    exact ⟨fun _ => next h he hj, fun q => absurd (by decide) q⟩
  | succ n ih =>
    intro i hi h he hj
    refine zk_bk hX12_lookedFrom (bX12_lookedFrom_2 ?_)
    refine ⟨fun q => absurd q (nI_ge (b := 8) (by omega) (by decide)), fun _ => ⟨vp_in_nI (by omega) (by decide), ?_⟩⟩
    rw [nI_clamp (by omega), nI_1]
    refine ih (i + 1) (by omega) _ (he.si (by simp)) (fun j hj2 => ?_)
    rw [zk_si_at]
    by_cases e : j = i
    · rw [if_pos e]
    · rw [if_neg e]
      exact hj j (by omega)
theorem l_looked_23 {K : zk_H → Prop} {m : zk_H} {s P Z : Nat} (hs : s < 6) (hP8 : P ≤ 8) (hZ : Z ≤ 60) (e1 : m.1 0 0 = nI P) (e3 : m.1 33 s = nI Z) (next : ∀ h, zk_ex [36] m h → (∀ o, o < P → h.1 36 o = zk_tl (fun i => (m.2 34 (60 * s + i)).toInt32) P y Z o) → K h) :
    ∀ (n i : Nat), i + n = Z → ∀ h, zk_ex [36] m h → (∀ o, o < P → h.1 36 o = zk_tl (fun i => (m.2 34 (60 * s + i)).toInt32) P y i o) → (zk_X zk_D (zk_lkl lkX12) zk_mt (zk_cxl [(154, zk_iP pX12_isOne), (226, zk_iP pX12_toldAt)]) none (zk_at cdX12_lookedFrom) (zk_qv K)) 23 [some (.ref 0), some (.int (nI s)), some (.int y), some (.int (nI i))] [] h := by
  have vs := vp_in_nI (n := s) (N := 6) hs (by decide)
  intro n
  induction n with
  | zero =>
    intro i hi h he hj
    have hiN : i = Z := by omega
    subst hiN
    refine zk_bk hX12_lookedFrom (bX12_lookedFrom_23 ?_)
    rw [he.1 33 (by decide), nI_clamp (n := s) (by omega), e3]
    exact ⟨vs, fun _ => next h he hj, fun q => absurd ((nI_leI (by omega) (by omega)).mpr (Nat.le_refl _)) q⟩
  | succ n ih =>
    intro i hi h he hj
    refine zk_bk hX12_lookedFrom (bX12_lookedFrom_23 ?_)
    rw [he.1 33 (by decide), nI_clamp (n := s) (by omega), e3]
    refine ⟨vs, fun q => absurd q (nI_ge (by omega) (by omega)), fun _ => jX12_toldAt hs (by omega) (jX12_isOne (by rw [he.1 0 (by decide)]; exact e1) hP8 ?_)⟩
    rw [he.2, nI_1]
    refine ⟨fun q => ?_, fun q => jX12_toldAt hs (by omega) ?_⟩
    · refine ih (i + 1) (by omega) h he (fun o ho => ?_)
      rw [hj o ho]
      rw [zk_tl_s, if_neg (fun z => zk_b_0.mp q (by rw [show (m.2 34 (60 * s + i)).toInt32 = nI o from z.1]; exact zk_xi (by omega) ho))]
    · obtain ⟨o, ho, eo⟩ := zk_ix (by omega) (zk_b_n q).1 (zk_b_n q).2
      rw [he.2, eo, nI_clamp (n := o) (by omega)]
      have v8 := vp_in_nI (n := o) (N := 8) (by omega) (by decide)
      have st : ∀ v : Int32, v = (if y ≤ nI i then 1 else -1) → (zk_X zk_D (zk_lkl lkX12) zk_mt (zk_cxl [(154, zk_iP pX12_isOne), (226, zk_iP pX12_toldAt)]) none (zk_at cdX12_lookedFrom) (zk_qv K)) 23 [some (.ref 0), some (.int (nI s)), some (.int y), some (.int (nI (i + 1)))] [] (zk_si h 36 o (h.1 36 o + v)) := by
        intro v hv
        refine ih (i + 1) (by omega) _ (he.si (by simp)) (fun o' ho' => ?_)
        rw [zk_si_at, zk_tl_s]
        by_cases e : o' = o
        · subst e
          rw [if_pos rfl, if_pos ⟨eo, ho⟩, hj o' ho', hv]
        · rw [if_neg e, if_neg (fun z => e ((nI_eq (by omega) (by omega)).mp (z.1.symm.trans eo))), hj o' ho']
      exact ⟨v8, fun q2 => ⟨v8, st 1 (by rw [if_pos q2])⟩, fun q2 => ⟨v8, st (-1) (by rw [if_neg q2])⟩⟩
theorem jX12_lookedFrom {K : zk_H → Prop} {m : zk_H} {s P Z : Nat} (hs : s < 6) (hP8 : P ≤ 8) (hZ : Z ≤ 60) (e1 : m.1 0 0 = nI P) (e3 : m.1 33 s = nI Z) (next : ∀ h, zk_ex [36] m h → (∀ o, o < P → h.1 36 o = zk_tl (fun i => (m.2 34 (60 * s + i)).toInt32) P y Z o) → K h) : pX12_lookedFrom [.ref 0, .int (nI s), .int y] m K := by
  refine ⟨rfl, zk_bk hX12_lookedFrom (bX12_lookedFrom_0 ?_)⟩
  exact l_looked_2 (fun h he hj => l_looked_23 hs hP8 hZ e1 e3 next Z 0 (by omega) h he (fun o ho => hj o (by omega))) 8 0 rfl m zk_ex.rf (fun j hj => absurd hj (Nat.not_lt_zero _))
/-- the first look from outside -/
theorem l_first {K : Int32 → zk_H → Prop} {c m : zk_H} {s P N Z : Nat} (hs : s < 6) (hZ : Z ≤ 60) (r1 : zk_off P N c m) (e3 : c.1 (46 + 2 * s) 3 = nI Z) (e4 : m.1 33 s = nI Z) (er : ∀ i, i < 60 → c.2 (47 + 2 * s) i = m.2 34 (60 * s + i)) :
    ∀ (n i : Nat), i + n = Z → (∀ v, (∀ m1 (Kr : Int32 → zk_H → Prop), zk_ex [36] m m1 → Kr v m1 → (zk_X zk_D (zk_lkl lkX12) zk_mt (zk_cxl [(154, zk_iP pX12_isOne), (194, zk_iP pX12_isIn), (226, zk_iP pX12_toldAt)]) (some .int) (zk_at cdX12_strange) (zk_qi Kr)) 2 [some (.ref 0), some (.int (nI s)), some (.int (nI i))] [] m1) → K v c) → (zk_X zk_C (zk_lkl lkX7) zk_mt (zk_cxl [(25, zk_iP pX4_isPerson), (39, zk_iP pX4_isIn)]) (some .int) (zk_at cdX7_firstLookFromOutside) (zk_qi K)) 2 [some (.ref 38), some (.retAddr (46 + 2 * s)), some (.int (nI i)), none] [] c := by
  have vs := vp_in_nI (n := s) (N := 6) hs (by decide)
  have z1 := zk_shelves hs
  obtain ⟨⟨hP, hN⟩, ⟨f1, f2, f3, f4⟩, f5, -⟩ := id r1
  intro n
  induction n with
  | zero =>
    intro i hi hK
    have hiN : i = Z := by omega
    subst hiN
    have le := (nI_leI (a := i) (b := i) (by omega) (by omega)).mpr (Nat.le_refl _)
    refine zk_bk hX7_firstLookFromOutside (bX7_firstLookFromOutside_2 ?_)
    rw [e3]
    refine ⟨z1.2.1, fun _ => hK _ fun m1 Kr he hk => ?_, fun q => absurd le q⟩
    refine zk_bk hX12_strange (bX12_strange_2 ?_)
    rw [he.1 33 (by decide), nI_clamp (n := s) (by omega), e4]
    exact ⟨vs, fun _ => hk, fun q => absurd le q⟩
  | succ n ih =>
    intro i hi hK
    -- the other, at this minute
    have ob : ∀ m1 (Kr : Int32 → zk_H → Prop), zk_ex [36] m m1 → (∀ o, o < P → (m.2 34 (60 * s + i)).toInt32 = nI o → ¬ (m.1 1 o ≤ nI i ∧ nI i ≤ m.1 2 o) → Kr (nI i) m1) → ((∀ o, o < P → (m.2 34 (60 * s + i)).toInt32 = nI o → (m.1 1 o ≤ nI i ∧ nI i ≤ m.1 2 o)) → (zk_X zk_D (zk_lkl lkX12) zk_mt (zk_cxl [(154, zk_iP pX12_isOne), (194, zk_iP pX12_isIn), (226, zk_iP pX12_toldAt)]) (some .int) (zk_at cdX12_strange) (zk_qi Kr)) 2 [some (.ref 0), some (.int (nI s)), some (.int (nI (i + 1)))] [] m1) → (zk_X zk_D (zk_lkl lkX12) zk_mt (zk_cxl [(154, zk_iP pX12_isOne), (194, zk_iP pX12_isIn), (226, zk_iP pX12_toldAt)]) (some .int) (zk_at cdX12_strange) (zk_qi Kr)) 2 [some (.ref 0), some (.int (nI s)), some (.int (nI i))] [] m1 := by
      intro m1 Kr he H1 H2
      refine zk_bk hX12_strange (bX12_strange_2 ?_)
      rw [he.1 33 (by decide), nI_clamp (n := s) (by omega), e4]
      refine ⟨vs, fun q => absurd q (nI_ge (by omega) (by omega)), fun _ => jX12_toldAt hs (by omega) (jX12_isOne (by rw [he.1 0 (by decide)]; exact f3) hP ?_)⟩
      rw [he.2, nI_1]
      refine ⟨fun q => H2 fun o ho eo => ?_, fun q => jX12_toldAt hs (by omega) ?_⟩
      · exact absurd (by rw [eo]; exact zk_xi (by omega) ho) (zk_b_0.mp q)
      · obtain ⟨o, ho, eo⟩ := zk_ix (by omega) (zk_b_n q).1 (zk_b_n q).2
        rw [he.2, eo]
        refine jX12_isIn (by omega) ?_
        rw [he.1 1 (by decide), he.1 2 (by decide)]
        refine ⟨fun q2 => H2 fun o' ho' eo' => ?_, fun q2 => H1 o ho eo (zk_b_0.mp q2)⟩
        rw [(nI_eq (by omega) (by omega)).mp (eo'.symm.trans eo)]
        exact zk_b_n q2
    refine zk_bk hX7_firstLookFromOutside (bX7_firstLookFromOutside_2 ?_)
    rw [e3]
    refine ⟨z1.2.1, fun q => absurd q (nI_ge (by omega) (by omega)), fun _ => ⟨z1.2.1, _, z1.2.2.1, _, z1.2.2.2, vp_in_nI (by omega) (by decide), jX4_isPerson ?_⟩⟩
    rw [f1, nI_clamp (n := i) (by omega), er i (by omega), nI_1]
    have on : (∀ o, o < P → (m.2 34 (60 * s + i)).toInt32 = nI o → (m.1 1 o ≤ nI i ∧ nI i ≤ m.1 2 o)) → (zk_X zk_C (zk_lkl lkX7) zk_mt (zk_cxl [(25, zk_iP pX4_isPerson), (39, zk_iP pX4_isIn)]) (some .int) (zk_at cdX7_firstLookFromOutside) (zk_qi K)) 2 [some (.ref 38), some (.retAddr (46 + 2 * s)), some (.int (nI (i + 1))), some (.int (m.2 34 (60 * s + i)).toInt32)] [] c := by
      intro H
      refine zk_fg hX7_firstLookFromOutside ?_ (ih (i + 1) (by omega) fun v hv => hK v fun m1 Kr he hk => ob m1 Kr he (fun o ho eo hn => absurd (H o ho eo) hn) (fun _ => hv m1 Kr he hk))
      exact ⟨rfl, rfl, rfl, rfl, trivial⟩
    refine ⟨fun q => on fun o ho eo => ?_, fun q => ?_⟩
    · exact absurd (by rw [eo]; exact zk_xi (by omega) ho) (zk_b_0.mp q)
    · obtain ⟨o, ho, eo⟩ := zk_ix (by omega) (zk_b_n q).1 (zk_b_n q).2
      have g := f5 o ho
      rw [eo]
      refine jX4_isIn (by omega) ?_
      rw [g.1, g.2.1]
      refine ⟨fun q2 => ?_, fun q2 => hK _ fun m1 Kr he hk => ob m1 Kr he (fun _ _ _ _ => hk) (fun H => absurd (H o ho eo) (zk_b_0.mp q2))⟩
      rw [← eo]
      refine on fun o' ho' eo' => ?_
      rw [(nI_eq (by omega) (by omega)).mp (eo'.symm.trans eo)]
      exact zk_b_n q2
end ZKY
