/-! fill; the scratch cells; looks of a row -/
section ZKW
variable {h : zk_H} {x y z : Int32}
theorem l_fill_r35 {K : zk_H → Prop} {m0 : zk_H} (next : ∀ h, zk_ex [35] m0 h → (∀ j, j < 256 → h.1 35 j = x) → K h) :
    ∀ (n i : Nat), i + n = 256 → ∀ h, zk_ex [35] m0 h → (∀ j, j < i → h.1 35 j = x) → (zk_X zk_C (zk_lkl []) zk_mt (zk_cxl []) none (zk_at cdJ7_fill_53178) (zk_qv K)) 5 [some (.ref 35), some (.int x), some (.int (nI i)), some (.int (nI 256))] [] h := by
  intro n
  induction n with
  | zero =>
    intro i hi h he hj
    refine zk_bk hJ7_fill_53178 (bJ7_fill_53178_5_r35 ?_)
    have hiN : i = 256 := by omega
    subst hiN
    exact ⟨fun _ => next h he hj, fun q => absurd (by decide) q⟩
  | succ n ih =>
    intro i hi h he hj
    refine zk_bk hJ7_fill_53178 (bJ7_fill_53178_5_r35 ?_)
    refine ⟨fun q => absurd q (nI_ge (by omega) (by omega)), fun _ => ⟨vp_in_nI (by omega) (by decide), ?_⟩⟩
    rw [nI_clamp (by omega), nI_1]
    refine ih (i + 1) (by omega) _ (he.si (by simp)) (fun j hj2 => ?_)
    rw [zk_si_at]
    by_cases e : j = i
    · rw [if_pos e]
    · rw [if_neg e]
      exact hj j (by omega)
theorem jJ7_fill_r35 {K : zk_H → Prop} (H : ∀ h', zk_ex [35] h h' → (∀ j, j < 256 → h'.1 35 j = x) → K h') : pJ7_fill_53178 [.ref 35, .int x] h K := by
  refine ⟨rfl, zk_bk hJ7_fill_53178 (bJ7_fill_53178_0_r35 ?_)⟩
  exact l_fill_r35 H 256 0 rfl _ zk_ex.rf (fun j hj => absurd hj (Nat.not_lt_zero _))
theorem l_fill_r37 {K : zk_H → Prop} {m0 : zk_H} (next : ∀ h, zk_ex [37] m0 h → (∀ j, j < 8 → h.1 37 j = x) → K h) :
    ∀ (n i : Nat), i + n = 8 → ∀ h, zk_ex [37] m0 h → (∀ j, j < i → h.1 37 j = x) → (zk_X zk_C (zk_lkl []) zk_mt (zk_cxl []) none (zk_at cdJ7_fill_53178) (zk_qv K)) 5 [some (.ref 37), some (.int x), some (.int (nI i)), some (.int (nI 8))] [] h := by
  intro n
  induction n with
  | zero =>
    intro i hi h he hj
    refine zk_bk hJ7_fill_53178 (bJ7_fill_53178_5_r37 ?_)
    have hiN : i = 8 := by omega
    subst hiN
    exact ⟨fun _ => next h he hj, fun q => absurd (by decide) q⟩
  | succ n ih =>
    intro i hi h he hj
    refine zk_bk hJ7_fill_53178 (bJ7_fill_53178_5_r37 ?_)
    refine ⟨fun q => absurd q (nI_ge (by omega) (by omega)), fun _ => ⟨vp_in_nI (by omega) (by decide), ?_⟩⟩
    rw [nI_clamp (by omega), nI_1]
    refine ih (i + 1) (by omega) _ (he.si (by simp)) (fun j hj2 => ?_)
    rw [zk_si_at]
    by_cases e : j = i
    · rw [if_pos e]
    · rw [if_neg e]
      exact hj j (by omega)
theorem jJ7_fill_r37 {K : zk_H → Prop} (H : ∀ h', zk_ex [37] h h' → (∀ j, j < 8 → h'.1 37 j = x) → K h') : pJ7_fill_53178 [.ref 37, .int x] h K := by
  refine ⟨rfl, zk_bk hJ7_fill_53178 (bJ7_fill_53178_0_r37 ?_)⟩
  exact l_fill_r37 H 8 0 rfl _ zk_ex.rf (fun j hj => absurd hj (Nat.not_lt_zero _))
theorem l_fill_r39 {K : zk_H → Prop} {m0 : zk_H} (next : ∀ h, zk_ex [39] m0 h → (∀ j, j < 8 → h.1 39 j = x) → K h) :
    ∀ (n i : Nat), i + n = 8 → ∀ h, zk_ex [39] m0 h → (∀ j, j < i → h.1 39 j = x) → (zk_X zk_C (zk_lkl []) zk_mt (zk_cxl []) none (zk_at cdJ7_fill_53178) (zk_qv K)) 5 [some (.ref 39), some (.int x), some (.int (nI i)), some (.int (nI 8))] [] h := by
  intro n
  induction n with
  | zero =>
    intro i hi h he hj
    refine zk_bk hJ7_fill_53178 (bJ7_fill_53178_5_r39 ?_)
    have hiN : i = 8 := by omega
    subst hiN
    exact ⟨fun _ => next h he hj, fun q => absurd (by decide) q⟩
  | succ n ih =>
    intro i hi h he hj
    refine zk_bk hJ7_fill_53178 (bJ7_fill_53178_5_r39 ?_)
    refine ⟨fun q => absurd q (nI_ge (by omega) (by omega)), fun _ => ⟨vp_in_nI (by omega) (by decide), ?_⟩⟩
    rw [nI_clamp (by omega), nI_1]
    refine ih (i + 1) (by omega) _ (he.si (by simp)) (fun j hj2 => ?_)
    rw [zk_si_at]
    by_cases e : j = i
    · rw [if_pos e]
    · rw [if_neg e]
      exact hj j (by omega)
theorem jJ7_fill_r39 {K : zk_H → Prop} (H : ∀ h', zk_ex [39] h h' → (∀ j, j < 8 → h'.1 39 j = x) → K h') : pJ7_fill_53178 [.ref 39, .int x] h K := by
  refine ⟨rfl, zk_bk hJ7_fill_53178 (bJ7_fill_53178_0_r39 ?_)⟩
  exact l_fill_r39 H 8 0 rfl _ zk_ex.rf (fun j hj => absurd hj (Nat.not_lt_zero _))
end ZKW
section ZKX
variable {lp : zk_lp} {P N D U T B s : Nat} {c m c' m' : zk_H}
/-- scratch: cells that no promise reads -/
theorem zk_R_scr (R : zk_R8 lp P N D U T B c m) (C : ∀ k, k ≤ 28 ∨ k = 29 ∨ 40 ≤ k → c'.1 k = c.1 k) (CL : c'.2 = c.2) (M0 : ∀ i, i < 53 → m'.1 0 i = m.1 0 i) (M : ∀ k, k ≠ 0 → k ≠ 24 → k ≠ 25 → k ≠ 35 → k ≠ 36 → m'.1 k = m.1 k) (ML : m'.2 = m.2) : zk_R8 lp P N D U T B c' m' := by
  obtain ⟨r1, r2, r3, r4, r5, r6, r7, r8⟩ := R
  refine ⟨r1.cg (fun k hk => ?_) ?_ (fun k hk => ?_), r2.cg (fun k hk => ?_) ?_ ?_ (M 29 (by decide) (by decide) (by decide) (by decide) (by decide)), r3.cg ?_ (C 25 (by omega)) (M0 _ (by decide)) (M 15 (by decide) (by decide) (by decide) (by decide) (by decide)), r4.cg (C 40 (by omega)) (C 41 (by omega)) ?_ ?_, r5.cg ?_ (C 43 (by omega)) (M0 _ (by decide)) (M 30 (by decide) (by decide) (by decide) (by decide) (by decide)), r6.cg ?_ (C 44 (by omega)) (M0 _ (by decide)) (M 31 (by decide) (by decide) (by decide) (by decide) (by decide)), fun s hs => (r7 s hs).cg (C _ (by omega)) (by rw [CL]) ?_ (by rw [ML]), zk_lpcg r8 ⟨C 28 (by omega), C 29 (by omega)⟩ ⟨M0 _ (by decide), M0 _ (by decide)⟩ ⟨M 16 (by decide) (by decide) (by decide) (by decide) (by decide), M 17 (by decide) (by decide) (by decide) (by decide) (by decide), M 18 (by decide) (by decide) (by decide) (by decide) (by decide), M 19 (by decide) (by decide) (by decide) (by decide) (by decide)⟩⟩
  · simp only [List.mem_cons, List.not_mem_nil, or_false] at hk
    exact C k (by omega)
  · exact ⟨M0 _ (by decide), M0 _ (by decide)⟩
  · simp only [List.mem_cons, List.not_mem_nil, or_false] at hk
    exact M k (by omega) (by omega) (by omega) (by omega) (by omega)
  · simp only [List.mem_cons, List.not_mem_nil, or_false] at hk
    exact C k (by omega)
  · rw [C 19 (by omega)]; exact ⟨rfl, rfl⟩
  · exact ⟨M0 _ (by decide), M0 _ (by decide)⟩
  · rw [C 24 (by omega)]
  · exact ⟨M0 _ (by decide), M0 _ (by decide), M0 _ (by decide), M0 _ (by decide)⟩
  · exact ⟨M 26 (by decide) (by decide) (by decide) (by decide) (by decide), M 27 (by decide) (by decide) (by decide) (by decide) (by decide), M 28 (by decide) (by decide) (by decide) (by decide) (by decide)⟩
  · rw [C 42 (by omega)]
  · rw [C 42 (by omega)]
  · rw [M 32 (by decide) (by decide) (by decide) (by decide) (by decide), M 33 (by decide) (by decide) (by decide) (by decide) (by decide)]; exact ⟨rfl, rfl⟩
end ZKX
/-! looks of a row, counted -/
def zk_tl (r : Nat → Int32) (P : Nat) (y : Int32) : Nat → Nat → Int32
  | 0, _ => 0
  | i + 1, o => if r i = nI o ∧ o < P then zk_tl r P y i o + (if y ≤ nI i then 1 else -1) else zk_tl r P y i o
theorem zk_tl_s {r : Nat → Int32} {P : Nat} {y : Int32} {i o : Nat} : zk_tl r P y (i + 1) o = if r i = nI o ∧ o < P then zk_tl r P y i o + (if y ≤ nI i then 1 else -1) else zk_tl r P y i o := rfl
/-- the first with most -/
def zk_mo (t : Nat → Int32) : Nat → Option Nat
  | 0 => none
  | i + 1 => if (match zk_mo t i with | none => 0 | some b => t b) < t i then some i else zk_mo t i
abbrev zk_bo (o : Option Nat) : Int32 := match o with | none => -2 | some b => nI b
theorem zk_mo_lt {t : Nat → Int32} : ∀ {i b : Nat}, zk_mo t i = some b → b < i
  | 0, _, h => by cases h
  | i + 1, b, h => by
    unfold zk_mo at h
    by_cases q : (match zk_mo t i with | none => 0 | some b => t b) < t i
    · rw [if_pos q] at h
      cases h
      omega
    · rw [if_neg q] at h
      exact Nat.lt_succ_of_lt (zk_mo_lt h)
section ZKY
variable {h : zk_H} {x y z : Int32}
theorem l_tally_10 {K : zk_H → Prop} {c : zk_H} {s P Z : Nat} (hs : s < 6) (hP8 : P ≤ 8) (hZ : Z ≤ 60) (e1 : c.1 1 1 = nI P) (e3 : c.1 (46 + 2 * s) 3 = nI Z) (next : ∀ h, zk_ex [39] c h → (∀ o, o < P → h.1 39 o = zk_tl (fun i => (c.2 (47 + 2 * s) i).toInt32) P y Z o) → K h) :
    ∀ (n i : Nat), i + n = Z → ∀ h, zk_ex [39] c h → (∀ o, o < P → h.1 39 o = zk_tl (fun i => (c.2 (47 + 2 * s) i).toInt32) P y i o) → (zk_X zk_C (zk_lkl lkX7) zk_mt (zk_cxl [(25, zk_iP pX4_isPerson), (272, zk_vP pJ7_fill_53178)]) none (zk_at cdX7_tallyLooks) (zk_qv K)) 10 [some (.ref 38), some (.retAddr (46 + 2 * s)), some (.int y), some (.int (nI i)), none] [] h := by
  have z1 := zk_shelves hs
  intro n
  induction n with
  | zero =>
    intro i hi h he hj
    have hiN : i = Z := by omega
    subst hiN
    refine zk_bk hX7_tallyLooks (bX7_tallyLooks_10 ?_)
    rw [he.1 (46 + 2 * s) (by simp; omega), e3]
    exact ⟨z1.2.1, fun _ => next h he hj, fun q => absurd ((nI_leI (by omega) (by omega)).mpr (Nat.le_refl _)) q⟩
  | succ n ih =>
    intro i hi h he hj
    have e1' : h.1 1 1 = nI P := by rw [he.1 1 (by decide)]; exact e1
    refine zk_bk hX7_tallyLooks (bX7_tallyLooks_10 ?_)
    rw [he.1 (46 + 2 * s) (by simp; omega), e3]
    refine ⟨z1.2.1, fun q => absurd q (nI_ge (by omega) (by omega)), fun _ => ⟨z1.2.1, _, z1.2.2.1, _, z1.2.2.2, vp_in_nI (by omega) (by decide), jX4_isPerson ?_⟩⟩
    rw [he.2, e1', nI_clamp (n := i) (by omega), nI_1]
    refine ⟨fun q => ?_, fun q => ?_⟩
    · refine zk_fg hX7_tallyLooks ?_ (ih (i + 1) (by omega) h he (fun o ho => ?_))
      · exact ⟨rfl, rfl, rfl, rfl, rfl, trivial⟩
      · rw [hj o ho]
        rw [zk_tl_s, if_neg (fun z => zk_b_0.mp q (by rw [show (c.2 (47 + 2 * s) i).toInt32 = nI o from z.1]; exact zk_xi (by omega) ho))]
    · obtain ⟨o, ho, eo⟩ := zk_ix (by omega) (zk_b_n q).1 (zk_b_n q).2
      rw [eo, nI_clamp (n := o) (by omega)]
      have v8 := vp_in_nI (n := o) (N := 8) (by omega) (by decide)
      have st : ∀ v : Int32, v = (if y ≤ nI i then 1 else -1) → (zk_X zk_C (zk_lkl lkX7) zk_mt (zk_cxl [(25, zk_iP pX4_isPerson), (272, zk_vP pJ7_fill_53178)]) none (zk_at cdX7_tallyLooks) (zk_qv K)) 10 [some (.ref 38), some (.retAddr (46 + 2 * s)), some (.int y), some (.int (nI (i + 1))), some (.int (nI o))] [] (zk_si h 39 o (h.1 39 o + v)) := by
        intro v hv
        refine zk_fg hX7_tallyLooks ?_ (ih (i + 1) (by omega) _ (he.si (by simp)) (fun o' ho' => ?_))
        · exact ⟨rfl, rfl, rfl, rfl, rfl, trivial⟩
        · rw [zk_si_at]
          rw [zk_tl_s]
          by_cases e : o' = o
          · subst e
            rw [if_pos rfl, if_pos ⟨eo, ho⟩, hj o' ho', hv]
          · rw [if_neg e, if_neg (fun z => e ((nI_eq (by omega) (by omega)).mp (z.1.symm.trans eo))), hj o' ho']
      exact ⟨v8, fun q2 => ⟨v8, st 1 (by rw [if_pos q2])⟩, fun q2 => ⟨v8, st (-1) (by rw [if_neg q2])⟩⟩
theorem jX7_tallyLooks {K : zk_H → Prop} {c : zk_H} {s P Z : Nat} (hs : s < 6) (hP8 : P ≤ 8) (hZ : Z ≤ 60) (e1 : c.1 1 1 = nI P) (e3 : c.1 (46 + 2 * s) 3 = nI Z) (next : ∀ h, zk_ex [39] c h → (∀ o, o < P → h.1 39 o = zk_tl (fun i => (c.2 (47 + 2 * s) i).toInt32) P y Z o) → K h) : pX7_tallyLooks [.ref 38, .retAddr (46 + 2 * s), .int y] c K := by
  refine ⟨rfl, zk_bk hX7_tallyLooks (bX7_tallyLooks_0 ?_)⟩
  exact jJ7_fill_r39 fun h he hj => l_tally_10 hs hP8 hZ e1 e3 next Z 0 (by omega) h he (fun o ho => hj o (by omega))
theorem l_most_7 {K : Int32 → zk_H → Prop} {P : Nat} {t : Nat → Int32} (hP8 : P ≤ 8) (e1 : h.1 1 1 = nI P) (et : ∀ o, o < P → h.1 39 o = t o) (next : K (zk_bo (zk_mo t P)) h) :
    ∀ (n i : Nat), i + n = P → (zk_X zk_C (zk_lkl lkX7) zk_mt (zk_cxl []) (some .int) (zk_at cdX7_mostTallied) (zk_qi K)) 7 [some (.ref 38), some (.int (zk_bo (zk_mo t i))), some (.int (match zk_mo t i with | none => 0 | some b => t b)), some (.int (nI i))] [] h := by
  intro n
  induction n with
  | zero =>
    intro i hi
    have hiN : i = P := by omega
    subst hiN
    refine zk_bk hX7_mostTallied (bX7_mostTallied_7 ?_)
    rw [e1]
    exact ⟨fun _ => next, fun q => absurd ((nI_leI (by omega) (by omega)).mpr (Nat.le_refl _)) q⟩
  | succ n ih =>
    intro i hi
    have I := ih (i + 1) (by omega)
    refine zk_bk hX7_mostTallied (bX7_mostTallied_7 ?_)
    rw [e1, nI_clamp (n := i) (by omega), et i (by omega), nI_1]
    have v8 := vp_in_nI (n := i) (N := 8) (by omega) (by decide)
    refine ⟨fun q => absurd q (nI_ge (by omega) (by omega)), fun _ => ⟨v8, fun q => ?_, fun q => ⟨v8, ?_⟩⟩⟩
    · have e : zk_mo t (i + 1) = zk_mo t i := by
        show (if _ < t i then some i else zk_mo t i) = _
        rw [if_neg (by ((try simp only [zk_b_0, zk_b_1] at *); simp only [Int32.lt_iff_toInt_lt, Int32.le_iff_toInt_le, ← Int32.toInt_inj, Int32.reduceToInt] at *; omega))]
      rw [e] at I
      exact I
    · have e : zk_mo t (i + 1) = some i := by
        show (if _ < t i then some i else zk_mo t i) = _
        rw [if_pos (by ((try simp only [zk_b_0, zk_b_1] at *); simp only [Int32.lt_iff_toInt_lt, Int32.le_iff_toInt_le, ← Int32.toInt_inj, Int32.reduceToInt] at *; omega))]
      rw [e] at I
      exact I
theorem jX7_mostTallied {K : Int32 → zk_H → Prop} {P : Nat} {t : Nat → Int32} (hP8 : P ≤ 8) (e1 : h.1 1 1 = nI P) (et : ∀ o, o < P → h.1 39 o = t o) (next : K (zk_bo (zk_mo t P)) h) : pX7_mostTallied [.ref 38] h K := by
  refine ⟨rfl, zk_bk hX7_mostTallied (bX7_mostTallied_0 ?_)⟩
  exact l_most_7 hP8 e1 et next P 0 (by omega)
theorem l_most_5 {K : Int32 → zk_H → Prop} {P : Nat} {t : Nat → Int32} (hP8 : P ≤ 8) (e1 : h.1 0 0 = nI P) (et : ∀ o, o < P → h.1 36 o = t o) (next : K (zk_bo (zk_mo t P)) h) :
    ∀ (n i : Nat), i + n = P → (zk_X zk_D (zk_lkl lkX12) zk_mt (zk_cxl []) (some .int) (zk_at cdX12_most) (zk_qi K)) 5 [some (.ref 0), some (.int (zk_bo (zk_mo t i))), some (.int (nI i))] [] h := by
  intro n
  induction n with
  | zero =>
    intro i hi
    have hiN : i = P := by omega
    subst hiN
    refine zk_bk hX12_most (bX12_most_5 ?_)
    rw [e1]
    exact ⟨fun _ => next, fun q => absurd ((nI_leI (by omega) (by omega)).mpr (Nat.le_refl _)) q⟩
  | succ n ih =>
    intro i hi
    have I := ih (i + 1) (by omega)
    have v8 := vp_in_nI (n := i) (N := 8) (by omega) (by decide)
    refine zk_bk hX12_most (bX12_most_5 ?_)
    rw [e1, nI_clamp (n := i) (by omega), et i (by omega), nI_1]
    refine ⟨fun q => absurd q (nI_ge (by omega) (by omega)), fun _ => ⟨v8, ?_⟩⟩
    cases hb : zk_mo t i with
    | none =>
      refine ⟨fun q => absurd rfl q, fun _ => ⟨fun q => ?_, fun q => ?_⟩⟩
      · have e : zk_mo t (i + 1) = none := by
          show (if _ < t i then some i else zk_mo t i) = _
          rw [hb, if_neg (by ((try simp only [zk_b_0, zk_b_1] at *); simp only [Int32.lt_iff_toInt_lt, Int32.le_iff_toInt_le, ← Int32.toInt_inj, Int32.reduceToInt] at *; omega))]
        rw [e] at I
        exact I
      · have e : zk_mo t (i + 1) = some i := by
          show (if _ < t i then some i else zk_mo t i) = _
          rw [hb, if_pos (by ((try simp only [zk_b_0, zk_b_1] at *); simp only [Int32.lt_iff_toInt_lt, Int32.le_iff_toInt_le, ← Int32.toInt_inj, Int32.reduceToInt] at *; omega))]
        rw [e] at I
        exact I
    | some b =>
      have hbi := zk_mo_lt hb
      show (¬ nI b = -2 → _) ∧ _
      rw [nI_clamp (n := b) (by omega), et b (by omega)]
      refine ⟨fun _ => ⟨vp_in_nI (by omega) (by decide), fun q => ?_, fun q => ?_⟩, fun q => ?_⟩
      · have e : zk_mo t (i + 1) = some b := by
          show (if _ < t i then some i else zk_mo t i) = _
          rw [hb, if_neg (by ((try simp only [zk_b_0, zk_b_1] at *); simp only [Int32.lt_iff_toInt_lt, Int32.le_iff_toInt_le, ← Int32.toInt_inj, Int32.reduceToInt] at *; omega))]
        rw [e] at I
        exact I
      · have e : zk_mo t (i + 1) = some i := by
          show (if _ < t i then some i else zk_mo t i) = _
          rw [hb, if_pos (by ((try simp only [zk_b_0, zk_b_1] at *); simp only [Int32.lt_iff_toInt_lt, Int32.le_iff_toInt_le, ← Int32.toInt_inj, Int32.reduceToInt] at *; omega))]
        rw [e] at I
        exact I
      · exfalso
        have := nI_toInt (n := b) (by omega)
        have q' : nI b = -2 := q
        clear q
        ((try simp only [zk_b_0, zk_b_1] at *); simp only [Int32.lt_iff_toInt_lt, Int32.le_iff_toInt_le, ← Int32.toInt_inj, Int32.reduceToInt] at *; omega)
theorem jX12_most {K : Int32 → zk_H → Prop} {P : Nat} {t : Nat → Int32} (hP8 : P ≤ 8) (e1 : h.1 0 0 = nI P) (et : ∀ o, o < P → h.1 36 o = t o) (next : K (zk_bo (zk_mo t P)) h) : pX12_most [.ref 0] h K := by
  refine ⟨rfl, zk_bk hX12_most (bX12_most_0 ?_)⟩
  exact l_most_5 hP8 e1 et next P 0 (by omega)
end ZKY
