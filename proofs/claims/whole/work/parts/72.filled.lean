/-! CALL: filled -/
def zk_rw (m : zk_H) (s j : Nat) : Int32 := (m.2 34 (60 * s + j)).toInt32
/-- letter i can be -/
def zk_lb (m : zk_H) (P N s Z i : Nat) : Bool := decide (2 * i + 1 < Z) && zk_let m P N (zk_rw m s (2 * i)) (zk_rw m s (2 * i + 1))
/-- the first that cannot -/
def zk_wr (g : Nat → Bool) (Z : Nat) : Nat → Nat → Int32
  | 0, _ => -2
  | n + 1, i => if Z ≤ 2 * i then -2 else if g i then zk_wr g Z n (i + 1) else nI i
theorem zk_wr_ok {g : Nat → Bool} {Z : Nat} : ∀ {n i : Nat}, Z ≤ 2 * (i + n) → i + n ≤ 60 → zk_wr g Z n i = -2 → ∀ j, i ≤ j → 2 * j < Z → g j = true
  | 0, i, hZ, _, _, j, h1, h2 => by omega
  | n + 1, i, hZ, hb, e, j, h1, h2 => by
    unfold zk_wr at e
    rw [if_neg (by omega)] at e
    by_cases q : g i = true
    · rw [if_pos q] at e
      rcases Nat.lt_or_ge i j with u | u
      · exact zk_wr_ok (by omega) (by omega) e j (by omega) h2
      · rw [show j = i by omega]; exact q
    · rw [if_neg q] at e
      exact absurd e (zk_bo_n2 (by omega))
/-- what a letter counts: y 0 in how many ways, else how much -/
def zk_lv (lw : Option zk_lns) (m : zk_H) (P s : Nat) (y : Int32) (i : Nat) : Int32 :=
  if y = 0 then (if zk_rw m s (2 * i + 1) = -1 then nI (zk_cn (zk_cq m (zk_rw m s (2 * i)).toNatClampNeg) P) else 1)
  else (if zk_rw m s (2 * i + 1) = -1 then nI (zk_al lw m P (zk_rw m s (2 * i)).toNatClampNeg) else zk_wt lw m P (zk_rw m s (2 * i)).toNatClampNeg (zk_rw m s (2 * i + 1)).toNatClampNeg)
def zk_pf (f : Nat → Int32) : Nat → Int64
  | 0 => 1
  | n + 1 => zk_pf f n * (f n).toInt64
theorem zk_let_t {m : zk_H} {P N : Nat} {a b : Int32} (hP : P ≤ 8) (hN : N ≤ 6) (h : zk_let m P N a b = true) : ∃ i, i < N ∧ a = nI i ∧ (b = -1 ∨ (¬ b = -1 ∧ ∃ o, o < P ∧ b = nI o)) := by
  unfold zk_let at h
  rw [Bool.and_eq_true] at h
  have ha := of_decide_eq_true h.1
  obtain ⟨i, hi, ei⟩ := zk_ix (by omega) ha.1 ha.2
  refine ⟨i, hi, ei, ?_⟩
  by_cases q : b = -1
  · exact Or.inl q
  · have h2 := h.2
    rw [if_neg q, Bool.and_eq_true] at h2
    have hb := of_decide_eq_true h2.1
    obtain ⟨o, ho, eo⟩ := zk_ix (by omega) hb.1 hb.2
    exact Or.inr ⟨q, o, ho, eo⟩
section ZKW
variable {K : Int32 → zk_H → Prop} {KL : Int64 → zk_H → Prop} {lw : Option zk_lns} {h c m : zk_H} {x y z a b : Int32} {P N s Z i : Nat}
theorem l_wrongC (r : zk_off P N c m) (hs : s < 6) (hZ : Z ≤ 60) (e3 : c.1 (46 + 2 * s) 3 = nI Z) (er : ∀ i, i < 60 → c.2 (47 + 2 * s) i = m.2 34 (60 * s + i)) :
    ∀ (n i : Nat), Z ≤ 2 * (i + n) → i + n ≤ 30 → K (zk_wr (zk_lb m P N s Z) Z n i) c → (zk_X zk_C (zk_lkl lkX7) zk_mt (zk_cxl [(81, zk_iP pX7_canBe)]) (some .int) (zk_at cdX7_firstWrongLetter) (zk_qi K)) 2 [some (.ref 38), some (.retAddr (46 + 2 * s)), some (.int (nI (2 * i)))] [] c := by
  have z1 := zk_shelves hs
  intro n
  induction n with
  | zero =>
    intro i h1 h2 H
    refine zk_bk hX7_firstWrongLetter (bX7_firstWrongLetter_2 ?_)
    rw [e3]
    exact ⟨z1.2.1, fun _ => H, fun q => absurd ((nI_leI (by omega) (by omega)).mpr (by omega)) q⟩
  | succ n ih =>
    intro i h1 h2 H
    unfold zk_wr at H
    refine zk_bk hX7_firstWrongLetter (bX7_firstWrongLetter_2 ?_)
    rw [e3, nI_1, nI_2, zk_half i (by omega), nI_clamp (n := 2 * i) (by omega), nI_clamp (n := 2 * i + 1) (by omega)]
    refine ⟨z1.2.1, fun q => ?_, fun q => ⟨z1.2.1, fun q2 => ⟨by decide, ?_⟩, fun q2 => ⟨z1.2.1, _, z1.2.2.1, _, z1.2.2.2, ?_, z1.2.1, _, z1.2.2.1, _, z1.2.2.2, ?_, ?_⟩⟩⟩
    · rw [if_pos ((nI_leI (by omega) (by omega)).mp q)] at H
      exact H
    · have l1 := (nI_leI (by omega) (by omega)).mp q2
      have l2 : ¬ Z ≤ 2 * i := fun z => q ((nI_leI (by omega) (by omega)).mpr z)
      rw [if_neg l2, if_neg (by unfold zk_lb; rw [decide_eq_false (by omega)]; simp)] at H
      exact H
    · exact vp_in_nI (by omega) (by decide)
    · exact vp_in_nI (by omega) (by decide)
    · have l1 : 2 * i + 1 < Z := by
        rcases Nat.lt_or_ge (2 * i + 1) Z with z | z
        · exact z
        · exact absurd ((nI_leI (by omega) (by omega)).mpr z) q2
      rw [if_neg (by omega)] at H
      rw [er _ (by omega), er _ (by omega)]
      refine jX7_canBe r (fun ht => ⟨fun _ => ?_, fun q => absurd q (by decide)⟩) (fun hf => ⟨fun q => absurd rfl q, fun _ => ⟨by decide, ?_⟩⟩)
      · rw [show 2 * i + 2 = 2 * (i + 1) by omega]
        refine ih (i + 1) (by omega) (by omega) ?_
        have et : zk_lb m P N s Z i = true := by unfold zk_lb zk_rw; rw [decide_eq_true l1, ht]; rfl
        rw [if_pos et] at H
        exact H
      · have ef : zk_lb m P N s Z i = false := by unfold zk_lb zk_rw; rw [hf]; simp
        rw [if_neg (by rw [ef]; decide)] at H
        exact H
theorem l_wrongD (r : zk_off P N c m) (hs : s < 6) (hZ : Z ≤ 60) (eZ : m.1 33 s = nI Z) :
    ∀ (n i : Nat), Z ≤ 2 * (i + n) → i + n ≤ 30 → K (zk_wr (zk_lb m P N s Z) Z n i) m → (zk_X zk_D (zk_lkl lkX12) zk_mt (zk_cxl [(232, zk_iP pX12_canBe)]) (some .int) (zk_at cdX12_wrong) (zk_qi K)) 2 [some (.ref 0), some (.int (nI s)), some (.int (nI i))] [] m := by
  have vs := vp_in_nI (n := s) (N := 6) hs (by decide)
  intro n
  induction n with
  | zero =>
    intro i h1 h2 H
    refine zk_bk hX12_wrong (bX12_wrong_2 ?_)
    rw [nI_clamp (n := s) (by omega), eZ, nI_d]
    exact ⟨vs, fun _ => H, fun q => absurd ((nI_leI (by omega) (by omega)).mpr (by omega)) q⟩
  | succ n ih =>
    intro i h1 h2 H
    unfold zk_wr at H
    refine zk_bk hX12_wrong (bX12_wrong_2 ?_)
    rw [nI_clamp (n := s) (by omega), eZ, nI_d, nI_1]
    refine ⟨vs, fun q => ?_, fun q => ?_⟩
    · rw [if_pos ((nI_leI (by omega) (by omega)).mp q)] at H
      exact H
    · have l2 : ¬ Z ≤ 2 * i := fun z => q ((nI_leI (by omega) (by omega)).mpr z)
      rw [if_neg l2] at H
      refine jX12_canBe r hs hZ eZ (by omega) (fun l1 ht => ⟨fun _ => ih (i + 1) (by omega) (by omega) ?_, fun q => absurd q (by decide)⟩) (fun hf => ⟨fun q => absurd rfl q, fun _ => ?_⟩)
      · have et : zk_lb m P N s Z i = true := by unfold zk_lb zk_rw; rw [decide_eq_true l1, ht]; rfl
        rw [if_pos et] at H
        exact H
      · have ef : ¬ zk_lb m P N s Z i = true := by
          unfold zk_lb zk_rw
          intro z
          rw [Bool.and_eq_true] at z
          rw [hf (of_decide_eq_true z.1)] at z
          exact absurd z.2 (by decide)
        rw [if_neg ef] at H
        exact H
theorem l_fillC {L : Nat} (r : zk_off P N c m) (LL : zk_lpd lw (c.1 28 1) (c.1 29) (m.1 0 19) (m.1 0 20) (m.1 16) (m.1 17) (m.1 18) (m.1 19)) (hs : s < 6) (hZ : L ≤ 30) (e3 : c.1 (46 + 2 * s) 3 = nI (2 * L)) (er : ∀ i, i < 60 → c.2 (47 + 2 * s) i = m.2 34 (60 * s + i)) (ok : ∀ j, 0 ≤ j → 2 * j < 2 * L → zk_lb m P N s (2 * L) j = true) (H : ∀ c', zk_ex [30, 32, 33] c c' → KL (zk_pf (zk_lv lw m P s y) L) c') :
    ∀ (n i : Nat) (h : zk_H), i + n = L → zk_ex [30, 32, 33] c h → (zk_X zk_C (zk_lkl lkX7) zk_mt (zk_cxl [(83, zk_iP pX7_waysToFill), (84, zk_iP pX7_countsTogether)]) (some .long) (zk_at cdX7_lettersFilled) (zk_ql KL)) 5 [some (.ref 38), some (.retAddr (46 + 2 * s)), some (.int y), some (.long (zk_pf (zk_lv lw m P s y) i)), none, some (.int (nI (2 * i))), none, none] [] h := by
  obtain ⟨⟨hP, hN⟩, ⟨f1, f2, f3, f4⟩, -⟩ := id r
  have z1 := zk_shelves hs
  intro n
  induction n with
  | zero =>
    intro i h hi he
    have hiL : i = L := by omega
    subst hiL
    refine zk_bk hX7_lettersFilled (bX7_lettersFilled_5 ?_)
    rw [he.1 (46 + 2 * s) (by simp; omega), e3, nI_1]
    exact ⟨z1.2.1, fun _ => H h he, fun q => absurd ((nI_leI (by omega) (by omega)).mpr (by omega)) q⟩
  | succ n ih =>
    intro i h hi he
    have lt := ok i (Nat.zero_le _) (by omega)
    unfold zk_lb at lt
    rw [Bool.and_eq_true] at lt
    obtain ⟨ca, hca, eca, hb⟩ := zk_let_t hP hN lt.2
    have eca' := eca
    have eva : (zk_rw m s (2 * i)).toNatClampNeg = ca := by rw [eca, nI_clamp (by omega)]
    have go : ∀ (h' : zk_H) (v : Int32) (A B : Int32), zk_ex [30, 32, 33] c h' → v = zk_lv lw m P s y i → (zk_X zk_C (zk_lkl lkX7) zk_mt (zk_cxl [(83, zk_iP pX7_waysToFill), (84, zk_iP pX7_countsTogether)]) (some .long) (zk_at cdX7_lettersFilled) (zk_ql KL)) 5 [some (.ref 38), some (.retAddr (46 + 2 * s)), some (.int y), some (.long (zk_pf (zk_lv lw m P s y) i * v.toInt64)), none, some (.int (nI (2 * i) + 2)), some (.int A), some (.int B)] [] h' := by
      intro h' v A B he' hv
      subst hv
      rw [nI_2, show 2 * i + 2 = 2 * (i + 1) by omega]
      refine zk_fg hX7_lettersFilled ?_ (ih (i + 1) h' (by omega) he')
      exact ⟨rfl, rfl, rfl, rfl, rfl, rfl, rfl, rfl, trivial⟩
    refine zk_bk hX7_lettersFilled (bX7_lettersFilled_5 ?_)
    rw [he.1 (46 + 2 * s) (by simp; omega), e3, nI_1]
    refine ⟨z1.2.1, fun q => absurd q (nI_ge (by omega) (by omega)), fun _ => ⟨z1.2.1, _, z1.2.2.1, _, z1.2.2.2, vp_in_nI (by omega) (by decide), z1.2.1, _, z1.2.2.1, _, z1.2.2.2, vp_in_nI (by omega) (by decide), ?_⟩⟩
    rw [nI_clamp (n := 2 * i) (by omega), nI_clamp (n := 2 * i + 1) (by omega), he.2, er _ (by omega), er _ (by omega)]
    show (¬ y = 0 → pX7_countsTogether [.ref 38, .int (zk_rw m s (2 * i)), .int (zk_rw m s (2 * i + 1))] h _) ∧ (y = 0 → pX7_waysToFill [.ref 38, .int (zk_rw m s (2 * i)), .int (zk_rw m s (2 * i + 1))] h _)
    refine ⟨fun q => ?_, fun q => ?_⟩
    · rw [eca]
      have W := (r.wo LL hca).ex he (zk_ex.rf (S := [])) (by decide) (by decide)
      refine ⟨rfl, zk_bk hX7_countsTogether (bX7_countsTogether_0 ?_)⟩
      refine jX10_weigh W fun c2 hc2 hw => ⟨fun q2 => ?_, fun q2 => go _ _ _ _ (he.tr hc2) ?_⟩
      · rcases hb with u | ⟨-, o, ho, eo⟩
        · exact absurd u q2
        · rw [eo, nI_clamp (n := o) (by omega), hw o ho]
          refine ⟨vp_in_nI (by omega) (by decide), go _ _ _ _ (he.tr hc2) ?_⟩
          unfold zk_lv
          rw [if_neg q, if_neg q2, eva, eo, nI_clamp (n := o) (by omega)]
      · unfold zk_lv
        rw [if_neg q, if_pos q2, eva, zk_al_e]
    · rw [eca]
      refine ⟨rfl, zk_bk hX7_waysToFill (bX7_waysToFill_0 ?_)⟩
      refine ⟨fun q2 => go _ _ _ _ he ?_, fun q2 => jX4_whoCould (r.ex he (by decide)) hca (jJ6_bitCount (go _ _ _ _ he ?_))⟩
      · unfold zk_lv
        rw [if_pos q, if_neg q2]
      · unfold zk_lv
        rw [if_pos q, if_pos q2, eva, zk_bc_mask hP]
theorem l_fillD {L : Nat} (r : zk_off P N c m) (LL : zk_lpd lw (c.1 28 1) (c.1 29) (m.1 0 19) (m.1 0 20) (m.1 16) (m.1 17) (m.1 18) (m.1 19)) (hs : s < 6) (hZ : L ≤ 30) (eZ : m.1 33 s = nI (2 * L)) (ok : ∀ j, 0 ≤ j → 2 * j < 2 * L → zk_lb m P N s (2 * L) j = true) (H : ∀ c', zk_ex [24, 25] m c' → KL (zk_pf (zk_lv lw m P s y) L) c') :
    ∀ (n i : Nat) (h : zk_H), i + n = L → zk_ex [24, 25] m h → (zk_X zk_D (zk_lkl lkX12) zk_mt (zk_cxl [(153, zk_iP pX12_within), (162, zk_iP pX12_isShelf), (197, zk_iP pX12_counted), (198, zk_iP pX12_countedAll), (199, zk_iP pX12_couldAll), (225, zk_iP pX12_noRow), (226, zk_iP pX12_toldAt), (233, zk_iP pX12_wrong), (262, zk_iP (pJ6_bitCount_0f7a4 zk_D))]) (some .long) (zk_at cdX12_filled) (zk_ql KL)) 46 [some (.ref 0), some (.int (nI s)), some (.int y), some (.long (zk_pf (zk_lv lw m P s y) i)), none, some (.int (nI i)), none, none] [] h := by
  obtain ⟨⟨hP, hN⟩, ⟨f1, f2, f3, f4⟩, -⟩ := id r
  have vs := vp_in_nI (n := s) (N := 6) hs (by decide)
  intro n
  induction n with
  | zero =>
    intro i h hi he
    have hiL : i = L := by omega
    subst hiL
    refine zk_bk hX12_filled (bX12_filled_46 ?_)
    rw [nI_clamp (n := s) (by omega), he.1 33 (by decide), eZ, nI_d]
    exact ⟨vs, fun _ => H h he, fun q => absurd ((nI_leI (by omega) (by omega)).mpr (by omega)) q⟩
  | succ n ih =>
    intro i h hi he
    have lt := ok i (Nat.zero_le _) (by omega)
    unfold zk_lb at lt
    rw [Bool.and_eq_true] at lt
    obtain ⟨ca, hca, eca, hb⟩ := zk_let_t hP hN lt.2
    have eva : (zk_rw m s (2 * i)).toNatClampNeg = ca := by rw [eca, nI_clamp (by omega)]
    have W := r.wo LL hca
    have go : ∀ (h' : zk_H) (v : Int64) (A B : Int32), zk_ex [24, 25] m h' → v = (zk_lv lw m P s y i).toInt64 → (zk_X zk_D (zk_lkl lkX12) zk_mt (zk_cxl [(153, zk_iP pX12_within), (162, zk_iP pX12_isShelf), (197, zk_iP pX12_counted), (198, zk_iP pX12_countedAll), (199, zk_iP pX12_couldAll), (225, zk_iP pX12_noRow), (226, zk_iP pX12_toldAt), (233, zk_iP pX12_wrong), (262, zk_iP (pJ6_bitCount_0f7a4 zk_D))]) (some .long) (zk_at cdX12_filled) (zk_ql KL)) 46 [some (.ref 0), some (.int (nI s)), some (.int y), some (.long (zk_pf (zk_lv lw m P s y) i * v)), none, some (.int (nI i + 1)), some (.int A), some (.int B)] [] h' := by
      intro h' v A B he' hv
      subst hv
      rw [nI_1]
      refine zk_fg hX12_filled ?_ (ih (i + 1) h' (by omega) he')
      exact ⟨rfl, rfl, rfl, rfl, rfl, rfl, rfl, rfl, trivial⟩
    refine zk_bk hX12_filled (bX12_filled_46 ?_)
    rw [nI_clamp (n := s) (by omega), he.1 33 (by decide), eZ, nI_d, nI_1 (2 * i)]
    refine ⟨vs, fun q => absurd q (nI_ge (by omega) (by omega)), fun _ => jX12_toldAt hs (by omega) (jX12_toldAt hs (by omega) ?_)⟩
    rw [he.2]
    show (¬ y = 0 → (¬ zk_rw m s (2 * i + 1) = -1 → pX12_counted [.ref 0, .int (zk_rw m s (2 * i + 1)), .int (zk_rw m s (2 * i))] h _) ∧ (zk_rw m s (2 * i + 1) = -1 → pX12_countedAll [.ref 0, .int (zk_rw m s (2 * i))] h _)) ∧ (y = 0 → (¬ zk_rw m s (2 * i + 1) = -1 → _) ∧ (zk_rw m s (2 * i + 1) = -1 → pX12_couldAll [.ref 0, .int (zk_rw m s (2 * i))] h _))
    refine ⟨fun q => ⟨fun q2 => ?_, fun q2 => ?_⟩, fun q => ⟨fun q2 => go _ _ _ _ he ?_, fun q2 => ?_⟩⟩
    · rcases hb with u | ⟨-, o, ho, eo⟩
      · exact absurd u q2
      · rw [eca, eo]
        refine jX12_counted W he ho fun h1 he1 => go _ _ _ _ he1 ?_
        unfold zk_lv
        rw [if_neg q, if_neg q2, eva, eo, nI_clamp (n := o) (by omega)]
    · rw [eca]
      refine jX12_countedAll W he fun h1 he1 => go _ _ _ _ he1 ?_
      unfold zk_lv
      rw [if_neg q, if_pos q2, eva, zk_al_e]
    · unfold zk_lv
      rw [if_pos q, if_neg q2]
      rfl
    · rw [eca]
      refine jX12_couldAll hP (by omega) (by rw [he.1 0 (by decide)]; exact f3) (jJ6_bitCount (go _ _ _ _ he ?_))
      unfold zk_lv
      have ecq : zk_cq h ca = zk_cq m ca := funext fun o => zk_cq_ex he (by decide)
      rw [if_pos q, if_pos q2, eva, zk_bc_mask hP, ecq]
end ZKW
section ZK3
variable {c m : zk_H} {x y z : Int32}
theorem e_filled (R : zk_RR zk_lpe c m) : pX11_filled [.ref 0, .int x, .int y] c (fun v c' => pX12_filled [.ref 0, .int x, .int y] m (fun v' m' => v = v' ∧ zk_RR zk_lpe c' m')) := by
  obtain ⟨P, N, D, U, T, B, R8⟩ := id R
  obtain ⟨r1, -, -, -, r5, -, r7, lw, LL⟩ := id R8
  obtain ⟨⟨hP, hN⟩, ⟨f1, f2, f3, f4⟩, -⟩ := id r1
  refine ⟨rfl, zk_bk hX11_filled (bX11_filled_0r ?_)⟩
  refine jX11_shelfAt (fun q => ?_) (fun s hs e => ?_)
  · refine zk_bk hX11_filled (bX11_filled_5 ?_)
    show pX12_filled _ _ _
    refine ⟨rfl, zk_bk hX12_filled (bX12_filled_0 ?_)⟩
    exact jX12_isShelf ⟨fun _ => ⟨rfl, R⟩, fun q2 => absurd (zk_isShelf q) q2⟩
  subst e
  have z1 := zk_shelves hs
  refine zk_bk hX11_filled (bX11_filled_5a ?_)
  refine jX11_isZeroOrOne ⟨fun q => ?_, fun q => ⟨z1.2.1, jX8_isRowOf hs ?_⟩⟩
  · show pX12_filled _ _ _
    refine ⟨rfl, zk_bk hX12_filled (bX12_filled_0 ?_)⟩
    refine jX12_isShelf ⟨fun _ => ⟨rfl, R⟩, fun _ => jX12_within ⟨fun _ => ⟨rfl, R⟩, fun q2 => absurd (zk_b_n q2) fun z => zk_b_0.mp q ?_⟩⟩
    ((try simp only [zk_b_0, zk_b_1] at *); simp only [Int32.lt_iff_toInt_lt, Int32.le_iff_toInt_le, ← Int32.toInt_inj, Int32.reduceToInt] at *; omega)
  have hw : ¬ zk_b (0 ≤ y ∧ y ≤ 1) = 0 := fun q2 => absurd (zk_b_n q) (fun z => zk_b_0.mp q2 (by rcases z with rfl | rfl <;> decide))
  rcases (r7 s hs).row r5.1 (t := 1) (by decide) with ⟨v, v1, v2, e1, e2, e3⟩ | ⟨e1, e2, g1, Z, hZ, g6, g7, g8⟩
  · rw [show (nI 1 : Int32) = 1 from rfl] at e2 e3
    refine ⟨fun q2 => absurd (zk_b_n q2) e3, fun _ => ?_⟩
    show pX12_filled _ _ _
    refine ⟨rfl, zk_bk hX12_filled (bX12_filled_0 ?_)⟩
    refine jX12_isShelf ⟨fun q2 => absurd (q2.symm.trans (zk_onShelf hs)) (by decide), fun _ => jX12_within ⟨fun q2 => absurd q2 hw, fun _ => jX12_noRow hs ⟨fun q2 => absurd q2 (by rw [e2]; exact v2), fun _ => ⟨rfl, R⟩⟩⟩⟩
  · rw [show (nI 1 : Int32) = 1 from rfl] at e2 g1
    refine ⟨fun _ => ?_, fun q2 => absurd g1 (zk_b_0.mp q2)⟩
    have ref : ∀ KL : Int64 → zk_H → Prop, (zk_wr (zk_lb m P N s Z) Z 30 0 = -2 → (zk_X zk_D (zk_lkl lkX12) zk_mt (zk_cxl [(153, zk_iP pX12_within), (162, zk_iP pX12_isShelf), (197, zk_iP pX12_counted), (198, zk_iP pX12_countedAll), (199, zk_iP pX12_couldAll), (225, zk_iP pX12_noRow), (226, zk_iP pX12_toldAt), (233, zk_iP pX12_wrong), (262, zk_iP (pJ6_bitCount_0f7a4 zk_D))]) (some .long) (zk_at cdX12_filled) (zk_ql KL)) 46 [some (.ref 0), some (.int (nI s)), some (.int y), some (.long (1 : Int64)), none, some (.int (0 : Int32)), none, none] [] m) → (¬ zk_wr (zk_lb m P N s Z) Z 30 0 = -2 → KL 0 m) → pX12_filled [.ref 0, .int (nI s), .int y] m KL := by
      intro KL h1 h2
      refine ⟨rfl, zk_bk hX12_filled (bX12_filled_0 ?_)⟩
      refine jX12_isShelf ⟨fun q2 => absurd (q2.symm.trans (zk_onShelf hs)) (by decide), fun _ => jX12_within ⟨fun q2 => absurd q2 hw, fun _ => jX12_noRow hs ⟨fun _ => ?_, fun q2 => absurd (by rw [e2]; decide) q2⟩⟩⟩
      refine ⟨rfl, zk_bk hX12_wrong (bX12_wrong_0 ?_)⟩
      exact l_wrongD r1 hs hZ g7 30 0 (by omega) (by omega) ⟨h1, h2⟩
    refine ⟨rfl, zk_bk hX7_firstWrongLetter (bX7_firstWrongLetter_0 ?_)⟩
    refine l_wrongC r1 hs hZ g6 g8 30 0 (by omega) (by omega) ⟨fun q2 => ?_, fun q2 => ?_⟩
    · show pX12_filled _ _ _
      exact ref _ (fun q3 => absurd q3 q2) fun _ => ⟨rfl, R⟩
    · have ok := zk_wr_ok (g := zk_lb m P N s Z) (Z := Z) (n := 30) (i := 0) (by omega) (by omega) q2
      have hev : Z = 2 * (Z / 2) := by
        rcases Nat.lt_or_ge (2 * (Z / 2)) Z with u | u
        · have := ok (Z / 2) (Nat.zero_le _) u
          unfold zk_lb at this
          rw [Bool.and_eq_true] at this
          have := of_decide_eq_true this.1
          omega
        · omega
      have hL : Z / 2 ≤ 30 := by omega
      generalize Z / 2 = L at hev hL
      subst hev
      refine ⟨rfl, zk_bk hX7_lettersFilled (bX7_lettersFilled_0 ?_)⟩
      refine l_fillC r1 LL hs hL g6 g8 ok (fun c' hc => ?_) L 0 c (by omega) zk_ex.rf
      show pX12_filled _ _ _
      refine ref _ (fun _ => ?_) (fun q3 => absurd q2 q3)
      exact l_fillD r1 LL hs hL g7 ok (fun m' hm => ⟨rfl, P, N, D, U, T, B, zk_R_ex R8 hc hm (by decide) (by decide)⟩) L 0 m (by omega) zk_ex.rf
end ZK3
