/-! CALL: judge -/
theorem nI_d (a : Nat) : (2 : Int32) * nI a = nI (2 * a) := (Int32.ofNat_mul 2 a).symm
theorem zk_half : ∀ i, i < 31 → nI (2 * i) / 2 = nI i := by decide +kernel
section ZKW
variable {K : Int32 → zk_H → Prop} {h c m : zk_H} {x y a b : Int32} {P N s Z : Nat}
/-- a letter that can be -/
def zk_let (m : zk_H) (P N : Nat) (a b : Int32) : Bool := decide (0 ≤ a ∧ a < nI N) && (if b = -1 then !decide (zk_mask (zk_cq m a.toNatClampNeg) P = 0) else (decide (0 ≤ b ∧ b < nI P) && zk_cq m a.toNatClampNeg b.toNatClampNeg))
theorem jX7_canBe (r : zk_off P N c m) (H1 : zk_let m P N a b = true → K 1 c) (H0 : zk_let m P N a b = false → K 0 c) : pX7_canBe [.ref 38, .int a, .int b] c K := by
  obtain ⟨⟨hP, hN⟩, ⟨f1, f2, f3, f4⟩, -⟩ := id r
  refine ⟨rfl, zk_bk hX7_canBe (bX7_canBe_0 ?_)⟩
  refine jX4_isCard ?_
  rw [f2]
  refine ⟨fun q => ?_, fun q => ⟨Or.inl rfl, H0 (by unfold zk_let; rw [decide_eq_false (zk_b_0.mp q)]; rfl)⟩⟩
  obtain ⟨i, hi, ei⟩ := zk_ix (by omega) (zk_b_n q).1 (zk_b_n q).2
  have hq := zk_b_n q
  subst ei
  have M := zk_mask_lt (p := zk_cq m i) hP
  refine ⟨fun q2 => jX4_isPerson ?_, fun q2 => jX4_whoCould r hi ⟨fun q3 => ⟨Or.inl rfl, H0 ?_⟩, fun q3 => ⟨Or.inr rfl, H1 ?_⟩⟩⟩
  · rw [f1]
    refine ⟨fun q3 => ⟨Or.inl rfl, H0 ?_⟩, fun q3 => jX4_whoCould r hi ?_⟩
    · unfold zk_let
      rw [if_neg q2, decide_eq_false (zk_b_0.mp q3)]
      simp
    · obtain ⟨o, ho, eo⟩ := zk_ix (by omega) (zk_b_n q3).1 (zk_b_n q3).2
      have hq3 := zk_b_n q3
      subst eo
      rw [zk_bitof o (by omega) _ M, zk_mask_tb]
      have e : zk_let m P N (nI i) (nI o) = zk_cq m i o := by
        unfold zk_let
        rw [if_neg q2, decide_eq_true hq, decide_eq_true hq3, nI_clamp (n := i) (by omega), nI_clamp (n := o) (by omega)]
        simp
      cases hh : zk_cq m i o
      · exact ⟨fun _ => ⟨Or.inl rfl, H0 (e.trans hh)⟩, fun q => absurd (by simp) q⟩
      · exact ⟨fun q => absurd q (by simp [ho]), fun _ => ⟨Or.inr rfl, H1 (e.trans hh)⟩⟩
  · have hz : zk_mask (zk_cq m i) P = 0 := (nI_eq (b := 0) (by omega) (by decide)).mp q3
    unfold zk_let
    rw [if_pos q2, nI_clamp (n := i) (by omega), decide_eq_true hz]
    simp
  · have hz : ¬ zk_mask (zk_cq m i) P = 0 := fun z => q3 (by rw [z]; rfl)
    unfold zk_let
    rw [if_pos q2, nI_clamp (n := i) (by omega), decide_eq_false hz, decide_eq_true hq]
    simp
theorem jX12_canBe {i : Nat} (r : zk_off P N c m) (hs : s < 6) (hZ : Z ≤ 60) (eZ : m.1 33 s = nI Z) (hi : i < 30) (H1 : 2 * i + 1 < Z → zk_let m P N (m.2 34 (60 * s + 2 * i)).toInt32 (m.2 34 (60 * s + (2 * i + 1))).toInt32 = true → K 1 m) (H0 : (2 * i + 1 < Z → zk_let m P N (m.2 34 (60 * s + 2 * i)).toInt32 (m.2 34 (60 * s + (2 * i + 1))).toInt32 = false) → K 0 m) : pX12_canBe [.ref 0, .int (nI s), .int (nI i)] m K := by
  obtain ⟨⟨hP, hN⟩, ⟨f1, f2, f3, f4⟩, -⟩ := id r
  have vs := vp_in_nI (n := s) (N := 6) hs (by decide)
  refine ⟨rfl, zk_bk hX12_canBe (bX12_canBe_0 ?_)⟩
  rw [nI_clamp (n := s) (by omega), eZ, nI_d, nI_1]
  refine ⟨vs, fun q => ?_, fun q => ⟨Or.inl rfl, H0 fun z => absurd ((nI_ltI (by omega) (by omega)).mpr z) q⟩⟩
  have hlt := (nI_ltI (by omega) (by omega)).mp q
  refine jX12_toldAt hs (by omega) (jX12_toldAt hs (by omega) (jX12_isCard f4 (by omega) ?_))
  generalize (m.2 34 (60 * s + 2 * i)).toInt32 = a at H1 H0 ⊢
  generalize (m.2 34 (60 * s + (2 * i + 1))).toInt32 = b at H1 H0 ⊢
  refine ⟨fun q1 => ?_, fun q1 => ⟨Or.inl rfl, H0 fun _ => by unfold zk_let; rw [decide_eq_false (zk_b_0.mp q1)]; rfl⟩⟩
  have hq := zk_b_n q1
  obtain ⟨j, hj, ej⟩ := zk_ix (by omega) hq.1 hq.2
  subst ej
  have M := zk_mask_lt (p := zk_cq m j) hP
  refine ⟨fun q2 => jX12_isOne f3 hP ⟨fun q3 => ⟨Or.inl rfl, H0 fun _ => ?_⟩, fun q3 => ?_⟩, fun q2 => jX12_couldAll hP (by omega) f3 ⟨fun q3 => ⟨Or.inl rfl, H0 fun _ => ?_⟩, fun q3 => ⟨Or.inr rfl, H1 hlt ?_⟩⟩⟩
  · unfold zk_let
    rw [if_neg q2, decide_eq_false (zk_b_0.mp q3)]
    simp
  · have hq3 := zk_b_n q3
    obtain ⟨o, ho, eo⟩ := zk_ix (by omega) hq3.1 hq3.2
    subst eo
    have e : zk_let m P N (nI j) (nI o) = zk_cq m j o := by
      unfold zk_let
      rw [if_neg q2, decide_eq_true hq, decide_eq_true hq3, nI_clamp (n := j) (by omega), nI_clamp (n := o) (by omega)]
      simp
    refine jX12_could (by omega) (by omega) ?_
    cases hh : zk_cq m j o
    · exact ⟨fun _ => ⟨Or.inl rfl, H0 fun _ => e.trans hh⟩, fun q => absurd rfl q⟩
    · exact ⟨fun q => absurd q (by decide), fun _ => ⟨Or.inr rfl, H1 hlt (e.trans hh)⟩⟩
  · have hz : zk_mask (zk_cq m j) P = 0 := (nI_eq (b := 0) (by omega) (by decide)).mp q3
    unfold zk_let
    rw [if_pos q2, nI_clamp (n := j) (by omega), decide_eq_true hz]
    simp
  · have hz : ¬ zk_mask (zk_cq m j) P = 0 := fun z => q3 (by rw [z]; rfl)
    unfold zk_let
    rw [if_pos q2, nI_clamp (n := j) (by omega), decide_eq_false hz, decide_eq_true hq]
    simp
theorem l_wrong (r : zk_off P N c m) (hs : s < 6) (hZ : Z ≤ 60) (e3 : c.1 (46 + 2 * s) 3 = nI Z) (eZ : m.1 33 s = nI Z) (er : ∀ i, i < 60 → c.2 (47 + 2 * s) i = m.2 34 (60 * s + i)) :
    ∀ (n i : Nat), Z ≤ 2 * i + n → i ≤ 30 → (∀ v, (∀ Kr : Int32 → zk_H → Prop, Kr v m → (zk_X zk_D (zk_lkl lkX12) zk_mt (zk_cxl [(232, zk_iP pX12_canBe)]) (some .int) (zk_at cdX12_wrong) (zk_qi Kr)) 2 [some (.ref 0), some (.int (nI s)), some (.int (nI i))] [] m) → K v c) → (zk_X zk_C (zk_lkl lkX7) zk_mt (zk_cxl [(81, zk_iP pX7_canBe)]) (some .int) (zk_at cdX7_firstWrongLetter) (zk_qi K)) 2 [some (.ref 38), some (.retAddr (46 + 2 * s)), some (.int (nI (2 * i)))] [] c := by
  have z1 := zk_shelves hs
  have vs := vp_in_nI (n := s) (N := 6) hs (by decide)
  have stop : ∀ i, i ≤ 30 → Z ≤ 2 * i → (∀ v, (∀ Kr : Int32 → zk_H → Prop, Kr v m → (zk_X zk_D (zk_lkl lkX12) zk_mt (zk_cxl [(232, zk_iP pX12_canBe)]) (some .int) (zk_at cdX12_wrong) (zk_qi Kr)) 2 [some (.ref 0), some (.int (nI s)), some (.int (nI i))] [] m) → K v c) → (zk_X zk_C (zk_lkl lkX7) zk_mt (zk_cxl [(81, zk_iP pX7_canBe)]) (some .int) (zk_at cdX7_firstWrongLetter) (zk_qi K)) 2 [some (.ref 38), some (.retAddr (46 + 2 * s)), some (.int (nI (2 * i)))] [] c := by
    intro i hi hle hK
    have le := (nI_leI (a := Z) (b := 2 * i) (by omega) (by omega)).mpr hle
    refine zk_bk hX7_firstWrongLetter (bX7_firstWrongLetter_2 ?_)
    rw [e3]
    refine ⟨z1.2.1, fun _ => hK _ fun Kr hk => ?_, fun q => absurd le q⟩
    refine zk_bk hX12_wrong (bX12_wrong_2 ?_)
    rw [nI_clamp (n := s) (by omega), eZ, nI_d]
    exact ⟨vs, fun _ => hk, fun q => absurd le q⟩
  intro n
  induction n with
  | zero => exact fun i h1 h2 hK => stop i h2 (by omega) hK
  | succ n ih =>
    intro i h1 h2 hK
    rcases Nat.lt_or_ge (2 * i) Z with hlt | hge
    · have ob : ∀ Kr : Int32 → zk_H → Prop, (2 * i + 1 < Z → zk_let m P N (m.2 34 (60 * s + 2 * i)).toInt32 (m.2 34 (60 * s + (2 * i + 1))).toInt32 = true → (zk_X zk_D (zk_lkl lkX12) zk_mt (zk_cxl [(232, zk_iP pX12_canBe)]) (some .int) (zk_at cdX12_wrong) (zk_qi Kr)) 2 [some (.ref 0), some (.int (nI s)), some (.int (nI (i + 1)))] [] m) → ((2 * i + 1 < Z → zk_let m P N (m.2 34 (60 * s + 2 * i)).toInt32 (m.2 34 (60 * s + (2 * i + 1))).toInt32 = false) → Kr (nI i) m) → (zk_X zk_D (zk_lkl lkX12) zk_mt (zk_cxl [(232, zk_iP pX12_canBe)]) (some .int) (zk_at cdX12_wrong) (zk_qi Kr)) 2 [some (.ref 0), some (.int (nI s)), some (.int (nI i))] [] m := by
        intro Kr H1 H0
        refine zk_bk hX12_wrong (bX12_wrong_2 ?_)
        rw [nI_clamp (n := s) (by omega), eZ, nI_d, nI_1]
        exact ⟨vs, fun q => absurd q (nI_ge (by omega) (by omega)), fun _ => jX12_canBe r hs hZ eZ (by omega) (fun a b => ⟨fun _ => H1 a b, fun q => absurd q (by decide)⟩) (fun a => ⟨fun q => absurd rfl q, fun _ => H0 a⟩)⟩
      refine zk_bk hX7_firstWrongLetter (bX7_firstWrongLetter_2 ?_)
      rw [e3, nI_1, nI_2, zk_half i (by omega), nI_clamp (n := 2 * i) (by omega), nI_clamp (n := 2 * i + 1) (by omega)]
      refine ⟨z1.2.1, fun q => absurd q (nI_ge (by omega) (by omega)), fun _ => ⟨z1.2.1, fun q => ⟨by decide, hK _ fun Kr hk => ob Kr (fun z => ?_) (fun _ => hk)⟩, fun q => ⟨z1.2.1, _, z1.2.2.1, _, z1.2.2.2, vp_in_nI (by omega) (by decide), z1.2.1, _, z1.2.2.1, _, z1.2.2.2, vp_in_nI (by omega) (by decide), ?_⟩⟩⟩
      · exact absurd q (nI_ge z (by omega))
      · have h21 : 2 * i + 1 < Z := by
          rcases Nat.lt_or_ge (2 * i + 1) Z with z | z
          · exact z
          · exact absurd ((nI_leI (by omega) (by omega)).mpr z) q
        rw [er _ (by omega), er _ (by omega)]
        refine jX7_canBe r (fun ht => ⟨fun _ => ?_, fun q => absurd q (by decide)⟩) (fun hf => ⟨fun q => absurd rfl q, fun _ => ⟨by decide, hK _ fun Kr hk => ob Kr (fun _ z => ?_) (fun _ => hk)⟩⟩)
        · rw [show 2 * i + 2 = 2 * (i + 1) by omega]
          exact ih (i + 1) (by omega) (by omega) fun v hv => hK v fun Kr hk => ob Kr (fun _ _ => hv Kr hk) (fun z => absurd (ht.symm.trans (z h21)) (by decide))
        · exact absurd (z.symm.trans hf) (by decide)
    · exact stop i h2 hge hK
end ZKW
section ZK3
variable {lp : zk_lp} {c m : zk_H} {x y z : Int32}
theorem e_judge (R : zk_RR lp c m) : pX11_judge [.ref 0, .int x] c (fun v c' => pX12_judge [.ref 0, .int x] m (fun v' m' => v = v' ∧ zk_RR lp c' m')) := by
  obtain ⟨P, N, D, U, T, B, R8⟩ := id R
  obtain ⟨r1, -, -, -, r5, -, r7, -⟩ := id R8
  refine ⟨rfl, zk_bk hX11_judge (bX11_judge_0r ?_)⟩
  refine jX11_shelfAt (fun q => ?_) (fun s hs e => ?_)
  · refine zk_bk hX11_judge (bX11_judge_5 ?_)
    show pX12_judge _ _ _
    refine ⟨rfl, zk_bk hX12_judge (bX12_judge_0 ?_)⟩
    exact jX12_isShelf ⟨fun q2 => absurd (zk_isShelf q) q2, fun _ => ⟨rfl, R⟩⟩
  subst e
  have z1 := zk_shelves hs
  refine zk_bk hX11_judge (bX11_judge_5a ?_)
  refine ⟨z1.2.1, jX8_refusalOfRow hs ?_⟩
  rcases (r7 s hs).row r5.1 (t := 1) (by decide) with ⟨v, v1, v2, e1, e2, -⟩ | ⟨e1, e2, g1, Z, hZ, g6, g7, g8⟩
  · rw [show (nI 1 : Int32) = 1 from rfl] at e1 e2
    rw [e1]
    refine ⟨fun q => absurd q v1, fun _ => ?_⟩
    show pX12_judge _ _ _
    refine ⟨rfl, zk_bk hX12_judge (bX12_judge_0 ?_)⟩
    refine jX12_isShelf ⟨fun _ => jX12_noRow hs ⟨fun q2 => absurd q2 (by rw [e2]; exact v2), fun _ => by rw [e2]; exact ⟨rfl, R⟩⟩, fun q2 => absurd (q2.symm.trans (zk_onShelf hs)) (by decide)⟩
  · rw [show (nI 1 : Int32) = 1 from rfl] at e1 e2
    rw [e1]
    refine ⟨fun _ => ?_, fun q => absurd rfl q⟩
    refine ⟨rfl, zk_bk hX7_firstWrongLetter (bX7_firstWrongLetter_0 ?_)⟩
    refine l_wrong r1 hs hZ g6 g7 g8 Z 0 (by omega) (by omega) fun v hv => ?_
    show pX12_judge _ _ _
    refine ⟨rfl, zk_bk hX12_judge (bX12_judge_0 ?_)⟩
    refine jX12_isShelf ⟨fun _ => jX12_noRow hs ⟨fun _ => ?_, fun q2 => absurd (by rw [e2]; decide) q2⟩, fun q2 => absurd (q2.symm.trans (zk_onShelf hs)) (by decide)⟩
    refine ⟨rfl, zk_bk hX12_wrong (bX12_wrong_0 ?_)⟩
    exact hv _ ⟨rfl, R⟩
end ZK3
