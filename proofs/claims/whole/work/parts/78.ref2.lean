/-! THE LAW read: O, lines; the reference -/
section ZKW
variable {K : Int32 → zk_H → Prop} {m0 h h' : zk_H} {T k op a c : Nat} {t r : List Nat}
theorem zk_dgt_b {c : Nat} : zk_dgt c = true ↔ 48 ≤ c ∧ c ≤ 57 := by
  unfold zk_dgt
  rw [Bool.and_eq_true, decide_eq_true_iff, decide_eq_true_iff]
theorem l_num_11 {r : zk_pI} {d : Nat} (hok : zk_OK zk_D (2 + d) 184 (zk_iP r)) (hk : k < 200) : ∀ (n i v : Nat) (t : List Nat) (h : zk_H), i + n = 4 → v < 10 ^ i → zk_pst m0 T t k op h → (∀ h', zk_pst m0 T (zk_num n v t).2 (k + 1) op h' → h'.1 23 k = nI (18 + (zk_num n v t).1) → (∀ j, j ≠ k → h'.1 23 j = h.1 23 j) → K 1 h') → (zk_X zk_D (zk_lkl lkX12) zk_mt (zk_cxl [(179, zk_iP pX12_sign), (180, zk_iP pX12_is), (181, zk_iP pX12_codes), (182, zk_iP pX12_isDigit), (183, zk_iP pX12_nameOf), (184, zk_iP r), (189, zk_iP (gX12_isE r))]) (some .boolean) (zk_at cdX12_isO) (zk_qi K)) 11 [some (.ref 0), some (.int (nI v)), some (.int (nI i))] [] h := by
  intro n
  induction n with
  | zero =>
    intro i v t h hi hv S H
    have hi4 : i = 4 := by omega
    subst hi4
    refine zk_bk (ghX12_isO hok) (bX12_isO_11 ?_)
    rw [show (18 : Int32) + nI v = nI (18 + v) from nI_add 18 v]
    exact ⟨fun _ => jX12_codes S hk fun h' S' c' e' => ⟨Or.inr rfl, H h' S' c' e'⟩, fun q => absurd (by decide) q⟩
  | succ n ih =>
    intro i v t h hi hv S H
    have hv4 : v < 10000 := by
      have : 10 ^ i ≤ 10 ^ 4 := Nat.pow_le_pow_right (by decide) (by omega)
      omega
    refine zk_bk (ghX12_isO hok) (bX12_isO_11 ?_)
    rw [show (18 : Int32) + nI v = nI (18 + v) from nI_add 18 v, nI_1]
    refine ⟨fun q => absurd q (nI_ge (b := 4) (by omega) (by decide)), fun _ => jX12_isDigit S ?_⟩
    cases t with
    | nil => exact ⟨fun _ => jX12_codes S hk fun h' S' c' e' => ⟨Or.inr rfl, H h' S' c' e'⟩, fun q => absurd rfl q⟩
    | cons c r1 =>
      have e : zk_hdg (c :: r1) = zk_dgt c := rfl
      rw [e]
      cases hc : zk_dgt c
      · have en : zk_num (n + 1) v (c :: r1) = (v, c :: r1) := if_neg (by rw [hc]; decide)
        rw [en] at H
        exact ⟨fun _ => jX12_codes S hk fun h' S' c' e' => ⟨Or.inr rfl, H h' S' c' e'⟩, fun q => absurd rfl q⟩
      · have en : zk_num (n + 1) v (c :: r1) = zk_num n (10 * v + (c - 48)) r1 := if_pos hc
        rw [en] at H
        have hb := zk_dgt_b.mp hc
        refine ⟨fun q => absurd q (by decide), fun _ => ?_⟩
        obtain ⟨⟨s1, s2, s3⟩, ⟨a, ha, sg, ea⟩, ⟨s4, s5⟩, s6, s7, s8⟩ := id S
        rw [List.length_cons] at ha
        have e15 : h.1 15 (h.1 0 25).toNatClampNeg = nI c := by
          rw [ea, nI_clamp (n := a) (by omega), s1 15 (by decide) (by decide)]
          exact sg.1
        rw [e15, show (10 : Int32) * nI v + nI c - 48 = nI (10 * v + (c - 48)) from by
          rw [show (10 : Int32) * nI v = nI (10 * v) from pk_mul 10 v, nI_add, show nI (10 * v + c) - (48 : Int32) = nI (10 * v + c - 48) from nI_sub (b := 48) (by omega), show 10 * v + c - 48 = 10 * v + (c - 48) by omega]]
        refine ⟨by rw [ea]; exact vp_in_nI (by omega) (by decide), ih (i + 1) (10 * v + (c - 48)) r1 _ (by omega) (by rw [Nat.pow_succ]; omega) S.adv fun h' S' c' e' => H h' S' c' fun j hj => ?_⟩
        rw [e' j hj, zk_si_ne (by decide)]
theorem misO_0 {r : zk_pI} {d : Nat} (hok : zk_OK zk_D (2 + d) 184 (zk_iP r)) (op : Nat) (hop : op ≤ 6) (X : Nat → List Nat → zk_Rs) (nest : ∀ (m0 h : zk_H) (T k : Nat) (c : Nat) (r1 : List Nat) (K : Int32 → zk_H → Prop), c < 256 → zk_dgt c = false → zk_nam c = none → zk_pst m0 T (c :: r1) k op h → k + (r1.length + 1) ≤ 120 → (∀ h', zk_pst m0 T (X c r1).2.1 (k + (X c r1).2.2.length) op h' → zk_sg (h'.1 23) k ((X c r1).2.2.map nI) → (∀ j, j < k → h'.1 23 j = h.1 23 j) → K (if (X c r1).1 then 1 else 0) h') → ((¬ (h.1 0 26) = (6 : Int32) → pX12_is [.ref 0, .int (33 : Int32)] (zk_si h 0 26 ((h.1 0 26) + (1 : Int32))) (fun v8 h7 => ((v8 = 0 → pX12_is [.ref 0, .int (45 : Int32)] h7 (fun v10 h9 => ((v10 = 0 → pX12_is [.ref 0, .int (40 : Int32)] h9 (fun v12 h11 => ((v12 = 0 → (((0 : Int32) = 0 ∨ (0 : Int32) = 1) ∧ K (0 : Int32) (zk_si h11 0 26 ((h11.1 0 26) - (1 : Int32))))) ∧ (¬ v12 = 0 → gX12_isE r [.ref 0] h11 (fun v14 h13 => ((v14 = 0 → (((0 : Int32) = 0 ∨ (0 : Int32) = 1) ∧ K (0 : Int32) (zk_si h13 0 26 ((h13.1 0 26) - (1 : Int32))))) ∧ (¬ v14 = 0 → pX12_is [.ref 0, .int (41 : Int32)] h13 (fun v16 h15 => ((v16 = 0 → (((0 : Int32) = 0 ∨ (0 : Int32) = 1) ∧ K (0 : Int32) (zk_si h15 0 26 ((h15.1 0 26) - (1 : Int32))))) ∧ (¬ v16 = 0 → (((1 : Int32) = 0 ∨ (1 : Int32) = 1) ∧ K (1 : Int32) (zk_si h15 0 26 ((h15.1 0 26) - (1 : Int32)))))))))))))) ∧ (¬ v10 = 0 → r [.ref 0] h9 (fun v18 h17 => ((v18 = 0 → (((0 : Int32) = 0 ∨ (0 : Int32) = 1) ∧ K (0 : Int32) (zk_si h17 0 26 ((h17.1 0 26) - (1 : Int32))))) ∧ (¬ v18 = 0 → pX12_codes [.ref 0, .int (17 : Int32)] h17 (fun v20 h19 => ((v20 = 0 → (((0 : Int32) = 0 ∨ (0 : Int32) = 1) ∧ K (0 : Int32) (zk_si h19 0 26 ((h19.1 0 26) - (1 : Int32))))) ∧ (¬ v20 = 0 → (((1 : Int32) = 0 ∨ (1 : Int32) = 1) ∧ K (1 : Int32) (zk_si h19 0 26 ((h19.1 0 26) - (1 : Int32)))))))))))))) ∧ (¬ v8 = 0 → r [.ref 0] h7 (fun v22 h21 => ((v22 = 0 → (((0 : Int32) = 0 ∨ (0 : Int32) = 1) ∧ K (0 : Int32) (zk_si h21 0 26 ((h21.1 0 26) - (1 : Int32))))) ∧ (¬ v22 = 0 → pX12_codes [.ref 0, .int (16 : Int32)] h21 (fun v24 h23 => ((v24 = 0 → (((0 : Int32) = 0 ∨ (0 : Int32) = 1) ∧ K (0 : Int32) (zk_si h23 0 26 ((h23.1 0 26) - (1 : Int32))))) ∧ (¬ v24 = 0 → (((1 : Int32) = 0 ∨ (1 : Int32) = 1) ∧ K (1 : Int32) (zk_si h23 0 26 ((h23.1 0 26) - (1 : Int32)))))))))))))) ∧ ((h.1 0 26) = (6 : Int32) → (((0 : Int32) = 0 ∨ (0 : Int32) = 1) ∧ K (0 : Int32) h)))) (hend : ∀ (m0 h : zk_H) (T k : Nat) (K : Int32 → zk_H → Prop), zk_pst m0 T [] k op h → (∀ h', zk_pst m0 T [] k op h' → h'.1 23 = h.1 23 → K 0 h') → ((¬ (h.1 0 26) = (6 : Int32) → pX12_is [.ref 0, .int (33 : Int32)] (zk_si h 0 26 ((h.1 0 26) + (1 : Int32))) (fun v8 h7 => ((v8 = 0 → pX12_is [.ref 0, .int (45 : Int32)] h7 (fun v10 h9 => ((v10 = 0 → pX12_is [.ref 0, .int (40 : Int32)] h9 (fun v12 h11 => ((v12 = 0 → (((0 : Int32) = 0 ∨ (0 : Int32) = 1) ∧ K (0 : Int32) (zk_si h11 0 26 ((h11.1 0 26) - (1 : Int32))))) ∧ (¬ v12 = 0 → gX12_isE r [.ref 0] h11 (fun v14 h13 => ((v14 = 0 → (((0 : Int32) = 0 ∨ (0 : Int32) = 1) ∧ K (0 : Int32) (zk_si h13 0 26 ((h13.1 0 26) - (1 : Int32))))) ∧ (¬ v14 = 0 → pX12_is [.ref 0, .int (41 : Int32)] h13 (fun v16 h15 => ((v16 = 0 → (((0 : Int32) = 0 ∨ (0 : Int32) = 1) ∧ K (0 : Int32) (zk_si h15 0 26 ((h15.1 0 26) - (1 : Int32))))) ∧ (¬ v16 = 0 → (((1 : Int32) = 0 ∨ (1 : Int32) = 1) ∧ K (1 : Int32) (zk_si h15 0 26 ((h15.1 0 26) - (1 : Int32)))))))))))))) ∧ (¬ v10 = 0 → r [.ref 0] h9 (fun v18 h17 => ((v18 = 0 → (((0 : Int32) = 0 ∨ (0 : Int32) = 1) ∧ K (0 : Int32) (zk_si h17 0 26 ((h17.1 0 26) - (1 : Int32))))) ∧ (¬ v18 = 0 → pX12_codes [.ref 0, .int (17 : Int32)] h17 (fun v20 h19 => ((v20 = 0 → (((0 : Int32) = 0 ∨ (0 : Int32) = 1) ∧ K (0 : Int32) (zk_si h19 0 26 ((h19.1 0 26) - (1 : Int32))))) ∧ (¬ v20 = 0 → (((1 : Int32) = 0 ∨ (1 : Int32) = 1) ∧ K (1 : Int32) (zk_si h19 0 26 ((h19.1 0 26) - (1 : Int32)))))))))))))) ∧ (¬ v8 = 0 → r [.ref 0] h7 (fun v22 h21 => ((v22 = 0 → (((0 : Int32) = 0 ∨ (0 : Int32) = 1) ∧ K (0 : Int32) (zk_si h21 0 26 ((h21.1 0 26) - (1 : Int32))))) ∧ (¬ v22 = 0 → pX12_codes [.ref 0, .int (16 : Int32)] h21 (fun v24 h23 => ((v24 = 0 → (((0 : Int32) = 0 ∨ (0 : Int32) = 1) ∧ K (0 : Int32) (zk_si h23 0 26 ((h23.1 0 26) - (1 : Int32))))) ∧ (¬ v24 = 0 → (((1 : Int32) = 0 ∨ (1 : Int32) = 1) ∧ K (1 : Int32) (zk_si h23 0 26 ((h23.1 0 26) - (1 : Int32)))))))))))))) ∧ ((h.1 0 26) = (6 : Int32) → (((0 : Int32) = 0 ∨ (0 : Int32) = 1) ∧ K (0 : Int32) h)))) : zk_mE (gX12_isO r) op (zk_xob X) := by
  intro m0 h T k t K S hk H
  refine ⟨rfl, zk_bk (ghX12_isO hok) (bX12_isO_0 ?_)⟩
  refine jX12_isDigit S ?_
  have s8 := S.2.2.2.2.2
  cases t with
  | nil =>
    refine ⟨fun _ => jX12_sign S (jX12_nameOf_0 ⟨fun _ => ?_, fun q => absurd (by decide) q⟩), fun q => absurd rfl q⟩
    exact hend m0 h T k K S fun h' S' e' => H h' S' trivial fun j _ => by rw [e']
  | cons c r1 =>
    have hc := s8 c List.mem_cons_self
    rw [List.length_cons] at hk
    have e : zk_hdg (c :: r1) = zk_dgt c := rfl
    rw [e]
    cases hd : zk_dgt c
    · refine ⟨fun _ => jX12_sign S (jX12_nameOf hc ?_), fun q => absurd rfl q⟩
      cases hn : zk_nam c with
      | none =>
        refine ⟨fun _ => ?_, fun q => absurd (by decide) q⟩
        rw [zk_xob_n hd hn] at H
        exact nest m0 h T k c r1 K hc hd hn S hk H
      | some kk =>
        have := zk_nam_k hn
        rw [zk_xob_k hd hn] at H
        refine ⟨fun q => absurd q (nI_pos (by omega)), fun _ => jX12_codes S.adv (by omega) fun h' S' c' e' => ⟨Or.inr rfl, H h' S' ⟨c', trivial⟩ fun j hj => ?_⟩⟩
        rw [e' j (by omega), zk_si_ne (by decide)]
    · rw [zk_xob_d hd] at H
      refine ⟨fun q => absurd q (by decide), fun _ => ?_⟩
      exact l_num_11 hok (k := k) (by omega) 4 0 0 (c :: r1) h (by omega) (by decide) S fun h' S' c' e' => H h' S' ⟨c', trivial⟩ fun j hj => e' j (by omega)
theorem misO_z {r : zk_pI} {d : Nat} (hok : zk_OK zk_D (2 + d) 184 (zk_iP r)) : zk_mE (gX12_isO r) 6 (zk_xO 0) := by
  refine misO_0 hok 6 (Nat.le_refl _) _ (fun m0 h T k c r1 K hc hd hn S hk H => ?_) (fun m0 h T k K S H => ?_)
  · have e6 := S.2.2.1.1
    exact ⟨fun q => absurd e6 q, fun _ => ⟨Or.inl rfl, H h S trivial fun _ _ => rfl⟩⟩
  · have e6 := S.2.2.1.1
    exact ⟨fun q => absurd e6 q, fun _ => ⟨Or.inl rfl, H h S rfl⟩⟩
theorem misO_s {r : zk_pI} {d e op : Nat} (hok : zk_OK zk_D (2 + d) 184 (zk_iP r)) (hop : op < 6) (hr : zk_mE r (op + 1) (zk_xO e)) : zk_mE (gX12_isO r) op (zk_xO (e + 1)) := by
  have g0 := zk_xO_g e
  have g1 := zk_chn_g zk_o5k g0
  have g2 := zk_chn_g zk_o4k g1
  have g3 := zk_two_g zk_o3k g2
  have g4 := zk_chn_g zk_o2k g3
  have hE : zk_mE (gX12_isE r) (op + 1) (zk_xE (zk_xO e)) := misE hok g4 (misA hok g3 (misB hok g2 (misS hok g1 (misP hok g0 hr))))
  have gE := zk_xE_g g0
  refine misO_0 hok op (by omega) _ (fun m0 h T k c r1 K hc hd hn S hk H => ?_) (fun m0 h T k K S H => ?_)
  · have e6 := S.2.2.1.1
    rw [e6, nI_1]
    have hop2 : nI (op + 1) - (1 : Int32) = nI op := nI_pred op
    refine ⟨fun _ => ?_, fun q => absurd q (nI_neq (b := 6) (by omega) (by omega) (by decide))⟩
    have S1 : zk_pst m0 T (c :: r1) k (op + 1) (zk_si h 0 26 (nI (op + 1))) := S.opn
    have e23 : (zk_si h 0 26 (nI (op + 1))).1 23 = h.1 23 := zk_si_ne (by decide)
    -- what closes it
    have cls : ∀ (h2 : zk_H) (q : zk_Rs) (b : Int32), zk_nst (zk_xO e) c r1 = q → b = (if q.1 then 1 else 0) → zk_pst m0 T q.2.1 (k + q.2.2.length) (op + 1) h2 → zk_sg (h2.1 23) k (q.2.2.map nI) → (∀ j, j < k → h2.1 23 j = h.1 23 j) → K b (zk_si h2 0 26 (h2.1 0 26 - 1)) := by
      intro h2 q b eq eb S2 sg2 e2
      subst eq
      subst eb
      rw [S2.2.2.1.1, hop2]
      exact H _ S2.opn (by rw [zk_si_ne (by decide)]; exact sg2) fun j hj => by rw [zk_si_ne (by decide)]; exact e2 j hj
    -- ! and - ahead of an O
    have un : ∀ (u : Nat) (h1 : zk_H), (u = 16 ∨ u = 17) → zk_nst (zk_xO e) c r1 = zk_sfx u (zk_xO e r1) → zk_pst m0 T r1 k (op + 1) h1 → h1.1 23 = h.1 23 → r [.ref 0] h1 (fun v22 h21 => ((v22 = 0 → (((0 : Int32) = 0 ∨ (0 : Int32) = 1) ∧ K (0 : Int32) (zk_si h21 0 26 ((h21.1 0 26) - (1 : Int32))))) ∧ (¬ v22 = 0 → pX12_codes [.ref 0, .int (nI u)] h21 (fun v24 h23 => ((v24 = 0 → (((0 : Int32) = 0 ∨ (0 : Int32) = 1) ∧ K (0 : Int32) (zk_si h23 0 26 ((h23.1 0 26) - (1 : Int32))))) ∧ (¬ v24 = 0 → (((1 : Int32) = 0 ∨ (1 : Int32) = 1) ∧ K (1 : Int32) (zk_si h23 0 26 ((h23.1 0 26) - (1 : Int32)))))))))) := by
      intro u h1 hu eq S1 e1
      obtain ⟨k1, k2⟩ := g0 r1
      refine hr m0 h1 T k r1 _ S1 (by omega) fun h3 S3 sg3 e3 => ?_
      have e3' : ∀ j, j < k → h3.1 23 j = h.1 23 j := fun j hj => by rw [e3 j hj, e1]
      cases hq : (zk_xO e r1).1
      · have es : zk_sfx u (zk_xO e r1) = zk_xO e r1 := if_neg (by rw [hq]; decide)
        exact ⟨fun _ => ⟨Or.inl rfl, cls h3 _ 0 (eq.trans es) (by rw [hq]; rfl) S3 sg3 e3'⟩, fun z => absurd rfl z⟩
      · have es : zk_sfx u (zk_xO e r1) = (true, (zk_xO e r1).2.1, (zk_xO e r1).2.2 ++ [u]) := if_pos hq
        refine ⟨fun z => absurd z (by decide), fun _ => jX12_codes S3 (by omega) fun h5 S5 c5 e5 => ⟨fun z => absurd z (by decide), fun _ => ⟨Or.inr rfl, cls h5 _ 1 (eq.trans es) rfl ?_ ?_ fun j hj => (e5 j (by omega)).trans (e3' j hj)⟩⟩⟩
        · dsimp only
          rw [List.length_append, ← Nat.add_assoc]
          exact S5
        · exact zk_sg_2 sg3 ⟨c5, trivial⟩ fun j hj => e5 j (by omega)
    refine jX12_is (d := 33) (by decide) S1 (fun r2 et h1 S2 e2 => ⟨fun z => absurd z (by decide), fun _ => ?_⟩) (fun n1 => ⟨fun _ => jX12_is (d := 45) (by decide) S1 (fun r2 et h1 S2 e2 => ⟨fun z => absurd z (by decide), fun _ => ?_⟩) (fun n2 => ⟨fun _ => jX12_is (d := 40) (by decide) S1 (fun r2 et h1 S2 e2 => ⟨fun z => absurd z (by decide), fun _ => ?_⟩) (fun n3 => ⟨fun _ => ⟨Or.inl rfl, ?_⟩, fun z => absurd rfl z⟩), fun z => absurd rfl z⟩), fun z => absurd rfl z⟩)
    · cases et
      exact un 16 h1 (Or.inl rfl) rfl S2 (e2.trans e23)
    · cases et
      exact un 17 h1 (Or.inr rfl) rfl S2 (e2.trans e23)
    · cases et
      obtain ⟨k1, k2⟩ := gE r1
      refine hE m0 h1 T k r1 _ S2 (by omega) fun h3 S3 sg3 e3 => ?_
      have e3' : ∀ j, j < k → h3.1 23 j = h.1 23 j := fun j hj => by rw [e3 j hj, e2, e23]
      have eq : zk_nst (zk_xO e) 40 r1 = zk_par (zk_xE (zk_xO e) r1) := rfl
      cases hq : (zk_xE (zk_xO e) r1).1
      · have es : zk_par (zk_xE (zk_xO e) r1) = zk_xE (zk_xO e) r1 := if_neg (by rw [hq]; decide)
        exact ⟨fun _ => ⟨Or.inl rfl, cls h3 _ 0 (eq.trans es) (by rw [hq]; rfl) S3 sg3 e3'⟩, fun z => absurd rfl z⟩
      · refine ⟨fun z => absurd z (by decide), fun _ => jX12_is (d := 41) (by decide) S3 (fun r3 et3 h5 S5 e5 => ⟨fun z => absurd z (by decide), fun _ => ⟨Or.inr rfl, cls h5 (true, r3, (zk_xE (zk_xO e) r1).2.2) 1 ?_ rfl S5 (by rw [e5]; exact sg3) (fun j hj => by rw [e5]; exact e3' j hj)⟩⟩) (fun n4 => ⟨fun _ => ⟨Or.inl rfl, cls h3 (false, (zk_xE (zk_xO e) r1).2.1, (zk_xE (zk_xO e) r1).2.2) 0 ?_ rfl S3 sg3 e3'⟩, fun z => absurd rfl z⟩)⟩
        · rw [eq]
          unfold zk_par
          rw [if_pos hq, et3]
          exact if_pos rfl
        · rw [eq]
          unfold zk_par
          rw [if_pos hq]
          split
          next z => rw [z]
          next b s z => rw [if_neg fun u => n4 s (by rw [z, u]), z]
    · refine cls _ (false, c :: r1, []) 0 ?_ rfl S1 trivial fun j _ => by rw [e23]
      unfold zk_nst
      rw [if_neg fun z => n1 r1 (by rw [z]), if_neg fun z => n2 r1 (by rw [z]), if_neg fun z => n3 r1 (by rw [z])]
  · have e6 := S.2.2.1.1
    rw [e6, nI_1]
    have hop2 : nI (op + 1) - (1 : Int32) = nI op := nI_pred op
    refine ⟨fun _ => ?_, fun q => absurd q (nI_neq (b := 6) (by omega) (by omega) (by decide))⟩
    have S1 : zk_pst m0 T [] k (op + 1) (zk_si h 0 26 (nI (op + 1))) := S.opn
    refine jX12_is (d := 33) (by decide) S1 (fun r2 et => by cases et) (fun n1 => ⟨fun _ => jX12_is (d := 45) (by decide) S1 (fun r2 et => by cases et) (fun n2 => ⟨fun _ => jX12_is (d := 40) (by decide) S1 (fun r2 et => by cases et) (fun n3 => ⟨fun _ => ⟨Or.inl rfl, ?_⟩, fun z => absurd rfl z⟩), fun z => absurd rfl z⟩), fun z => absurd rfl z⟩)
    rw [S1.2.2.1.1, hop2]
    exact H _ S1.opn (by rw [zk_si_ne (by decide), zk_si_ne (by decide)])
theorem misO : ∀ (d n op : Nat), d < n → op + d = 6 → zk_mE (pX12_isO n) op (zk_xO d)
  | d, 0, _, h, _ => absurd h (Nat.not_lt_zero _)
  | 0, n + 1, op, _, ho => by
    have : op = 6 := by omega
    subst this
    exact misO_z (okX12_isO n)
  | d + 1, n + 1, op, h, ho => misO_s (okX12_isO n) (by omega) (misO d n (op + 1) (by omega) (by omega))
theorem misE_9 : zk_mE (pX12_isE 9) 0 (zk_xE (zk_xO 6)) := by
  have g0 := zk_xO_g 6
  have g1 := zk_chn_g zk_o5k g0
  have g2 := zk_chn_g zk_o4k g1
  have g3 := zk_two_g zk_o3k g2
  have g4 := zk_chn_g zk_o2k g3
  have hok := okX12_isO 9
  exact misE hok g4 (misA hok g3 (misB hok g2 (misS hok g1 (misP hok g0 (misO 6 9 0 (by decide) (by decide))))))
end ZKW
