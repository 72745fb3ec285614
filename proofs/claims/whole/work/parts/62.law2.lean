/-! THE LAW worked out: the class' side -/
section ZKW
variable {K : Int32 → zk_H → Prop} {h : zk_H} {x y z : Int32}
theorem jX12_both {c : Nat} (h6 : 6 ≤ c) (h15 : c ≤ 15) (H : K (zk_bi c x y) h) : pX12_both [.int (nI c), .int x, .int y] h K := by
  have hh : c = 6 ∨ c = 7 ∨ c = 8 ∨ c = 9 ∨ c = 10 ∨ c = 11 ∨ c = 12 ∨ c = 13 ∨ c = 14 ∨ c = 15 := by omega
  refine ⟨rfl, zk_bk hX12_both (bX12_both_0 ?_)⟩
  rcases hh with rfl | rfl | rfl | rfl | rfl | rfl | rfl | rfl | rfl | rfl
  all_goals (repeat (refine ⟨fun q => absurd q (by decide), fun _ => ?_⟩))
  all_goals (try (refine ⟨fun _ => ?_, fun q => absurd rfl q⟩))
  all_goals (repeat' (first | refine And.intro ?_ ?_ | intro _))
  all_goals (first | assumption | contradiction | (simp [zk_bi, *] at H; exact H))
theorem jX3_worked {c : Nat} (h6 : 6 ≤ c) (h17 : c ≤ 17) (H : K (if 16 ≤ c then zk_un c y else zk_bi c x y) h) : pX3_worked [.ref 28, .int (nI (zk_sgn c)), .int x, .int y] h K := by
  have hh : c = 6 ∨ c = 7 ∨ c = 8 ∨ c = 9 ∨ c = 10 ∨ c = 11 ∨ c = 12 ∨ c = 13 ∨ c = 14 ∨ c = 15 ∨ c = 16 ∨ c = 17 := by omega
  refine ⟨rfl, zk_bk hX3_worked (bX3_worked_0 ?_)⟩
  rcases hh with rfl | rfl | rfl | rfl | rfl | rfl | rfl | rfl | rfl | rfl | rfl | rfl
  all_goals (repeat (refine ⟨fun q => absurd q (by decide), fun _ => ?_⟩))
  all_goals (try (refine ⟨fun _ => ?_, fun q => absurd rfl q⟩))
  all_goals (repeat' (first | refine And.intro ?_ ?_ | intro _))
  all_goals (first | assumption | contradiction | (simp [zk_bi, zk_un, *] at H; exact H))
theorem jX3_operandsOf {c : Nat} (h6 : 6 ≤ c) (h17 : c ≤ 17) (H : K (if 16 ≤ c then 1 else 2) h) : pX3_operandsOf [.ref 28, .int (zk_cs c)] h K := by
  have hh : c = 6 ∨ c = 7 ∨ c = 8 ∨ c = 9 ∨ c = 10 ∨ c = 11 ∨ c = 12 ∨ c = 13 ∨ c = 14 ∨ c = 15 ∨ c = 16 ∨ c = 17 := by omega
  refine ⟨rfl, zk_bk hX3_operandsOf (bX3_operandsOf_0 ?_)⟩
  rcases hh with rfl | rfl | rfl | rfl | rfl | rfl | rfl | rfl | rfl | rfl | rfl | rfl
  all_goals (first | exact ⟨fun q => absurd q (by decide), fun _ => ⟨fun _ => H, fun q => absurd q (by decide)⟩⟩ | exact ⟨fun _ => H, fun q => absurd (by decide) q⟩ | exact ⟨fun q => absurd q (by decide), fun _ => ⟨fun q => absurd (by decide) q, fun _ => H⟩⟩)
theorem zk_c10 (c : Nat) : nI (10000 + c) - (10000 : Int32) = nI c := by
  have := nI_sub (a := 10000 + c) (b := 10000) (by omega)
  rw [show 10000 + c - 10000 = c by omega] at this
  exact this
theorem zk_c20 (c : Nat) : nI (20000 + c) - (20000 : Int32) = nI c := by
  have := nI_sub (a := 20000 + c) (b := 20000) (by omega)
  rw [show 20000 + c - 20000 = c by omega] at this
  exact this
theorem zk_m0 {a : Nat} (ha : a < 2 ^ 31) : (if (0 : Int32) < nI a then nI a else 0) = nI a := by
  cases a with
  | zero => rfl
  | succ a => rw [if_pos]; exact (nI_ltI (a := 0) (by decide) ha).mpr (by omega)
theorem l_val_E {c0 : zk_H} {S : Nat} (hS : S ≤ 121) (e1 : c0.1 28 1 = nI S) : ∀ (l : List Nat) (n e p : Nat) (s : Nat → Int32) (h : zk_H), zk_wf l n e → n + l.length ≤ 121 → p + l.length ≤ S → zk_sg (c0.1 29) p (l.map zk_cs) → zk_ex [30] c0 h → (∀ k, k < n → h.1 30 k = s k) → (∀ h', zk_ex [30] c0 h' → (∀ k, k < e → h'.1 30 k = (zk_run (c0.1 32) l (s, n)).1 k) → (zk_X zk_C (zk_lkl lkX3) zk_mt (zk_cxl [(23, zk_iP pX3_operandsOf), (24, zk_iP pX3_worked)]) (some .int) (zk_at cdX3_valueFor) (zk_qi K)) 7 [some (.ref 28), some (.ref 32), some (.int (nI e)), some (.int 0), some (.int (nI (p + l.length))), none, none] [] h') → (zk_X zk_C (zk_lkl lkX3) zk_mt (zk_cxl [(23, zk_iP pX3_operandsOf), (24, zk_iP pX3_worked)]) (some .int) (zk_at cdX3_valueFor) (zk_qi K)) 7 [some (.ref 28), some (.ref 32), some (.int (nI n)), some (.int 0), some (.int (nI p)), none, none] [] h := by
  intro l
  induction l with
  | nil =>
    intro n e p s h wf _ _ _ he hs next
    have hne : n = e := wf
    subst hne
    exact next h he hs
  | cons c r ih =>
    intro n e p s h wf hn hp sg he hs next
    obtain ⟨w1, w2⟩ := wf
    rw [List.length_cons] at hn hp
    obtain ⟨sg1, sg2⟩ := sg
    obtain ⟨v, ev, hv, ne1, ne2⟩ := zk_cs_v w1
    have go : ∀ (n' : Nat) (s' : Nat → Int32) (h' : zk_H) (F G : Option Value), zk_nl F = true → zk_nl G = true → zk_wf r n' e → n' + r.length ≤ 121 → zk_ex [30] c0 h' → (∀ k, k < n' → h'.1 30 k = s' k) → zk_stp (c0.1 32) c (s, n) = (s', n') → (zk_X zk_C (zk_lkl lkX3) zk_mt (zk_cxl [(23, zk_iP pX3_operandsOf), (24, zk_iP pX3_worked)]) (some .int) (zk_at cdX3_valueFor) (zk_qi K)) 7 [some (.ref 28), some (.ref 32), some (.int (nI n')), some (.int 0), some (.int (nI (p + 1))), F, G] [] h' := by
      intro n' s' h' F G hF hG wf' hn' he' hs' er
      refine zk_fg hX3_valueFor ?_ (ih n' e (p + 1) s' h' wf' hn' (by omega) sg2 he' hs' fun h2 he2 hs2 => ?_)
      · exact ⟨rfl, rfl, rfl, rfl, rfl, hF, hG, trivial⟩
      · rw [show p + 1 + r.length = p + (c :: r).length by simp; omega]
        refine next h2 he2 fun k hk => ?_
        rw [hs2 k hk]
        show _ = (zk_run (c0.1 32) r (zk_stp (c0.1 32) c (s, n))).1 k
        rw [er]
    refine zk_bk hX3_valueFor (bX3_valueFor_7 ?_)
    rw [he.1 28 (by decide), e1, he.1 29 (by decide), nI_clamp (n := p) (by omega), sg1]
    refine ⟨fun q => absurd q (nI_ge (by omega) (by omega)), fun _ => ⟨vp_in_nI (by omega) (by decide), fun _ => ⟨fun _ => ⟨fun _ => ?_, fun q => absurd (ev.symm.trans q) (nI_neq (b := 20063) ne2 (by omega) (by decide))⟩, fun q => absurd (ev.symm.trans q) (nI_neq (b := 20059) ne1 (by omega) (by decide))⟩, fun q => absurd rfl q⟩⟩
    by_cases a : c ≤ 5
    · have ec : zk_cs c = nI (10000 + c) := by unfold zk_cs; rw [if_pos a]
      rw [if_pos (Or.inl a)] at w2
      rw [ec, zk_c10, nI_clamp (n := c) (by omega), nI_clamp (n := n) (by omega), nI_1, nI_1]
      refine ⟨fun q => absurd q (nI_ge (b := 20000) (by omega) (by decide)), fun _ => ⟨fun _ => ⟨vp_in_nI (by omega) (by decide), vp_in_nI (by omega) (by decide), ?_⟩, fun q => absurd ((nI_leI (a := 10000) (by decide) (by omega)).mpr (by omega)) q⟩⟩
      refine go (n + 1) (zk_up s n (c0.1 32 c)) _ _ _ rfl rfl w2 (by omega) (he.si (by simp)) (fun k hk => ?_) (by unfold zk_stp; rw [if_pos a])
      rw [zk_si_at, he.1 32 (by decide)]
      unfold zk_up
      by_cases e : k = n
      · rw [if_pos e, if_pos e]
      · rw [if_neg e, if_neg e]; exact hs k (by omega)
    · by_cases b : 18 ≤ c
      · have ec : zk_cs c = nI (c - 18) := by unfold zk_cs; rw [if_neg a, if_neg (by omega)]
        rw [if_pos (Or.inr b)] at w2
        rw [ec, nI_clamp (n := n) (by omega), nI_1, nI_1]
        refine ⟨fun q => absurd q (nI_ge (b := 20000) (by omega) (by decide)), fun _ => ⟨fun q => absurd q (nI_ge (b := 10000) (by omega) (by decide)), fun _ => ⟨vp_in_nI (by omega) (by decide), ?_⟩⟩⟩
        refine go (n + 1) (zk_up s n (nI (c - 18))) _ _ _ rfl rfl w2 (by omega) (he.si (by simp)) (fun k hk => ?_) (by unfold zk_stp; rw [if_neg a, if_pos b])
        rw [zk_si_at]
        unfold zk_up
        by_cases e : k = n
        · rw [if_pos e, if_pos e]
        · rw [if_neg e, if_neg e]; exact hs k (by omega)
      · have ec : zk_cs c = nI (20000 + zk_sgn c) := by unfold zk_cs; rw [if_neg a, if_pos (by omega)]
        rw [if_neg (by omega)] at w2
        refine ⟨fun _ => jX3_operandsOf (by omega) (by omega) ?_, fun q => absurd ?_ q⟩
        · rw [ec, zk_c20]
          by_cases d : 16 ≤ c
          · rw [if_pos d] at w2
            rw [if_pos d, nI_n1 w2.1, zk_m0 (by omega), if_neg (show ¬ nI (n - 1) < nI (n - 1) from fun q => absurd ((nI_ltI (by omega) (by omega)).mp q) (by omega)), nI_clamp (n := n - 1) (by omega), nI_1, nI_1, show n - 1 + 1 = n by omega]
            refine ⟨vp_in_nI (by omega) (by decide), vp_in_nI (by omega) (by decide), jX3_worked (by omega) (by omega) ⟨vp_in_nI (by omega) (by decide), ?_⟩⟩
            rw [if_pos d]
            refine go n (zk_up s (n - 1) (zk_un c (s (n - 1)))) _ _ _ rfl rfl w2.2 (by omega) (he.si (by simp)) (fun k hk => ?_) (by unfold zk_stp; rw [if_neg a, if_neg b, if_pos d])
            rw [zk_si_at, hs (n - 1) (by omega)]
            unfold zk_up
            by_cases e : k = n - 1
            · rw [if_pos e, if_pos e]
            · rw [if_neg e, if_neg e]; exact hs k (by omega)
          · rw [if_neg d] at w2
            rw [if_neg d, nI_n1 (a := n) (by omega), show nI n - (2 : Int32) = nI (n - 2) from nI_sub (b := 2) w2.1, zk_m0 (by omega), if_pos (show nI (n - 2) < nI (n - 1) from nI_lt (by omega) (by omega)), nI_clamp (n := n - 1) (by omega), nI_clamp (n := n - 2) (by omega), nI_1, nI_1, show n - 2 + 1 = n - 1 by omega]
            refine ⟨vp_in_nI (by omega) (by decide), vp_in_nI (by omega) (by decide), jX3_worked (by omega) (by omega) ⟨vp_in_nI (by omega) (by decide), ?_⟩⟩
            rw [if_neg d]
            refine go (n - 1) (zk_up s (n - 2) (zk_bi c (s (n - 2)) (s (n - 1)))) _ _ _ rfl rfl w2.2 (by omega) (he.si (by simp)) (fun k hk => ?_) (by unfold zk_stp; rw [if_neg a, if_neg b, if_neg d])
            rw [zk_si_at, hs (n - 1) (by omega), hs (n - 2) (by omega)]
            unfold zk_up
            by_cases e : k = n - 2
            · rw [if_pos e, if_pos e]
            · rw [if_neg e, if_neg e]; exact hs k (by omega)
        · rw [ec]
          have : ∀ d, d < 18 → 20000 + zk_sgn d < 2 ^ 31 := by decide +kernel
          exact (nI_leI (a := 20000) (by decide) (this c (by omega))).mpr (by omega)
theorem l_val_S {c0 : zk_H} {S : Nat} (hS : S ≤ 121) (e1 : c0.1 28 1 = nI S) : ∀ (l : List Nat) (p : Nat) (h : zk_H), (∀ c ∈ l, c < 10018) → p + l.length < S → zk_sg (c0.1 29) p (l.map zk_cs) → c0.1 29 (p + l.length) = 20059 → zk_ex [30] c0 h → (zk_X zk_C (zk_lkl lkX3) zk_mt (zk_cxl [(23, zk_iP pX3_operandsOf), (24, zk_iP pX3_worked)]) (some .int) (zk_at cdX3_valueFor) (zk_qi K)) 7 [some (.ref 28), some (.ref 32), some (.int x), some (.int 0), some (.int (nI (p + l.length + 1))), none, none] [] h → (zk_X zk_C (zk_lkl lkX3) zk_mt (zk_cxl [(23, zk_iP pX3_operandsOf), (24, zk_iP pX3_worked)]) (some .int) (zk_at cdX3_valueFor) (zk_qi K)) 7 [some (.ref 28), some (.ref 32), some (.int x), some (.int 1), some (.int (nI p)), none, none] [] h := by
  intro l
  induction l with
  | nil =>
    intro p h _ hp _ ee he next
    rw [List.length_nil, Nat.add_zero] at hp ee next
    refine zk_bk hX3_valueFor (bX3_valueFor_7 ?_)
    rw [he.1 28 (by decide), e1, he.1 29 (by decide), nI_clamp (n := p) (by omega), ee, nI_1]
    refine ⟨fun q => absurd q (nI_ge (by omega) (by omega)), fun _ => ⟨vp_in_nI (by omega) (by decide), fun q => absurd q (by decide), fun _ => ⟨fun _ => zk_fg hX3_valueFor ?_ next, fun q => absurd rfl q⟩⟩⟩
    exact ⟨rfl, rfl, rfl, rfl, rfl, rfl, rfl, trivial⟩
  | cons c r ih =>
    intro p h hc hp sg ee he next
    rw [List.length_cons] at hp ee next
    obtain ⟨sg1, sg2⟩ := sg
    obtain ⟨v, ev, hv, ne1, ne2⟩ := zk_cs_v (hc c List.mem_cons_self)
    refine zk_bk hX3_valueFor (bX3_valueFor_7 ?_)
    rw [he.1 28 (by decide), e1, he.1 29 (by decide), nI_clamp (n := p) (by omega), sg1, nI_1]
    refine ⟨fun q => absurd q (nI_ge (by omega) (by omega)), fun _ => ⟨vp_in_nI (by omega) (by decide), fun q => absurd q (by decide), fun _ => ⟨fun q => absurd (ev.symm.trans q) (nI_neq (b := 20059) ne1 (by omega) (by decide)), fun _ => zk_fg hX3_valueFor ?_ (ih (p + 1) h (fun d hd => hc d (List.mem_cons_of_mem _ hd)) (by omega) sg2 ?_ he ?_)⟩⟩⟩
    · exact ⟨rfl, rfl, rfl, rfl, rfl, rfl, rfl, trivial⟩
    · rw [show p + 1 + r.length = p + (r.length + 1) by omega]; exact ee
    · rw [show p + 1 + r.length + 1 = p + (r.length + 1) + 1 by omega]; exact next
theorem l_val_L {c0 : zk_H} {S : Nat} (hS : S ≤ 121) (e1 : c0.1 28 1 = nI S) : ∀ (L : zk_lns) (p : Nat) (h : zk_H), zk_okL L → p + (zk_flat L).length = S → zk_sg (c0.1 29) p (zk_flat L) → zk_ex [30] c0 h → (∀ h', zk_ex [30] c0 h' → K (zk_vL (c0.1 32) L) h') → (zk_X zk_C (zk_lkl lkX3) zk_mt (zk_cxl [(23, zk_iP pX3_operandsOf), (24, zk_iP pX3_worked)]) (some .int) (zk_at cdX3_valueFor) (zk_qi K)) 7 [some (.ref 28), some (.ref 32), some (.int 0), some (.int 0), some (.int (nI p)), none, none] [] h := by
  intro L
  induction L with
  | nil =>
    intro p h _ hp _ he next
    have hpS : p = S := hp
    subst hpS
    refine zk_bk hX3_valueFor (bX3_valueFor_7 ?_)
    rw [he.1 28 (by decide), e1]
    exact ⟨fun _ => next h he, fun q => absurd ((nI_leI (by omega) (by omega)).mpr (Nat.le_refl _)) q⟩
  | cons q r ih =>
    obtain ⟨g, b⟩ := q
    intro p h ok hp sg he next
    obtain ⟨og, ob⟩ := ok _ List.mem_cons_self
    have lb := zk_wf_len ob
    -- the line's body, up to its end
    have body : ∀ (p' : Nat) (h' : zk_H), zk_ex [30] c0 h' → p' + b.length < S → zk_sg (c0.1 29) p' (b.map zk_cs) → c0.1 29 (p' + b.length) = 20059 → (∀ h2, zk_ex [30] c0 h2 → K (zk_vE (c0.1 32) b) h2) → (zk_X zk_C (zk_lkl lkX3) zk_mt (zk_cxl [(23, zk_iP pX3_operandsOf), (24, zk_iP pX3_worked)]) (some .int) (zk_at cdX3_valueFor) (zk_qi K)) 7 [some (.ref 28), some (.ref 32), some (.int 0), some (.int 0), some (.int (nI p')), none, none] [] h' := by
      intro p' h' he' hp' sg' ee' fin
      refine l_val_E hS e1 b 0 1 p' (fun _ => 0) h' ob (by omega) (by omega) sg' he' (fun k hk => absurd hk (Nat.not_lt_zero _)) fun h2 he2 hs2 => ?_
      refine zk_bk hX3_valueFor (bX3_valueFor_7 ?_)
      rw [he2.1 28 (by decide), e1, he2.1 29 (by decide), nI_clamp (n := p' + b.length) (by omega), ee']
      refine ⟨fun q => absurd q (nI_ge (by omega) (by omega)), fun _ => ⟨vp_in_nI (by omega) (by decide), fun _ => ⟨fun q => absurd rfl q, fun _ => ⟨(by unfold vp_in; decide), ?_⟩⟩, fun q => absurd rfl q⟩⟩
      rw [hs2 0 (by decide)]
      exact fin h2 he2
    by_cases hg : g = []
    · subst hg
      have sg' : zk_sg (c0.1 29) p ((b.map zk_cs ++ [20059]) ++ zk_flat r) := sg
      have hp' : p + ((b.map zk_cs ++ [20059]) ++ zk_flat r).length = S := hp
      simp only [List.length_append, List.length_map, List.length_cons, List.length_nil] at hp'
      obtain ⟨s1, s2⟩ := zk_sg_app.mp (zk_sg_app.mp sg').1
      rw [List.length_map] at s2
      refine body p h he (by omega) s1 s2.1 fun h2 he2 => ?_
      have := next h2 he2
      rwa [show zk_vL (c0.1 32) (([], b) :: r) = zk_vE (c0.1 32) b from if_neg (fun z => z.1 rfl)] at this
    · have sg' : zk_sg (c0.1 29) p ((g.map zk_cs ++ [20063]) ++ (b.map zk_cs ++ [20059]) ++ zk_flat r) := by
        have : zk_flat ((g, b) :: r) = (g.map zk_cs ++ [20063]) ++ (b.map zk_cs ++ [20059]) ++ zk_flat r := by
          show (if g = [] then [] else g.map zk_cs ++ [20063]) ++ _ ++ _ = _
          rw [if_neg hg]
        rw [← this]; exact sg
      have hp' : p + ((g.map zk_cs ++ [20063]) ++ (b.map zk_cs ++ [20059]) ++ zk_flat r).length = S := by
        have : zk_flat ((g, b) :: r) = (g.map zk_cs ++ [20063]) ++ (b.map zk_cs ++ [20059]) ++ zk_flat r := by
          show (if g = [] then [] else g.map zk_cs ++ [20063]) ++ _ ++ _ = _
          rw [if_neg hg]
        rw [← this]; exact hp
      simp only [List.length_append, List.length_map, List.length_cons, List.length_nil] at hp'
      obtain ⟨s0, s3⟩ := zk_sg_app.mp sg'
      obtain ⟨s1, s2⟩ := zk_sg_app.mp s0
      obtain ⟨t1, t2⟩ := zk_sg_app.mp s1
      obtain ⟨u1, u2⟩ := zk_sg_app.mp s2
      simp only [List.length_append, List.length_map, List.length_cons, List.length_nil] at t2 u1 u2 s3
      have wg : zk_wf g 0 1 := og.resolve_left hg
      refine l_val_E hS e1 g 0 1 p (fun _ => 0) h wg (by omega) (by omega) t1 he (fun k hk => absurd hk (Nat.not_lt_zero _)) fun h2 he2 hs2 => ?_
      refine zk_bk hX3_valueFor (bX3_valueFor_7 ?_)
      rw [he2.1 28 (by decide), e1, he2.1 29 (by decide), nI_clamp (n := p + g.length) (by omega), t2.1, nI_1]
      refine ⟨fun q => absurd q (nI_ge (by omega) (by omega)), fun _ => ⟨vp_in_nI (by omega) (by decide), fun _ => ⟨fun _ => ⟨fun q => absurd rfl q, fun _ => ⟨(by unfold vp_in; decide), ?_⟩⟩, fun q => absurd q (by decide)⟩, fun q => absurd rfl q⟩⟩
      rw [hs2 0 (by decide)]
      refine ⟨fun q => zk_fg hX3_valueFor ?_ (body (p + g.length + 1) h2 he2 (by omega) u1 u2.1 fun h3 he3 => ?_), fun q => zk_fg hX3_valueFor ?_ (l_val_S (x := 0) hS e1 b (p + g.length + 1) h2 (zk_wf_c ob) (by omega) u1 u2.1 he2 ?_)⟩
      · exact ⟨rfl, rfl, rfl, rfl, rfl, rfl, rfl, trivial⟩
      · have := next h3 he3
        rwa [show zk_vL (c0.1 32) ((g, b) :: r) = zk_vE (c0.1 32) b from if_neg (fun z => q z.2)] at this
      · exact ⟨rfl, rfl, rfl, rfl, rfl, rfl, rfl, trivial⟩
      · refine ih (p + g.length + 1 + b.length + 1) h2 (fun q hq => ok q (List.mem_cons_of_mem _ hq)) (by omega) ?_ he2 fun h3 he3 => ?_
        · rw [show p + g.length + 1 + b.length + 1 = p + (g.length + (0 + 1) + (b.length + (0 + 1))) by omega]; exact s3
        · have := next h3 he3
          rwa [show zk_vL (c0.1 32) ((g, b) :: r) = zk_vL (c0.1 32) r from if_pos ⟨hg, q⟩] at this
theorem jX3_valueFor {L : zk_lns} (ok : zk_okL L) (hl : (zk_flat L).length ≤ 121) (e1 : h.1 28 1 = nI (zk_flat L).length) (sg : zk_sg (h.1 29) 0 (zk_flat L)) (next : ∀ h', zk_ex [30] h h' → K (zk_vL (h.1 32) L) h') : pX3_valueFor [.ref 28, .ref 32] h K := by
  refine ⟨rfl, zk_bk hX3_valueFor (bX3_valueFor_0 ?_)⟩
  exact l_val_L hl e1 L 0 h ok (by omega) sg zk_ex.rf next
end ZKW
