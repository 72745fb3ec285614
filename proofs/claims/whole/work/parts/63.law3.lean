/-! THE LAW worked out: the reference's side -/
theorem nI_m1 {a : Nat} (h : 0 < a) : nI a + (-1 : Int32) = nI (a - 1) := by
  rw [← nI_n1 h, Int32.sub_eq_add_neg]
def zk_clp (v : Int32) : Int32 := if (0 : Int32) < (if v < 99 then v else 99) then (if v < 99 then v else 99) else 0
def zk_lc : zk_lns → Nat
  | [] => 0
  | q :: r => q.1.length + q.2.length + zk_lc r
theorem zk_lc_le : ∀ L : zk_lns, zk_lc L ≤ (zk_flat L).length
  | [] => Nat.le_refl _
  | q :: r => by
    have := zk_lc_le r
    unfold zk_lc zk_flat
    by_cases e : q.1 = []
    · rw [if_pos e, e]; simp; omega
    · rw [if_neg e]; simp; omega
section ZKW
variable {K : Int32 → zk_H → Prop} {h : zk_H} {x y z : Int32}
theorem l_work_5 {m0 : zk_H} {T : Nat} (hT : T ≤ 200) : ∀ (l : List Nat) (n e p : Nat) (s : Nat → Int32) (h : zk_H), zk_wf l n e → n + l.length ≤ 199 → p + l.length ≤ T → zk_sg (m0.1 19) p (l.map nI) → zk_ex [24] m0 h → (∀ k, k < n → h.1 24 k = s k) → (∀ h', zk_ex [24] m0 h' → (∀ k, k < e → h'.1 24 k = (zk_run (m0.1 25) l (s, n)).1 k) → (zk_X zk_D (zk_lkl lkX12) zk_mt (zk_cxl [(192, zk_iP pX12_both)]) (some .int) (zk_at cdX12_worked) (zk_qi K)) 5 [some (.ref 0), some (.int x), some (.int (nI T)), some (.int (nI e)), some (.int (nI (p + l.length))), none] [] h') → (zk_X zk_D (zk_lkl lkX12) zk_mt (zk_cxl [(192, zk_iP pX12_both)]) (some .int) (zk_at cdX12_worked) (zk_qi K)) 5 [some (.ref 0), some (.int x), some (.int (nI T)), some (.int (nI n)), some (.int (nI p)), none] [] h := by
  intro l
  induction l with
  | nil =>
    intro n e p s h wf _ _ _ he hs next
    have hne : n = e := wf
    subst hne
    exact next h he hs
  | cons c r ih =>
    intro n e p s h wf hn hp sg he hs next
    obtain ⟨w1, w2⟩ := wf
    rw [List.length_cons] at hn hp
    obtain ⟨sg1, sg2⟩ := sg
    have go : ∀ (n' : Nat) (s' : Nat → Int32) (h' : zk_H) (F : Option Value), zk_nl F = true → zk_wf r n' e → n' + r.length ≤ 199 → zk_ex [24] m0 h' → (∀ k, k < n' → h'.1 24 k = s' k) → zk_stp (m0.1 25) c (s, n) = (s', n') → (zk_X zk_D (zk_lkl lkX12) zk_mt (zk_cxl [(192, zk_iP pX12_both)]) (some .int) (zk_at cdX12_worked) (zk_qi K)) 5 [some (.ref 0), some (.int x), some (.int (nI T)), some (.int (nI n')), some (.int (nI (p + 1))), F] [] h' := by
      intro n' s' h' F hF wf' hn' he' hs' er
      refine zk_fg hX12_worked ?_ (ih n' e (p + 1) s' h' wf' hn' (by omega) sg2 he' hs' fun h2 he2 hs2 => ?_)
      · exact ⟨rfl, rfl, rfl, rfl, rfl, hF, trivial⟩
      · rw [show p + 1 + r.length = p + (c :: r).length by simp; omega]
        refine next h2 he2 fun k hk => ?_
        rw [hs2 k hk]
        show _ = (zk_run (m0.1 25) r (zk_stp (m0.1 25) c (s, n))).1 k
        rw [er]
    refine zk_bk hX12_worked (bX12_worked_5 ?_)
    rw [he.1 19 (by decide), nI_clamp (n := p) (by omega), sg1]
    simp only [nI_1]
    refine ⟨fun q => absurd q (nI_ge (by omega) (by omega)), fun _ => ⟨vp_in_nI (by omega) (by decide), ?_⟩⟩
    by_cases a : c ≤ 5
    · rw [if_pos (Or.inl a)] at w2
      rw [nI_clamp (n := c) (by omega), nI_clamp (n := n) (by omega)]
      refine ⟨fun q => absurd q (nI_ge (b := 18) (by omega) (by decide)), fun _ => ⟨fun q => absurd ((nI_ltI (a := 5) (by decide) (by omega)).mp q) (by omega), fun _ => ⟨fun _ => ⟨vp_in_nI (by omega) (by decide), vp_in_nI (by omega) (by decide), ?_⟩, fun q => absurd ((nI_ltI (b := 18) (by omega) (by decide)).mpr (by omega)) q⟩⟩⟩
      refine go (n + 1) (zk_up s n (m0.1 25 c)) _ _ rfl w2 (by omega) (he.si (by simp)) (fun k hk => ?_) (by unfold zk_stp; rw [if_pos a])
      rw [zk_si_at, he.1 25 (by decide)]
      unfold zk_up
      by_cases e : k = n
      · rw [if_pos e, if_pos e]
      · rw [if_neg e, if_neg e]; exact hs k (by omega)
    · by_cases b : 18 ≤ c
      · rw [if_pos (Or.inr b)] at w2
        rw [nI_clamp (n := n) (by omega), show nI c - (18 : Int32) = nI (c - 18) from nI_sub (b := 18) b]
        refine ⟨fun _ => ⟨fun q => absurd ((nI_ltI (b := 18) (by omega) (by decide)).mp q) (by omega), fun _ => ⟨vp_in_nI (by omega) (by decide), ?_⟩⟩, fun q => absurd ((nI_leI (a := 18) (by decide) (by omega)).mpr b) q⟩
        refine go (n + 1) (zk_up s n (nI (c - 18))) _ _ rfl w2 (by omega) (he.si (by simp)) (fun k hk => ?_) (by unfold zk_stp; rw [if_neg a, if_pos b])
        rw [zk_si_at]
        unfold zk_up
        by_cases e : k = n
        · rw [if_pos e, if_pos e]
        · rw [if_neg e, if_neg e]; exact hs k (by omega)
      · rw [if_neg (by omega)] at w2
        refine ⟨fun q => absurd q (nI_ge (b := 18) (by omega) (by decide)), fun _ => ⟨fun _ => ?_, fun q => absurd ((nI_ltI (a := 5) (by decide) (by omega)).mpr (by omega)) q⟩⟩
        by_cases d : 16 ≤ c
        · rw [if_pos d] at w2
          have un : ∀ v, v = zk_un c (s (n - 1)) → (zk_X zk_D (zk_lkl lkX12) zk_mt (zk_cxl [(192, zk_iP pX12_both)]) (some .int) (zk_at cdX12_worked) (zk_qi K)) 5 [some (.ref 0), some (.int x), some (.int (nI T)), some (.int (nI n)), some (.int (nI (p + 1))), some (.int (nI c))] [] (zk_si h 24 (n - 1) v) := by
            intro v hv
            subst hv
            refine go n (zk_up s (n - 1) (zk_un c (s (n - 1)))) _ _ rfl w2.2 (by omega) (he.si (by simp)) (fun k hk => ?_) (by unfold zk_stp; rw [if_neg a, if_neg b, if_pos d])
            rw [zk_si_at]
            unfold zk_up
            by_cases e : k = n - 1
            · rw [if_pos e, if_pos e]
            · rw [if_neg e, if_neg e]; exact hs k (by omega)
          have v1 : vp_in (nI (n - 1)) 200 := vp_in_nI (by omega) (by decide)
          have es := hs (n - 1) (by omega)
          rw [nI_n1 w2.1, nI_clamp (n := n - 1) (by omega), es]
          by_cases d2 : c = 16
          · subst d2
            refine ⟨fun _ => ⟨fun _ => ⟨v1, fun q => ⟨v1, un 0 ?_⟩, fun q => ⟨v1, un 1 ?_⟩⟩, fun q => absurd q (by decide)⟩, fun q => absurd rfl q⟩
            · unfold zk_un; rw [if_neg (by decide), if_neg q]
            · unfold zk_un; rw [if_neg (by decide), if_pos q]
          · have d3 : c = 17 := by omega
            subst d3
            refine ⟨fun q => absurd q (by decide), fun _ => ⟨fun q => absurd rfl q, fun _ => ⟨fun q => absurd rfl q, fun _ => ⟨v1, v1, un _ ?_⟩⟩⟩⟩
            unfold zk_un; rw [if_pos rfl]
        · rw [if_neg d] at w2
          rw [nI_m1 (a := n) (by omega), nI_n1 (a := n - 1) (by omega), nI_clamp (n := n - 1) (by omega), nI_clamp (n := n - 1 - 1) (by omega), hs (n - 1) (by omega), hs (n - 1 - 1) (by omega), show n - 1 - 1 = n - 2 by omega]
          refine ⟨fun q => absurd q (nI_neq (b := 16) (by omega) (by omega) (by decide)), fun _ => ⟨fun _ => ⟨vp_in_nI (by omega) (by decide), vp_in_nI (by omega) (by decide), jX12_both (by omega) (by omega) ⟨vp_in_nI (by omega) (by decide), ?_⟩⟩, fun q => absurd q (nI_neq (b := 17) (by omega) (by omega) (by decide))⟩⟩
          refine go (n - 1) (zk_up s (n - 2) (zk_bi c (s (n - 2)) (s (n - 1)))) _ _ rfl w2.2 (by omega) (he.si (by simp)) (fun k hk => ?_) (by unfold zk_stp; rw [if_neg a, if_neg b, if_neg d])
          rw [zk_si_at]
          unfold zk_up
          by_cases e : k = n - 2
          · rw [if_pos e, if_pos e]
          · rw [if_neg e, if_neg e]; exact hs k (by omega)
theorem jX12_worked {m0 : zk_H} {l : List Nat} {p : Nat} (wf : zk_wf l 0 1) (hl : p + l.length ≤ 199) (sg : zk_sg (m0.1 19) p (l.map nI)) (he : zk_ex [24] m0 h) (next : ∀ h', zk_ex [24] m0 h' → K (zk_vE (m0.1 25) l) h') : pX12_worked [.ref 0, .int (nI p), .int (nI (p + l.length))] h K := by
  refine ⟨rfl, zk_bk hX12_worked (bX12_worked_0 ?_)⟩
  refine l_work_5 (T := p + l.length) (by omega) l 0 1 p (fun _ => 0) h wf (by omega) (Nat.le_refl _) sg he (fun k hk => absurd hk (Nat.not_lt_zero _)) fun h2 he2 hs2 => ?_
  refine zk_bk hX12_worked (bX12_worked_5 ?_)
  refine ⟨fun _ => ⟨(by unfold vp_in; decide), ?_⟩, fun q => absurd ((nI_leI (by omega) (by omega)).mpr (Nat.le_refl _)) q⟩
  rw [hs2 0 (by decide)]
  exact next h2 he2
theorem l_cnt_196 {m0 : zk_H} {T : Nat} (hT : T ≤ 60) (e20 : m0.1 0 20 = nI T) : ∀ (L : zk_lns) (j a : Nat) (h : zk_H), zk_okL L → j + L.length = T → a + zk_lc L ≤ 199 → zk_lay (m0.1 16) (m0.1 17) (m0.1 18) (m0.1 19) j a L → zk_ex [24] m0 h → (∀ h', zk_ex [24] m0 h' → K (zk_clp (zk_vL (m0.1 25) L)) h') → (zk_X zk_D (zk_lkl lkX12) zk_mt (zk_cxl [(163, zk_iP pX12_has), (193, zk_iP pX12_worked), (195, zk_iP pX12_could), (196, zk_iP pX12_knowers)]) (some .int) (zk_at cdX12_counted) (zk_qi K)) 196 [some (.ref 0), some (.int x), some (.int y), some (.int (nI j))] [] h := by
  intro L
  induction L with
  | nil =>
    intro j a h _ hj _ _ he next
    have hjT : j = T := hj
    subst hjT
    refine zk_bk hX12_counted (bX12_counted_196 ?_)
    rw [he.1 0 (by decide), e20]
    exact ⟨fun _ => next h he, fun q => absurd ((nI_leI (by omega) (by omega)).mpr (Nat.le_refl _)) q⟩
  | cons q r ih =>
    obtain ⟨g, b⟩ := q
    intro j a h ok hj ha lay he next
    rw [List.length_cons] at hj
    obtain ⟨og, ob⟩ := ok _ List.mem_cons_self
    obtain ⟨l1, l2, l3, l4, l5, l6⟩ := lay
    have ha' : a + (g.length + b.length + zk_lc r) ≤ 199 := ha
    dsimp only at l1 l2 l3 l4 l5 l6 og ob
    have v60 : vp_in (nI j) 60 := vp_in_nI (by omega) (by decide)
    refine zk_bk hX12_counted (bX12_counted_196 ?_)
    rw [he.1 0 (by decide), e20, nI_clamp (n := j) (by omega), he.1 16 (by decide), he.1 17 (by decide), he.1 18 (by decide), l1, l2, l3, nI_1]
    refine ⟨fun q => absurd q (nI_ge (by omega) (by omega)), fun _ => ⟨v60, v60, fun q => ⟨v60, v60, jX12_worked ob (by omega) l5 he fun h2 he2 => ?_⟩, fun q => ⟨v60, v60, ?_⟩⟩⟩
    · have hg : g = [] := by
        have := (nI_leI (by omega) (by omega)).mp q
        exact List.length_eq_zero_iff.mp (by omega)
      have := next h2 he2
      rwa [show zk_vL (m0.1 25) ((g, b) :: r) = zk_vE (m0.1 25) b from if_neg (fun z => z.1 hg)] at this
    · have hg : g ≠ [] := fun z => q (by rw [z]; exact (nI_leI (a := a) (b := a) (by omega) (by omega)).mpr (Nat.le_refl _))
      refine jX12_worked (og.resolve_left hg) (by omega) l4 he fun h2 he2 => ⟨fun q2 => ⟨v60, v60, ?_⟩, fun q2 => ih (j + 1) _ h2 (fun q hq => ok q (List.mem_cons_of_mem _ hq)) (by omega) (by omega) l6 he2 fun h3 he3 => ?_⟩
      · rw [he2.1 17 (by decide), he2.1 18 (by decide), l2, l3]
        refine jX12_worked ob (by omega) l5 he2 fun h3 he3 => ?_
        have := next h3 he3
        rwa [show zk_vL (m0.1 25) ((g, b) :: r) = zk_vE (m0.1 25) b from if_neg (fun z => q2 z.2)] at this
      · have := next h3 he3
        rwa [show zk_vL (m0.1 25) ((g, b) :: r) = zk_vL (m0.1 25) r from if_pos ⟨hg, q2⟩] at this
end ZKW
