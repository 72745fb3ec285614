/-! CALLS: likeliest, hope -/
def zk_mv (t : Nat → Int32) (i : Nat) : Int32 := match zk_mo t i with | none => 0 | some b => t b
theorem zk_mo_up {t : Nat → Int32} {i : Nat} (h : zk_mv t i < t i) : zk_mo t (i + 1) = some i ∧ zk_mv t (i + 1) = t i := by
  have e : zk_mo t (i + 1) = some i := if_pos h
  exact ⟨e, by unfold zk_mv; rw [e]⟩
theorem zk_mo_no {t : Nat → Int32} {i : Nat} (h : ¬ zk_mv t i < t i) : zk_mo t (i + 1) = zk_mo t i ∧ zk_mv t (i + 1) = zk_mv t i := by
  have e : zk_mo t (i + 1) = zk_mo t i := if_neg h
  exact ⟨e, by unfold zk_mv; rw [e]⟩
theorem zk_mv_nn {t : Nat → Int32} : ∀ {i : Nat}, 0 ≤ zk_mv t i
  | 0 => Int32.le_refl 0
  | i + 1 => by
    by_cases h : zk_mv t i < t i
    · rw [(zk_mo_up h).2]
      exact Int32.le_trans zk_mv_nn (Int32.le_of_lt h)
    · rw [(zk_mo_no h).2]
      exact zk_mv_nn
theorem zk_mo_gt {t : Nat → Int32} : ∀ {i b : Nat}, zk_mo t i = some b → 0 < t b
  | i + 1, b, e => by
    by_cases h : zk_mv t i < t i
    · rw [(zk_mo_up h).1] at e
      cases e
      exact Int32.lt_of_le_of_lt zk_mv_nn h
    · rw [(zk_mo_no h).1] at e
      exact zk_mo_gt e
theorem zk_mv_ge {t : Nat → Int32} : ∀ {i o : Nat}, o < i → t o ≤ zk_mv t i
  | i + 1, o, ho => by
    by_cases h : zk_mv t i < t i
    · rw [(zk_mo_up h).2]
      rcases Nat.lt_or_ge o i with q | q
      · exact Int32.le_trans (zk_mv_ge q) (Int32.le_of_lt h)
      · rw [show o = i by omega]; exact Int32.le_refl _
    · rw [(zk_mo_no h).2]
      rcases Nat.lt_or_ge o i with q | q
      · exact zk_mv_ge q
      · rw [show o = i by omega]
        exact Int32.not_lt.mp h
theorem zk_mo_c {t t' : Nat → Int32} : ∀ {n : Nat}, (∀ o, o < n → t o = t' o) → zk_mo t n = zk_mo t' n ∧ zk_mv t n = zk_mv t' n
  | 0, _ => ⟨rfl, rfl⟩
  | n + 1, h => by
    obtain ⟨e1, e2⟩ := zk_mo_c (n := n) fun o ho => h o (by omega)
    by_cases q : zk_mv t n < t n
    · have q' : zk_mv t' n < t' n := by rw [← e2, ← h n (by omega)]; exact q
      rw [(zk_mo_up q).1, (zk_mo_up q').1, (zk_mo_up q).2, (zk_mo_up q').2, h n (by omega)]
      exact ⟨rfl, rfl⟩
    · have q' : ¬ zk_mv t' n < t' n := by rw [← e2, ← h n (by omega)]; exact q
      rw [(zk_mo_no q).1, (zk_mo_no q').1, (zk_mo_no q).2, (zk_mo_no q').2]
      exact ⟨e1, e2⟩
/-- of some people alone -/
def zk_lk (M : Int32) (w : Nat → Int32) (o : Nat) : Int32 := if (M >>> (nI o &&& 31)) &&& 1 = 1 then w o else 0
theorem zk_bo_n2 {b : Nat} (h : b < 100) : ¬ nI b = -2 := fun q => by
  have := nI_toInt (n := b) (by omega)
  rw [q] at this
  have e : (-2 : Int32).toInt = -2 := rfl
  omega
theorem zk_wt_nn {lw : Option zk_lns} {m : zk_H} {P i o : Nat} : 0 ≤ zk_wt lw m P i o := by
  rw [zk_wn_b.1]
  exact nI_pos' (by have := (zk_wn_b (lw := lw) (m := m) (P := P) (i := i) (o := o)).2; omega)
/-- the only one -/
def zk_un1 (w : Nat → Int32) (P : Nat) : Prop := ∀ a b, a < P → b < P → ¬ w a = 0 → ¬ w b = 0 → a = b
section ZKW
variable {K : Int32 → zk_H → Prop} {lw : Option zk_lns} {h c m : zk_H} {x y A M : Int32} {P N i o : Nat}
theorem l_likeliestOf {w : Nat → Int32} (hP : P ≤ 8) (e1 : h.1 1 1 = nI P) (hw : ∀ o, o < P → h.1 33 o = w o) (H : K (zk_bo (zk_mo (zk_lk M w) P)) h) : ∀ (n o : Nat), o + n = P → (zk_X zk_C (zk_lkl lkX10) zk_mt (zk_cxl [(92, zk_iP pX10_weigh)]) (some .int) (zk_at cdX10_likeliestOf) (zk_qi K)) 15 [some (.ref 31), some (.int x), some (.int M), some (.int (zk_bo (zk_mo (zk_lk M w) o))), some (.int (zk_mv (zk_lk M w) o)), some (.int (nI o))] [] h := by
  intro n
  induction n with
  | zero =>
    intro o ho
    have hoP : o = P := by omega
    subst hoP
    refine zk_bk hX10_likeliestOf (bX10_likeliestOf_15 ?_)
    rw [e1]
    exact ⟨fun _ => H, fun q => absurd ((nI_leI (by omega) (by omega)).mpr (Nat.le_refl _)) q⟩
  | succ n ih =>
    intro o ho
    have I := ih (o + 1) (by omega)
    have vo : vp_in (nI o) 8 := vp_in_nI (by omega) (by decide)
    refine zk_bk hX10_likeliestOf (bX10_likeliestOf_15 ?_)
    rw [e1, nI_1, nI_clamp (n := o) (by omega), hw o (by omega)]
    refine ⟨fun q => absurd q (nI_ge (by omega) (by omega)), fun _ => ⟨fun q => ?_, fun q => ⟨vo, fun q2 => ?_, fun q2 => ⟨vo, ?_⟩⟩⟩⟩
    · have e : zk_lk M w o = 0 := by
        unfold zk_lk
        rw [if_neg fun z => absurd (q.symm.trans z) (by decide)]
      obtain ⟨g1, g2⟩ := zk_mo_no (t := zk_lk M w) (i := o) (by rw [e]; exact Int32.not_lt.mpr zk_mv_nn)
      rw [g1, g2] at I
      exact I
    · have e : zk_lk M w o = w o := by
        unfold zk_lk
        rw [if_pos (zk_bitn.mp q)]
      obtain ⟨g1, g2⟩ := zk_mo_no (t := zk_lk M w) (i := o) (by rw [e]; exact Int32.not_lt.mpr q2)
      rw [g1, g2] at I
      exact I
    · have e : zk_lk M w o = w o := by
        unfold zk_lk
        rw [if_pos (zk_bitn.mp q)]
      obtain ⟨g1, g2⟩ := zk_mo_up (t := zk_lk M w) (i := o) (by rw [e]; exact Int32.not_le.mp q2)
      rw [g1, g2, e] at I
      exact I
theorem jX10_likeliestOf (W : zk_wo lw P c m i) (H : ∀ c', zk_ex [30, 32, 33] c c' → (∀ o, o < P → c'.1 33 o = zk_wt lw m P i o) → K (zk_bo (zk_mo (zk_lk M (zk_wt lw m P i)) P)) c') : pX10_likeliestOf [.ref 31, .int (nI i), .int M] c K := by
  refine ⟨rfl, zk_bk hX10_likeliestOf (bX10_likeliestOf_0 ?_)⟩
  refine jX10_weigh W fun c' hc hw => ?_
  exact l_likeliestOf W.1.1 (by rw [hc.1 1 (by decide)]; exact W.2.1.1) hw (H c' hc hw) P 0 (by omega)
theorem zk_lk_all {w : Nat → Int32} (hP : P ≤ 8) : zk_mo (zk_lk (nI (zk_mask (fun _ => true) P)) w) P = zk_mo w P ∧ zk_mv (zk_lk (nI (zk_mask (fun _ => true) P)) w) P = zk_mv w P := by
  refine zk_mo_c fun o ho => ?_
  unfold zk_lk
  rw [zk_bitof o (by omega) _ (zk_mask_lt hP), zk_mask_tb, decide_eq_true ho]
  rfl
theorem jX12_likeliest (W : zk_wo lw P c m i) (he : zk_ex [24, 25] m h) (H : ∀ h', zk_ex [24, 25] m h' → K (zk_bo (zk_mo (zk_wt lw m P i) P)) h') : pX12_likeliest [.ref 0, .int (nI i)] h K := by
  obtain ⟨⟨hP, hi⟩, ⟨f1, f3⟩, -⟩ := id W
  have key : ∀ (n o : Nat) (h : zk_H), o + n = P → zk_ex [24, 25] m h → (zk_X zk_D (zk_lkl lkX12) zk_mt (zk_cxl [(197, zk_iP pX12_counted)]) (some .int) (zk_at cdX12_likeliest) (zk_qi K)) 8 [some (.ref 0), some (.int (nI i)), some (.int (zk_bo (zk_mo (zk_wt lw m P i) o))), some (.int (zk_mv (zk_wt lw m P i) o)), some (.int (nI o))] [] h := by
    intro n
    induction n with
    | zero =>
      intro o h ho he
      have hoP : o = P := by omega
      subst hoP
      refine zk_bk hX12_likeliest (bX12_likeliest_8 ?_)
      rw [he.1 0 (by decide), f3]
      exact ⟨fun _ => H h he, fun q => absurd ((nI_leI (by omega) (by omega)).mpr (Nat.le_refl _)) q⟩
    | succ n ih =>
      intro o h ho he
      refine zk_bk hX12_likeliest (bX12_likeliest_8 ?_)
      rw [he.1 0 (by decide), f3, nI_1]
      refine ⟨fun q => absurd q (nI_ge (by omega) (by omega)), fun _ => jX12_counted W he (by omega) fun h1 he1 => ⟨fun q => jX12_counted W he1 (by omega) fun h2 he2 => ?_, fun q => ?_⟩⟩
      · have I := ih (o + 1) h2 (by omega) he2
        rw [(zk_mo_up q).1, (zk_mo_up q).2] at I
        exact I
      · have I := ih (o + 1) h1 (by omega) he1
        rw [(zk_mo_no q).1, (zk_mo_no q).2] at I
        exact I
  refine ⟨rfl, zk_bk hX12_likeliest (bX12_likeliest_0 ?_)⟩
  exact key P 0 h (by omega) he
theorem jX10_onlyOne (W : zk_wo lw P c m i) (H : ∀ c', zk_ex [30, 32, 33] c c' → ∀ v, (zk_un1 (zk_wt lw m P i) P → v = zk_bo (zk_mo (zk_wt lw m P i) P)) → (¬ zk_un1 (zk_wt lw m P i) P → v = -2) → K v c') : pX10_onlyOne [.ref 31, .int (nI i)] c K := by
  obtain ⟨⟨hP, hi⟩, ⟨f1, f3⟩, -⟩ := id W
  refine ⟨rfl, zk_bk hX10_onlyOne (bX10_onlyOne_0 ?_)⟩
  refine jX4_everybody hP f1 (jX10_likeliestOf W fun c' hc hw => ?_)
  rw [(zk_lk_all hP).1]
  have e1 : c'.1 1 1 = nI P := by rw [hc.1 1 (by decide)]; exact f1
  have key : ∀ (n o : Nat), o + n = P → (∀ a, a < o → nI a = zk_bo (zk_mo (zk_wt lw m P i) P) ∨ zk_wt lw m P i a = 0) → (zk_X zk_C (zk_lkl lkX10) zk_mt (zk_cxl [(43, zk_iP pX4_everybody), (96, zk_iP pX10_likeliestOf)]) (some .int) (zk_at cdX10_onlyOne) (zk_qi K)) 15 [some (.ref 31), some (.int (nI i)), some (.int (zk_bo (zk_mo (zk_wt lw m P i) P))), some (.int (nI o))] [] c' := by
    intro n
    induction n with
    | zero =>
      intro o ho hz
      have hoP : o = P := by omega
      subst hoP
      refine zk_bk hX10_onlyOne (bX10_onlyOne_15 ?_)
      rw [e1]
      refine ⟨fun _ => H c' hc _ (fun _ => rfl) fun q => absurd ?_ q, fun q => absurd ((nI_leI (by omega) (by omega)).mpr (Nat.le_refl _)) q⟩
      intro a b ha hb na nb
      have ea := (hz a ha).resolve_right na
      have eb := (hz b hb).resolve_right nb
      exact (nI_eq (by omega) (by omega)).mp (ea.trans eb.symm)
    | succ n ih =>
      intro o ho hz
      have vo : vp_in (nI o) 8 := vp_in_nI (by omega) (by decide)
      have st : (nI o = zk_bo (zk_mo (zk_wt lw m P i) P) ∨ zk_wt lw m P i o = 0) → (zk_X zk_C (zk_lkl lkX10) zk_mt (zk_cxl [(43, zk_iP pX4_everybody), (96, zk_iP pX10_likeliestOf)]) (some .int) (zk_at cdX10_onlyOne) (zk_qi K)) 15 [some (.ref 31), some (.int (nI i)), some (.int (zk_bo (zk_mo (zk_wt lw m P i) P))), some (.int (nI (o + 1)))] [] c' := fun q => ih (o + 1) (by omega) fun a ha => by
        rcases Nat.lt_or_ge a o with z | z
        · exact hz a z
        · rw [show a = o by omega]; exact q
      refine zk_bk hX10_onlyOne (bX10_onlyOne_15 ?_)
      rw [e1, nI_1, nI_clamp (n := o) (by omega), hw o (by omega)]
      refine ⟨fun q => absurd q (nI_ge (by omega) (by omega)), fun _ => ⟨fun q => st (Or.inl q), fun q => ⟨vo, fun q2 => st (Or.inr ?_), fun q2 => H c' hc _ (fun z => ?_) (fun _ => rfl)⟩⟩⟩
      · exact Int32.le_antisymm q2 zk_wt_nn
      · have nz : ¬ zk_wt lw m P i o = 0 := fun z => q2 (by rw [z]; exact Int32.le_refl _)
        cases hm : zk_mo (zk_wt lw m P i) P with
        | none => rfl
        | some b =>
          have hb := zk_mo_lt hm
          have g := zk_mo_gt hm
          have nb : ¬ zk_wt lw m P i b = 0 := fun z => by rw [z] at g; exact absurd g (by decide)
          exact absurd (by rw [hm, z o b (by omega) hb nz nb]) q
  exact key P 0 (by omega) (fun a ha => absurd ha (Nat.not_lt_zero _))
theorem jX12_sure (W : zk_wo lw P c m i) (he : zk_ex [24, 25] m h) (H : ∀ h', zk_ex [24, 25] m h' → ∀ v, (zk_un1 (zk_wt lw m P i) P → v = zk_bo (zk_mo (zk_wt lw m P i) P)) → (¬ zk_un1 (zk_wt lw m P i) P → v = -2) → K v h') : pX12_sure [.ref 0, .int (nI i)] h K := by
  obtain ⟨⟨hP, hi⟩, ⟨f1, f3⟩, -⟩ := id W
  have key : ∀ (n o : Nat) (h : zk_H) (F : Option Nat), o + n = P → zk_ex [24, 25] m h → (∀ a, a < o → F = some a ∨ zk_wt lw m P i a = 0) → (∀ b, F = some b → b < o ∧ ¬ zk_wt lw m P i b = 0) → (zk_X zk_D (zk_lkl lkX12) zk_mt (zk_cxl [(197, zk_iP pX12_counted)]) (some .int) (zk_at cdX12_sure) (zk_qi K)) 5 [some (.ref 0), some (.int (nI i)), some (.int (zk_bo F)), some (.int (nI o))] [] h := by
    intro n
    induction n with
    | zero =>
      intro o h F ho he hz hF
      have hoP : o = P := by omega
      subst hoP
      refine zk_bk hX12_sure (bX12_sure_5 ?_)
      rw [he.1 0 (by decide), f3]
      refine ⟨fun _ => H h he _ (fun _ => ?_) fun q => absurd ?_ q, fun q => absurd ((nI_leI (by omega) (by omega)).mpr (Nat.le_refl _)) q⟩
      · congr 1
        cases hm : zk_mo (zk_wt lw m o i) o with
        | none =>
          cases F with
          | none => rfl
          | some b =>
            obtain ⟨b1, b2⟩ := hF b rfl
            have g := zk_mv_ge (t := zk_wt lw m o i) b1
            unfold zk_mv at g
            rw [hm] at g
            exact absurd (Int32.le_antisymm g zk_wt_nn) b2
        | some b =>
          have hb := zk_mo_lt hm
          have g := zk_mo_gt hm
          exact (hz b hb).resolve_right fun z => by rw [z] at g; exact absurd g (by decide)
      · intro a b ha hb na nb
        have ea := (hz a ha).resolve_right na
        have eb := (hz b hb).resolve_right nb
        exact Option.some.inj (ea.symm.trans eb)
    | succ n ih =>
      intro o h F ho he hz hF
      refine zk_bk hX12_sure (bX12_sure_5 ?_)
      rw [he.1 0 (by decide), f3, nI_1]
      refine ⟨fun q => absurd q (nI_ge (by omega) (by omega)), fun _ => jX12_counted W he (by omega) fun h1 he1 => ⟨fun q => ⟨fun q2 => ?_, fun q2 => H h1 he1 _ (fun z => ?_) (fun _ => rfl)⟩, fun q => ?_⟩⟩
      · have hFn : F = none := by
          cases F with
          | none => rfl
          | some b => exact absurd q2 (zk_bo_n2 (by have := (hF b rfl).1; omega))
        subst hFn
        refine ih (o + 1) h1 (some o) (by omega) he1 (fun a ha => ?_) (fun b hb => ?_)
        · rcases Nat.lt_or_ge a o with z | z
          · exact Or.inr ((hz a z).resolve_left (by simp))
          · rw [show a = o by omega]; exact Or.inl rfl
        · cases hb
          exact ⟨by omega, q⟩
      · cases F with
        | none => exact absurd rfl q2
        | some b =>
          obtain ⟨b1, b2⟩ := hF b rfl
          have := z o b (by omega) (by omega) q b2
          omega
      · refine ih (o + 1) h1 F (by omega) he1 (fun a ha => ?_) (fun b hb => ⟨by have := (hF b hb).1; omega, (hF b hb).2⟩)
        rcases Nat.lt_or_ge a o with z | z
        · exact hz a z
        · rw [show a = o by omega]; exact Or.inr q
  refine ⟨rfl, zk_bk hX12_sure (bX12_sure_0 ?_)⟩
  exact key P 0 h none (by omega) he (fun a ha => absurd ha (Nat.not_lt_zero _)) (fun b hb => by cases hb)
end ZKW
section ZK3
variable {c m : zk_H} {x y z : Int32}
theorem e_likeliest (R : zk_RR zk_lpe c m) : pX11_likeliest [.ref 0, .int x, .int y] c (fun v c' => pX12_likeliest_ [.ref 0, .int x, .int y] m (fun v' m' => v = v' ∧ zk_RR zk_lpe c' m')) := by
  obtain ⟨P, N, D, U, T, B, R8⟩ := id R
  obtain ⟨r1, -, -, -, -, -, -, lw, LL⟩ := id R8
  obtain ⟨⟨hP, hN⟩, ⟨f1, f2, f3, f4⟩, -⟩ := id r1
  refine ⟨rfl, zk_bk hX11_likeliest (bX11_likeliest_0 ?_)⟩
  refine jX4_isCard ?_
  rw [f2]
  refine ⟨fun q => ?_, fun q => jX11_isZeroOrOne ⟨fun q1 => ?_, fun q1 => ?_⟩⟩
  · show pX12_likeliest_ _ _ _
    refine ⟨rfl, zk_bk hX12_likeliest_ (bX12_likeliest__0 ?_)⟩
    exact jX12_isCard f4 (by omega) ⟨fun _ => ⟨rfl, R⟩, fun q2 => absurd (zk_b_n q2) (zk_b_0.mp q)⟩
  · obtain ⟨i, hi, ei⟩ := zk_ix (by omega) (zk_b_n q).1 (zk_b_n q).2
    have W := r1.wo LL hi
    have fin : ∀ (c' : zk_H) (v : Int32), (y = 0 → pX12_likeliest [.ref 0, .int (nI i)] m (fun v' m' => v = v' ∧ zk_RR zk_lpe c' m')) → (¬ y = 0 → pX12_sure [.ref 0, .int (nI i)] m (fun v' m' => v = v' ∧ zk_RR zk_lpe c' m')) → pX12_likeliest_ [.ref 0, .int x, .int y] m (fun v' m' => v = v' ∧ zk_RR zk_lpe c' m') := by
      intro c' v h0 h1
      refine ⟨rfl, zk_bk hX12_likeliest_ (bX12_likeliest__0 ?_)⟩
      refine jX12_isCard f4 (by omega) ⟨fun q2 => absurd (zk_b_n q) (zk_b_0.mp q2), fun _ => jX12_within ⟨fun _ => ?_, fun q2 => absurd (zk_b_n q1) (fun z => zk_b_0.mp q2 ?_)⟩⟩
      · rw [ei]
        exact ⟨h1, h0⟩
      · rcases z with rfl | rfl <;> decide
    rw [ei]
    refine ⟨fun q2 => jX10_onlyOne W fun c' hc v hv1 hv2 => ?_, fun q2 => jX4_everybody hP f1 (jX10_likeliestOf W fun c' hc hw => ?_)⟩
    · show pX12_likeliest_ _ _ _
      rw [← ei]
      refine fin c' v (fun z => absurd z q2) fun _ => jX12_sure W zk_ex.rf fun m' hm v' hv1' hv2' => ⟨?_, P, N, D, U, T, B, zk_R_ex R8 hc hm (by decide) (by decide)⟩
      by_cases u : zk_un1 (zk_wt lw m P i) P
      · rw [hv1 u, hv1' u]
      · rw [hv2 u, hv2' u]
    · show pX12_likeliest_ _ _ _
      rw [← ei]
      refine fin c' _ (fun _ => jX12_likeliest W zk_ex.rf fun m' hm => ⟨by rw [(zk_lk_all hP).1], P, N, D, U, T, B, zk_R_ex R8 hc hm (by decide) (by decide)⟩) fun z => absurd q2 z
  · show pX12_likeliest_ _ _ _
    refine ⟨rfl, zk_bk hX12_likeliest_ (bX12_likeliest__0 ?_)⟩
    refine jX12_isCard f4 (by omega) ⟨fun _ => ⟨rfl, R⟩, fun _ => jX12_within ⟨fun q2 => absurd (zk_b_n q2) fun z => zk_b_0.mp q1 ?_, fun _ => ⟨rfl, R⟩⟩⟩
    ((try simp only [zk_b_0, zk_b_1] at *); simp only [Int32.lt_iff_toInt_lt, Int32.le_iff_toInt_le, ← Int32.toInt_inj, Int32.reduceToInt] at *; omega)
end ZK3
