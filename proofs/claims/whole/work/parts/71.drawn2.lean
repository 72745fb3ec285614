/-! CALL: drawn, the reference's side; drawn -/
section ZKW
variable {K : Int32 → zk_H → Prop} {lw : Option zk_lns} {h c m : zk_H} {x y z A M : Int32} {P N i o : Nat}
theorem jX12_countedAll_u {S : List Nat} (W : zk_wo lw P c m i) (he : zk_ex S m h) (hS : ∀ k ∈ S, 19 < k) (H : ∀ h', zk_ex [24, 25] h h' → K (nI (zk_al lw m P i)) h') : pX12_countedAll [.ref 0, .int (nI i)] h K :=
  jX12_countedAll (W.ex (zk_ex.rf (S := [])) he (by simp) hS) zk_ex.rf fun h' he' => by
    have e : zk_wt lw h P i = zk_wt lw m P i := funext fun o => zk_wt_ex he fun k hk => by have := hS k hk; omega
    rw [e, zk_al_e]
    exact H h' he'
theorem l_dz_45 {m1 : zk_H} {a b e : Int32} (next : ∀ h, zk_ex [36] m1 h → (∀ j, j < 8 → h.1 36 j = 0) → (zk_X zk_D (zk_lkl lkX12) zk_mt (zk_cxl [(153, zk_iP pX12_within), (155, zk_iP pX12_isCard), (197, zk_iP pX12_counted), (198, zk_iP pX12_countedAll)]) (some .int) (zk_at cdX12_drawn) (zk_qi K)) 72 [some (.ref 0), some (.int x), some (.int z), some (.int a), some (.int b), some (.int e), some (.int z), some (.int 0), none, none] [] h) : ∀ (n i : Nat), i + n = 8 → ∀ h, zk_ex [36] m1 h → (∀ j, j < i → h.1 36 j = 0) → (zk_X zk_D (zk_lkl lkX12) zk_mt (zk_cxl [(153, zk_iP pX12_within), (155, zk_iP pX12_isCard), (197, zk_iP pX12_counted), (198, zk_iP pX12_countedAll)]) (some .int) (zk_at cdX12_drawn) (zk_qi K)) 45 [some (.ref 0), some (.int x), some (.int z), some (.int a), some (.int b), some (.int e), some (.int (nI i)), none, none, none] [] h := by
  intro n
  induction n with
  | zero =>
    intro i hi h he hj
    have hi8 : i = 8 := by omega
    subst hi8
    refine zk_bk hX12_drawn (bX12_drawn_45 ?_)
    exact ⟨fun _ => next h he hj, fun q => absurd (by decide) q⟩
  | succ n ih =>
    intro i hi h he hj
    refine zk_bk hX12_drawn (bX12_drawn_45 ?_)
    rw [nI_1, nI_clamp (n := i) (by omega)]
    refine ⟨fun q => absurd q (nI_ge (b := 8) (by omega) (by decide)), fun _ => ⟨vp_in_nI (by omega) (by decide), ih (i + 1) (by omega) _ (he.si (by simp)) (fun j hj2 => ?_)⟩⟩
    rw [zk_si_at]
    by_cases q : j = i
    · rw [if_pos q]
    · rw [if_neg q]; exact hj j (by omega)
theorem l_pick_108 (W : zk_wo lw P c m i) {k p : Nat} {zz a b e : Int32} {t : Nat → Int32} (next : ∀ h', zk_ex [24, 25, 36] m h' → h'.1 36 = t → ∀ r' : Int32, (zk_X zk_D (zk_lkl lkX12) zk_mt (zk_cxl [(153, zk_iP pX12_within), (155, zk_iP pX12_isCard), (197, zk_iP pX12_counted), (198, zk_iP pX12_countedAll)]) (some .int) (zk_at cdX12_drawn) (zk_qi K)) 72 [some (.ref 0), some (.int (nI i)), some (.int z), some (.int a), some (.int b), some (.int e), some (.int zz), some (.int (nI (k + 1))), some (.int r'), some (.int (nI p))] [] (zk_si h' 36 p (t p + 1))) : ∀ (d o r : Nat) (h : zk_H), o + d = P → r + zk_sn (zk_wn lw m P i) o < zk_sn (zk_wn lw m P i) P → p = zk_pk (zk_wn lw m P i) d o r → zk_ex [24, 25, 36] m h → h.1 36 = t → (zk_X zk_D (zk_lkl lkX12) zk_mt (zk_cxl [(153, zk_iP pX12_within), (155, zk_iP pX12_isCard), (197, zk_iP pX12_counted), (198, zk_iP pX12_countedAll)]) (some .int) (zk_at cdX12_drawn) (zk_qi K)) 108 [some (.ref 0), some (.int (nI i)), some (.int z), some (.int a), some (.int b), some (.int e), some (.int zz), some (.int (nI k)), some (.int (nI r)), some (.int (nI o))] [] h := by
  obtain ⟨⟨hP, hi⟩, ⟨f1, f3⟩, -⟩ := id W
  intro d
  induction d with
  | zero =>
    intro o r h ho hr _ _ _
    have hoP : o = P := by omega
    subst hoP
    omega
  | succ d ih =>
    intro o r h ho hr hp he ht
    have hb := zk_al_b (lw := lw) (m := m) (i := i) hP
    unfold zk_al at hb
    have h99 := (zk_wn_b (lw := lw) (m := m) (P := P) (i := i) (o := o)).2
    refine zk_bk hX12_drawn (bX12_drawn_108 ?_)
    refine jX12_counted_u W he (by decide) (by omega) fun h1 he1 => ?_
    have he1' : zk_ex [24, 25, 36] m h1 := he.tr (he1.up (by simp))
    have ht1 : h1.1 36 = t := by rw [he1.1 36 (by decide)]; exact ht
    rw [zk_wn_b.1, nI_clamp (n := o) (by omega), ht1, nI_1, nI_1]
    refine ⟨fun q => ?_, fun q => jX12_counted_u W he1' (by decide) (by omega) fun h2 he2 => ?_⟩
    · have hlt := (nI_ltI (by omega) (by omega)).mp q
      have hpo : p = o := by rw [hp]; unfold zk_pk; rw [if_pos hlt]
      have v8 := vp_in_nI (n := o) (N := 8) (by omega) (by decide)
      rw [hpo] at next
      exact ⟨v8, v8, next h1 he1' ht1 _⟩
    · have hle : ¬ r < zk_wn lw m P i o := fun u => q ((nI_ltI (by omega) (by omega)).mpr u)
      rw [zk_wn_b.1, nI_sub (by omega)]
      refine ih (o + 1) (r - zk_wn lw m P i o) h2 (by omega) (by show r - zk_wn lw m P i o + (zk_sn (zk_wn lw m P i) o + zk_wn lw m P i o) < _; omega) ?_ (he1'.tr (he2.up (by simp))) (by rw [he2.1 36 (by decide)]; exact ht1)
      rw [hp]
      show (if _ then _ else _) = _
      rw [if_neg hle]
theorem l_max_174 {a b e f : Int32} {t : Nat → Nat} (hb : ∀ o, t o ≤ 50) (ht : ∀ o, o < 8 → h.1 36 o = nI (t o)) (H : K (nI (zk_mx t 8)) h) : ∀ (n i : Nat), i + n = 8 → (zk_X zk_D (zk_lkl lkX12) zk_mt (zk_cxl [(153, zk_iP pX12_within), (155, zk_iP pX12_isCard), (197, zk_iP pX12_counted), (198, zk_iP pX12_countedAll)]) (some .int) (zk_at cdX12_drawn) (zk_qi K)) 174 [some (.ref 0), some (.int x), some (.int z), some (.int a), some (.int b), some (.int e), some (.int f), some (.int (nI (zk_mx t i))), some (.int (nI i)), none] [] h := by
  intro n
  induction n with
  | zero =>
    intro i hi
    have hi8 : i = 8 := by omega
    subst hi8
    refine zk_bk hX12_drawn (bX12_drawn_174 ?_)
    exact ⟨fun _ => H, fun q => absurd (by decide) q⟩
  | succ n ih =>
    intro i hi
    have I := ih (i + 1) (by omega)
    have h1 := zk_mx_lt hb (n := i)
    have h2 := hb i
    have e : (if nI (zk_mx t i) < nI (t i) then nI (t i) else nI (zk_mx t i)) = nI (zk_mx t (i + 1)) := by
      show _ = nI (if zk_mx t i < t i then t i else zk_mx t i)
      by_cases u : zk_mx t i < t i
      · rw [if_pos u, if_pos (nI_lt u (by omega))]
      · rw [if_neg u, if_neg fun v => u ((nI_ltI (by omega) (by omega)).mp v)]
    refine zk_bk hX12_drawn (bX12_drawn_174 ?_)
    rw [nI_1, nI_clamp (n := i) (by omega), ht i (by omega), e]
    exact ⟨fun q => absurd q (nI_ge (b := 8) (by omega) (by decide)), fun _ => ⟨vp_in_nI (by omega) (by decide), I⟩⟩
theorem l_drawn_72 (W : zk_wo lw P c m i) {n : Nat} (hn : n ≤ 50) (hy : y < nI P) (H : ∀ h', zk_ex [24, 25, 36] m h' → K (zk_dv2 (zk_wn lw m P i) (zk_al lw m P i) P z n y) h') : ∀ (d k : Nat) (zz : Int32) (t : Nat → Nat) (h : zk_H), k + d = n → (zk_al lw m P i = 0 → k = 0) → (zk_dr (zk_wn lw m P i) (zk_al lw m P i) P z k) = (zz, t) → zk_ex [24, 25, 36] m h → (∀ o, o < 8 → h.1 36 o = nI (t o)) → (zk_X zk_D (zk_lkl lkX12) zk_mt (zk_cxl [(153, zk_iP pX12_within), (155, zk_iP pX12_isCard), (197, zk_iP pX12_counted), (198, zk_iP pX12_countedAll)]) (some .int) (zk_at cdX12_drawn) (zk_qi K)) 72 [some (.ref 0), some (.int (nI i)), some (.int z), some (.int (nI n)), some (.int y), some (.int (nI (zk_al lw m P i))), some (.int zz), some (.int (nI k)), none, none] [] h := by
  obtain ⟨⟨hP, hi⟩, ⟨f1, f3⟩, -⟩ := id W
  have hA := zk_al_b (lw := lw) (m := m) (i := i) hP
  have hs : zk_sn (zk_wn lw m P i) P = zk_al lw m P i := rfl
  have fin : ∀ (k : Nat) (zz : Int32) (t : Nat → Nat) (h : zk_H), k ≤ 50 → k = (if zk_al lw m P i = 0 then 0 else n) → (zk_dr (zk_wn lw m P i) (zk_al lw m P i) P z k) = (zz, t) → zk_ex [24, 25, 36] m h → (∀ o, o < 8 → h.1 36 o = nI (t o)) → ((y < 0 → (zk_X zk_D (zk_lkl lkX12) zk_mt (zk_cxl [(153, zk_iP pX12_within), (155, zk_iP pX12_isCard), (197, zk_iP pX12_counted), (198, zk_iP pX12_countedAll)]) (some .int) (zk_at cdX12_drawn) (zk_qi K)) 174 [some (.ref 0), some (.int (nI i)), some (.int z), some (.int (nI n)), some (.int y), some (.int (nI (zk_al lw m P i))), some (.int zz), some (.int (0 : Int32)), some (.int (0 : Int32)), none] [] h) ∧ (¬ y < 0 → (vp_in y 8 ∧ K (h.1 36 y.toNatClampNeg) h))) := by
    intro k zz t h hk50 hk et he ht
    have H2 := H h he
    unfold zk_dv2 at H2
    rw [← hk, et] at H2
    refine ⟨fun q => ?_, fun q => ?_⟩
    · rw [if_neg (Int32.not_le.mpr q)] at H2
      refine l_max_174 (t := t) (fun o => ?_) ht H2 8 0 (by omega)
      have := zk_dr_le (w := zk_wn lw m P i) (A := zk_al lw m P i) (P := P) (z := z) (i := k) (o := o)
      rw [et] at this
      exact Nat.le_trans this hk50
    · have q' := Int32.not_lt.mp q
      obtain ⟨j, hj, ej⟩ := zk_ix (by omega) q' hy
      rw [if_pos q', ej, nI_clamp (by omega)] at H2
      rw [ej, nI_clamp (by omega), ht j (by omega)]
      exact ⟨vp_in_nI (by omega) (by decide), H2⟩
  intro d
  induction d with
  | zero =>
    intro k zz t h hk hk0 et he ht
    refine zk_bk hX12_drawn (bX12_drawn_72 ?_)
    refine ⟨fun _ => fin k zz t h (by omega) (by split <;> omega) et he ht, fun q => absurd ((nI_leI (by omega) (by omega)).mpr (by omega)) q⟩
  | succ d ih =>
    intro k zz t h hk hk0 et he ht
    refine zk_bk hX12_drawn (bX12_drawn_72 ?_)
    refine ⟨fun q => absurd q (nI_ge (by omega) (by omega)), fun _ => ⟨fun q => ?_, fun q => ?_⟩⟩
    · have e0 : zk_al lw m P i = 0 := Nat.eq_zero_of_le_zero ((nI_leI (b := 0) (by omega) (by decide)).mp q)
      exact fin k zz t h (by omega) (by rw [if_pos e0]; exact hk0 e0) et he ht
    · have hp : 0 < zk_al lw m P i := Nat.pos_of_ne_zero fun z => q (by rw [z]; exact Int32.le_refl _)
      refine ⟨fun z => q (by rw [z]; exact Int32.le_refl _), ?_⟩
      rw [zk_rn_e _ hp hA]
      obtain ⟨r, hr, er⟩ : ∃ r, r < zk_al lw m P i ∧ zk_rn (zk_dz zz) % zk_al lw m P i = r := ⟨_, Nat.mod_lt _ hp, rfl⟩
      obtain ⟨p, ep⟩ : ∃ p, p = zk_pk (zk_wn lw m P i) P 0 r := ⟨_, rfl⟩
      have hpk : p < P := by rw [ep]; exact zk_pk_in hs hr
      have est : zk_dr (zk_wn lw m P i) (zk_al lw m P i) P z (k + 1) = (zk_dz zz, zk_inc t p) := by
        unfold zk_dr zk_dp
        rw [et]
        dsimp only
        rw [er, ep]
      have er' : zk_rn (zz * (1103515245 : Int32) + (12345 : Int32)) % zk_al lw m P i = r := er
      rw [er']
      refine l_pick_108 W (p := p) (t := h.1 36) (fun h' he' ht' r' => ?_) P 0 r h (by omega) (by rw [hs]; exact hr) ep he rfl
      rw [ht p (by omega), nI_1]
      refine zk_fg hX12_drawn ?_ (ih (k + 1) (zk_dz zz) (zk_inc t p) (zk_si h' 36 p (nI (t p + 1))) (by omega) (fun u => by omega) est (he'.si (by simp)) (fun o ho => ?_))
      · exact ⟨rfl, rfl, rfl, rfl, rfl, rfl, rfl, rfl, rfl, rfl, trivial⟩
      · rw [zk_si_at]
        unfold zk_inc
        by_cases e : o = p
        · rw [if_pos e, if_pos e, e]
        · rw [if_neg e, if_neg e, ht']; exact ht o ho
theorem jX6_timesDrawn {n : Nat} (W : zk_wo lw P c m i) (hn : n ≤ 50) (hy : y < nI P) (H : ∀ c', zk_ex [30, 32, 33, 37] c c' → K (zk_dv2 (zk_wn lw m P i) (zk_al lw m P i) P z n y) c') : pX6_timesDrawn [.ref 36, .int (nI i), .int z, .int (nI n), .int y] c K := by
  obtain ⟨⟨hP, hi⟩, ⟨f1, f3⟩, -⟩ := id W
  refine ⟨rfl, zk_bk hX6_timesDrawn (bX6_timesDrawn_0 ?_)⟩
  refine jJ7_fill_r37 fun c1 hc1 h1 => ?_
  refine jX10_weigh (W.ex hc1 (zk_ex.rf (S := [])) (by decide) (by decide)) fun c2 hc2 hw => ?_
  rw [zk_al_e]
  have x2 : zk_ex [30, 32, 33, 37] c c2 := (hc1.up (by simp)).tr (hc2.up (by simp))
  exact l_times_27 (c := c2) hP rfl (zk_al_b hP) (fun o => zk_wn_b.2) hn hy (by rw [x2.1 1 (by decide)]; exact f1) (fun o ho => (hw o ho).trans zk_wn_b.1) (fun c3 hc3 => H c3 (x2.tr (hc3.up (by simp)))) n 0 z (fun _ => 0) c2 (by omega) (fun _ => rfl) rfl zk_ex.rf (fun o ho => by rw [hc2.1 37 (by decide), h1 o ho]; rfl)
end ZKW
section ZK3
variable {c m : zk_H} {x y z a : Int32}
theorem e_drawn (R : zk_RR zk_lpe c m) : pX11_drawn [.ref 0, .int x, .int z, .int a, .int y] c (fun v c' => pX12_drawn [.ref 0, .int x, .int z, .int a, .int y] m (fun v' m' => v = v' ∧ zk_RR zk_lpe c' m')) := by
  obtain ⟨P, N, D, U, T, B, R8⟩ := id R
  obtain ⟨r1, -, -, -, -, -, -, lw, LL⟩ := id R8
  obtain ⟨⟨hP, hN⟩, ⟨f1, f2, f3, f4⟩, -⟩ := id r1
  have eP := zk_pm (n := P) (by omega)
  have eP2 := nI_toInt (n := P) (by omega)
  -- the reference, up to the draws
  have bad : ∀ c' : zk_H, c' = c → (zk_b (0 ≤ x ∧ x < nI N) = 0 ∨ ¬ (1 ≤ a ∧ a ≤ 50) ∨ ¬ (-1 ≤ y ∧ y < nI P)) → pX12_drawn [.ref 0, .int x, .int z, .int a, .int y] m (fun v' m' => -1 = v' ∧ zk_RR zk_lpe c' m') := by
    intro c' hc hb
    subst hc
    refine ⟨rfl, zk_bk hX12_drawn (bX12_drawn_0 ?_)⟩
    refine jX12_isCard f4 (by omega) ⟨fun _ => ⟨rfl, R⟩, fun q => jX12_within ⟨fun _ => ⟨rfl, R⟩, fun q1 => ?_⟩⟩
    rw [f3]
    refine jX12_within ⟨fun q2 => ?_, fun _ => ⟨rfl, R⟩⟩
    rcases hb with u | u | u
    · exact absurd u q
    · exact absurd (zk_b_n q1) u
    · have := zk_b_n q2
      rw [Int32.le_iff_toInt_le (y := nI P - 1), eP] at this
      rw [Int32.lt_iff_toInt_lt (y := nI P), eP2] at u
      exact absurd ⟨this.1, by omega⟩ u
  refine ⟨rfl, zk_bk hX11_drawn (bX11_drawn_0 ?_)⟩
  refine jX4_isCard ?_
  rw [f2]
  refine ⟨fun q => bad c rfl (Or.inl q), fun q => ⟨fun q1 => bad c rfl (Or.inr (Or.inl ?_)), fun q1 => ⟨fun q2 => bad c rfl (Or.inr (Or.inl ?_)), fun q2 => ⟨fun q3 => bad c rfl (Or.inr (Or.inr ?_)), fun q3 => ?_⟩⟩⟩⟩
  · exact fun u => Int32.not_le.mpr q1 u.1
  · exact fun u => Int32.not_le.mpr q2 u.2
  · exact fun u => Int32.not_le.mpr q3 u.1
  rw [f1]
  refine ⟨fun q4 => ?_, fun q4 => bad c rfl (Or.inr (Or.inr fun u => q4 u.2))⟩
  obtain ⟨i, hi, ei⟩ := zk_ix (by omega) (zk_b_n q).1 (zk_b_n q).2
  have hq := zk_b_n q
  subst ei
  have W := r1.wo LL hi
  have a1 := Int32.not_lt.mp q1
  have a2 := Int32.not_lt.mp q2
  have y1 := Int32.not_lt.mp q3
  obtain ⟨n, hn, en⟩ := zk_ix (n := 51) (x := a) (by decide) (Int32.le_trans (by decide) a1) (Int32.lt_of_le_of_lt a2 (by decide))
  subst en
  refine jX6_timesDrawn W (by omega) q4 fun c' hc => ?_
  show pX12_drawn _ _ _
  refine ⟨rfl, zk_bk hX12_drawn (bX12_drawn_0 ?_)⟩
  refine jX12_isCard f4 (by omega) ⟨fun q5 => absurd hq (zk_b_0.mp q5), fun _ => jX12_within ⟨fun q5 => absurd ⟨a1, a2⟩ (zk_b_0.mp q5), fun _ => ?_⟩⟩
  rw [f3]
  refine jX12_within ⟨fun _ => jX12_countedAll_u W (zk_ex.rf (S := [])) (by simp) fun m1 hm1 => ?_, fun q5 => absurd ⟨y1, ?_⟩ (zk_b_0.mp q5)⟩
  · refine l_dz_45 (fun m2 hm2 h0 => ?_) 8 0 (by omega) m1 zk_ex.rf (fun j hj => absurd hj (Nat.not_lt_zero _))
    exact l_drawn_72 W (by omega) q4 (fun m3 hm3 => ⟨rfl, P, N, D, U, T, B, zk_R_ex R8 hc hm3 (by decide) (by decide)⟩) n 0 z (fun _ => 0) m2 (by omega) (fun _ => rfl) rfl ((hm1.up (by simp)).tr (hm2.up (by simp))) (fun o ho => by rw [h0 o ho]; rfl)
  · rw [Int32.le_iff_toInt_le (y := nI P - 1), eP]
    rw [Int32.lt_iff_toInt_lt (y := nI P), eP2] at q4
    omega
end ZK3
