/-! WRITE: the reference's side; CALLS: write, written -/
section ZKX
variable {N w j : Nat} {m h h' : zk_H} {v to mi : Int32}
theorem zk_exv.scr {S : List Nat} (e : zk_exv N m h) (hx : zk_ex S h h') (hS : ∀ k ∈ S, k = 24 ∨ k = 25) : zk_exv N m h' := by
  refine ⟨fun k hk => ?_, fun k hk j hj => ?_, fun j h1 h2 => ?_, hx.2.trans e.2.2.2⟩
  · rw [hx.1 k fun q => ?_]
    · exact e.1 k hk
    · have := hS k q
      simp only [List.mem_cons, List.not_mem_nil, or_false] at hk
      omega
  · rw [hx.1 k fun q => ?_]
    · exact e.2.1 k hk j hj
    · have := hS k q
      simp only [List.mem_cons, List.not_mem_nil, or_false] at hk
      omega
  · rw [hx.1 0 fun q => by have := hS 0 q; omega]
    exact e.2.2.1 j h1 h2
theorem zk_exv.si0 (e : zk_exv N m h) (hj : j = 7 ∨ 53 ≤ j) : zk_exv N m (zk_si h 0 j v) := by
  refine ⟨fun k hk => ?_, fun k hk j' hj' => ?_, fun j' h1 h2 => ?_, e.2.2.2⟩
  · rw [zk_si_ne fun q => hk (by rw [q]; simp)]
    exact e.1 k hk
  · rw [zk_si_ne fun q => by rw [q] at hk; simp at hk]
    exact e.2.1 k hk j' hj'
  · rw [zk_si_at, if_neg (by omega)]
    exact e.2.2.1 j' h1 h2
theorem zk_exv.siN (e : zk_exv N m h) {a : Nat} (ha : a ∈ [7, 8, 9, 10, 11, 12, 13]) : zk_exv N m (zk_si h a N v) := by
  refine ⟨fun k hk => ?_, fun k hk j' hj' => ?_, fun j' h1 h2 => ?_, e.2.2.2⟩
  · rw [zk_si_ne fun q => hk (by
      rw [q]
      simp only [List.mem_cons, List.not_mem_nil, or_false] at ha ⊢
      omega)]
    exact e.1 k hk
  · by_cases q : k = a
    · subst q
      rw [zk_si_at, if_neg hj']
      exact e.2.1 k hk j' hj'
    · rw [zk_si_ne q]
      exact e.2.1 k hk j' hj'
  · rw [zk_si_ne fun q => by rw [← q] at ha; simp at ha]
    exact e.2.2.1 j' h1 h2
theorem zk_exv.tells (e : zk_exv N m h) : zk_exv N m (zk_mL' h N w) := ((e.siN (by simp)).siN (by simp)).siN (by simp)
theorem zk_w99 : ∀ w, w < 900 → (nI w ≤ 99 ↔ nI (w / 100) - 1 < 0) := by decide +kernel
end ZKX
section ZKW
variable {K : zk_H → Prop} {lw : Option zk_lns} {h c m : zk_H} {x y to mi : Int32} {P N i o w : Nat}
theorem l_writes_17 (r : zk_off P N c m) (LL : zk_lpd lw (c.1 28 1) (c.1 29) (m.1 0 19) (m.1 0 20) (m.1 16) (m.1 17) (m.1 18) (m.1 19)) (ho : o < P) (hto : ∃ j, j < P ∧ to = nI j) (H : ∀ h, zk_exv N m h → h.1 0 7 = nI N → zk_s0 (zk_wA lw m P N to mi o) (zk_wB lw m P N to mi) (zk_bw (zk_gd m o mi) (zk_wA lw m P N to mi o) (zk_wB lw m P N to mi) y 842) h → K h) : ∀ (n w : Nat) (h : zk_H), w + n = 842 → zk_exv N m h → h.1 0 7 = nI (N + 1) → h.1 7 N = to → h.1 8 N = mi → zk_s0 (zk_wA lw m P N to mi o) (zk_wB lw m P N to mi) (zk_bw (zk_gd m o mi) (zk_wA lw m P N to mi o) (zk_wB lw m P N to mi) y w) h → (zk_X zk_D (zk_lkl lkX12) zk_mt (zk_cxl [(160, zk_iP pX12_isWay), (163, zk_iP pX12_has), (167, zk_iP pX12_newCard), (168, zk_vP pX12_tells), (194, zk_iP pX12_isIn), (197, zk_iP pX12_counted), (198, zk_iP pX12_countedAll)]) none (zk_at cdX12_writes) (zk_qv K)) 17 [some (.ref 0), some (.int (nI o)), some (.int to), some (.int mi), some (.int y), some (.int (nI w)), none, none, none] [] h := by
  obtain ⟨⟨hP, hN⟩, ⟨f1, f2, f3, f4⟩, -⟩ := id r
  intro n
  induction n with
  | zero =>
    intro w h hw he e7 et ea st
    have hw2 : w = 842 := by omega
    subst hw2
    refine zk_bk hX12_writes (bX12_writes_17 ?_)
    refine ⟨fun _ => ?_, fun q => absurd (by decide) q⟩
    rw [e7, nI_pred]
    refine H _ (he.si0 (Or.inl rfl)) (by rw [zk_si_at, if_pos rfl]) ⟨?_, fun d hd => ?_⟩
    · rw [zk_si_at, if_neg (by decide)]; exact st.1
    · rw [zk_si_at, zk_si_at, if_neg (by decide), if_neg (by decide)]; exact st.2 d hd
  | succ n ih =>
    intro w h hw he e7 et ea st
    have go : ∀ (h' : zk_H) (F G J : Option Value), zk_nl F = true → zk_nl G = true → zk_nl J = true → zk_exv N m h' → h'.1 0 7 = nI (N + 1) → h'.1 7 N = to → h'.1 8 N = mi → zk_s0 (zk_wA lw m P N to mi o) (zk_wB lw m P N to mi) (zk_bw (zk_gd m o mi) (zk_wA lw m P N to mi o) (zk_wB lw m P N to mi) y (w + 1)) h' → (zk_X zk_D (zk_lkl lkX12) zk_mt (zk_cxl [(160, zk_iP pX12_isWay), (163, zk_iP pX12_has), (167, zk_iP pX12_newCard), (168, zk_vP pX12_tells), (194, zk_iP pX12_isIn), (197, zk_iP pX12_counted), (198, zk_iP pX12_countedAll)]) none (zk_at cdX12_writes) (zk_qv K)) 17 [some (.ref 0), some (.int (nI o)), some (.int to), some (.int mi), some (.int y), some (.int (nI w + (1 : Int32))), F, G, J] [] h' := by
      intro h' F G J hF hG hJ he' e7' et' ea' st'
      rw [nI_1]
      refine zk_fg hX12_writes ?_ (ih (w + 1) h' (by omega) he' e7' et' ea' st')
      exact ⟨rfl, rfl, rfl, rfl, rfl, rfl, hF, hG, hJ, trivial⟩
    have skip : zk_gd m o mi w = false → (zk_X zk_D (zk_lkl lkX12) zk_mt (zk_cxl [(160, zk_iP pX12_isWay), (163, zk_iP pX12_has), (167, zk_iP pX12_newCard), (168, zk_vP pX12_tells), (194, zk_iP pX12_isIn), (197, zk_iP pX12_counted), (198, zk_iP pX12_countedAll)]) none (zk_at cdX12_writes) (zk_qv K)) 17 [some (.ref 0), some (.int (nI o)), some (.int to), some (.int mi), some (.int y), some (.int (nI w + (1 : Int32))), none, none, none] [] h := by
      intro hg
      refine go h none none none rfl rfl rfl he e7 et ea ?_
      unfold zk_bw
      rw [if_neg (by rw [hg]; decide)]
      exact st
    have tl : zk_gd m o mi w = true → (pX12_tells [.ref 0, .int ((h.1 0 7) - (1 : Int32)), .int (nI w)] h (fun h3 => pX12_counted [.ref 0, .int (nI o), .int ((h3.1 0 7) - (1 : Int32))] h3 (fun v5 h4 => pX12_countedAll [.ref 0, .int ((h4.1 0 7) - (1 : Int32))] h4 (fun v7 h6 => ((v7 = 0 → (zk_X zk_D (zk_lkl lkX12) zk_mt (zk_cxl [(160, zk_iP pX12_isWay), (163, zk_iP pX12_has), (167, zk_iP pX12_newCard), (168, zk_vP pX12_tells), (194, zk_iP pX12_isIn), (197, zk_iP pX12_counted), (198, zk_iP pX12_countedAll)]) none (zk_at cdX12_writes) (zk_qv K)) 17 [some (.ref 0), some (.int (nI o)), some (.int to), some (.int mi), some (.int y), some (.int ((nI w) + (1 : Int32))), some (.int v5), some (.int v7), some (.int ((v7 * (h6.1 0 54)) - ((h6.1 0 55) * v5)))] [] h6) ∧ (¬ v7 = 0 → (((h6.1 0 53) = (-2 : Int32) → (zk_X zk_D (zk_lkl lkX12) zk_mt (zk_cxl [(160, zk_iP pX12_isWay), (163, zk_iP pX12_has), (167, zk_iP pX12_newCard), (168, zk_vP pX12_tells), (194, zk_iP pX12_isIn), (197, zk_iP pX12_counted), (198, zk_iP pX12_countedAll)]) none (zk_at cdX12_writes) (zk_qv K)) 17 [some (.ref 0), some (.int (nI o)), some (.int to), some (.int mi), some (.int y), some (.int ((nI w) + (1 : Int32))), some (.int v5), some (.int v7), some (.int ((v7 * (h6.1 0 54)) - ((h6.1 0 55) * v5)))] [] (zk_si (zk_si (zk_si h6 0 53 (nI w)) 0 54 v5) 0 55 v7)) ∧ (¬ (h6.1 0 53) = (-2 : Int32) → ((¬ y = 0 → ((0 < ((v7 * (h6.1 0 54)) - ((h6.1 0 55) * v5)) → (zk_X zk_D (zk_lkl lkX12) zk_mt (zk_cxl [(160, zk_iP pX12_isWay), (163, zk_iP pX12_has), (167, zk_iP pX12_newCard), (168, zk_vP pX12_tells), (194, zk_iP pX12_isIn), (197, zk_iP pX12_counted), (198, zk_iP pX12_countedAll)]) none (zk_at cdX12_writes) (zk_qv K)) 17 [some (.ref 0), some (.int (nI o)), some (.int to), some (.int mi), some (.int y), some (.int ((nI w) + (1 : Int32))), some (.int v5), some (.int v7), some (.int ((v7 * (h6.1 0 54)) - ((h6.1 0 55) * v5)))] [] (zk_si (zk_si (zk_si h6 0 53 (nI w)) 0 54 v5) 0 55 v7)) ∧ (¬ 0 < ((v7 * (h6.1 0 54)) - ((h6.1 0 55) * v5)) → (zk_X zk_D (zk_lkl lkX12) zk_mt (zk_cxl [(160, zk_iP pX12_isWay), (163, zk_iP pX12_has), (167, zk_iP pX12_newCard), (168, zk_vP pX12_tells), (194, zk_iP pX12_isIn), (197, zk_iP pX12_counted), (198, zk_iP pX12_countedAll)]) none (zk_at cdX12_writes) (zk_qv K)) 17 [some (.ref 0), some (.int (nI o)), some (.int to), some (.int mi), some (.int y), some (.int ((nI w) + (1 : Int32))), some (.int v5), some (.int v7), some (.int ((v7 * (h6.1 0 54)) - ((h6.1 0 55) * v5)))] [] h6))) ∧ (y = 0 → ((((v7 * (h6.1 0 54)) - ((h6.1 0 55) * v5)) < 0 → (zk_X zk_D (zk_lkl lkX12) zk_mt (zk_cxl [(160, zk_iP pX12_isWay), (163, zk_iP pX12_has), (167, zk_iP pX12_newCard), (168, zk_vP pX12_tells), (194, zk_iP pX12_isIn), (197, zk_iP pX12_counted), (198, zk_iP pX12_countedAll)]) none (zk_at cdX12_writes) (zk_qv K)) 17 [some (.ref 0), some (.int (nI o)), some (.int to), some (.int mi), some (.int y), some (.int ((nI w) + (1 : Int32))), some (.int v5), some (.int v7), some (.int ((v7 * (h6.1 0 54)) - ((h6.1 0 55) * v5)))] [] (zk_si (zk_si (zk_si h6 0 53 (nI w)) 0 54 v5) 0 55 v7)) ∧ (¬ ((v7 * (h6.1 0 54)) - ((h6.1 0 55) * v5)) < 0 → (zk_X zk_D (zk_lkl lkX12) zk_mt (zk_cxl [(160, zk_iP pX12_isWay), (163, zk_iP pX12_has), (167, zk_iP pX12_newCard), (168, zk_vP pX12_tells), (194, zk_iP pX12_isIn), (197, zk_iP pX12_counted), (198, zk_iP pX12_countedAll)]) none (zk_at cdX12_writes) (zk_qv K)) 17 [some (.ref 0), some (.int (nI o)), some (.int to), some (.int mi), some (.int y), some (.int ((nI w) + (1 : Int32))), some (.int v5), some (.int v7), some (.int ((v7 * (h6.1 0 54)) - ((h6.1 0 55) * v5)))] [] h6)))))))))))) := by
      intro hg
      rw [e7, nI_pred]
      refine jX12_tells (by omega) (by omega) ?_
      have he1 : zk_exv N m (zk_mL' h N w) := he.tells
      have lm : zk_lm1 (zk_mL' h N w) N to mi w := by
        refine ⟨?_, ?_, ?_, ?_, ?_⟩
        · rw [show (zk_mL' h N w).1 7 = h.1 7 by simp [zk_mL', zk_si]]; exact et
        · rw [show (zk_mL' h N w).1 8 = h.1 8 by simp [zk_mL', zk_si]]; exact ea
        · simp [zk_mL', zk_si]
        · simp [zk_mL', zk_si]
        · simp [zk_mL', zk_si]
      have e0 : (zk_mL' h N w).1 0 = h.1 0 := by simp [zk_mL', zk_si]
      have W : zk_wo lw P (zk_cL c N to mi w) (zk_mL' h N w) N := r.wow LL zk_exw.rf.lay he1 zk_cL_lc lm (by omega) hto
      have eA : ∀ o, zk_wt lw (zk_mL' h N w) P N o = zk_wt lw (zk_mw m N to mi w) P N o := fun o => zk_wt_mw he1 lm
      have eB : zk_al lw (zk_mL' h N w) P N = zk_wB lw m P N to mi w := by
        unfold zk_wB zk_al
        exact zk_sn_c fun o _ => by unfold zk_wn; rw [eA o]
      have eA2 : zk_wt lw (zk_mL' h N w) P N o = nI (zk_wA lw m P N to mi o w) := by rw [eA o, zk_wn_b.1]; rfl
      generalize zk_mL' h N w = h1 at he1 lm e0 W eA eB eA2
      rw [e0, e7, nI_pred]
      refine jX12_counted W zk_ex.rf ho fun h2 hx2 => ?_
      rw [hx2.1 0 (by decide), e0, e7, nI_pred]
      refine jX12_countedAll W hx2 fun h3 hx3 => ?_
      have he3 : zk_exv N m h3 := he1.scr hx3 (by decide)
      have e03 : h3.1 0 = h.1 0 := (hx3.1 0 (by decide)).trans e0
      have et3 : h3.1 7 N = to := by rw [hx3.1 7 (by decide)]; exact lm.1
      have ea3 : h3.1 8 N = mi := by rw [hx3.1 8 (by decide)]; exact lm.2.1
      rw [zk_al_e, eB, eA2]
      have hA : ∀ w, zk_wA lw m P N to mi o w ≤ 99 := fun w => zk_wn_b.2
      have hB : ∀ w, zk_wB lw m P N to mi w ≤ 792 := fun w => zk_al_b hP
      have est : zk_bw (zk_gd m o mi) (zk_wA lw m P N to mi o) (zk_wB lw m P N to mi) y (w + 1) = zk_wst (zk_wA lw m P N to mi o) (zk_wB lw m P N to mi) y w (zk_bw (zk_gd m o mi) (zk_wA lw m P N to mi o) (zk_wB lw m P N to mi) y w) := if_pos hg
      have hlt : ∀ d, zk_bw (zk_gd m o mi) (zk_wA lw m P N to mi o) (zk_wB lw m P N to mi) y w = some d → d < w := fun d hd => zk_bw_lt hd
      generalize zk_bw (zk_gd m o mi) (zk_wA lw m P N to mi o) (zk_wB lw m P N to mi) y w = b at st est hlt
      generalize zk_wA lw m P N to mi o = A at st est hA go
      generalize zk_wB lw m P N to mi = B at st est hB go
      have keep : ∀ F G J : Int32, zk_wst A B y w b = b → (zk_X zk_D (zk_lkl lkX12) zk_mt (zk_cxl [(160, zk_iP pX12_isWay), (163, zk_iP pX12_has), (167, zk_iP pX12_newCard), (168, zk_vP pX12_tells), (194, zk_iP pX12_isIn), (197, zk_iP pX12_counted), (198, zk_iP pX12_countedAll)]) none (zk_at cdX12_writes) (zk_qv K)) 17 [some (.ref 0), some (.int (nI o)), some (.int to), some (.int mi), some (.int y), some (.int (nI w + (1 : Int32))), some (.int F), some (.int G), some (.int J)] [] h3 := fun F G J e => go h3 _ _ _ rfl rfl rfl he3 (by rw [e03]; exact e7) et3 ea3 (by rw [est, e]; unfold zk_s0; rw [e03]; exact st)
      have set : ∀ F G J : Int32, zk_wst A B y w b = some w → (zk_X zk_D (zk_lkl lkX12) zk_mt (zk_cxl [(160, zk_iP pX12_isWay), (163, zk_iP pX12_has), (167, zk_iP pX12_newCard), (168, zk_vP pX12_tells), (194, zk_iP pX12_isIn), (197, zk_iP pX12_counted), (198, zk_iP pX12_countedAll)]) none (zk_at cdX12_writes) (zk_qv K)) 17 [some (.ref 0), some (.int (nI o)), some (.int to), some (.int mi), some (.int y), some (.int (nI w + (1 : Int32))), some (.int F), some (.int G), some (.int J)] [] (zk_si (zk_si (zk_si h3 0 53 (nI w)) 0 54 (nI (A w))) 0 55 (nI (B w))) := fun F G J e => go _ _ _ _ rfl rfl rfl (((he3.si0 (Or.inr (by decide))).si0 (Or.inr (by decide))).si0 (Or.inr (by decide))) (by simp [zk_si, e03, e7]) (by simp [zk_si, et3]) (by simp [zk_si, ea3]) (by
        rw [est, e]
        refine ⟨by simp [zk_si], fun d hd => ?_⟩
        cases hd
        simp [zk_si])
      rw [e03, st.1]
      refine ⟨fun q => keep _ _ _ ?_, fun q => ?_⟩
      · have hB0 : B w = 0 := (nI_eq (b := 0) (by have := hB w; omega) (by decide)).mp q
        unfold zk_wst
        rw [if_pos hB0]
      · have hB0 : ¬ B w = 0 := fun z => q (by rw [z]; rfl)
        cases b with
        | none =>
          refine ⟨fun _ => set _ _ _ ?_, fun z => absurd rfl z⟩
          unfold zk_wst
          rw [if_neg hB0]
        | some d =>
          have hd := hlt d rfl
          obtain ⟨s1, s2⟩ := st.2 d rfl
          have h1 := Nat.mul_le_mul (hA w) (hB d)
          have h2 := Nat.mul_le_mul (hA d) (hB w)
          rw [s1, s2, pk_mul, pk_mul, Nat.mul_comm (B w), Nat.mul_comm (B d)]
          obtain ⟨k1, k2, k3, k4⟩ := zk_cmp0 (a := A d * B w) (b := A w * B d) (by omega) (by omega)
          refine ⟨fun z => absurd z (zk_bo_n (show d < 2 ^ 31 by omega)), fun _ => ⟨fun q2 => ⟨fun q3 => set _ _ _ ?_, fun q3 => keep _ _ _ ?_⟩, fun q2 => ⟨fun q3 => set _ _ _ ?_, fun q3 => keep _ _ _ ?_⟩⟩⟩
          · have := k4.mp q3
            unfold zk_wst zk_bt
            rw [if_neg hB0]
            dsimp only
            rw [if_neg q2, decide_eq_true (show A w * B d < A d * B w by omega)]
            rfl
          · have : ¬ A w * B d < A d * B w := fun z => q3 (k4.mpr z)
            unfold zk_wst zk_bt
            rw [if_neg hB0]
            dsimp only
            rw [if_neg q2, decide_eq_false this]
            rfl
          · have := k3.mp q3
            unfold zk_wst zk_bt
            rw [if_neg hB0]
            dsimp only
            rw [if_pos q2, decide_eq_true this]
            rfl
          · have : ¬ A d * B w < A w * B d := fun z => q3 (k3.mpr z)
            unfold zk_wst zk_bt
            rw [if_neg hB0]
            dsimp only
            rw [if_pos q2, decide_eq_false this]
            rfl
    refine zk_bk hX12_writes (bX12_writes_17 ?_)
    refine ⟨fun q => absurd q (nI_ge (b := 842) (by omega) (by decide)), fun _ => jX12_isWay ⟨fun q => skip ?_, fun q => ?_⟩⟩
    · have q' := zk_b_0.mp q
      unfold zk_gd
      by_cases g1 : w / 10 % 10 < 5
      · by_cases g2 : w % 10 < 2
        · exact absurd (zk_yaw (by omega) g1 g2) q'
        · rw [decide_eq_false g2]; simp
      · rw [decide_eq_false g1]; simp
    · obtain ⟨n', hn', g1, g2, en⟩ := zk_way (zk_b_n q)
      have enw := (nI_eq (by omega) (by omega)).mp en
      subst enw
      rw [zk_d10 (n := w) (by omega), zk_r10 (n := w) (by omega), zk_d100 (n := w) (by omega)]
      have r0 : ¬ nI (w % 10) = 1 → nI (w % 10) = 0 := fun z => by
        have hw2 : w % 10 = 0 ∨ w % 10 = 1 := by omega
        rcases hw2 with u | u
        · rw [u]; rfl
        · rw [u] at z; exact absurd rfl z
      have r1 : nI (w % 10) = 1 → ¬ nI (w % 10) = 0 := fun z => by rw [z]; decide
      have gt : zk_wrm m o w mi → zk_gd m o mi w = true := (zk_gd_e g1 g2).mpr
      have gf : ¬ zk_wrm m o w mi → zk_gd m o mi w = false := fun z => by
        cases hh : zk_gd m o mi w
        · rfl
        · exact absurd ((zk_gd_e g1 g2).mp hh) z
      have e1 : h.1 1 = m.1 1 := he.1 1 (by simp)
      have e2 : h.1 2 = m.1 2 := he.1 2 (by simp)
      have e6 : h.1 6 = m.1 6 := he.1 6 (by simp)
      refine ⟨fun q1 => ⟨by decide, fun q2 => tl (gt ⟨Or.inl ((zk_w99 w (by omega)).mp q1), Or.inl (r0 q2)⟩), fun q2 => jX12_isIn (by omega) ⟨fun q3 => tl (gt ⟨Or.inl ((zk_w99 w (by omega)).mp q1), Or.inr (by rw [← e1, ← e2]; exact zk_b_n q3)⟩), fun q3 => skip (gf fun z => ?_)⟩⟩, fun q1 => ⟨vp_in_nI (by omega) (by decide), by decide, jX12_has ⟨fun q3 => skip (gf fun z => ?_), fun q3 => ⟨by decide, fun q2 => tl (gt ⟨Or.inr ?_, Or.inl (r0 q2)⟩), fun q2 => jX12_isIn (by omega) ⟨fun q4 => tl (gt ⟨Or.inr ?_, Or.inr (by rw [← e1, ← e2]; exact zk_b_n q4)⟩), fun q4 => skip (gf fun z => ?_)⟩⟩⟩⟩⟩
      · rcases z.2 with u | u
        · exact r1 q2 u
        · rw [← e1, ← e2] at u; exact zk_b_0.mp q3 u
      · have q3' := zk_b_0.mp q3
        rw [nI_clamp (n := o) (by omega), e6] at q3'
        rcases z.1 with u | u
        · exact q1 ((zk_w99 w (by omega)).mpr u)
        · exact q3' u
      · have q3' := zk_b_n q3
        rw [nI_clamp (n := o) (by omega), e6] at q3'
        exact q3'
      · have q3' := zk_b_n q3
        rw [nI_clamp (n := o) (by omega), e6] at q3'
        exact q3'
      · rcases z.2 with u | u
        · exact r1 q2 u
        · rw [← e1, ← e2] at u; exact zk_b_0.mp q4 u
theorem jX12_writes (r : zk_off P N c m) (LL : zk_lpd lw (c.1 28 1) (c.1 29) (m.1 0 19) (m.1 0 20) (m.1 16) (m.1 17) (m.1 18) (m.1 19)) (ho : o < P) (hto : ∃ j, j < P ∧ to = nI j) (H : ∀ h, zk_exv N m h → h.1 0 7 = nI N → zk_s0 (zk_wA lw m P N to mi o) (zk_wB lw m P N to mi) (zk_bw (zk_gd m o mi) (zk_wA lw m P N to mi o) (zk_wB lw m P N to mi) y 842) h → K h) : pX12_writes [.ref 0, .int (nI o), .int to, .int mi, .int y] m K := by
  obtain ⟨⟨hP, hN⟩, ⟨f1, f2, f3, f4⟩, -⟩ := id r
  refine ⟨rfl, zk_bk hX12_writes (bX12_writes_0 ?_)⟩
  refine jX12_newCard (w := 0) (N := N) (by decide) (by rw [zk_si_at, if_neg (by decide)]; exact f4) (by omega) ?_
  refine l_writes_17 r LL ho hto H 842 0 _ (by omega) ?_ ?_ ?_ ?_ ?_
  · exact ((((((zk_exv.rf.si0 (Or.inr (by decide))).siN (by simp)).siN (by simp)).tells).siN (by simp)).siN (by simp)).si0 (Or.inl rfl)
  · simp [zk_mN, zk_mL', zk_si]
  · simp [zk_mN, zk_mL', zk_si]
  · simp [zk_mN, zk_mL', zk_si]
  · refine ⟨?_, fun d hd => by cases hd⟩
    simp [zk_mN, zk_mL', zk_si, zk_bw]
end ZKW
section ZK3
variable {c m : zk_H} {x y z : Int32}
theorem zk_fit6 {v : Int32} : zk_b (zk_fit 6 v) = zk_b (0 ≤ v ∧ v ≤ 99) := rfl
theorem e_write (R : zk_RR zk_lpe c m) : pX11_write [.ref 0, .int x, .int y, .int z] c (fun v c' => pX12_write [.ref 0, .int x, .int y, .int z] m (fun v' m' => v = v' ∧ zk_RR zk_lpe c' m')) := by
  obtain ⟨P, N, D, U, T, B, R8⟩ := id R
  obtain ⟨r1, -, -, -, -, -, -, lw, LL⟩ := id R8
  obtain ⟨⟨hP, hN⟩, ⟨f1, f2, f3, f4⟩, -⟩ := id r1
  refine ⟨rfl, zk_bk hX11_write (bX11_write_0 ?_)⟩
  refine jX4_isTwoPeople ?_
  rw [f1]
  refine ⟨fun q => ?_, fun q => jX4_fits (w := 6) (by decide) ?_⟩
  · show pX12_write _ _ _
    refine ⟨rfl, zk_bk hX12_write (bX12_write_0 ?_)⟩
    exact jX12_areTwo f3 hP ⟨fun _ => ⟨rfl, R⟩, fun q2 => absurd (zk_b_n q2) (zk_b_0.mp q)⟩
  rw [zk_fit6]
  refine ⟨fun q1 => ?_, fun q1 => jX11_isZeroOrOne ⟨fun q2 => ?_, fun q2 => ?_⟩⟩
  · show pX12_write _ _ _
    refine ⟨rfl, zk_bk hX12_write (bX12_write_0 ?_)⟩
    exact jX12_areTwo f3 hP ⟨fun q2 => absurd (zk_b_n q) (zk_b_0.mp q2), fun _ => jX12_isMinute ⟨fun _ => ⟨rfl, R⟩, fun q2 => absurd q1 q2⟩⟩
  · obtain ⟨a1, ⟨a2, a3⟩, ⟨a4, a5⟩, a6⟩ := zk_b_n q
    obtain ⟨o, ho, eo⟩ := zk_ix (by omega) a2 a3
    obtain ⟨j, hj, ej⟩ := zk_ix (by omega) a4 a5
    refine ⟨by decide, by decide, ?_⟩
    rw [ej, eo]
    refine jX6_seekWay r1 LL ho ⟨j, hj, rfl⟩ fun c' hc sc => ?_
    show pX12_write _ _ _
    refine ⟨rfl, zk_bk hX12_write (bX12_write_0 ?_)⟩
    refine jX12_areTwo f3 hP ⟨fun q3 => absurd (zk_b_n q) (zk_b_0.mp q3), fun _ => jX12_isMinute ⟨fun q3 => absurd q3 q1, fun _ => jX12_within ⟨fun _ => ⟨by decide, by decide, ?_⟩, fun q3 => absurd (zk_b_n q2) (fun z => zk_b_0.mp q3 ?_)⟩⟩⟩
    · rw [ej, eo]
      refine jX12_writes r1 LL ho ⟨j, hj, rfl⟩ fun m' hm e7 sm => ⟨sc.1.trans sm.1.symm, P, N, D, U, T, B, zk_R_wr R8 hc hm e7⟩
    · rcases z with rfl | rfl <;> decide
  · show pX12_write _ _ _
    refine ⟨rfl, zk_bk hX12_write (bX12_write_0 ?_)⟩
    refine jX12_areTwo f3 hP ⟨fun q3 => absurd (zk_b_n q) (zk_b_0.mp q3), fun _ => jX12_isMinute ⟨fun q3 => absurd q3 q1, fun _ => jX12_within ⟨fun q3 => absurd (zk_b_n q3) fun z => zk_b_0.mp q2 ?_, fun _ => ⟨rfl, R⟩⟩⟩⟩
    ((try simp only [zk_b_0, zk_b_1] at *); simp only [Int32.lt_iff_toInt_lt, Int32.le_iff_toInt_le, ← Int32.toInt_inj, Int32.reduceToInt] at *; omega)
/-- hp as said -/
def zk_hp (z : Int32) : Prop := 0 ≤ z ∧ (z / 10 = 0 ∨ z / 10 = 1) ∧ (z - z / 10 * 10 = 0 ∨ z - z / 10 * 10 = 1)
theorem zk_hp_n (h : zk_hp z) : ∃ n, n < 20 ∧ z = nI n ∧ z / 10 = nI (n / 10) ∧ z - z / 10 * 10 = nI (n % 10) ∧ n / 10 < 2 ∧ n % 10 < 2 := by
  obtain ⟨h1, h2, h3⟩ := h
  obtain ⟨n, hn, rfl⟩ := nI_of (x := z) (Int32.not_lt.mpr h1)
  rw [zk_d10 hn] at h2 h3 ⊢
  rw [zk_r10 hn] at h3 ⊢
  have e1 : n / 10 = 0 ∨ n / 10 = 1 := h2.elim (fun q => Or.inl ((nI_eq (b := 0) (by omega) (by decide)).mp q)) (fun q => Or.inr ((nI_eq (b := 1) (by omega) (by decide)).mp q))
  have e2 : n % 10 = 0 ∨ n % 10 = 1 := h3.elim (fun q => Or.inl ((nI_eq (b := 0) (by omega) (by decide)).mp q)) (fun q => Or.inr ((nI_eq (b := 1) (by omega) (by decide)).mp q))
  exact ⟨n, by omega, rfl, rfl, rfl, by omega, by omega⟩
theorem e_written (R : zk_RR zk_lpe c m) : pX11_written [.ref 0, .int x, .int y, .int z] c (fun v c' => pX12_written [.ref 0, .int x, .int y, .int z] m (fun v' m' => v = v' ∧ zk_RR zk_lpe c' m')) := by
  obtain ⟨P, N, D, U, T, B, R8⟩ := id R
  obtain ⟨r1, -, -, -, -, -, -, lw, LL⟩ := id R8
  obtain ⟨⟨hP, hN⟩, ⟨f1, f2, f3, f4⟩, -⟩ := id r1
  have bad : (¬ (0 ≤ x ∧ (0 ≤ x / 10 ∧ x / 10 < nI P) ∧ (0 ≤ x - x / 10 * 10 ∧ x - x / 10 * 10 < nI P) ∧ ¬ x / 10 = x - x / 10 * 10) ∨ ¬ (0 ≤ y ∧ y ≤ 99) ∨ ¬ zk_hp z) → pX12_written [.ref 0, .int x, .int y, .int z] m (fun v' m' => (-9223372036854775808 : Int64) = v' ∧ zk_RR zk_lpe c m') := by
    intro hb
    refine ⟨rfl, zk_bk hX12_written (bX12_written_0 ?_)⟩
    refine jX12_areTwo f3 hP ⟨fun _ => ⟨rfl, R⟩, fun q => jX12_isMinute ⟨fun _ => ⟨rfl, R⟩, fun q1 => ⟨fun _ => ⟨rfl, R⟩, fun q2 => ⟨by decide, fun _ => ⟨rfl, R⟩, fun q3 => ⟨by decide, fun q4 => ?_, fun _ => ⟨rfl, R⟩⟩⟩⟩⟩⟩
    exfalso
    rcases hb with u | u | u
    · exact u (zk_b_n q)
    · exact u (zk_b_n q1)
    · apply u
      have q2' := Int32.not_lt.mp q2
      obtain ⟨n, hn, rfl⟩ := nI_of (x := z) q2
      unfold zk_hp
      rw [zk_d10 hn] at q3 q4 ⊢
      rw [zk_r10 hn] at q4 ⊢
      have e1 : n / 10 < 2 := by
        rcases Nat.lt_or_ge (n / 10) 2 with u | u
        · exact u
        · exact absurd ((nI_ltI (a := 1) (by decide) (by omega)).mpr (by omega)) q3
      have e2 := (nI_leI (b := 1) (by omega) (by decide)).mp q4
      refine ⟨q2', ?_, ?_⟩
      · have e3 : n / 10 = 0 ∨ n / 10 = 1 := by omega
        rcases e3 with u | u <;> rw [u]
        · exact Or.inl rfl
        · exact Or.inr rfl
      · have e3 : n % 10 = 0 ∨ n % 10 = 1 := by omega
        rcases e3 with u | u <;> rw [u]
        · exact Or.inl rfl
        · exact Or.inr rfl
  refine ⟨rfl, zk_bk hX11_written (bX11_written_0 ?_)⟩
  refine ⟨fun q0 => jX4_isTwoPeople ?_, fun q0 => ⟨by decide, jX11_isZeroOrOne ⟨fun q4 => jX4_isTwoPeople ?_, fun q4 => ⟨by decide, jX11_isZeroOrOne ⟨fun q5 => jX4_isTwoPeople ?_, fun q5 => jX4_isTwoPeople ?_⟩⟩⟩⟩⟩
  · rw [f1]
    refine ⟨fun q => bad (Or.inl (zk_b_0.mp q)), fun q => jX4_fits (w := 6) (by decide) ?_⟩
    rw [zk_fit6]
    exact ⟨fun q1 => bad (Or.inr (Or.inl (zk_b_0.mp q1))), fun q1 => ⟨fun u => absurd rfl u, fun _ => bad (Or.inr (Or.inr fun u => Int32.not_le.mpr q0 u.1))⟩⟩
  · rw [f1]
    refine ⟨fun q => bad (Or.inl (zk_b_0.mp q)), fun q => jX4_fits (w := 6) (by decide) ?_⟩
    rw [zk_fit6]
    exact ⟨fun q1 => bad (Or.inr (Or.inl (zk_b_0.mp q1))), fun q1 => ⟨fun u => absurd rfl u, fun _ => bad (Or.inr (Or.inr fun u => zk_b_0.mp q4 u.2.1))⟩⟩
  · rw [f1]
    refine ⟨fun q => bad (Or.inl (zk_b_0.mp q)), fun q => jX4_fits (w := 6) (by decide) ?_⟩
    rw [zk_fit6]
    exact ⟨fun q1 => bad (Or.inr (Or.inl (zk_b_0.mp q1))), fun q1 => ⟨fun u => absurd rfl u, fun _ => bad (Or.inr (Or.inr fun u => zk_b_0.mp q5 u.2.2))⟩⟩
  · rw [f1]
    refine ⟨fun q => bad (Or.inl (zk_b_0.mp q)), fun q => jX4_fits (w := 6) (by decide) ?_⟩
    rw [zk_fit6]
    refine ⟨fun q1 => bad (Or.inr (Or.inl (zk_b_0.mp q1))), fun q1 => ⟨fun _ => ⟨by decide, by decide, by decide, ?_⟩, fun u => absurd u (by decide)⟩⟩
    obtain ⟨n, hn, en, en1, en2, n1, n2⟩ := zk_hp_n ⟨Int32.not_lt.mp q0, zk_b_n q4, zk_b_n q5⟩
    obtain ⟨a1, ⟨a2, a3⟩, ⟨a4, a5⟩, a6⟩ := zk_b_n q
    obtain ⟨o, ho, eo⟩ := zk_ix (by omega) a2 a3
    obtain ⟨j, hj, ej⟩ := zk_ix (by omega) a4 a5
    rw [ej, eo]
    refine jX6_seekWay r1 LL ho ⟨j, hj, rfl⟩ fun c' hc sc => ⟨by decide, ?_⟩
    rw [en2]
    have hA : ∀ w, zk_wA lw m P N (nI j) y o w ≤ 99 := fun w => zk_wn_b.2
    have hB : ∀ w, zk_wB lw m P N (nI j) y w ≤ 792 := fun w => zk_al_b hP
    have ref : ∀ KL : Int64 → zk_H → Prop, (∀ m', zk_exv N m m' → m'.1 0 7 = nI N → zk_s0 (zk_wA lw m P N (nI j) y o) (zk_wB lw m P N (nI j) y) (zk_bw (zk_gd m o y) (zk_wA lw m P N (nI j) y o) (zk_wB lw m P N (nI j) y) (z / 10) 842) m' → ((¬ m'.1 0 53 = -2 → pX12_part [.int (m'.1 0 54), .int (m'.1 0 55), .int (nI (n % 10))] m' KL) ∧ (m'.1 0 53 = -2 → KL (nI (n % 10)).toInt64 m'))) → pX12_written [.ref 0, .int x, .int y, .int z] m KL := by
      intro KL hk
      refine ⟨rfl, zk_bk hX12_written (bX12_written_0 ?_)⟩
      refine jX12_areTwo f3 hP ⟨fun q3 => absurd (zk_b_n q) (zk_b_0.mp q3), fun _ => jX12_isMinute ⟨fun q3 => absurd (zk_b_n q1) (zk_b_0.mp q3), fun _ => ⟨fun q3 => absurd q3 q0, fun _ => ⟨by decide, fun q3 => ?_, fun _ => ⟨by decide, fun _ => ⟨by decide, by decide, by decide, ?_⟩, fun q3 => ?_⟩⟩⟩⟩⟩
      · rw [en1] at q3
        have := (nI_ltI (a := 1) (by decide) (by omega)).mp q3
        omega
      · rw [ej, eo]
        refine jX12_writes r1 LL ho ⟨j, hj, rfl⟩ fun m' hm e7 sm => ?_
        rw [en2]
        obtain ⟨k1, k2⟩ := hk m' hm e7 sm
        exact ⟨fun u => ⟨by decide, k1 u⟩, fun u => ⟨by decide, k2 u⟩⟩
      · rw [en2] at q3
        exact absurd ((nI_leI (b := 1) (by omega) (by decide)).mpr (by omega)) q3
    obtain ⟨s1, s2, s3⟩ := sc
    cases hb : zk_bw (zk_gd m o y) (zk_wA lw m P N (nI j) y o) (zk_wB lw m P N (nI j) y) (z / 10) 842 with
    | none =>
      rw [hb] at s2 s3 ref
      rw [s2, s3]
      refine jX10_lowestTerms (a := 0) (b := 1) (by decide) (by decide) ?_
      show pX12_written _ _ _
      refine ref _ fun m' hm e7 sm => ⟨fun u => absurd sm.1 u, fun _ => ⟨?_, P, N, D, U, T, B, zk_R_wr R8 hc hm e7⟩⟩
      have hn2 : n % 10 = 0 ∨ n % 10 = 1 := by omega
      rcases hn2 with u | u <;> rw [u] <;> decide
    | some d =>
      rw [hb] at s2 s3 ref
      have hd := zk_bw_lt hb
      rw [s2, s3]
      refine jX10_lowestTerms (hA d) (hB d) ?_
      show pX12_written _ _ _
      refine ref _ fun m' hm e7 sm => ⟨fun u => ?_, fun u => absurd (sm.1.symm.trans u) (zk_bo_n (show d < 2 ^ 31 by omega))⟩
      obtain ⟨t1, t2⟩ := sm.2 d rfl
      rw [t1, t2]
      exact jX12_part (hA d) (hB d) ⟨rfl, P, N, D, U, T, B, zk_R_wr R8 hc hm e7⟩
end ZK3
