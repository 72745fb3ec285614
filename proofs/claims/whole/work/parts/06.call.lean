/-! CALLS of the small machine are calls of the machine -/
theorem zk_gapp {big a b : List Cond} (ha : GoodIn big a) (hb : GoodIn big b) : GoodIn big (a ++ b) := fun w h => (List.mem_append.mp h).elim (ha w) (hb w)
theorem zk_A_sub {E : zk_E} {n : Nat} {A : Nat → Prop} {H0 H : Heap} {locs : List Loc} (hS : va_S A H0 H locs) : ∀ q, zk_A E n H.size q → zk_A E n H0.size q := fun q h => h.elim Or.inl (fun h => Or.inr (Nat.le_trans hS.1 h))
section ZKC
variable {p : Program} {l : Launch} {e : Env} {s : State} {m : MethodId} {args : Array Value} {below : List Frame} {meth : Method} {c : Code} {H : Heap} {locs : List Loc} {Q' : State → Prop}
variable {pc : Nat} {ls : Array Slot} {own : String} {j0 : zk_M} {w : zk_Wd} {E : zk_E} {d d0 nL : Nat} {Q : zk_Q} {mt : zk_Mt} {cx : Nat → zk_P} {L : zk_L} {st : List Value} {h : zk_H} {a i : Nat}
theorem zk_pre (Fx : zk_Fx p s m args meth c own j0 (zk_A E w.1.length s.heap.size) E) (hP : va_P E.1 zk_cl (zk_w E w h) H) (hD : va_D (zk_A E w.1.length s.heap.size) (zk_w E w h)) (hS : va_S (zk_A E w.1.length s.heap.size) s.heap H locs) (U : State) (hU : U.heap = H) (hW : s.WarmedH U.vm) : zk_B w E h H.size U := by
  obtain ⟨hx, hb, hml, hr, hlk, hown, hts, hA, hK, hBg⟩ := Fx
  exact ⟨by rw [hU], by rw [hU]; exact hP, va_K.moved hW.alike hK, hD.weaken (fun _ _ _ _ => trivial), hBg.moved hW (fun q h1 h2 => by rw [hU]; exact hS.2.1 q h1 h2) (zk_A_sub hS)⟩
theorem zk_next {r : Option Value} {st' : List Value} (hQ : zk_Qr (zk_cont (zk_Z p l e d s m args below meth c w E nL Q) pc L st') r h) (hP : va_P E.1 zk_cl (zk_w E w h) H) (hD : va_D (zk_A E w.1.length s.heap.size) (zk_w E w h)) (hS : va_S (zk_A E w.1.length s.heap.size) s.heap H locs) (hl : lv_has ls nL (zk_loc E L)) (hL : L.length = nL) :
    W p l e (zk_rm (d + 1)) s m args below meth c H locs 0 0 (MQ below (zk_QX w E Q (zk_A E w.1.length s.heap.size)) args s 0 0 (zk_A E w.1.length s.heap.size)) (F0 m (pc + 3) ls ((r.map (zk_cv E)).toList ++ st'.map (zk_cv E))) := by
  cases r with
  | none => exact hQ H locs ls hP hD hS hl hL
  | some v => cases v <;> exact hQ H locs ls hP hD hS hl hL
theorem zk_goS (Fx : zk_Fx p s m args meth c own j0 (zk_A E w.1.length s.heap.size) E) (hn0 : j0.2.2.1 = nL) (hm : zk_mtOk (mt a)) (hlk : Cond.methodLink own i (mt a).1.1 ∈ zk_uw) (hc : zk_CT w d0 (mt a).1 (cx a)) (hd : d0 ≤ d) (hdg : decode j0.2.1 pc = .ok (.invokestatic i, 3))
    (hyp : zk_callS mt cx (zk_Z p l e d s m args below meth c w E nL Q) a pc L st h) : zk_Z p l e d s m args below meth c w E nL Q pc L st h := by
  intro H locs ls hP hD hS hl hL
  obtain ⟨hb1, hyp⟩ := zk_bif hyp
  simp only [Bool.and_eq_true, Nat.ble_eq, Nat.beq_eq] at hb1
  obtain ⟨⟨hlen, hcat⟩, hrc⟩ := hb1
  obtain ⟨m1, m2, ⟨m3, m4, m5, m6, m7⟩, m8⟩ := hm
  have m8 : Cond.static (mt a).1.1 ∈ zk_uw := by
    rcases m8 with h | h | h
    · exact h.2
    · omega
    · omega
  obtain ⟨hx, hb, hml, hr, hlocks, hown, hts, hA, hK, hBg⟩ := id Fx
  refine zk_back (rest := (st.drop (mt a).2.1).map (zk_cv E)) (va_runS (As := ((st.take (mt a).2.1).reverse).map (zk_cv E)) (ws := zk_ws (mt a).1) (rm := zk_rm d) (maxL := (mt a).1.2.2.1) (bytes := (mt a).1.2.1) (ret := (mt a).1.2.2.2) (n := (mt a).2.1) ⟨hx, hb, hml, hown, hts⟩ (hc d hd l E H.size _ h _ hyp)
    (va_cwS (mt a).2.1 hts (zk_gapp (zk_goodIn (by intro w hw; simp only [List.mem_cons, List.not_mem_nil, or_false] at hw; rcases hw with rfl | rfl | rfl; exact hlk; exact m8; exact m2)) (zk_goodIn (zk_ws_uw m1))) rfl rfl rfl ⟨m4, m5, m6⟩ ⟨Nat.le_refl _, by show 8 + ((mt a).1.2.2.1 + 11) + 40 * d ≤ 40 * (d + 1); omega⟩)
    ⟨zk_blind, fun U hU hW => ⟨rfl, zk_pre Fx hP hD hS U hU hW⟩⟩ rfl (by simp; omega) (hl.1.trans hn0.symm) (by
      show st.map (zk_cv E) = _
      rw [← List.map_reverse, List.reverse_reverse, ← List.map_append, List.take_append_drop]) (lv_room (by rw [zk_cats_cv]; exact hcat)) hdg ⟨Nat.le_refl _, Nat.le_refl _⟩) hS (zk_A_sub hS) (zk_A_sub hS) (fun r h1 H1 locs1 hQ hP1 hD1 hS1 => ?_)
  exact zk_next hQ hP1 hD1 hS1 hl hL
theorem zk_recv_s {rc : Nat} {as : List Value} {f : Prop} {H : Heap} {locs : List Loc} (hyp : zk_recv w rc as f) (hK : va_K E.1 zk_cl (zk_tys E) s) (hBg : zk_Bg E (zk_A E w.1.length s.heap.size) s) (hP : va_P E.1 zk_cl (zk_w E w h) H) (hS : va_S (zk_A E w.1.length s.heap.size) s.heap H locs) {C : String}
    (hC : (rc = 100 ∧ C = "java/lang/String") ∨ (rc < 100 ∧ ∃ r, zk_cl[rc]? = some r ∧ r.1 = C)) : ∃ v vs b, as = v :: vs ∧ zk_cv E v = .ref b ∧ (∃ cell : Cell, H[b]? = some cell ∧ cell.vm.isStatics = false ∧ s.vm.findClass C = some cell.cls) ∧ f := by
  unfold zk_recv at hyp
  split at hyp
  next v vs =>
    rcases hC with ⟨rfl, rfl⟩ | ⟨hrc, r, hq, hC2⟩
    · rw [show Nat.blt 100 100 = false from rfl] at hyp
      simp only [cond_false] at hyp
      split at hyp
      next b =>
        obtain ⟨h1, h2⟩ := zk_bif hyp
        simp only [Nat.beq_eq] at h1
        subst h1
        obtain ⟨cell, g1, g2, g3, -⟩ := hBg.2.2.1.kept hS.2.1
        exact ⟨_, vs, _, rfl, rfl, ⟨cell, g1, g2, g3⟩, h2⟩
      · exact hyp.elim
    · rw [show Nat.blt rc 100 = true from Nat.blt_eq.mpr hrc] at hyp
      have hyp : zk_iso w v rc (fun _ => f) := hyp
      obtain ⟨b, e1, e2, e3⟩ := zk_iso_s (E := E) hyp
      obtain ⟨cell, g1, g2, g3⟩ := va_recv hK hP hq (zk_w_get e2)
      exact ⟨v, vs, _, rfl, e1, ⟨cell, g1, g2, by rw [← hC2]; exact g3⟩, e3⟩
  · exact hyp.elim
theorem zk_goV (Fx : zk_Fx p s m args meth c own j0 (zk_A E w.1.length s.heap.size) E) (hn0 : j0.2.2.1 = nL) (hm : zk_mtOk (mt a)) (hlk : Cond.methodLink own i (mt a).1.1 ∈ zk_uw) (hc : zk_CT w d0 (mt a).1 (cx a)) (hd : d0 ≤ d) (hdg : decode j0.2.1 pc = .ok (.invokevirtual i, 3))
    (hyp : zk_callV w mt cx (zk_Z p l e d s m args below meth c w E nL Q) a pc L st h) : zk_Z p l e d s m args below meth c w E nL Q pc L st h := by
  intro H locs ls hP hD hS hl hL
  obtain ⟨hb1, hyp⟩ := zk_bif hyp
  simp only [Bool.and_eq_true, Nat.ble_eq] at hb1
  obtain ⟨⟨hlen, hcat⟩, hrc⟩ := hb1
  obtain ⟨m1, m2, ⟨m3, m4, m5, m6, m7⟩, m8⟩ := hm
  obtain ⟨hx, hb, hml, hr, hlocks, hown, hts, hA, hK, hBg⟩ := id Fx
  obtain ⟨hC, m9, m10⟩ : (((mt a).2.2 = 100 ∧ (mt a).1.1.cls = "java/lang/String") ∨ ((mt a).2.2 < 100 ∧ ∃ r, zk_cl[(mt a).2.2]? = some r ∧ r.1 = (mt a).1.1.cls)) ∧ Cond.instanceMethod (mt a).1.1 ∈ zk_uw ∧ Cond.selects (mt a).1.1.cls (mt a).1.1 (mt a).1.1 ∈ zk_uw := by
    rcases m8 with h | h | h
    · omega
    · exact ⟨Or.inl ⟨h.1, h.2.2⟩, h.2.1⟩
    · exact ⟨Or.inr ⟨h.1, h.2.2⟩, h.2.1⟩
  obtain ⟨v, vs, b, eas, ev, hcell, hcall⟩ := zk_recv_s hyp hK hBg hP hS hC
  rw [eas] at hcall
  have hM := hc d hd l E H.size _ h _ hcall
  rw [List.map_cons, ev] at hM
  have hvl : vs.length = (mt a).2.1 := by
    have h1 := congrArg List.length eas
    simp only [List.length_reverse, List.length_take, List.length_cons] at h1
    omega
  have est : st = vs.reverse ++ v :: st.drop ((mt a).2.1 + 1) := by
    have h1 : st.take ((mt a).2.1 + 1) = vs.reverse ++ [v] := by rw [← List.reverse_reverse (st.take _), eas, List.reverse_cons]
    have h2 := List.take_append_drop ((mt a).2.1 + 1) st
    rw [h1, List.append_assoc, List.singleton_append] at h2
    exact h2.symm
  refine zk_back (rest := (st.drop ((mt a).2.1 + 1)).map (zk_cv E)) (va_runV (C := (mt a).1.1.cls) (b := b) (As := vs.map (zk_cv E)) (ws := zk_ws (mt a).1) (rm := zk_rm d) (maxL := (mt a).1.2.2.1) (bytes := (mt a).1.2.1) (ret := (mt a).1.2.2.2) (n := (mt a).2.1) ⟨hx, hb, hml, hown, hts⟩ hM
    (cwV (mt a).2.1 hts (zk_gapp (zk_goodIn (by intro w hw; simp only [List.mem_cons, List.not_mem_nil, or_false] at hw; rcases hw with rfl | rfl | rfl | rfl; exact hlk; exact m9; exact m10; exact m2)) (zk_goodIn (zk_ws_uw m1))) rfl rfl rfl ⟨rfl, m4, m5, m6⟩ ⟨Nat.le_refl _, by show 8 + ((mt a).1.2.2.1 + 11) + 40 * d ≤ 40 * (d + 1); omega⟩)
    ⟨zk_blind, hcell, fun U hU hW => ⟨rfl, zk_pre Fx hP hD hS U hU hW⟩⟩ rfl (by rw [List.length_map]; exact hvl) (hl.1.trans hn0.symm) (by
      show st.map (zk_cv E) = _
      rw [← List.map_reverse, ← ev, ← List.map_cons, ← List.map_append, ← est]) (lv_room (by rw [zk_cats_cv]; exact hcat)) hdg ⟨Nat.le_refl _, Nat.le_refl _⟩) hS (zk_A_sub hS) (zk_A_sub hS) (fun r h1 H1 locs1 hQ hP1 hD1 hS1 => ?_)
  exact zk_next hQ hP1 hD1 hS1 hl hL
end ZKC
