/-! THE LAW'S MACHINE: the class' world and the reference's, side by side in one heap; a call touches its own -/
/-- both worlds in the heap; nothing that was there before is touched -/
def lw_J (s : State) (E1 E2 : zk_E) (c m : zk_H) (H : Heap) (locs : List Loc) : Prop :=
  va_P E1.1 zk_cl (zk_w E1 zk_C c) H ∧ va_P E2.1 zk_cl (zk_w E2 zk_D m) H ∧ va_D (fun q : Nat => s.heap.size ≤ q) (zk_w E1 zk_C c) ∧ va_D (fun q : Nat => s.heap.size ≤ q) (zk_w E2 zk_D m) ∧ (∀ i j, i < zk_C.1.length → j < zk_D.1.length → E1.2.2 i ≠ E2.2.2 j) ∧ va_S (fun q : Nat => s.heap.size ≤ q) s.heap H locs
/-- what the tables say of both worlds at the start -/
def lw_F (E1 E2 : zk_E) (s : State) : Prop := (va_K E1.1 zk_cl (zk_tys E1) s ∧ zk_Bg E1 (fun q : Nat => s.heap.size ≤ q) s) ∧ va_K E2.1 zk_cl (zk_tys E2) s ∧ zk_Bg E2 (fun q : Nat => s.heap.size ≤ q) s
theorem lw_good {ws : List Cond} (h : ∀ w ∈ ws, w ∈ zk_uw) : GoodIn lw_tbl ws := fun w hw => ⟨(List.mem_filter.mp (h w hw)).1, zk_goodw (h w hw)⟩
section LWA
variable {p : Program} {l : Launch} {e : Env} {R : Room} {s : State} {m : MethodId} {args : Array Value} {below : List Frame} {meth : Method} {c : Code} {H : Heap} {locs : List Loc} {cells slots : Nat} {Q' : State → Prop}
variable {pc : Nat} {ls : Array Slot} {rest st0 : List Value} {a : Array Value} {A0 A1 : Nat → Prop} {H0 : Heap} {mc ms : Nat} {free : Addr → Prop} {w : zk_Wd} {E : zk_E} {Q : zk_Q}
/-- behind a call, with what the call left alone -/
theorem lw_back (hr : va_Run p l e R s m args below meth c H locs cells slots mc ms (F0 m pc ls st0) rest (zk_QX w E Q A1 a) free) (hS : va_S A0 H0 H locs) (hA : ∀ q, A1 q → A0 q) (hf : ∀ q, free q → A0 q)
    (kk : ∀ (r : Option Value) (h : zk_H) (H1 : Heap) (locs1 : List Loc), zk_Qr Q r h → va_P E.1 zk_cl (zk_w E w h) H1 → va_D A0 (zk_w E w h) → va_S A0 H0 H1 locs1 → (∀ q : Nat, q < H.size → ¬ A1 q → H1[q]? = H[q]?) → W p l e R s m args below meth c H1 locs1 (cells + mc) (slots + ms) Q' (F0 m (pc + 3) ls ((r.map (zk_cv E)).toList ++ rest))) : W p l e R s m args below meth c H locs cells slots Q' (F0 m pc ls st0) := by
  intro T hT X
  obtain ⟨v, st₀, t, T', L, h0, X', hL, e1, e2, ⟨⟨r, h, hv, hp, hP, hD⟩, hz, hk⟩, st⟩ := hr T hT X
  cases hv
  rw [h0] at hz hk
  obtain ⟨t2, a1, b1⟩ := kk r h T'.heap (locs ++ L) hp (by rw [e1]; exact hP) (hD.weaken fun _ _ _ hx => hA _ hx)
    ⟨Nat.le_trans hS.1 (by rw [e1]; exact hz), fun q h1 h2 => by rw [e1, hk q (Nat.lt_of_lt_of_le h1 hS.1) (fun z => h2 (hA q z))]; exact hS.2.1 q h1 h2, fun q hq => by
      rcases List.mem_append.mp hq with h | h
      · exact hS.2.2 q h
      · exact hf _ (hL q h)⟩ (fun q h1 h2 => by rw [e1]; exact hk q h1 h2) T' rfl X'
  exact ⟨t2, st t2 a1, b1⟩
/-- a call of one world's method out of the law -/
theorem lw_call {n i d : Nat} {P : zk_P} {As : List Value} {h : zk_H} (hx : p.tables.exec = Jvm.exec) (hb : c.code = code) (hml : c.maxLocals = 4) (hown : s.vm.findClass R_law = some m.cls) (hts : ∀ w ∈ lw_tbl, w.before args s = true)
    (hK : va_K E.1 zk_cl (zk_tys E) s) (hBg : zk_Bg E (fun q : Nat => s.heap.size ≤ q) s) (hP : va_P E.1 zk_cl (zk_w E w h) H) (hD : va_D (fun q : Nat => s.heap.size ≤ q) (zk_w E w h)) (hS : va_S (fun q : Nat => s.heap.size ≤ q) s.heap H locs)
    (ok : zk_OK w d n P) (hd : 40 * d + 39 ≤ 84000) (hf : d + 1 ≤ 2048) (hm : zk_mtOk (zk_mt n)) (hrc : (zk_mt n).2.2 < 100) {N : Nat} (hw0 : w.1[0]? = some ((zk_mt n).2.2 + 4, N)) (hlk : Cond.methodLink R_law i (zk_mt n).1.1 ∈ zk_uw) (hp : P (.ref 0 :: As) h Q) (hAs : As.map (zk_cv E) = As) (hlen : As.length = (zk_mt n).2.1) (hcat : zk_cats rest ≤ 8) (hls : ls.size = 4) (hst : st0 = As.reverse ++ (.ref (E.2.2 0) :: rest)) (hdg : decode code pc = .ok (.invokevirtual i, 3))
    (kk : ∀ (r : Option Value) (h' : zk_H) (H1 : Heap) (locs1 : List Loc), zk_Qr Q r h' → va_P E.1 zk_cl (zk_w E w h') H1 → va_D (fun q : Nat => s.heap.size ≤ q) (zk_w E w h') → va_S (fun q : Nat => s.heap.size ≤ q) s.heap H1 locs1 → (∀ q : Nat, q < H.size → ¬ zk_A E w.1.length H.size q → H1[q]? = H[q]?) → W p l e room_1 s m args below meth c H1 locs1 600000 7302250 Q' (F0 m (pc + 3) ls ((r.map (zk_cv E)).toList ++ rest))) : W p l e room_1 s m args below meth c H locs 600000 7302250 Q' (F0 m pc ls st0) := by
  obtain ⟨m1, m2, ⟨m3, m4, m5, m6, m7⟩, m8⟩ := hm
  obtain ⟨m9, m10, rC, hC, hC2⟩ : Cond.instanceMethod (zk_mt n).1.1 ∈ zk_uw ∧ Cond.selects (zk_mt n).1.1.cls (zk_mt n).1.1 (zk_mt n).1.1 ∈ zk_uw ∧ ∃ r, zk_cl[(zk_mt n).2.2]? = some r ∧ r.1 = (zk_mt n).1.1.cls := by
    rcases m8 with h | h | h
    · omega
    · omega
    · exact ⟨h.2.1.1, h.2.1.2, h.2.2⟩
  have hAsub : ∀ q, zk_A E w.1.length H.size q → s.heap.size ≤ q := fun q hq => by
    rcases hq with ⟨k, hk, rfl⟩ | hq
    · obtain ⟨t, ht⟩ : ∃ t, w.1[k]? = some t := ⟨_, List.getElem?_eq_getElem hk⟩
      exact hD.2 k _ (zk_w_get ht)
    · exact Nat.le_trans hS.1 hq
  have hM := ok.1 d (Nat.le_refl _) l E H.size (.ref 0 :: As) h Q hp
  rw [List.map_cons, hAs] at hM
  obtain ⟨cell, g1, g2, g3⟩ := va_recv hK hP hC (zk_w_get hw0)
  subst hst
  refine lw_back (mc := 0) (ms := 0) (rest := rest) (va_runV (C := (zk_mt n).1.1.cls) (b := E.2.2 0) (As := As) (ws := zk_ws (zk_mt n).1) (rm := zk_rm d) (maxL := (zk_mt n).1.2.2.1) (bytes := (zk_mt n).1.2.1) (ret := (zk_mt n).1.2.2.2) (n := (zk_mt n).2.1) (nL := 4) ⟨hx, hb, hml, hown, hts⟩ hM
    (cwV (zk_mt n).2.1 hts (zk_gapp (lw_good (by intro w hw; simp only [List.mem_cons, List.not_mem_nil, or_false] at hw; rcases hw with rfl | rfl | rfl | rfl; exact hlk; exact m9; exact m10; exact m2)) (lw_good (zk_ws_uw m1))) rfl rfl rfl ⟨rfl, m4, m5, m6⟩ ⟨hf, by show 8 + ((zk_mt n).1.2.2.1 + 11) + 40 * d ≤ 84000; omega⟩)
    ⟨zk_blind, ⟨cell, g1, g2, by rw [← hC2]; exact g3⟩, fun U hU hW => ⟨rfl, by rw [hU], by rw [hU]; exact hP, va_K.moved hW.alike hK, hD.weaken (fun _ _ _ _ => trivial), hBg.moved hW (fun q h1 h2 => by rw [hU]; exact hS.2.1 q h1 h2) hAsub⟩⟩ rfl hlen hls rfl (lv_room hcat) hdg ⟨Nat.le_refl _, Nat.le_refl _⟩) hS hAsub hAsub kk
end LWA
