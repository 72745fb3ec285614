/-! THE LAW FROM ITS ENTRY -/
abbrev lw_d12 : List Value := [.int 0, .null, .null, .null, .null, .null, .null, .int 0, .null, .null, .null, .null, .null, .null, .null, .null, .int 0, .int 0, .null, .int 0, .int 0, .null, .null, .null, .null, .int 0, .int 0, .int 0, .int 0, .null, .null, .null, .null, .null, .null, .null, .int 0, .int 0, .int 0, .null, .null, .int 0, .int 0, .null, .int 0, .null, .int 0, .null, .null, .null, .null, .null, .null, .int 0, .int 0, .int 0]
theorem lw_snoc {D : va_G} {cl : List vw_C} {A : Nat → Prop} {ws : va_W} {x : Nat × va_E} {H : Heap} (hP : va_P D cl (ws ++ [x]) H) (hD : va_D A (ws ++ [x])) : va_P D cl ws H ∧ va_P D cl [x] H ∧ va_D A ws ∧ va_D A [x] ∧ ∀ (k : Nat) (q : Nat × va_E), ws[k]? = some q → q.1 ≠ x.1 := by
  have hl : ∀ (k : Nat) (q : Nat × va_E), ws[k]? = some q → k < ws.length ∧ (ws ++ [x])[k]? = some q := fun k q hq => by
    have h := (List.getElem?_eq_some_iff.mp hq).1
    exact ⟨h, by rw [List.getElem?_append_left h]; exact hq⟩
  have hx : (ws ++ [x])[ws.length]? = some x := by simp
  have h1 : ∀ (k : Nat) (q : Nat × va_E), ([x] : va_W)[k]? = some q → k = 0 ∧ q = x := fun k q hq => by
    have h0 : k < 1 := (List.getElem?_eq_some_iff.mp hq).1
    obtain rfl : k = 0 := by omega
    exact ⟨rfl, (Option.some.inj hq).symm⟩
  refine ⟨fun k q hq => hP k q (hl k q hq).2, fun k q hq => ?_, ⟨fun i j p q hi hj e => hD.1 i j p q (hl i p hi).2 (hl j q hj).2 e, fun k q hq => hD.2 k q (hl k q hq).2⟩, ⟨fun i j p q hi hj _ => ((h1 i p hi).1).trans ((h1 j q hj).1).symm, fun k q hq => ?_⟩, fun k q hq e => ?_⟩
  · obtain ⟨-, rfl⟩ := h1 k q hq
    exact hP _ _ hx
  · obtain ⟨-, rfl⟩ := h1 k q hq
    exact hD.2 _ _ hx
  · have := hD.1 k ws.length q x (hl k q hq).2 hx e
    have := (hl k q hq).1
    omega
theorem lw_NWc {U : State} {g : JFrame} {mk : MethodId} {a : Array Value} (q : lw_NW U) : lw_NW (U.calling g mk a) := ⟨va_Nw.same (u := U) rfl rfl q.1, va_Nw.same (u := U) rfl rfl q.2.1, va_Nw.same (u := U) rfl rfl q.2.2.1, va_Nw.same (u := U) rfl rfl q.2.2.2⟩
theorem lw_NWw {s U : State} (hW : s.WarmedH U.vm) (q : lw_NW s) : lw_NW U := ⟨va_Nw.warmM hW q.1, va_Nw.warmM hW q.2.1, va_Nw.warmM hW q.2.2.1, va_Nw.warmM hW q.2.2.2⟩
set_option maxHeartbeats 4000000 in
set_option maxRecDepth 100000 in
theorem whole_start {p : Program} {e : Env} {s : State} {m : MethodId} {below : List Frame} {meth : Method} {c : Code} (l : Launch) (hflags : l.flags = flags0) {b L : Nat} {xs : Nat → Int32} (hL : L ≤ 3072) (C0 : lw_At p s m meth c b L xs) : W p l e room_1 s m #[Value.ref b] below meth c s.heap [] 0 0 (lw_Z below #[Value.ref b] s) (entryFrame m ([Value.ref b] : List Value).toArray 4) := by
  obtain ⟨hx, hb, hr, hml, hown, htl, hX, hbl, hlocks, hgv⟩ := id C0
  have hts : ∀ w ∈ zk_uw, w.before #[Value.ref b] s = true := fun w hw => htl w (List.mem_filter.mp hw).1
  obtain ⟨D, tA, hK⟩ := lw_K htl
  obtain ⟨ad, hBg⟩ := lw_bg (flat_of_before _ hgv) htl D tA
  have hAO : va_AO "CardUnsigned$Shelf" s := va_AO.of (htl (.arrayOver (.object "CardUnsigned$Shelf")) (List.mem_of_getElem? (i := 401) (by decide +kernel)))
  have hAOA : (Cond.arrayOver (.array .int)).before #[Value.ref b] s = true := htl (.arrayOver (.array .int)) (List.mem_of_getElem? (i := 125) (by decide +kernel))
  have hNW : lw_NW s := ⟨va_Nw.of rfl (htl _ (List.mem_of_getElem? (i := 184) (by decide +kernel))), va_Nw.of rfl (htl _ (List.mem_of_getElem? (i := 230) (by decide +kernel))), va_Nw.of rfl (htl _ (List.mem_of_getElem? (i := 376) (by decide +kernel))), va_Nw.of rfl (htl _ (List.mem_of_getElem? (i := 403) (by decide +kernel)))⟩
  have hA : ∀ q : Nat, s.heap.size ≤ q → (fun q : Nat => s.heap.size ≤ q) q := fun _ h => h
  have hS : va_S (fun q : Nat => s.heap.size ≤ q) s.heap s.heap [] := va_S.rf
  have hP : va_P D zk_cl [] s.heap := fun k q h => by simp at h
  have hD : va_D (fun q : Nat => s.heap.size ≤ q) [] := ⟨fun i j p q h => by simp at h, fun k q h => by simp at h⟩
  have hl := lv_entry ([.ref b]) (n := 4) (Nat.le_of_ble_eq_true rfl)
  rw [lg_entry_eq]
  generalize (lg_sl ([.ref b]) ++ List.replicate (4 - (lg_sl ([.ref b])).length) Slot.unset).toArray = ls at hl ⊢
  have hl : lv_has ls 4 [(0, .ref b)] := hl
  refine va_new (ci := 11) (fs := [.null, .null, .null, .null, .null, .null, .null, .null, .null, .null]) (C := RX11) (T := TX11) (N := 10) hx hb hts zk_lays11 tyX11 tyX11_ok hown (htl _ (List.mem_of_getElem? (i := 110) (by decide +kernel))) (htl _ (List.mem_of_getElem? (i := 111) (by decide +kernel))) (htl _ (List.mem_of_getElem? (i := 89) (by decide +kernel))) hK hP hD hS hA rfl fs_11 (Nat.le_of_ble_eq_true rfl) (Nat.le_of_ble_eq_true rfl) dL_0 (fun q0 H hP hD hS => ?_)
  have hP : va_P D zk_cl [(q0, .inr (11, [.null, .null, .null, .null, .null, .null, .null, .null, .null, .null]))] H := hP
  have hD : va_D (fun q : Nat => s.heap.size ≤ q) [(q0, .inr (11, [.null, .null, .null, .null, .null, .null, .null, .null, .null, .null]))] := hD
  refine W.widen (k := 1) (n := 10) (by omega) (by omega) ?_
  refine lv_dup hx hb dL_3 rfl ?_
  have hFc := va_free (wc := [(q0, .inr (11, [.null, .null, .null, .null, .null, .null, .null, .null, .null, .null]))]) hD hS hA [0] rfl
  refine va_callv (va_runI (As := []) (rest := [.ref q0]) ⟨hx, hb, hml, hown, hts⟩ (n_X11_init l D tA ad q0 H.size) (cwI 0 hts (lw_gU (zk_wi1 114 (by decide +kernel))) rfl rfl rfl (hts _ (zk_wi1 89 (by decide +kernel))) (hts _ (zk_wi1 112 (by decide +kernel))) (hts _ (zk_wi1 113 (by decide +kernel))) rfl (by decide +kernel) ⟨Nat.le_of_ble_eq_true rfl, Nat.le_of_ble_eq_true rfl⟩) ⟨fun a U g mk q => by obtain ⟨g0, g1, qP, qK, qD, x1, x2, x3, x4⟩ := q; exact ⟨g0, g1, qP, va_K.moved (u := U) (U := U.calling g mk a) (Vm.Alike.refl U.vm) qK, qD, lw_Bgc x1, va_AO.moved (u := U) (U := U.calling g mk a) (Vm.Alike.refl U.vm) x2, arrayOver_alikeB (s := U) (U := U.calling g mk a) (Vm.Alike.refl U.vm) x3, lw_NWc x4⟩, fun U hU hW => ⟨rfl, by rw [hU], by rw [hU]; exact hP, va_K.moved hW.alike hK, hD.weaken (fun _ _ _ _ => trivial), hBg.moved hW (fun q h1 h2 => by rw [hU]; exact hS.2.1 q h1 h2) (fun q h => hFc q h), va_AO.moved hW.alike hAO, arrayOver_alikeB hW.alike hAOA, lw_NWw hW hNW⟩⟩ rfl rfl hl.1 rfl (lv_room (Nat.le_of_ble_eq_true rfl)) dL_4 ⟨Nat.le_of_ble_eq_true rfl, Nat.le_of_ble_eq_true rfl⟩) hS (fun q _ h => hFc q h) hFc (fun u t H1 locs ht hvm hw hB hz1 hk1 hS => ?_)
  obtain ⟨⟨u0, ua⟩, hP1, hD1⟩ := hB
  rw [ht] at hP1
  have hPu : va_P D zk_cl (zk_w (D, tA, u) zk_C lw_c0) H1 := hP1
  have hDu : va_D (fun q : Nat => s.heap.size ≤ q) (zk_w (D, tA, u) zk_C lw_c0) := hD1.weaken (fun _ q _ h => hFc q.1 h)
  subst u0
  generalize H1 = H9 at hPu hS ⊢
  refine W.widen (k := 100) (n := 3000) (by omega) (by omega) ?_
  refine lv_astore_n (lv' := [(1, .ref (u 0)), (0, .ref b)]) hx hb dL_7 rfl hl (by decide) rfl (fun ls hl => ?_)
  refine va_new (ci := 12) (fs := lw_d12) (C := RX12) (T := TX12) (N := 56) hx hb hts zk_lays12 tyX12 tyX12_ok hown (htl _ (List.mem_of_getElem? (i := 1216) (by decide +kernel))) (htl _ (List.mem_of_getElem? (i := 1217) (by decide +kernel))) (htl _ (List.mem_of_getElem? (i := 102) (by decide +kernel))) hK hPu hDu hS hA rfl fs_12 (Nat.le_of_ble_eq_true rfl) (Nat.le_of_ble_eq_true rfl) dL_8 (fun q2 H hPn hDn hS => ?_)
  obtain ⟨pC, pN, dC, dN, apart⟩ := lw_snoc hPn hDn
  refine W.widen (k := 101) (n := 3056) (by omega) (by omega) ?_
  refine lv_dup hx hb dL_11 rfl ?_
  have hFc := va_free (wc := [(q2, .inr (12, lw_d12))]) dN hS hA [0] rfl
  refine va_callv (va_runI (As := []) (rest := [.ref q2]) ⟨hx, hb, hml, hown, hts⟩ (n_X12_init l D tA ad q2 H.size) (cwI 0 hts (lw_gU (zk_wi1 1220 (by decide +kernel))) rfl rfl rfl (hts _ (zk_wi1 102 (by decide +kernel))) (hts _ (zk_wi1 1218 (by decide +kernel))) (hts _ (zk_wi1 1219 (by decide +kernel))) rfl (by decide +kernel) ⟨Nat.le_of_ble_eq_true rfl, Nat.le_of_ble_eq_true rfl⟩) ⟨fun a U g mk q => by obtain ⟨g0, g1, qP, qK, qD⟩ := q; exact ⟨g0, g1, qP, va_K.moved (u := U) (U := U.calling g mk a) (Vm.Alike.refl U.vm) qK, qD⟩, fun U hU hW => ⟨rfl, by rw [hU], by rw [hU]; exact pN, va_K.moved hW.alike hK, dN.weaken (fun _ _ _ _ => trivial)⟩⟩ rfl rfl hl.1 rfl (lv_room (Nat.le_of_ble_eq_true rfl)) dL_12 ⟨Nat.le_of_ble_eq_true rfl, Nat.le_of_ble_eq_true rfl⟩) hS (fun q _ h => hFc q h) hFc (fun v t H1 locs ht hvm hw hB hz1 hk1 hS => ?_)
  obtain ⟨⟨v0, va⟩, hP1, hD1⟩ := hB
  rw [ht] at hP1
  subst v0
  have hnot : ∀ (k : Nat) (q : Nat × va_E), (zk_w (D, tA, u) zk_C lw_c0)[k]? = some q → q.1 < H.size ∧ ¬ va_A [(v 0, .inr (12, lw_d12))] H.size q.1 := fun k q hq => by
    have hlt := (pC k q hq).lt
    refine ⟨hlt, fun ha => ?_⟩
    rcases ha with ⟨k2, e2, h2⟩ | ha
    · have h0 : k2 < 1 := (List.getElem?_eq_some_iff.mp h2).1
      obtain rfl : k2 = 0 := by omega
      exact apart k q hq (congrArg Prod.fst (Option.some.inj h2)).symm
    · omega
  have J : lw_J s (D, tA, u) (D, tA, v) lw_c0 lw_m0 H1 locs := by
    refine ⟨pC.kept (fun k q hq => hk1 q.1 (hnot k q hq).1 (hnot k q hq).2), hP1, dC, hD1.weaken (fun _ q _ h => hFc q.1 h), fun i j hi hj e => ?_, hS⟩
    obtain ⟨t1, g1⟩ : ∃ t, zk_C.1[i]? = some t := ⟨_, List.getElem?_eq_getElem hi⟩
    obtain ⟨t2, g2⟩ : ∃ t, zk_D.1[j]? = some t := ⟨_, List.getElem?_eq_getElem hj⟩
    have h1 := hnot i _ (zk_w_get (E := (D, tA, u)) g1)
    have h2 := hD1.2 j _ (zk_w_get (E := (D, tA, v)) g2)
    exact h1.2 (by show va_A _ _ (u i); rw [show u i = v j from e]; exact h2)
  have F : lw_F (D, tA, u) (D, tA, v) s := ⟨⟨hK, lw_Bgu ua hBg⟩, hK, lw_Bgu va hBg⟩
  refine W.widen (k := 600000) (n := 7302250) (Nat.le_of_ble_eq_true rfl) (Nat.le_of_ble_eq_true rfl) ?_
  refine lv_astore_n (lv' := [(2, .ref (v 0)), (1, .ref (u 0)), (0, .ref b)]) hx hb dL_15 rfl hl (by decide) rfl (fun ls hl => ?_)
  refine lv_iconst (v := 0) hx hb dL_16 (by decide) ?_
  refine lv_istore_n (lv' := [(3, .int 0), (2, .ref (v 0)), (1, .ref (u 0)), (0, .ref b)]) hx hb dL_17 rfl hl (by decide) rfl (fun ls hl => ?_)
  exact lw_loop hL C0 F (L + 6) 0 (by omega) (by omega) lw_c0 lw_m0 H1 locs ls lw_start J (lv_sub hl [3, 2, 1, 0] rfl)
