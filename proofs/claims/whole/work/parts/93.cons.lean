/-! THE SMALL CONSTRUCTORS, and Arrays.fill. Written by wip/whole/gen93.py -/
theorem lw_gU {j0 : zk_M} (h : Cond.code j0.1 j0.2.1 j0.2.2.1 j0.2.2.2 ∈ zk_uw) : GoodIn zk_uw (zk_ws j0) := fun w hw => ⟨zk_ws_uw h w hw, zk_goodw (zk_ws_uw h w hw)⟩
theorem lw_gA {a b : List Cond} (ha : ∀ w ∈ a, w ∈ zk_uw) (hb : GoodIn zk_uw b) : GoodIn zk_uw (a ++ b) := zk_gapp (fun w hw => ⟨ha w hw, zk_goodw (ha w hw)⟩) hb
theorem lw_inner8 (c : ClassId) : Jvm.Free.Multi.innerC c 8 (defaultValue .int) = vp_cell c (8, .inl (fun _ => 0)) := by
  show ({ cls := c, slots := Array.replicate 8 (.int 0), vm := .none } : Cell) = _
  rw [arrV_new]
  rfl
theorem lw_Bgc {E : zk_E} {A : Nat → Prop} {U : State} {g : JFrame} {mk : MethodId} {a : Array Value} (q : zk_Bg E A U) : zk_Bg E A (U.calling g mk a) := by
  obtain ⟨b1, b2, b3, b4, b5, b6, b7⟩ := q
  exact ⟨fun t q hq => va_T.moved (u := U) (U := U.calling g mk a) (Vm.Alike.refl U.vm) (b1 t q hq), fun q hq => va_Z.moved (u := U) (U := U.calling g mk a) (Vm.Alike.refl U.vm) (b2 q hq), va_O.moved (u := U) (U := U.calling g mk a) (Vm.Alike.refl U.vm) b3, va_OF.moved (u := U) (U := U.calling g mk a) (Vm.Alike.refl U.vm) b4, va_OF.moved (u := U) (U := U.calling g mk a) (Vm.Alike.refl U.vm) b5, vk_R.same (u := U) (U := U.calling g mk a) rfl b6, vk_R.same (u := U) (U := U.calling g mk a) rfl b7⟩
section LWS
variable {p : Program} {l : Launch} {e : Env} {R : Room} {s : State} {m : MethodId} {args : Array Value} {below : List Frame} {meth : Method} {c : Code} {H : Heap} {locs : List Loc} {cells slots : Nat} {Q' : State → Prop}
variable {cc : ByteArray} {pc nL : Nat} {ls : Array Slot} {rest : List Value} {A : Nat → Prop} {ws : va_W} {E : zk_E} {own : String} {i : Nat}
theorem lw_len (hx : p.tables.exec = Jvm.exec) (hb : c.code = cc) (hml : c.maxLocals = nL) (hown : s.vm.findClass own = some m.cls) (hts : ∀ w ∈ zk_uw, w.before args s = true) (hK : va_K E.1 zk_cl (zk_tys E) s) (hBg : zk_Bg E A s) (hP : va_P E.1 zk_cl ws H) (hS : va_S A s.heap H locs) (hA : ∀ q, s.heap.size ≤ q → A q)
    (hlk : Cond.methodLink own i (zk_mt 263).1.1 ∈ zk_uw) (hls : ls.size = nL) (hcat : zk_cats rest ≤ 8) (hf : 3 ≤ R.frames) (hR : 8 + (20 + 11) + 80 ≤ R.locals) (hdg : decode cc pc = .ok (.invokevirtual i, 3)) (hroom : cells ≤ R.cells ∧ slots ≤ R.slots)
    (kk : ∀ (H1 : Heap) (locs1 : List Loc), va_P E.1 zk_cl ws H1 → va_S A s.heap H1 locs1 → W p l e R s m args below meth c H1 locs1 cells slots Q' (F0 m (pc + 3) ls (.int 6 :: rest))) : W p l e R s m args below meth c H locs cells slots Q' (F0 m pc ls (.ref (E.2.2 2000) :: rest)) := by
  obtain ⟨m1, m2, ⟨m3, m4, m5, m6, m7⟩, m8⟩ := zk_mt_ok 263
  have m8 : (Cond.instanceMethod (zk_mt 263).1.1 ∈ zk_uw ∧ Cond.selects (zk_mt 263).1.1.cls (zk_mt 263).1.1 (zk_mt 263).1.1 ∈ zk_uw) ∧ (zk_mt 263).1.1.cls = "java/lang/String" := by
    rcases m8 with h | h | h
    · exact absurd h.1 (by decide)
    · exact ⟨h.2.1, h.2.2⟩
    · exact absurd h.1 (by decide)
  obtain ⟨⟨m9, m10⟩, mC⟩ := m8
  obtain ⟨cell, g1, g2, g3, -⟩ := hBg.2.2.1.kept hS.2.1
  have hsub : ∀ q, zk_A E zk_0.1.length H.size q → A q := fun q hq => by
    rcases hq with ⟨k, hk, -⟩ | hq
    · exact absurd hk (Nat.not_lt_zero k)
    · exact hA q (Nat.le_trans hS.1 hq)
  have hM := ok0_length.1 2 (Nat.le_refl _) l E H.size [.ref 2000] (fun _ _ => 0, fun _ _ => 0) (fun v _ => v = 6, fun _ _ => False, fun _ _ => False, fun _ _ => False) e0_length
  have h0 : va_P E.1 zk_cl (zk_w E zk_0 (fun _ _ => 0, fun _ _ => 0)) H := fun k q hq => by simp [zk_w, zk_0] at hq
  have d0 : va_D (fun _ => True) (zk_w E zk_0 (fun _ _ => 0, fun _ _ => 0)) := ⟨fun i j x y hi => by simp [zk_w, zk_0] at hi, fun k q hq => by simp [zk_w, zk_0] at hq⟩
  refine lw_back (mc := 0) (ms := 0) (rest := rest) (va_runV (C := (zk_mt 263).1.1.cls) (b := E.2.2 2000) (As := []) (ws := zk_ws (zk_mt 263).1) (rm := zk_rm 2) (maxL := (zk_mt 263).1.2.2.1) (bytes := (zk_mt 263).1.2.1) (ret := (zk_mt 263).1.2.2.2) (n := (zk_mt 263).2.1) (nL := nL) ⟨hx, hb, hml, hown, hts⟩ hM
    (cwV (zk_mt 263).2.1 hts (lw_gA (by intro w hw; simp only [List.mem_cons, List.not_mem_nil, or_false] at hw; rcases hw with rfl | rfl | rfl | rfl; exact hlk; exact m9; exact m10; exact m2) (lw_gU m1)) rfl rfl rfl ⟨rfl, m4, m5, m6⟩ ⟨hf, by show 8 + ((zk_mt 263).1.2.2.1 + 11) + 80 ≤ R.locals; omega⟩)
    ⟨zk_blind, ⟨cell, g1, g2, by rw [mC]; exact g3⟩, fun U hU hW => ⟨rfl, by rw [hU], by rw [hU]; exact h0, va_K.moved hW.alike hK, d0, hBg.moved hW (fun q h1 h2 => by rw [hU]; exact hS.2.1 q h1 h2) hsub⟩⟩ rfl rfl hls rfl (lv_room hcat) hdg ⟨hroom.1, hroom.2⟩) hS hsub hsub (fun r h1 H1 locs1 hQ _ _ hS1 hk => ?_)
  have hr : r = some (.int 6) := by
    cases r with
    | none => exact False.elim hQ
    | some v => cases v <;> first | exact congrArg (fun x => some (Value.int x)) hQ | exact False.elim hQ
  subst hr
  refine kk H1 locs1 (hP.kept (fun k q hq => ?_)) hS1
  have hlt := (hP k q hq).lt
  refine hk q.1 hlt (fun ha => ?_)
  rcases ha with ⟨k, hk, -⟩ | ha
  · exact absurd hk (Nat.not_lt_zero k)
  · omega
end LWS
theorem fs_4 : ∀ j, j < 3 → defaultValue (tyX4 j) = vp_V [.null, .int 0, .int 0] j := by
  intro j hj
  match j, hj with
  | 0, _ => rfl
  | 1, _ => rfl
  | 2, _ => rfl
  | n + 3, h => omega
theorem fs_1 : ∀ j, j < 7 → defaultValue (tyX1 j) = vp_V [.null, .null, .null, .null, .null, .int 0, .int 0] j := by
  intro j hj
  match j, hj with
  | 0, _ => rfl
  | 1, _ => rfl
  | 2, _ => rfl
  | 3, _ => rfl
  | 4, _ => rfl
  | 5, _ => rfl
  | 6, _ => rfl
  | n + 7, h => omega
theorem fs_5 : ∀ j, j < 12 → defaultValue (tyX5 j) = vp_V [.null, .int 0, .null, .int 0, .null, .int 0, .int 0, .int 0, .int 0, .int 0, .int 0, .int 0] j := by
  intro j hj
  match j, hj with
  | 0, _ => rfl
  | 1, _ => rfl
  | 2, _ => rfl
  | 3, _ => rfl
  | 4, _ => rfl
  | 5, _ => rfl
  | 6, _ => rfl
  | 7, _ => rfl
  | 8, _ => rfl
  | 9, _ => rfl
  | 10, _ => rfl
  | 11, _ => rfl
  | n + 12, h => omega
theorem fs_3 : ∀ j, j < 3 → defaultValue (tyX3 j) = vp_V [.null, .int 0, .null] j := by
  intro j hj
  match j, hj with
  | 0, _ => rfl
  | 1, _ => rfl
  | 2, _ => rfl
  | n + 3, h => omega
theorem fs_10 : ∀ j, j < 6 → defaultValue (tyX10 j) = vp_V [.null, .null, .null, .null, .null, .null] j := by
  intro j hj
  match j, hj with
  | 0, _ => rfl
  | 1, _ => rfl
  | 2, _ => rfl
  | 3, _ => rfl
  | 4, _ => rfl
  | 5, _ => rfl
  | n + 6, h => omega
theorem fs_6 : ∀ j, j < 6 → defaultValue (tyX6 j) = vp_V [.null, .null, .null, .int 0, .int 0, .int 0] j := by
  intro j hj
  match j, hj with
  | 0, _ => rfl
  | 1, _ => rfl
  | 2, _ => rfl
  | 3, _ => rfl
  | 4, _ => rfl
  | 5, _ => rfl
  | n + 6, h => omega
theorem fs_7 : ∀ j, j < 3 → defaultValue (tyX7 j) = vp_V [.null, .null, .null] j := by
  intro j hj
  match j, hj with
  | 0, _ => rfl
  | 1, _ => rfl
  | 2, _ => rfl
  | n + 3, h => omega
theorem fs_2 : ∀ j, j < 11 → defaultValue (tyX2 j) = vp_V [.null, .int 0, .int 0, .int 0, .int 0, .int 0, .int 0, .int 0, .int 0, .int 0, .null] j := by
  intro j hj
  match j, hj with
  | 0, _ => rfl
  | 1, _ => rfl
  | 2, _ => rfl
  | 3, _ => rfl
  | 4, _ => rfl
  | 5, _ => rfl
  | 6, _ => rfl
  | 7, _ => rfl
  | 8, _ => rfl
  | 9, _ => rfl
  | 10, _ => rfl
  | n + 11, h => omega
theorem fs_0 : ∀ j, j < 5 → defaultValue (tyX0 j) = vp_V [.null, .int 0, .null, .int 0, .int 0] j := by
  intro j hj
  match j, hj with
  | 0, _ => rfl
  | 1, _ => rfl
  | 2, _ => rfl
  | 3, _ => rfl
  | 4, _ => rfl
  | n + 5, h => omega
theorem fs_8 : ∀ j, j < 5 → defaultValue (tyX8 j) = vp_V [.int 0, .int 0, .int 0, .int 0, .null] j := by
  intro j hj
  match j, hj with
  | 0, _ => rfl
  | 1, _ => rfl
  | 2, _ => rfl
  | 3, _ => rfl
  | 4, _ => rfl
  | n + 5, h => omega
theorem fs_11 : ∀ j, j < 10 → defaultValue (tyX11 j) = vp_V [.null, .null, .null, .null, .null, .null, .null, .null, .null, .null] j := by
  intro j hj
  match j, hj with
  | 0, _ => rfl
  | 1, _ => rfl
  | 2, _ => rfl
  | 3, _ => rfl
  | 4, _ => rfl
  | 5, _ => rfl
  | 6, _ => rfl
  | 7, _ => rfl
  | 8, _ => rfl
  | 9, _ => rfl
  | n + 10, h => omega
theorem fs_12 : ∀ j, j < 56 → defaultValue (tyX12 j) = vp_V [.int 0, .null, .null, .null, .null, .null, .null, .int 0, .null, .null, .null, .null, .null, .null, .null, .null, .int 0, .int 0, .null, .int 0, .int 0, .null, .null, .null, .null, .int 0, .int 0, .int 0, .int 0, .null, .null, .null, .null, .null, .null, .null, .int 0, .int 0, .int 0, .null, .null, .int 0, .int 0, .null, .int 0, .null, .int 0, .null, .null, .null, .null, .null, .null, .int 0, .int 0, .int 0] j := by
  intro j hj
  match j, hj with
  | 0, _ => rfl
  | 1, _ => rfl
  | 2, _ => rfl
  | 3, _ => rfl
  | 4, _ => rfl
  | 5, _ => rfl
  | 6, _ => rfl
  | 7, _ => rfl
  | 8, _ => rfl
  | 9, _ => rfl
  | 10, _ => rfl
  | 11, _ => rfl
  | 12, _ => rfl
  | 13, _ => rfl
  | 14, _ => rfl
  | 15, _ => rfl
  | 16, _ => rfl
  | 17, _ => rfl
  | 18, _ => rfl
  | 19, _ => rfl
  | 20, _ => rfl
  | 21, _ => rfl
  | 22, _ => rfl
  | 23, _ => rfl
  | 24, _ => rfl
  | 25, _ => rfl
  | 26, _ => rfl
  | 27, _ => rfl
  | 28, _ => rfl
  | 29, _ => rfl
  | 30, _ => rfl
  | 31, _ => rfl
  | 32, _ => rfl
  | 33, _ => rfl
  | 34, _ => rfl
  | 35, _ => rfl
  | 36, _ => rfl
  | 37, _ => rfl
  | 38, _ => rfl
  | 39, _ => rfl
  | 40, _ => rfl
  | 41, _ => rfl
  | 42, _ => rfl
  | 43, _ => rfl
  | 44, _ => rfl
  | 45, _ => rfl
  | 46, _ => rfl
  | 47, _ => rfl
  | 48, _ => rfl
  | 49, _ => rfl
  | 50, _ => rfl
  | 51, _ => rfl
  | 52, _ => rfl
  | 53, _ => rfl
  | 54, _ => rfl
  | 55, _ => rfl
  | n + 56, h => omega
theorem dN_J7_fill_53178_0 : decode cJ7_fill_53178 0 = .ok (.iconst 0, 1) := by decide +kernel
theorem dN_J7_fill_53178_1 : decode cJ7_fill_53178 1 = .ok (.istore_n 2, 1) := by decide +kernel
theorem dN_J7_fill_53178_2 : decode cJ7_fill_53178 2 = .ok (.aload_n 0, 1) := by decide +kernel
theorem dN_J7_fill_53178_3 : decode cJ7_fill_53178 3 = .ok (.arraylength, 1) := by decide +kernel
theorem dN_J7_fill_53178_4 : decode cJ7_fill_53178 4 = .ok (.istore_n 3, 1) := by decide +kernel
theorem dN_J7_fill_53178_5 : decode cJ7_fill_53178 5 = .ok (.iload_n 2, 1) := by decide +kernel
theorem dN_J7_fill_53178_6 : decode cJ7_fill_53178 6 = .ok (.iload_n 3, 1) := by decide +kernel
theorem dN_J7_fill_53178_7 : decode cJ7_fill_53178 7 = .ok (.if_icmp .ge 13, 3) := by decide +kernel
theorem dN_J7_fill_53178_10 : decode cJ7_fill_53178 10 = .ok (.aload_n 0, 1) := by decide +kernel
theorem dN_J7_fill_53178_11 : decode cJ7_fill_53178 11 = .ok (.iload_n 2, 1) := by decide +kernel
theorem dN_J7_fill_53178_12 : decode cJ7_fill_53178 12 = .ok (.iload_n 1, 1) := by decide +kernel
theorem dN_J7_fill_53178_13 : decode cJ7_fill_53178 13 = .ok (.iastore, 1) := by decide +kernel
theorem dN_J7_fill_53178_14 : decode cJ7_fill_53178 14 = .ok (.iinc 2 1, 3) := by decide +kernel
theorem dN_J7_fill_53178_17 : decode cJ7_fill_53178 17 = .ok (.goto (-12), 3) := by decide +kernel
theorem dN_J7_fill_53178_20 : decode cJ7_fill_53178 20 = .ok (.return_, 1) := by decide +kernel
set_option maxHeartbeats 4000000 in
set_option maxRecDepth 100000 in
theorem n_J7_fill_53178 (l : Launch) (D : va_G) (tA : Nat → ClassId) (h0 : Nat) (sz : Nat) : Met l yJ7_fill_53178 (zk_ws (yJ7_fill_53178, cJ7_fill_53178, 4, none)) ({ frames := 5, cells := 0, slots := 0, locals := 200 }) (va_Pc [.ref h0, .int (-2)] (fun U => U.heap.size = sz ∧ va_P D zk_cl [(h0, .inl (tA 0, 8, .inl (fun _ => 0)))] U.heap ∧ va_K D zk_cl (lw_ty tA) U ∧ va_D (fun _ => True) [(h0, .inl (tA 0, 8, .inl (fun _ => 0)))])) (va_Qv (fun _ : Unit => True) (fun _ t => va_P D zk_cl [(h0, .inl (tA 0, 8, .inl (upd (upd (upd (upd (upd (upd (upd (upd (fun _ => 0) (0 : Int32).toNatClampNeg (-2)) (1 : Int32).toNatClampNeg (-2)) (2 : Int32).toNatClampNeg (-2)) (3 : Int32).toNatClampNeg (-2)) (4 : Int32).toNatClampNeg (-2)) (5 : Int32).toNatClampNeg (-2)) (6 : Int32).toNatClampNeg (-2)) (7 : Int32).toNatClampNeg (-2))))] t.heap ∧ va_D (va_A [(h0, .inl (tA 0, 8, .inl (fun _ => 0)))] sz) [(h0, .inl (tA 0, 8, .inl (upd (upd (upd (upd (upd (upd (upd (upd (fun _ => 0) (0 : Int32).toNatClampNeg (-2)) (1 : Int32).toNatClampNeg (-2)) (2 : Int32).toNatClampNeg (-2)) (3 : Int32).toNatClampNeg (-2)) (4 : Int32).toNatClampNeg (-2)) (5 : Int32).toNatClampNeg (-2)) (6 : Int32).toNatClampNeg (-2)) (7 : Int32).toNatClampNeg (-2))))]) (va_A [(h0, .inl (tA 0, 8, .inl (fun _ => 0)))] sz)) 0 0 (va_A [(h0, .inl (tA 0, 8, .inl (fun _ => 0)))] sz) := by
  refine Met.ofW (cc := cJ7_fill_53178) (maxL := 4) (ret := none) (by decide +kernel) rfl ?_
  intro p e s m args below meth c s₁ B hml hv
  obtain ⟨rfl, hsz, hP, hK, hD0⟩ := hv
  have hx := B.exec
  have hb := B.bytes
  have hr := B.returns
  have hts : ∀ w ∈ zk_uw, w.before #[.ref h0, .int (-2)] s = true := fun w hw => atoms_spec (ws := zk_ws (yJ7_fill_53178, cJ7_fill_53178, 4, none)) B.pre w (List.mem_cons_of_mem _ hw)
  have hown : s.vm.findClass RJ7 = some m.cls := findClass_of_methodNamed B.named
  subst hsz
  have hD := hD0.self (sz := s.heap.size)
  generalize hAe : va_A [(h0, .inl (tA 0, 8, .inl (fun _ => 0)))] s.heap.size = A at hD ⊢
  have hA : ∀ q : Nat, s.heap.size ≤ q → A q := fun q h => by rw [← hAe]; exact Or.inr h
  have hS : va_S A s.heap s.heap [] := va_S.rf
  have hP : va_P D zk_cl [(h0, .inl (tA 0, 8, .inl (fun _ => 0)))] s.heap := hP
  have hl := lv_entry ([.ref h0, .int (-2)]) (n := 4) (Nat.le_of_ble_eq_true rfl)
  rw [lg_entry_eq]
  generalize (lg_sl ([.ref h0, .int (-2)]) ++ List.replicate (4 - (lg_sl ([.ref h0, .int (-2)])).length) Slot.unset).toArray = ls at hl ⊢
  have hl : lv_has ls 4 [(0, .ref h0), (1, .int (-2))] := hl
  refine lv_iconst (v := 0) hx hb dN_J7_fill_53178_0 (by decide) ?_
  refine lv_istore_n (lv' := [(2, .int 0), (0, .ref h0), (1, .int (-2))]) hx hb dN_J7_fill_53178_1 rfl hl (by decide) rfl (fun ls hl => ?_)
  refine lv_aload_n hx hb dN_J7_fill_53178_2 rfl (lv_at hl 1 rfl) ?_
  refine va_alen (v := 8) hx hb hK hP 0 0 rfl rfl rfl dN_J7_fill_53178_3 ?_
  refine lv_istore_n (lv' := [(3, .int 8), (2, .int 0), (0, .ref h0), (1, .int (-2))]) hx hb dN_J7_fill_53178_4 rfl hl (by decide) rfl (fun ls hl => ?_)
  refine lv_iload_n hx hb dN_J7_fill_53178_5 rfl (lv_at hl 1 rfl) ?_
  refine lv_iload_n hx hb dN_J7_fill_53178_6 rfl (lv_at hl 0 rfl) ?_
  refine lv_icmp_ge (tgt := 20) hx hb dN_J7_fill_53178_7 (by decide) (fun hc => absurd hc (show ¬ (8 : Int32) ≤ 0 by decide)) (fun hc => ?_)
  refine lv_aload_n hx hb dN_J7_fill_53178_10 rfl (lv_at hl 2 rfl) ?_
  refine lv_iload_n hx hb dN_J7_fill_53178_11 rfl (lv_at hl 1 rfl) ?_
  refine lv_iload_n hx hb dN_J7_fill_53178_12 rfl (lv_at hl 3 rfl) ?_
  refine va_iast hx hb hK hP hD hS 0 0 rfl rfl (by unfold vp_in; decide) dN_J7_fill_53178_13 (fun H locs hP hD hS => ?_)
  have hP : va_P D zk_cl [(h0, .inl (tA 0, 8, .inl (upd (fun _ => 0) (0 : Int32).toNatClampNeg (-2))))] H := hP
  have hD : va_D A [(h0, .inl (tA 0, 8, .inl (upd (fun _ => 0) (0 : Int32).toNatClampNeg (-2))))] := hD
  refine lv_iinc (v := 1) (lv' := [(2, .int 1), (3, .int 8), (0, .ref h0), (1, .int (-2))]) hx hb dN_J7_fill_53178_14 hl (k := 1) rfl (by decide) (by decide) rfl (fun ls hl => ?_)
  refine lv_goto (tgt := 5) hx hb dN_J7_fill_53178_17 (by decide) ?_
  refine lv_iload_n hx hb dN_J7_fill_53178_5 rfl (lv_at hl 0 rfl) ?_
  refine lv_iload_n hx hb dN_J7_fill_53178_6 rfl (lv_at hl 1 rfl) ?_
  refine lv_icmp_ge (tgt := 20) hx hb dN_J7_fill_53178_7 (by decide) (fun hc => absurd hc (show ¬ (8 : Int32) ≤ 1 by decide)) (fun hc => ?_)
  refine lv_aload_n hx hb dN_J7_fill_53178_10 rfl (lv_at hl 2 rfl) ?_
  refine lv_iload_n hx hb dN_J7_fill_53178_11 rfl (lv_at hl 0 rfl) ?_
  refine lv_iload_n hx hb dN_J7_fill_53178_12 rfl (lv_at hl 3 rfl) ?_
  refine va_iast hx hb hK hP hD hS 0 0 rfl rfl (by unfold vp_in; decide) dN_J7_fill_53178_13 (fun H locs hP hD hS => ?_)
  have hP : va_P D zk_cl [(h0, .inl (tA 0, 8, .inl (upd (upd (fun _ => 0) (0 : Int32).toNatClampNeg (-2)) (1 : Int32).toNatClampNeg (-2))))] H := hP
  have hD : va_D A [(h0, .inl (tA 0, 8, .inl (upd (upd (fun _ => 0) (0 : Int32).toNatClampNeg (-2)) (1 : Int32).toNatClampNeg (-2))))] := hD
  refine lv_iinc (v := 2) (lv' := [(2, .int 2), (3, .int 8), (0, .ref h0), (1, .int (-2))]) hx hb dN_J7_fill_53178_14 hl (k := 0) rfl (by decide) (by decide) rfl (fun ls hl => ?_)
  refine lv_goto (tgt := 5) hx hb dN_J7_fill_53178_17 (by decide) ?_
  refine lv_iload_n hx hb dN_J7_fill_53178_5 rfl (lv_at hl 0 rfl) ?_
  refine lv_iload_n hx hb dN_J7_fill_53178_6 rfl (lv_at hl 1 rfl) ?_
  refine lv_icmp_ge (tgt := 20) hx hb dN_J7_fill_53178_7 (by decide) (fun hc => absurd hc (show ¬ (8 : Int32) ≤ 2 by decide)) (fun hc => ?_)
  refine lv_aload_n hx hb dN_J7_fill_53178_10 rfl (lv_at hl 2 rfl) ?_
  refine lv_iload_n hx hb dN_J7_fill_53178_11 rfl (lv_at hl 0 rfl) ?_
  refine lv_iload_n hx hb dN_J7_fill_53178_12 rfl (lv_at hl 3 rfl) ?_
  refine va_iast hx hb hK hP hD hS 0 0 rfl rfl (by unfold vp_in; decide) dN_J7_fill_53178_13 (fun H locs hP hD hS => ?_)
  have hP : va_P D zk_cl [(h0, .inl (tA 0, 8, .inl (upd (upd (upd (fun _ => 0) (0 : Int32).toNatClampNeg (-2)) (1 : Int32).toNatClampNeg (-2)) (2 : Int32).toNatClampNeg (-2))))] H := hP
  have hD : va_D A [(h0, .inl (tA 0, 8, .inl (upd (upd (upd (fun _ => 0) (0 : Int32).toNatClampNeg (-2)) (1 : Int32).toNatClampNeg (-2)) (2 : Int32).toNatClampNeg (-2))))] := hD
  refine lv_iinc (v := 3) (lv' := [(2, .int 3), (3, .int 8), (0, .ref h0), (1, .int (-2))]) hx hb dN_J7_fill_53178_14 hl (k := 0) rfl (by decide) (by decide) rfl (fun ls hl => ?_)
  refine lv_goto (tgt := 5) hx hb dN_J7_fill_53178_17 (by decide) ?_
  refine lv_iload_n hx hb dN_J7_fill_53178_5 rfl (lv_at hl 0 rfl) ?_
  refine lv_iload_n hx hb dN_J7_fill_53178_6 rfl (lv_at hl 1 rfl) ?_
  refine lv_icmp_ge (tgt := 20) hx hb dN_J7_fill_53178_7 (by decide) (fun hc => absurd hc (show ¬ (8 : Int32) ≤ 3 by decide)) (fun hc => ?_)
  refine lv_aload_n hx hb dN_J7_fill_53178_10 rfl (lv_at hl 2 rfl) ?_
  refine lv_iload_n hx hb dN_J7_fill_53178_11 rfl (lv_at hl 0 rfl) ?_
  refine lv_iload_n hx hb dN_J7_fill_53178_12 rfl (lv_at hl 3 rfl) ?_
  refine va_iast hx hb hK hP hD hS 0 0 rfl rfl (by unfold vp_in; decide) dN_J7_fill_53178_13 (fun H locs hP hD hS => ?_)
  have hP : va_P D zk_cl [(h0, .inl (tA 0, 8, .inl (upd (upd (upd (upd (fun _ => 0) (0 : Int32).toNatClampNeg (-2)) (1 : Int32).toNatClampNeg (-2)) (2 : Int32).toNatClampNeg (-2)) (3 : Int32).toNatClampNeg (-2))))] H := hP
  have hD : va_D A [(h0, .inl (tA 0, 8, .inl (upd (upd (upd (upd (fun _ => 0) (0 : Int32).toNatClampNeg (-2)) (1 : Int32).toNatClampNeg (-2)) (2 : Int32).toNatClampNeg (-2)) (3 : Int32).toNatClampNeg (-2))))] := hD
  refine lv_iinc (v := 4) (lv' := [(2, .int 4), (3, .int 8), (0, .ref h0), (1, .int (-2))]) hx hb dN_J7_fill_53178_14 hl (k := 0) rfl (by decide) (by decide) rfl (fun ls hl => ?_)
  refine lv_goto (tgt := 5) hx hb dN_J7_fill_53178_17 (by decide) ?_
  refine lv_iload_n hx hb dN_J7_fill_53178_5 rfl (lv_at hl 0 rfl) ?_
  refine lv_iload_n hx hb dN_J7_fill_53178_6 rfl (lv_at hl 1 rfl) ?_
  refine lv_icmp_ge (tgt := 20) hx hb dN_J7_fill_53178_7 (by decide) (fun hc => absurd hc (show ¬ (8 : Int32) ≤ 4 by decide)) (fun hc => ?_)
  refine lv_aload_n hx hb dN_J7_fill_53178_10 rfl (lv_at hl 2 rfl) ?_
  refine lv_iload_n hx hb dN_J7_fill_53178_11 rfl (lv_at hl 0 rfl) ?_
  refine lv_iload_n hx hb dN_J7_fill_53178_12 rfl (lv_at hl 3 rfl) ?_
  refine va_iast hx hb hK hP hD hS 0 0 rfl rfl (by unfold vp_in; decide) dN_J7_fill_53178_13 (fun H locs hP hD hS => ?_)
  have hP : va_P D zk_cl [(h0, .inl (tA 0, 8, .inl (upd (upd (upd (upd (upd (fun _ => 0) (0 : Int32).toNatClampNeg (-2)) (1 : Int32).toNatClampNeg (-2)) (2 : Int32).toNatClampNeg (-2)) (3 : Int32).toNatClampNeg (-2)) (4 : Int32).toNatClampNeg (-2))))] H := hP
  have hD : va_D A [(h0, .inl (tA 0, 8, .inl (upd (upd (upd (upd (upd (fun _ => 0) (0 : Int32).toNatClampNeg (-2)) (1 : Int32).toNatClampNeg (-2)) (2 : Int32).toNatClampNeg (-2)) (3 : Int32).toNatClampNeg (-2)) (4 : Int32).toNatClampNeg (-2))))] := hD
  refine lv_iinc (v := 5) (lv' := [(2, .int 5), (3, .int 8), (0, .ref h0), (1, .int (-2))]) hx hb dN_J7_fill_53178_14 hl (k := 0) rfl (by decide) (by decide) rfl (fun ls hl => ?_)
  refine lv_goto (tgt := 5) hx hb dN_J7_fill_53178_17 (by decide) ?_
  refine lv_iload_n hx hb dN_J7_fill_53178_5 rfl (lv_at hl 0 rfl) ?_
  refine lv_iload_n hx hb dN_J7_fill_53178_6 rfl (lv_at hl 1 rfl) ?_
  refine lv_icmp_ge (tgt := 20) hx hb dN_J7_fill_53178_7 (by decide) (fun hc => absurd hc (show ¬ (8 : Int32) ≤ 5 by decide)) (fun hc => ?_)
  refine lv_aload_n hx hb dN_J7_fill_53178_10 rfl (lv_at hl 2 rfl) ?_
  refine lv_iload_n hx hb dN_J7_fill_53178_11 rfl (lv_at hl 0 rfl) ?_
  refine lv_iload_n hx hb dN_J7_fill_53178_12 rfl (lv_at hl 3 rfl) ?_
  refine va_iast hx hb hK hP hD hS 0 0 rfl rfl (by unfold vp_in; decide) dN_J7_fill_53178_13 (fun H locs hP hD hS => ?_)
  have hP : va_P D zk_cl [(h0, .inl (tA 0, 8, .inl (upd (upd (upd (upd (upd (upd (fun _ => 0) (0 : Int32).toNatClampNeg (-2)) (1 : Int32).toNatClampNeg (-2)) (2 : Int32).toNatClampNeg (-2)) (3 : Int32).toNatClampNeg (-2)) (4 : Int32).toNatClampNeg (-2)) (5 : Int32).toNatClampNeg (-2))))] H := hP
  have hD : va_D A [(h0, .inl (tA 0, 8, .inl (upd (upd (upd (upd (upd (upd (fun _ => 0) (0 : Int32).toNatClampNeg (-2)) (1 : Int32).toNatClampNeg (-2)) (2 : Int32).toNatClampNeg (-2)) (3 : Int32).toNatClampNeg (-2)) (4 : Int32).toNatClampNeg (-2)) (5 : Int32).toNatClampNeg (-2))))] := hD
  refine lv_iinc (v := 6) (lv' := [(2, .int 6), (3, .int 8), (0, .ref h0), (1, .int (-2))]) hx hb dN_J7_fill_53178_14 hl (k := 0) rfl (by decide) (by decide) rfl (fun ls hl => ?_)
  refine lv_goto (tgt := 5) hx hb dN_J7_fill_53178_17 (by decide) ?_
  refine lv_iload_n hx hb dN_J7_fill_53178_5 rfl (lv_at hl 0 rfl) ?_
  refine lv_iload_n hx hb dN_J7_fill_53178_6 rfl (lv_at hl 1 rfl) ?_
  refine lv_icmp_ge (tgt := 20) hx hb dN_J7_fill_53178_7 (by decide) (fun hc => absurd hc (show ¬ (8 : Int32) ≤ 6 by decide)) (fun hc => ?_)
  refine lv_aload_n hx hb dN_J7_fill_53178_10 rfl (lv_at hl 2 rfl) ?_
  refine lv_iload_n hx hb dN_J7_fill_53178_11 rfl (lv_at hl 0 rfl) ?_
  refine lv_iload_n hx hb dN_J7_fill_53178_12 rfl (lv_at hl 3 rfl) ?_
  refine va_iast hx hb hK hP hD hS 0 0 rfl rfl (by unfold vp_in; decide) dN_J7_fill_53178_13 (fun H locs hP hD hS => ?_)
  have hP : va_P D zk_cl [(h0, .inl (tA 0, 8, .inl (upd (upd (upd (upd (upd (upd (upd (fun _ => 0) (0 : Int32).toNatClampNeg (-2)) (1 : Int32).toNatClampNeg (-2)) (2 : Int32).toNatClampNeg (-2)) (3 : Int32).toNatClampNeg (-2)) (4 : Int32).toNatClampNeg (-2)) (5 : Int32).toNatClampNeg (-2)) (6 : Int32).toNatClampNeg (-2))))] H := hP
  have hD : va_D A [(h0, .inl (tA 0, 8, .inl (upd (upd (upd (upd (upd (upd (upd (fun _ => 0) (0 : Int32).toNatClampNeg (-2)) (1 : Int32).toNatClampNeg (-2)) (2 : Int32).toNatClampNeg (-2)) (3 : Int32).toNatClampNeg (-2)) (4 : Int32).toNatClampNeg (-2)) (5 : Int32).toNatClampNeg (-2)) (6 : Int32).toNatClampNeg (-2))))] := hD
  refine lv_iinc (v := 7) (lv' := [(2, .int 7), (3, .int 8), (0, .ref h0), (1, .int (-2))]) hx hb dN_J7_fill_53178_14 hl (k := 0) rfl (by decide) (by decide) rfl (fun ls hl => ?_)
  refine lv_goto (tgt := 5) hx hb dN_J7_fill_53178_17 (by decide) ?_
  refine lv_iload_n hx hb dN_J7_fill_53178_5 rfl (lv_at hl 0 rfl) ?_
  refine lv_iload_n hx hb dN_J7_fill_53178_6 rfl (lv_at hl 1 rfl) ?_
  refine lv_icmp_ge (tgt := 20) hx hb dN_J7_fill_53178_7 (by decide) (fun hc => absurd hc (show ¬ (8 : Int32) ≤ 7 by decide)) (fun hc => ?_)
  refine lv_aload_n hx hb dN_J7_fill_53178_10 rfl (lv_at hl 2 rfl) ?_
  refine lv_iload_n hx hb dN_J7_fill_53178_11 rfl (lv_at hl 0 rfl) ?_
  refine lv_iload_n hx hb dN_J7_fill_53178_12 rfl (lv_at hl 3 rfl) ?_
  refine va_iast hx hb hK hP hD hS 0 0 rfl rfl (by unfold vp_in; decide) dN_J7_fill_53178_13 (fun H locs hP hD hS => ?_)
  have hP : va_P D zk_cl [(h0, .inl (tA 0, 8, .inl (upd (upd (upd (upd (upd (upd (upd (upd (fun _ => 0) (0 : Int32).toNatClampNeg (-2)) (1 : Int32).toNatClampNeg (-2)) (2 : Int32).toNatClampNeg (-2)) (3 : Int32).toNatClampNeg (-2)) (4 : Int32).toNatClampNeg (-2)) (5 : Int32).toNatClampNeg (-2)) (6 : Int32).toNatClampNeg (-2)) (7 : Int32).toNatClampNeg (-2))))] H := hP
  have hD : va_D A [(h0, .inl (tA 0, 8, .inl (upd (upd (upd (upd (upd (upd (upd (upd (fun _ => 0) (0 : Int32).toNatClampNeg (-2)) (1 : Int32).toNatClampNeg (-2)) (2 : Int32).toNatClampNeg (-2)) (3 : Int32).toNatClampNeg (-2)) (4 : Int32).toNatClampNeg (-2)) (5 : Int32).toNatClampNeg (-2)) (6 : Int32).toNatClampNeg (-2)) (7 : Int32).toNatClampNeg (-2))))] := hD
  refine lv_iinc (v := 8) (lv' := [(2, .int 8), (3, .int 8), (0, .ref h0), (1, .int (-2))]) hx hb dN_J7_fill_53178_14 hl (k := 0) rfl (by decide) (by decide) rfl (fun ls hl => ?_)
  refine lv_goto (tgt := 5) hx hb dN_J7_fill_53178_17 (by decide) ?_
  refine lv_iload_n hx hb dN_J7_fill_53178_5 rfl (lv_at hl 0 rfl) ?_
  refine lv_iload_n hx hb dN_J7_fill_53178_6 rfl (lv_at hl 1 rfl) ?_
  refine lv_icmp_ge (tgt := 20) hx hb dN_J7_fill_53178_7 (by decide) (fun hc => ?_) (fun hc => absurd (show (8 : Int32) ≤ 8 by decide) hc)
  have hP9 := hP.sub (ws' := [(h0, .inl (tA 0, 8, .inl (upd (upd (upd (upd (upd (upd (upd (upd (fun _ => 0) (0 : Int32).toNatClampNeg (-2)) (1 : Int32).toNatClampNeg (-2)) (2 : Int32).toNatClampNeg (-2)) (3 : Int32).toNatClampNeg (-2)) (4 : Int32).toNatClampNeg (-2)) (5 : Int32).toNatClampNeg (-2)) (6 : Int32).toNatClampNeg (-2)) (7 : Int32).toNatClampNeg (-2))))]) [0] rfl
  have hD9 := hD.sub (ws' := [(h0, .inl (tA 0, 8, .inl (upd (upd (upd (upd (upd (upd (upd (upd (fun _ => 0) (0 : Int32).toNatClampNeg (-2)) (1 : Int32).toNatClampNeg (-2)) (2 : Int32).toNatClampNeg (-2)) (3 : Int32).toNatClampNeg (-2)) (4 : Int32).toNatClampNeg (-2)) (5 : Int32).toNatClampNeg (-2)) (6 : Int32).toNatClampNeg (-2)) (7 : Int32).toNatClampNeg (-2))))]) [0] (by decide) rfl
  exact W.vret hx hb hr (fun t ht hW => ⟨⟨(), rfl, trivial, by rw [ht]; exact hP9, hD9⟩, hS.F ht⟩) hS.2.2 dN_J7_fill_53178_20
abbrev cX0_init : ByteArray := prog_2_method_1_code
def yX0_init : MethodName := ⟨RX0, "<init>", "()V"⟩
theorem dN_X0_init_0 : decode cX0_init 0 = .ok (.aload_n 0, 1) := by decide +kernel
theorem dN_X0_init_1 : decode cX0_init 1 = .ok (.invokespecial 1, 3) := by decide +kernel
theorem dN_X0_init_4 : decode cX0_init 4 = .ok (.aload_n 0, 1) := by decide +kernel
theorem dN_X0_init_5 : decode cX0_init 5 = .ok (.bipush 50, 2) := by decide +kernel
theorem dN_X0_init_7 : decode cX0_init 7 = .ok (.newarray .int, 2) := by decide +kernel
theorem dN_X0_init_9 : decode cX0_init 9 = .ok (.putfield 9, 3) := by decide +kernel
theorem dN_X0_init_12 : decode cX0_init 12 = .ok (.aload_n 0, 1) := by decide +kernel
theorem dN_X0_init_13 : decode cX0_init 13 = .ok (.bipush 24, 2) := by decide +kernel
theorem dN_X0_init_15 : decode cX0_init 15 = .ok (.newarray .int, 2) := by decide +kernel
theorem dN_X0_init_17 : decode cX0_init 17 = .ok (.putfield 13, 3) := by decide +kernel
theorem dN_X0_init_20 : decode cX0_init 20 = .ok (.return_, 1) := by decide +kernel
set_option maxHeartbeats 4000000 in
set_option maxRecDepth 100000 in
theorem n_X0_init (l : Launch) (D : va_G) (tA : Nat → ClassId) (h0 : Nat) (sz : Nat) : Met l yX0_init (zk_ws (yX0_init, cX0_init, 1, none)) ({ frames := 5, cells := 2, slots := 74, locals := 200 }) (va_Pc [.ref h0] (fun U => U.heap.size = sz ∧ va_P D zk_cl [(h0, .inr (0, [.null, .int 0, .null, .int 0, .int 0]))] U.heap ∧ va_K D zk_cl (lw_ty tA) U ∧ va_D (fun _ => True) [(h0, .inr (0, [.null, .int 0, .null, .int 0, .int 0]))])) (va_Qv (fun _ : Nat × Nat => True) (fun u t => va_P D zk_cl [(h0, .inr (0, [.ref (u.1), .int 0, .ref (u.2), .int 0, .int 0])), ((u.1), .inl (tA 0, 50, .inl (fun _ => 0))), ((u.2), .inl (tA 0, 24, .inl (fun _ => 0)))] t.heap ∧ va_D (va_A [(h0, .inr (0, [.null, .int 0, .null, .int 0, .int 0]))] sz) [(h0, .inr (0, [.ref (u.1), .int 0, .ref (u.2), .int 0, .int 0])), ((u.1), .inl (tA 0, 50, .inl (fun _ => 0))), ((u.2), .inl (tA 0, 24, .inl (fun _ => 0)))]) (va_A [(h0, .inr (0, [.null, .int 0, .null, .int 0, .int 0]))] sz)) 2 74 (va_A [(h0, .inr (0, [.null, .int 0, .null, .int 0, .int 0]))] sz) := by
  refine Met.ofW (cc := cX0_init) (maxL := 1) (ret := none) (by decide +kernel) rfl ?_
  intro p e s m args below meth c s₁ B hml hv
  obtain ⟨rfl, hsz, hP, hK, hD0⟩ := hv
  have hx := B.exec
  have hb := B.bytes
  have hr := B.returns
  have hts : ∀ w ∈ zk_uw, w.before #[.ref h0] s = true := fun w hw => atoms_spec (ws := zk_ws (yX0_init, cX0_init, 1, none)) B.pre w (List.mem_cons_of_mem _ hw)
  have hown : s.vm.findClass RX0 = some m.cls := findClass_of_methodNamed B.named
  have hin : meth.name = "<init>" := (name_of_methodNamed B.named B.method).1
  subst hsz
  have hD := hD0.self (sz := s.heap.size)
  generalize hAe : va_A [(h0, .inr (0, [.null, .int 0, .null, .int 0, .int 0]))] s.heap.size = A at hD ⊢
  have hA : ∀ q : Nat, s.heap.size ≤ q → A q := fun q h => by rw [← hAe]; exact Or.inr h
  have hS : va_S A s.heap s.heap [] := va_S.rf
  have hP : va_P D zk_cl [(h0, .inr (0, [.null, .int 0, .null, .int 0, .int 0]))] s.heap := hP
  have hl := lv_entry ([.ref h0]) (n := 1) (Nat.le_of_ble_eq_true rfl)
  rw [lg_entry_eq]
  generalize (lg_sl ([.ref h0]) ++ List.replicate (1 - (lg_sl ([.ref h0])).length) Slot.unset).toArray = ls at hl ⊢
  have hl : lv_has ls 1 [(0, .ref h0)] := hl
  refine lv_aload_n hx hb dN_X0_init_0 rfl (lv_at hl 0 rfl) ?_
  refine W.objInit hx hb hown (hts _ (zk_wi1 379 (by decide +kernel))) (hts _ lw_obj.1) (hts _ lw_obj.2) rfl (by rw [hml]; exact hl.1) rfl dN_X0_init_1 (Nat.le_of_ble_eq_true rfl) (Nat.le_of_ble_eq_true rfl) ?_
  refine W.eq (g2 := F0 m 4 ls []) rfl ?_
  refine lv_aload_n hx hb dN_X0_init_4 rfl (lv_at hl 0 rfl) ?_
  refine lv_bipush (v := 50) hx hb dN_X0_init_5 (by decide) ?_
  refine lw_newi hx hb hts hK hP hD hS hA 0 rfl 50 (by decide) (by decide) (Nat.le_of_ble_eq_true rfl) (Nat.le_of_ble_eq_true rfl) (Nat.le_of_ble_eq_true rfl) dN_X0_init_7 (fun q1 H hP hD hS => ?_)
  have hP : va_P D zk_cl [(h0, .inr (0, [.null, .int 0, .null, .int 0, .int 0])), (q1, .inl (tA 0, 50, .inl (fun _ => 0)))] H := hP
  have hD : va_D A [(h0, .inr (0, [.null, .int 0, .null, .int 0, .int 0])), (q1, .inl (tA 0, 50, .inl (fun _ => 0)))] := hD
  refine W.widen (k := 1) (n := 50) (by omega) (by omega) ?_
  refine va_putF (D := D) (ci := 0) (v := .ref q1) (ty := .array .int) (C := RX0) (T := TX0) (N := 5) hx hb hts zk_lays0 tyX0 tyX0_ok nmX0 hown hK hP hD hS 0 rfl rfl 0 (by decide) (hts _ (zk_wi1 380 (by decide +kernel))) (fun _ h9 => h9) rfl hin rfl (by decide +kernel) rfl rfl (Nat.le_of_ble_eq_true rfl) dN_X0_init_9 (fun H locs hP hD hS => ?_)
  have hP : va_P D zk_cl [(h0, .inr (0, [.ref q1, .int 0, .null, .int 0, .int 0])), (q1, .inl (tA 0, 50, .inl (fun _ => 0)))] H := hP
  have hD : va_D A [(h0, .inr (0, [.ref q1, .int 0, .null, .int 0, .int 0])), (q1, .inl (tA 0, 50, .inl (fun _ => 0)))] := hD
  refine lv_aload_n hx hb dN_X0_init_12 rfl (lv_at hl 0 rfl) ?_
  refine lv_bipush (v := 24) hx hb dN_X0_init_13 (by decide) ?_
  refine lw_newi hx hb hts hK hP hD hS hA 0 rfl 24 (by decide) (by decide) (Nat.le_of_ble_eq_true rfl) (Nat.le_of_ble_eq_true rfl) (Nat.le_of_ble_eq_true rfl) dN_X0_init_15 (fun q2 H hP hD hS => ?_)
  have hP : va_P D zk_cl [(h0, .inr (0, [.ref q1, .int 0, .null, .int 0, .int 0])), (q1, .inl (tA 0, 50, .inl (fun _ => 0))), (q2, .inl (tA 0, 24, .inl (fun _ => 0)))] H := hP
  have hD : va_D A [(h0, .inr (0, [.ref q1, .int 0, .null, .int 0, .int 0])), (q1, .inl (tA 0, 50, .inl (fun _ => 0))), (q2, .inl (tA 0, 24, .inl (fun _ => 0)))] := hD
  refine W.widen (k := 2) (n := 74) (by omega) (by omega) ?_
  refine va_putF (D := D) (ci := 0) (v := .ref q2) (ty := .array .int) (C := RX0) (T := TX0) (N := 5) hx hb hts zk_lays0 tyX0 tyX0_ok nmX0 hown hK hP hD hS 0 rfl rfl 2 (by decide) (hts _ (zk_wi1 384 (by decide +kernel))) (fun _ h9 => h9) rfl hin rfl (by decide +kernel) rfl rfl (Nat.le_of_ble_eq_true rfl) dN_X0_init_17 (fun H locs hP hD hS => ?_)
  have hP : va_P D zk_cl [(h0, .inr (0, [.ref q1, .int 0, .ref q2, .int 0, .int 0])), (q1, .inl (tA 0, 50, .inl (fun _ => 0))), (q2, .inl (tA 0, 24, .inl (fun _ => 0)))] H := hP
  have hD : va_D A [(h0, .inr (0, [.ref q1, .int 0, .ref q2, .int 0, .int 0])), (q1, .inl (tA 0, 50, .inl (fun _ => 0))), (q2, .inl (tA 0, 24, .inl (fun _ => 0)))] := hD
  have hP9 := hP.sub (ws' := [(h0, .inr (0, [.ref q1, .int 0, .ref q2, .int 0, .int 0])), (q1, .inl (tA 0, 50, .inl (fun _ => 0))), (q2, .inl (tA 0, 24, .inl (fun _ => 0)))]) [0, 1, 2] rfl
  have hD9 := hD.sub (ws' := [(h0, .inr (0, [.ref q1, .int 0, .ref q2, .int 0, .int 0])), (q1, .inl (tA 0, 50, .inl (fun _ => 0))), (q2, .inl (tA 0, 24, .inl (fun _ => 0)))]) [0, 1, 2] (by decide) rfl
  exact W.vret hx hb hr (fun t ht hW => ⟨⟨(q1, q2), rfl, trivial, by rw [ht]; exact hP9, hD9⟩, hS.F ht⟩) hS.2.2 dN_X0_init_20
abbrev cX1_init : ByteArray := prog_3_method_1_code
def yX1_init : MethodName := ⟨RX1, "<init>", "(LCardUnsigned$Office;)V"⟩
theorem dN_X1_init_0 : decode cX1_init 0 = .ok (.aload_n 0, 1) := by decide +kernel
theorem dN_X1_init_1 : decode cX1_init 1 = .ok (.invokespecial 1, 3) := by decide +kernel
theorem dN_X1_init_4 : decode cX1_init 4 = .ok (.aload_n 0, 1) := by decide +kernel
theorem dN_X1_init_5 : decode cX1_init 5 = .ok (.bipush 40, 2) := by decide +kernel
theorem dN_X1_init_7 : decode cX1_init 7 = .ok (.newarray .int, 2) := by decide +kernel
theorem dN_X1_init_9 : decode cX1_init 9 = .ok (.putfield 9, 3) := by decide +kernel
theorem dN_X1_init_12 : decode cX1_init 12 = .ok (.aload_n 0, 1) := by decide +kernel
theorem dN_X1_init_13 : decode cX1_init 13 = .ok (.bipush 40, 2) := by decide +kernel
theorem dN_X1_init_15 : decode cX1_init 15 = .ok (.newarray .int, 2) := by decide +kernel
theorem dN_X1_init_17 : decode cX1_init 17 = .ok (.putfield 13, 3) := by decide +kernel
theorem dN_X1_init_20 : decode cX1_init 20 = .ok (.aload_n 0, 1) := by decide +kernel
theorem dN_X1_init_21 : decode cX1_init 21 = .ok (.bipush 40, 2) := by decide +kernel
theorem dN_X1_init_23 : decode cX1_init 23 = .ok (.newarray .int, 2) := by decide +kernel
theorem dN_X1_init_25 : decode cX1_init 25 = .ok (.putfield 16, 3) := by decide +kernel
theorem dN_X1_init_28 : decode cX1_init 28 = .ok (.aload_n 0, 1) := by decide +kernel
theorem dN_X1_init_29 : decode cX1_init 29 = .ok (.bipush 40, 2) := by decide +kernel
theorem dN_X1_init_31 : decode cX1_init 31 = .ok (.newarray .int, 2) := by decide +kernel
theorem dN_X1_init_33 : decode cX1_init 33 = .ok (.putfield 19, 3) := by decide +kernel
theorem dN_X1_init_36 : decode cX1_init 36 = .ok (.aload_n 0, 1) := by decide +kernel
theorem dN_X1_init_37 : decode cX1_init 37 = .ok (.aload_n 1, 1) := by decide +kernel
theorem dN_X1_init_38 : decode cX1_init 38 = .ok (.putfield 22, 3) := by decide +kernel
theorem dN_X1_init_41 : decode cX1_init 41 = .ok (.return_, 1) := by decide +kernel
set_option maxHeartbeats 4000000 in
set_option maxRecDepth 100000 in
theorem n_X1_init (l : Launch) (D : va_G) (tA : Nat → ClassId) (h0 g1 : Nat) (sz : Nat) : Met l yX1_init (zk_ws (yX1_init, cX1_init, 2, none)) ({ frames := 5, cells := 4, slots := 160, locals := 200 }) (va_Pc [.ref h0, .ref g1] (fun U => U.heap.size = sz ∧ va_P D zk_cl [(h0, .inr (1, [.null, .null, .null, .null, .null, .int 0, .int 0]))] U.heap ∧ va_K D zk_cl (lw_ty tA) U ∧ va_D (fun _ => True) [(h0, .inr (1, [.null, .null, .null, .null, .null, .int 0, .int 0]))])) (va_Qv (fun _ : Nat × Nat × Nat × Nat => True) (fun u t => va_P D zk_cl [(h0, .inr (1, [.ref g1, .ref (u.1), .ref (u.2.1), .ref (u.2.2.1), .ref (u.2.2.2), .int 0, .int 0])), ((u.1), .inl (tA 0, 40, .inl (fun _ => 0))), ((u.2.1), .inl (tA 0, 40, .inl (fun _ => 0))), ((u.2.2.1), .inl (tA 0, 40, .inl (fun _ => 0))), ((u.2.2.2), .inl (tA 0, 40, .inl (fun _ => 0)))] t.heap ∧ va_D (va_A [(h0, .inr (1, [.null, .null, .null, .null, .null, .int 0, .int 0]))] sz) [(h0, .inr (1, [.ref g1, .ref (u.1), .ref (u.2.1), .ref (u.2.2.1), .ref (u.2.2.2), .int 0, .int 0])), ((u.1), .inl (tA 0, 40, .inl (fun _ => 0))), ((u.2.1), .inl (tA 0, 40, .inl (fun _ => 0))), ((u.2.2.1), .inl (tA 0, 40, .inl (fun _ => 0))), ((u.2.2.2), .inl (tA 0, 40, .inl (fun _ => 0)))]) (va_A [(h0, .inr (1, [.null, .null, .null, .null, .null, .int 0, .int 0]))] sz)) 4 160 (va_A [(h0, .inr (1, [.null, .null, .null, .null, .null, .int 0, .int 0]))] sz) := by
  refine Met.ofW (cc := cX1_init) (maxL := 2) (ret := none) (by decide +kernel) rfl ?_
  intro p e s m args below meth c s₁ B hml hv
  obtain ⟨rfl, hsz, hP, hK, hD0⟩ := hv
  have hx := B.exec
  have hb := B.bytes
  have hr := B.returns
  have hts : ∀ w ∈ zk_uw, w.before #[.ref h0, .ref g1] s = true := fun w hw => atoms_spec (ws := zk_ws (yX1_init, cX1_init, 2, none)) B.pre w (List.mem_cons_of_mem _ hw)
  have hown : s.vm.findClass RX1 = some m.cls := findClass_of_methodNamed B.named
  have hin : meth.name = "<init>" := (name_of_methodNamed B.named B.method).1
  subst hsz
  have hD := hD0.self (sz := s.heap.size)
  generalize hAe : va_A [(h0, .inr (1, [.null, .null, .null, .null, .null, .int 0, .int 0]))] s.heap.size = A at hD ⊢
  have hA : ∀ q : Nat, s.heap.size ≤ q → A q := fun q h => by rw [← hAe]; exact Or.inr h
  have hS : va_S A s.heap s.heap [] := va_S.rf
  have hP : va_P D zk_cl [(h0, .inr (1, [.null, .null, .null, .null, .null, .int 0, .int 0]))] s.heap := hP
  have hl := lv_entry ([.ref h0, .ref g1]) (n := 2) (Nat.le_of_ble_eq_true rfl)
  rw [lg_entry_eq]
  generalize (lg_sl ([.ref h0, .ref g1]) ++ List.replicate (2 - (lg_sl ([.ref h0, .ref g1])).length) Slot.unset).toArray = ls at hl ⊢
  have hl : lv_has ls 2 [(0, .ref h0), (1, .ref g1)] := hl
  refine lv_aload_n hx hb dN_X1_init_0 rfl (lv_at hl 0 rfl) ?_
  refine W.objInit hx hb hown (hts _ (zk_wi1 157 (by decide +kernel))) (hts _ lw_obj.1) (hts _ lw_obj.2) rfl (by rw [hml]; exact hl.1) rfl dN_X1_init_1 (Nat.le_of_ble_eq_true rfl) (Nat.le_of_ble_eq_true rfl) ?_
  refine W.eq (g2 := F0 m 4 ls []) rfl ?_
  refine lv_aload_n hx hb dN_X1_init_4 rfl (lv_at hl 0 rfl) ?_
  refine lv_bipush (v := 40) hx hb dN_X1_init_5 (by decide) ?_
  refine lw_newi hx hb hts hK hP hD hS hA 0 rfl 40 (by decide) (by decide) (Nat.le_of_ble_eq_true rfl) (Nat.le_of_ble_eq_true rfl) (Nat.le_of_ble_eq_true rfl) dN_X1_init_7 (fun q1 H hP hD hS => ?_)
  have hP : va_P D zk_cl [(h0, .inr (1, [.null, .null, .null, .null, .null, .int 0, .int 0])), (q1, .inl (tA 0, 40, .inl (fun _ => 0)))] H := hP
  have hD : va_D A [(h0, .inr (1, [.null, .null, .null, .null, .null, .int 0, .int 0])), (q1, .inl (tA 0, 40, .inl (fun _ => 0)))] := hD
  refine W.widen (k := 1) (n := 40) (by omega) (by omega) ?_
  refine va_putF (D := D) (ci := 1) (v := .ref q1) (ty := .array .int) (C := RX1) (T := TX1) (N := 7) hx hb hts zk_lays1 tyX1 tyX1_ok nmX1 hown hK hP hD hS 0 rfl rfl 1 (by decide) (hts _ (zk_wi1 159 (by decide +kernel))) (fun _ h9 => h9) rfl hin rfl (by decide +kernel) rfl rfl (Nat.le_of_ble_eq_true rfl) dN_X1_init_9 (fun H locs hP hD hS => ?_)
  have hP : va_P D zk_cl [(h0, .inr (1, [.null, .ref q1, .null, .null, .null, .int 0, .int 0])), (q1, .inl (tA 0, 40, .inl (fun _ => 0)))] H := hP
  have hD : va_D A [(h0, .inr (1, [.null, .ref q1, .null, .null, .null, .int 0, .int 0])), (q1, .inl (tA 0, 40, .inl (fun _ => 0)))] := hD
  refine lv_aload_n hx hb dN_X1_init_12 rfl (lv_at hl 0 rfl) ?_
  refine lv_bipush (v := 40) hx hb dN_X1_init_13 (by decide) ?_
  refine lw_newi hx hb hts hK hP hD hS hA 0 rfl 40 (by decide) (by decide) (Nat.le_of_ble_eq_true rfl) (Nat.le_of_ble_eq_true rfl) (Nat.le_of_ble_eq_true rfl) dN_X1_init_15 (fun q2 H hP hD hS => ?_)
  have hP : va_P D zk_cl [(h0, .inr (1, [.null, .ref q1, .null, .null, .null, .int 0, .int 0])), (q1, .inl (tA 0, 40, .inl (fun _ => 0))), (q2, .inl (tA 0, 40, .inl (fun _ => 0)))] H := hP
  have hD : va_D A [(h0, .inr (1, [.null, .ref q1, .null, .null, .null, .int 0, .int 0])), (q1, .inl (tA 0, 40, .inl (fun _ => 0))), (q2, .inl (tA 0, 40, .inl (fun _ => 0)))] := hD
  refine W.widen (k := 2) (n := 80) (by omega) (by omega) ?_
  refine va_putF (D := D) (ci := 1) (v := .ref q2) (ty := .array .int) (C := RX1) (T := TX1) (N := 7) hx hb hts zk_lays1 tyX1 tyX1_ok nmX1 hown hK hP hD hS 0 rfl rfl 2 (by decide) (hts _ (zk_wi1 160 (by decide +kernel))) (fun _ h9 => h9) rfl hin rfl (by decide +kernel) rfl rfl (Nat.le_of_ble_eq_true rfl) dN_X1_init_17 (fun H locs hP hD hS => ?_)
  have hP : va_P D zk_cl [(h0, .inr (1, [.null, .ref q1, .ref q2, .null, .null, .int 0, .int 0])), (q1, .inl (tA 0, 40, .inl (fun _ => 0))), (q2, .inl (tA 0, 40, .inl (fun _ => 0)))] H := hP
  have hD : va_D A [(h0, .inr (1, [.null, .ref q1, .ref q2, .null, .null, .int 0, .int 0])), (q1, .inl (tA 0, 40, .inl (fun _ => 0))), (q2, .inl (tA 0, 40, .inl (fun _ => 0)))] := hD
  refine lv_aload_n hx hb dN_X1_init_20 rfl (lv_at hl 0 rfl) ?_
  refine lv_bipush (v := 40) hx hb dN_X1_init_21 (by decide) ?_
  refine lw_newi hx hb hts hK hP hD hS hA 0 rfl 40 (by decide) (by decide) (Nat.le_of_ble_eq_true rfl) (Nat.le_of_ble_eq_true rfl) (Nat.le_of_ble_eq_true rfl) dN_X1_init_23 (fun q3 H hP hD hS => ?_)
  have hP : va_P D zk_cl [(h0, .inr (1, [.null, .ref q1, .ref q2, .null, .null, .int 0, .int 0])), (q1, .inl (tA 0, 40, .inl (fun _ => 0))), (q2, .inl (tA 0, 40, .inl (fun _ => 0))), (q3, .inl (tA 0, 40, .inl (fun _ => 0)))] H := hP
  have hD : va_D A [(h0, .inr (1, [.null, .ref q1, .ref q2, .null, .null, .int 0, .int 0])), (q1, .inl (tA 0, 40, .inl (fun _ => 0))), (q2, .inl (tA 0, 40, .inl (fun _ => 0))), (q3, .inl (tA 0, 40, .inl (fun _ => 0)))] := hD
  refine W.widen (k := 3) (n := 120) (by omega) (by omega) ?_
  refine va_putF (D := D) (ci := 1) (v := .ref q3) (ty := .array .int) (C := RX1) (T := TX1) (N := 7) hx hb hts zk_lays1 tyX1 tyX1_ok nmX1 hown hK hP hD hS 0 rfl rfl 3 (by decide) (hts _ (zk_wi1 161 (by decide +kernel))) (fun _ h9 => h9) rfl hin rfl (by decide +kernel) rfl rfl (Nat.le_of_ble_eq_true rfl) dN_X1_init_25 (fun H locs hP hD hS => ?_)
  have hP : va_P D zk_cl [(h0, .inr (1, [.null, .ref q1, .ref q2, .ref q3, .null, .int 0, .int 0])), (q1, .inl (tA 0, 40, .inl (fun _ => 0))), (q2, .inl (tA 0, 40, .inl (fun _ => 0))), (q3, .inl (tA 0, 40, .inl (fun _ => 0)))] H := hP
  have hD : va_D A [(h0, .inr (1, [.null, .ref q1, .ref q2, .ref q3, .null, .int 0, .int 0])), (q1, .inl (tA 0, 40, .inl (fun _ => 0))), (q2, .inl (tA 0, 40, .inl (fun _ => 0))), (q3, .inl (tA 0, 40, .inl (fun _ => 0)))] := hD
  refine lv_aload_n hx hb dN_X1_init_28 rfl (lv_at hl 0 rfl) ?_
  refine lv_bipush (v := 40) hx hb dN_X1_init_29 (by decide) ?_
  refine lw_newi hx hb hts hK hP hD hS hA 0 rfl 40 (by decide) (by decide) (Nat.le_of_ble_eq_true rfl) (Nat.le_of_ble_eq_true rfl) (Nat.le_of_ble_eq_true rfl) dN_X1_init_31 (fun q4 H hP hD hS => ?_)
  have hP : va_P D zk_cl [(h0, .inr (1, [.null, .ref q1, .ref q2, .ref q3, .null, .int 0, .int 0])), (q1, .inl (tA 0, 40, .inl (fun _ => 0))), (q2, .inl (tA 0, 40, .inl (fun _ => 0))), (q3, .inl (tA 0, 40, .inl (fun _ => 0))), (q4, .inl (tA 0, 40, .inl (fun _ => 0)))] H := hP
  have hD : va_D A [(h0, .inr (1, [.null, .ref q1, .ref q2, .ref q3, .null, .int 0, .int 0])), (q1, .inl (tA 0, 40, .inl (fun _ => 0))), (q2, .inl (tA 0, 40, .inl (fun _ => 0))), (q3, .inl (tA 0, 40, .inl (fun _ => 0))), (q4, .inl (tA 0, 40, .inl (fun _ => 0)))] := hD
  refine W.widen (k := 4) (n := 160) (by omega) (by omega) ?_
  refine va_putF (D := D) (ci := 1) (v := .ref q4) (ty := .array .int) (C := RX1) (T := TX1) (N := 7) hx hb hts zk_lays1 tyX1 tyX1_ok nmX1 hown hK hP hD hS 0 rfl rfl 4 (by decide) (hts _ (zk_wi1 162 (by decide +kernel))) (fun _ h9 => h9) rfl hin rfl (by decide +kernel) rfl rfl (Nat.le_of_ble_eq_true rfl) dN_X1_init_33 (fun H locs hP hD hS => ?_)
  have hP : va_P D zk_cl [(h0, .inr (1, [.null, .ref q1, .ref q2, .ref q3, .ref q4, .int 0, .int 0])), (q1, .inl (tA 0, 40, .inl (fun _ => 0))), (q2, .inl (tA 0, 40, .inl (fun _ => 0))), (q3, .inl (tA 0, 40, .inl (fun _ => 0))), (q4, .inl (tA 0, 40, .inl (fun _ => 0)))] H := hP
  have hD : va_D A [(h0, .inr (1, [.null, .ref q1, .ref q2, .ref q3, .ref q4, .int 0, .int 0])), (q1, .inl (tA 0, 40, .inl (fun _ => 0))), (q2, .inl (tA 0, 40, .inl (fun _ => 0))), (q3, .inl (tA 0, 40, .inl (fun _ => 0))), (q4, .inl (tA 0, 40, .inl (fun _ => 0)))] := hD
  refine lv_aload_n hx hb dN_X1_init_36 rfl (lv_at hl 0 rfl) ?_
  refine lv_aload_n hx hb dN_X1_init_37 rfl (lv_at hl 1 rfl) ?_
  refine va_putF (D := D) (ci := 1) (v := .ref g1) (ty := .object "CardUnsigned$Office") (C := RX1) (T := TX1) (N := 7) hx hb hts zk_lays1 tyX1 tyX1_ok nmX1 hown hK hP hD hS 0 rfl rfl 0 (by decide) (hts _ (zk_wi1 158 (by decide +kernel))) (fun _ h9 => h9) rfl hin rfl (by decide +kernel) rfl rfl (Nat.le_of_ble_eq_true rfl) dN_X1_init_38 (fun H locs hP hD hS => ?_)
  have hP : va_P D zk_cl [(h0, .inr (1, [.ref g1, .ref q1, .ref q2, .ref q3, .ref q4, .int 0, .int 0])), (q1, .inl (tA 0, 40, .inl (fun _ => 0))), (q2, .inl (tA 0, 40, .inl (fun _ => 0))), (q3, .inl (tA 0, 40, .inl (fun _ => 0))), (q4, .inl (tA 0, 40, .inl (fun _ => 0)))] H := hP
  have hD : va_D A [(h0, .inr (1, [.ref g1, .ref q1, .ref q2, .ref q3, .ref q4, .int 0, .int 0])), (q1, .inl (tA 0, 40, .inl (fun _ => 0))), (q2, .inl (tA 0, 40, .inl (fun _ => 0))), (q3, .inl (tA 0, 40, .inl (fun _ => 0))), (q4, .inl (tA 0, 40, .inl (fun _ => 0)))] := hD
  have hP9 := hP.sub (ws' := [(h0, .inr (1, [.ref g1, .ref q1, .ref q2, .ref q3, .ref q4, .int 0, .int 0])), (q1, .inl (tA 0, 40, .inl (fun _ => 0))), (q2, .inl (tA 0, 40, .inl (fun _ => 0))), (q3, .inl (tA 0, 40, .inl (fun _ => 0))), (q4, .inl (tA 0, 40, .inl (fun _ => 0)))]) [0, 1, 2, 3, 4] rfl
  have hD9 := hD.sub (ws' := [(h0, .inr (1, [.ref g1, .ref q1, .ref q2, .ref q3, .ref q4, .int 0, .int 0])), (q1, .inl (tA 0, 40, .inl (fun _ => 0))), (q2, .inl (tA 0, 40, .inl (fun _ => 0))), (q3, .inl (tA 0, 40, .inl (fun _ => 0))), (q4, .inl (tA 0, 40, .inl (fun _ => 0)))]) [0, 1, 2, 3, 4] (by decide) rfl
  exact W.vret hx hb hr (fun t ht hW => ⟨⟨(q1, q2, q3, q4), rfl, trivial, by rw [ht]; exact hP9, hD9⟩, hS.F ht⟩) hS.2.2 dN_X1_init_41
abbrev cX2_init : ByteArray := prog_4_method_1_code
def yX2_init : MethodName := ⟨RX2, "<init>", "(LCardUnsigned$Office;)V"⟩
theorem dN_X2_init_0 : decode cX2_init 0 = .ok (.aload_n 0, 1) := by decide +kernel
theorem dN_X2_init_1 : decode cX2_init 1 = .ok (.invokespecial 3, 3) := by decide +kernel
theorem dN_X2_init_4 : decode cX2_init 4 = .ok (.aload_n 0, 1) := by decide +kernel
theorem dN_X2_init_5 : decode cX2_init 5 = .ok (.bipush 6, 2) := by decide +kernel
theorem dN_X2_init_7 : decode cX2_init 7 = .ok (.newarray .int, 2) := by decide +kernel
theorem dN_X2_init_9 : decode cX2_init 9 = .ok (.putfield 11, 3) := by decide +kernel
theorem dN_X2_init_12 : decode cX2_init 12 = .ok (.aload_n 0, 1) := by decide +kernel
theorem dN_X2_init_13 : decode cX2_init 13 = .ok (.aload_n 1, 1) := by decide +kernel
theorem dN_X2_init_14 : decode cX2_init 14 = .ok (.putfield 17, 3) := by decide +kernel
theorem dN_X2_init_17 : decode cX2_init 17 = .ok (.return_, 1) := by decide +kernel
set_option maxHeartbeats 4000000 in
set_option maxRecDepth 100000 in
theorem n_X2_init (l : Launch) (D : va_G) (tA : Nat → ClassId) (h0 g1 : Nat) (sz : Nat) : Met l yX2_init (zk_ws (yX2_init, cX2_init, 2, none)) ({ frames := 5, cells := 1, slots := 6, locals := 200 }) (va_Pc [.ref h0, .ref g1] (fun U => U.heap.size = sz ∧ va_P D zk_cl [(h0, .inr (2, [.null, .int 0, .int 0, .int 0, .int 0, .int 0, .int 0, .int 0, .int 0, .int 0, .null]))] U.heap ∧ va_K D zk_cl (lw_ty tA) U ∧ va_D (fun _ => True) [(h0, .inr (2, [.null, .int 0, .int 0, .int 0, .int 0, .int 0, .int 0, .int 0, .int 0, .int 0, .null]))])) (va_Qv (fun _ : Nat => True) (fun u t => va_P D zk_cl [(h0, .inr (2, [.ref g1, .int 0, .int 0, .int 0, .int 0, .int 0, .int 0, .int 0, .int 0, .int 0, .ref (u)])), ((u), .inl (tA 0, 6, .inl (fun _ => 0)))] t.heap ∧ va_D (va_A [(h0, .inr (2, [.null, .int 0, .int 0, .int 0, .int 0, .int 0, .int 0, .int 0, .int 0, .int 0, .null]))] sz) [(h0, .inr (2, [.ref g1, .int 0, .int 0, .int 0, .int 0, .int 0, .int 0, .int 0, .int 0, .int 0, .ref (u)])), ((u), .inl (tA 0, 6, .inl (fun _ => 0)))]) (va_A [(h0, .inr (2, [.null, .int 0, .int 0, .int 0, .int 0, .int 0, .int 0, .int 0, .int 0, .int 0, .null]))] sz)) 1 6 (va_A [(h0, .inr (2, [.null, .int 0, .int 0, .int 0, .int 0, .int 0, .int 0, .int 0, .int 0, .int 0, .null]))] sz) := by
  refine Met.ofW (cc := cX2_init) (maxL := 2) (ret := none) (by decide +kernel) rfl ?_
  intro p e s m args below meth c s₁ B hml hv
  obtain ⟨rfl, hsz, hP, hK, hD0⟩ := hv
  have hx := B.exec
  have hb := B.bytes
  have hr := B.returns
  have hts : ∀ w ∈ zk_uw, w.before #[.ref h0, .ref g1] s = true := fun w hw => atoms_spec (ws := zk_ws (yX2_init, cX2_init, 2, none)) B.pre w (List.mem_cons_of_mem _ hw)
  have hown : s.vm.findClass RX2 = some m.cls := findClass_of_methodNamed B.named
  have hin : meth.name = "<init>" := (name_of_methodNamed B.named B.method).1
  subst hsz
  have hD := hD0.self (sz := s.heap.size)
  generalize hAe : va_A [(h0, .inr (2, [.null, .int 0, .int 0, .int 0, .int 0, .int 0, .int 0, .int 0, .int 0, .int 0, .null]))] s.heap.size = A at hD ⊢
  have hA : ∀ q : Nat, s.heap.size ≤ q → A q := fun q h => by rw [← hAe]; exact Or.inr h
  have hS : va_S A s.heap s.heap [] := va_S.rf
  have hP : va_P D zk_cl [(h0, .inr (2, [.null, .int 0, .int 0, .int 0, .int 0, .int 0, .int 0, .int 0, .int 0, .int 0, .null]))] s.heap := hP
  have hl := lv_entry ([.ref h0, .ref g1]) (n := 2) (Nat.le_of_ble_eq_true rfl)
  rw [lg_entry_eq]
  generalize (lg_sl ([.ref h0, .ref g1]) ++ List.replicate (2 - (lg_sl ([.ref h0, .ref g1])).length) Slot.unset).toArray = ls at hl ⊢
  have hl : lv_has ls 2 [(0, .ref h0), (1, .ref g1)] := hl
  refine lv_aload_n hx hb dN_X2_init_0 rfl (lv_at hl 0 rfl) ?_
  refine W.objInit hx hb hown (hts _ (zk_wi1 334 (by decide +kernel))) (hts _ lw_obj.1) (hts _ lw_obj.2) rfl (by rw [hml]; exact hl.1) rfl dN_X2_init_1 (Nat.le_of_ble_eq_true rfl) (Nat.le_of_ble_eq_true rfl) ?_
  refine W.eq (g2 := F0 m 4 ls []) rfl ?_
  refine lv_aload_n hx hb dN_X2_init_4 rfl (lv_at hl 0 rfl) ?_
  refine lv_bipush (v := 6) hx hb dN_X2_init_5 (by decide) ?_
  refine lw_newi hx hb hts hK hP hD hS hA 0 rfl 6 (by decide) (by decide) (Nat.le_of_ble_eq_true rfl) (Nat.le_of_ble_eq_true rfl) (Nat.le_of_ble_eq_true rfl) dN_X2_init_7 (fun q1 H hP hD hS => ?_)
  have hP : va_P D zk_cl [(h0, .inr (2, [.null, .int 0, .int 0, .int 0, .int 0, .int 0, .int 0, .int 0, .int 0, .int 0, .null])), (q1, .inl (tA 0, 6, .inl (fun _ => 0)))] H := hP
  have hD : va_D A [(h0, .inr (2, [.null, .int 0, .int 0, .int 0, .int 0, .int 0, .int 0, .int 0, .int 0, .int 0, .null])), (q1, .inl (tA 0, 6, .inl (fun _ => 0)))] := hD
  refine W.widen (k := 1) (n := 6) (by omega) (by omega) ?_
  refine va_putF (D := D) (ci := 2) (v := .ref q1) (ty := .array .int) (C := RX2) (T := TX2) (N := 11) hx hb hts zk_lays2 tyX2 tyX2_ok nmX2 hown hK hP hD hS 0 rfl rfl 10 (by decide) (hts _ (zk_wi1 350 (by decide +kernel))) (fun _ h9 => h9) rfl hin rfl (by decide +kernel) rfl rfl (Nat.le_of_ble_eq_true rfl) dN_X2_init_9 (fun H locs hP hD hS => ?_)
  have hP : va_P D zk_cl [(h0, .inr (2, [.null, .int 0, .int 0, .int 0, .int 0, .int 0, .int 0, .int 0, .int 0, .int 0, .ref q1])), (q1, .inl (tA 0, 6, .inl (fun _ => 0)))] H := hP
  have hD : va_D A [(h0, .inr (2, [.null, .int 0, .int 0, .int 0, .int 0, .int 0, .int 0, .int 0, .int 0, .int 0, .ref q1])), (q1, .inl (tA 0, 6, .inl (fun _ => 0)))] := hD
  refine lv_aload_n hx hb dN_X2_init_12 rfl (lv_at hl 0 rfl) ?_
  refine lv_aload_n hx hb dN_X2_init_13 rfl (lv_at hl 1 rfl) ?_
  refine va_putF (D := D) (ci := 2) (v := .ref g1) (ty := .object "CardUnsigned$Office") (C := RX2) (T := TX2) (N := 11) hx hb hts zk_lays2 tyX2 tyX2_ok nmX2 hown hK hP hD hS 0 rfl rfl 0 (by decide) (hts _ (zk_wi1 335 (by decide +kernel))) (fun _ h9 => h9) rfl hin rfl (by decide +kernel) rfl rfl (Nat.le_of_ble_eq_true rfl) dN_X2_init_14 (fun H locs hP hD hS => ?_)
  have hP : va_P D zk_cl [(h0, .inr (2, [.ref g1, .int 0, .int 0, .int 0, .int 0, .int 0, .int 0, .int 0, .int 0, .int 0, .ref q1])), (q1, .inl (tA 0, 6, .inl (fun _ => 0)))] H := hP
  have hD : va_D A [(h0, .inr (2, [.ref g1, .int 0, .int 0, .int 0, .int 0, .int 0, .int 0, .int 0, .int 0, .int 0, .ref q1])), (q1, .inl (tA 0, 6, .inl (fun _ => 0)))] := hD
  have hP9 := hP.sub (ws' := [(h0, .inr (2, [.ref g1, .int 0, .int 0, .int 0, .int 0, .int 0, .int 0, .int 0, .int 0, .int 0, .ref q1])), (q1, .inl (tA 0, 6, .inl (fun _ => 0)))]) [0, 1] rfl
  have hD9 := hD.sub (ws' := [(h0, .inr (2, [.ref g1, .int 0, .int 0, .int 0, .int 0, .int 0, .int 0, .int 0, .int 0, .int 0, .ref q1])), (q1, .inl (tA 0, 6, .inl (fun _ => 0)))]) [0, 1] (by decide) rfl
  exact W.vret hx hb hr (fun t ht hW => ⟨⟨(q1), rfl, trivial, by rw [ht]; exact hP9, hD9⟩, hS.F ht⟩) hS.2.2 dN_X2_init_17
abbrev cX3_init : ByteArray := prog_5_method_1_code
def yX3_init : MethodName := ⟨RX3, "<init>", "()V"⟩
theorem dN_X3_init_0 : decode cX3_init 0 = .ok (.aload_n 0, 1) := by decide +kernel
theorem dN_X3_init_1 : decode cX3_init 1 = .ok (.invokespecial 1, 3) := by decide +kernel
theorem dN_X3_init_4 : decode cX3_init 4 = .ok (.aload_n 0, 1) := by decide +kernel
theorem dN_X3_init_5 : decode cX3_init 5 = .ok (.bipush 121, 2) := by decide +kernel
theorem dN_X3_init_7 : decode cX3_init 7 = .ok (.newarray .int, 2) := by decide +kernel
theorem dN_X3_init_9 : decode cX3_init 9 = .ok (.putfield 9, 3) := by decide +kernel
theorem dN_X3_init_12 : decode cX3_init 12 = .ok (.aload_n 0, 1) := by decide +kernel
theorem dN_X3_init_13 : decode cX3_init 13 = .ok (.bipush 121, 2) := by decide +kernel
theorem dN_X3_init_15 : decode cX3_init 15 = .ok (.newarray .int, 2) := by decide +kernel
theorem dN_X3_init_17 : decode cX3_init 17 = .ok (.putfield 15, 3) := by decide +kernel
theorem dN_X3_init_20 : decode cX3_init 20 = .ok (.return_, 1) := by decide +kernel
set_option maxHeartbeats 4000000 in
set_option maxRecDepth 100000 in
theorem n_X3_init (l : Launch) (D : va_G) (tA : Nat → ClassId) (h0 : Nat) (sz : Nat) : Met l yX3_init (zk_ws (yX3_init, cX3_init, 1, none)) ({ frames := 5, cells := 2, slots := 242, locals := 200 }) (va_Pc [.ref h0] (fun U => U.heap.size = sz ∧ va_P D zk_cl [(h0, .inr (3, [.null, .int 0, .null]))] U.heap ∧ va_K D zk_cl (lw_ty tA) U ∧ va_D (fun _ => True) [(h0, .inr (3, [.null, .int 0, .null]))])) (va_Qv (fun _ : Nat × Nat => True) (fun u t => va_P D zk_cl [(h0, .inr (3, [.ref (u.1), .int 0, .ref (u.2)])), ((u.1), .inl (tA 0, 121, .inl (fun _ => 0))), ((u.2), .inl (tA 0, 121, .inl (fun _ => 0)))] t.heap ∧ va_D (va_A [(h0, .inr (3, [.null, .int 0, .null]))] sz) [(h0, .inr (3, [.ref (u.1), .int 0, .ref (u.2)])), ((u.1), .inl (tA 0, 121, .inl (fun _ => 0))), ((u.2), .inl (tA 0, 121, .inl (fun _ => 0)))]) (va_A [(h0, .inr (3, [.null, .int 0, .null]))] sz)) 2 242 (va_A [(h0, .inr (3, [.null, .int 0, .null]))] sz) := by
  refine Met.ofW (cc := cX3_init) (maxL := 1) (ret := none) (by decide +kernel) rfl ?_
  intro p e s m args below meth c s₁ B hml hv
  obtain ⟨rfl, hsz, hP, hK, hD0⟩ := hv
  have hx := B.exec
  have hb := B.bytes
  have hr := B.returns
  have hts : ∀ w ∈ zk_uw, w.before #[.ref h0] s = true := fun w hw => atoms_spec (ws := zk_ws (yX3_init, cX3_init, 1, none)) B.pre w (List.mem_cons_of_mem _ hw)
  have hown : s.vm.findClass RX3 = some m.cls := findClass_of_methodNamed B.named
  have hin : meth.name = "<init>" := (name_of_methodNamed B.named B.method).1
  subst hsz
  have hD := hD0.self (sz := s.heap.size)
  generalize hAe : va_A [(h0, .inr (3, [.null, .int 0, .null]))] s.heap.size = A at hD ⊢
  have hA : ∀ q : Nat, s.heap.size ≤ q → A q := fun q h => by rw [← hAe]; exact Or.inr h
  have hS : va_S A s.heap s.heap [] := va_S.rf
  have hP : va_P D zk_cl [(h0, .inr (3, [.null, .int 0, .null]))] s.heap := hP
  have hl := lv_entry ([.ref h0]) (n := 1) (Nat.le_of_ble_eq_true rfl)
  rw [lg_entry_eq]
  generalize (lg_sl ([.ref h0]) ++ List.replicate (1 - (lg_sl ([.ref h0])).length) Slot.unset).toArray = ls at hl ⊢
  have hl : lv_has ls 1 [(0, .ref h0)] := hl
  refine lv_aload_n hx hb dN_X3_init_0 rfl (lv_at hl 0 rfl) ?_
  refine W.objInit hx hb hown (hts _ (zk_wi1 233 (by decide +kernel))) (hts _ lw_obj.1) (hts _ lw_obj.2) rfl (by rw [hml]; exact hl.1) rfl dN_X3_init_1 (Nat.le_of_ble_eq_true rfl) (Nat.le_of_ble_eq_true rfl) ?_
  refine W.eq (g2 := F0 m 4 ls []) rfl ?_
  refine lv_aload_n hx hb dN_X3_init_4 rfl (lv_at hl 0 rfl) ?_
  refine lv_bipush (v := 121) hx hb dN_X3_init_5 (by decide) ?_
  refine lw_newi hx hb hts hK hP hD hS hA 0 rfl 121 (by decide) (by decide) (Nat.le_of_ble_eq_true rfl) (Nat.le_of_ble_eq_true rfl) (Nat.le_of_ble_eq_true rfl) dN_X3_init_7 (fun q1 H hP hD hS => ?_)
  have hP : va_P D zk_cl [(h0, .inr (3, [.null, .int 0, .null])), (q1, .inl (tA 0, 121, .inl (fun _ => 0)))] H := hP
  have hD : va_D A [(h0, .inr (3, [.null, .int 0, .null])), (q1, .inl (tA 0, 121, .inl (fun _ => 0)))] := hD
  refine W.widen (k := 1) (n := 121) (by omega) (by omega) ?_
  refine va_putF (D := D) (ci := 3) (v := .ref q1) (ty := .array .int) (C := RX3) (T := TX3) (N := 3) hx hb hts zk_lays3 tyX3 tyX3_ok nmX3 hown hK hP hD hS 0 rfl rfl 0 (by decide) (hts _ (zk_wi1 234 (by decide +kernel))) (fun _ h9 => h9) rfl hin rfl (by decide +kernel) rfl rfl (Nat.le_of_ble_eq_true rfl) dN_X3_init_9 (fun H locs hP hD hS => ?_)
  have hP : va_P D zk_cl [(h0, .inr (3, [.ref q1, .int 0, .null])), (q1, .inl (tA 0, 121, .inl (fun _ => 0)))] H := hP
  have hD : va_D A [(h0, .inr (3, [.ref q1, .int 0, .null])), (q1, .inl (tA 0, 121, .inl (fun _ => 0)))] := hD
  refine lv_aload_n hx hb dN_X3_init_12 rfl (lv_at hl 0 rfl) ?_
  refine lv_bipush (v := 121) hx hb dN_X3_init_13 (by decide) ?_
  refine lw_newi hx hb hts hK hP hD hS hA 0 rfl 121 (by decide) (by decide) (Nat.le_of_ble_eq_true rfl) (Nat.le_of_ble_eq_true rfl) (Nat.le_of_ble_eq_true rfl) dN_X3_init_15 (fun q2 H hP hD hS => ?_)
  have hP : va_P D zk_cl [(h0, .inr (3, [.ref q1, .int 0, .null])), (q1, .inl (tA 0, 121, .inl (fun _ => 0))), (q2, .inl (tA 0, 121, .inl (fun _ => 0)))] H := hP
  have hD : va_D A [(h0, .inr (3, [.ref q1, .int 0, .null])), (q1, .inl (tA 0, 121, .inl (fun _ => 0))), (q2, .inl (tA 0, 121, .inl (fun _ => 0)))] := hD
  refine W.widen (k := 2) (n := 242) (by omega) (by omega) ?_
  refine va_putF (D := D) (ci := 3) (v := .ref q2) (ty := .array .int) (C := RX3) (T := TX3) (N := 3) hx hb hts zk_lays3 tyX3 tyX3_ok nmX3 hown hK hP hD hS 0 rfl rfl 2 (by decide) (hts _ (zk_wi1 236 (by decide +kernel))) (fun _ h9 => h9) rfl hin rfl (by decide +kernel) rfl rfl (Nat.le_of_ble_eq_true rfl) dN_X3_init_17 (fun H locs hP hD hS => ?_)
  have hP : va_P D zk_cl [(h0, .inr (3, [.ref q1, .int 0, .ref q2])), (q1, .inl (tA 0, 121, .inl (fun _ => 0))), (q2, .inl (tA 0, 121, .inl (fun _ => 0)))] H := hP
  have hD : va_D A [(h0, .inr (3, [.ref q1, .int 0, .ref q2])), (q1, .inl (tA 0, 121, .inl (fun _ => 0))), (q2, .inl (tA 0, 121, .inl (fun _ => 0)))] := hD
  have hP9 := hP.sub (ws' := [(h0, .inr (3, [.ref q1, .int 0, .ref q2])), (q1, .inl (tA 0, 121, .inl (fun _ => 0))), (q2, .inl (tA 0, 121, .inl (fun _ => 0)))]) [0, 1, 2] rfl
  have hD9 := hD.sub (ws' := [(h0, .inr (3, [.ref q1, .int 0, .ref q2])), (q1, .inl (tA 0, 121, .inl (fun _ => 0))), (q2, .inl (tA 0, 121, .inl (fun _ => 0)))]) [0, 1, 2] (by decide) rfl
  exact W.vret hx hb hr (fun t ht hW => ⟨⟨(q1, q2), rfl, trivial, by rw [ht]; exact hP9, hD9⟩, hS.F ht⟩) hS.2.2 dN_X3_init_20
abbrev cX5_init : ByteArray := prog_7_method_1_code
def yX5_init : MethodName := ⟨RX5, "<init>", "()V"⟩
theorem dN_X5_init_0 : decode cX5_init 0 = .ok (.aload_n 0, 1) := by decide +kernel
theorem dN_X5_init_1 : decode cX5_init 1 = .ok (.invokespecial 1, 3) := by decide +kernel
theorem dN_X5_init_4 : decode cX5_init 4 = .ok (.aload_n 0, 1) := by decide +kernel
theorem dN_X5_init_5 : decode cX5_init 5 = .ok (.bipush 120, 2) := by decide +kernel
theorem dN_X5_init_7 : decode cX5_init 7 = .ok (.newarray .int, 2) := by decide +kernel
theorem dN_X5_init_9 : decode cX5_init 9 = .ok (.putfield 9, 3) := by decide +kernel
theorem dN_X5_init_12 : decode cX5_init 12 = .ok (.aload_n 0, 1) := by decide +kernel
theorem dN_X5_init_13 : decode cX5_init 13 = .ok (.bipush 121, 2) := by decide +kernel
theorem dN_X5_init_15 : decode cX5_init 15 = .ok (.newarray .int, 2) := by decide +kernel
theorem dN_X5_init_17 : decode cX5_init 17 = .ok (.putfield 15, 3) := by decide +kernel
theorem dN_X5_init_20 : decode cX5_init 20 = .ok (.aload_n 0, 1) := by decide +kernel
theorem dN_X5_init_21 : decode cX5_init 21 = .ok (.bipush 121, 2) := by decide +kernel
theorem dN_X5_init_23 : decode cX5_init 23 = .ok (.newarray .int, 2) := by decide +kernel
theorem dN_X5_init_25 : decode cX5_init 25 = .ok (.putfield 18, 3) := by decide +kernel
theorem dN_X5_init_28 : decode cX5_init 28 = .ok (.return_, 1) := by decide +kernel
set_option maxHeartbeats 4000000 in
set_option maxRecDepth 100000 in
theorem n_X5_init (l : Launch) (D : va_G) (tA : Nat → ClassId) (h0 : Nat) (sz : Nat) : Met l yX5_init (zk_ws (yX5_init, cX5_init, 1, none)) ({ frames := 5, cells := 3, slots := 362, locals := 200 }) (va_Pc [.ref h0] (fun U => U.heap.size = sz ∧ va_P D zk_cl [(h0, .inr (5, [.null, .int 0, .null, .int 0, .null, .int 0, .int 0, .int 0, .int 0, .int 0, .int 0, .int 0]))] U.heap ∧ va_K D zk_cl (lw_ty tA) U ∧ va_D (fun _ => True) [(h0, .inr (5, [.null, .int 0, .null, .int 0, .null, .int 0, .int 0, .int 0, .int 0, .int 0, .int 0, .int 0]))])) (va_Qv (fun _ : Nat × Nat × Nat => True) (fun u t => va_P D zk_cl [(h0, .inr (5, [.ref (u.1), .int 0, .ref (u.2.1), .int 0, .ref (u.2.2), .int 0, .int 0, .int 0, .int 0, .int 0, .int 0, .int 0])), ((u.1), .inl (tA 0, 120, .inl (fun _ => 0))), ((u.2.1), .inl (tA 0, 121, .inl (fun _ => 0))), ((u.2.2), .inl (tA 0, 121, .inl (fun _ => 0)))] t.heap ∧ va_D (va_A [(h0, .inr (5, [.null, .int 0, .null, .int 0, .null, .int 0, .int 0, .int 0, .int 0, .int 0, .int 0, .int 0]))] sz) [(h0, .inr (5, [.ref (u.1), .int 0, .ref (u.2.1), .int 0, .ref (u.2.2), .int 0, .int 0, .int 0, .int 0, .int 0, .int 0, .int 0])), ((u.1), .inl (tA 0, 120, .inl (fun _ => 0))), ((u.2.1), .inl (tA 0, 121, .inl (fun _ => 0))), ((u.2.2), .inl (tA 0, 121, .inl (fun _ => 0)))]) (va_A [(h0, .inr (5, [.null, .int 0, .null, .int 0, .null, .int 0, .int 0, .int 0, .int 0, .int 0, .int 0, .int 0]))] sz)) 3 362 (va_A [(h0, .inr (5, [.null, .int 0, .null, .int 0, .null, .int 0, .int 0, .int 0, .int 0, .int 0, .int 0, .int 0]))] sz) := by
  refine Met.ofW (cc := cX5_init) (maxL := 1) (ret := none) (by decide +kernel) rfl ?_
  intro p e s m args below meth c s₁ B hml hv
  obtain ⟨rfl, hsz, hP, hK, hD0⟩ := hv
  have hx := B.exec
  have hb := B.bytes
  have hr := B.returns
  have hts : ∀ w ∈ zk_uw, w.before #[.ref h0] s = true := fun w hw => atoms_spec (ws := zk_ws (yX5_init, cX5_init, 1, none)) B.pre w (List.mem_cons_of_mem _ hw)
  have hown : s.vm.findClass RX5 = some m.cls := findClass_of_methodNamed B.named
  have hin : meth.name = "<init>" := (name_of_methodNamed B.named B.method).1
  subst hsz
  have hD := hD0.self (sz := s.heap.size)
  generalize hAe : va_A [(h0, .inr (5, [.null, .int 0, .null, .int 0, .null, .int 0, .int 0, .int 0, .int 0, .int 0, .int 0, .int 0]))] s.heap.size = A at hD ⊢
  have hA : ∀ q : Nat, s.heap.size ≤ q → A q := fun q h => by rw [← hAe]; exact Or.inr h
  have hS : va_S A s.heap s.heap [] := va_S.rf
  have hP : va_P D zk_cl [(h0, .inr (5, [.null, .int 0, .null, .int 0, .null, .int 0, .int 0, .int 0, .int 0, .int 0, .int 0, .int 0]))] s.heap := hP
  have hl := lv_entry ([.ref h0]) (n := 1) (Nat.le_of_ble_eq_true rfl)
  rw [lg_entry_eq]
  generalize (lg_sl ([.ref h0]) ++ List.replicate (1 - (lg_sl ([.ref h0])).length) Slot.unset).toArray = ls at hl ⊢
  have hl : lv_has ls 1 [(0, .ref h0)] := hl
  refine lv_aload_n hx hb dN_X5_init_0 rfl (lv_at hl 0 rfl) ?_
  refine W.objInit hx hb hown (hts _ (zk_wi1 187 (by decide +kernel))) (hts _ lw_obj.1) (hts _ lw_obj.2) rfl (by rw [hml]; exact hl.1) rfl dN_X5_init_1 (Nat.le_of_ble_eq_true rfl) (Nat.le_of_ble_eq_true rfl) ?_
  refine W.eq (g2 := F0 m 4 ls []) rfl ?_
  refine lv_aload_n hx hb dN_X5_init_4 rfl (lv_at hl 0 rfl) ?_
  refine lv_bipush (v := 120) hx hb dN_X5_init_5 (by decide) ?_
  refine lw_newi hx hb hts hK hP hD hS hA 0 rfl 120 (by decide) (by decide) (Nat.le_of_ble_eq_true rfl) (Nat.le_of_ble_eq_true rfl) (Nat.le_of_ble_eq_true rfl) dN_X5_init_7 (fun q1 H hP hD hS => ?_)
  have hP : va_P D zk_cl [(h0, .inr (5, [.null, .int 0, .null, .int 0, .null, .int 0, .int 0, .int 0, .int 0, .int 0, .int 0, .int 0])), (q1, .inl (tA 0, 120, .inl (fun _ => 0)))] H := hP
  have hD : va_D A [(h0, .inr (5, [.null, .int 0, .null, .int 0, .null, .int 0, .int 0, .int 0, .int 0, .int 0, .int 0, .int 0])), (q1, .inl (tA 0, 120, .inl (fun _ => 0)))] := hD
  refine W.widen (k := 1) (n := 120) (by omega) (by omega) ?_
  refine va_putF (D := D) (ci := 5) (v := .ref q1) (ty := .array .int) (C := RX5) (T := TX5) (N := 12) hx hb hts zk_lays5 tyX5 tyX5_ok nmX5 hown hK hP hD hS 0 rfl rfl 0 (by decide) (hts _ (zk_wi1 188 (by decide +kernel))) (fun _ h9 => h9) rfl hin rfl (by decide +kernel) rfl rfl (Nat.le_of_ble_eq_true rfl) dN_X5_init_9 (fun H locs hP hD hS => ?_)
  have hP : va_P D zk_cl [(h0, .inr (5, [.ref q1, .int 0, .null, .int 0, .null, .int 0, .int 0, .int 0, .int 0, .int 0, .int 0, .int 0])), (q1, .inl (tA 0, 120, .inl (fun _ => 0)))] H := hP
  have hD : va_D A [(h0, .inr (5, [.ref q1, .int 0, .null, .int 0, .null, .int 0, .int 0, .int 0, .int 0, .int 0, .int 0, .int 0])), (q1, .inl (tA 0, 120, .inl (fun _ => 0)))] := hD
  refine lv_aload_n hx hb dN_X5_init_12 rfl (lv_at hl 0 rfl) ?_
  refine lv_bipush (v := 121) hx hb dN_X5_init_13 (by decide) ?_
  refine lw_newi hx hb hts hK hP hD hS hA 0 rfl 121 (by decide) (by decide) (Nat.le_of_ble_eq_true rfl) (Nat.le_of_ble_eq_true rfl) (Nat.le_of_ble_eq_true rfl) dN_X5_init_15 (fun q2 H hP hD hS => ?_)
  have hP : va_P D zk_cl [(h0, .inr (5, [.ref q1, .int 0, .null, .int 0, .null, .int 0, .int 0, .int 0, .int 0, .int 0, .int 0, .int 0])), (q1, .inl (tA 0, 120, .inl (fun _ => 0))), (q2, .inl (tA 0, 121, .inl (fun _ => 0)))] H := hP
  have hD : va_D A [(h0, .inr (5, [.ref q1, .int 0, .null, .int 0, .null, .int 0, .int 0, .int 0, .int 0, .int 0, .int 0, .int 0])), (q1, .inl (tA 0, 120, .inl (fun _ => 0))), (q2, .inl (tA 0, 121, .inl (fun _ => 0)))] := hD
  refine W.widen (k := 2) (n := 241) (by omega) (by omega) ?_
  refine va_putF (D := D) (ci := 5) (v := .ref q2) (ty := .array .int) (C := RX5) (T := TX5) (N := 12) hx hb hts zk_lays5 tyX5 tyX5_ok nmX5 hown hK hP hD hS 0 rfl rfl 2 (by decide) (hts _ (zk_wi1 191 (by decide +kernel))) (fun _ h9 => h9) rfl hin rfl (by decide +kernel) rfl rfl (Nat.le_of_ble_eq_true rfl) dN_X5_init_17 (fun H locs hP hD hS => ?_)
  have hP : va_P D zk_cl [(h0, .inr (5, [.ref q1, .int 0, .ref q2, .int 0, .null, .int 0, .int 0, .int 0, .int 0, .int 0, .int 0, .int 0])), (q1, .inl (tA 0, 120, .inl (fun _ => 0))), (q2, .inl (tA 0, 121, .inl (fun _ => 0)))] H := hP
  have hD : va_D A [(h0, .inr (5, [.ref q1, .int 0, .ref q2, .int 0, .null, .int 0, .int 0, .int 0, .int 0, .int 0, .int 0, .int 0])), (q1, .inl (tA 0, 120, .inl (fun _ => 0))), (q2, .inl (tA 0, 121, .inl (fun _ => 0)))] := hD
  refine lv_aload_n hx hb dN_X5_init_20 rfl (lv_at hl 0 rfl) ?_
  refine lv_bipush (v := 121) hx hb dN_X5_init_21 (by decide) ?_
  refine lw_newi hx hb hts hK hP hD hS hA 0 rfl 121 (by decide) (by decide) (Nat.le_of_ble_eq_true rfl) (Nat.le_of_ble_eq_true rfl) (Nat.le_of_ble_eq_true rfl) dN_X5_init_23 (fun q3 H hP hD hS => ?_)
  have hP : va_P D zk_cl [(h0, .inr (5, [.ref q1, .int 0, .ref q2, .int 0, .null, .int 0, .int 0, .int 0, .int 0, .int 0, .int 0, .int 0])), (q1, .inl (tA 0, 120, .inl (fun _ => 0))), (q2, .inl (tA 0, 121, .inl (fun _ => 0))), (q3, .inl (tA 0, 121, .inl (fun _ => 0)))] H := hP
  have hD : va_D A [(h0, .inr (5, [.ref q1, .int 0, .ref q2, .int 0, .null, .int 0, .int 0, .int 0, .int 0, .int 0, .int 0, .int 0])), (q1, .inl (tA 0, 120, .inl (fun _ => 0))), (q2, .inl (tA 0, 121, .inl (fun _ => 0))), (q3, .inl (tA 0, 121, .inl (fun _ => 0)))] := hD
  refine W.widen (k := 3) (n := 362) (by omega) (by omega) ?_
  refine va_putF (D := D) (ci := 5) (v := .ref q3) (ty := .array .int) (C := RX5) (T := TX5) (N := 12) hx hb hts zk_lays5 tyX5 tyX5_ok nmX5 hown hK hP hD hS 0 rfl rfl 4 (by decide) (hts _ (zk_wi1 195 (by decide +kernel))) (fun _ h9 => h9) rfl hin rfl (by decide +kernel) rfl rfl (Nat.le_of_ble_eq_true rfl) dN_X5_init_25 (fun H locs hP hD hS => ?_)
  have hP : va_P D zk_cl [(h0, .inr (5, [.ref q1, .int 0, .ref q2, .int 0, .ref q3, .int 0, .int 0, .int 0, .int 0, .int 0, .int 0, .int 0])), (q1, .inl (tA 0, 120, .inl (fun _ => 0))), (q2, .inl (tA 0, 121, .inl (fun _ => 0))), (q3, .inl (tA 0, 121, .inl (fun _ => 0)))] H := hP
  have hD : va_D A [(h0, .inr (5, [.ref q1, .int 0, .ref q2, .int 0, .ref q3, .int 0, .int 0, .int 0, .int 0, .int 0, .int 0, .int 0])), (q1, .inl (tA 0, 120, .inl (fun _ => 0))), (q2, .inl (tA 0, 121, .inl (fun _ => 0))), (q3, .inl (tA 0, 121, .inl (fun _ => 0)))] := hD
  have hP9 := hP.sub (ws' := [(h0, .inr (5, [.ref q1, .int 0, .ref q2, .int 0, .ref q3, .int 0, .int 0, .int 0, .int 0, .int 0, .int 0, .int 0])), (q1, .inl (tA 0, 120, .inl (fun _ => 0))), (q2, .inl (tA 0, 121, .inl (fun _ => 0))), (q3, .inl (tA 0, 121, .inl (fun _ => 0)))]) [0, 1, 2, 3] rfl
  have hD9 := hD.sub (ws' := [(h0, .inr (5, [.ref q1, .int 0, .ref q2, .int 0, .ref q3, .int 0, .int 0, .int 0, .int 0, .int 0, .int 0, .int 0])), (q1, .inl (tA 0, 120, .inl (fun _ => 0))), (q2, .inl (tA 0, 121, .inl (fun _ => 0))), (q3, .inl (tA 0, 121, .inl (fun _ => 0)))]) [0, 1, 2, 3] (by decide) rfl
  exact W.vret hx hb hr (fun t ht hW => ⟨⟨(q1, q2, q3), rfl, trivial, by rw [ht]; exact hP9, hD9⟩, hS.F ht⟩) hS.2.2 dN_X5_init_28
abbrev cX6_init : ByteArray := prog_8_method_1_code
def yX6_init : MethodName := ⟨RX6, "<init>", "(LCardUnsigned$Office;LCardUnsigned$Thought;)V"⟩
theorem dN_X6_init_0 : decode cX6_init 0 = .ok (.aload_n 0, 1) := by decide +kernel
theorem dN_X6_init_1 : decode cX6_init 1 = .ok (.invokespecial 3, 3) := by decide +kernel
theorem dN_X6_init_4 : decode cX6_init 4 = .ok (.aload_n 0, 1) := by decide +kernel
theorem dN_X6_init_5 : decode cX6_init 5 = .ok (.bipush 8, 2) := by decide +kernel
theorem dN_X6_init_7 : decode cX6_init 7 = .ok (.newarray .int, 2) := by decide +kernel
theorem dN_X6_init_9 : decode cX6_init 9 = .ok (.putfield 11, 3) := by decide +kernel
theorem dN_X6_init_12 : decode cX6_init 12 = .ok (.aload_n 0, 1) := by decide +kernel
theorem dN_X6_init_13 : decode cX6_init 13 = .ok (.aload_n 1, 1) := by decide +kernel
theorem dN_X6_init_14 : decode cX6_init 14 = .ok (.putfield 17, 3) := by decide +kernel
theorem dN_X6_init_17 : decode cX6_init 17 = .ok (.aload_n 0, 1) := by decide +kernel
theorem dN_X6_init_18 : decode cX6_init 18 = .ok (.aload_n 2, 1) := by decide +kernel
theorem dN_X6_init_19 : decode cX6_init 19 = .ok (.putfield 21, 3) := by decide +kernel
theorem dN_X6_init_22 : decode cX6_init 22 = .ok (.return_, 1) := by decide +kernel
set_option maxHeartbeats 4000000 in
set_option maxRecDepth 100000 in
theorem n_X6_init (l : Launch) (D : va_G) (tA : Nat → ClassId) (h0 g1 g2 : Nat) (sz : Nat) : Met l yX6_init (zk_ws (yX6_init, cX6_init, 3, none)) ({ frames := 5, cells := 1, slots := 8, locals := 200 }) (va_Pc [.ref h0, .ref g1, .ref g2] (fun U => U.heap.size = sz ∧ va_P D zk_cl [(h0, .inr (6, [.null, .null, .null, .int 0, .int 0, .int 0]))] U.heap ∧ va_K D zk_cl (lw_ty tA) U ∧ va_D (fun _ => True) [(h0, .inr (6, [.null, .null, .null, .int 0, .int 0, .int 0]))])) (va_Qv (fun _ : Nat => True) (fun u t => va_P D zk_cl [(h0, .inr (6, [.ref g1, .ref g2, .ref (u), .int 0, .int 0, .int 0])), ((u), .inl (tA 0, 8, .inl (fun _ => 0)))] t.heap ∧ va_D (va_A [(h0, .inr (6, [.null, .null, .null, .int 0, .int 0, .int 0]))] sz) [(h0, .inr (6, [.ref g1, .ref g2, .ref (u), .int 0, .int 0, .int 0])), ((u), .inl (tA 0, 8, .inl (fun _ => 0)))]) (va_A [(h0, .inr (6, [.null, .null, .null, .int 0, .int 0, .int 0]))] sz)) 1 8 (va_A [(h0, .inr (6, [.null, .null, .null, .int 0, .int 0, .int 0]))] sz) := by
  refine Met.ofW (cc := cX6_init) (maxL := 3) (ret := none) (by decide +kernel) rfl ?_
  intro p e s m args below meth c s₁ B hml hv
  obtain ⟨rfl, hsz, hP, hK, hD0⟩ := hv
  have hx := B.exec
  have hb := B.bytes
  have hr := B.returns
  have hts : ∀ w ∈ zk_uw, w.before #[.ref h0, .ref g1, .ref g2] s = true := fun w hw => atoms_spec (ws := zk_ws (yX6_init, cX6_init, 3, none)) B.pre w (List.mem_cons_of_mem _ hw)
  have hown : s.vm.findClass RX6 = some m.cls := findClass_of_methodNamed B.named
  have hin : meth.name = "<init>" := (name_of_methodNamed B.named B.method).1
  subst hsz
  have hD := hD0.self (sz := s.heap.size)
  generalize hAe : va_A [(h0, .inr (6, [.null, .null, .null, .int 0, .int 0, .int 0]))] s.heap.size = A at hD ⊢
  have hA : ∀ q : Nat, s.heap.size ≤ q → A q := fun q h => by rw [← hAe]; exact Or.inr h
  have hS : va_S A s.heap s.heap [] := va_S.rf
  have hP : va_P D zk_cl [(h0, .inr (6, [.null, .null, .null, .int 0, .int 0, .int 0]))] s.heap := hP
  have hl := lv_entry ([.ref h0, .ref g1, .ref g2]) (n := 3) (Nat.le_of_ble_eq_true rfl)
  rw [lg_entry_eq]
  generalize (lg_sl ([.ref h0, .ref g1, .ref g2]) ++ List.replicate (3 - (lg_sl ([.ref h0, .ref g1, .ref g2])).length) Slot.unset).toArray = ls at hl ⊢
  have hl : lv_has ls 3 [(0, .ref h0), (1, .ref g1), (2, .ref g2)] := hl
  refine lv_aload_n hx hb dN_X6_init_0 rfl (lv_at hl 0 rfl) ?_
  refine W.objInit hx hb hown (hts _ (zk_wi1 289 (by decide +kernel))) (hts _ lw_obj.1) (hts _ lw_obj.2) rfl (by rw [hml]; exact hl.1) rfl dN_X6_init_1 (Nat.le_of_ble_eq_true rfl) (Nat.le_of_ble_eq_true rfl) ?_
  refine W.eq (g2 := F0 m 4 ls []) rfl ?_
  refine lv_aload_n hx hb dN_X6_init_4 rfl (lv_at hl 0 rfl) ?_
  refine lv_bipush (v := 8) hx hb dN_X6_init_5 (by decide) ?_
  refine lw_newi hx hb hts hK hP hD hS hA 0 rfl 8 (by decide) (by decide) (Nat.le_of_ble_eq_true rfl) (Nat.le_of_ble_eq_true rfl) (Nat.le_of_ble_eq_true rfl) dN_X6_init_7 (fun q1 H hP hD hS => ?_)
  have hP : va_P D zk_cl [(h0, .inr (6, [.null, .null, .null, .int 0, .int 0, .int 0])), (q1, .inl (tA 0, 8, .inl (fun _ => 0)))] H := hP
  have hD : va_D A [(h0, .inr (6, [.null, .null, .null, .int 0, .int 0, .int 0])), (q1, .inl (tA 0, 8, .inl (fun _ => 0)))] := hD
  refine W.widen (k := 1) (n := 8) (by omega) (by omega) ?_
  refine va_putF (D := D) (ci := 6) (v := .ref q1) (ty := .array .int) (C := RX6) (T := TX6) (N := 6) hx hb hts zk_lays6 tyX6 tyX6_ok nmX6 hown hK hP hD hS 0 rfl rfl 2 (by decide) (hts _ (zk_wi1 292 (by decide +kernel))) (fun _ h9 => h9) rfl hin rfl (by decide +kernel) rfl rfl (Nat.le_of_ble_eq_true rfl) dN_X6_init_9 (fun H locs hP hD hS => ?_)
  have hP : va_P D zk_cl [(h0, .inr (6, [.null, .null, .ref q1, .int 0, .int 0, .int 0])), (q1, .inl (tA 0, 8, .inl (fun _ => 0)))] H := hP
  have hD : va_D A [(h0, .inr (6, [.null, .null, .ref q1, .int 0, .int 0, .int 0])), (q1, .inl (tA 0, 8, .inl (fun _ => 0)))] := hD
  refine lv_aload_n hx hb dN_X6_init_12 rfl (lv_at hl 0 rfl) ?_
  refine lv_aload_n hx hb dN_X6_init_13 rfl (lv_at hl 1 rfl) ?_
  refine va_putF (D := D) (ci := 6) (v := .ref g1) (ty := .object "CardUnsigned$Office") (C := RX6) (T := TX6) (N := 6) hx hb hts zk_lays6 tyX6 tyX6_ok nmX6 hown hK hP hD hS 0 rfl rfl 0 (by decide) (hts _ (zk_wi1 290 (by decide +kernel))) (fun _ h9 => h9) rfl hin rfl (by decide +kernel) rfl rfl (Nat.le_of_ble_eq_true rfl) dN_X6_init_14 (fun H locs hP hD hS => ?_)
  have hP : va_P D zk_cl [(h0, .inr (6, [.ref g1, .null, .ref q1, .int 0, .int 0, .int 0])), (q1, .inl (tA 0, 8, .inl (fun _ => 0)))] H := hP
  have hD : va_D A [(h0, .inr (6, [.ref g1, .null, .ref q1, .int 0, .int 0, .int 0])), (q1, .inl (tA 0, 8, .inl (fun _ => 0)))] := hD
  refine lv_aload_n hx hb dN_X6_init_17 rfl (lv_at hl 0 rfl) ?_
  refine lv_aload_n hx hb dN_X6_init_18 rfl (lv_at hl 2 rfl) ?_
  refine va_putF (D := D) (ci := 6) (v := .ref g2) (ty := .object "CardUnsigned$Thought") (C := RX6) (T := TX6) (N := 6) hx hb hts zk_lays6 tyX6 tyX6_ok nmX6 hown hK hP hD hS 0 rfl rfl 1 (by decide) (hts _ (zk_wi1 291 (by decide +kernel))) (fun _ h9 => h9) rfl hin rfl (by decide +kernel) rfl rfl (Nat.le_of_ble_eq_true rfl) dN_X6_init_19 (fun H locs hP hD hS => ?_)
  have hP : va_P D zk_cl [(h0, .inr (6, [.ref g1, .ref g2, .ref q1, .int 0, .int 0, .int 0])), (q1, .inl (tA 0, 8, .inl (fun _ => 0)))] H := hP
  have hD : va_D A [(h0, .inr (6, [.ref g1, .ref g2, .ref q1, .int 0, .int 0, .int 0])), (q1, .inl (tA 0, 8, .inl (fun _ => 0)))] := hD
  have hP9 := hP.sub (ws' := [(h0, .inr (6, [.ref g1, .ref g2, .ref q1, .int 0, .int 0, .int 0])), (q1, .inl (tA 0, 8, .inl (fun _ => 0)))]) [0, 1] rfl
  have hD9 := hD.sub (ws' := [(h0, .inr (6, [.ref g1, .ref g2, .ref q1, .int 0, .int 0, .int 0])), (q1, .inl (tA 0, 8, .inl (fun _ => 0)))]) [0, 1] (by decide) rfl
  exact W.vret hx hb hr (fun t ht hW => ⟨⟨(q1), rfl, trivial, by rw [ht]; exact hP9, hD9⟩, hS.F ht⟩) hS.2.2 dN_X6_init_22
abbrev cX7_init : ByteArray := prog_9_method_1_code
def yX7_init : MethodName := ⟨RX7, "<init>", "(LCardUnsigned$Office;LCardUnsigned$Thought;)V"⟩
theorem dN_X7_init_0 : decode cX7_init 0 = .ok (.aload_n 0, 1) := by decide +kernel
theorem dN_X7_init_1 : decode cX7_init 1 = .ok (.invokespecial 3, 3) := by decide +kernel
theorem dN_X7_init_4 : decode cX7_init 4 = .ok (.aload_n 0, 1) := by decide +kernel
theorem dN_X7_init_5 : decode cX7_init 5 = .ok (.bipush 8, 2) := by decide +kernel
theorem dN_X7_init_7 : decode cX7_init 7 = .ok (.newarray .int, 2) := by decide +kernel
theorem dN_X7_init_9 : decode cX7_init 9 = .ok (.putfield 11, 3) := by decide +kernel
theorem dN_X7_init_12 : decode cX7_init 12 = .ok (.aload_n 0, 1) := by decide +kernel
theorem dN_X7_init_13 : decode cX7_init 13 = .ok (.aload_n 1, 1) := by decide +kernel
theorem dN_X7_init_14 : decode cX7_init 14 = .ok (.putfield 17, 3) := by decide +kernel
theorem dN_X7_init_17 : decode cX7_init 17 = .ok (.aload_n 0, 1) := by decide +kernel
theorem dN_X7_init_18 : decode cX7_init 18 = .ok (.aload_n 2, 1) := by decide +kernel
theorem dN_X7_init_19 : decode cX7_init 19 = .ok (.putfield 21, 3) := by decide +kernel
theorem dN_X7_init_22 : decode cX7_init 22 = .ok (.return_, 1) := by decide +kernel
set_option maxHeartbeats 4000000 in
set_option maxRecDepth 100000 in
theorem n_X7_init (l : Launch) (D : va_G) (tA : Nat → ClassId) (h0 g1 g2 : Nat) (sz : Nat) : Met l yX7_init (zk_ws (yX7_init, cX7_init, 3, none)) ({ frames := 5, cells := 1, slots := 8, locals := 200 }) (va_Pc [.ref h0, .ref g1, .ref g2] (fun U => U.heap.size = sz ∧ va_P D zk_cl [(h0, .inr (7, [.null, .null, .null]))] U.heap ∧ va_K D zk_cl (lw_ty tA) U ∧ va_D (fun _ => True) [(h0, .inr (7, [.null, .null, .null]))])) (va_Qv (fun _ : Nat => True) (fun u t => va_P D zk_cl [(h0, .inr (7, [.ref g1, .ref g2, .ref (u)])), ((u), .inl (tA 0, 8, .inl (fun _ => 0)))] t.heap ∧ va_D (va_A [(h0, .inr (7, [.null, .null, .null]))] sz) [(h0, .inr (7, [.ref g1, .ref g2, .ref (u)])), ((u), .inl (tA 0, 8, .inl (fun _ => 0)))]) (va_A [(h0, .inr (7, [.null, .null, .null]))] sz)) 1 8 (va_A [(h0, .inr (7, [.null, .null, .null]))] sz) := by
  refine Met.ofW (cc := cX7_init) (maxL := 3) (ret := none) (by decide +kernel) rfl ?_
  intro p e s m args below meth c s₁ B hml hv
  obtain ⟨rfl, hsz, hP, hK, hD0⟩ := hv
  have hx := B.exec
  have hb := B.bytes
  have hr := B.returns
  have hts : ∀ w ∈ zk_uw, w.before #[.ref h0, .ref g1, .ref g2] s = true := fun w hw => atoms_spec (ws := zk_ws (yX7_init, cX7_init, 3, none)) B.pre w (List.mem_cons_of_mem _ hw)
  have hown : s.vm.findClass RX7 = some m.cls := findClass_of_methodNamed B.named
  have hin : meth.name = "<init>" := (name_of_methodNamed B.named B.method).1
  subst hsz
  have hD := hD0.self (sz := s.heap.size)
  generalize hAe : va_A [(h0, .inr (7, [.null, .null, .null]))] s.heap.size = A at hD ⊢
  have hA : ∀ q : Nat, s.heap.size ≤ q → A q := fun q h => by rw [← hAe]; exact Or.inr h
  have hS : va_S A s.heap s.heap [] := va_S.rf
  have hP : va_P D zk_cl [(h0, .inr (7, [.null, .null, .null]))] s.heap := hP
  have hl := lv_entry ([.ref h0, .ref g1, .ref g2]) (n := 3) (Nat.le_of_ble_eq_true rfl)
  rw [lg_entry_eq]
  generalize (lg_sl ([.ref h0, .ref g1, .ref g2]) ++ List.replicate (3 - (lg_sl ([.ref h0, .ref g1, .ref g2])).length) Slot.unset).toArray = ls at hl ⊢
  have hl : lv_has ls 3 [(0, .ref h0), (1, .ref g1), (2, .ref g2)] := hl
  refine lv_aload_n hx hb dN_X7_init_0 rfl (lv_at hl 0 rfl) ?_
  refine W.objInit hx hb hown (hts _ (zk_wi1 317 (by decide +kernel))) (hts _ lw_obj.1) (hts _ lw_obj.2) rfl (by rw [hml]; exact hl.1) rfl dN_X7_init_1 (Nat.le_of_ble_eq_true rfl) (Nat.le_of_ble_eq_true rfl) ?_
  refine W.eq (g2 := F0 m 4 ls []) rfl ?_
  refine lv_aload_n hx hb dN_X7_init_4 rfl (lv_at hl 0 rfl) ?_
  refine lv_bipush (v := 8) hx hb dN_X7_init_5 (by decide) ?_
  refine lw_newi hx hb hts hK hP hD hS hA 0 rfl 8 (by decide) (by decide) (Nat.le_of_ble_eq_true rfl) (Nat.le_of_ble_eq_true rfl) (Nat.le_of_ble_eq_true rfl) dN_X7_init_7 (fun q1 H hP hD hS => ?_)
  have hP : va_P D zk_cl [(h0, .inr (7, [.null, .null, .null])), (q1, .inl (tA 0, 8, .inl (fun _ => 0)))] H := hP
  have hD : va_D A [(h0, .inr (7, [.null, .null, .null])), (q1, .inl (tA 0, 8, .inl (fun _ => 0)))] := hD
  refine W.widen (k := 1) (n := 8) (by omega) (by omega) ?_
  refine va_putF (D := D) (ci := 7) (v := .ref q1) (ty := .array .int) (C := RX7) (T := TX7) (N := 3) hx hb hts zk_lays7 tyX7 tyX7_ok nmX7 hown hK hP hD hS 0 rfl rfl 2 (by decide) (hts _ (zk_wi1 320 (by decide +kernel))) (fun _ h9 => h9) rfl hin rfl (by decide +kernel) rfl rfl (Nat.le_of_ble_eq_true rfl) dN_X7_init_9 (fun H locs hP hD hS => ?_)
  have hP : va_P D zk_cl [(h0, .inr (7, [.null, .null, .ref q1])), (q1, .inl (tA 0, 8, .inl (fun _ => 0)))] H := hP
  have hD : va_D A [(h0, .inr (7, [.null, .null, .ref q1])), (q1, .inl (tA 0, 8, .inl (fun _ => 0)))] := hD
  refine lv_aload_n hx hb dN_X7_init_12 rfl (lv_at hl 0 rfl) ?_
  refine lv_aload_n hx hb dN_X7_init_13 rfl (lv_at hl 1 rfl) ?_
  refine va_putF (D := D) (ci := 7) (v := .ref g1) (ty := .object "CardUnsigned$Office") (C := RX7) (T := TX7) (N := 3) hx hb hts zk_lays7 tyX7 tyX7_ok nmX7 hown hK hP hD hS 0 rfl rfl 0 (by decide) (hts _ (zk_wi1 318 (by decide +kernel))) (fun _ h9 => h9) rfl hin rfl (by decide +kernel) rfl rfl (Nat.le_of_ble_eq_true rfl) dN_X7_init_14 (fun H locs hP hD hS => ?_)
  have hP : va_P D zk_cl [(h0, .inr (7, [.ref g1, .null, .ref q1])), (q1, .inl (tA 0, 8, .inl (fun _ => 0)))] H := hP
  have hD : va_D A [(h0, .inr (7, [.ref g1, .null, .ref q1])), (q1, .inl (tA 0, 8, .inl (fun _ => 0)))] := hD
  refine lv_aload_n hx hb dN_X7_init_17 rfl (lv_at hl 0 rfl) ?_
  refine lv_aload_n hx hb dN_X7_init_18 rfl (lv_at hl 2 rfl) ?_
  refine va_putF (D := D) (ci := 7) (v := .ref g2) (ty := .object "CardUnsigned$Thought") (C := RX7) (T := TX7) (N := 3) hx hb hts zk_lays7 tyX7 tyX7_ok nmX7 hown hK hP hD hS 0 rfl rfl 1 (by decide) (hts _ (zk_wi1 319 (by decide +kernel))) (fun _ h9 => h9) rfl hin rfl (by decide +kernel) rfl rfl (Nat.le_of_ble_eq_true rfl) dN_X7_init_19 (fun H locs hP hD hS => ?_)
  have hP : va_P D zk_cl [(h0, .inr (7, [.ref g1, .ref g2, .ref q1])), (q1, .inl (tA 0, 8, .inl (fun _ => 0)))] H := hP
  have hD : va_D A [(h0, .inr (7, [.ref g1, .ref g2, .ref q1])), (q1, .inl (tA 0, 8, .inl (fun _ => 0)))] := hD
  have hP9 := hP.sub (ws' := [(h0, .inr (7, [.ref g1, .ref g2, .ref q1])), (q1, .inl (tA 0, 8, .inl (fun _ => 0)))]) [0, 1] rfl
  have hD9 := hD.sub (ws' := [(h0, .inr (7, [.ref g1, .ref g2, .ref q1])), (q1, .inl (tA 0, 8, .inl (fun _ => 0)))]) [0, 1] (by decide) rfl
  exact W.vret hx hb hr (fun t ht hW => ⟨⟨(q1), rfl, trivial, by rw [ht]; exact hP9, hD9⟩, hS.F ht⟩) hS.2.2 dN_X7_init_22
abbrev cX8_init : ByteArray := prog_10_method_1_code
def yX8_init : MethodName := ⟨RX8, "<init>", "()V"⟩
theorem dN_X8_init_0 : decode cX8_init 0 = .ok (.aload_n 0, 1) := by decide +kernel
theorem dN_X8_init_1 : decode cX8_init 1 = .ok (.invokespecial 3, 3) := by decide +kernel
theorem dN_X8_init_4 : decode cX8_init 4 = .ok (.aload_n 0, 1) := by decide +kernel
theorem dN_X8_init_5 : decode cX8_init 5 = .ok (.bipush 60, 2) := by decide +kernel
theorem dN_X8_init_7 : decode cX8_init 7 = .ok (.newarray .long, 2) := by decide +kernel
theorem dN_X8_init_9 : decode cX8_init 9 = .ok (.putfield 11, 3) := by decide +kernel
theorem dN_X8_init_12 : decode cX8_init 12 = .ok (.return_, 1) := by decide +kernel
set_option maxHeartbeats 4000000 in
set_option maxRecDepth 100000 in
theorem n_X8_init (l : Launch) (D : va_G) (tA : Nat → ClassId) (h0 : Nat) (sz : Nat) : Met l yX8_init (zk_ws (yX8_init, cX8_init, 1, none)) ({ frames := 5, cells := 1, slots := 60, locals := 200 }) (va_Pc [.ref h0] (fun U => U.heap.size = sz ∧ va_P D zk_cl [(h0, .inr (8, [.int 0, .int 0, .int 0, .int 0, .null]))] U.heap ∧ va_K D zk_cl (lw_ty tA) U ∧ va_D (fun _ => True) [(h0, .inr (8, [.int 0, .int 0, .int 0, .int 0, .null]))])) (va_Qv (fun _ : Nat => True) (fun u t => va_P D zk_cl [(h0, .inr (8, [.int 0, .int 0, .int 0, .int 0, .ref (u)])), ((u), .inl (tA 1, 60, .inr (.inl (fun _ => 0))))] t.heap ∧ va_D (va_A [(h0, .inr (8, [.int 0, .int 0, .int 0, .int 0, .null]))] sz) [(h0, .inr (8, [.int 0, .int 0, .int 0, .int 0, .ref (u)])), ((u), .inl (tA 1, 60, .inr (.inl (fun _ => 0))))]) (va_A [(h0, .inr (8, [.int 0, .int 0, .int 0, .int 0, .null]))] sz)) 1 60 (va_A [(h0, .inr (8, [.int 0, .int 0, .int 0, .int 0, .null]))] sz) := by
  refine Met.ofW (cc := cX8_init) (maxL := 1) (ret := none) (by decide +kernel) rfl ?_
  intro p e s m args below meth c s₁ B hml hv
  obtain ⟨rfl, hsz, hP, hK, hD0⟩ := hv
  have hx := B.exec
  have hb := B.bytes
  have hr := B.returns
  have hts : ∀ w ∈ zk_uw, w.before #[.ref h0] s = true := fun w hw => atoms_spec (ws := zk_ws (yX8_init, cX8_init, 1, none)) B.pre w (List.mem_cons_of_mem _ hw)
  have hown : s.vm.findClass RX8 = some m.cls := findClass_of_methodNamed B.named
  have hin : meth.name = "<init>" := (name_of_methodNamed B.named B.method).1
  subst hsz
  have hD := hD0.self (sz := s.heap.size)
  generalize hAe : va_A [(h0, .inr (8, [.int 0, .int 0, .int 0, .int 0, .null]))] s.heap.size = A at hD ⊢
  have hA : ∀ q : Nat, s.heap.size ≤ q → A q := fun q h => by rw [← hAe]; exact Or.inr h
  have hS : va_S A s.heap s.heap [] := va_S.rf
  have hP : va_P D zk_cl [(h0, .inr (8, [.int 0, .int 0, .int 0, .int 0, .null]))] s.heap := hP
  have hl := lv_entry ([.ref h0]) (n := 1) (Nat.le_of_ble_eq_true rfl)
  rw [lg_entry_eq]
  generalize (lg_sl ([.ref h0]) ++ List.replicate (1 - (lg_sl ([.ref h0])).length) Slot.unset).toArray = ls at hl ⊢
  have hl : lv_has ls 1 [(0, .ref h0)] := hl
  refine lv_aload_n hx hb dN_X8_init_0 rfl (lv_at hl 0 rfl) ?_
  refine W.objInit hx hb hown (hts _ (zk_wi1 406 (by decide +kernel))) (hts _ lw_obj.1) (hts _ lw_obj.2) rfl (by rw [hml]; exact hl.1) rfl dN_X8_init_1 (Nat.le_of_ble_eq_true rfl) (Nat.le_of_ble_eq_true rfl) ?_
  refine W.eq (g2 := F0 m 4 ls []) rfl ?_
  refine lv_aload_n hx hb dN_X8_init_4 rfl (lv_at hl 0 rfl) ?_
  refine lv_bipush (v := 60) hx hb dN_X8_init_5 (by decide) ?_
  refine lw_newl hx hb hts hK hP hD hS hA 1 rfl 60 (by decide) (by decide) (Nat.le_of_ble_eq_true rfl) (Nat.le_of_ble_eq_true rfl) (Nat.le_of_ble_eq_true rfl) dN_X8_init_7 (fun q1 H hP hD hS => ?_)
  have hP : va_P D zk_cl [(h0, .inr (8, [.int 0, .int 0, .int 0, .int 0, .null])), (q1, .inl (tA 1, 60, .inr (.inl (fun _ => 0))))] H := hP
  have hD : va_D A [(h0, .inr (8, [.int 0, .int 0, .int 0, .int 0, .null])), (q1, .inl (tA 1, 60, .inr (.inl (fun _ => 0))))] := hD
  refine W.widen (k := 1) (n := 60) (by omega) (by omega) ?_
  refine va_putF (D := D) (ci := 8) (v := .ref q1) (ty := .array .long) (C := RX8) (T := TX8) (N := 5) hx hb hts zk_lays8 tyX8 tyX8_ok nmX8 hown hK hP hD hS 0 rfl rfl 4 (by decide) (hts _ (zk_wi1 415 (by decide +kernel))) (fun _ h9 => h9) rfl hin rfl (by decide +kernel) rfl rfl (Nat.le_of_ble_eq_true rfl) dN_X8_init_9 (fun H locs hP hD hS => ?_)
  have hP : va_P D zk_cl [(h0, .inr (8, [.int 0, .int 0, .int 0, .int 0, .ref q1])), (q1, .inl (tA 1, 60, .inr (.inl (fun _ => 0))))] H := hP
  have hD : va_D A [(h0, .inr (8, [.int 0, .int 0, .int 0, .int 0, .ref q1])), (q1, .inl (tA 1, 60, .inr (.inl (fun _ => 0))))] := hD
  have hP9 := hP.sub (ws' := [(h0, .inr (8, [.int 0, .int 0, .int 0, .int 0, .ref q1])), (q1, .inl (tA 1, 60, .inr (.inl (fun _ => 0))))]) [0, 1] rfl
  have hD9 := hD.sub (ws' := [(h0, .inr (8, [.int 0, .int 0, .int 0, .int 0, .ref q1])), (q1, .inl (tA 1, 60, .inr (.inl (fun _ => 0))))]) [0, 1] (by decide) rfl
  exact W.vret hx hb hr (fun t ht hW => ⟨⟨(q1), rfl, trivial, by rw [ht]; exact hP9, hD9⟩, hS.F ht⟩) hS.2.2 dN_X8_init_12
abbrev cX10_init : ByteArray := prog_12_method_1_code
def yX10_init : MethodName := ⟨RX10, "<init>", "(LCardUnsigned$Office;LCardUnsigned$Law;)V"⟩
theorem dN_X10_init_0 : decode cX10_init 0 = .ok (.aload_n 0, 1) := by decide +kernel
theorem dN_X10_init_1 : decode cX10_init 1 = .ok (.invokespecial 3, 3) := by decide +kernel
theorem dN_X10_init_4 : decode cX10_init 4 = .ok (.aload_n 0, 1) := by decide +kernel
theorem dN_X10_init_5 : decode cX10_init 5 = .ok (.ldc 11, 2) := by decide +kernel
theorem dN_X10_init_7 : decode cX10_init 7 = .ok (.invokevirtual 13, 3) := by decide +kernel
theorem dN_X10_init_10 : decode cX10_init 10 = .ok (.newarray .int, 2) := by decide +kernel
theorem dN_X10_init_12 : decode cX10_init 12 = .ok (.putfield 19, 3) := by decide +kernel
theorem dN_X10_init_15 : decode cX10_init 15 = .ok (.aload_n 0, 1) := by decide +kernel
theorem dN_X10_init_16 : decode cX10_init 16 = .ok (.bipush 8, 2) := by decide +kernel
theorem dN_X10_init_18 : decode cX10_init 18 = .ok (.newarray .int, 2) := by decide +kernel
theorem dN_X10_init_20 : decode cX10_init 20 = .ok (.putfield 27, 3) := by decide +kernel
theorem dN_X10_init_23 : decode cX10_init 23 = .ok (.aload_n 0, 1) := by decide +kernel
theorem dN_X10_init_24 : decode cX10_init 24 = .ok (.bipush 6, 2) := by decide +kernel
theorem dN_X10_init_26 : decode cX10_init 26 = .ok (.newarray .int, 2) := by decide +kernel
theorem dN_X10_init_28 : decode cX10_init 28 = .ok (.putfield 30, 3) := by decide +kernel
theorem dN_X10_init_31 : decode cX10_init 31 = .ok (.aload_n 0, 1) := by decide +kernel
theorem dN_X10_init_32 : decode cX10_init 32 = .ok (.sipush 256, 3) := by decide +kernel
theorem dN_X10_init_35 : decode cX10_init 35 = .ok (.newarray .int, 2) := by decide +kernel
theorem dN_X10_init_37 : decode cX10_init 37 = .ok (.putfield 33, 3) := by decide +kernel
theorem dN_X10_init_40 : decode cX10_init 40 = .ok (.aload_n 0, 1) := by decide +kernel
theorem dN_X10_init_41 : decode cX10_init 41 = .ok (.aload_n 1, 1) := by decide +kernel
theorem dN_X10_init_42 : decode cX10_init 42 = .ok (.putfield 36, 3) := by decide +kernel
theorem dN_X10_init_45 : decode cX10_init 45 = .ok (.aload_n 0, 1) := by decide +kernel
theorem dN_X10_init_46 : decode cX10_init 46 = .ok (.aload_n 2, 1) := by decide +kernel
theorem dN_X10_init_47 : decode cX10_init 47 = .ok (.putfield 40, 3) := by decide +kernel
theorem dN_X10_init_50 : decode cX10_init 50 = .ok (.return_, 1) := by decide +kernel
set_option maxHeartbeats 4000000 in
set_option maxRecDepth 100000 in
theorem n_X10_init (l : Launch) (D : va_G) (tA : Nat → ClassId) (ad : Nat → Nat) (h0 g1 g2 : Nat) (sz : Nat) : Met l yX10_init (zk_ws (yX10_init, cX10_init, 3, none)) ({ frames := 5, cells := 4, slots := 276, locals := 200 }) (va_Pc [.ref h0, .ref g1, .ref g2] (fun U => U.heap.size = sz ∧ va_P D zk_cl [(h0, .inr (10, [.null, .null, .null, .null, .null, .null]))] U.heap ∧ va_K D zk_cl (lw_ty tA) U ∧ va_D (fun _ => True) [(h0, .inr (10, [.null, .null, .null, .null, .null, .null]))] ∧ zk_Bg (D, tA, ad) (va_A [(h0, .inr (10, [.null, .null, .null, .null, .null, .null]))] sz) U)) (va_Qv (fun _ : Nat × Nat × Nat × Nat => True) (fun u t => va_P D zk_cl [(h0, .inr (10, [.ref g1, .ref g2, .ref (u.1), .ref (u.2.1), .ref (u.2.2.1), .ref (u.2.2.2)])), ((u.1), .inl (tA 0, 6, .inl (fun _ => 0))), ((u.2.1), .inl (tA 0, 8, .inl (fun _ => 0))), ((u.2.2.1), .inl (tA 0, 6, .inl (fun _ => 0))), ((u.2.2.2), .inl (tA 0, 256, .inl (fun _ => 0)))] t.heap ∧ va_D (va_A [(h0, .inr (10, [.null, .null, .null, .null, .null, .null]))] sz) [(h0, .inr (10, [.ref g1, .ref g2, .ref (u.1), .ref (u.2.1), .ref (u.2.2.1), .ref (u.2.2.2)])), ((u.1), .inl (tA 0, 6, .inl (fun _ => 0))), ((u.2.1), .inl (tA 0, 8, .inl (fun _ => 0))), ((u.2.2.1), .inl (tA 0, 6, .inl (fun _ => 0))), ((u.2.2.2), .inl (tA 0, 256, .inl (fun _ => 0)))]) (va_A [(h0, .inr (10, [.null, .null, .null, .null, .null, .null]))] sz)) 4 276 (va_A [(h0, .inr (10, [.null, .null, .null, .null, .null, .null]))] sz) := by
  refine Met.ofW (cc := cX10_init) (maxL := 3) (ret := none) (by decide +kernel) rfl ?_
  intro p e s m args below meth c s₁ B hml hv
  obtain ⟨rfl, hsz, hP, hK, hD0, hBg⟩ := hv
  have hx := B.exec
  have hb := B.bytes
  have hr := B.returns
  have hts : ∀ w ∈ zk_uw, w.before #[.ref h0, .ref g1, .ref g2] s = true := fun w hw => atoms_spec (ws := zk_ws (yX10_init, cX10_init, 3, none)) B.pre w (List.mem_cons_of_mem _ hw)
  have hown : s.vm.findClass RX10 = some m.cls := findClass_of_methodNamed B.named
  have hin : meth.name = "<init>" := (name_of_methodNamed B.named B.method).1
  subst hsz
  have hD := hD0.self (sz := s.heap.size)
  generalize hAe : va_A [(h0, .inr (10, [.null, .null, .null, .null, .null, .null]))] s.heap.size = A at hD hBg ⊢
  have hA : ∀ q : Nat, s.heap.size ≤ q → A q := fun q h => by rw [← hAe]; exact Or.inr h
  have hS : va_S A s.heap s.heap [] := va_S.rf
  have hP : va_P D zk_cl [(h0, .inr (10, [.null, .null, .null, .null, .null, .null]))] s.heap := hP
  have hl := lv_entry ([.ref h0, .ref g1, .ref g2]) (n := 3) (Nat.le_of_ble_eq_true rfl)
  rw [lg_entry_eq]
  generalize (lg_sl ([.ref h0, .ref g1, .ref g2]) ++ List.replicate (3 - (lg_sl ([.ref h0, .ref g1, .ref g2])).length) Slot.unset).toArray = ls at hl ⊢
  have hl : lv_has ls 3 [(0, .ref h0), (1, .ref g1), (2, .ref g2)] := hl
  refine lv_aload_n hx hb dN_X10_init_0 rfl (lv_at hl 0 rfl) ?_
  refine W.objInit hx hb hown (hts _ (zk_wi1 249 (by decide +kernel))) (hts _ lw_obj.1) (hts _ lw_obj.2) rfl (by rw [hml]; exact hl.1) rfl dN_X10_init_1 (Nat.le_of_ble_eq_true rfl) (Nat.le_of_ble_eq_true rfl) ?_
  refine W.eq (g2 := F0 m 4 ls []) rfl ?_
  refine lv_aload_n hx hb dN_X10_init_4 rfl (lv_at hl 0 rfl) ?_
  refine va_ldcS hx hb hown hBg.2.2.2.2.2.2 dN_X10_init_5 ?_
  refine lw_len (E := (D, tA, ad)) hx hb hml hown hts hK hBg hP hS hA (zk_wi1 251 (by decide +kernel)) hl.1 (Nat.le_of_ble_eq_true rfl) (Nat.le_of_ble_eq_true rfl) (Nat.le_of_ble_eq_true rfl) dN_X10_init_7 ⟨(Nat.le_of_ble_eq_true rfl), (Nat.le_of_ble_eq_true rfl)⟩ (fun H locs hP hS => ?_)
  refine lw_newi hx hb hts hK hP hD hS hA 0 rfl 6 (by decide) (by decide) (Nat.le_of_ble_eq_true rfl) (Nat.le_of_ble_eq_true rfl) (Nat.le_of_ble_eq_true rfl) dN_X10_init_10 (fun q1 H hP hD hS => ?_)
  have hP : va_P D zk_cl [(h0, .inr (10, [.null, .null, .null, .null, .null, .null])), (q1, .inl (tA 0, 6, .inl (fun _ => 0)))] H := hP
  have hD : va_D A [(h0, .inr (10, [.null, .null, .null, .null, .null, .null])), (q1, .inl (tA 0, 6, .inl (fun _ => 0)))] := hD
  refine W.widen (k := 1) (n := 6) (by omega) (by omega) ?_
  refine va_putF (D := D) (ci := 10) (v := .ref q1) (ty := .array .int) (C := RX10) (T := TX10) (N := 6) hx hb hts zk_lays10 tyX10 tyX10_ok nmX10 hown hK hP hD hS 0 rfl rfl 2 (by decide) (hts _ (zk_wi1 263 (by decide +kernel))) (fun _ h9 => h9) rfl hin rfl (by decide +kernel) rfl rfl (Nat.le_of_ble_eq_true rfl) dN_X10_init_12 (fun H locs hP hD hS => ?_)
  have hP : va_P D zk_cl [(h0, .inr (10, [.null, .null, .ref q1, .null, .null, .null])), (q1, .inl (tA 0, 6, .inl (fun _ => 0)))] H := hP
  have hD : va_D A [(h0, .inr (10, [.null, .null, .ref q1, .null, .null, .null])), (q1, .inl (tA 0, 6, .inl (fun _ => 0)))] := hD
  refine lv_aload_n hx hb dN_X10_init_15 rfl (lv_at hl 0 rfl) ?_
  refine lv_bipush (v := 8) hx hb dN_X10_init_16 (by decide) ?_
  refine lw_newi hx hb hts hK hP hD hS hA 0 rfl 8 (by decide) (by decide) (Nat.le_of_ble_eq_true rfl) (Nat.le_of_ble_eq_true rfl) (Nat.le_of_ble_eq_true rfl) dN_X10_init_18 (fun q2 H hP hD hS => ?_)
  have hP : va_P D zk_cl [(h0, .inr (10, [.null, .null, .ref q1, .null, .null, .null])), (q1, .inl (tA 0, 6, .inl (fun _ => 0))), (q2, .inl (tA 0, 8, .inl (fun _ => 0)))] H := hP
  have hD : va_D A [(h0, .inr (10, [.null, .null, .ref q1, .null, .null, .null])), (q1, .inl (tA 0, 6, .inl (fun _ => 0))), (q2, .inl (tA 0, 8, .inl (fun _ => 0)))] := hD
  refine W.widen (k := 2) (n := 14) (by omega) (by omega) ?_
  refine va_putF (D := D) (ci := 10) (v := .ref q2) (ty := .array .int) (C := RX10) (T := TX10) (N := 6) hx hb hts zk_lays10 tyX10 tyX10_ok nmX10 hown hK hP hD hS 0 rfl rfl 3 (by decide) (hts _ (zk_wi1 264 (by decide +kernel))) (fun _ h9 => h9) rfl hin rfl (by decide +kernel) rfl rfl (Nat.le_of_ble_eq_true rfl) dN_X10_init_20 (fun H locs hP hD hS => ?_)
  have hP : va_P D zk_cl [(h0, .inr (10, [.null, .null, .ref q1, .ref q2, .null, .null])), (q1, .inl (tA 0, 6, .inl (fun _ => 0))), (q2, .inl (tA 0, 8, .inl (fun _ => 0)))] H := hP
  have hD : va_D A [(h0, .inr (10, [.null, .null, .ref q1, .ref q2, .null, .null])), (q1, .inl (tA 0, 6, .inl (fun _ => 0))), (q2, .inl (tA 0, 8, .inl (fun _ => 0)))] := hD
  refine lv_aload_n hx hb dN_X10_init_23 rfl (lv_at hl 0 rfl) ?_
  refine lv_bipush (v := 6) hx hb dN_X10_init_24 (by decide) ?_
  refine lw_newi hx hb hts hK hP hD hS hA 0 rfl 6 (by decide) (by decide) (Nat.le_of_ble_eq_true rfl) (Nat.le_of_ble_eq_true rfl) (Nat.le_of_ble_eq_true rfl) dN_X10_init_26 (fun q3 H hP hD hS => ?_)
  have hP : va_P D zk_cl [(h0, .inr (10, [.null, .null, .ref q1, .ref q2, .null, .null])), (q1, .inl (tA 0, 6, .inl (fun _ => 0))), (q2, .inl (tA 0, 8, .inl (fun _ => 0))), (q3, .inl (tA 0, 6, .inl (fun _ => 0)))] H := hP
  have hD : va_D A [(h0, .inr (10, [.null, .null, .ref q1, .ref q2, .null, .null])), (q1, .inl (tA 0, 6, .inl (fun _ => 0))), (q2, .inl (tA 0, 8, .inl (fun _ => 0))), (q3, .inl (tA 0, 6, .inl (fun _ => 0)))] := hD
  refine W.widen (k := 3) (n := 20) (by omega) (by omega) ?_
  refine va_putF (D := D) (ci := 10) (v := .ref q3) (ty := .array .int) (C := RX10) (T := TX10) (N := 6) hx hb hts zk_lays10 tyX10 tyX10_ok nmX10 hown hK hP hD hS 0 rfl rfl 4 (by decide) (hts _ (zk_wi1 268 (by decide +kernel))) (fun _ h9 => h9) rfl hin rfl (by decide +kernel) rfl rfl (Nat.le_of_ble_eq_true rfl) dN_X10_init_28 (fun H locs hP hD hS => ?_)
  have hP : va_P D zk_cl [(h0, .inr (10, [.null, .null, .ref q1, .ref q2, .ref q3, .null])), (q1, .inl (tA 0, 6, .inl (fun _ => 0))), (q2, .inl (tA 0, 8, .inl (fun _ => 0))), (q3, .inl (tA 0, 6, .inl (fun _ => 0)))] H := hP
  have hD : va_D A [(h0, .inr (10, [.null, .null, .ref q1, .ref q2, .ref q3, .null])), (q1, .inl (tA 0, 6, .inl (fun _ => 0))), (q2, .inl (tA 0, 8, .inl (fun _ => 0))), (q3, .inl (tA 0, 6, .inl (fun _ => 0)))] := hD
  refine lv_aload_n hx hb dN_X10_init_31 rfl (lv_at hl 0 rfl) ?_
  refine lv_sipush (v := 256) hx hb dN_X10_init_32 (by decide) ?_
  refine lw_newi hx hb hts hK hP hD hS hA 0 rfl 256 (by decide) (by decide) (Nat.le_of_ble_eq_true rfl) (Nat.le_of_ble_eq_true rfl) (Nat.le_of_ble_eq_true rfl) dN_X10_init_35 (fun q4 H hP hD hS => ?_)
  have hP : va_P D zk_cl [(h0, .inr (10, [.null, .null, .ref q1, .ref q2, .ref q3, .null])), (q1, .inl (tA 0, 6, .inl (fun _ => 0))), (q2, .inl (tA 0, 8, .inl (fun _ => 0))), (q3, .inl (tA 0, 6, .inl (fun _ => 0))), (q4, .inl (tA 0, 256, .inl (fun _ => 0)))] H := hP
  have hD : va_D A [(h0, .inr (10, [.null, .null, .ref q1, .ref q2, .ref q3, .null])), (q1, .inl (tA 0, 6, .inl (fun _ => 0))), (q2, .inl (tA 0, 8, .inl (fun _ => 0))), (q3, .inl (tA 0, 6, .inl (fun _ => 0))), (q4, .inl (tA 0, 256, .inl (fun _ => 0)))] := hD
  refine W.widen (k := 4) (n := 276) (by omega) (by omega) ?_
  refine va_putF (D := D) (ci := 10) (v := .ref q4) (ty := .array .int) (C := RX10) (T := TX10) (N := 6) hx hb hts zk_lays10 tyX10 tyX10_ok nmX10 hown hK hP hD hS 0 rfl rfl 5 (by decide) (hts _ (zk_wi1 269 (by decide +kernel))) (fun _ h9 => h9) rfl hin rfl (by decide +kernel) rfl rfl (Nat.le_of_ble_eq_true rfl) dN_X10_init_37 (fun H locs hP hD hS => ?_)
  have hP : va_P D zk_cl [(h0, .inr (10, [.null, .null, .ref q1, .ref q2, .ref q3, .ref q4])), (q1, .inl (tA 0, 6, .inl (fun _ => 0))), (q2, .inl (tA 0, 8, .inl (fun _ => 0))), (q3, .inl (tA 0, 6, .inl (fun _ => 0))), (q4, .inl (tA 0, 256, .inl (fun _ => 0)))] H := hP
  have hD : va_D A [(h0, .inr (10, [.null, .null, .ref q1, .ref q2, .ref q3, .ref q4])), (q1, .inl (tA 0, 6, .inl (fun _ => 0))), (q2, .inl (tA 0, 8, .inl (fun _ => 0))), (q3, .inl (tA 0, 6, .inl (fun _ => 0))), (q4, .inl (tA 0, 256, .inl (fun _ => 0)))] := hD
  refine lv_aload_n hx hb dN_X10_init_40 rfl (lv_at hl 0 rfl) ?_
  refine lv_aload_n hx hb dN_X10_init_41 rfl (lv_at hl 1 rfl) ?_
  refine va_putF (D := D) (ci := 10) (v := .ref g1) (ty := .object "CardUnsigned$Office") (C := RX10) (T := TX10) (N := 6) hx hb hts zk_lays10 tyX10 tyX10_ok nmX10 hown hK hP hD hS 0 rfl rfl 0 (by decide) (hts _ (zk_wi1 261 (by decide +kernel))) (fun _ h9 => h9) rfl hin rfl (by decide +kernel) rfl rfl (Nat.le_of_ble_eq_true rfl) dN_X10_init_42 (fun H locs hP hD hS => ?_)
  have hP : va_P D zk_cl [(h0, .inr (10, [.ref g1, .null, .ref q1, .ref q2, .ref q3, .ref q4])), (q1, .inl (tA 0, 6, .inl (fun _ => 0))), (q2, .inl (tA 0, 8, .inl (fun _ => 0))), (q3, .inl (tA 0, 6, .inl (fun _ => 0))), (q4, .inl (tA 0, 256, .inl (fun _ => 0)))] H := hP
  have hD : va_D A [(h0, .inr (10, [.ref g1, .null, .ref q1, .ref q2, .ref q3, .ref q4])), (q1, .inl (tA 0, 6, .inl (fun _ => 0))), (q2, .inl (tA 0, 8, .inl (fun _ => 0))), (q3, .inl (tA 0, 6, .inl (fun _ => 0))), (q4, .inl (tA 0, 256, .inl (fun _ => 0)))] := hD
  refine lv_aload_n hx hb dN_X10_init_45 rfl (lv_at hl 0 rfl) ?_
  refine lv_aload_n hx hb dN_X10_init_46 rfl (lv_at hl 2 rfl) ?_
  refine va_putF (D := D) (ci := 10) (v := .ref g2) (ty := .object "CardUnsigned$Law") (C := RX10) (T := TX10) (N := 6) hx hb hts zk_lays10 tyX10 tyX10_ok nmX10 hown hK hP hD hS 0 rfl rfl 1 (by decide) (hts _ (zk_wi1 262 (by decide +kernel))) (fun _ h9 => h9) rfl hin rfl (by decide +kernel) rfl rfl (Nat.le_of_ble_eq_true rfl) dN_X10_init_47 (fun H locs hP hD hS => ?_)
  have hP : va_P D zk_cl [(h0, .inr (10, [.ref g1, .ref g2, .ref q1, .ref q2, .ref q3, .ref q4])), (q1, .inl (tA 0, 6, .inl (fun _ => 0))), (q2, .inl (tA 0, 8, .inl (fun _ => 0))), (q3, .inl (tA 0, 6, .inl (fun _ => 0))), (q4, .inl (tA 0, 256, .inl (fun _ => 0)))] H := hP
  have hD : va_D A [(h0, .inr (10, [.ref g1, .ref g2, .ref q1, .ref q2, .ref q3, .ref q4])), (q1, .inl (tA 0, 6, .inl (fun _ => 0))), (q2, .inl (tA 0, 8, .inl (fun _ => 0))), (q3, .inl (tA 0, 6, .inl (fun _ => 0))), (q4, .inl (tA 0, 256, .inl (fun _ => 0)))] := hD
  have hP9 := hP.sub (ws' := [(h0, .inr (10, [.ref g1, .ref g2, .ref q1, .ref q2, .ref q3, .ref q4])), (q1, .inl (tA 0, 6, .inl (fun _ => 0))), (q2, .inl (tA 0, 8, .inl (fun _ => 0))), (q3, .inl (tA 0, 6, .inl (fun _ => 0))), (q4, .inl (tA 0, 256, .inl (fun _ => 0)))]) [0, 1, 2, 3, 4] rfl
  have hD9 := hD.sub (ws' := [(h0, .inr (10, [.ref g1, .ref g2, .ref q1, .ref q2, .ref q3, .ref q4])), (q1, .inl (tA 0, 6, .inl (fun _ => 0))), (q2, .inl (tA 0, 8, .inl (fun _ => 0))), (q3, .inl (tA 0, 6, .inl (fun _ => 0))), (q4, .inl (tA 0, 256, .inl (fun _ => 0)))]) [0, 1, 2, 3, 4] (by decide) rfl
  exact W.vret hx hb hr (fun t ht hW => ⟨⟨(q1, q2, q3, q4), rfl, trivial, by rw [ht]; exact hP9, hD9⟩, hS.F ht⟩) hS.2.2 dN_X10_init_50
