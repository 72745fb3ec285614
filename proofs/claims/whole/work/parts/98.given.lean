/-! WHAT THE STATEMENT GIVES OF THE START: constant arrays, the constant text, classes, classes of arrays. Written by wip/whole/gen98.py -/
abbrev lw_fl : List Cond := flatC (Jvm.Cond.and given_1 narrow_1)
theorem lw_el {args : Array Value} {s : State} {tm : Term} {l : List Int32} (hs : ∀ w ∈ lw_fl, w.before args s = true) (h : ∀ j, j < l.length → Cond.eq (.elem tm (.int (Int32.ofNat j))) (.int (l.getD j 0)) ∈ lw_fl) : ∀ j, j < l.length → (Term.elem tm (.int (Int32.ofNat j))).eval args s none [] s = some (.int (l.getD j 0)) := fun j hj => by
  obtain ⟨y, h1, h2⟩ := Cond.eq_one (hs _ (h j hj))
  have h2 : some (Value.int (l.getD j 0)) = some y := h2
  cases h2
  exact h1
theorem lw_eqi {args : Array Value} {s : State} {tm : Term} {n : Int32} (h : (Cond.eq tm (.int n)).before args s = true) : tm.eval args s none [] s = some (.int n) := by
  obtain ⟨y, h1, h2⟩ := Cond.eq_one h
  have h2 : some (Value.int n) = some y := h2
  cases h2
  exact h1
theorem lw_bg {s : State} {b : Nat} (hs : ∀ w ∈ lw_fl, w.before #[Value.ref b] s = true) (ht : ∀ w ∈ lw_tbl, w.before #[Value.ref b] s = true) (D : va_G) (tA : Nat → ClassId) : ∃ ad : Nat → Nat, zk_Bg (D, tA, ad) (fun q : Nat => s.heap.size ≤ q) s := by
  have hA : ∀ a : Nat, a < s.heap.size → ¬ (fun q : Nat => s.heap.size ≤ q) a := fun a h => Nat.not_le.mpr h
  obtain ⟨t0, e0, T0⟩ := va_Tof (tm := .static RX4 "LEAST" "[I") (ty := .int) (N := 13) (f := fun j => .int (zk_rm0.getD j 0)) (A := fun q : Nat => s.heap.size ≤ q) (by decide) (hs _ (by decide +kernel)) (lw_eqi (n := 13) (hs _ (by decide +kernel))) (lw_el (l := zk_rm0) hs (by decide +kernel)) hA
  obtain ⟨t1, e1, T1⟩ := va_Tof (tm := .static RX4 "MOST" "[I") (ty := .int) (N := 13) (f := fun j => .int (zk_rm1.getD j 0)) (A := fun q : Nat => s.heap.size ≤ q) (by decide) (hs _ (by decide +kernel)) (lw_eqi (n := 13) (hs _ (by decide +kernel))) (lw_el (l := zk_rm1) hs (by decide +kernel)) hA
  obtain ⟨t2, e2, T2⟩ := va_Tof (tm := .static RX0 "ABOVE" "[I") (ty := .int) (N := 8) (f := fun j => .int (zk_rm2.getD j 0)) (A := fun q : Nat => s.heap.size ≤ q) (by decide) (hs _ (by decide +kernel)) (lw_eqi (n := 8) (hs _ (by decide +kernel))) (lw_el (l := zk_rm2) hs (by decide +kernel)) hA
  obtain ⟨t3, e3, T3⟩ := va_Tof (tm := .static RX0 "OWN" "[I") (ty := .int) (N := 32) (f := fun j => .int (zk_rm3.getD j 0)) (A := fun q : Nat => s.heap.size ≤ q) (by decide) (hs _ (by decide +kernel)) (lw_eqi (n := 32) (hs _ (by decide +kernel))) (lw_el (l := zk_rm3) hs (by decide +kernel)) hA
  obtain ⟨t4, e4, T4⟩ := va_Tof (tm := .field (.string RX10 11) "java/lang/String" "value" "[B") (ty := .byte) (N := 6) (f := fun j => .int (([108, 104, 115, 107, 109, 99] : List Int32).getD j 0)) (A := fun q : Nat => s.heap.size ≤ q) (by decide) (hs _ (by decide +kernel)) (lw_eqi (n := 6) (hs _ (by decide +kernel))) (lw_el (l := [108, 104, 115, 107, 109, 99]) hs (by decide +kernel)) hA
  obtain ⟨a, _, _, _, ea, -⟩ := Cond.exactly_spec (hs (.exactly (.string RX10 11) "java/lang/String") (by decide +kernel))
  have hO := va_Oof (hs (.exactly (.string RX10 11) "java/lang/String") (by decide +kernel)) ea hA
  obtain ⟨y, y1, y2⟩ := Cond.eq_one (hs (.eq (.string RX10 11) (.string RX5 77)) (by decide +kernel))
  have hy : y = .ref a := Option.some.inj (y1.symm.trans ea)
  rw [hy] at y2
  refine ⟨fun k => if k = 1000 then t0 else if k = 1001 then t1 else if k = 1002 then t2 else if k = 1003 then t3 else if k = 1004 then t4 else a, ?_, ?_, hO, vk_OFof ea (lw_eqi (hs _ (by decide +kernel))) hA, vk_OFof ea e4 hA, vk_R.of (ht _ (List.mem_of_getElem? (i := 616) (by decide +kernel))) y2, vk_R.of (ht _ (List.mem_of_getElem? (i := 250) (by decide +kernel))) ea⟩
  · intro t q hq
    match t, hq with
    | 0, hq => cases hq; exact T0
    | 1, hq => cases hq; exact T1
    | 2, hq => cases hq; exact T2
    | 3, hq => cases hq; exact T3
    | 4, hq => cases hq; exact T4
    | t + 5, hq => simp [zk_rom] at hq
  · refine List.forall_mem_cons.mpr ⟨va_Zof (ht _ (List.mem_of_getElem? (i := 470) (by decide +kernel))) (ht _ (List.mem_of_getElem? (i := 90) (by decide +kernel))) e0 hA, List.forall_mem_cons.mpr ⟨va_Zof (ht _ (List.mem_of_getElem? (i := 472) (by decide +kernel))) (ht _ (List.mem_of_getElem? (i := 90) (by decide +kernel))) e1 hA, List.forall_mem_cons.mpr ⟨va_Zof (ht _ (List.mem_of_getElem? (i := 1141) (by decide +kernel))) (ht _ (List.mem_of_getElem? (i := 100) (by decide +kernel))) e2 hA, List.forall_mem_cons.mpr ⟨va_Zof (ht _ (List.mem_of_getElem? (i := 1139) (by decide +kernel))) (ht _ (List.mem_of_getElem? (i := 100) (by decide +kernel))) e3 hA, List.forall_mem_cons.mpr ⟨va_Zof (ht _ (List.mem_of_getElem? (i := 260) (by decide +kernel))) (ht _ (List.mem_of_getElem? (i := 96) (by decide +kernel))) (lw_eqi (hs _ (by decide +kernel))) hA, fun _ h => absurd h List.not_mem_nil⟩⟩⟩⟩⟩
theorem lw_Bgu {D : va_G} {tA : Nat → ClassId} {ad u : Nat → Nat} {A : Nat → Prop} {U : State} (hu : ∀ k, 1000 ≤ k → u k = ad k) (h : zk_Bg (D, tA, ad) A U) : zk_Bg (D, tA, u) A U := by
  obtain ⟨h1, h2, h3, h4, h5, h6, h7⟩ := h
  have g : ∀ t, u (1000 + t) = ad (1000 + t) := fun t => hu _ (by omega)
  have g4 : u 1004 = ad 1004 := hu _ (by omega)
  have g20 : u 2000 = ad 2000 := hu _ (by omega)
  refine ⟨fun t q hq => by show va_T q.1 (u (1000 + t)) _ _ _ _ _; rw [g]; exact h1 t q hq, fun q hq => ?_, by show va_O _ (u 2000) _ _ _; rw [g20]; exact h3, by show va_OF _ _ _ _ (u 2000) _ _ _; rw [g20]; exact h4, by show va_OF _ _ _ (.ref (u 1004)) (u 2000) _ _ _; rw [g20, g4]; exact h5, by show vk_R _ _ _ (u 2000) _; rw [g20]; exact h6, by show vk_R _ _ _ (u 2000) _; rw [g20]; exact h7⟩
  have e : zk_cv (D, tA, u) q.2.2.2 = zk_cv (D, tA, ad) q.2.2.2 := by
    simp only [zk_sta, List.mem_cons, List.not_mem_nil, or_false] at hq
    rcases hq with rfl | rfl | rfl | rfl | rfl
    · exact congrArg Value.ref (g 0)
    · exact congrArg Value.ref (g 1)
    · exact congrArg Value.ref (g 2)
    · exact congrArg Value.ref (g 3)
    · rfl
  rw [e]
  exact h2 q hq
theorem lw_K {s : State} {b : Nat} (ht : ∀ w ∈ lw_tbl, w.before #[Value.ref b] s = true) : ∃ (D : va_G) (tA : Nat → ClassId), va_K D zk_cl (lw_ty tA) s := by
  have hts : ∀ w ∈ zk_uw, w.before #[Value.ref b] s = true := fun w hw => ht w (List.mem_filter.mp hw).1
  have h : ∀ k : Nat, ∃ x : ClassId × (Nat → Nat), ∀ q : vw_C, zk_cl[k]? = some q → u_Kn s q.1 q.2.1 q.2.2 x.1 x.2 := by
    intro k
    match k with
    | 0 =>
      obtain ⟨cC, iS, hKn⟩ := u_known (C := RX0) (T := TX0) (N := 5) (n := 5) hts zk_lays0 (ht _ (List.mem_of_getElem? (i := 375) (by decide +kernel)))
      exact ⟨(cC, iS), fun q hq => by cases hq; exact hKn⟩
    | 1 =>
      obtain ⟨cC, iS, hKn⟩ := u_known (C := RX1) (T := TX1) (N := 7) (n := 7) hts zk_lays1 (ht _ (List.mem_of_getElem? (i := 153) (by decide +kernel)))
      exact ⟨(cC, iS), fun q hq => by cases hq; exact hKn⟩
    | 2 =>
      obtain ⟨cC, iS, hKn⟩ := u_known (C := RX2) (T := TX2) (N := 11) (n := 11) hts zk_lays2 (ht _ (List.mem_of_getElem? (i := 330) (by decide +kernel)))
      exact ⟨(cC, iS), fun q hq => by cases hq; exact hKn⟩
    | 3 =>
      obtain ⟨cC, iS, hKn⟩ := u_known (C := RX3) (T := TX3) (N := 3) (n := 3) hts zk_lays3 (ht _ (List.mem_of_getElem? (i := 229) (by decide +kernel)))
      exact ⟨(cC, iS), fun q hq => by cases hq; exact hKn⟩
    | 4 =>
      obtain ⟨cC, iS, hKn⟩ := u_known (C := RX4) (T := TX4) (N := 3) (n := 3) hts zk_lays4 (ht _ (List.mem_of_getElem? (i := 119) (by decide +kernel)))
      exact ⟨(cC, iS), fun q hq => by cases hq; exact hKn⟩
    | 5 =>
      obtain ⟨cC, iS, hKn⟩ := u_known (C := RX5) (T := TX5) (N := 12) (n := 12) hts zk_lays5 (ht _ (List.mem_of_getElem? (i := 183) (by decide +kernel)))
      exact ⟨(cC, iS), fun q hq => by cases hq; exact hKn⟩
    | 6 =>
      obtain ⟨cC, iS, hKn⟩ := u_known (C := RX6) (T := TX6) (N := 6) (n := 6) hts zk_lays6 (ht _ (List.mem_of_getElem? (i := 285) (by decide +kernel)))
      exact ⟨(cC, iS), fun q hq => by cases hq; exact hKn⟩
    | 7 =>
      obtain ⟨cC, iS, hKn⟩ := u_known (C := RX7) (T := TX7) (N := 3) (n := 3) hts zk_lays7 (ht _ (List.mem_of_getElem? (i := 313) (by decide +kernel)))
      exact ⟨(cC, iS), fun q hq => by cases hq; exact hKn⟩
    | 8 =>
      obtain ⟨cC, iS, hKn⟩ := u_known (C := RX8) (T := TX8) (N := 5) (n := 5) hts zk_lays8 (ht _ (List.mem_of_getElem? (i := 402) (by decide +kernel)))
      exact ⟨(cC, iS), fun q hq => by cases hq; exact hKn⟩
    | 9 =>
      obtain ⟨cC, iS, hKn⟩ := u_known (C := RX8) (T := TX9) (N := 0) (n := 5) hts (fun w hw => absurd hw (by decide +kernel +revert)) (ht _ (List.mem_of_getElem? (i := 402) (by decide +kernel)))
      exact ⟨(cC, iS), fun q hq => by cases hq; exact hKn⟩
    | 10 =>
      obtain ⟨cC, iS, hKn⟩ := u_known (C := RX10) (T := TX10) (N := 6) (n := 6) hts zk_lays10 (ht _ (List.mem_of_getElem? (i := 245) (by decide +kernel)))
      exact ⟨(cC, iS), fun q hq => by cases hq; exact hKn⟩
    | 11 =>
      obtain ⟨cC, iS, hKn⟩ := u_known (C := RX11) (T := TX11) (N := 10) (n := 10) hts zk_lays11 (ht _ (List.mem_of_getElem? (i := 111) (by decide +kernel)))
      exact ⟨(cC, iS), fun q hq => by cases hq; exact hKn⟩
    | 12 =>
      obtain ⟨cC, iS, hKn⟩ := u_known (C := RX12) (T := TX12) (N := 56) (n := 56) hts zk_lays12 (ht _ (List.mem_of_getElem? (i := 1217) (by decide +kernel)))
      exact ⟨(cC, iS), fun q hq => by cases hq; exact hKn⟩
    | k + 13 => exact ⟨(0, fun _ => 0), fun q hq => by simp at hq⟩
  obtain ⟨cI, kI, pI, i1, i2, i3⟩ := Cond.arrayClass_spec (hts _ lw_aint)
  obtain ⟨cL, kL, pL, l1, l2, l3⟩ := Cond.arrayClass_spec (hts _ lw_along)
  obtain ⟨pS, cS, kS, s1, -, s3, s4, s5⟩ := Cond.arrayOver_spec (ht (.arrayOver (.object "CardUnsigned$Shelf")) (List.mem_of_getElem? (i := 401) (by decide +kernel)))
  obtain ⟨pA, cA, kA, a1, -, a3, a4, a5⟩ := arrayOver_specB (ht (.arrayOver (.array .int)) (List.mem_of_getElem? (i := 125) (by decide +kernel)))
  refine ⟨(fun k => (Classical.choose (h k)).1, fun k => (Classical.choose (h k)).2), fun k => if k = 0 then cI else if k = 1 then cL else if k = 2 then cS else cA, fun k q hq => Classical.choose_spec (h k) q hq, fun k q hq => ?_⟩
  match k, hq with
  | 0, hq => cases hq; exact ⟨fun n z => ⟨fun k h => (by cases h), kI, i2, pI, i3⟩, i1⟩
  | 1, hq => cases hq; exact ⟨fun n z => ⟨fun k h => (by cases h), kL, l2, pL, l3⟩, l1⟩
  | 2, hq => cases hq; exact ⟨fun n z => ⟨fun k h => (by cases h), kS, s3, pS, s4⟩, kS, pS, s3, s4, s1, s5⟩
  | 3, hq => cases hq; exact ⟨fun n z => ⟨fun k h => (by cases h), kA, a3, pA, a4⟩, a5⟩
  | k + 4, hq => simp at hq
