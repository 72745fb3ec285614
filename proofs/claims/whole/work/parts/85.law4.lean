/-! CALL: law -/
def zk_flatn : zk_lns → List Nat
  | [] => []
  | q :: r => (if q.1 = [] then [] else q.1.map zk_csn ++ [20063]) ++ (q.2.map zk_csn ++ [20059]) ++ zk_flatn r
theorem zk_csn_m (l : List Nat) : (l.map zk_csn).map nI = l.map zk_cs := by
  rw [List.map_map]
  rfl
theorem zk_flat_n : ∀ L : zk_lns, zk_flat L = (zk_flatn L).map nI
  | [] => rfl
  | q :: r => by
    show (if q.1 = [] then [] else q.1.map zk_cs ++ [20063]) ++ (q.2.map zk_cs ++ [20059]) ++ zk_flat r = ((if q.1 = [] then [] else q.1.map zk_csn ++ [20063]) ++ (q.2.map zk_csn ++ [20059]) ++ zk_flatn r).map nI
    rw [zk_flat_n r, List.map_append, List.map_append, List.map_append, zk_csn_m]
    by_cases e : q.1 = []
    · rw [if_pos e, if_pos e]; rfl
    · rw [if_neg e, if_neg e, List.map_append, zk_csn_m]; rfl
def zk_ln1 (q : List Nat × List Nat) : List Nat := (if q.1 = [] then [] else q.1.map zk_csn ++ [20063]) ++ q.2.map zk_csn
theorem zk_flatn_app : ∀ (L : zk_lns) (q : List Nat × List Nat), zk_flatn (L ++ [q]) = zk_flatn L ++ zk_ln1 q ++ [20059]
  | [], q => by
    show (if q.1 = [] then [] else q.1.map zk_csn ++ [20063]) ++ (q.2.map zk_csn ++ [20059]) ++ [] = [] ++ zk_ln1 q ++ [20059]
    unfold zk_ln1
    simp
  | r :: L, q => by
    show (if r.1 = [] then [] else r.1.map zk_csn ++ [20063]) ++ (r.2.map zk_csn ++ [20059]) ++ zk_flatn (L ++ [q]) = (if r.1 = [] then [] else r.1.map zk_csn ++ [20063]) ++ (r.2.map zk_csn ++ [20059]) ++ zk_flatn L ++ zk_ln1 q ++ [20059]
    rw [zk_flatn_app L q]
    simp only [List.append_assoc]
theorem zk_eq_E6 : zk_eqv 1 6 (zk_xE (zk_xO 6)) := zk_eq_E (zk_eq_O 6 (Nat.le_refl 6))
theorem zk_eq_L (E : List Nat) (ns : Nat) (t : List Nat) :
    ((zk_xL t).1 = true → ∃ (P E1 : List Nat) (gd : Bool) (dg ns' : Nat), zk_rnn (E, [], true, false, 0, ns) t = zk_rnn (E1, P, false, gd, dg, ns') (zk_xL t).2.1 ∧ E1 ++ zk_pl P = E ++ zk_ln1 (zk_xL t).2.2 ∧ (∀ s ∈ P, 1 ≤ zk_rk s) ∧ zk_stq 1 P dg (zk_xL t).2.1 ∧ (gd = false → ∀ r, (zk_xL t).2.1 ≠ 63 :: r)) ∧
    ((zk_xL t).1 = false → zk_out (zk_rnn (E, [], true, false, 0, ns) t) = (false, (zk_xL t).2.1.length, [])) := by
  have gE := zk_xE_g (zk_xO_g 6)
  obtain ⟨k1, k2⟩ := zk_eq_E6 E [] false ns t rfl trivial trivial
  cases hq : (zk_xE (zk_xO 6) t).1
  · have ex : zk_xL t = (false, (zk_xE (zk_xO 6) t).2.1, [], []) := by unfold zk_xL; exact if_neg (by rw [hq]; decide)
    rw [ex]
    exact ⟨fun z => (by cases z), fun _ => k2 hq⟩
  · obtain ⟨P, E1, dg, ns', e1, e2, e3, e4⟩ := k1 hq
    rw [List.append_nil] at e1
    have plain : ∀ rest, (zk_xE (zk_xO 6) t).2.1 = rest → (∀ r, rest ≠ 63 :: r) → zk_xL t = (true, rest, [], (zk_xE (zk_xO 6) t).2.2) → ((zk_xL t).1 = true → ∃ (P E1 : List Nat) (gd : Bool) (dg ns' : Nat), zk_rnn (E, [], true, false, 0, ns) t = zk_rnn (E1, P, false, gd, dg, ns') (zk_xL t).2.1 ∧ E1 ++ zk_pl P = E ++ zk_ln1 (zk_xL t).2.2 ∧ (∀ s ∈ P, 1 ≤ zk_rk s) ∧ zk_stq 1 P dg (zk_xL t).2.1 ∧ (gd = false → ∀ r, (zk_xL t).2.1 ≠ 63 :: r)) ∧ ((zk_xL t).1 = false → zk_out (zk_rnn (E, [], true, false, 0, ns) t) = (false, (zk_xL t).2.1.length, [])) := by
      intro rest hr hne ex
      rw [hr] at e1 e4
      rw [ex]
      exact ⟨fun _ => ⟨P, E1, false, dg, ns', e1, e2, e3, e4, fun _ => hne⟩, fun z => by cases z⟩
    cases hr : (zk_xE (zk_xO 6) t).2.1 with
    | nil =>
      refine plain [] hr (fun r z => by cases z) ?_
      unfold zk_xL
      rw [if_pos hq, hr]
    | cons c r =>
      by_cases hc : c = 63
      · subst hc
        rw [hr] at e1 e4
        have ex : zk_xL t = ((zk_xE (zk_xO 6) r).1, (zk_xE (zk_xO 6) r).2.1, (zk_xE (zk_xO 6) t).2.2, (zk_xE (zk_xO 6) r).2.2) := by
          unfold zk_xL
          rw [if_pos hq, hr]
          exact if_pos rfl
        have hb : zk_brw P = 0 := by
          have := (zk_ow_P P [] e3).2
          rw [List.append_nil] at this
          exact this
        have hew : zk_ew 1 E1 P = (E ++ (zk_xE (zk_xO 6) t).2.2.map zk_csn, []) := by
          have := zk_ew_P P E1 [] e3 trivial
          rw [List.append_nil, e2] at this
          exact this
        have et : zk_tk (E1, P, false, false, dg, ns') 63 = some (E ++ (zk_xE (zk_xO 6) t).2.2.map zk_csn ++ [20063], [], true, true, 0, ns') := by
          rw [zk_tk_b e4.1]
          unfold zk_tb
          rw [if_neg (by decide), if_neg (by decide), if_pos rfl, if_neg (by decide), hb, if_neg (by decide), hew]
        rw [e1, zk_rnn_s et]
        obtain ⟨j1, j2⟩ := zk_eq_E6 (E ++ (zk_xE (zk_xO 6) t).2.2.map zk_csn ++ [20063]) [] true ns' r rfl trivial trivial
        rw [ex]
        cases hq2 : (zk_xE (zk_xO 6) r).1
        · exact ⟨fun z => (by cases z), fun _ => j2 hq2⟩
        · refine ⟨fun _ => ?_, fun z => by cases z⟩
          obtain ⟨P2, E2, dg2, ns2, f1, f2, f3, f4⟩ := j1 hq2
          rw [List.append_nil] at f1
          refine ⟨P2, E2, true, dg2, ns2, f1, ?_, f3, f4, fun z => by cases z⟩
          rw [f2]
          have hne : (zk_xE (zk_xO 6) t).2.2 ≠ [] := fun z => by
            have := ((gE t).2 hq).2 0
            rw [z] at this
            have : (0 : Nat) = 1 := this
            omega
          unfold zk_ln1
          rw [if_neg hne]
          simp only [List.append_assoc]
      · refine plain (c :: r) hr (fun r' z => hc (by cases z; rfl)) ?_
        unfold zk_xL
        rw [if_pos hq, hr]
        exact if_neg hc
theorem zk_eq_T : ∀ (n : Nat) (t : List Nat) (L : zk_lns) (ns : Nat), t.length < n → ((zk_xT n t L).1 = true → zk_out (zk_rnn (zk_flatn L, [], true, false, 0, ns) t) = (true, 0, zk_flatn (zk_xT n t L).2.2)) ∧ ((zk_xT n t L).1 = false → zk_out (zk_rnn (zk_flatn L, [], true, false, 0, ns) t) = (false, (zk_xT n t L).2.1.length, []))
  | 0, _, _, _, h => absurd h (Nat.not_lt_zero _)
  | n + 1, t, L, ns, hn => by
    obtain ⟨k1, k2⟩ := zk_eq_L (zk_flatn L) ns t
    obtain ⟨g1, g2⟩ := zk_xL_g t
    cases hq : (zk_xL t).1
    · rw [zk_xT_f hq]
      exact ⟨fun z => (by cases z), fun _ => k2 hq⟩
    · obtain ⟨P, E1, gd, dg, ns', e1, e2, e3, e4, e5⟩ := k1 hq
      have g5 := (g2 hq).2.2.1
      rw [e1]
      have hb : zk_brw P = 0 := by
        have := (zk_ow_P P [] e3).2
        rw [List.append_nil] at this
        exact this
      have hew : zk_ew 1 E1 P = (zk_flatn L ++ zk_ln1 (zk_xL t).2.2, []) := by
        have := zk_ew_P P E1 [] e3 trivial
        rw [List.append_nil, e2] at this
        exact this
      cases hr : (zk_xL t).2.1 with
      | nil =>
        rw [zk_xT_e hq hr]
        refine ⟨fun _ => ?_, fun z => by cases z⟩
        show (if (false || decide (0 < zk_brw P)) then _ else (true, 0, (zk_ew 1 E1 P).1 ++ [20059])) = _
        rw [hb, hew, zk_flatn_app]
        rfl
      | cons c r =>
        rw [hr] at e4 e5
        rw [hr, List.length_cons] at g5
        by_cases hc : c = 59
        · subst hc
          rw [zk_xT_s hq hr]
          have et : zk_tk (E1, P, false, gd, dg, ns') 59 = some (zk_flatn (L ++ [(zk_xL t).2.2]), [], true, false, 0, ns') := by
            rw [zk_tk_b e4.1]
            unfold zk_tb
            rw [if_neg (by decide), if_pos rfl, hb, if_neg (by decide), hew, zk_flatn_app]
          rw [zk_rnn_s et]
          exact zk_eq_T n r (L ++ [(zk_xL t).2.2]) ns' (by omega)
        · rw [zk_xT_o hq hr hc]
          refine ⟨fun z => (by cases z), fun _ => zk_rnn_n ?_⟩
          rw [zk_tk_b e4.1]
          by_cases h41 : c = 41
          · subst h41
            unfold zk_tb
            rw [if_pos rfl, if_pos hb]
          · by_cases h63 : c = 63
            · subst h63
              cases gd with
              | false => exact absurd rfl (e5 rfl r)
              | true =>
                unfold zk_tb
                rw [if_neg (by decide), if_neg (by decide), if_pos rfl, if_pos rfl]
            · have := zk_tb_bad (E1 := E1) (P := P) (V := []) (gd := gd) (ns := ns') h41 hc h63 e4.2
              rw [List.append_nil] at this
              exact this
section ZKX
variable {P N D U T B : Nat} {c m c' m' : zk_H}
theorem zk_R_lw (R : zk_R8 zk_lpe P N D U T B c m) (C : ∀ k, k ≠ 24 → k ≠ 26 → k ≠ 27 → k ≠ 28 → k ≠ 29 → c'.1 k = c.1 k) (CL : c'.2 = c.2) (c1 : c'.1 24 1 = 0) (M : zk_frL m m') (m1 : m'.1 0 17 = 0) (l : zk_lpe (c'.1 28 1) (c'.1 29) (m'.1 0 19) (m'.1 0 20) (m'.1 16) (m'.1 17) (m'.1 18) (m'.1 19)) : zk_R8 zk_lpe P N D U 0 B c' m' := by
  obtain ⟨r1, r2, r3, r4, r5, r6, r7, r8⟩ := R
  obtain ⟨M1, M2, M3⟩ := M
  have M0 : ∀ j, j ≠ 17 → j ≠ 19 → j ≠ 20 → j ≠ 25 → j ≠ 26 → j ≠ 27 → j ≠ 28 → m'.1 0 j = m.1 0 j := M3
  have C' : ∀ k, k ≤ 23 ∨ k = 25 ∨ 30 ≤ k → c'.1 k = c.1 k := fun k hk => C k (by omega) (by omega) (by omega) (by omega) (by omega)
  have M' : ∀ k, (1 ≤ k ∧ k ≤ 15) ∨ 24 ≤ k → m'.1 k = m.1 k := fun k hk => M1 k (by omega) (by omega)
  refine ⟨r1.cg (fun k hk => ?_) ⟨M0 _ (by decide) (by decide) (by decide) (by decide) (by decide) (by decide) (by decide), M0 _ (by decide) (by decide) (by decide) (by decide) (by decide) (by decide) (by decide)⟩ (fun k hk => ?_), r2.cg (fun k hk => ?_) ?_ ⟨M0 _ (by decide) (by decide) (by decide) (by decide) (by decide) (by decide) (by decide), M0 _ (by decide) (by decide) (by decide) (by decide) (by decide) (by decide) (by decide)⟩ (M' 29 (by omega)), ⟨Nat.zero_le _, c1, m1, fun i hi => absurd hi (Nat.not_lt_zero _)⟩, r4.cg (C' 40 (by omega)) (C' 41 (by omega)) ⟨M0 _ (by decide) (by decide) (by decide) (by decide) (by decide) (by decide) (by decide), M0 _ (by decide) (by decide) (by decide) (by decide) (by decide) (by decide) (by decide), M0 _ (by decide) (by decide) (by decide) (by decide) (by decide) (by decide) (by decide), M0 _ (by decide) (by decide) (by decide) (by decide) (by decide) (by decide) (by decide)⟩ ⟨M' 26 (by omega), M' 27 (by omega), M' 28 (by omega)⟩, r5.cg (by rw [C' 42 (by omega)]) (C' 43 (by omega)) (M0 _ (by decide) (by decide) (by decide) (by decide) (by decide) (by decide) (by decide)) (M' 30 (by omega)), r6.cg (by rw [C' 42 (by omega)]) (C' 44 (by omega)) (M0 _ (by decide) (by decide) (by decide) (by decide) (by decide) (by decide) (by decide)) (M' 31 (by omega)), fun s hs => (r7 s hs).cg (C' _ (by omega)) (by rw [CL]) (by rw [M' 32 (by omega), M' 33 (by omega)]; exact ⟨rfl, rfl⟩) (by rw [M2]), l⟩
  · simp only [List.mem_cons, List.not_mem_nil, or_false] at hk
    exact C' k (by omega)
  · simp only [List.mem_cons, List.not_mem_nil, or_false] at hk
    exact M' k (by omega)
  · simp only [List.mem_cons, List.not_mem_nil, or_false] at hk
    exact C' k (by omega)
  · rw [C' 19 (by omega)]; exact ⟨rfl, rfl⟩
end ZKX
theorem zk_sg_of {f : Nat → Int32} : ∀ {l : List Int32} {p : Nat}, (∀ k, k < l.length → f (p + k) = l.getD k 0) → zk_sg f p l
  | [], _, _ => trivial
  | v :: r, p, h => by
    refine ⟨h 0 (by rw [List.length_cons]; omega), zk_sg_of fun k hk => ?_⟩
    have := h (k + 1) (by rw [List.length_cons]; omega)
    rw [show p + 1 + k = p + (k + 1) by omega, this]
    rfl
theorem zk_letters {f : Nat → Int32} : ∀ T, (∀ i, i < T → ∃ j, j < 256 ∧ f i = nI j) → ∃ t : List Nat, t.length = T ∧ (∀ x ∈ t, x < 256) ∧ ∀ k, k < T → f k = nI (t.getD k 0)
  | 0, _ => ⟨[], rfl, fun x hx => (by cases hx), fun k hk => absurd hk (Nat.not_lt_zero _)⟩
  | T + 1, h => by
    obtain ⟨t, h1, h2, h3⟩ := zk_letters T fun i hi => h i (by omega)
    obtain ⟨j, hj, ej⟩ := h T (by omega)
    refine ⟨t ++ [j], by rw [List.length_append, h1]; rfl, fun x hx => ?_, fun k hk => ?_⟩
    · rcases List.mem_append.mp hx with z | z
      · exact h2 x z
      · rw [List.mem_singleton.mp z]; exact hj
    · rcases Nat.lt_or_ge k T with u | u
      · rw [h3 k u]
        simp [List.getD, List.getElem?_append, h1, u]
      · rw [show k = T by omega, ej]
        simp [List.getD, List.getElem?_append, h1]
section ZK3
variable {c m : zk_H} {x y z : Int32}
theorem e_law (R : zk_RR zk_lpe c m) : pX11_law [.ref 0] c (fun v c' => pX12_law [.ref 0] m (fun v' m' => v = v' ∧ zk_RR zk_lpe c' m')) := by
  obtain ⟨P, N, D, U, T, B, R8⟩ := id R
  obtain ⟨r1, -, ⟨t1, t2, t3, t4⟩, -, -, -, -, r8⟩ := id R8
  obtain ⟨t, ht, hc, hk⟩ := zk_letters (f := m.1 15) T fun i hi => (t4 i hi).2
  have sgm : zk_sg (m.1 15) 0 (t.map nI) := zk_sg_of fun k hk2 => by
    rw [List.length_map] at hk2
    rw [Nat.zero_add, hk k (by omega)]
    simp [List.getD, hk2]
  have sgc : zk_sg (c.1 25) 0 (t.map nI) := zk_sg_keep sgm fun j _ hj => by
    rw [List.length_map] at hj
    exact (t4 j (by omega)).1
  obtain ⟨q1, q2⟩ := zk_eq_T (T + 1) t [] 0 (by omega)
  have eS : zk_out (zk_rnn (zk_flatn [], [], true, false, 0, 0) t) = zk_cpr t := rfl
  rw [eS] at q1 q2
  refine jX11_law t2 t1 ht sgc hc (fun E eE lE c' C CL c1 c2 c3 => ?_) (fun n en a c' ha C CL c1 => ?_)
  · show pX12_law _ _ _
    refine jX12_law t3 t1 ht sgm hc (fun L nL okL eL m' M m1 m2 m3 lay => ⟨rfl, P, N, D, U, 0, B, zk_R_lw R8 C CL c1 M m1 ⟨some L, ?_⟩⟩) (fun rest L eL a m' ha M m1 mm => ?_)
    · have e1 := q1 (by rw [eL])
      rw [eE, eL] at e1
      have eEL : E = zk_flatn L := congrArg (fun q : Bool × Nat × List Nat => q.2.2) e1
      obtain ⟨-, g⟩ := zk_xT_g (T + 1) t [] (by omega)
      rw [eL] at g
      obtain ⟨-, -, g3, g4, g5⟩ := g rfl (fun q hq => by cases hq)
      have g3' : 2 * L.length ≤ 0 + t.length + 1 := g3
      have g5' : (zk_flat L).length ≤ 0 + t.length + 1 := g5
      have hlen : (zk_flat L).length = E.length := by rw [zk_flat_n, List.length_map, eEL]
      refine ⟨nL, okL, m2, by omega, by rw [hlen]; exact c2, ?_, m3, by omega, lay⟩
      rw [zk_flat_n, ← eEL]
      exact c3
    · have e1 := q2 (by rw [eL])
      rw [eE] at e1
      exact Bool.noConfusion (congrArg (fun q : Bool × Nat × List Nat => q.1) e1)
  · show pX12_law _ _ _
    refine jX12_law t3 t1 ht sgm hc (fun L nL okL eL m' M m1 m2 m3 lay => ?_) (fun rest L eL b m' hb M m1 mm => ⟨?_, P, N, D, U, 0, B, zk_R_lw R8 (fun k k1 k2 k3 _ _ => C k k1 k2 k3) CL c1 M m1 ?_⟩)
    · have e1 := q1 (by rw [eL])
      rw [en] at e1
      exact Bool.noConfusion (congrArg (fun q : Bool × Nat × List Nat => q.1) e1)
    · have e1 := q2 (by rw [eL])
      rw [en, eL] at e1
      have : n = rest.length := congrArg (fun q : Bool × Nat × List Nat => q.2.1) e1
      rw [show a = b by omega]
    · obtain ⟨n1, n2, n3, n4, n5, n6⟩ := mm
      rw [n1, n2, n3, n4, n5, n6, C 28 (by decide) (by decide) (by decide), C 29 (by decide) (by decide) (by decide)]
      exact r8
end ZK3
