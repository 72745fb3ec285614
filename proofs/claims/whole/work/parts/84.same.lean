/-! THE LAW read: both alike (letter by letter, by descent) -/
def zk_csn (c : Nat) : Nat := if c ≤ 5 then 10000 + c else if c ≤ 17 then 20000 + zk_sgn c else c - 18
theorem zk_csn_e (c : Nat) : zk_cs c = nI (zk_csn c) := rfl
def zk_out (q : Bool × List Nat × zk_Pt) : Bool × Nat × List Nat := if q.1 then (if q.2.2.2.2.1 || decide (0 < zk_brw q.2.2.2.1) then (false, 0, []) else (true, 0, (zk_ew 1 q.2.2.1 q.2.2.2.1).1 ++ [20059])) else (false, q.2.1.length, [])
theorem zk_cpr_e (t : List Nat) : zk_cpr t = zk_out (zk_rnn zk_S0 t) := rfl
def zk_pl (P : List Nat) : List Nat := P.map fun s => 20000 + s
/-- the top's rank is below r -/
def zk_tr (r : Nat) : List Nat → Prop
  | [] => True
  | s :: _ => zk_rk s < r
def zk_cmpP (P : List Nat) : Prop := ∃ P1 s P2, P = P1 ++ s :: P2 ∧ (∀ x ∈ P1, 4 ≤ zk_rk x) ∧ zk_rk s = 3
/-- where a reading of rank r stops -/
def zk_stq (r : Nat) (P : List Nat) (dg : Nat) : List Nat → Prop
  | [] => True
  | c :: _ => (zk_dgt c = true → dg = 0 ∨ 4 ≤ dg) ∧ (zk_rk c < r ∨ (zk_rk c = 3 ∧ zk_cmpP P))
theorem zk_pl_app (P Q : List Nat) : zk_pl (P ++ Q) = zk_pl P ++ zk_pl Q := List.map_append
theorem zk_ew_P {r : Nat} : ∀ (P E W : List Nat), (∀ s ∈ P, r ≤ zk_rk s) → zk_tr r W → zk_ew r E (P ++ W) = (E ++ zk_pl P, W)
  | [], E, W, _, hW => by
    show zk_ew r E W = (E ++ [], W)
    rw [List.append_nil]
    cases W with
    | nil => rfl
    | cons s W => exact if_neg (by have : zk_rk s < r := hW; omega)
  | s :: P, E, W, hP, hW => by
    show (if r ≤ zk_rk s then zk_ew r (E ++ [20000 + s]) (P ++ W) else _) = _
    rw [if_pos (hP s List.mem_cons_self), zk_ew_P P _ W (fun x hx => hP x (List.mem_cons_of_mem _ hx)) hW, List.append_assoc]
    rfl
theorem zk_ow_P : ∀ (P W : List Nat), (∀ s ∈ P, 1 ≤ zk_rk s) → zk_ow (P ++ W) = zk_ow W ∧ zk_brw (P ++ W) = zk_brw W
  | [], W, _ => ⟨rfl, rfl⟩
  | s :: P, W, hP => by
    obtain ⟨i1, i2⟩ := zk_ow_P P W fun x hx => hP x (List.mem_cons_of_mem _ hx)
    obtain ⟨n1, n2, n3⟩ := zk_rk_op (hP s List.mem_cons_self)
    refine ⟨?_, ?_⟩
    · show (if s = 33 ∨ s = 126 ∨ s = 40 then 1 else 0) + zk_ow (P ++ W) = _
      rw [if_neg (by omega), i1]; omega
    · show (if s = 40 then 1 else 0) + zk_brw (P ++ W) = _
      rw [if_neg n3, i2]; omega
theorem zk_eo_app : ∀ (W E : List Nat) , ∃ us, ∀ F, zk_eo (F ++ E) W = (F ++ E ++ us, (zk_eo [] W).2) 
  | [], E => ⟨[], fun F => by show (F ++ E, []) = _; rw [List.append_nil]; rfl⟩
  | s :: W, E => by
    by_cases q : s = 33 ∨ s = 126
    · obtain ⟨us, h⟩ := zk_eo_app W (E ++ [20000 + s])
      obtain ⟨us2, h2⟩ := zk_eo_app W [20000 + s]
      refine ⟨[20000 + s] ++ us, fun F => ?_⟩
      have e : zk_eo (F ++ E) (s :: W) = zk_eo (F ++ E ++ [20000 + s]) W := if_pos q
      have e2 : zk_eo [] (s :: W) = zk_eo ([] ++ [20000 + s]) W := if_pos q
      rw [e, List.append_assoc, h F, e2, h2 []]
      simp
    · refine ⟨[], fun F => ?_⟩
      have e : zk_eo (F ++ E) (s :: W) = (F ++ E, s :: W) := if_neg q
      have e2 : zk_eo [] (s :: W) = ([], s :: W) := if_neg q
      rw [e, e2, List.append_nil]
theorem zk_eo_hn {W E : List Nat} (h : zk_hn W) : zk_eo E W = (E, W) := by
  cases W with
  | nil => rfl
  | cons s W => exact if_neg fun z => z.elim h.1 h.2
theorem zk_dgt_rk {c : Nat} (h : zk_dgt c = true) : zk_rk c = 0 ∧ c ≠ 41 ∧ c ≠ 59 ∧ c ≠ 63 := by
  have hb := zk_dgt_b.mp h
  refine ⟨?_, by omega, by omega, by omega⟩
  unfold zk_rk
  rw [if_neg (by omega), if_neg (by omega), if_neg (by omega), if_neg (by omega), if_neg (by omega)]
theorem zk_rk_ne {c : Nat} (h : 1 ≤ zk_rk c) : c ≠ 41 ∧ c ≠ 59 ∧ c ≠ 63 ∧ zk_dgt c = false := by
  refine ⟨fun z => by subst z; exact absurd h (by decide), fun z => by subst z; exact absurd h (by decide), fun z => by subst z; exact absurd h (by decide), ?_⟩
  cases hd : zk_dgt c
  · rfl
  · have := (zk_dgt_rk hd).1
    omega
theorem zk_rnn_s {S S' : zk_Pt} {c : Nat} {r : List Nat} (h : zk_tk S c = some S') : zk_rnn S (c :: r) = zk_rnn S' r := by
  show (match zk_tk S c with
    | none => (false, c :: r, S)
    | some S' => zk_rnn S' r) = _
  rw [h]
theorem zk_rnn_n {S : zk_Pt} {c : Nat} {r : List Nat} (h : zk_tk S c = none) : zk_out (zk_rnn S (c :: r)) = (false, (c :: r).length, []) := by
  have : zk_rnn S (c :: r) = (false, c :: r, S) := by
    show (match zk_tk S c with
      | none => (false, c :: r, S)
      | some S' => zk_rnn S' r) = _
    rw [h]
  rw [this]
  rfl
/-- behind an operand: no further digit of it -/
theorem zk_tk_b {E W : List Nat} {gd : Bool} {dg ns c : Nat} (h : zk_dgt c = true → dg = 0 ∨ 4 ≤ dg) : zk_tk (E, W, false, gd, dg, ns) c = zk_tb E W gd ns c := by
  have etk : zk_tk (E, W, false, gd, dg, ns) c = (if zk_dgt c && decide (0 < dg) && decide (dg < 4) then some (E.set ns (E.getD ns 0 * 10 + (c - 48)), W, false, gd, dg + 1, ns) else zk_tb E W gd ns c) := rfl
  rw [etk]
  cases hd : zk_dgt c
  · rfl
  · rcases h hd with z | z
    · rw [z]; rfl
    · rw [decide_eq_false (show ¬ dg < 4 by omega), Bool.and_false]; rfl
theorem zk_tk_o {E W : List Nat} {gd : Bool} {ns c : Nat} (h : zk_dgt c = false) : zk_tk (E, W, true, gd, 0, ns) c = zk_to E W gd ns c := by
  have etk : zk_tk (E, W, true, gd, 0, ns) c = (if zk_dgt c && decide (0 < 0) && decide (0 < 4) then some (E.set ns (E.getD ns 0 * 10 + (c - 48)), W, true, gd, 0 + 1, ns)
    else (if zk_dgt c then some ((zk_eo (E ++ [c - 48]) W).1, (zk_eo (E ++ [c - 48]) W).2, false, gd, 1, E.length) else zk_to E W gd ns c)) := rfl
  rw [etk, h]
  rfl
theorem zk_tk_d {E W : List Nat} {gd : Bool} {ns c : Nat} (h : zk_dgt c = true) : zk_tk (E, W, true, gd, 0, ns) c = some ((zk_eo (E ++ [c - 48]) W).1, (zk_eo (E ++ [c - 48]) W).2, false, gd, 1, E.length) := by
  have etk : zk_tk (E, W, true, gd, 0, ns) c = (if zk_dgt c && decide (0 < 0) && decide (0 < 4) then some (E.set ns (E.getD ns 0 * 10 + (c - 48)), W, true, gd, 0 + 1, ns)
    else (if zk_dgt c then some ((zk_eo (E ++ [c - 48]) W).1, (zk_eo (E ++ [c - 48]) W).2, false, gd, 1, E.length) else zk_to E W gd ns c)) := rfl
  rw [etk, h]
  rfl
/-- an operator comes behind an operand -/
theorem zk_tb_op {E1 P W : List Nat} {gd : Bool} {ns c r : Nat} (hc : zk_rk c = r) (h1 : 1 ≤ r) (hP : ∀ s ∈ P, (if r = 3 then 4 else r) ≤ zk_rk s) (hW : zk_tr r W) : zk_tb E1 (P ++ W) gd ns c = some (E1 ++ zk_pl P, c :: W, true, gd, 0, ns) := by
  obtain ⟨n1, n2, n3, n4⟩ := zk_rk_ne (c := c) (by omega)
  unfold zk_tb
  rw [if_neg n1, if_neg n2, if_neg n3, if_neg (by omega)]
  by_cases h3 : r = 3
  · rw [if_pos (by omega)]
    rw [if_pos h3] at hP
    have hW4 : zk_tr 4 W := by
      cases W with
      | nil => trivial
      | cons s W => have : zk_rk s < r := hW; show zk_rk s < 4; omega
    rw [zk_ew_P P E1 W hP hW4]
    dsimp only
    cases W with
    | nil => rfl
    | cons s W => exact if_neg (by have : zk_rk s < r := hW; omega)
  · rw [if_neg (by omega)]
    rw [if_neg h3] at hP
    rw [hc, zk_ew_P P E1 W hP hW]
/-- what does not go on -/
theorem zk_tb_bad {E1 P V : List Nat} {gd : Bool} {ns c : Nat} (h41 : c ≠ 41) (h59 : c ≠ 59) (h63 : c ≠ 63) (h : zk_rk c < 1 ∨ (zk_rk c = 3 ∧ zk_cmpP P)) : zk_tb E1 (P ++ V) gd ns c = none := by
  unfold zk_tb
  rw [if_neg h41, if_neg h59, if_neg h63]
  rcases h with z | ⟨z, P1, s, P2, hP, h4, h3⟩
  · rw [if_pos (by omega)]
  · rw [if_neg (by omega), if_pos z, hP, List.append_assoc]
    rw [zk_ew_P P1 E1 (s :: P2 ++ V) h4 (show zk_rk s < 4 by omega)]
    exact if_pos h3
def zk_eqv (r d : Nat) (X : List Nat → zk_Rs) : Prop := ∀ (E W : List Nat) (gd : Bool) (ns : Nat) (t : List Nat), zk_ow W + d = 6 → zk_hn W → zk_tr r W →
  ((X t).1 = true → ∃ (P E1 : List Nat) (dg ns' : Nat), zk_rnn (E, W, true, gd, 0, ns) t = zk_rnn (E1, P ++ W, false, gd, dg, ns') (X t).2.1 ∧ E1 ++ zk_pl P = E ++ (X t).2.2.map zk_csn ∧ (∀ s ∈ P, r ≤ zk_rk s) ∧ zk_stq r P dg (X t).2.1) ∧
  ((X t).1 = false → zk_out (zk_rnn (E, W, true, gd, 0, ns) t) = (false, (X t).2.1.length, []))
def zk_opr (op : Nat → Option Nat) (r : Nat) : Prop := (∀ c k, op c = some k → zk_rk c = r ∧ zk_csn k = 20000 + c) ∧ ∀ c, op c = none → zk_rk c ≠ r
theorem zk_cmpP_app {P Q : List Nat} (h : zk_cmpP P) : zk_cmpP (P ++ Q) := by
  obtain ⟨P1, s, P2, e, h1, h2⟩ := h
  exact ⟨P1, s, P2 ++ Q, by rw [e]; simp, h1, h2⟩
theorem zk_eq_chn {op : Nat → Option Nat} {X : List Nat → zk_Rs} {r d : Nat} (h1 : 1 ≤ r) (h3 : r ≠ 3) (ho : zk_opr op r) (gX : zk_gX X) (hX : zk_eqv (r + 1) d X) : zk_eqv r d (zk_chn op X) := by
  intro E W gd ns t hd hn hW
  have hW1 : zk_tr (r + 1) W := by
    cases W with
    | nil => trivial
    | cons s W => have : zk_rk s < r := hW; show zk_rk s < r + 1; omega
  have loop : ∀ (n : Nat) (t1 cs P E1 : List Nat) (dg ns1 : Nat), t1.length < n → E1 ++ zk_pl P = E ++ cs.map zk_csn → (∀ s ∈ P, r ≤ zk_rk s) → zk_stq (r + 1) P dg t1 →
      ((zk_lo op X n t1 cs).1 = true → ∃ (P' E1' : List Nat) (dg' ns' : Nat), zk_rnn (E1, P ++ W, false, gd, dg, ns1) t1 = zk_rnn (E1', P' ++ W, false, gd, dg', ns') (zk_lo op X n t1 cs).2.1 ∧ E1' ++ zk_pl P' = E ++ (zk_lo op X n t1 cs).2.2.map zk_csn ∧ (∀ s ∈ P', r ≤ zk_rk s) ∧ zk_stq r P' dg' (zk_lo op X n t1 cs).2.1) ∧
      ((zk_lo op X n t1 cs).1 = false → zk_out (zk_rnn (E1, P ++ W, false, gd, dg, ns1) t1) = (false, (zk_lo op X n t1 cs).2.1.length, [])) := by
    intro n
    induction n with
    | zero => exact fun t1 cs P E1 dg ns1 hn => absurd hn (Nat.not_lt_zero _)
    | succ n ih =>
      intro t1 cs P E1 dg ns1 hl eE hP st
      cases t1 with
      | nil =>
        rw [zk_lo_0]
        exact ⟨fun _ => ⟨P, E1, dg, ns1, rfl, eE, hP, trivial⟩, fun z => by cases z⟩
      | cons c r1 =>
        cases hc : op c with
        | none =>
          rw [zk_lo_n hc]
          refine ⟨fun _ => ⟨P, E1, dg, ns1, rfl, eE, hP, st.1, ?_⟩, fun z => by cases z⟩
          have := ho.2 c hc
          rcases st.2 with z | z
          · exact Or.inl (by omega)
          · exact Or.inr z
        | some k =>
          obtain ⟨hr, hk⟩ := ho.1 c k hc
          rw [List.length_cons] at hl
          obtain ⟨g1, g2⟩ := gX r1
          obtain ⟨n1, n2, n3⟩ := zk_rk_op (s := c) (by omega)
          have et : zk_tk (E1, P ++ W, false, gd, dg, ns1) c = some (E ++ cs.map zk_csn, c :: W, true, gd, 0, ns1) := by
            rw [zk_tk_b st.1, zk_tb_op hr h1 (by rw [if_neg h3]; exact hP) hW, eE]
          rw [zk_rnn_s et]
          have hoc : zk_ow (c :: W) + d = 6 := by
            show (if c = 33 ∨ c = 126 ∨ c = 40 then 1 else 0) + zk_ow W + d = 6
            rw [if_neg (by omega)]; omega
          obtain ⟨k1, k2⟩ := hX (E ++ cs.map zk_csn) (c :: W) gd ns1 r1 hoc ⟨n1, n2⟩ (show zk_rk c < r + 1 by omega)
          cases hq : (X r1).1
          · rw [zk_lo_f hc hq]
            exact ⟨fun z => (by cases z), fun _ => k2 hq⟩
          · rw [zk_lo_t hc hq]
            obtain ⟨P2, E2, dg2, ns2, e1, e2, e3, e4⟩ := k1 hq
            have g3 := (g2 hq).1
            rw [e1, show P2 ++ c :: W = P2 ++ [c] ++ W by simp]
            refine ih (X r1).2.1 (cs ++ (X r1).2.2 ++ [k]) (P2 ++ [c]) E2 dg2 ns2 (by omega) ?_ (fun s hs => ?_) ?_
            · rw [zk_pl_app, ← List.append_assoc, e2, List.map_append, List.map_append, ← List.append_assoc, ← List.append_assoc]
              show _ ++ [20000 + c] = _ ++ [zk_csn k]
              rw [hk]
            · rcases List.mem_append.mp hs with z | z
              · have := e3 s z; omega
              · rw [List.mem_singleton.mp z]; omega
            · cases hx : (X r1).2.1 with
              | nil => trivial
              | cons b r2 =>
                rw [hx] at e4
                exact ⟨e4.1, e4.2.elim Or.inl fun z => Or.inr ⟨z.1, zk_cmpP_app z.2⟩⟩
  obtain ⟨g1, g2⟩ := gX t
  obtain ⟨k1, k2⟩ := hX E W gd ns t hd hn hW1
  cases hq : (X t).1
  · have e : zk_chn op X t = X t := if_neg (by rw [hq]; decide)
    rw [e]
    exact ⟨fun z => (by rw [hq] at z; cases z), fun _ => k2 hq⟩
  · have e : zk_chn op X t = zk_lo op X t.length (X t).2.1 (X t).2.2 := if_pos hq
    rw [e]
    obtain ⟨P, E1, dg, ns', e1, e2, e3, e4⟩ := k1 hq
    rw [e1]
    exact loop t.length (X t).2.1 (X t).2.2 P E1 dg ns' (g2 hq).1 e2 (fun s hs => by have := e3 s hs; omega) e4
theorem zk_eq_two {op : Nat → Option Nat} {X : List Nat → zk_Rs} {d : Nat} (ho : zk_opr op 3) (hX : zk_eqv 4 d X) : zk_eqv 3 d (zk_two op X) := by
  intro E W gd ns t hd hn hW
  have hW1 : zk_tr 4 W := by
    cases W with
    | nil => trivial
    | cons s W => have : zk_rk s < 3 := hW; show zk_rk s < 4; omega
  obtain ⟨k1, k2⟩ := hX E W gd ns t hd hn hW1
  cases hq : (X t).1
  · have e : zk_two op X t = X t := if_neg (by rw [hq]; decide)
    rw [e]
    exact ⟨fun z => (by rw [hq] at z; cases z), fun _ => k2 hq⟩
  · obtain ⟨P, E1, dg, ns', e1, e2, e3, e4⟩ := k1 hq
    cases hr : (X t).2.1 with
    | nil =>
      have e : zk_two op X t = X t := by unfold zk_two; rw [if_pos hq, hr]
      rw [e]
      exact ⟨fun _ => ⟨P, E1, dg, ns', e1, e2, fun s hs => by have := e3 s hs; omega, by rw [hr]; trivial⟩, fun z => by rw [hq] at z; cases z⟩
    | cons c r1 =>
      rw [hr] at e1 e4
      cases hc : op c with
      | none =>
        have e : zk_two op X t = X t := by unfold zk_two; rw [if_pos hq, hr]; dsimp only; rw [hc]
        rw [e, hr]
        have := ho.2 c hc
        refine ⟨fun _ => ⟨P, E1, dg, ns', e1, e2, fun s hs => by have := e3 s hs; omega, e4.1, ?_⟩, fun z => by rw [hq] at z; cases z⟩
        rcases e4.2 with z | z
        · exact Or.inl (by omega)
        · exact Or.inr z
      | some k =>
        obtain ⟨hrk, hk⟩ := ho.1 c k hc
        obtain ⟨n1, n2, n3⟩ := zk_rk_op (s := c) (by omega)
        have et : zk_tk (E1, P ++ W, false, gd, dg, ns') c = some (E ++ (X t).2.2.map zk_csn, c :: W, true, gd, 0, ns') := by
          rw [zk_tk_b e4.1, zk_tb_op hrk (by decide) e3 hW, e2]
        have hoc : zk_ow (c :: W) + d = 6 := by
          show (if c = 33 ∨ c = 126 ∨ c = 40 then 1 else 0) + zk_ow W + d = 6
          rw [if_neg (by omega)]; omega
        obtain ⟨j1, j2⟩ := hX (E ++ (X t).2.2.map zk_csn) (c :: W) gd ns' r1 hoc ⟨n1, n2⟩ (show zk_rk c < 4 by omega)
        rw [e1, zk_rnn_s et]
        cases hq2 : (X r1).1
        · have e : zk_two op X t = (false, (X r1).2.1, (X t).2.2 ++ (X r1).2.2) := by
            unfold zk_two
            rw [if_pos hq, hr]
            dsimp only
            rw [hc]
            exact if_neg (by rw [hq2]; decide)
          rw [e]
          exact ⟨fun z => (by cases z), fun _ => j2 hq2⟩
        · have e : zk_two op X t = (true, (X r1).2.1, (X t).2.2 ++ (X r1).2.2 ++ [k]) := by
            unfold zk_two
            rw [if_pos hq, hr]
            dsimp only
            rw [hc]
            exact if_pos hq2
          rw [e]
          obtain ⟨P2, E2, dg2, ns2, f1, f2, f3, f4⟩ := j1 hq2
          refine ⟨fun _ => ⟨P2 ++ [c], E2, dg2, ns2, ?_, ?_, fun s hs => ?_, ?_⟩, fun z => by cases z⟩
          · rw [f1, show P2 ++ c :: W = P2 ++ [c] ++ W by simp]
          · rw [zk_pl_app, ← List.append_assoc, f2, List.map_append, List.map_append, ← List.append_assoc, ← List.append_assoc]
            show _ ++ [20000 + c] = _ ++ [zk_csn k]
            rw [hk]
          · rcases List.mem_append.mp hs with z | z
            · have := f3 s z; omega
            · rw [List.mem_singleton.mp z]; omega
          · dsimp only
            cases hx : (X r1).2.1 with
            | nil => trivial
            | cons b r2 =>
              rw [hx] at f4
              refine ⟨f4.1, ?_⟩
              rcases f4.2 with z | z
              · rcases Nat.lt_or_ge (zk_rk b) 3 with u | u
                · exact Or.inl u
                · exact Or.inr ⟨by omega, P2, c, [], rfl, f3, hrk⟩
              · exact Or.inr ⟨z.1, zk_cmpP_app z.2⟩
theorem zk_o5r : zk_opr zk_o5 5 := by
  refine ⟨fun c k h => ?_, fun c h z => ?_⟩
  · unfold zk_o5 at h
    repeat' split at h
    all_goals (first | (cases h; next e => subst e; exact ⟨rfl, rfl⟩) | cases h)
  · unfold zk_o5 at h
    unfold zk_rk at z
    repeat' split at h
    all_goals (first | cases h | skip)
    repeat' split at z
    all_goals omega
theorem zk_o4r : zk_opr zk_o4 4 := by
  refine ⟨fun c k h => ?_, fun c h z => ?_⟩
  · unfold zk_o4 at h
    repeat' split at h
    all_goals (first | (cases h; next e => subst e; exact ⟨rfl, rfl⟩) | cases h)
  · unfold zk_o4 at h
    unfold zk_rk at z
    repeat' split at h
    all_goals (first | cases h | skip)
    repeat' split at z
    all_goals omega
theorem zk_o3r : zk_opr zk_o3 3 := by
  refine ⟨fun c k h => ?_, fun c h z => ?_⟩
  · unfold zk_o3 at h
    repeat' split at h
    all_goals (first | (cases h; next e => subst e; exact ⟨rfl, rfl⟩) | cases h)
  · unfold zk_o3 at h
    unfold zk_rk at z
    repeat' split at h
    all_goals (first | cases h | skip)
    repeat' split at z
    all_goals omega
theorem zk_o2r : zk_opr zk_o2 2 := by
  refine ⟨fun c k h => ?_, fun c h z => ?_⟩
  · unfold zk_o2 at h
    split at h
    next e => cases h; subst e; exact ⟨rfl, rfl⟩
    next => cases h
  · unfold zk_o2 at h
    unfold zk_rk at z
    split at h
    · cases h
    · repeat' split at z
      all_goals omega
theorem zk_o1r : zk_opr zk_o1 1 := by
  refine ⟨fun c k h => ?_, fun c h z => ?_⟩
  · unfold zk_o1 at h
    split at h
    next e => cases h; subst e; exact ⟨rfl, rfl⟩
    next => cases h
  · unfold zk_o1 at h
    unfold zk_rk at z
    split at h
    · cases h
    · repeat' split at z
      all_goals omega
/-- an operand, whatever waits -/
def zk_eqO (d : Nat) (X : List Nat → zk_Rs) : Prop := ∀ (E W : List Nat) (gd : Bool) (ns : Nat) (t : List Nat), zk_ow W + d = 6 →
  ((X t).1 = true → ∃ (dg ns' : Nat), zk_rnn (E, W, true, gd, 0, ns) t = zk_rnn ((zk_eo (E ++ (X t).2.2.map zk_csn) W).1, (zk_eo (E ++ (X t).2.2.map zk_csn) W).2, false, gd, dg, ns') (X t).2.1 ∧ (∀ c r, (X t).2.1 = c :: r → zk_dgt c = true → dg = 0 ∨ 4 ≤ dg)) ∧
  ((X t).1 = false → zk_out (zk_rnn (E, W, true, gd, 0, ns) t) = (false, (X t).2.1.length, []))
theorem zk_eq_6 {d : Nat} {X : List Nat → zk_Rs} (h : zk_eqO d X) : zk_eqv 6 d X := by
  intro E W gd ns t hd hn _
  obtain ⟨k1, k2⟩ := h E W gd ns t hd
  refine ⟨fun q => ?_, k2⟩
  obtain ⟨dg, ns', e1, e2⟩ := k1 q
  rw [zk_eo_hn hn] at e1
  refine ⟨[], _, dg, ns', e1, List.append_nil _, fun s hs => (by cases hs), ?_⟩
  cases hx : (X t).2.1 with
  | nil => trivial
  | cons c r =>
    refine ⟨e2 c r hx, Or.inl ?_⟩
    unfold zk_rk
    repeat' split
    all_goals omega
theorem zk_eq_E {d : Nat} (h : zk_eqO d (zk_xO d)) : zk_eqv 1 d (zk_xE (zk_xO d)) := by
  have g0 := zk_xO_g d
  have g1 := zk_chn_g zk_o5k g0
  have g2 := zk_chn_g zk_o4k g1
  have g3 := zk_two_g zk_o3k g2
  have g4 := zk_chn_g zk_o2k g3
  exact zk_eq_chn (by decide) (by decide) zk_o1r g4 (zk_eq_chn (by decide) (by decide) zk_o2r g3 (zk_eq_two zk_o3r (zk_eq_chn (by decide) (by decide) zk_o4r g1 (zk_eq_chn (by decide) (by decide) zk_o5r g0 (zk_eq_6 h)))))
/-- the digits of a number -/
theorem zk_eq_num {E W : List Nat} {gd : Bool} : ∀ (k dg v : Nat) (t : List Nat), dg + k = 4 → 1 ≤ dg → ∃ dg', zk_rnn ((zk_eo (E ++ [v]) W).1, (zk_eo (E ++ [v]) W).2, false, gd, dg, E.length) t = zk_rnn ((zk_eo (E ++ [(zk_num k v t).1]) W).1, (zk_eo (E ++ [(zk_num k v t).1]) W).2, false, gd, dg', E.length) (zk_num k v t).2 ∧ (∀ c r, (zk_num k v t).2 = c :: r → zk_dgt c = true → dg' = 0 ∨ 4 ≤ dg')
  | 0, dg, v, t, h1, _ => ⟨dg, rfl, fun _ _ _ _ => Or.inr (by omega)⟩
  | k + 1, dg, v, [], _, _ => ⟨dg, rfl, fun c r e => by cases e⟩
  | k + 1, dg, v, c :: r, h1, h2 => by
    cases hc : zk_dgt c
    · have en : zk_num (k + 1) v (c :: r) = (v, c :: r) := if_neg (by rw [hc]; decide)
      rw [en]
      exact ⟨dg, rfl, fun c' r' e hd => by cases e; rw [hc] at hd; cases hd⟩
    · have en : zk_num (k + 1) v (c :: r) = zk_num k (10 * v + (c - 48)) r := if_pos hc
      rw [en]
      obtain ⟨us, hu⟩ := zk_eo_app W []
      have eF : ∀ F : List Nat, zk_eo F W = (F ++ us, (zk_eo [] W).2) := fun F => by
        have := hu F
        rw [List.append_nil] at this
        exact this
      have et : zk_tk ((zk_eo (E ++ [v]) W).1, (zk_eo (E ++ [v]) W).2, false, gd, dg, E.length) c = some ((zk_eo (E ++ [10 * v + (c - 48)]) W).1, (zk_eo (E ++ [10 * v + (c - 48)]) W).2, false, gd, dg + 1, E.length) := by
        rw [eF (E ++ [v])]
        have etk : zk_tk (E ++ [v] ++ us, (zk_eo [] W).2, false, gd, dg, E.length) c = (if zk_dgt c && decide (0 < dg) && decide (dg < 4) then some ((E ++ [v] ++ us).set E.length ((E ++ [v] ++ us).getD E.length 0 * 10 + (c - 48)), (zk_eo [] W).2, false, gd, dg + 1, E.length) else zk_tb (E ++ [v] ++ us) (zk_eo [] W).2 gd E.length c) := rfl
        rw [etk, hc, decide_eq_true (show 0 < dg by omega), decide_eq_true (show dg < 4 by omega)]
        rw [if_pos (show (true && true && true) = true from rfl)]
        have eg : (E ++ [v] ++ us).getD E.length 0 = v := by simp [List.getD]
        have es : ∀ x, (E ++ [v] ++ us).set E.length x = E ++ [x] ++ us := fun x => by simp [List.set_append]
        rw [eg, es, Nat.mul_comm v 10, eF (E ++ [10 * v + (c - 48)])]
      rw [zk_rnn_s et]
      exact zk_eq_num k (dg + 1) (10 * v + (c - 48)) r (by omega) (by omega)
theorem zk_eq_O : ∀ d, d ≤ 6 → zk_eqO d (zk_xO d) := by
  intro d
  -- what stands in both: digits, names, the end
  have base : ∀ (d : Nat) (nest : Nat → List Nat → zk_Rs), (∀ (E W : List Nat) (gd : Bool) (ns c : Nat) (r : List Nat), zk_ow W + d = 6 → zk_dgt c = false → zk_nam c = none → ((nest c r).1 = true → ∃ (dg ns' : Nat), zk_rnn (E, W, true, gd, 0, ns) (c :: r) = zk_rnn ((zk_eo (E ++ (nest c r).2.2.map zk_csn) W).1, (zk_eo (E ++ (nest c r).2.2.map zk_csn) W).2, false, gd, dg, ns') (nest c r).2.1 ∧ (∀ c' r', (nest c r).2.1 = c' :: r' → zk_dgt c' = true → dg = 0 ∨ 4 ≤ dg)) ∧ ((nest c r).1 = false → zk_out (zk_rnn (E, W, true, gd, 0, ns) (c :: r)) = (false, (nest c r).2.1.length, []))) → zk_eqO d (zk_xob nest) := by
    intro d nest hn E W gd ns t hd
    cases t with
    | nil => exact ⟨fun z => (by cases z), fun _ => rfl⟩
    | cons c r =>
      cases hc : zk_dgt c
      · cases hk : zk_nam c with
        | none =>
          rw [zk_xob_n hc hk]
          exact hn E W gd ns c r hd hc hk
        | some k =>
          rw [zk_xob_k hc hk]
          have hk5 := zk_nam_k hk
          have et : zk_tk (E, W, true, gd, 0, ns) c = some ((zk_eo (E ++ [10000 + k]) W).1, (zk_eo (E ++ [10000 + k]) W).2, false, gd, 0, ns) := by
            rw [zk_tk_o hc]
            unfold zk_to
            rw [hk]
          have ek : zk_csn k = 10000 + k := if_pos hk5
          refine ⟨fun _ => ⟨0, ns, ?_, fun _ _ _ _ => Or.inl rfl⟩, fun z => by cases z⟩
          rw [zk_rnn_s et]
          show _ = zk_rnn ((zk_eo (E ++ [zk_csn k]) W).1, (zk_eo (E ++ [zk_csn k]) W).2, false, gd, 0, ns) r
          rw [ek]
      · rw [zk_xob_d hc]
        refine ⟨fun _ => ?_, fun z => by cases z⟩
        rw [zk_rnn_s (zk_tk_d hc)]
        obtain ⟨dg', e1, e2⟩ := zk_eq_num (E := E) (W := W) (gd := gd) 3 1 (c - 48) r (by decide) (by decide)
        rw [zk_num_d hc]
        refine ⟨dg', E.length, ?_, e2⟩
        rw [e1]
        show _ = zk_rnn ((zk_eo (E ++ [zk_csn (18 + (zk_num 3 (c - 48) r).1)]) W).1, (zk_eo (E ++ [zk_csn (18 + (zk_num 3 (c - 48) r).1)]) W).2, false, gd, dg', E.length) _
        rw [show zk_csn (18 + (zk_num 3 (c - 48) r).1) = (zk_num 3 (c - 48) r).1 by unfold zk_csn; rw [if_neg (by omega), if_neg (by omega)]; omega]
  induction d with
  | zero =>
    intro _
    refine base 0 _ fun E W gd ns c r hd hc hk => ⟨fun z => (by cases z), fun _ => zk_rnn_n ?_⟩
    rw [zk_tk_o hc]
    unfold zk_to
    rw [hk]
    exact if_pos (by omega)
  | succ d ih =>
    intro hd6
    have hO := ih (by omega)
    have hE := zk_eq_E hO
    refine base (d + 1) _ fun E W gd ns c r hd hc hk => ?_
    have eto : zk_tk (E, W, true, gd, 0, ns) c = (if c = 40 ∨ c = 33 then some (E, c :: W, true, gd, 0, ns) else if c = 45 then some (E, 126 :: W, true, gd, 0, ns) else none) := by
      rw [zk_tk_o hc]
      unfold zk_to
      rw [hk]
      exact if_neg (by omega)
    -- ! and - ahead of an operand
    have un : ∀ (u s : Nat), (s = 33 ∨ s = 126) → zk_csn u = 20000 + s → zk_tk (E, W, true, gd, 0, ns) c = some (E, s :: W, true, gd, 0, ns) → ((zk_sfx u (zk_xO d r)).1 = true → ∃ (dg ns' : Nat), zk_rnn (E, W, true, gd, 0, ns) (c :: r) = zk_rnn ((zk_eo (E ++ (zk_sfx u (zk_xO d r)).2.2.map zk_csn) W).1, (zk_eo (E ++ (zk_sfx u (zk_xO d r)).2.2.map zk_csn) W).2, false, gd, dg, ns') (zk_sfx u (zk_xO d r)).2.1 ∧ (∀ c' r', (zk_sfx u (zk_xO d r)).2.1 = c' :: r' → zk_dgt c' = true → dg = 0 ∨ 4 ≤ dg)) ∧ ((zk_sfx u (zk_xO d r)).1 = false → zk_out (zk_rnn (E, W, true, gd, 0, ns) (c :: r)) = (false, (zk_sfx u (zk_xO d r)).2.1.length, [])) := by
      intro u s hs hu et
      have how : zk_ow (s :: W) + d = 6 := by
        show (if s = 33 ∨ s = 126 ∨ s = 40 then 1 else 0) + zk_ow W + d = 6
        rw [if_pos (by omega)]; omega
      obtain ⟨k1, k2⟩ := hO E (s :: W) gd ns r how
      rw [zk_rnn_s et]
      cases hq : (zk_xO d r).1
      · have e : zk_sfx u (zk_xO d r) = zk_xO d r := if_neg (by rw [hq]; decide)
        rw [e]
        exact ⟨fun z => (by rw [hq] at z; cases z), fun _ => k2 hq⟩
      · have e : zk_sfx u (zk_xO d r) = (true, (zk_xO d r).2.1, (zk_xO d r).2.2 ++ [u]) := if_pos hq
        rw [e]
        refine ⟨fun _ => ?_, fun z => by cases z⟩
        obtain ⟨dg, ns', e1, e2⟩ := k1 hq
        refine ⟨dg, ns', ?_, e2⟩
        rw [e1]
        have ee : zk_eo (E ++ (zk_xO d r).2.2.map zk_csn) (s :: W) = zk_eo (E ++ ((zk_xO d r).2.2 ++ [u]).map zk_csn) W := by
          have : zk_eo (E ++ (zk_xO d r).2.2.map zk_csn) (s :: W) = zk_eo (E ++ (zk_xO d r).2.2.map zk_csn ++ [20000 + s]) W := if_pos hs
          rw [this, List.map_append, ← List.append_assoc]
          show _ = zk_eo (_ ++ [zk_csn u]) W
          rw [hu]
        rw [ee]
    show ((zk_nst (zk_xO d) c r).1 = true → _) ∧ _
    by_cases h33 : c = 33
    · subst h33
      exact un 16 33 (Or.inl rfl) rfl (by rw [eto]; rfl)
    · by_cases h45 : c = 45
      · subst h45
        exact un 17 126 (Or.inr rfl) rfl (by rw [eto]; rfl)
      · by_cases h40 : c = 40
        · subst h40
          have et : zk_tk (E, W, true, gd, 0, ns) 40 = some (E, 40 :: W, true, gd, 0, ns) := by rw [eto]; rfl
          have how : zk_ow (40 :: W) + d = 6 := by
            show 1 + zk_ow W + d = 6
            omega
          obtain ⟨k1, k2⟩ := hE E (40 :: W) gd ns r how ⟨by decide, by decide⟩ (show zk_rk 40 < 1 by decide)
          have eN : zk_nst (zk_xO d) 40 r = zk_par (zk_xE (zk_xO d) r) := rfl
          rw [eN, zk_rnn_s et]
          cases hq : (zk_xE (zk_xO d) r).1
          · have e : zk_par (zk_xE (zk_xO d) r) = zk_xE (zk_xO d) r := if_neg (by rw [hq]; decide)
            rw [e]
            exact ⟨fun z => (by rw [hq] at z; cases z), fun _ => k2 hq⟩
          · obtain ⟨P, E1, dg, ns', e1, e2, e3, e4⟩ := k1 hq
            rw [e1]
            have hbr : zk_brw (P ++ 40 :: W) = 1 + zk_brw W := by
              rw [(zk_ow_P P (40 :: W) e3).2]
              rfl
            cases hr : (zk_xE (zk_xO d) r).2.1 with
            | nil =>
              have e : zk_par (zk_xE (zk_xO d) r) = (false, [], (zk_xE (zk_xO d) r).2.2) := by
                unfold zk_par
                rw [if_pos hq, hr]
              rw [e]
              refine ⟨fun z => (by cases z), fun _ => ?_⟩
              show (if (false || decide (0 < zk_brw (P ++ 40 :: W))) then _ else _) = _
              rw [hbr, decide_eq_true (by omega)]
              rfl
            | cons b r2 =>
              rw [hr] at e4
              by_cases h41 : b = 41
              · subst h41
                have e : zk_par (zk_xE (zk_xO d) r) = (true, r2, (zk_xE (zk_xO d) r).2.2) := by
                  unfold zk_par
                  rw [if_pos hq, hr]
                  exact if_pos rfl
                rw [e]
                refine ⟨fun _ => ⟨0, ns', ?_, fun _ _ _ _ => Or.inl rfl⟩, fun z => by cases z⟩
                refine zk_rnn_s ?_
                rw [zk_tk_b e4.1]
                unfold zk_tb
                rw [if_pos rfl, if_neg (by rw [hbr]; omega), zk_ew_P P E1 (40 :: W) e3 (show zk_rk 40 < 1 by decide), e2]
                rfl
              · have e : zk_par (zk_xE (zk_xO d) r) = (false, b :: r2, (zk_xE (zk_xO d) r).2.2) := by
                  unfold zk_par
                  rw [if_pos hq, hr]
                  exact if_neg h41
                rw [e]
                refine ⟨fun z => (by cases z), fun _ => zk_rnn_n ?_⟩
                rw [zk_tk_b e4.1]
                by_cases h59 : b = 59
                · subst h59
                  unfold zk_tb
                  rw [if_neg (by decide), if_pos rfl, if_pos (by rw [hbr]; omega)]
                · by_cases h63 : b = 63
                  · subst h63
                    unfold zk_tb
                    rw [if_neg (by decide), if_neg (by decide), if_pos rfl]
                    split
                    · rfl
                    · rw [if_pos (by rw [hbr]; omega)]
                  · exact zk_tb_bad h41 h59 h63 e4.2
        · have e : zk_nst (zk_xO d) c r = (false, c :: r, []) := by
            unfold zk_nst
            rw [if_neg h33, if_neg h45, if_neg h40]
          rw [e]
          refine ⟨fun z => (by cases z), fun _ => zk_rnn_n ?_⟩
          rw [eto, if_neg (by omega), if_neg h45]
