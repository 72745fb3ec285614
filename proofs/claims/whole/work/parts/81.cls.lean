/-! THE LAW read: letter by letter; the class' small methods -/
abbrev zk_Pt : Type := List Nat × List Nat × Bool × Bool × Nat × Nat
def zk_rk (c : Nat) : Nat := if c = 124 then 1 else if c = 38 then 2 else if c = 60 ∨ c = 61 ∨ c = 62 then 3 else if c = 43 ∨ c = 45 then 4 else if c = 42 ∨ c = 47 ∨ c = 37 then 5 else 0
def zk_ow : List Nat → Nat
  | [] => 0
  | s :: W => (if s = 33 ∨ s = 126 ∨ s = 40 then 1 else 0) + zk_ow W
def zk_brw : List Nat → Nat
  | [] => 0
  | s :: W => (if s = 40 then 1 else 0) + zk_brw W
def zk_ew (r : Nat) : List Nat → List Nat → List Nat × List Nat
  | E, [] => (E, [])
  | E, s :: W => if r ≤ zk_rk s then zk_ew r (E ++ [20000 + s]) W else (E, s :: W)
def zk_eo : List Nat → List Nat → List Nat × List Nat
  | E, [] => (E, [])
  | E, s :: W => if s = 33 ∨ s = 126 then zk_eo (E ++ [20000 + s]) W else (E, s :: W)
def zk_to (E W : List Nat) (gd : Bool) (ns c : Nat) : Option zk_Pt := match zk_nam c with
  | some k => some ((zk_eo (E ++ [10000 + k]) W).1, (zk_eo (E ++ [10000 + k]) W).2, false, gd, 0, ns)
  | none => if 6 ≤ zk_ow W then none else if c = 40 ∨ c = 33 then some (E, c :: W, true, gd, 0, ns) else if c = 45 then some (E, 126 :: W, true, gd, 0, ns) else none
def zk_tb3 (E W : List Nat) (gd : Bool) (ns c : Nat) : Option zk_Pt := match W with
  | [] => some (E, [c], true, gd, 0, ns)
  | s :: W' => if zk_rk s = 3 then none else some (E, c :: s :: W', true, gd, 0, ns)
def zk_tb (E W : List Nat) (gd : Bool) (ns c : Nat) : Option zk_Pt :=
  if c = 41 then (if zk_brw W = 0 then none else some ((zk_eo (zk_ew 1 E W).1 (zk_ew 1 E W).2.tail).1, (zk_eo (zk_ew 1 E W).1 (zk_ew 1 E W).2.tail).2, false, gd, 0, ns))
  else if c = 59 then (if 0 < zk_brw W then none else some ((zk_ew 1 E W).1 ++ [20059], (zk_ew 1 E W).2, true, false, 0, ns))
  else if c = 63 then (if gd then none else if 0 < zk_brw W then none else some ((zk_ew 1 E W).1 ++ [20063], (zk_ew 1 E W).2, true, true, 0, ns))
  else if zk_rk c = 0 then none
  else if zk_rk c = 3 then zk_tb3 (zk_ew 4 E W).1 (zk_ew 4 E W).2 gd ns c
  else some ((zk_ew (zk_rk c) E W).1, c :: (zk_ew (zk_rk c) E W).2, true, gd, 0, ns)
def zk_tk (S : zk_Pt) (c : Nat) : Option zk_Pt :=
  if zk_dgt c && decide (0 < S.2.2.2.2.1) && decide (S.2.2.2.2.1 < 4) then some (S.1.set S.2.2.2.2.2 (S.1.getD S.2.2.2.2.2 0 * 10 + (c - 48)), S.2.1, S.2.2.1, S.2.2.2.1, S.2.2.2.2.1 + 1, S.2.2.2.2.2)
  else if S.2.2.1 then (if zk_dgt c then some ((zk_eo (S.1 ++ [c - 48]) S.2.1).1, (zk_eo (S.1 ++ [c - 48]) S.2.1).2, false, S.2.2.2.1, 1, S.1.length) else zk_to S.1 S.2.1 S.2.2.2.1 S.2.2.2.2.2 c)
  else zk_tb S.1 S.2.1 S.2.2.2.1 S.2.2.2.2.2 c
/-- a stack lies in a row of cells -/
def zk_sgr (f : Nat → Int32) : List Nat → Prop
  | [] => True
  | s :: W => f W.length = nI s ∧ zk_sgr f W
def zk_ib (b : Bool) : Int32 := if b then 1 else 0
/-- the parser's cells -/
def zk_pa (c0 : zk_H) (E W : List Nat) (o b : Nat) (wo gd : Bool) (dg ns : Nat) (h : zk_H) : Prop := ((∀ c, c ≠ 24 → c ≠ 26 → c ≠ 27 → h.1 c = c0.1 c) ∧ h.2 = c0.2 ∧ h.1 24 1 = c0.1 24 1) ∧ (h.1 24 3 = nI E.length ∧ h.1 24 5 = nI W.length ∧ h.1 24 6 = nI o ∧ h.1 24 7 = nI b ∧ h.1 24 8 = zk_ib wo ∧ h.1 24 9 = zk_ib gd ∧ h.1 24 10 = nI dg) ∧ (0 < dg → h.1 24 11 = nI ns ∧ ns < E.length) ∧ zk_sg (h.1 26) 0 (E.map nI) ∧ zk_sgr (h.1 27) W ∧ ∀ s ∈ W, s < 256
def zk_fp (c0 h : zk_H) : Prop := (∀ c, c ≠ 24 → c ≠ 26 → c ≠ 27 → h.1 c = c0.1 c) ∧ h.2 = c0.2 ∧ h.1 24 1 = c0.1 24 1
theorem zk_sgr_keep {f g : Nat → Int32} : ∀ {W : List Nat}, zk_sgr f W → (∀ j, j < W.length → g j = f j) → zk_sgr g W
  | [], _, _ => trivial
  | s :: W, h, e => ⟨(e _ (by rw [List.length_cons]; omega)).trans h.1, zk_sgr_keep h.2 fun j hj => e j (by rw [List.length_cons]; omega)⟩
theorem zk_sg_get {f : Nat → Int32} : ∀ {l : List Int32} {p k : Nat}, zk_sg f p l → k < l.length → f (p + k) = l.getD k 0
  | v :: r, p, 0, h, _ => h.1
  | v :: r, p, k + 1, h, hk => by
    rw [List.length_cons] at hk
    have := zk_sg_get (k := k) h.2 (by omega)
    rw [show p + (k + 1) = p + 1 + k by omega, this]
    rfl
theorem zk_sg_set {f g : Nat → Int32} {v : Int32} : ∀ {l : List Int32} {p k : Nat}, zk_sg f p l → k < l.length → g (p + k) = v → (∀ j, j ≠ p + k → g j = f j) → zk_sg g p (l.set k v)
  | w :: r, p, 0, h, _, e, e2 => ⟨e, zk_sg_keep h.2 fun j h1 _ => e2 j (by omega)⟩
  | w :: r, p, k + 1, h, hk, e, e2 => by
    rw [List.length_cons] at hk
    exact ⟨(e2 p (by omega)).trans h.1, zk_sg_set h.2 (by omega) (by rw [show p + 1 + k = p + (k + 1) by omega]; exact e) fun j hj => e2 j (by omega)⟩
section ZKW
variable {KV : zk_H → Prop} {K : Int32 → zk_H → Prop} {c0 h h' : zk_H} {E W : List Nat} {o b dg ns c s : Nat} {wo gd : Bool}
theorem zk_pa.s24 (P : zk_pa c0 E W o b wo gd dg ns h) {o' b' dg' ns' : Nat} {wo' gd' : Bool} {W' : List Nat} (e : ∀ k, k ≠ 24 → h'.1 k = h.1 k) (e2 : h'.2 = h.2) (w1 : h'.1 24 1 = h.1 24 1) (w3 : h'.1 24 3 = h.1 24 3) (w5 : h'.1 24 5 = nI W'.length) (w6 : h'.1 24 6 = nI o') (w7 : h'.1 24 7 = nI b') (w8 : h'.1 24 8 = zk_ib wo') (w9 : h'.1 24 9 = zk_ib gd') (w10 : h'.1 24 10 = nI dg') (w11 : 0 < dg' → h'.1 24 11 = nI ns' ∧ ns' < E.length) (hW : zk_sgr (h.1 27) W' ∧ ∀ s ∈ W', s < 256) : zk_pa c0 E W' o' b' wo' gd' dg' ns' h' := by
  obtain ⟨⟨p1, p2, p3⟩, ⟨p4, -⟩, -, p5, -⟩ := P
  refine ⟨⟨fun c c1 c2 c3 => (e c c1).trans (p1 c c1 c2 c3), e2.trans p2, w1.trans p3⟩, ⟨w3.trans p4, w5, w6, w7, w8, w9, w10⟩, w11, ?_, ?_, hW.2⟩
  · rw [e 26 (by decide)]; exact p5
  · rw [e 27 (by decide)]; exact hW.1
theorem jX5_emit {x : Nat} (P : zk_pa c0 E W o b wo gd dg ns h) (hE : E.length < 121) (H : ∀ h', zk_pa c0 (E ++ [x]) W o b wo gd dg ns h' → KV h') : pX5_emit [.ref 24, .int (nI x)] h KV := by
  obtain ⟨⟨p1, p2, p3⟩, ⟨p4, p5, p6, p7, p8, p9, p10⟩, p11, p12, p13, p14⟩ := P
  refine ⟨rfl, zk_bk hX5_emit (bX5_emit_0 ?_)⟩
  rw [p4, nI_1, nI_clamp (n := E.length) (by omega)]
  refine ⟨fun q => absurd q (nI_ge (b := 121) (by omega) (by decide)), fun _ => ⟨vp_in_nI hE (by decide), H _ ⟨⟨fun c c1 c2 c3 => ?_, p2, ?_⟩, ⟨?_, ?_, ?_, ?_, ?_, ?_, ?_⟩, fun hd => ⟨?_, ?_⟩, ?_, ?_, p14⟩⟩⟩
  · rw [zk_si_ne c1, zk_si_ne c2]; exact p1 c c1 c2 c3
  · rw [zk_si_at, if_neg (by decide), zk_si_ne (by decide)]; exact p3
  · rw [zk_si_at, if_pos rfl, List.length_append]; rfl
  · rw [zk_si_at, if_neg (by decide), zk_si_ne (by decide)]; exact p5
  · rw [zk_si_at, if_neg (by decide), zk_si_ne (by decide)]; exact p6
  · rw [zk_si_at, if_neg (by decide), zk_si_ne (by decide)]; exact p7
  · rw [zk_si_at, if_neg (by decide), zk_si_ne (by decide)]; exact p8
  · rw [zk_si_at, if_neg (by decide), zk_si_ne (by decide)]; exact p9
  · rw [zk_si_at, if_neg (by decide), zk_si_ne (by decide)]; exact p10
  · rw [zk_si_at, if_neg (by decide), zk_si_ne (by decide)]; exact (p11 hd).1
  · have := (p11 hd).2
    rw [List.length_append]; omega
  · rw [zk_si_ne (by decide), List.map_append]
    refine zk_sg_app.mpr ⟨zk_sg_keep p12 fun j _ hj => ?_, ?_, trivial⟩
    · rw [List.length_map] at hj
      rw [zk_si_at, if_neg (by omega)]
    · rw [List.length_map, Nat.zero_add, zk_si_at, if_pos rfl]
  · rw [zk_si_ne (by decide), zk_si_ne (by decide)]; exact p13
theorem jX5_await {x : Nat} (P : zk_pa c0 E W o b wo gd dg ns h) (hx : x < 256) (hW : W.length < 121) (H : ∀ h', zk_pa c0 E (x :: W) o b wo gd dg ns h' → KV h') : pX5_await [.ref 24, .int (nI x)] h KV := by
  obtain ⟨⟨p1, p2, p3⟩, ⟨p4, p5, p6, p7, p8, p9, p10⟩, p11, p12, p13, p14⟩ := P
  refine ⟨rfl, zk_bk hX5_await (bX5_await_0 ?_)⟩
  rw [p5, nI_1, nI_clamp (n := W.length) (by omega)]
  refine ⟨fun q => absurd q (nI_ge (b := 121) (by omega) (by decide)), fun _ => ⟨vp_in_nI hW (by decide), H _ ⟨⟨fun c c1 c2 c3 => ?_, p2, ?_⟩, ⟨?_, ?_, ?_, ?_, ?_, ?_, ?_⟩, fun hd => ⟨?_, (p11 hd).2⟩, ?_, ⟨?_, ?_⟩, ?_⟩⟩⟩
  · rw [zk_si_ne c1, zk_si_ne c3]; exact p1 c c1 c2 c3
  · rw [zk_si_at, if_neg (by decide), zk_si_ne (by decide)]; exact p3
  · rw [zk_si_at, if_neg (by decide), zk_si_ne (by decide)]; exact p4
  · rw [zk_si_at, if_pos rfl, List.length_cons]
  · rw [zk_si_at, if_neg (by decide), zk_si_ne (by decide)]; exact p6
  · rw [zk_si_at, if_neg (by decide), zk_si_ne (by decide)]; exact p7
  · rw [zk_si_at, if_neg (by decide), zk_si_ne (by decide)]; exact p8
  · rw [zk_si_at, if_neg (by decide), zk_si_ne (by decide)]; exact p9
  · rw [zk_si_at, if_neg (by decide), zk_si_ne (by decide)]; exact p10
  · rw [zk_si_at, if_neg (by decide), zk_si_ne (by decide)]; exact (p11 hd).1
  · rw [zk_si_ne (by decide), zk_si_ne (by decide)]; exact p12
  · rw [zk_si_ne (by decide), zk_si_at, if_pos rfl]
  · refine zk_sgr_keep p13 fun j hj => ?_
    rw [zk_si_ne (by decide), zk_si_at, if_neg (by omega)]
  · intro s hs
    rcases List.mem_cons.mp hs with rfl | hs
    · exact hx
    · exact p14 s hs
theorem jX5_rankOf (hc : c < 256) (H : K (nI (zk_rk c)) h) : pX5_rankOf [.ref 24, .int (nI c)] h K := by
  refine ⟨rfl, zk_bk hX5_rankOf (bX5_rankOf_0 ?_)⟩
  refine ⟨fun q => ?_, fun q37 => ?_⟩
  · have e := (nI_eq (b := 37) (by omega) (by decide)).mp q
    subst e
    exact H
  refine ⟨fun q => ?_, fun q38 => ?_⟩
  · have e := (nI_eq (b := 38) (by omega) (by decide)).mp q
    subst e
    exact H
  refine ⟨fun q => ?_, fun q42 => ?_⟩
  · have e := (nI_eq (b := 42) (by omega) (by decide)).mp q
    subst e
    exact H
  refine ⟨fun q => ?_, fun q43 => ?_⟩
  · have e := (nI_eq (b := 43) (by omega) (by decide)).mp q
    subst e
    exact H
  refine ⟨fun q => ?_, fun q45 => ?_⟩
  · have e := (nI_eq (b := 45) (by omega) (by decide)).mp q
    subst e
    exact H
  refine ⟨fun q => ?_, fun q47 => ?_⟩
  · have e := (nI_eq (b := 47) (by omega) (by decide)).mp q
    subst e
    exact H
  refine ⟨fun q => ?_, fun q60 => ?_⟩
  · have e := (nI_eq (b := 60) (by omega) (by decide)).mp q
    subst e
    exact H
  refine ⟨fun q => ?_, fun q61 => ?_⟩
  · have e := (nI_eq (b := 61) (by omega) (by decide)).mp q
    subst e
    exact H
  refine ⟨fun q => ?_, fun q62 => ?_⟩
  · have e := (nI_eq (b := 62) (by omega) (by decide)).mp q
    subst e
    exact H
  refine ⟨fun q => ?_, fun q124 => ?_⟩
  · have e := (nI_eq (b := 124) (by omega) (by decide)).mp q
    subst e
    exact H
  have e : zk_rk c = 0 := by
    unfold zk_rk
    rw [if_neg fun z => q124 (by rw [z]; rfl), if_neg fun z => q38 (by rw [z]; rfl), if_neg fun z => z.elim (fun u => q60 (by rw [u]; rfl)) fun z => z.elim (fun u => q61 (by rw [u]; rfl)) fun u => q62 (by rw [u]; rfl), if_neg fun z => z.elim (fun u => q43 (by rw [u]; rfl)) fun u => q45 (by rw [u]; rfl), if_neg fun z => z.elim (fun u => q42 (by rw [u]; rfl)) fun z => z.elim (fun u => q47 (by rw [u]; rfl)) fun u => q37 (by rw [u]; rfl)]
  rw [e] at H
  exact H
theorem jX5_endOperand : ∀ (W E : List Nat) (h : zk_H), zk_pa c0 E W (zk_ow W) b wo gd dg ns h → E.length + W.length ≤ 121 → (∀ h', zk_pa c0 (zk_eo E W).1 (zk_eo E W).2 (zk_ow (zk_eo E W).2) b false gd dg ns h' → KV h') → pX5_endOperand [.ref 24] h KV := by
  have loop : ∀ (W E : List Nat) (h : zk_H), zk_pa c0 E W (zk_ow W) b false gd dg ns h → E.length + W.length ≤ 121 → (∀ h', zk_pa c0 (zk_eo E W).1 (zk_eo E W).2 (zk_ow (zk_eo E W).2) b false gd dg ns h' → KV h') → (zk_X zk_C (zk_lkl lkX5) zk_mt (zk_cxl [(63, zk_vP pX5_emit)]) none (zk_at cdX5_endOperand) (zk_qv KV)) 5 [some (.ref 24)] [] h := by
    intro W
    induction W with
    | nil =>
      intro E h P hl H
      have p5 := P.2.1.2.1
      refine zk_bk hX5_endOperand (bX5_endOperand_5 ?_)
      rw [p5]
      exact ⟨fun _ => H h P, fun q => absurd (by decide) q⟩
    | cons s W ih =>
      intro E h P hl H
      obtain ⟨p4, p5, p6, p7, p8, p9, p10⟩ := P.2.1
      obtain ⟨p13, p14⟩ := P.2.2.2.2
      have hs := p14 s List.mem_cons_self
      rw [List.length_cons] at hl p5
      have go : (s = 33 ∨ s = 126) → pX5_emit [.ref 24, .int (nI (20000 + s))] (zk_si (zk_si h 24 5 (nI W.length)) 24 6 (nI (zk_ow (s :: W)) - 1)) (fun h1 => (zk_X zk_C (zk_lkl lkX5) zk_mt (zk_cxl [(63, zk_vP pX5_emit)]) none (zk_at cdX5_endOperand) (zk_qv KV)) 5 [some (.ref 24)] [] h1) := by
        intro q
        have eo : zk_eo E (s :: W) = zk_eo (E ++ [20000 + s]) W := if_pos q
        have ow : zk_ow (s :: W) = zk_ow W + 1 := by
          show (if s = 33 ∨ s = 126 ∨ s = 40 then 1 else 0) + _ = _
          rw [if_pos (by omega)]
          omega
        rw [eo] at H
        have P1 : zk_pa c0 E W (zk_ow W) b false gd dg ns (zk_si (zk_si h 24 5 (nI W.length)) 24 6 (nI (zk_ow (s :: W)) - 1)) := by
          refine P.s24 (fun k hk => by rw [zk_si_ne hk, zk_si_ne hk]) rfl ?_ ?_ ?_ ?_ ?_ ?_ ?_ ?_ (fun hd => ⟨?_, (P.2.2.1 hd).2⟩) ⟨p13.2, fun s hs => p14 s (List.mem_cons_of_mem _ hs)⟩
          · rw [zk_si_at, if_neg (by decide), zk_si_at, if_neg (by decide)]
          · rw [zk_si_at, if_neg (by decide), zk_si_at, if_neg (by decide)]
          · rw [zk_si_at, if_neg (by decide), zk_si_at, if_pos rfl]
          · rw [zk_si_at, if_pos rfl, ow, nI_pred]
          · rw [zk_si_at, if_neg (by decide), zk_si_at, if_neg (by decide)]; exact p7
          · rw [zk_si_at, if_neg (by decide), zk_si_at, if_neg (by decide)]; exact p8
          · rw [zk_si_at, if_neg (by decide), zk_si_at, if_neg (by decide)]; exact p9
          · rw [zk_si_at, if_neg (by decide), zk_si_at, if_neg (by decide)]; exact p10
          · rw [zk_si_at, if_neg (by decide), zk_si_at, if_neg (by decide)]; exact (P.2.2.1 hd).1
        exact jX5_emit P1 (by omega) fun h1 P2 => ih (E ++ [20000 + s]) h1 P2 (by rw [List.length_append]; show E.length + 1 + _ ≤ _; omega) H
      have v1 : vp_in (nI W.length) 121 := vp_in_nI (by omega) (by decide)
      refine zk_bk hX5_endOperand (bX5_endOperand_5 ?_)
      rw [p5, nI_pred, nI_clamp (n := W.length) (by omega), p13.1, p6, show (20000 : Int32) + nI s = nI (20000 + s) from nI_add 20000 s]
      refine ⟨fun q => absurd q (nI_nle (by omega) (by omega)), fun _ => ⟨v1, fun q => ⟨v1, go (Or.inl ((nI_eq (b := 33) (by omega) (by decide)).mp q))⟩, fun q => ⟨v1, fun q2 => ?_, fun q2 => ⟨v1, go (Or.inr ((nI_eq (b := 126) (by omega) (by decide)).mp q2))⟩⟩⟩⟩
      have eo : zk_eo E (s :: W) = (E, s :: W) := if_neg fun z => z.elim (fun u => q (by rw [u]; rfl)) (fun u => q2 (by rw [u]; rfl))
      rw [eo] at H
      exact H h P
  intro W E h P hl H
  obtain ⟨p4, p5, p6, p7, p8, p9, p10⟩ := P.2.1
  obtain ⟨p13, p14⟩ := P.2.2.2.2
  refine ⟨rfl, zk_bk hX5_endOperand (bX5_endOperand_0 ?_)⟩
  refine ⟨Or.inl rfl, loop W E _ ?_ hl H⟩
  refine P.s24 (fun k hk => by rw [zk_si_ne hk]) rfl ?_ ?_ ?_ ?_ ?_ ?_ ?_ ?_ (fun hd => ⟨?_, (P.2.2.1 hd).2⟩) ⟨p13, p14⟩
  · rw [zk_si_at, if_neg (by decide)]
  · rw [zk_si_at, if_neg (by decide)]
  · rw [zk_si_at, if_neg (by decide)]; exact p5
  · rw [zk_si_at, if_neg (by decide)]; exact p6
  · rw [zk_si_at, if_neg (by decide)]; exact p7
  · rw [zk_si_at, if_pos rfl]; rfl
  · rw [zk_si_at, if_neg (by decide)]; exact p9
  · rw [zk_si_at, if_neg (by decide)]; exact p10
  · rw [zk_si_at, if_neg (by decide)]; exact (P.2.2.1 hd).1
theorem jX5_emitWaiting {r : Nat} (hr : r < 100) : ∀ (W E : List Nat) (h : zk_H), zk_pa c0 E W o b wo gd dg ns h → E.length + W.length ≤ 121 → (∀ h', zk_pa c0 (zk_ew r E W).1 (zk_ew r E W).2 o b wo gd dg ns h' → KV h') → pX5_emitWaiting [.ref 24, .int (nI r)] h KV := by
  have loop : ∀ (W E : List Nat) (h : zk_H), zk_pa c0 E W o b wo gd dg ns h → E.length + W.length ≤ 121 → (∀ h', zk_pa c0 (zk_ew r E W).1 (zk_ew r E W).2 o b wo gd dg ns h' → KV h') → (zk_X zk_C (zk_lkl lkX5) zk_mt (zk_cxl [(61, zk_iP pX5_rankOf), (63, zk_vP pX5_emit)]) none (zk_at cdX5_emitWaiting) (zk_qv KV)) 0 [some (.ref 24), some (.int (nI r))] [] h := by
    intro W
    induction W with
    | nil =>
      intro E h P hl H
      have p5 := P.2.1.2.1
      refine zk_bk hX5_emitWaiting (bX5_emitWaiting_0 ?_)
      rw [p5]
      exact ⟨fun _ => H h P, fun q => absurd (by decide) q⟩
    | cons s W ih =>
      intro E h P hl H
      obtain ⟨p4, p5, p6, p7, p8, p9, p10⟩ := P.2.1
      obtain ⟨p13, p14⟩ := P.2.2.2.2
      have hs := p14 s List.mem_cons_self
      rw [List.length_cons] at hl p5
      have v1 : vp_in (nI W.length) 121 := vp_in_nI (by omega) (by decide)
      have hrk : zk_rk s < 100 := by
        unfold zk_rk
        repeat' split
        all_goals omega
      refine zk_bk hX5_emitWaiting (bX5_emitWaiting_0 ?_)
      rw [p5, nI_pred, nI_clamp (n := W.length) (by omega), p13.1]
      refine ⟨fun q => absurd q (nI_nle (by omega) (by omega)), fun _ => ⟨v1, jX5_rankOf hs ⟨fun q => ?_, fun q => ?_⟩⟩⟩
      · have := (nI_ltI (by omega) (by omega)).mp q
        have ew : zk_ew r E (s :: W) = (E, s :: W) := if_neg (by omega)
        rw [ew] at H
        exact H h P
      · have : r ≤ zk_rk s := by
          rcases Nat.lt_or_ge (zk_rk s) r with z | z
          · exact absurd ((nI_ltI (by omega) (by omega)).mpr z) q
          · exact z
        have ew : zk_ew r E (s :: W) = zk_ew r (E ++ [20000 + s]) W := if_pos this
        rw [ew] at H
        have P1 : zk_pa c0 E W o b wo gd dg ns (zk_si h 24 5 (nI W.length)) := by
          refine P.s24 (fun k hk => by rw [zk_si_ne hk]) rfl ?_ ?_ ?_ ?_ ?_ ?_ ?_ ?_ (fun hd => ⟨?_, (P.2.2.1 hd).2⟩) ⟨p13.2, fun s hs => p14 s (List.mem_cons_of_mem _ hs)⟩
          · rw [zk_si_at, if_neg (by decide)]
          · rw [zk_si_at, if_neg (by decide)]
          · rw [zk_si_at, if_pos rfl]
          · rw [zk_si_at, if_neg (by decide)]; exact p6
          · rw [zk_si_at, if_neg (by decide)]; exact p7
          · rw [zk_si_at, if_neg (by decide)]; exact p8
          · rw [zk_si_at, if_neg (by decide)]; exact p9
          · rw [zk_si_at, if_neg (by decide)]; exact p10
          · rw [zk_si_at, if_neg (by decide)]; exact (P.2.2.1 hd).1
        rw [p5, nI_pred, nI_clamp (n := W.length) (by omega), p13.1, show (20000 : Int32) + nI s = nI (20000 + s) from nI_add 20000 s]
        exact ⟨v1, jX5_emit P1 (by omega) fun h1 P2 => ih (E ++ [20000 + s]) h1 P2 (by rw [List.length_append]; show E.length + 1 + _ ≤ _; omega) H⟩
  intro W E h P hl H
  exact ⟨rfl, loop W E h P hl H⟩
end ZKW
