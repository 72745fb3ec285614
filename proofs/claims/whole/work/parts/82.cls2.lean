/-! THE LAW read: letter by letter; the class' takes -/
def zk_hn : List Nat → Prop
  | [] => True
  | s :: _ => s ≠ 33 ∧ s ≠ 126
/-- what waits is well laid: no sign ahead of an operand right under an operator -/
def zk_wk : List Nat → Prop
  | [] => True
  | s :: W => (s = 33 ∨ s = 126 ∨ s = 40 ∨ 1 ≤ zk_rk s) ∧ (1 ≤ zk_rk s → zk_hn W) ∧ zk_wk W
theorem zk_eo_g : ∀ (W E : List Nat), (zk_eo E W).1.length + (zk_eo E W).2.length = E.length + W.length ∧ zk_brw (zk_eo E W).2 = zk_brw W ∧ zk_hn (zk_eo E W).2 ∧ (zk_wk W → zk_wk (zk_eo E W).2) ∧ E.length ≤ (zk_eo E W).1.length
  | [], E => ⟨rfl, rfl, trivial, fun h => h, Nat.le_refl _⟩
  | s :: W, E => by
    by_cases q : s = 33 ∨ s = 126
    · have e : zk_eo E (s :: W) = zk_eo (E ++ [20000 + s]) W := if_pos q
      obtain ⟨i1, i2, i3, i4, i5⟩ := zk_eo_g W (E ++ [20000 + s])
      rw [List.length_append] at i1 i5
      have h1 : [20000 + s].length = 1 := rfl
      rw [e, List.length_cons]
      refine ⟨by omega, ?_, i3, fun h => i4 h.2.2, by omega⟩
      rw [i2]
      show _ = (if s = 40 then 1 else 0) + _
      rw [if_neg (by omega)]
      omega
    · have e : zk_eo E (s :: W) = (E, s :: W) := if_neg q
      rw [e]
      exact ⟨rfl, rfl, ⟨fun z => q (Or.inl z), fun z => q (Or.inr z)⟩, fun h => h, Nat.le_refl _⟩
theorem zk_rk_op {s : Nat} (h : 1 ≤ zk_rk s) : s ≠ 33 ∧ s ≠ 126 ∧ s ≠ 40 := by
  refine ⟨fun z => ?_, fun z => ?_, fun z => ?_⟩ <;> subst z <;> exact absurd h (by decide)
theorem zk_ew_g {r : Nat} (hr : 1 ≤ r) : ∀ (W E : List Nat), (zk_ew r E W).1.length + (zk_ew r E W).2.length = E.length + W.length ∧ zk_brw (zk_ew r E W).2 = zk_brw W ∧ zk_ow (zk_ew r E W).2 = zk_ow W ∧ (zk_wk W → zk_hn W → zk_wk (zk_ew r E W).2 ∧ zk_hn (zk_ew r E W).2)
  | [], E => ⟨rfl, rfl, rfl, fun h g => ⟨h, g⟩⟩
  | s :: W, E => by
    by_cases q : r ≤ zk_rk s
    · have e : zk_ew r E (s :: W) = zk_ew r (E ++ [20000 + s]) W := if_pos q
      obtain ⟨i1, i2, i3, i4⟩ := zk_ew_g hr W (E ++ [20000 + s])
      rw [List.length_append] at i1
      have h1 : [20000 + s].length = 1 := rfl
      obtain ⟨n1, n2, n3⟩ := zk_rk_op (show 1 ≤ zk_rk s by omega)
      rw [e, List.length_cons]
      refine ⟨by omega, ?_, ?_, fun h g => i4 h.2.2 (h.2.1 (by omega))⟩
      · rw [i2]
        show _ = (if s = 40 then 1 else 0) + _
        rw [if_neg n3]
        omega
      · rw [i3]
        show _ = (if s = 33 ∨ s = 126 ∨ s = 40 then 1 else 0) + _
        rw [if_neg (by omega)]
        omega
    · have e : zk_ew r E (s :: W) = (E, s :: W) := if_neg q
      rw [e]
      exact ⟨rfl, rfl, rfl, fun h g => ⟨h, g⟩⟩
/-- behind all operators of a rank: a bracket, or nothing -/
theorem zk_ew_1 : ∀ (W E : List Nat), zk_wk W → zk_hn W → (zk_ew 1 E W).2 = [] ∨ ∃ V, (zk_ew 1 E W).2 = 40 :: V
  | [], E, _, _ => Or.inl rfl
  | s :: W, E, h, g => by
    by_cases q : 1 ≤ zk_rk s
    · have e : zk_ew 1 E (s :: W) = zk_ew 1 (E ++ [20000 + s]) W := if_pos q
      rw [e]
      exact zk_ew_1 W _ h.2.2 (h.2.1 q)
    · have e : zk_ew 1 E (s :: W) = (E, s :: W) := if_neg q
      rw [e]
      rcases h.1 with z | z | z | z
      · exact absurd z g.1
      · exact absurd z g.2
      · rw [z]; exact Or.inr ⟨W, rfl⟩
      · exact absurd z q
def zk_pp (c0 : zk_H) (S : zk_Pt) (h : zk_H) : Prop := zk_pa c0 S.1 S.2.1 (zk_ow S.2.1) (zk_brw S.2.1) S.2.2.1 S.2.2.2.1 S.2.2.2.2.1 S.2.2.2.2.2 h
def zk_iv (S : zk_Pt) : Prop := zk_wk S.2.1 ∧ (S.2.2.1 = false → zk_hn S.2.1)
section ZKW
variable {KV : zk_H → Prop} {K : Int32 → zk_H → Prop} {c0 h h' : zk_H} {E W : List Nat} {o b dg ns c s : Nat} {wo gd : Bool}
theorem zk_pa.fp (P : zk_pa c0 E W o b wo gd dg ns h) : zk_fp c0 h := P.1
theorem zk_ixo : ∀ c, c < 256 → ((nI c).toUInt32 % 65536).toInt32 = nI c ∧ ∀ i, i < 6 → ((([108, 104, 115, 107, 109, 99] : List Int32).getD i 0) = (nI c).toInt8.toInt32 ↔ zk_nam c = some i) := by decide +kernel
theorem jJ0_indexOf (hc : c < 256) (H : K (match zk_nam c with | some k => nI k | none => -1) h) : pJ0_indexOf_0f7a4 [.ref 2000, .int (nI c)] h K := by
  have ch : ∀ (n i : Nat) (K : Int32 → zk_H → Prop), i + n = 6 → (∀ j, j < i → zk_nam c ≠ some j) → K (match zk_nam c with | some k => nI k | none => -1) h → (zk_X zk_C (zk_lkl lkJ1) zk_mt (zk_cxl []) (some .int) (zk_at cdJ1_indexOfChar_4cfef) (zk_qi K)) 7 [some (.ref 1004), some (.int (nI c)), some (.int 0), some (.int 6), some (.int (nI c).toInt8.toInt32), some (.int (nI i))] [] h := by
    intro n
    induction n with
    | zero =>
      intro i K hi hn H
      have hi6 : i = 6 := by omega
      subst hi6
      refine zk_bk hJ1_indexOfChar_4cfef (bJ1_indexOfChar_4cfef_7 ?_)
      refine ⟨fun _ => ?_, fun q => absurd (by decide) q⟩
      cases hk : zk_nam c with
      | none => rw [hk] at H; exact H
      | some k =>
        have := zk_nam_k hk
        exact absurd hk (hn k (by omega))
    | succ n ih =>
      intro i K hi hn H
      have hx := (zk_ixo c hc).2 i (by omega)
      refine zk_bk hJ1_indexOfChar_4cfef (bJ1_indexOfChar_4cfef_7 ?_)
      rw [nI_clamp (n := i) (by omega), nI_1]
      refine ⟨fun q => absurd q (nI_ge (b := 6) (by omega) (by decide)), fun _ => ⟨vp_in_nI (by omega) (by decide), fun q => ih (i + 1) K (by omega) (fun j hj z => ?_) H, fun q => ?_⟩⟩
      · rcases Nat.lt_or_ge j i with u | u
        · exact hn j u z
        · rw [show j = i by omega] at z
          exact q (hx.mpr z)
      · rw [hx.mp q] at H
        exact H
  refine ⟨rfl, zk_bk hJ0_indexOf_0f7a4 (bJ0_indexOf_0f7a4_0 ?_)⟩
  refine ⟨rfl, zk_bk hJ0_indexOf_7cf53 (bJ0_indexOf_7cf53_0 ?_)⟩
  refine ⟨rfl, zk_bk hJ0_isLatin1_aae02 (bJ0_isLatin1_aae02_0 ?_)⟩
  refine ⟨fun q => absurd q (by decide), fun _ => ⟨fun q => absurd rfl q, fun _ => ⟨Or.inr rfl, fun q => absurd q (by decide), fun _ => ?_⟩⟩⟩
  refine ⟨rfl, zk_bk hJ0_length_8abf5 (bJ0_length_8abf5_0 ?_)⟩
  refine ⟨rfl, zk_bk hJ0_coder_7d493 (bJ0_coder_7d493_0 ?_)⟩
  refine ⟨fun q => absurd q (by decide), fun _ => ⟨by decide, ?_⟩⟩
  refine ⟨rfl, zk_bk hJ1_indexOf_4cfef (bJ1_indexOf_4cfef_0 ?_)⟩
  refine ⟨rfl, zk_bk hJ1_canEncode_9a6ad (bJ1_canEncode_9a6ad_0 ?_)⟩
  refine ⟨fun q => absurd q (nI_pos (by omega)), fun _ => ⟨fun q => absurd ((nI_ltI (a := 255) (by decide) (by omega)).mp q) (by omega), fun _ => ⟨Or.inr rfl, fun _ => ⟨fun _ => ?_, fun q => absurd (by decide) q⟩, fun q => absurd q (by decide)⟩⟩⟩
  refine ⟨rfl, zk_bk hJ1_indexOfChar_4cfef (bJ1_indexOfChar_4cfef_0 ?_)⟩
  exact ch 6 0 _ (by omega) (fun j hj => absurd hj (Nat.not_lt_zero _)) H
theorem jX5_takesAsOperand (hc : c < 256) (P : zk_pa c0 E W (zk_ow W) (zk_brw W) true gd 0 ns h) (hl : E.length + W.length < 121) (H1 : ∀ S, zk_to E W gd ns c = some S → ∀ h', zk_pp c0 S h' → K 1 h') (H0 : zk_to E W gd ns c = none → ∀ h', zk_fp c0 h' → K 0 h') : pX5_takesAsOperand [.ref 24, .int (nI c)] h K := by
  obtain ⟨p4, p5, p6, p7, p8, p9, p10⟩ := P.2.1
  obtain ⟨p13, p14⟩ := P.2.2.2.2
  refine ⟨rfl, zk_bk hX5_takesAsOperand (bX5_takesAsOperand_0 ?_)⟩
  rw [(zk_ixo c hc).1]
  refine jJ0_indexOf hc ?_
  cases hn : zk_nam c with
  | some k =>
    have hk := zk_nam_k hn
    have et : zk_to E W gd ns c = some ((zk_eo (E ++ [10000 + k]) W).1, (zk_eo (E ++ [10000 + k]) W).2, false, gd, 0, ns) := by unfold zk_to; rw [hn]
    refine ⟨fun q => absurd q (nI_pos (by omega)), fun _ => ?_⟩
    show pX5_emit [.ref 24, .int ((10000 : Int32) + nI k)] h _
    rw [show (10000 : Int32) + nI k = nI (10000 + k) from nI_add 10000 k]
    refine jX5_emit P (by omega) fun h1 P1 => jX5_endOperand W (E ++ [10000 + k]) h1 P1 (by rw [List.length_append]; show E.length + 1 + _ ≤ _; omega) fun h2 P2 => ⟨Or.inr rfl, H1 _ et h2 ?_⟩
    obtain ⟨-, g2, -⟩ := zk_eo_g W (E ++ [10000 + k])
    unfold zk_pp
    dsimp only
    rw [g2]
    exact P2
  | none =>
    have et : zk_to E W gd ns c = (if 6 ≤ zk_ow W then none else if c = 40 ∨ c = 33 then some (E, c :: W, true, gd, 0, ns) else if c = 45 then some (E, 126 :: W, true, gd, 0, ns) else none) := by unfold zk_to; rw [hn]
    refine ⟨fun _ => ?_, fun q => absurd (by decide) q⟩
    rw [p6, p7]
    have hw : zk_ow W ≤ W.length := by
      have : ∀ W : List Nat, zk_ow W ≤ W.length := by
        intro W
        induction W with
        | nil => exact Nat.le_refl _
        | cons s W ih =>
          show (if _ then 1 else 0) + zk_ow W ≤ _
          rw [List.length_cons]
          split <;> omega
      exact this W
    refine ⟨fun q => ⟨Or.inl rfl, H0 ?_ h P.fp⟩, fun q => ?_⟩
    · rw [et, if_pos ((nI_leI (a := 6) (by decide) (by omega)).mp q)]
    · have hq : ¬ 6 ≤ zk_ow W := fun z => q ((nI_leI (a := 6) (by decide) (by omega)).mpr z)
      rw [if_neg hq] at et
      rw [nI_1, nI_1]
      -- one more is open
      have op : ∀ (x b' : Nat) (h1 : zk_H), x < 256 → (x = 33 ∨ x = 126 ∨ x = 40) → zk_brw (x :: W) = b' → zk_to E W gd ns c = some (E, x :: W, true, gd, 0, ns) → (∀ k, k ≠ 24 → h1.1 k = h.1 k) → h1.2 = h.2 → (∀ j, j ≠ 6 → j ≠ 7 → h1.1 24 j = h.1 24 j) → h1.1 24 6 = nI (zk_ow W + 1) → h1.1 24 7 = nI b' → pX5_await [.ref 24, .int (nI x)] h1 (fun h3 => (((1 : Int32) = 0 ∨ (1 : Int32) = 1) ∧ K 1 h3)) := by
        intro x b' h1 hx hx2 hb he e1 e2 e3 e6 e7
        have P1 : zk_pa c0 E W (zk_ow W + 1) b' true gd 0 ns h1 := P.s24 e1 e2 (e3 1 (by decide) (by decide)) (e3 3 (by decide) (by decide)) ((e3 5 (by decide) (by decide)).trans p5) e6 e7 ((e3 8 (by decide) (by decide)).trans p8) ((e3 9 (by decide) (by decide)).trans p9) ((e3 10 (by decide) (by decide)).trans p10) (fun z => absurd z (Nat.lt_irrefl 0)) ⟨p13, p14⟩
        refine jX5_await P1 hx (by omega) fun h2 P2 => ⟨Or.inr rfl, H1 _ he h2 ?_⟩
        unfold zk_pp
        dsimp only
        have eo : zk_ow (x :: W) = zk_ow W + 1 := by
          show (if x = 33 ∨ x = 126 ∨ x = 40 then 1 else 0) + _ = _
          rw [if_pos hx2]
          omega
        rw [eo, hb]
        exact P2
      refine ⟨fun q2 => ?_, fun q2 => ⟨fun q3 => ?_, fun q3 => ⟨fun q4 => ?_, fun q4 => ⟨Or.inl rfl, H0 ?_ h P.fp⟩⟩⟩⟩
      · have e := (nI_eq (b := 40) (by omega) (by decide)).mp q2
        subst e
        refine ⟨fun z => absurd rfl z, fun _ => ⟨fun _ => op 40 (zk_brw W + 1) _ (by decide) (by decide) (by show 1 + zk_brw W = _; omega) (by rw [et]; rfl) (fun k hk => by rw [zk_si_ne hk, zk_si_ne hk]) rfl (fun j j6 j7 => by rw [zk_si_at, if_neg j7, zk_si_at, if_neg j6]) (by rw [zk_si_at, if_neg (by decide), zk_si_at, if_pos rfl]) (by rw [zk_si_at, if_pos rfl]), fun z => absurd z (by decide)⟩⟩
      · have e := (nI_eq (b := 33) (by omega) (by decide)).mp q3
        subst e
        refine ⟨fun _ => ⟨fun _ => op 33 (zk_brw W) _ (by decide) (by decide) (by show 0 + zk_brw W = _; omega) (by rw [et]; rfl) (fun k hk => by rw [zk_si_ne hk]) rfl (fun j j6 j7 => by rw [zk_si_at, if_neg j6]) (by rw [zk_si_at, if_pos rfl]) (by rw [zk_si_at, if_neg (by decide), p7]), fun z => absurd z (by decide)⟩, fun z => absurd z (by decide)⟩
      · have e := (nI_eq (b := 45) (by omega) (by decide)).mp q4
        subst e
        refine ⟨fun _ => ⟨fun z => absurd rfl z, fun _ => op 126 (zk_brw W) _ (by decide) (by decide) (by show 0 + zk_brw W = _; omega) (by rw [et]; rfl) (fun k hk => by rw [zk_si_ne hk]) rfl (fun j j6 j7 => by rw [zk_si_at, if_neg j6]) (by rw [zk_si_at, if_pos rfl]) (by rw [zk_si_at, if_neg (by decide), p7])⟩, fun z => absurd z (by decide)⟩
      · rw [et, if_neg fun z => z.elim (fun u => q2 (by rw [u]; rfl)) (fun u => q3 (by rw [u]; rfl)), if_neg fun u => q4 (by rw [u]; rfl)]
theorem jX5_endsExpression {x : Nat} {g2 : Bool} (P : zk_pa c0 E W (zk_ow W) (zk_brw W) wo gd 0 ns h) (hl : E.length + W.length < 121) (H1 : zk_brw W = 0 → ∀ h', zk_pp c0 ((zk_ew 1 E W).1 ++ [x], (zk_ew 1 E W).2, true, g2, 0, ns) h' → K 1 h') (H0 : 0 < zk_brw W → ∀ h', zk_fp c0 h' → K 0 h') : pX5_endsExpression [.ref 24, .int (nI x), .int (zk_ib g2)] h K := by
  obtain ⟨p4, p5, p6, p7, p8, p9, p10⟩ := P.2.1
  have hb : zk_brw W ≤ W.length := by
    have : ∀ W : List Nat, zk_brw W ≤ W.length := by
      intro W
      induction W with
      | nil => exact Nat.le_refl _
      | cons s W ih =>
        show (if _ then 1 else 0) + zk_brw W ≤ _
        rw [List.length_cons]
        split <;> omega
    exact this W
  refine ⟨rfl, zk_bk hX5_endsExpression (bX5_endsExpression_0 ?_)⟩
  rw [p7]
  refine ⟨fun q => ?_, fun q => ⟨Or.inl rfl, H0 (Nat.pos_of_ne_zero fun z => q (by rw [z]; exact Int32.le_refl _)) h P.fp⟩⟩
  have hb0 : zk_brw W = 0 := Nat.eq_zero_of_le_zero ((nI_leI (b := 0) (by omega) (by decide)).mp q)
  obtain ⟨g1, gb, go, -⟩ := zk_ew_g (Nat.le_refl 1) W E
  refine jX5_emitWaiting (r := 1) (by decide) W E h P (by omega) fun h1 P1 => jX5_emit P1 (by omega) fun h2 P2 => ⟨?_, Or.inr rfl, Or.inr rfl, H1 hb0 _ ?_⟩
  · cases g2
    · exact Or.inl rfl
    · exact Or.inr rfl
  · obtain ⟨r4, r5, r6, r7, r8, r9, r10⟩ := P2.2.1
    unfold zk_pp
    dsimp only
    rw [go, gb]
    refine P2.s24 (fun k hk => by rw [zk_si_ne hk, zk_si_ne hk]) rfl ?_ ?_ ?_ ?_ ?_ ?_ ?_ ?_ (fun z => absurd z (Nat.lt_irrefl 0)) ⟨P2.2.2.2.2.1, P2.2.2.2.2.2⟩
    · rw [zk_si_at, if_neg (by decide), zk_si_at, if_neg (by decide)]
    · rw [zk_si_at, if_neg (by decide), zk_si_at, if_neg (by decide)]
    · rw [zk_si_at, if_neg (by decide), zk_si_at, if_neg (by decide)]; exact r5
    · rw [zk_si_at, if_neg (by decide), zk_si_at, if_neg (by decide)]; exact r6
    · rw [zk_si_at, if_neg (by decide), zk_si_at, if_neg (by decide)]; exact r7
    · rw [zk_si_at, if_pos rfl]; rfl
    · rw [zk_si_at, if_neg (by decide), zk_si_at, if_pos rfl]
    · rw [zk_si_at, if_neg (by decide), zk_si_at, if_neg (by decide)]; exact r10
theorem jX5_takesBetween (hc : c < 256) (P : zk_pa c0 E W (zk_ow W) (zk_brw W) false gd 0 ns h) (hl : E.length + W.length < 121) (he : c ≠ 41 ∧ c ≠ 59 ∧ c ≠ 63) (H1 : ∀ S, zk_tb E W gd ns c = some S → ∀ h', zk_pp c0 S h' → K 1 h') (H0 : zk_tb E W gd ns c = none → ∀ h', zk_fp c0 h' → K 0 h') : pX5_takesBetween [.ref 24, .int (nI c)] h K := by
  have etb : zk_tb E W gd ns c = (if zk_rk c = 0 then none else if zk_rk c = 3 then zk_tb3 (zk_ew 4 E W).1 (zk_ew 4 E W).2 gd ns c else some ((zk_ew (zk_rk c) E W).1, c :: (zk_ew (zk_rk c) E W).2, true, gd, 0, ns)) := by
    unfold zk_tb
    rw [if_neg he.1, if_neg he.2.1, if_neg he.2.2]
  have hrk : zk_rk c < 6 := by
    unfold zk_rk
    repeat' split
    all_goals omega
  -- an operator waits
  have aw : ∀ (E1 W1 : List Nat) (h1 : zk_H), zk_ow W1 = zk_ow W → zk_brw W1 = zk_brw W → E1.length + W1.length = E.length + W.length → 1 ≤ zk_rk c → zk_tb E W gd ns c = some (E1, c :: W1, true, gd, 0, ns) → zk_pa c0 E1 W1 (zk_ow W) (zk_brw W) false gd 0 ns h1 → pX5_await [.ref 24, .int (nI c)] h1 (fun h4 => (((1 : Int32) = 0 ∨ (1 : Int32) = 1) ∧ (((1 : Int32) = 0 ∨ (1 : Int32) = 1) ∧ K 1 (zk_si h4 24 8 (1 : Int32))))) := by
    intro E1 W1 h1 eo eb hl2 hr et P1
    refine jX5_await P1 hc (by omega) fun h2 P2 => ⟨Or.inr rfl, Or.inr rfl, H1 _ et _ ?_⟩
    obtain ⟨r4, r5, r6, r7, r8, r9, r10⟩ := P2.2.1
    obtain ⟨n1, n2, n3⟩ := zk_rk_op hr
    unfold zk_pp
    dsimp only
    rw [show zk_ow (c :: W1) = zk_ow W by show (if c = 33 ∨ c = 126 ∨ c = 40 then 1 else 0) + _ = _; rw [if_neg (by omega)]; omega, show zk_brw (c :: W1) = zk_brw W by show (if c = 40 then 1 else 0) + _ = _; rw [if_neg n3]; omega]
    refine P2.s24 (fun k hk => by rw [zk_si_ne hk]) rfl ?_ ?_ ?_ ?_ ?_ ?_ ?_ ?_ (fun z => absurd z (Nat.lt_irrefl 0)) ⟨P2.2.2.2.2.1, P2.2.2.2.2.2⟩
    · rw [zk_si_at, if_neg (by decide)]
    · rw [zk_si_at, if_neg (by decide)]
    · rw [zk_si_at, if_neg (by decide)]; exact r5
    · rw [zk_si_at, if_neg (by decide)]; exact r6
    · rw [zk_si_at, if_neg (by decide)]; exact r7
    · rw [zk_si_at, if_pos rfl]; rfl
    · rw [zk_si_at, if_neg (by decide)]; exact r9
    · rw [zk_si_at, if_neg (by decide)]; exact r10
  refine ⟨rfl, zk_bk hX5_takesBetween (bX5_takesBetween_0 ?_)⟩
  refine jX5_rankOf hc ⟨fun q => ?_, fun q => ⟨Or.inl rfl, H0 (by rw [etb, if_pos ((nI_eq (b := 0) (by omega) (by decide)).mp q)]) h P.fp⟩⟩
  have hr0 : ¬ zk_rk c = 0 := fun z => q (by rw [z]; rfl)
  rw [if_neg hr0] at etb
  refine ⟨fun q3 => ?_, fun q3 => ?_⟩
  · have hr3 : ¬ zk_rk c = 3 := fun z => q3 (by rw [z]; rfl)
    rw [if_neg hr3] at etb
    obtain ⟨g1, gb, go, -⟩ := zk_ew_g (show 1 ≤ zk_rk c by omega) W E
    exact jX5_emitWaiting (by omega) W E h P (by omega) fun h1 P1 => ⟨fun _ => aw _ _ h1 go gb g1 (by omega) etb P1, fun z => absurd z q3⟩
  · have hr3 : zk_rk c = 3 := (nI_eq (b := 3) (by omega) (by decide)).mp q3
    rw [if_pos hr3] at etb
    rw [hr3, nI_1]
    obtain ⟨g1, gb, go, -⟩ := zk_ew_g (show 1 ≤ 4 by decide) W E
    refine jX5_emitWaiting (r := 4) (by decide) W E h P (by omega) fun h1 P1 => ⟨fun z => absurd rfl z, fun _ => ?_⟩
    have r5 := P1.2.1.2.1
    have r14 := P1.2.2.2.2
    generalize (zk_ew 4 E W).1 = E1 at *
    generalize (zk_ew 4 E W).2 = W1 at *
    rw [r5]
    cases W1 with
    | nil =>
      exact ⟨fun _ => aw _ _ h1 go gb g1 (by omega) etb P1, fun z => absurd (by decide) z⟩
    | cons s W1 =>
      have hs := r14.2 s List.mem_cons_self
      have hrs : zk_rk s < 6 := by
        unfold zk_rk
        repeat' split
        all_goals omega
      rw [List.length_cons] at g1 ⊢
      rw [nI_pred, nI_clamp (n := W1.length) (by omega), r14.1.1]
      refine ⟨fun z => absurd z (nI_nle (by omega) (by omega)), fun _ => ⟨vp_in_nI (by omega) (by decide), jX5_rankOf hs ⟨fun z => ?_, fun z => ⟨Or.inl rfl, H0 ?_ h1 P1.fp⟩⟩⟩⟩
      · have hz : ¬ zk_rk s = 3 := fun u => z (by rw [u]; rfl)
        refine aw _ _ h1 go gb (by rw [List.length_cons]; exact g1) (by omega) ?_ P1
        rw [etb]
        exact if_neg hz
      · rw [etb]
        exact if_pos ((nI_eq (b := 3) (by omega) (by decide)).mp z)
theorem jX5_takesBehindOperand (hc : c < 256) (P : zk_pa c0 E W (zk_ow W) (zk_brw W) false gd 0 ns h) (hl : E.length + W.length < 121) (iv : zk_wk W ∧ zk_hn W) (H1 : ∀ S, zk_tb E W gd ns c = some S → ∀ h', zk_pp c0 S h' → K 1 h') (H0 : zk_tb E W gd ns c = none → ∀ h', zk_fp c0 h' → K 0 h') : pX5_takesBehindOperand [.ref 24, .int (nI c)] h K := by
  obtain ⟨p4, p5, p6, p7, p8, p9, p10⟩ := P.2.1
  have hb : zk_brw W ≤ W.length := by
    have : ∀ W : List Nat, zk_brw W ≤ W.length := by
      intro W
      induction W with
      | nil => exact Nat.le_refl _
      | cons s W ih =>
        show (if _ then 1 else 0) + zk_brw W ≤ _
        rw [List.length_cons]
        split <;> omega
    exact this W
  refine ⟨rfl, zk_bk hX5_takesBehindOperand (bX5_takesBehindOperand_0 ?_)⟩
  refine ⟨fun q => ?_, fun q => ⟨fun q2 => ?_, fun q2 => ⟨fun q3 => ?_, fun q3 => ?_⟩⟩⟩
  · have e := (nI_eq (b := 41) (by omega) (by decide)).mp q
    subst e
    have etb : zk_tb E W gd ns 41 = (if zk_brw W = 0 then none else some ((zk_eo (zk_ew 1 E W).1 (zk_ew 1 E W).2.tail).1, (zk_eo (zk_ew 1 E W).1 (zk_ew 1 E W).2.tail).2, false, gd, 0, ns)) := if_pos rfl
    refine ⟨rfl, zk_bk hX5_closesBracket (bX5_closesBracket_0 ?_)⟩
    rw [p7]
    refine ⟨fun z => ?_, fun z => ⟨Or.inl rfl, Or.inl rfl, H0 (by rw [etb, if_pos ((nI_eq (b := 0) (by omega) (by decide)).mp z)]) h P.fp⟩⟩
    have hb0 : ¬ zk_brw W = 0 := fun u => z (by rw [u]; rfl)
    rw [if_neg hb0] at etb
    obtain ⟨g1, gb, go, -⟩ := zk_ew_g (Nat.le_refl 1) W E
    rcases zk_ew_1 W E iv.1 iv.2 with u | ⟨V, u⟩
    · rw [u] at gb
      exact absurd gb.symm hb0
    · refine jX5_emitWaiting (r := 1) (by decide) W E h P (by omega) fun h1 P1 => ?_
      rw [u] at g1 gb go P1 etb
      obtain ⟨r4, r5, r6, r7, r8, r9, r10⟩ := P1.2.1
      have r14 := P1.2.2.2.2
      have eb : zk_brw W = zk_brw V + 1 := by rw [← gb]; show 1 + zk_brw V = _; omega
      have eo : zk_ow W = zk_ow V + 1 := by rw [← go]; show 1 + zk_ow V = _; omega
      rw [List.length_cons] at g1 r5
      have P2 : zk_pa c0 (zk_ew 1 E W).1 V (zk_ow V) (zk_brw V) false gd 0 ns (zk_si (zk_si (zk_si h1 24 5 (h1.1 24 5 - 1)) 24 7 ((zk_si h1 24 5 (h1.1 24 5 - 1)).1 24 7 - 1)) 24 6 ((zk_si (zk_si h1 24 5 (h1.1 24 5 - 1)) 24 7 ((zk_si h1 24 5 (h1.1 24 5 - 1)).1 24 7 - 1)).1 24 6 - 1)) := by
        refine P1.s24 (fun k hk => by rw [zk_si_ne hk, zk_si_ne hk, zk_si_ne hk]) rfl ?_ ?_ ?_ ?_ ?_ ?_ ?_ ?_ (fun z => absurd z (Nat.lt_irrefl 0)) ⟨r14.1.2, fun s hs => r14.2 s (List.mem_cons_of_mem _ hs)⟩
        · rw [zk_si_at, if_neg (by decide), zk_si_at, if_neg (by decide), zk_si_at, if_neg (by decide)]
        · rw [zk_si_at, if_neg (by decide), zk_si_at, if_neg (by decide), zk_si_at, if_neg (by decide)]
        · rw [zk_si_at, if_neg (by decide), zk_si_at, if_neg (by decide), zk_si_at, if_pos rfl, r5, nI_pred]
        · rw [zk_si_at, if_pos rfl, zk_si_at, if_neg (by decide), zk_si_at, if_neg (by decide), r6, eo, nI_pred]
        · rw [zk_si_at, if_neg (by decide), zk_si_at, if_pos rfl, zk_si_at, if_neg (by decide), r7, eb, nI_pred]
        · rw [zk_si_at, if_neg (by decide), zk_si_at, if_neg (by decide), zk_si_at, if_neg (by decide)]; exact r8
        · rw [zk_si_at, if_neg (by decide), zk_si_at, if_neg (by decide), zk_si_at, if_neg (by decide)]; exact r9
        · rw [zk_si_at, if_neg (by decide), zk_si_at, if_neg (by decide), zk_si_at, if_neg (by decide)]; exact r10
      refine jX5_endOperand V (zk_ew 1 E W).1 _ (by simpa [zk_si] using P2) (by omega) fun h2 P3 => ⟨Or.inr rfl, Or.inr rfl, H1 _ etb h2 ?_⟩
      obtain ⟨-, k2, -⟩ := zk_eo_g V (zk_ew 1 E W).1
      unfold zk_pp
      dsimp only [List.tail]
      rw [k2]
      exact P3
  · have e := (nI_eq (b := 59) (by omega) (by decide)).mp q2
    subst e
    have etb : zk_tb E W gd ns 59 = (if 0 < zk_brw W then none else some ((zk_ew 1 E W).1 ++ [20059], (zk_ew 1 E W).2, true, false, 0, ns)) := rfl
    refine jX5_endsExpression (x := 20059) (g2 := false) P hl (fun z h' P' => ⟨Or.inr rfl, H1 _ ?_ h' P'⟩) (fun z h' P' => ⟨Or.inl rfl, H0 ?_ h' P'⟩)
    · rw [etb, if_neg (by omega)]
    · rw [etb, if_pos z]
  · have e := (nI_eq (b := 63) (by omega) (by decide)).mp q3
    subst e
    have etb : zk_tb E W gd ns 63 = (if gd then none else if 0 < zk_brw W then none else some ((zk_ew 1 E W).1 ++ [20063], (zk_ew 1 E W).2, true, true, 0, ns)) := rfl
    rw [p9]
    cases gd with
    | true => exact ⟨fun _ => ⟨Or.inl rfl, H0 etb h P.fp⟩, fun z => absurd z (by decide)⟩
    | false =>
      refine ⟨fun z => absurd rfl z, fun _ => jX5_endsExpression (x := 20063) (g2 := true) P hl (fun z h' P' => ⟨fun u => absurd u (by decide), fun _ => ⟨Or.inr rfl, H1 _ ?_ h' P'⟩⟩) (fun z h' P' => ⟨fun _ => ⟨Or.inl rfl, H0 ?_ h' P'⟩, fun u => absurd rfl u⟩)⟩
      · rw [etb, if_neg (by decide), if_neg (by omega)]
      · rw [etb, if_neg (by decide), if_pos z]
  · exact jX5_takesBetween hc P hl ⟨fun z => q (by rw [z]; rfl), fun z => q2 (by rw [z]; rfl), fun z => q3 (by rw [z]; rfl)⟩ (fun S e h' P' => ⟨Or.inr rfl, H1 S e h' P'⟩) (fun e h' P' => ⟨Or.inl rfl, H0 e h' P'⟩)
theorem jX5_takes (hc : c < 256) (P : zk_pa c0 E W (zk_ow W) (zk_brw W) wo gd dg ns h) (hdg : dg ≤ 4) (hl : E.length + W.length < 121) (iv : zk_wk W ∧ (wo = false → zk_hn W)) (H1 : ∀ S, zk_tk (E, W, wo, gd, dg, ns) c = some S → ∀ h', zk_pp c0 S h' → K 1 h') (H0 : zk_tk (E, W, wo, gd, dg, ns) c = none → ∀ h', zk_fp c0 h' → K 0 h') : pX5_takes [.ref 24, .int (nI c)] h K := by
  obtain ⟨p4, p5, p6, p7, p8, p9, p10⟩ := P.2.1
  have etk : zk_tk (E, W, wo, gd, dg, ns) c = (if zk_dgt c && decide (0 < dg) && decide (dg < 4) then some (E.set ns (E.getD ns 0 * 10 + (c - 48)), W, wo, gd, dg + 1, ns)
    else if wo then (if zk_dgt c then some ((zk_eo (E ++ [c - 48]) W).1, (zk_eo (E ++ [c - 48]) W).2, false, gd, 1, E.length) else zk_to E W gd ns c)
    else zk_tb E W gd ns c) := rfl
  have P0 : zk_pa c0 E W (zk_ow W) (zk_brw W) wo gd 0 ns (zk_si h 24 10 0) := by
    refine P.s24 (fun k hk => by rw [zk_si_ne hk]) rfl ?_ ?_ ?_ ?_ ?_ ?_ ?_ ?_ (fun z => absurd z (Nat.lt_irrefl 0)) ⟨P.2.2.2.2.1, P.2.2.2.2.2⟩
    · rw [zk_si_at, if_neg (by decide)]
    · rw [zk_si_at, if_neg (by decide)]
    · rw [zk_si_at, if_neg (by decide)]; exact p5
    · rw [zk_si_at, if_neg (by decide)]; exact p6
    · rw [zk_si_at, if_neg (by decide)]; exact p7
    · rw [zk_si_at, if_neg (by decide)]; exact p8
    · rw [zk_si_at, if_neg (by decide)]; exact p9
    · rw [zk_si_at, if_pos rfl]; rfl
  -- no further digit: as an operand, behind one
  have ao : (zk_dgt c && decide (0 < dg) && decide (dg < 4)) = false → wo = true → zk_dgt c = false → pX5_takesAsOperand [.ref 24, .int (nI c)] (zk_si h 24 10 0) (fun v h1 => ((v = 0 ∨ v = 1) ∧ K v h1)) := by
    intro z hw hd
    subst hw
    rw [z, hd] at etk
    exact jX5_takesAsOperand hc P0 hl (fun S e h' P' => ⟨Or.inr rfl, H1 S (etk.trans e) h' P'⟩) (fun e h' P' => ⟨Or.inl rfl, H0 (etk.trans e) h' P'⟩)
  have bo : (zk_dgt c && decide (0 < dg) && decide (dg < 4)) = false → wo = false → pX5_takesBehindOperand [.ref 24, .int (nI c)] (zk_si h 24 10 0) (fun v h1 => ((v = 0 ∨ v = 1) ∧ K v h1)) := by
    intro z hw
    subst hw
    rw [z] at etk
    exact jX5_takesBehindOperand hc P0 hl ⟨iv.1, iv.2 rfl⟩ (fun S e h' P' => ⟨Or.inr rfl, H1 S (etk.trans e) h' P'⟩) (fun e h' P' => ⟨Or.inl rfl, H0 (etk.trans e) h' P'⟩)
  have bn : (zk_dgt c && decide (0 < dg) && decide (dg < 4)) = false → wo = true → zk_dgt c = true → pX5_beginsNumber [.ref 24, .int (nI c)] (zk_si h 24 10 0) (fun v h1 => ((v = 0 ∨ v = 1) ∧ K v h1)) := by
    intro z hw hd
    subst hw
    rw [z, hd] at etk
    have hb := zk_dgt_b.mp hd
    refine ⟨rfl, zk_bk hX5_beginsNumber (bX5_beginsNumber_0 ?_)⟩
    rw [show nI c - (48 : Int32) = nI (c - 48) from nI_sub (b := 48) hb.1]
    have P1 : zk_pa c0 E W (zk_ow W) (zk_brw W) true gd 0 ns (zk_si (zk_si (zk_si h 24 10 0) 24 11 ((zk_si h 24 10 0).1 24 3)) 24 10 0) := by
      refine P0.s24 (fun k hk => by rw [zk_si_ne hk, zk_si_ne hk]) rfl ?_ ?_ ?_ ?_ ?_ ?_ ?_ ?_ (fun z => absurd z (Nat.lt_irrefl 0)) ⟨P0.2.2.2.2.1, P0.2.2.2.2.2⟩
      all_goals simp [zk_si]
      · exact p5
      · exact p6
      · exact p7
      · exact p8
      · exact p9
      · rfl
    -- by hand: digits 1, numberStep the size
    obtain ⟨⟨q1, q2, q3⟩, -, -, q12, q13, q14⟩ := id P0
    have hE1 : E.length < 121 := by omega
    refine ⟨rfl, zk_bk hX5_emit (bX5_emit_0 ?_)⟩
    have e3 : (zk_si (zk_si (zk_si h 24 10 0) 24 11 ((zk_si h 24 10 0).1 24 3)) 24 10 1).1 24 3 = nI E.length := by simp [zk_si, p4]
    rw [e3, nI_1, nI_clamp (n := E.length) (by omega)]
    refine ⟨fun u => absurd u (nI_ge (b := 121) (by omega) (by decide)), fun _ => ⟨vp_in_nI hE1 (by decide), ?_⟩⟩
    refine jX5_endOperand (dg := 1) (ns := E.length) (b := zk_brw W) (wo := true) (gd := gd) (c0 := c0) W (E ++ [c - 48]) _ ⟨⟨fun k c1 c2 c3 => ?_, q2, ?_⟩, ⟨?_, ?_, ?_, ?_, ?_, ?_, ?_⟩, fun _ => ⟨?_, ?_⟩, ?_, ?_, q14⟩ (by rw [List.length_append]; show E.length + 1 + _ ≤ _; omega) fun h2 P2 => ⟨Or.inr rfl, Or.inr rfl, H1 _ etk h2 ?_⟩
    · rw [zk_si_ne c1, zk_si_ne c2, zk_si_ne c1, zk_si_ne c1]; exact q1 k c1 c2 c3
    · rw [← q3]; simp [zk_si]
    · simp [zk_si]
    · simp [zk_si, p5]
    · simp [zk_si, p6]
    · simp [zk_si, p7]
    · simp [zk_si, p8]
    · simp [zk_si, p9]
    · simp [zk_si]; rfl
    · simp [zk_si, p4]
    · rw [List.length_append]; exact Nat.lt_succ_self _
    · rw [zk_si_ne (by decide), List.map_append]
      refine zk_sg_app.mpr ⟨zk_sg_keep q12 fun j _ hj => ?_, ?_, trivial⟩
      · rw [List.length_map] at hj
        rw [zk_si_at, if_neg (by omega)]
        simp [zk_si]
      · rw [List.length_map, Nat.zero_add, zk_si_at, if_pos rfl]
    · rw [zk_si_ne (by decide), zk_si_ne (by decide), zk_si_ne (by decide), zk_si_ne (by decide)]
      rw [zk_si_ne (by decide)] at q13
      exact q13
    · obtain ⟨-, k2, -⟩ := zk_eo_g W (E ++ [c - 48])
      unfold zk_pp
      dsimp only
      rw [k2]
      exact P2
  have mo : zk_dgt c = true → ∀ d1 d2, d1 = true → d2 = true → decide (0 < dg) = d1 → decide (dg < 4) = d2 → (vp_in (h.1 24 11) 121 ∧ (vp_in (h.1 24 11) 121 ∧ (((1 : Int32) = 0 ∨ (1 : Int32) = 1) ∧ K (1 : Int32) (zk_si (zk_si h 26 (h.1 24 11).toNatClampNeg ((((h.1 26 (h.1 24 11).toNatClampNeg) * (10 : Int32)) + nI c) - (48 : Int32))) 24 10 ((h.1 24 10) + (1 : Int32)))))) := by
    intro hd d1 d2 hd1 hd2 e1 e2
    subst hd1
    subst hd2
    have g0 := of_decide_eq_true e1
    have hb := zk_dgt_b.mp hd
    obtain ⟨n11, hns⟩ := P.2.2.1 g0
    obtain ⟨⟨q1, q2, q3⟩, -, -, q12, q13, q14⟩ := id P
    have v1 : vp_in (nI ns) 121 := vp_in_nI (by omega) (by decide)
    have eg : h.1 26 ns = nI (E.getD ns 0) := by
      have := zk_sg_get (k := ns) q12 (by rw [List.length_map]; exact hns)
      rw [Nat.zero_add] at this
      rw [this]
      simp [List.getD, hns]
    rw [n11, nI_clamp (n := ns) (by omega), eg, p10, nI_1, show nI (E.getD ns 0) * (10 : Int32) + nI c - 48 = nI (E.getD ns 0 * 10 + (c - 48)) from by
      rw [show nI (E.getD ns 0) * (10 : Int32) = nI (E.getD ns 0 * 10) from pk_mul _ 10, nI_add, show nI (E.getD ns 0 * 10 + c) - (48 : Int32) = nI (E.getD ns 0 * 10 + c - 48) from nI_sub (b := 48) (by omega), show E.getD ns 0 * 10 + c - 48 = E.getD ns 0 * 10 + (c - 48) by omega]]
    rw [hd, e1, e2] at etk
    refine ⟨v1, v1, Or.inr rfl, H1 _ etk _ ?_⟩
    unfold zk_pp
    dsimp only
    refine ⟨⟨fun k c1 c2 c3 => ?_, q2, ?_⟩, ⟨?_, ?_, ?_, ?_, ?_, ?_, ?_⟩, fun _ => ⟨?_, ?_⟩, ?_, ?_, q14⟩
    · rw [zk_si_ne c1, zk_si_ne c2]; exact q1 k c1 c2 c3
    · rw [zk_si_at, if_neg (by decide), zk_si_ne (by decide)]; exact q3
    · rw [zk_si_at, if_neg (by decide), zk_si_ne (by decide), List.length_set]; exact p4
    · rw [zk_si_at, if_neg (by decide), zk_si_ne (by decide)]; exact p5
    · rw [zk_si_at, if_neg (by decide), zk_si_ne (by decide)]; exact p6
    · rw [zk_si_at, if_neg (by decide), zk_si_ne (by decide)]; exact p7
    · rw [zk_si_at, if_neg (by decide), zk_si_ne (by decide)]; exact p8
    · rw [zk_si_at, if_neg (by decide), zk_si_ne (by decide)]; exact p9
    · rw [zk_si_at, if_pos rfl]
    · rw [zk_si_at, if_neg (by decide), zk_si_ne (by decide)]; exact n11
    · rw [List.length_set]; exact hns
    · rw [zk_si_ne (by decide), List.map_set]
      refine zk_sg_set q12 (by rw [List.length_map]; exact hns) ?_ fun j hj => ?_
      · rw [Nat.zero_add, zk_si_at, if_pos rfl]
      · rw [Nat.zero_add] at hj
        rw [zk_si_at, if_neg hj]
    · rw [zk_si_ne (by decide), zk_si_ne (by decide)]; exact q13
  have wo1 : ¬ zk_ib wo = 0 → wo = true := fun z => by cases wo <;> first | rfl | exact absurd rfl z
  have wo0 : zk_ib wo = 0 → wo = false := fun z => by cases wo <;> first | rfl | exact absurd z (by decide)
  refine ⟨rfl, zk_bk hX5_takes (bX5_takes_0 ?_)⟩
  rw [p8, p10]
  rw [p10] at mo
  refine ⟨fun q => ⟨fun _ => ?_, fun z => absurd rfl z⟩, fun q => ⟨fun q2 => ⟨fun _ => ?_, fun z => absurd rfl z⟩, fun q2 => ⟨fun z => absurd z (by decide), fun _ => ?_⟩⟩⟩
  · have hd : zk_dgt c = false := by
      have := (nI_ltI (b := 48) (by omega) (by decide)).mp q
      unfold zk_dgt
      rw [decide_eq_false (show ¬ 48 ≤ c by omega)]
      rfl
    exact ⟨fun z => ⟨fun _ => ao (by rw [hd]; rfl) (wo1 z) hd, fun u => absurd rfl u⟩, fun z => bo (by rw [hd]; rfl) (wo0 z)⟩
  · have hd : zk_dgt c = false := by
      have := (nI_ltI (a := 57) (by decide) (by omega)).mp q2
      unfold zk_dgt
      rw [decide_eq_false (show ¬ c ≤ 57 by omega)]
      simp
    exact ⟨fun z => ⟨fun _ => ao (by rw [hd]; rfl) (wo1 z) hd, fun u => absurd rfl u⟩, fun z => bo (by rw [hd]; rfl) (wo0 z)⟩
  · have hd : zk_dgt c = true := by
      have h1 : ¬ c < 48 := fun z => q ((nI_ltI (b := 48) (by omega) (by decide)).mpr z)
      have h2 : ¬ 57 < c := fun z => q2 ((nI_ltI (a := 57) (by decide) (by omega)).mpr z)
      exact zk_dgt_b.mpr ⟨by omega, by omega⟩
    refine ⟨fun q3 => ?_, fun q3 => ⟨fun q4 => ?_, fun q4 => mo hd true true rfl rfl (decide_eq_true (Nat.pos_of_ne_zero fun z => q3 (by rw [z]; exact Int32.le_refl _))) (decide_eq_true ?_)⟩⟩
    · have h0 : dg = 0 := Nat.eq_zero_of_le_zero ((nI_leI (b := 0) (by omega) (by decide)).mp q3)
      have e : (zk_dgt c && decide (0 < dg) && decide (dg < 4)) = false := by rw [h0]; simp
      exact ⟨fun z => ⟨fun u => absurd u (by decide), fun _ => bn e (wo1 z) hd⟩, fun z => bo e (wo0 z)⟩
    · have h4 := (nI_leI (a := 4) (by decide) (by omega)).mp q4
      have e : (zk_dgt c && decide (0 < dg) && decide (dg < 4)) = false := by rw [decide_eq_false (show ¬ dg < 4 by omega)]; simp
      exact ⟨fun z => ⟨fun u => absurd u (by decide), fun _ => bn e (wo1 z) hd⟩, fun z => bo e (wo0 z)⟩
    · rcases Nat.lt_or_ge dg 4 with u | u
      · exact u
      · exact absurd ((nI_leI (a := 4) (by decide) (by omega)).mpr u) q4
end ZKW
