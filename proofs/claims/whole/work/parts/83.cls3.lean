/-! THE LAW read: letter by letter; the class' law -/
def zk_rnn : zk_Pt → List Nat → Bool × List Nat × zk_Pt
  | S, [] => (true, [], S)
  | S, c :: r => match zk_tk S c with
    | none => (false, c :: r, S)
    | some S' => zk_rnn S' r
def zk_S0 : zk_Pt := ([], [], true, false, 0, 0)
/-- what the class makes of letters: a fault's place from behind, or steps -/
def zk_cpr (t : List Nat) : Bool × Nat × List Nat := if (zk_rnn zk_S0 t).1 then (if (zk_rnn zk_S0 t).2.2.2.2.1 || decide (0 < zk_brw (zk_rnn zk_S0 t).2.2.2.1) then (false, 0, []) else (true, 0, (zk_ew 1 (zk_rnn zk_S0 t).2.2.1 (zk_rnn zk_S0 t).2.2.2.1).1 ++ [20059])) else (false, (zk_rnn zk_S0 t).2.1.length, [])
theorem zk_tk_g {S S' : zk_Pt} {c : Nat} (iv : zk_iv S) (hd : S.2.2.2.2.1 ≤ 4) (e : zk_tk S c = some S') : zk_iv S' ∧ S'.2.2.2.2.1 ≤ 4 ∧ S'.1.length + S'.2.1.length ≤ S.1.length + S.2.1.length + 1 := by
  obtain ⟨E, W, wo, gd, dg, ns⟩ := S
  obtain ⟨iv1, iv2⟩ := iv
  dsimp only at iv1 iv2 hd
  have etk : zk_tk (E, W, wo, gd, dg, ns) c = (if zk_dgt c && decide (0 < dg) && decide (dg < 4) then some (E.set ns (E.getD ns 0 * 10 + (c - 48)), W, wo, gd, dg + 1, ns)
    else if wo then (if zk_dgt c then some ((zk_eo (E ++ [c - 48]) W).1, (zk_eo (E ++ [c - 48]) W).2, false, gd, 1, E.length) else zk_to E W gd ns c)
    else zk_tb E W gd ns c) := rfl
  have one : ∀ x : Nat, (E ++ [x]).length = E.length + 1 := fun x => by rw [List.length_append]; rfl
  rw [etk] at e
  cases h1 : (zk_dgt c && decide (0 < dg) && decide (dg < 4))
  · rw [h1, if_neg (by decide)] at e
    cases wo with
    | true =>
      rw [if_pos rfl] at e
      cases h2 : zk_dgt c
      · rw [h2, if_neg (by decide)] at e
        unfold zk_to at e
        split at e
        next k hk =>
          cases e
          obtain ⟨g1, -, g3, g4, -⟩ := zk_eo_g W (E ++ [10000 + k])
          rw [one] at g1
          exact ⟨⟨g4 iv1, fun _ => g3⟩, Nat.zero_le _, by dsimp only; omega⟩
        next =>
          split at e
          · cases e
          · split at e
            next z =>
              cases e
              refine ⟨⟨⟨by omega, fun u => ?_, iv1⟩, fun u => by cases u⟩, Nat.zero_le _, by dsimp only; rw [List.length_cons]; omega⟩
              obtain ⟨n1, n2, n3⟩ := zk_rk_op u
              omega
            next z =>
              split at e
              · cases e
                exact ⟨⟨⟨by omega, fun u => absurd u (by decide), iv1⟩, fun u => by cases u⟩, Nat.zero_le _, by dsimp only; rw [List.length_cons]; omega⟩
              · cases e
      · rw [h2, if_pos rfl] at e
        cases e
        obtain ⟨g1, -, g3, g4, -⟩ := zk_eo_g W (E ++ [c - 48])
        rw [one] at g1
        exact ⟨⟨g4 iv1, fun _ => g3⟩, (show 1 ≤ 4 by decide), by dsimp only; omega⟩
    | false =>
      rw [if_neg (by decide)] at e
      have hn := iv2 rfl
      unfold zk_tb at e
      split at e
      · split at e
        · cases e
        · cases e
          obtain ⟨g1, gb, go, g4⟩ := zk_ew_g (Nat.le_refl 1) W E
          obtain ⟨k1, k2⟩ := g4 iv1 hn
          obtain ⟨j1, -, j3, j4, -⟩ := zk_eo_g (zk_ew 1 E W).2.tail (zk_ew 1 E W).1
          have ht : zk_wk (zk_ew 1 E W).2.tail ∧ (zk_ew 1 E W).2.tail.length ≤ (zk_ew 1 E W).2.length := by
            cases hw : (zk_ew 1 E W).2 with
            | nil => exact ⟨trivial, Nat.le_refl _⟩
            | cons s V => rw [hw] at k1; exact ⟨k1.2.2, by rw [List.length_cons]; exact Nat.le_succ _⟩
          exact ⟨⟨j4 ht.1, fun _ => j3⟩, Nat.zero_le _, by dsimp only; have := ht.2; omega⟩
      · split at e
        · split at e
          · cases e
          · cases e
            obtain ⟨g1, gb, go, g4⟩ := zk_ew_g (Nat.le_refl 1) W E
            obtain ⟨k1, k2⟩ := g4 iv1 hn
            exact ⟨⟨k1, fun u => by cases u⟩, Nat.zero_le _, by dsimp only; rw [List.length_append]; show _ + 1 + _ ≤ _; omega⟩
        · split at e
          · split at e
            · cases e
            · split at e
              · cases e
              · cases e
                obtain ⟨g1, gb, go, g4⟩ := zk_ew_g (Nat.le_refl 1) W E
                obtain ⟨k1, k2⟩ := g4 iv1 hn
                exact ⟨⟨k1, fun u => by cases u⟩, Nat.zero_le _, by dsimp only; rw [List.length_append]; show _ + 1 + _ ≤ _; omega⟩
          · split at e
            · cases e
            next hr0 =>
              split at e
              next hr3 =>
                obtain ⟨g1, gb, go, g4⟩ := zk_ew_g (show 1 ≤ 4 by decide) W E
                obtain ⟨k1, k2⟩ := g4 iv1 hn
                unfold zk_tb3 at e
                split at e
                next hw =>
                  cases e
                  rw [hw] at g1
                  exact ⟨⟨⟨by omega, fun _ => trivial, trivial⟩, fun u => by cases u⟩, Nat.zero_le _, by dsimp only; rw [List.length_cons]; omega⟩
                next s V hw =>
                  rw [hw] at g1 k1 k2
                  split at e
                  · cases e
                  · cases e
                    exact ⟨⟨⟨by omega, fun _ => k2, k1⟩, fun u => by cases u⟩, Nat.zero_le _, by dsimp only; rw [List.length_cons]; omega⟩
              next hr3 =>
                cases e
                obtain ⟨g1, gb, go, g4⟩ := zk_ew_g (show 1 ≤ zk_rk c by omega) W E
                obtain ⟨k1, k2⟩ := g4 iv1 hn
                exact ⟨⟨⟨by omega, fun _ => k2, k1⟩, fun u => by cases u⟩, Nat.zero_le _, by dsimp only; rw [List.length_cons]; omega⟩
  · rw [h1, if_pos rfl] at e
    cases e
    rw [Bool.and_eq_true] at h1
    have := of_decide_eq_true h1.2
    exact ⟨⟨iv1, iv2⟩, by dsimp only; omega, by dsimp only; rw [List.length_set]; omega⟩
section ZKW
variable {KV : zk_H → Prop} {K : Int32 → zk_H → Prop} {c0 c m h h' : zk_H} {T : Nat} {t : List Nat}
theorem l_parse_16 (hT : T ≤ 120) (sg0 : zk_sg (c0.1 25) 0 (t.map nI)) (hc : ∀ x ∈ t, x < 256) (Hok : ∀ E, zk_cpr t = (true, 0, E) → ∀ h', zk_fp c0 h' → h'.1 24 3 = nI E.length → zk_sg (h'.1 26) 0 (E.map nI) → E.length ≤ 121 → K (-1) h') (Hno : ∀ n, zk_cpr t = (false, n, []) → ∀ h', zk_fp c0 h' → ∀ a, a + n = T → K (nI a) h') : ∀ (t1 : List Nat) (a : Nat) (S : zk_Pt) (h : zk_H), a + t1.length = T → zk_sg (c0.1 25) a (t1.map nI) → (∀ x ∈ t1, x < 256) → zk_rnn zk_S0 t = zk_rnn S t1 → zk_pp c0 S h → zk_iv S → S.2.2.2.2.1 ≤ 4 → S.1.length + S.2.1.length ≤ a → (zk_X zk_C (zk_lkl lkX5) zk_mt (zk_cxl [(51, zk_vP pX5_begin), (52, zk_iP pX5_takes), (57, zk_iP pX5_endsExpression)]) (some .int) (zk_at cdX5_parseTape) (zk_qi K)) 16 [some (.ref 24), some (.int (nI T)), some (.int (nI a))] [] h := by
  intro t1
  induction t1 with
  | nil =>
    intro a S h ha sg hc1 er P iv hd hl
    rw [List.length_nil] at ha
    obtain ⟨p4, p5, p6, p7, p8, p9, p10⟩ := P.2.1
    have er' : zk_rnn zk_S0 t = (true, [], S) := er
    have ecp : zk_cpr t = (if S.2.2.1 || decide (0 < zk_brw S.2.1) then (false, 0, []) else (true, 0, (zk_ew 1 S.1 S.2.1).1 ++ [20059])) := by
      unfold zk_cpr
      rw [er']
      exact if_pos rfl
    have hb : zk_brw S.2.1 ≤ S.2.1.length := by
      have : ∀ W : List Nat, zk_brw W ≤ W.length := by
        intro W
        induction W with
        | nil => exact Nat.le_refl _
        | cons s W ih =>
          show (if _ then 1 else 0) + zk_brw W ≤ _
          rw [List.length_cons]
          split <;> omega
      exact this _
    refine zk_bk hX5_parseTape (bX5_parseTape_16 ?_)
    rw [p8, p7]
    refine ⟨fun _ => ⟨fun q => ?_, fun q => ⟨fun q2 => ?_, fun q2 => ?_⟩⟩, fun q => absurd ((nI_leI (by omega) (by omega)).mpr (by omega)) q⟩
    · have hw : S.2.2.1 = true := by cases z : S.2.2.1 with | true => rfl | false => rw [z] at q; exact absurd rfl q
      rw [hw] at ecp
      exact Hno 0 ecp h P.fp T (by omega)
    · have hw : S.2.2.1 = false := by cases z : S.2.2.1 with | false => rfl | true => rw [z] at q; exact absurd q (by decide)
      have hb0 : zk_brw S.2.1 = 0 := Nat.eq_zero_of_le_zero ((nI_leI (b := 0) (by omega) (by decide)).mp q2)
      rw [hw, hb0] at ecp
      have P0 : zk_pa c0 S.1 S.2.1 (zk_ow S.2.1) (zk_brw S.2.1) S.2.2.1 S.2.2.2.1 S.2.2.2.2.1 S.2.2.2.2.2 h := P
      obtain ⟨g1, gb, go, -⟩ := zk_ew_g (Nat.le_refl 1) S.2.1 S.1
      refine ⟨rfl, zk_bk hX5_endsExpression (bX5_endsExpression_0 ?_)⟩
      rw [p7]
      refine ⟨fun _ => jX5_emitWaiting (r := 1) (by decide) S.2.1 S.1 h P0 (by omega) fun h1 P1 => ?_, fun z => absurd q2 z⟩
      show pX5_emit [.ref 24, .int (nI 20059)] h1 _
      refine jX5_emit P1 (by omega) fun h2 P2 => ⟨Or.inl rfl, Or.inr rfl, Or.inr rfl, Hok _ ecp _ ?_ ?_ ?_ ?_⟩
      · obtain ⟨f1, f2, f3⟩ := P2.fp
        refine ⟨fun k c1 c2 c3 => ?_, f2, ?_⟩
        · rw [zk_si_ne c1, zk_si_ne c1]; exact f1 k c1 c2 c3
        · rw [zk_si_at, if_neg (by decide), zk_si_at, if_neg (by decide)]; exact f3
      · rw [zk_si_at, if_neg (by decide), zk_si_at, if_neg (by decide)]; exact P2.2.1.1
      · rw [zk_si_ne (by decide), zk_si_ne (by decide)]; exact P2.2.2.2.1
      · rw [List.length_append]; show _ + 1 ≤ _; omega
    · have hb0 : 0 < zk_brw S.2.1 := Nat.pos_of_ne_zero fun z => q2 (by rw [z]; exact Int32.le_refl _)
      rw [decide_eq_true hb0, Bool.or_true] at ecp
      exact Hno 0 ecp h P.fp T (by omega)
  | cons x r ih =>
    intro a S h ha sg hc1 er P iv hd hl
    rw [List.length_cons] at ha
    have hx := hc1 x List.mem_cons_self
    have er' : zk_rnn S (x :: r) = (match zk_tk S x with
      | none => (false, x :: r, S)
      | some S' => zk_rnn S' r) := rfl
    refine zk_bk hX5_parseTape (bX5_parseTape_16 ?_)
    refine ⟨fun q => absurd q (nI_ge (by omega) (by omega)), fun _ => ⟨vp_in_nI (by omega) (by decide), ?_⟩⟩
    rw [nI_clamp (n := a) (by omega), P.1.1 25 (by decide) (by decide) (by decide), sg.1, nI_1]
    refine jX5_takes hx P hd (by omega) iv (fun S' e h1 P1 => ⟨fun _ => ?_, fun z => absurd z (by decide)⟩) (fun e h1 fp => ⟨fun z => absurd rfl z, fun _ => ?_⟩)
    · have e' : zk_tk S x = some S' := e
      rw [e'] at er'
      obtain ⟨k1, k2, k3⟩ := zk_tk_g iv hd e'
      exact ih (a + 1) S' h1 (by omega) sg.2 (fun y hy => hc1 y (List.mem_cons_of_mem _ hy)) (er.trans er') P1 k1 k2 (by omega)
    · have e' : zk_tk S x = none := e
      rw [e'] at er'
      have ecp : zk_cpr t = (false, (x :: r).length, []) := by
        unfold zk_cpr
        rw [er, er']
        exact if_neg fun z => absurd z Bool.false_ne_true
      exact Hno _ ecp h1 fp a (by rw [List.length_cons]; omega)
theorem zk_sg_cpy {f g : Nat → Int32} {l : List Int32} (h : zk_sg f 0 l) : zk_sg (va_cpy f g 0 0 l.length) 0 l := zk_sg_keep h fun j _ hj => by
  unfold va_cpy
  rw [if_pos ⟨Nat.zero_le _, hj⟩]
  congr 1
  omega
theorem jX11_law (e1 : c.1 24 1 = nI T) (hT : T ≤ 120) (ht : t.length = T) (sg : zk_sg (c.1 25) 0 (t.map nI)) (hc : ∀ x ∈ t, x < 256) (Hok : ∀ E, zk_cpr t = (true, 0, E) → E.length ≤ 121 → ∀ c', (∀ k, k ≠ 24 → k ≠ 26 → k ≠ 27 → k ≠ 28 → k ≠ 29 → c'.1 k = c.1 k) → c'.2 = c.2 → c'.1 24 1 = 0 → c'.1 28 1 = nI E.length → zk_sg (c'.1 29) 0 (E.map nI) → K 1 c') (Hno : ∀ n, zk_cpr t = (false, n, []) → ∀ a c', a + n = T → (∀ k, k ≠ 24 → k ≠ 26 → k ≠ 27 → c'.1 k = c.1 k) → c'.2 = c.2 → c'.1 24 1 = 0 → K (-100 - nI a) c') : pX11_law [.ref 0] c K := by
  refine ⟨rfl, zk_bk hX11_law (bX11_law_0 ?_)⟩
  refine ⟨rfl, zk_bk hX5_parseTape (bX5_parseTape_0 ?_)⟩
  refine ⟨rfl, zk_bk hX5_begin (bX5_begin_0 ?_)⟩
  refine ⟨Or.inr rfl, Or.inl rfl, ?_⟩
  rw [e1]
  have fr : ∀ h', zk_fp (zk_si c 24 1 0) h' → (∀ k, k ≠ 24 → k ≠ 26 → k ≠ 27 → h'.1 k = c.1 k) ∧ h'.2 = c.2 ∧ h'.1 24 1 = 0 := fun h' f => ⟨fun k c1 c2 c3 => by rw [f.1 k c1 c2 c3, zk_si_ne c1], f.2.1, by rw [f.2.2, zk_si_at, if_pos rfl]⟩
  refine l_parse_16 (c0 := zk_si c 24 1 0) hT (by rw [zk_si_ne (by decide)]; exact sg) hc (fun E e h1 fp h3 sg1 hl => ⟨fun _ => ?ga, fun z => absurd (by decide) z⟩) (fun n e h1 fp a ha => ⟨fun z => absurd z (nI_pos (by omega)), fun _ => ?gb⟩) t 0 zk_S0 _ (by omega) (by rw [zk_si_ne (by decide)]; exact sg) hc rfl ?gc ⟨trivial, fun u => by cases u⟩ (by decide) (by decide)
  case ga =>
    obtain ⟨k1, k2, k3⟩ := fr h1 fp
    rw [h3]
    refine ⟨rfl, zk_bk hX3_adopt (bX3_adopt_0 ?_)⟩
    refine ⟨⟨by decide, by decide, nI_pos (by omega), ?_, ?_⟩, ?_⟩
    · rw [nI_clamp (by omega)]; show 0 + _ ≤ _; omega
    · rw [nI_clamp (by omega)]; show 0 + _ ≤ _; omega
    · have hcp : zk_sg (va_cpy (h1.1 26) ((zk_si h1 28 1 (nI E.length)).1 29) 0 0 (E.map nI).length) 0 (E.map nI) := zk_sg_cpy sg1
      rw [List.length_map] at hcp
      refine Hok E e hl _ (fun k c1 c2 c3 c4 c5 => ?_) k2 ?_ ?_ ?_
      · funext j
        simp only [zk_wi, if_neg c5]
        rw [zk_si_ne c4]
        exact congrFun (k1 k c1 c2 c3) j
      · show (zk_wi (zk_si h1 28 1 (nI E.length)) 29 _).1 24 1 = 0
        simp only [zk_wi, if_neg (show ¬ (24 : Nat) = 29 by decide)]
        rw [zk_si_ne (by decide)]
        exact k3
      · show (zk_wi (zk_si h1 28 1 (nI E.length)) 29 _).1 28 1 = _
        simp only [zk_wi, if_neg (show ¬ (28 : Nat) = 29 by decide)]
        rw [zk_si_at, if_pos rfl]
      · have e29 : (zk_wi (zk_si h1 28 1 (nI E.length)) 29 (va_cpy ((zk_si h1 28 1 (nI E.length)).1 26) ((zk_si h1 28 1 (nI E.length)).1 29) (0 : Int32).toNatClampNeg (0 : Int32).toNatClampNeg (nI E.length).toNatClampNeg)).1 29 = va_cpy (h1.1 26) ((zk_si h1 28 1 (nI E.length)).1 29) 0 0 E.length := by
          funext j
          simp only [zk_wi, if_pos rfl]
          rw [nI_clamp (by omega), zk_si_ne (k := 26) (by decide)]
          rfl
        rw [e29]
        exact hcp
  case gb =>
    obtain ⟨k1, k2, k3⟩ := fr h1 fp
    exact Hno n e a h1 ha k1 k2 k3
  case gc =>
    unfold zk_pp zk_S0
    refine ⟨⟨fun k c1 c2 c3 => ?_, rfl, ?_⟩, ⟨?_, ?_, ?_, ?_, ?_, ?_, ?_⟩, fun z => absurd z (by decide), trivial, trivial, fun s hs => by cases hs⟩
    · rw [zk_si_ne c1, zk_si_ne c1, zk_si_ne c1, zk_si_ne c1, zk_si_ne c1, zk_si_ne c1, zk_si_ne c1]
    · simp [zk_si]
    all_goals simp [zk_si]
    all_goals rfl
end ZKW
