/-! CALL: next -/
def zk_nx (g : Nat → Nat) : Nat → Option Nat
  | 0 => none
  | s + 1 => if g s = 0 then zk_nx g s else match zk_nx g s with
    | none => some s
    | some b => if g s < g b then some s else some b
theorem zk_nx_lt {g : Nat → Nat} : ∀ {s b : Nat}, zk_nx g s = some b → b < s ∧ 0 < g b
  | s + 1, b, h => by
    unfold zk_nx at h
    by_cases q : g s = 0
    · rw [if_pos q] at h
      have := zk_nx_lt h
      omega
    · rw [if_neg q] at h
      cases hb : zk_nx g s with
      | none =>
        rw [hb] at h
        cases h
        omega
      | some d =>
        rw [hb] at h
        dsimp only at h
        have := zk_nx_lt hb
        by_cases z : g s < g d
        · rw [if_pos z] at h
          cases h
          omega
        · rw [if_neg z] at h
          cases h
          omega
/-- how many are left -/
def zk_nl2 (g : Nat → Nat) (o : Option Nat) : Int32 := match o with
  | none => -2
  | some b => nI (g b)
theorem zk_nx_0 {g : Nat → Nat} {s : Nat} (q : g s = 0) : zk_nx g (s + 1) = zk_nx g s := if_pos q
theorem zk_nx_n {g : Nat → Nat} {s : Nat} (q : ¬ g s = 0) (h : zk_nx g s = none) : zk_nx g (s + 1) = some s := by
  show (if g s = 0 then _ else _) = _
  rw [if_neg q, h]
theorem zk_nx_u {g : Nat → Nat} {s b : Nat} (q : ¬ g s = 0) (h : zk_nx g s = some b) (z : g s < g b) : zk_nx g (s + 1) = some s := by
  show (if g s = 0 then _ else _) = _
  rw [if_neg q, h]
  exact if_pos z
theorem zk_nx_k {g : Nat → Nat} {s b : Nat} (q : ¬ g s = 0) (h : zk_nx g s = some b) (z : ¬ g s < g b) : zk_nx g (s + 1) = some b := by
  show (if g s = 0 then _ else _) = _
  rw [if_neg q, h]
  exact if_neg z
/-- how many could, were the SECRET another one -/
def zk_lf (m : zk_H) (P i s : Nat) : Nat := zk_cn (zk_cq (zk_si m 10 i (nI s)) i) P
def zk_same10 (i : Nat) (m h : zk_H) : Prop := (∀ k j, ¬ (k = 10 ∧ j = i) → h.1 k j = m.1 k j) ∧ h.2 = m.2
theorem zk_same10.si {i : Nat} {m h : zk_H} {v : Int32} (e : zk_same10 i m h) : zk_si h 10 i v = zk_si m 10 i v := by
  refine Prod.ext (funext fun k => funext fun j => ?_) e.2
  show (if k = 10 then (if j = i then v else h.1 k j) else h.1 k j) = (if k = 10 then (if j = i then v else m.1 k j) else m.1 k j)
  by_cases a : k = 10
  · rw [if_pos a, if_pos a]
    by_cases b : j = i
    · rw [if_pos b, if_pos b]
    · rw [if_neg b, if_neg b]
      exact e.1 k j fun z => b z.2
  · rw [if_neg a, if_neg a]
    exact e.1 k j fun z => a z.1
theorem zk_same10.self {i : Nat} {m : zk_H} : zk_si m 10 i (m.1 10 i) = m := by
  refine Prod.ext (funext fun k => funext fun j => ?_) rfl
  show (if k = 10 then (if j = i then m.1 10 i else m.1 k j) else m.1 k j) = m.1 k j
  by_cases a : k = 10
  · rw [if_pos a]
    by_cases b : j = i
    · rw [if_pos b, a, b]
    · rw [if_neg b]
  · rw [if_neg a]
theorem zk_same10.put {i : Nat} {m : zk_H} {v : Int32} : zk_same10 i m (zk_si m 10 i v) := ⟨fun k j h => by
  show (if k = 10 then (if j = i then v else m.1 k j) else m.1 k j) = m.1 k j
  by_cases a : k = 10
  · rw [if_pos a, if_neg fun b => h ⟨a, b⟩]
  · rw [if_neg a], rfl⟩
section ZKW
variable {K : Int32 → zk_H → Prop} {lw : Option zk_lns} {h c m : zk_H} {x y A M : Int32} {P N i o : Nat}
theorem zk_off.left {s : Nat} (r : zk_off P N c m) (hi : i < N) (ho : o < P) : zk_cp c i (nI s) o = zk_cq (zk_si m 10 i (nI s)) i o := by
  obtain ⟨-, -, f5, f6, -⟩ := r
  obtain ⟨a1, a2, a3, a4, a5, a6⟩ := f5 o ho
  obtain ⟨b1, b2, b3, b4, b5, -⟩ := f6 i hi
  unfold zk_cp zk_cq
  rw [zk_si_at, if_pos rfl, zk_si_ne (k := 7) (by decide), zk_si_ne (k := 6) (by decide), zk_si_ne (k := 11) (by decide), zk_si_ne (k := 1) (by decide), zk_si_ne (k := 8) (by decide), zk_si_ne (k := 2) (by decide), a1, a2, a6, b1, b4, b5]
theorem jX6_tellingSecret (r : zk_off P N c m) (hi : i < N) (H : K (if y = 0 then zk_bo (zk_nx (zk_lf m P i) 8) else zk_nl2 (zk_lf m P i) (zk_nx (zk_lf m P i) 8)) c) : pX6_tellingSecret [.ref 36, .int (nI i), .int y] c K := by
  obtain ⟨⟨hP, hN⟩, ⟨f1, f2, f3, f4⟩, f5, f6, f7, f8, f9, f10⟩ := id r
  obtain ⟨-, j, hj, ej⟩ := f9 i hi
  have key : ∀ (n s : Nat), s + n = 8 → (zk_X zk_C (zk_lkl lkX6) zk_mt (zk_cxl [(42, zk_iP pX4_whoCouldWithSecret), (262, zk_iP (pJ6_bitCount_0f7a4 zk_C))]) (some .int) (zk_at cdX6_tellingSecret) (zk_qi K)) 10 [some (.ref 36), some (.int (nI i)), some (.int y), some (.int (zk_bo (zk_nx (zk_lf m P i) s))), some (.int (zk_nl2 (zk_lf m P i) (zk_nx (zk_lf m P i) s))), some (.int (nI s)), none] [] c := by
    intro n
    induction n with
    | zero =>
      intro s hs
      have hs8 : s = 8 := by omega
      subst hs8
      refine zk_bk hX6_tellingSecret (bX6_tellingSecret_10 ?_)
      refine ⟨fun _ => ⟨fun q => ?_, fun q => ?_⟩, fun q => absurd (by decide) q⟩
      · rw [if_neg q] at H; exact H
      · rw [if_pos q] at H; exact H
    | succ n ih =>
      intro s hs
      have I := ih (s + 1) (by omega)
      refine zk_bk hX6_tellingSecret (bX6_tellingSecret_10 ?_)
      rw [nI_1]
      refine ⟨fun q => absurd q (nI_ge (b := 8) (by omega) (by decide)), fun _ => jX4_whoCouldWithSecret hP f1 (by omega) (show j < 8 by omega) ((f6 i hi).2.2.2.2.1.trans ej) (jJ6_bitCount ?_)⟩
      rw [zk_mask_c fun o ho => r.left (s := s) hi ho, zk_bc_mask hP]
      have gb : ∀ s, zk_lf m P i s ≤ 8 := fun s => Nat.le_trans zk_cn_le hP
      have gs := gb s
      refine ⟨fun q => ?_, fun q => ?_⟩
      · have e0 : zk_lf m P i s = 0 := Nat.eq_zero_of_le_zero ((nI_leI (a := zk_lf m P i s) (b := 0) (by omega) (by decide)).mp q)
        rw [zk_nx_0 e0] at I
        refine zk_fg hX6_tellingSecret ?_ I
        exact ⟨rfl, rfl, rfl, rfl, rfl, rfl, rfl, trivial⟩
      · have e0 : ¬ zk_lf m P i s = 0 := fun z => q (by rw [show zk_cn (zk_cq (zk_si m 10 i (nI s)) i) P = 0 from z]; exact Int32.le_refl _)
        cases hb : zk_nx (zk_lf m P i) s with
        | none =>
          rw [zk_nx_n e0 hb] at I
          refine ⟨fun _ => zk_fg hX6_tellingSecret ?_ I, fun z => absurd rfl z⟩
          exact ⟨rfl, rfl, rfl, rfl, rfl, rfl, rfl, trivial⟩
        | some b =>
          have bb := gb b
          refine ⟨fun z => absurd z (zk_bo_n2 (show zk_lf m P i b < 100 by omega)), fun _ => ⟨fun z => ?_, fun z => ?_⟩⟩
          · have := (nI_leI (a := zk_lf m P i b) (b := zk_lf m P i s) (by omega) (by omega)).mp z
            rw [zk_nx_k e0 hb (by omega)] at I
            refine zk_fg hX6_tellingSecret ?_ I
            exact ⟨rfl, rfl, rfl, rfl, rfl, rfl, rfl, trivial⟩
          · have : zk_lf m P i s < zk_lf m P i b := by
              rcases Nat.lt_or_ge (zk_lf m P i s) (zk_lf m P i b) with u | u
              · exact u
              · exact absurd ((nI_leI (a := zk_lf m P i b) (b := zk_lf m P i s) (by omega) (by omega)).mpr u) z
            rw [zk_nx_u e0 hb this] at I
            refine zk_fg hX6_tellingSecret ?_ I
            exact ⟨rfl, rfl, rfl, rfl, rfl, rfl, rfl, trivial⟩
  refine ⟨rfl, zk_bk hX6_tellingSecret (bX6_tellingSecret_0 ?_)⟩
  exact key 8 0 (by omega)
theorem l_next_37 (r : zk_off P N c m) (hi : i < N) (H : K (if y = 0 then zk_bo (zk_nx (zk_lf m P i) 8) else zk_nl2 (zk_lf m P i) (zk_nx (zk_lf m P i) 8)) m) : ∀ (n s : Nat) (h : zk_H), s + n = 8 → zk_same10 i m h → (zk_X zk_D (zk_lkl lkX12) zk_mt (zk_cxl [(153, zk_iP pX12_within), (155, zk_iP pX12_isCard), (199, zk_iP pX12_couldAll), (262, zk_iP (pJ6_bitCount_0f7a4 zk_D))]) (some .int) (zk_at cdX12_next) (zk_qi K)) 37 [some (.ref 0), some (.int (nI i)), some (.int y), some (.int (m.1 10 i)), some (.int (zk_bo (zk_nx (zk_lf m P i) s))), some (.int (zk_nl2 (zk_lf m P i) (zk_nx (zk_lf m P i) s))), some (.int (nI s)), none] [] h := by
  obtain ⟨⟨hP, hN⟩, ⟨f1, f2, f3, f4⟩, -⟩ := id r
  have vi : vp_in (nI i) 7 := vp_in_nI (by omega) (by decide)
  intro n
  induction n with
  | zero =>
    intro s h hs he
    have hs8 : s = 8 := by omega
    subst hs8
    refine zk_bk hX12_next (bX12_next_37 ?_)
    rw [nI_clamp (n := i) (by omega), he.si (v := m.1 10 i), zk_same10.self]
    refine ⟨fun _ => ⟨vi, fun q => ?_, fun q => ?_⟩, fun q => absurd (by decide) q⟩
    · rw [if_neg q] at H; exact H
    · rw [if_pos q] at H; exact H
  | succ n ih =>
    intro s h hs he
    have I := ih (s + 1) (zk_si m 10 i (nI s)) (by omega) zk_same10.put
    refine zk_bk hX12_next (bX12_next_37 ?_)
    rw [nI_1, nI_clamp (n := i) (by omega), he.si (v := nI s)]
    refine ⟨fun q => absurd q (nI_ge (b := 8) (by omega) (by decide)), fun _ => ⟨vi, jX12_couldAll hP (by omega) (by rw [zk_si_ne (by decide)]; exact f3) (jJ6_bitCount ?_)⟩⟩
    rw [zk_bc_mask hP]
    have gb : ∀ s, zk_lf m P i s ≤ 8 := fun s => Nat.le_trans zk_cn_le hP
    have gs := gb s
    refine ⟨fun q => ?_, fun q => ?_⟩
    · have e0 : zk_lf m P i s = 0 := (nI_eq (a := zk_lf m P i s) (b := 0) (by omega) (by decide)).mp q
      rw [zk_nx_0 e0] at I
      refine zk_fg hX12_next ?_ I
      exact ⟨rfl, rfl, rfl, rfl, rfl, rfl, rfl, rfl, trivial⟩
    · have e0 : ¬ zk_lf m P i s = 0 := fun z => q (by rw [show zk_cn (zk_cq (zk_si m 10 i (nI s)) i) P = 0 from z]; rfl)
      cases hb : zk_nx (zk_lf m P i) s with
      | none =>
        rw [zk_nx_n e0 hb] at I
        refine ⟨fun _ => zk_fg hX12_next ?_ I, fun z => absurd rfl z⟩
        exact ⟨rfl, rfl, rfl, rfl, rfl, rfl, rfl, rfl, trivial⟩
      | some b =>
        have bb := gb b
        have b1 := (zk_nx_lt hb).1
        refine ⟨fun z => absurd z (zk_bo_n2 (show b < 100 by omega)), fun _ => ⟨fun z => ?_, fun z => ?_⟩⟩
        · have := (nI_ltI (a := zk_lf m P i s) (b := zk_lf m P i b) (by omega) (by omega)).mp z
          rw [zk_nx_u e0 hb this] at I
          refine zk_fg hX12_next ?_ I
          exact ⟨rfl, rfl, rfl, rfl, rfl, rfl, rfl, rfl, trivial⟩
        · have : ¬ zk_lf m P i s < zk_lf m P i b := fun u => z ((nI_ltI (a := zk_lf m P i s) (b := zk_lf m P i b) (by omega) (by omega)).mpr u)
          rw [zk_nx_k e0 hb this] at I
          refine zk_fg hX12_next ?_ I
          exact ⟨rfl, rfl, rfl, rfl, rfl, rfl, rfl, rfl, trivial⟩
end ZKW
section ZK3
variable {lp : zk_lp} {c m : zk_H} {x y z : Int32}
theorem e_next (R : zk_RR lp c m) : pX11_next [.ref 0, .int x, .int y] c (fun v c' => pX12_next [.ref 0, .int x, .int y] m (fun v' m' => v = v' ∧ zk_RR lp c' m')) := by
  obtain ⟨P, N, D, U, T, B, R8⟩ := id R
  obtain ⟨r1, -⟩ := id R8
  obtain ⟨⟨hP, hN⟩, ⟨f1, f2, f3, f4⟩, -⟩ := id r1
  refine ⟨rfl, zk_bk hX11_next (bX11_next_0 ?_)⟩
  refine jX4_isCard ?_
  rw [f2]
  refine ⟨fun q => ?_, fun q => jX11_isZeroOrOne ⟨fun q1 => ?_, fun q1 => ?_⟩⟩
  · show pX12_next _ _ _
    refine ⟨rfl, zk_bk hX12_next (bX12_next_0 ?_)⟩
    exact jX12_isCard f4 (by omega) ⟨fun _ => ⟨rfl, R⟩, fun q2 => absurd (zk_b_n q2) (zk_b_0.mp q)⟩
  · obtain ⟨i, hi, ei⟩ := zk_ix (by omega) (zk_b_n q).1 (zk_b_n q).2
    rw [ei]
    refine jX6_tellingSecret r1 hi ?_
    show pX12_next _ _ _
    refine ⟨rfl, zk_bk hX12_next (bX12_next_0 ?_)⟩
    refine jX12_isCard f4 (by omega) ⟨fun q2 => absurd (zk_b_n q) (by rw [ei]; exact zk_b_0.mp q2), fun _ => jX12_within ⟨fun _ => ⟨vp_in_nI (by omega) (by decide), ?_⟩, fun q2 => absurd (zk_b_n q1) (fun z => zk_b_0.mp q2 ?_)⟩⟩
    · rw [nI_clamp (n := i) (by omega)]
      exact l_next_37 r1 hi ⟨rfl, R⟩ 8 0 m (by omega) ⟨fun _ _ _ => rfl, rfl⟩
    · rcases z with rfl | rfl <;> decide
  · show pX12_next _ _ _
    refine ⟨rfl, zk_bk hX12_next (bX12_next_0 ?_)⟩
    refine jX12_isCard f4 (by omega) ⟨fun _ => ⟨rfl, R⟩, fun _ => jX12_within ⟨fun q2 => absurd (zk_b_n q2) fun z => zk_b_0.mp q1 ?_, fun _ => ⟨rfl, R⟩⟩⟩
    ((try simp only [zk_b_0, zk_b_1] at *); simp only [Int32.lt_iff_toInt_lt, Int32.le_iff_toInt_le, ← Int32.toInt_inj, Int32.reduceToInt] at *; omega)
end ZK3
