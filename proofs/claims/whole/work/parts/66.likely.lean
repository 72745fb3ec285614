/-! CALLS: counts, likely, likeliest -/
theorem zk_clp_n (v : Int32) : ∃ n, n ≤ 99 ∧ zk_clp v = nI n := by
  unfold zk_clp
  by_cases h : v < 99
  · rw [if_pos h]
    by_cases g : 0 < v
    · rw [if_pos g]
      obtain ⟨j, hj, e⟩ := zk_ix (n := 99) (x := v) (by decide) (Int32.le_of_lt g) h
      exact ⟨j, by omega, e⟩
    · rw [if_neg g]
      exact ⟨0, by decide, rfl⟩
  · rw [if_neg h, if_pos (by decide)]
    exact ⟨99, by decide, rfl⟩
def zk_wn (lw : Option zk_lns) (m : zk_H) (P i o : Nat) : Nat := (zk_wt lw m P i o).toNatClampNeg
theorem zk_wn_b {lw : Option zk_lns} {m : zk_H} {P i o : Nat} : zk_wt lw m P i o = nI (zk_wn lw m P i o) ∧ zk_wn lw m P i o ≤ 99 := by
  have : ∃ n, n ≤ 99 ∧ zk_wt lw m P i o = nI n := by
    unfold zk_wt
    split
    · exact zk_clp_n _
    · exact ⟨0, by decide, rfl⟩
  obtain ⟨n, hn, e⟩ := this
  unfold zk_wn
  rw [e, nI_clamp (by omega)]
  exact ⟨rfl, hn⟩
def zk_sn (f : Nat → Nat) : Nat → Nat
  | 0 => 0
  | n + 1 => zk_sn f n + f n
theorem zk_su_n {f : Nat → Int32} {g : Nat → Nat} (h : ∀ o, f o = nI (g o)) : ∀ n, zk_su f n = nI (zk_sn g n)
  | 0 => rfl
  | n + 1 => by
    unfold zk_su zk_sn
    rw [zk_su_n h n, h n, nI_add]
theorem zk_sn_le {g : Nat → Nat} (h : ∀ o, g o ≤ 99) : ∀ n, zk_sn g n ≤ 99 * n
  | 0 => Nat.le_refl _
  | n + 1 => by
    unfold zk_sn
    have := zk_sn_le h n
    have := h n
    omega
theorem zk_sn_ge {g : Nat → Nat} : ∀ {n o : Nat}, o < n → g o ≤ zk_sn g n
  | n + 1, o, h => by
    unfold zk_sn
    rcases Nat.lt_or_ge o n with q | q
    · have := zk_sn_ge (g := g) q
      omega
    · have : o = n := by omega
      subst this
      omega
/-- what a card counts for all -/
def zk_al (lw : Option zk_lns) (m : zk_H) (P i : Nat) : Nat := zk_sn (zk_wn lw m P i) P
theorem zk_al_e {lw : Option zk_lns} {m : zk_H} {P i : Nat} : zk_su (zk_wt lw m P i) P = nI (zk_al lw m P i) := zk_su_n (fun _ => zk_wn_b.1) P
theorem zk_al_b {lw : Option zk_lns} {m : zk_H} {P i : Nat} (hP : P ≤ 8) : zk_al lw m P i ≤ 792 := by
  have := zk_sn_le (g := zk_wn lw m P i) (fun _ => zk_wn_b.2) P
  unfold zk_al
  omega
theorem zk_gst (x y : Nat) : Nat.gcd x y = Nat.gcd y (x % y) := by
  rw [Nat.gcd_comm x y, Nat.gcd_rec y x, Nat.gcd_comm]
/-- a fraction's part in lowest terms -/
def zk_lt (a b : Nat) (p : Int32) : Int32 := if b = 0 then p else if p = 0 then nI (a / Nat.gcd a b) else nI (b / Nat.gcd a b)
section ZKW
variable {K : Int32 → zk_H → Prop} {KL : Int64 → zk_H → Prop} {h : zk_H} {x y z : Int32}
theorem l_gcd_8 : ∀ (n a b i : Nat), b < a → a * b < 2 ^ n → i + n ≤ 64 → a < 2 ^ 20 → K (nI (Nat.gcd a b)) h → (zk_X zk_C (zk_lkl lkX10) zk_mt (zk_cxl []) (some .int) (zk_at cdX10_greatestDivisor) (zk_qi K)) 8 [some (.ref 31), some (.int x), some (.int y), some (.int (nI a)), some (.int (nI b)), some (.int (nI i)), none] [] h := by
  intro n
  induction n with
  | zero =>
    intro a b i hba hn hi ha H
    have hb : b = 0 := by
      cases b with
      | zero => rfl
      | succ b =>
        have := Nat.mul_pos (show 0 < a by omega) (show 0 < b + 1 by omega)
        rw [Nat.pow_zero] at hn
        omega
    subst hb
    rw [Nat.gcd_zero_right] at H
    refine zk_bk hX10_greatestDivisor (bX10_greatestDivisor_8 ?_)
    exact ⟨fun _ => H, fun _ => ⟨fun _ => H, fun q => absurd rfl q⟩⟩
  | succ n ih =>
    intro a b i hba hn hi ha H
    refine zk_bk hX10_greatestDivisor (bX10_greatestDivisor_8 ?_)
    rw [nI_1]
    refine ⟨fun q => absurd q (nI_ge (b := 64) (by omega) (by decide)), fun _ => ⟨fun q => ?_, fun q => ⟨q, ?_⟩⟩⟩
    · have hb : b = 0 := (nI_eq (b := 0) (by omega) (by decide)).mp q
      subst hb
      rw [Nat.gcd_zero_right] at H
      exact H
    · have hb : 0 < b := Nat.pos_of_ne_zero fun z => q (by rw [z]; rfl)
      rw [pk_rem (by omega) hb (by omega)]
      have h1 := Nat.mod_lt a hb
      have h2 : 2 * (a % b) ≤ a := by
        have h3 := Nat.div_add_mod a b
        have h4 : 1 ≤ a / b := (Nat.le_div_iff_mul_le hb).mpr (by omega)
        have h5 := Nat.mul_le_mul_left b h4
        omega
      have h6 : 2 * (b * (a % b)) < 2 * 2 ^ n := by
        have h7 := Nat.mul_le_mul_left b h2
        have h8 : (2 : Nat) ^ (n + 1) = 2 * 2 ^ n := by rw [Nat.pow_succ, Nat.mul_comm]
        rw [h8, Nat.mul_comm a b] at hn
        rw [show 2 * (b * (a % b)) = b * (2 * (a % b)) from by rw [Nat.mul_left_comm]]
        omega
      refine zk_fg hX10_greatestDivisor ?_ (ih b (a % b) (i + 1) h1 (by omega) (by omega) (by omega) (by rw [zk_gst] at H; exact H))
      exact ⟨rfl, rfl, rfl, rfl, rfl, rfl, rfl, trivial⟩
theorem jX10_greatestDivisor {a b : Nat} (ha : a ≤ 99) (hb : b ≤ 792) (H : K (nI (Nat.gcd a b)) h) : pX10_greatestDivisor [.ref 31, .int (nI a), .int (nI b)] h K := by
  refine ⟨rfl, zk_bk hX10_greatestDivisor (bX10_greatestDivisor_0 ?_)⟩
  rcases Nat.lt_or_ge b a with q | q
  · have := Nat.mul_le_mul ha hb
    exact l_gcd_8 17 a b 0 q (by omega) (by decide) (by omega) H
  · refine zk_bk hX10_greatestDivisor (bX10_greatestDivisor_8 ?_)
    refine ⟨fun q => absurd q (by decide), fun _ => ⟨fun q2 => ?_, fun q2 => ⟨q2, ?_⟩⟩⟩
    · have hb0 : b = 0 := (nI_eq (b := 0) (by omega) (by decide)).mp q2
      subst hb0
      rw [Nat.gcd_zero_right] at H
      exact H
    · have hb0 : 0 < b := Nat.pos_of_ne_zero fun z => q2 (by rw [z]; rfl)
      rw [pk_rem (by omega) hb0 (by omega)]
      have h1 := Nat.mod_lt a hb0
      have h2 := Nat.mod_le a b
      have := Nat.mul_le_mul hb (show a % b ≤ 99 by omega)
      refine zk_fg hX10_greatestDivisor ?_ (l_gcd_8 (x := nI a) (y := nI b) 17 b (a % b) 1 h1 (by omega) (by decide) (by omega) (by rw [zk_gst] at H; exact H))
      exact ⟨rfl, rfl, rfl, rfl, rfl, rfl, rfl, trivial⟩
theorem jX10_lowestTerms {a b : Nat} (ha : a ≤ 99) (hb : b ≤ 792) (H : K (zk_lt a b x) h) : pX10_lowestTerms [.ref 31, .int (nI a), .int (nI b), .int x] h K := by
  refine ⟨rfl, zk_bk hX10_lowestTerms (bX10_lowestTerms_0 ?_)⟩
  refine jX10_greatestDivisor ha hb ⟨fun q => ?_, fun q => ?_⟩
  · have hb0 : b = 0 := (nI_eq (b := 0) (by omega) (by decide)).mp q
    unfold zk_lt at H
    rw [if_pos hb0] at H
    exact H
  · have hb0 : 0 < b := Nat.pos_of_ne_zero fun z => q (by rw [z]; rfl)
    have hg : 0 < Nat.gcd a b := Nat.gcd_pos_of_pos_right a hb0
    have hgb := Nat.gcd_le_right (m := a) hb0
    unfold zk_lt at H
    rw [if_neg (by omega)] at H
    rw [pk_div (by omega) hg (by omega), pk_div (by omega) hg (by omega)]
    have ng : ¬ nI (Nat.gcd a b) = 0 := nI_ne0 hg (by omega)
    exact ⟨fun _ => ⟨fun q2 => ⟨ng, by rw [if_neg q2] at H; exact H⟩, fun q2 => ⟨ng, by rw [if_pos q2] at H; exact H⟩⟩, fun q2 => absurd q2 ng⟩
theorem l_part_12 {a b : Nat} (ha : a ≤ 99) (hb : b ≤ 792) (hb0 : 0 < b) (H : KL (zk_lt a b z).toInt64 h) : ∀ (n v u : Nat), v ≤ n → u ≤ 792 → v ≤ 792 → Nat.gcd u v = Nat.gcd a b → (zk_X zk_D (zk_lkl lkX12) zk_mt (zk_cxl []) (some .long) (zk_at cdX12_part) (zk_ql KL)) 12 [some (.int (nI a)), some (.int (nI b)), some (.int z), some (.int (nI u)), some (.int (nI v)), none] [] h := by
  intro n
  induction n with
  | zero =>
    intro v u hv hu hv2 e
    have hv0 : v = 0 := by omega
    subst hv0
    rw [Nat.gcd_zero_right] at e
    have hg : 0 < Nat.gcd a b := Nat.gcd_pos_of_pos_right a hb0
    have ng : ¬ nI u = 0 := nI_ne0 (by omega) (by omega)
    unfold zk_lt at H
    rw [if_neg (by omega), ← e] at H
    refine zk_bk hX12_part (bX12_part_12 ?_)
    rw [pk_div (by omega) (by omega) (by omega), pk_div (by omega) (by omega) (by omega)]
    exact ⟨fun _ => ⟨fun q2 => ⟨ng, by rw [if_neg q2] at H; exact H⟩, fun q2 => ⟨ng, by rw [if_pos q2] at H; exact H⟩⟩, fun q => absurd rfl q⟩
  | succ n ih =>
    intro v u hv hu hv2 e
    by_cases hv0 : v = 0
    · subst hv0
      exact ih 0 u (Nat.zero_le _) hu hv2 e
    · have hp : 0 < v := Nat.pos_of_ne_zero hv0
      have nv : ¬ nI v = 0 := nI_ne0 hp (by omega)
      have h1 := Nat.mod_lt u hp
      refine zk_bk hX12_part (bX12_part_12 ?_)
      rw [pk_rem (by omega) hp (by omega)]
      refine ⟨fun q => absurd q nv, fun _ => ⟨nv, zk_fg hX12_part ?_ (ih (u % v) v (by omega) (by omega) (by omega) ((zk_gst u v).symm.trans e))⟩⟩
      exact ⟨rfl, rfl, rfl, rfl, rfl, rfl, trivial⟩
theorem jX12_part {a b : Nat} (ha : a ≤ 99) (hb : b ≤ 792) (H : KL (zk_lt a b z).toInt64 h) : pX12_part [.int (nI a), .int (nI b), .int z] h KL := by
  refine ⟨rfl, zk_bk hX12_part (bX12_part_0 ?_)⟩
  refine ⟨fun q => ?_, fun q => ?_⟩
  · have hb0 : 0 < b := Nat.pos_of_ne_zero fun z => q (by rw [z]; rfl)
    exact l_part_12 ha hb hb0 H b b a (Nat.le_refl _) (by omega) hb rfl
  · have hb0 : b = 0 := (nI_eq (b := 0) (by omega) (by decide)).mp q
    unfold zk_lt at H
    rw [if_pos hb0] at H
    exact H
end ZKW
section ZK3
variable {c m : zk_H} {x y z : Int32}
theorem e_counts (R : zk_RR zk_lpe c m) : pX11_counts [.ref 0, .int x] c (fun v c' => pX12_counts [.ref 0, .int x] m (fun v' m' => v = v' ∧ zk_RR zk_lpe c' m')) := by
  obtain ⟨P, N, D, U, T, B, R8⟩ := id R
  obtain ⟨r1, -, -, -, -, -, -, lw, LL⟩ := id R8
  obtain ⟨⟨hP, hN⟩, ⟨f1, f2, f3, f4⟩, -⟩ := id r1
  refine ⟨rfl, zk_bk hX11_counts (bX11_counts_0 ?_)⟩
  refine jX4_isCardAndPerson ?_
  rw [f1, f2]
  refine ⟨fun q => ?_, fun q => ?_⟩
  · obtain ⟨a1, ⟨a2, a3⟩, a4, a5⟩ := zk_b_n q
    obtain ⟨i, hi, ei⟩ := zk_ix (by omega) a2 a3
    obtain ⟨o, ho, eo⟩ := zk_ix (by omega) a4 a5
    refine ⟨by decide, ?_⟩
    rw [eo, ei]
    refine jX10_weigh (r1.wo LL hi) fun c' hc hw => ⟨by decide, vp_in_nI (by omega) (by decide), ?_⟩
    rw [nI_clamp (n := o) (by omega), hw o ho]
    show pX12_counts _ _ _
    refine ⟨rfl, zk_bk hX12_counts (bX12_counts_0 ?_)⟩
    refine jX12_isCardOf f3 hP f4 (by omega) ⟨fun q2 => absurd (zk_b_n q) (zk_b_0.mp q2), fun _ => ⟨by decide, by decide, ?_⟩⟩
    rw [eo, ei]
    exact jX12_counted (r1.wo LL hi) zk_ex.rf ho fun m' hm => ⟨rfl, P, N, D, U, T, B, zk_R_ex R8 hc hm (by decide) (by decide)⟩
  · show pX12_counts _ _ _
    refine ⟨rfl, zk_bk hX12_counts (bX12_counts_0 ?_)⟩
    exact jX12_isCardOf f3 hP f4 (by omega) ⟨fun _ => ⟨rfl, R⟩, fun q2 => absurd (zk_b_n q2) (zk_b_0.mp q)⟩
theorem e_likely (R : zk_RR zk_lpe c m) : pX11_likely [.ref 0, .int x, .int y] c (fun v c' => pX12_likely [.ref 0, .int x, .int y] m (fun v' m' => v = v' ∧ zk_RR zk_lpe c' m')) := by
  obtain ⟨P, N, D, U, T, B, R8⟩ := id R
  obtain ⟨r1, -, -, -, -, -, -, lw, LL⟩ := id R8
  obtain ⟨⟨hP, hN⟩, ⟨f1, f2, f3, f4⟩, -⟩ := id r1
  refine ⟨rfl, zk_bk hX11_likely (bX11_likely_0 ?_)⟩
  refine jX4_isCardAndPerson ?_
  rw [f1, f2]
  refine ⟨fun q => ?_, fun q => jX11_isZeroOrOne ⟨fun q1 => ?_, fun q1 => ?_⟩⟩
  · show pX12_likely _ _ _
    refine ⟨rfl, zk_bk hX12_likely (bX12_likely_0 ?_)⟩
    exact jX12_isCardOf f3 hP f4 (by omega) ⟨fun _ => ⟨rfl, R⟩, fun q2 => absurd (zk_b_n q2) (zk_b_0.mp q)⟩
  · obtain ⟨a1, ⟨a2, a3⟩, a4, a5⟩ := zk_b_n q
    obtain ⟨i, hi, ei⟩ := zk_ix (by omega) a2 a3
    obtain ⟨o, ho, eo⟩ := zk_ix (by omega) a4 a5
    refine ⟨by decide, ?_⟩
    rw [eo, ei]
    have W := r1.wo LL hi
    refine jX10_weigh W fun c' hc hw => ⟨by decide, vp_in_nI (by omega) (by decide), ?_⟩
    rw [nI_clamp (n := o) (by omega), hw o ho, zk_al_e, zk_wn_b.1]
    refine jX10_lowestTerms zk_wn_b.2 (zk_al_b hP) ?_
    show pX12_likely _ _ _
    refine ⟨rfl, zk_bk hX12_likely (bX12_likely_0 ?_)⟩
    refine jX12_isCardOf f3 hP f4 (by omega) ⟨fun q2 => absurd (zk_b_n q) (zk_b_0.mp q2), fun _ => jX12_within ⟨fun q2 => absurd (zk_b_n q1) (fun z => zk_b_0.mp q2 ?_), fun _ => ⟨by decide, by decide, ?_⟩⟩⟩
    · rcases z with rfl | rfl <;> decide
    rw [eo, ei]
    refine jX12_counted W zk_ex.rf ho fun m1 hm1 => ⟨by decide, jX12_countedAll W hm1 fun m2 hm2 => ?_⟩
    rw [zk_al_e, zk_wn_b.1]
    exact jX12_part zk_wn_b.2 (zk_al_b hP) ⟨rfl, P, N, D, U, T, B, zk_R_ex R8 hc hm2 (by decide) (by decide)⟩
  · show pX12_likely _ _ _
    refine ⟨rfl, zk_bk hX12_likely (bX12_likely_0 ?_)⟩
    refine jX12_isCardOf f3 hP f4 (by omega) ⟨fun _ => ⟨rfl, R⟩, fun _ => jX12_within ⟨fun _ => ⟨rfl, R⟩, fun q2 => absurd (zk_b_n q2) fun z => zk_b_0.mp q1 ?_⟩⟩
    ((try simp only [zk_b_0, zk_b_1] at *); simp only [Int32.lt_iff_toInt_lt, Int32.le_iff_toInt_le, ← Int32.toInt_inj, Int32.reduceToInt] at *; omega)
end ZK3
