/-! CALL: unlike -/
theorem nI_xor (a b : Nat) : nI a ^^^ nI b = nI (a ^^^ b) := by
  show Int32.ofBitVec (BitVec.ofNat 32 a) ^^^ Int32.ofBitVec (BitVec.ofNat 32 b) = Int32.ofBitVec (BitVec.ofNat 32 (a ^^^ b))
  rw [BitVec.ofNat_xor]
  rfl
theorem zk_sn_c {f g : Nat → Nat} : ∀ {n : Nat}, (∀ k, k < n → f k = g k) → zk_sn f n = zk_sn g n
  | 0, _ => rfl
  | n + 1, h => by
    unfold zk_sn
    rw [zk_sn_c fun k hk => h k (by omega), h n (by omega)]
theorem zk_sn_add {f : Nat → Nat} {a : Nat} : ∀ b, zk_sn f (a + b) = zk_sn f a + zk_sn (fun k => f (a + k)) b
  | 0 => rfl
  | b + 1 => by
    show zk_sn f (a + b) + f (a + b) = zk_sn f a + (zk_sn (fun k => f (a + k)) b + f (a + b))
    rw [zk_sn_add b, Nat.add_assoc]
theorem zk_sn_0 {n : Nat} : zk_sn (fun _ => 0) n = 0 := by
  induction n with
  | zero => rfl
  | succ n ih => show zk_sn _ n + 0 = 0; rw [ih]
theorem zk_sn_pl {f g : Nat → Nat} : ∀ {n : Nat}, zk_sn (fun k => f k + g k) n = zk_sn f n + zk_sn g n
  | 0 => rfl
  | n + 1 => by
    show zk_sn (fun k => f k + g k) n + (f n + g n) = (zk_sn f n + f n) + (zk_sn g n + g n)
    rw [zk_sn_pl]
    omega
theorem zk_sn_swap {f : Nat → Nat → Nat} {n : Nat} : ∀ {m : Nat}, zk_sn (fun a => zk_sn (fun b => f a b) n) m = zk_sn (fun b => zk_sn (fun a => f a b) m) n
  | 0 => by
    show 0 = zk_sn (fun _ => 0) n
    rw [zk_sn_0]
  | m + 1 => by
    show zk_sn (fun a => zk_sn (fun b => f a b) n) m + zk_sn (fun b => f m b) n = zk_sn (fun b => zk_sn (fun a => f a b) m + f m b) n
    rw [zk_sn_swap, zk_sn_pl]
theorem zk_sn_ml {f : Nat → Nat} {c : Nat} : ∀ {n : Nat}, zk_sn (fun k => f k * c) n = zk_sn f n * c
  | 0 => by show 0 = 0 * c; rw [Nat.zero_mul]
  | n + 1 => by
    show zk_sn (fun k => f k * c) n + f n * c = (zk_sn f n + f n) * c
    rw [zk_sn_ml, Nat.add_mul]
theorem zk_sn_mr {f : Nat → Nat} {c : Nat} : ∀ {n : Nat}, zk_sn (fun k => c * f k) n = c * zk_sn f n
  | 0 => rfl
  | n + 1 => by
    show zk_sn (fun k => c * f k) n + c * f n = c * (zk_sn f n + f n)
    rw [zk_sn_mr, Nat.mul_add]
theorem zk_xk : ∀ P, P < 8 → ∀ w, w < 2 ^ P → (w ^^^ 2 ^ P = 2 ^ P + w ∧ (2 ^ P + w) ^^^ 2 ^ P = w) ∧ ∀ o, o < P → (2 ^ P + w) ^^^ 2 ^ o = 2 ^ P + (w ^^^ 2 ^ o) := by decide +kernel
theorem zk_sn_xor {o : Nat} : ∀ {P : Nat}, P ≤ 8 → o < P → ∀ f : Nat → Nat, zk_sn (fun w => f (w ^^^ 2 ^ o)) (2 ^ P) = zk_sn f (2 ^ P)
  | 0, _, h, _ => absurd h (Nat.not_lt_zero _)
  | P + 1, hP, h, f => by
    rw [show 2 ^ (P + 1) = 2 ^ P + 2 ^ P by rw [Nat.pow_succ]; omega, zk_sn_add, zk_sn_add]
    rcases Nat.lt_or_ge o P with q | q
    · rw [zk_sn_xor (by omega) q f]
      have e : zk_sn (fun k => f ((2 ^ P + k) ^^^ 2 ^ o)) (2 ^ P) = zk_sn (fun k => (fun j => f (2 ^ P + j)) (k ^^^ 2 ^ o)) (2 ^ P) := zk_sn_c fun k hk => by rw [(zk_xk P (by omega) k hk).2 o q]
      rw [e, zk_sn_xor (by omega) q fun j => f (2 ^ P + j)]
    · have eo : o = P := by omega
      subst eo
      have e1 : zk_sn (fun w => f (w ^^^ 2 ^ o)) (2 ^ o) = zk_sn (fun k => f (2 ^ o + k)) (2 ^ o) := zk_sn_c fun k hk => by rw [(zk_xk o (by omega) k hk).1.1]
      have e2 : zk_sn (fun k => f ((2 ^ o + k) ^^^ 2 ^ o)) (2 ^ o) = zk_sn f (2 ^ o) := zk_sn_c fun k hk => by rw [(zk_xk o (by omega) k hk).1.2]
      rw [e1, e2, Nat.add_comm]
theorem zk_sn_dl {f : Nat → Nat} : ∀ {n : Nat}, zk_sn (fun u => (if u = 0 then 1 else 0) * f u) (n + 1) = f 0
  | 0 => by show 0 + 1 * f 0 = f 0; omega
  | n + 1 => by
    show zk_sn _ (n + 1) + (if n + 1 = 0 then 1 else 0) * f (n + 1) = f 0
    rw [zk_sn_dl, if_neg (by omega)]
    omega
/-- in how many ways n cards from c on are by unlike ones, none of those used -/
def zk_uf (P : Nat) (could : Nat → Nat → Bool) (ins : Nat → Bool) : Nat → Nat → Nat → Nat
  | 0, _, _ => 1
  | n + 1, c, used => if ins c then zk_sn (fun o => if !used.testBit o && could c o then zk_uf P could ins n (c + 1) (used ||| 2 ^ o) else 0) P else zk_uf P could ins n (c + 1) used
/-- the table with one card more -/
def zk_aw (P : Nat) (M : Nat → Bool) (wy : Nat → Nat) : Nat → Nat := fun w => zk_sn (fun o => if w.testBit o && M o then wy (w ^^^ 2 ^ o) else 0) P
theorem zk_xb : ∀ u, u < 256 → ∀ o, o < 8 → ((u ^^^ 2 ^ o).testBit o = !u.testBit o ∧ (u.testBit o = false → u ^^^ 2 ^ o = u ||| 2 ^ o) ∧ (u ^^^ 2 ^ o) ^^^ 2 ^ o = u ∧ u ||| 2 ^ o < 256) := by decide +kernel
theorem zk_aw_sum {P n c : Nat} {could : Nat → Nat → Bool} {ins : Nat → Bool} {wy : Nat → Nat} (hP : P ≤ 8) (hi : ins c = true) : zk_sn (fun u => zk_aw P (could c) wy u * zk_uf P could ins n (c + 1) u) (2 ^ P) = zk_sn (fun u => wy u * zk_uf P could ins (n + 1) c u) (2 ^ P) := by
  have h256 : 2 ^ P ≤ 256 := Nat.pow_le_pow_right (n := 2) (by decide) hP
  have e1 : zk_sn (fun u => zk_aw P (could c) wy u * zk_uf P could ins n (c + 1) u) (2 ^ P) = zk_sn (fun u => zk_sn (fun o => (if u.testBit o && could c o then wy (u ^^^ 2 ^ o) else 0) * zk_uf P could ins n (c + 1) u) P) (2 ^ P) := zk_sn_c fun u _ => by rw [zk_sn_ml]; rfl
  have e2 : zk_sn (fun u => wy u * zk_uf P could ins (n + 1) c u) (2 ^ P) = zk_sn (fun u => zk_sn (fun o => wy u * (if !u.testBit o && could c o then zk_uf P could ins n (c + 1) (u ||| 2 ^ o) else 0)) P) (2 ^ P) := zk_sn_c fun u _ => by
    rw [zk_sn_mr]
    show wy u * (if ins c then _ else _) = _
    rw [if_pos hi]
  rw [e1, e2, zk_sn_swap, zk_sn_swap (m := 2 ^ P)]
  refine zk_sn_c fun o ho => ?_
  rw [← zk_sn_xor hP ho]
  refine zk_sn_c fun u hu => ?_
  obtain ⟨b1, b2, b3, -⟩ := zk_xb u (by omega) o (by omega)
  rw [b1, b3]
  cases hb : u.testBit o
  · rw [b2 hb]
    cases could c o <;> simp
  · simp
theorem zk_ab : ∀ a, a < 256 → ∀ o, o < 8 → (nI a &&& ((1 : Int32) <<< (nI o &&& 31)) = 0 ↔ a.testBit o = false) := by decide +kernel
theorem zk_x8 : ∀ u, u < 256 → ∀ P, P < 9 → u < 2 ^ P → ∀ o, o < P → u ^^^ 2 ^ o < 2 ^ P := by decide +kernel
section ZKW
variable {K : Int32 → zk_H → Prop} {h c m : zk_H} {x y A : Int32} {P N : Nat}
theorem l_addWriter_20 {M w S : Nat} {wy : Nat → Nat} (hP : P ≤ 8) (hw : w < 2 ^ P) (hM : M < 256) (e1 : h.1 1 1 = nI P) (ht : ∀ o, o < P → w.testBit o = true → h.1 35 (w ^^^ 2 ^ o) = nI (wy (w ^^^ 2 ^ o))) (next : (zk_X zk_C (zk_lkl lkX10) zk_mt (zk_cxl [(43, zk_iP pX4_everybody)]) (some .int) (zk_at cdX10_addWriter) (zk_qi K)) 10 [some (.ref 31), some (.int (nI M)), some (.int (nI (S + zk_aw P (fun o => M.testBit o) wy w))), some (.int (nI w + (-1))), none, none] [] (zk_si h 35 w (nI (zk_aw P (fun o => M.testBit o) wy w)))) : ∀ (n o : Nat), o + n = P → (zk_X zk_C (zk_lkl lkX10) zk_mt (zk_cxl [(43, zk_iP pX4_everybody)]) (some .int) (zk_at cdX10_addWriter) (zk_qi K)) 20 [some (.ref 31), some (.int (nI M)), some (.int (nI S)), some (.int (nI w)), some (.int (nI (zk_sn (fun o => if w.testBit o && M.testBit o then wy (w ^^^ 2 ^ o) else 0) o))), some (.int (nI o))] [] h := by
  have h256 : 2 ^ P ≤ 256 := Nat.pow_le_pow_right (n := 2) (by decide) hP
  intro n
  induction n with
  | zero =>
    intro o ho
    have hoP : o = P := by omega
    subst hoP
    refine zk_bk hX10_addWriter (bX10_addWriter_20 ?_)
    rw [e1, nI_add, nI_clamp (n := w) (by omega)]
    refine ⟨fun _ => ⟨vp_in_nI (by omega) (by decide), zk_fg hX10_addWriter ?_ next⟩, fun q => absurd ((nI_leI (by omega) (by omega)).mpr (Nat.le_refl _)) q⟩
    exact ⟨rfl, rfl, rfl, rfl, rfl, rfl, trivial⟩
  | succ n ih =>
    intro o ho
    have I := ih (o + 1) (by omega)
    have hwM : w &&& M < 256 := Nat.lt_of_le_of_lt Nat.and_le_left (by omega)
    refine zk_bk hX10_addWriter (bX10_addWriter_20 ?_)
    rw [e1, nI_and, nI_1]
    refine ⟨fun q => absurd q (nI_ge (by omega) (by omega)), fun _ => ⟨fun q => ?_, fun q => ?_⟩⟩
    · have hb := (zk_ab _ hwM o (by omega)).mp q
      rw [Nat.testBit_and] at hb
      rw [show zk_sn (fun o => if w.testBit o && M.testBit o then wy (w ^^^ 2 ^ o) else 0) (o + 1) = zk_sn (fun o => if w.testBit o && M.testBit o then wy (w ^^^ 2 ^ o) else 0) o from by
        show _ + (if w.testBit o && M.testBit o then wy (w ^^^ 2 ^ o) else 0) = _
        rw [hb]; rfl] at I
      exact I
    · have hb : (w.testBit o && M.testBit o) = true := by
        cases z : (w.testBit o && M.testBit o)
        · exact absurd ((zk_ab _ hwM o (by omega)).mpr (by rw [Nat.testBit_and]; exact z)) q
        · rfl
      have hx := zk_x8 w (by omega) P (by omega) hw o (by omega)
      rw [show zk_sn (fun o => if w.testBit o && M.testBit o then wy (w ^^^ 2 ^ o) else 0) (o + 1) = zk_sn (fun o => if w.testBit o && M.testBit o then wy (w ^^^ 2 ^ o) else 0) o + wy (w ^^^ 2 ^ o) from by
        show _ + (if w.testBit o && M.testBit o then wy (w ^^^ 2 ^ o) else 0) = _
        rw [hb]; rfl] at I
      rw [zk_shl9 o (by omega), nI_xor, nI_clamp (n := w ^^^ 2 ^ o) (by omega), ht o (by omega) ((Bool.and_eq_true _ _).mp hb).1, nI_add]
      exact ⟨vp_in_nI (by omega) (by decide), I⟩
theorem zk_tb_lt : ∀ w, w < 256 → ∀ o, o < 8 → w.testBit o = true → w ^^^ 2 ^ o < w := by decide +kernel
theorem l_addWriter_10 {M : Nat} {wy : Nat → Nat} {h0 : zk_H} (hP : P ≤ 8) (hM : M < 256) (e1 : h0.1 1 1 = nI P) (next : ∀ h', zk_ex [35] h0 h' → (∀ k, k < 2 ^ P → h'.1 35 k = nI (zk_aw P (fun o => M.testBit o) wy k)) → K (nI (zk_sn (zk_aw P (fun o => M.testBit o) wy) (2 ^ P))) h') : ∀ (w : Nat) (d : Nat) (h : zk_H), w + d = 2 ^ P → zk_ex [35] h0 h → (∀ k, k < w → h.1 35 k = nI (wy k)) → (∀ k, w ≤ k → k < 2 ^ P → h.1 35 k = nI (zk_aw P (fun o => M.testBit o) wy k)) → (zk_X zk_C (zk_lkl lkX10) zk_mt (zk_cxl [(43, zk_iP pX4_everybody)]) (some .int) (zk_at cdX10_addWriter) (zk_qi K)) 10 [some (.ref 31), some (.int (nI M)), some (.int (nI (zk_sn (fun k => zk_aw P (fun o => M.testBit o) wy (w + k)) d))), some (.int (nI w + (-1))), none, none] [] h := by
  have h256 : 2 ^ P ≤ 256 := Nat.pow_le_pow_right (n := 2) (by decide) hP
  intro w
  induction w with
  | zero =>
    intro d h hd he hlo hhi
    refine zk_bk hX10_addWriter (bX10_addWriter_10 ?_)
    refine ⟨fun _ => ?_, fun q => absurd (by decide) q⟩
    have := next h he (fun k hk => hhi k (Nat.zero_le _) hk)
    rw [show d = 2 ^ P by omega, zk_sn_c (g := zk_aw P (fun o => M.testBit o) wy) fun k _ => by rw [Nat.zero_add]]
    exact this
  | succ w ih =>
    intro d h hd he hlo hhi
    refine zk_bk hX10_addWriter (bX10_addWriter_10 ?_)
    rw [nI_m1 (by omega), show w + 1 - 1 = w by omega]
    refine ⟨fun q => absurd q (nI_pos (by omega)), fun _ => ?_⟩
    refine l_addWriter_20 (wy := wy) hP (by omega) hM (by rw [he.1 1 (by decide)]; exact e1) (fun o ho hb => ?_) ?_ P 0 (by omega)
    · have hx := zk_tb_lt w (by omega) o (by omega) hb
      exact hlo _ (by omega)
    · have I := ih (d + 1) (zk_si h 35 w (nI (zk_aw P (fun o => M.testBit o) wy w))) (by omega) (he.si (by simp)) (fun k hk => by rw [zk_si_at, if_neg (by omega)]; exact hlo k (by omega)) (fun k hk hk2 => by
        rw [zk_si_at]
        by_cases e : k = w
        · rw [if_pos e, e]
        · rw [if_neg e]; exact hhi k (by omega) hk2)
      have es : zk_sn (fun k => zk_aw P (fun o => M.testBit o) wy (w + k)) (d + 1) = zk_sn (fun k => zk_aw P (fun o => M.testBit o) wy (w + 1 + k)) d + zk_aw P (fun o => M.testBit o) wy w := by
        rw [Nat.add_comm d 1, zk_sn_add]
        show (0 + zk_aw P (fun o => M.testBit o) wy w) + _ = _
        rw [zk_sn_c (g := fun k => zk_aw P (fun o => M.testBit o) wy (w + 1 + k)) fun k _ => by rw [Nat.add_assoc]]
        omega
      rw [es] at I
      exact I
theorem jX10_addWriter {M : Nat} {wy : Nat → Nat} {h0 : zk_H} (hP : P ≤ 8) (hM : M < 256) (e1 : h0.1 1 1 = nI P) (ht : ∀ k, k < 2 ^ P → h0.1 35 k = nI (wy k)) (next : ∀ h', zk_ex [35] h0 h' → (∀ k, k < 2 ^ P → h'.1 35 k = nI (zk_aw P (fun o => M.testBit o) wy k)) → K (nI (zk_sn (zk_aw P (fun o => M.testBit o) wy) (2 ^ P))) h') : pX10_addWriter [.ref 31, .int (nI M)] h0 K := by
  refine ⟨rfl, zk_bk hX10_addWriter (bX10_addWriter_0 ?_)⟩
  refine jX4_everybody hP e1 ?_
  have h0' : 0 < 2 ^ P := Nat.two_pow_pos _
  have h256 : 2 ^ P ≤ 256 := Nat.pow_le_pow_right (n := 2) (by decide) hP
  rw [zk_mask9 P (by omega), ← nI_m1 h0']
  exact l_addWriter_10 hP hM e1 next (2 ^ P) 0 h0 (by omega) zk_ex.rf ht (fun k h1 h2 => by omega)
/-- the set's cards -/
def zk_ins (x : Int32) (i : Nat) : Bool := decide ((x >>> (nI i &&& 31)) &&& 1 = 1)
theorem zk_mask_fn {p : Nat → Bool} {wy : Nat → Nat} : ∀ k, zk_aw P (fun o => (zk_mask p P).testBit o) wy k = zk_aw P p wy k := fun k => zk_sn_c fun o ho => by simp only [zk_mask_tb, decide_eq_true ho, Bool.true_and]
theorem l_unlikeC (r : zk_off P N c m) (RES : Nat) (H : ∀ c', zk_ex [35] c c' → K (nI RES) c') : ∀ (n i : Nat) (wy : Nat → Nat) (h : zk_H), i + n = N → zk_ex [35] c h → (∀ k, k < 2 ^ P → h.1 35 k = nI (wy k)) → zk_sn (fun u => wy u * zk_uf P (zk_cq m) (zk_ins x) n i u) (2 ^ P) = RES → (zk_X zk_C (zk_lkl lkX10) zk_mt (zk_cxl [(41, zk_iP pX4_whoCould), (102, zk_iP pX10_addWriter), (272, zk_vP pJ7_fill_53178)]) (some .int) (zk_at cdX10_waysByUnlike) (zk_qi K)) 19 [some (.ref 31), some (.int x), some (.int (nI (zk_sn wy (2 ^ P)))), some (.int (nI i))] [] h := by
  obtain ⟨⟨hP, hN⟩, ⟨f1, f2, f3, f4⟩, -⟩ := id r
  intro n
  induction n with
  | zero =>
    intro i wy h hi he ht hr
    have hiN : i = N := by omega
    subst hiN
    refine zk_bk hX10_waysByUnlike (bX10_waysByUnlike_19 ?_)
    rw [he.1 1 (by decide), f2]
    refine ⟨fun _ => ?_, fun q => absurd ((nI_leI (by omega) (by omega)).mpr (Nat.le_refl _)) q⟩
    have e : zk_sn wy (2 ^ P) = RES := by
      rw [← hr]
      exact zk_sn_c fun u _ => by show wy u = wy u * 1; rw [Nat.mul_one]
    rw [e]
    exact H h he
  | succ n ih =>
    intro i wy h hi he ht hr
    refine zk_bk hX10_waysByUnlike (bX10_waysByUnlike_19 ?_)
    rw [he.1 1 (by decide), f2, nI_1]
    refine ⟨fun q => absurd q (nI_ge (by omega) (by omega)), fun _ => ⟨fun q => ?_, fun q => ?_⟩⟩
    · refine ih (i + 1) wy h (by omega) he ht ?_
      have hins : zk_ins x i = false := decide_eq_false fun z => absurd (q.symm.trans z) (by decide)
      rw [← hr]
      refine zk_sn_c fun u _ => ?_
      show _ = wy u * (if zk_ins x i then _ else _)
      rw [hins]
      rfl
    · have hins : zk_ins x i = true := decide_eq_true (zk_bitn.mp q)
      refine jX4_whoCould (r.ex he (by decide)) (by omega) (jX10_addWriter (wy := wy) hP (zk_mask_lt hP) (by rw [he.1 1 (by decide)]; exact f1) ht fun h' he' ht' => ?_)
      have ef : zk_aw P (fun o => (zk_mask (zk_cq m i) P).testBit o) wy = zk_aw P (zk_cq m i) wy := funext zk_mask_fn
      rw [ef]
      rw [ef] at ht'
      refine ih (i + 1) (zk_aw P (zk_cq m i) wy) h' (by omega) (he.tr he') ht' ?_
      rw [← hr]
      exact zk_aw_sum hP hins
theorem jX12_unlikes (r : zk_off P N c m) : ∀ (n d i used : Nat) (K : Int32 → zk_H → Prop), i + n = N → n < d → used < 256 → K (nI (zk_uf P (zk_cq m) (zk_ins x) n i used)) m → pX12_unlikes d [.ref 0, .int x, .int (nI i), .int (nI used)] m K := by
  obtain ⟨⟨hP, hN⟩, ⟨f1, f2, f3, f4⟩, -⟩ := id r
  intro n
  induction n with
  | zero =>
    intro d i used K hi hd hu H
    cases d with
    | zero => omega
    | succ d =>
      refine ⟨rfl, zk_bk (ghX12_unlikes (okX12_unlikes _)) (bX12_unlikes_0 ?_)⟩
      rw [f4]
      exact ⟨fun q => absurd (by rw [show i = N by omega]) q, fun _ => H⟩
  | succ n ih =>
    intro d i used K hi hd hu H
    cases d with
    | zero => omega
    | succ d =>
      have key : zk_ins x i = true → ∀ (e o : Nat), o + e = P → (zk_X zk_D (zk_lkl lkX12) zk_mt (zk_cxl [(163, zk_iP pX12_has), (195, zk_iP pX12_could), (210, zk_iP (pX12_unlikes d))]) (some .int) (zk_at cdX12_unlikes) (zk_qi K)) 34 [some (.ref 0), some (.int x), some (.int (nI i)), some (.int (nI used)), some (.int (nI (zk_sn (fun o => if !used.testBit o && zk_cq m i o then zk_uf P (zk_cq m) (zk_ins x) n (i + 1) (used ||| 2 ^ o) else 0) o))), some (.int (nI o))] [] m := by
        intro hins e
        induction e with
        | zero =>
          intro o ho
          have hoP : o = P := by omega
          subst hoP
          refine zk_bk (ghX12_unlikes (okX12_unlikes _)) (bX12_unlikes_34 ?_)
          rw [f3]
          refine ⟨fun _ => ?_, fun q => absurd ((nI_leI (by omega) (by omega)).mpr (Nat.le_refl _)) q⟩
          have e : zk_uf o (zk_cq m) (zk_ins x) (n + 1) i used = zk_sn (fun o' => if !used.testBit o' && zk_cq m i o' then zk_uf o (zk_cq m) (zk_ins x) n (i + 1) (used ||| 2 ^ o') else 0) o := if_pos hins
          rw [e] at H
          exact H
        | succ e ihe =>
          intro o ho
          have I := ihe (o + 1) (by omega)
          obtain ⟨-, -, -, b4⟩ := zk_xb used hu o (by omega)
          have st : ∀ b : Bool, (!used.testBit o && zk_cq m i o) = b → zk_sn (fun o => if !used.testBit o && zk_cq m i o then zk_uf P (zk_cq m) (zk_ins x) n (i + 1) (used ||| 2 ^ o) else 0) (o + 1) = zk_sn (fun o => if !used.testBit o && zk_cq m i o then zk_uf P (zk_cq m) (zk_ins x) n (i + 1) (used ||| 2 ^ o) else 0) o + (if b then zk_uf P (zk_cq m) (zk_ins x) n (i + 1) (used ||| 2 ^ o) else 0) := by
            intro b hb
            subst hb
            rfl
          refine zk_bk (ghX12_unlikes (okX12_unlikes _)) (bX12_unlikes_34 ?_)
          rw [f3, nI_1, nI_1]
          refine ⟨fun q => absurd q (nI_ge (by omega) (by omega)), fun _ => jX12_has ?_⟩
          rw [zk_bitof o (by omega) used hu]
          cases hb : used.testBit o
          · rw [zk_b_f (by simp)]
            refine ⟨fun q => absurd rfl q, fun _ => jX12_could (by omega) (by omega) ?_⟩
            cases hc : zk_cq m i o
            · rw [st false (by rw [hb, hc]; rfl)] at I
              exact ⟨fun _ => I, fun q => absurd rfl q⟩
            · rw [st true (by rw [hb, hc]; rfl)] at I
              refine ⟨fun q => absurd q (by decide), fun _ => ?_⟩
              rw [zk_shl9 o (by omega), nI_or]
              refine ih d (i + 1) (used ||| 2 ^ o) _ (by omega) (by omega) b4 ?_
              rw [nI_add]
              exact I
          · rw [zk_b_t (by simp)]
            rw [st false (by rw [hb]; rfl)] at I
            exact ⟨fun _ => I, fun q => absurd q (by decide)⟩
      refine ⟨rfl, zk_bk (ghX12_unlikes (okX12_unlikes _)) (bX12_unlikes_0 ?_)⟩
      rw [f4, nI_1]
      refine ⟨fun q => jX12_has ⟨fun q2 => key (decide_eq_true (zk_b_n q2)) P 0 (by omega), fun q2 => ih d (i + 1) used _ (by omega) (by omega) hu ?_⟩, fun q => absurd q (nI_neq (by omega) (by omega) (by omega))⟩
      have e : zk_uf P (zk_cq m) (zk_ins x) (n + 1) i used = zk_uf P (zk_cq m) (zk_ins x) n (i + 1) used := if_neg (by unfold zk_ins; rw [decide_eq_false (zk_b_0.mp q2)]; decide)
      rw [e] at H
      exact H
end ZKW
section ZK3
variable {lp : zk_lp} {c m : zk_H} {x y z : Int32}
theorem e_unlike (R : zk_RR lp c m) : pX11_unlike [.ref 0, .int x] c (fun v c' => pX12_unlike [.ref 0, .int x] m (fun v' m' => v = v' ∧ zk_RR lp c' m')) := by
  obtain ⟨P, N, D, U, T, B, R8⟩ := id R
  obtain ⟨r1, -⟩ := id R8
  obtain ⟨⟨hP, hN⟩, ⟨f1, f2, f3, f4⟩, -⟩ := id r1
  refine ⟨rfl, zk_bk hX11_unlike (bX11_unlike_0 ?_)⟩
  refine jX4_isSet ?_
  rw [f2]
  refine ⟨fun q => ?_, fun q => ?_⟩
  · show pX12_unlike _ _ _
    refine ⟨rfl, zk_bk hX12_unlike (bX12_unlike_0 ?_)⟩
    exact jX12_areCards f4 (by omega) ⟨fun _ => ⟨rfl, R⟩, fun q2 => absurd (zk_b_n q2) (zk_b_0.mp q)⟩
  · refine ⟨rfl, zk_bk hX10_waysByUnlike (bX10_waysByUnlike_0 ?_)⟩
    refine jJ7_fill_r35 fun c1 hc1 h1 => ⟨(by unfold vp_in; decide), ?_⟩
    have x2 : zk_ex [35] c (zk_si c1 35 0 1) := hc1.si (by simp)
    have h0 : 0 < 2 ^ P := Nat.two_pow_pos _
    have h256 : 2 ^ P ≤ 256 := Nat.pow_le_pow_right (n := 2) (by decide) hP
    have es : zk_sn (fun u => if u = 0 then 1 else 0) (2 ^ P) = 1 := by
      have := zk_sn_dl (f := fun _ => 1) (n := 2 ^ P - 1)
      rw [show 2 ^ P - 1 + 1 = 2 ^ P by omega] at this
      refine Eq.trans ?_ this
      exact zk_sn_c fun u _ => by rw [Nat.mul_one]
    have L := l_unlikeC (x := x) (K := fun v c' => pX12_unlike [.ref 0, .int x] m (fun v' m' => v = v' ∧ zk_RR lp c' m')) r1 (zk_uf P (zk_cq m) (zk_ins x) N 0 0) (fun c' hc => ?_) N 0 (fun u => if u = 0 then 1 else 0) (zk_si c1 35 0 1) (by omega) x2 (fun k hk => ?_) ?_
    · rw [es] at L
      exact L
    · show pX12_unlike _ _ _
      refine ⟨rfl, zk_bk hX12_unlike (bX12_unlike_0 ?_)⟩
      refine jX12_areCards f4 (by omega) ⟨fun q2 => absurd (zk_b_n q) (zk_b_0.mp q2), fun _ => ?_⟩
      exact jX12_unlikes r1 N 9 0 0 _ (by omega) (by omega) (by decide) ⟨rfl, P, N, D, U, T, B, zk_R_ex R8 hc (zk_ex.rf (S := [])) (by decide) (by decide)⟩
    · rw [zk_si_at]
      by_cases e : k = 0
      · rw [if_pos e, if_pos e]; rfl
      · rw [if_neg e, if_neg e, h1 k (by omega)]; rfl
    · have := zk_sn_dl (f := fun u => zk_uf P (zk_cq m) (zk_ins x) N 0 u) (n := 2 ^ P - 1)
      rw [show 2 ^ P - 1 + 1 = 2 ^ P by omega] at this
      exact this
end ZK3
