/-! WRITE: the ways, one behind another; the class' side -/
theorem zk_bo_n {b : Nat} (h : b < 2 ^ 31) : ¬ nI b = -2 := fun q => by
  have := nI_toInt h
  rw [q] at this
  have e : (-2 : Int32).toInt = -2 := rfl
  omega
theorem zk_ways3 (a b c : Nat) : (100 : Int32) * nI a + (10 : Int32) * nI b + nI c = nI (100 * a + 10 * b + c) := by
  rw [show (100 : Int32) * nI a = nI (100 * a) from pk_mul 100 a, show (10 : Int32) * nI b = nI (10 * b) from pk_mul 10 b, nI_add, nI_add]
/-- whether a way is better than the best -/
def zk_bt (y : Int32) (a b a' b' : Nat) : Bool := if y = 0 then decide (a' * b < a * b') else decide (a * b' < a' * b)
def zk_wst (A B : Nat → Nat) (y : Int32) (w : Nat) (b : Option Nat) : Option Nat := if B w = 0 then b else match b with
  | none => some w
  | some b => if zk_bt y (A w) (B w) (A b) (B b) then some w else some b
def zk_bw (good : Nat → Bool) (A B : Nat → Nat) (y : Int32) : Nat → Option Nat
  | 0 => none
  | w + 1 => if good w then zk_wst A B y w (zk_bw good A B y w) else zk_bw good A B y w
theorem zk_wst_lt {A B : Nat → Nat} {y : Int32} {w : Nat} {b : Option Nat} {n : Nat} (h : ∀ d, b = some d → d < n) (hw : w < n) : ∀ d, zk_wst A B y w b = some d → d < n := by
  intro d hd
  unfold zk_wst at hd
  split at hd
  · exact h d hd
  · split at hd
    · cases hd; exact hw
    · split at hd
      · cases hd; exact hw
      · cases hd; exact h _ rfl
theorem zk_bw_lt {good : Nat → Bool} {A B : Nat → Nat} {y : Int32} : ∀ {w d : Nat}, zk_bw good A B y w = some d → d < w
  | w + 1, d, h => by
    unfold zk_bw at h
    split at h
    · exact zk_wst_lt (n := w + 1) (fun d hd => Nat.lt_succ_of_lt (zk_bw_lt hd)) (Nat.lt_succ_self w) d h
    · exact Nat.lt_succ_of_lt (zk_bw_lt h)
theorem zk_bw_skip {good : Nat → Bool} {A B : Nat → Nat} {y : Int32} {a : Nat} : ∀ n, (∀ v, a ≤ v → v < a + n → good v = false) → zk_bw good A B y (a + n) = zk_bw good A B y a
  | 0, _ => rfl
  | n + 1, h => by
    show (if good (a + n) then _ else zk_bw good A B y (a + n)) = _
    rw [h (a + n) (by omega) (by omega)]
    exact zk_bw_skip n fun v h1 h2 => h v h1 (by omega)
/-- one may write so -/
def zk_wrm (m : zk_H) (o w : Nat) (mi : Int32) : Prop := (nI (w / 100) - 1 < 0 ∨ (m.1 6 o >>> ((nI (w / 100) - 1) &&& 31)) &&& 1 = 1) ∧ (nI (w % 10) = 0 ∨ (m.1 1 o ≤ mi ∧ mi ≤ m.1 2 o))
def zk_gd (m : zk_H) (o : Nat) (mi : Int32) (w : Nat) : Bool := decide (w / 10 % 10 < 5) && decide (w % 10 < 2) && (decide (nI (w / 100) - 1 < 0) || decide ((m.1 6 o >>> ((nI (w / 100) - 1) &&& 31)) &&& 1 = 1)) && (decide (nI (w % 10) = 0) || decide (m.1 1 o ≤ mi ∧ mi ≤ m.1 2 o))
theorem zk_gd_e {m : zk_H} {o w : Nat} {mi : Int32} (h1 : w / 10 % 10 < 5) (h2 : w % 10 < 2) : zk_gd m o mi w = true ↔ zk_wrm m o w mi := by
  unfold zk_gd zk_wrm
  simp [h1, h2]
/-- with a card that is thought of -/
def zk_mw (m : zk_H) (n : Nat) (to mi : Int32) (w : Nat) : zk_H := zk_mL' (zk_si (zk_si m 7 n to) 8 n mi) n w
def zk_wA (lw : Option zk_lns) (m : zk_H) (P N : Nat) (to mi : Int32) (o w : Nat) : Nat := zk_wn lw (zk_mw m N to mi w) P N o
def zk_wB (lw : Option zk_lns) (m : zk_H) (P N : Nat) (to mi : Int32) (w : Nat) : Nat := zk_al lw (zk_mw m N to mi w) P N
def zk_exw (N : Nat) (c c' : zk_H) : Prop := (∀ k, k ∉ [9, 10, 11, 12, 16, 30, 32, 33, 36] → c'.1 k = c.1 k) ∧ (∀ k, k ∈ [9, 10, 11, 12, 16] → ∀ j, j ≠ N → c'.1 k j = c.1 k j) ∧ c'.2 = c.2
def zk_exv (N : Nat) (m m' : zk_H) : Prop := (∀ k, k ∉ [0, 7, 8, 9, 10, 11, 12, 13, 24, 25] → m'.1 k = m.1 k) ∧ (∀ k, k ∈ [7, 8, 9, 10, 11, 12, 13] → ∀ j, j ≠ N → m'.1 k j = m.1 k j) ∧ (∀ j, j ≠ 7 → j < 53 → m'.1 0 j = m.1 0 j) ∧ m'.2 = m.2
/-- the card that is thought of, as it lies -/
def zk_lc1 (c : zk_H) (N : Nat) (to mi : Int32) (w : Nat) : Prop := c.1 16 N = to ∧ c.1 9 N = mi ∧ c.1 11 N = nI (w / 100) - 1 ∧ c.1 10 N = nI (w / 10 % 10) - 1 ∧ c.1 12 N = nI (w % 10)
def zk_lm1 (m : zk_H) (N : Nat) (to mi : Int32) (w : Nat) : Prop := m.1 7 N = to ∧ m.1 8 N = mi ∧ m.1 10 N = nI (w / 100) - 1 ∧ m.1 9 N = nI (w / 10 % 10) - 1 ∧ m.1 11 N = nI (w % 10)
section ZKX
variable {lp : zk_lp} {lw : Option zk_lns} {P N D U T B i o w : Nat} {c m c' m' h h' : zk_H} {to mi : Int32}
theorem zk_exw.rf : zk_exw N c c := ⟨fun _ _ => rfl, fun _ _ _ _ => rfl, rfl⟩
theorem zk_exv.rf : zk_exv N m m := ⟨fun _ _ => rfl, fun _ _ _ _ => rfl, fun _ _ _ => rfl, rfl⟩
theorem zk_exw.scr {S : List Nat} (e : zk_exw N c h) (hx : zk_ex S h h') (hS : ∀ k ∈ S, k = 30 ∨ k = 32 ∨ k = 33 ∨ k = 36) : zk_exw N c h' := by
  refine ⟨fun k hk => ?_, fun k hk j hj => ?_, hx.2.trans e.2.2⟩
  · rw [hx.1 k fun q => ?_]
    · exact e.1 k hk
    · have := hS k q
      simp only [List.mem_cons, List.not_mem_nil, or_false] at hk
      omega
  · rw [hx.1 k fun q => ?_]
    · exact e.2.1 k hk j hj
    · have := hS k q
      simp only [List.mem_cons, List.not_mem_nil, or_false] at hk
      omega
theorem zk_exw.lay (e : zk_exw N c h) : zk_exw N c (zk_cL h N to mi w) := by
  refine ⟨fun k hk => ?_, fun k hk j hj => ?_, e.2.2⟩
  · rw [← e.1 k hk]
    simp only [List.mem_cons, List.not_mem_nil, or_false, not_or] at hk
    simp [zk_cL, zk_si, hk]
  · rw [← e.2.1 k hk j hj]
    simp [zk_cL, zk_si, hj]
theorem zk_cL_lc : zk_lc1 (zk_cL h N to mi w) N to mi w := by simp [zk_lc1, zk_cL, zk_si]
theorem zk_mw_exv : zk_exv N m (zk_mw m N to mi w) := by
  refine ⟨fun k hk => ?_, fun k hk j hj => ?_, fun j h1 h2 => ?_, rfl⟩
  · simp only [List.mem_cons, List.not_mem_nil, or_false, not_or] at hk
    simp [zk_mw, zk_mL', zk_si, hk]
  · simp [zk_mw, zk_mL', zk_si, hj]
  · simp [zk_mw, zk_mL', zk_si]
theorem zk_mw_lm : zk_lm1 (zk_mw m N to mi w) N to mi w := by simp [zk_lm1, zk_mw, zk_mL', zk_si]
theorem zk_off.wow (r : zk_off P N c m) (l : zk_lpd lw (c.1 28 1) (c.1 29) (m.1 0 19) (m.1 0 20) (m.1 16) (m.1 17) (m.1 18) (m.1 19)) (ec : zk_exw N c c') (em : zk_exv N m m') (lc : zk_lc1 c' N to mi w) (lm : zk_lm1 m' N to mi w) (hw : w < 900) (hto : ∃ j, j < P ∧ to = nI j) : zk_wo lw P c' m' N := by
  obtain ⟨⟨hP, hN⟩, ⟨f1, f2, f3, f4⟩, f5, f6, f7, f8, f9, f10⟩ := r
  have C : ∀ k, k ∈ [1, 3, 4, 5, 6, 7, 8, 13, 28, 29] → c'.1 k = c.1 k := fun k hk => ec.1 k fun q => by
    simp only [List.mem_cons, List.not_mem_nil, or_false] at hk q
    omega
  have M : ∀ k, k ∈ [1, 2, 3, 4, 5, 6, 14, 16, 17, 18, 19] → m'.1 k = m.1 k := fun k hk => em.1 k fun q => by
    simp only [List.mem_cons, List.not_mem_nil, or_false] at hk q
    omega
  obtain ⟨c1, c2, c3, c4, c5⟩ := lc
  obtain ⟨m1, m2, m3, m4, m5⟩ := lm
  unfold zk_wo
  rw [C 1 (by simp), C 3 (by simp), C 4 (by simp), C 5 (by simp), C 6 (by simp), C 7 (by simp), C 8 (by simp), C 13 (by simp), C 28 (by simp), C 29 (by simp), M 1 (by simp), M 2 (by simp), M 3 (by simp), M 4 (by simp), M 5 (by simp), M 6 (by simp), M 14 (by simp), M 16 (by simp), M 17 (by simp), M 18 (by simp), M 19 (by simp), em.2.2.1 0 (by decide) (by decide), em.2.2.1 19 (by decide) (by decide), em.2.2.1 20 (by decide) (by decide), c1, c2, c3, c4, c5, m1, m2, m3, m4, m5]
  refine ⟨⟨hP, by omega⟩, ⟨f1, f3⟩, f5, ⟨rfl, rfl, rfl, rfl, rfl, ?_, hto⟩, ⟨f7.1, f10⟩, l⟩
  rw [Int32.le_iff_toInt_le, zk_pm (by omega)]
  have : (-1 : Int32).toInt = -1 := rfl
  omega
/-- what a card counts rests on these cells alone -/
theorem zk_wt_at (M : ∀ k, k ∈ [1, 2, 3, 4, 5, 6, 14] → h'.1 k = h.1 k) (A : ∀ k, k ∈ [7, 8, 9, 10, 11] → h'.1 k i = h.1 k i) : zk_wt lw h' P i o = zk_wt lw h P i o := by
  have e1 : zk_cq h' i o = zk_cq h i o := by
    unfold zk_cq
    rw [A 7 (by simp), A 10 (by simp), A 11 (by simp), A 8 (by simp), M 6 (by simp), M 1 (by simp), M 2 (by simp)]
  have e2 : zk_nm h' P i o = zk_nm h P i o := by
    funext z
    unfold zk_nm zk_n3
    rw [A 7 (by simp), A 9 (by simp), A 10 (by simp), A 11 (by simp), M 5 (by simp), M 3 (by simp), M 4 (by simp), M 6 (by simp)]
  unfold zk_wt zk_vw
  rw [e1, e2, M 14 (by simp)]
theorem zk_wt_mw (em : zk_exv N m m') (lm : zk_lm1 m' N to mi w) : zk_wt lw m' P N o = zk_wt lw (zk_mw m N to mi w) P N o := by
  obtain ⟨m1, m2, m3, m4, m5⟩ := lm
  obtain ⟨n1, n2, n3, n4, n5⟩ := zk_mw_lm (m := m) (N := N) (to := to) (mi := mi) (w := w)
  have eM := zk_mw_exv (m := m) (N := N) (to := to) (mi := mi) (w := w)
  refine zk_wt_at (fun k hk => ?_) (fun k hk => ?_)
  · have : k ∉ [0, 7, 8, 9, 10, 11, 12, 13, 24, 25] := fun q => by
      simp only [List.mem_cons, List.not_mem_nil, or_false] at hk q
      omega
    rw [em.1 k this, eM.1 k this]
  · simp only [List.mem_cons, List.not_mem_nil, or_false] at hk
    rcases hk with rfl | rfl | rfl | rfl | rfl
    · rw [m1, n1]
    · rw [m2, n2]
    · rw [m4, n4]
    · rw [m3, n3]
    · rw [m5, n5]
theorem zk_R_wr (R : zk_R8 lp P N D U T B c m) (ec : zk_exw N c c') (em : zk_exv N m m') (e7 : m'.1 0 7 = nI N) : zk_R8 lp P N D U T B c' m' := by
  obtain ⟨r1, r2, r3, r4, r5, r6, r7, r8⟩ := R
  have C : ∀ k, k ≤ 8 ∨ (13 ≤ k ∧ k ≤ 15) ∨ (17 ≤ k ∧ k ≤ 29) ∨ 37 ≤ k → c'.1 k = c.1 k := fun k hk => ec.1 k fun q => by
    simp only [List.mem_cons, List.not_mem_nil, or_false] at q
    omega
  have M : ∀ k, (1 ≤ k ∧ k ≤ 6) ∨ (14 ≤ k ∧ k ≤ 23) ∨ 26 ≤ k → m'.1 k = m.1 k := fun k hk => em.1 k fun q => by
    simp only [List.mem_cons, List.not_mem_nil, or_false] at q
    omega
  have M0 : ∀ j, j ≠ 7 → j < 53 → m'.1 0 j = m.1 0 j := em.2.2.1
  refine ⟨?_, r2.cg (fun k hk => ?_) ?_ ⟨M0 _ (by decide) (by decide), M0 _ (by decide) (by decide)⟩ (M 29 (by omega)), r3.cg (by rw [C 24 (by omega)]) (C 25 (by omega)) (M0 _ (by decide) (by decide)) (M 15 (by omega)), r4.cg (C 40 (by omega)) (C 41 (by omega)) ⟨M0 _ (by decide) (by decide), M0 _ (by decide) (by decide), M0 _ (by decide) (by decide), M0 _ (by decide) (by decide)⟩ ⟨M 26 (by omega), M 27 (by omega), M 28 (by omega)⟩, r5.cg (by rw [C 42 (by omega)]) (C 43 (by omega)) (M0 _ (by decide) (by decide)) (M 30 (by omega)), r6.cg (by rw [C 42 (by omega)]) (C 44 (by omega)) (M0 _ (by decide) (by decide)) (M 31 (by omega)), fun s hs => (r7 s hs).cg (C _ (by omega)) (by rw [ec.2.2]) (by rw [M 32 (by omega), M 33 (by omega)]; exact ⟨rfl, rfl⟩) (by rw [em.2.2.2]), zk_lpcg r8 ⟨C 28 (by omega), C 29 (by omega)⟩ ⟨M0 _ (by decide) (by decide), M0 _ (by decide) (by decide)⟩ ⟨M 16 (by omega), M 17 (by omega), M 18 (by omega), M 19 (by omega)⟩⟩
  · obtain ⟨⟨hP, hN⟩, ⟨f1, f2, f3, f4⟩, f5, f6, f7, f8, f9, f10⟩ := r1
    have Cw : ∀ k, k ∈ [9, 10, 11, 12, 16] → ∀ j, j ≠ N → c'.1 k j = c.1 k j := ec.2.1
    have Mw : ∀ k, k ∈ [7, 8, 9, 10, 11, 12, 13] → ∀ j, j ≠ N → m'.1 k j = m.1 k j := em.2.1
    refine ⟨⟨hP, hN⟩, ⟨by rw [C 1 (by omega)]; exact f1, by rw [C 1 (by omega)]; exact f2, by rw [M0 0 (by decide) (by decide)]; exact f3, e7⟩, fun i hi => ?_, fun i hi => ?_, ?_, fun i h1 h2 => ?_, fun i hi => ?_, ?_⟩
    · rw [C 3 (by omega), C 4 (by omega), C 5 (by omega), C 6 (by omega), C 7 (by omega), C 8 (by omega), M 1 (by omega), M 2 (by omega), M 3 (by omega), M 4 (by omega), M 5 (by omega), M 6 (by omega)]
      exact f5 i hi
    · have hne : i ≠ N := by omega
      rw [Cw 9 (by simp) i hne, Cw 10 (by simp) i hne, Cw 11 (by simp) i hne, Cw 12 (by simp) i hne, Cw 16 (by simp) i hne, C 17 (by omega), C 18 (by omega), Mw 7 (by simp) i hne, Mw 8 (by simp) i hne, Mw 9 (by simp) i hne, Mw 10 (by simp) i hne, Mw 11 (by simp) i hne, Mw 12 (by simp) i hne, Mw 13 (by simp) i hne]
      exact f6 i hi
    · rw [C 13 (by omega), C 14 (by omega), C 15 (by omega), M 14 (by omega)]
      exact f7
    · rw [C 17 (by omega), C 18 (by omega)]
      exact f8 i h1 h2
    · have hne : i ≠ N := by omega
      rw [Mw 9 (by simp) i hne, Mw 7 (by simp) i hne]
      exact f9 i hi
    · rw [M 14 (by omega)]
      exact f10
  · simp only [List.mem_cons, List.not_mem_nil, or_false] at hk
    exact C k (by omega)
  · rw [C 19 (by omega)]; exact ⟨rfl, rfl⟩
end ZKX
/-- the best so far, as the class keeps it; as the reference does -/
def zk_s36 (A B : Nat → Nat) (b : Option Nat) (h : zk_H) : Prop := h.1 36 3 = zk_bo b ∧ h.1 36 4 = nI (match b with | none => 0 | some b => A b) ∧ h.1 36 5 = nI (match b with | none => 1 | some b => B b)
def zk_s0 (A B : Nat → Nat) (b : Option Nat) (h : zk_H) : Prop := h.1 0 53 = zk_bo b ∧ ∀ d, b = some d → h.1 0 54 = nI (A d) ∧ h.1 0 55 = nI (B d)
section ZKW
variable {K : Int32 → zk_H → Prop} {KV : zk_H → Prop} {lw : Option zk_lns} {h c m : zk_H} {x y to mi : Int32} {P N i o w : Nat}
theorem zk_cmp0 {a b : Nat} (ha : a < 2 ^ 30) (hb : b < 2 ^ 30) : (nI a - nI b ≤ 0 ↔ a ≤ b) ∧ (0 ≤ nI a - nI b ↔ b ≤ a) ∧ (nI a - nI b < 0 ↔ a < b) ∧ (0 < nI a - nI b ↔ b < a) := by
  have e := pk_sub_toInt ha hb
  have z : (0 : Int32).toInt = 0 := rfl
  simp only [Int32.lt_iff_toInt_lt, Int32.le_iff_toInt_le, e, z]
  omega
theorem jX6_weighWay {A B : Nat → Nat} {b : Option Nat} {c1 m1 : zk_H} (W : zk_wo lw P c1 m1 N) (eA : A w = zk_wn lw m1 P N o) (eB : B w = zk_al lw m1 P N) (hA : ∀ w, A w ≤ 99) (hB : ∀ w, B w ≤ 792) (e2 : c1.1 1 2 = nI N) (ho : o < P) (hb : ∀ d, b = some d → d < 900) (st : zk_s36 A B b c1) (next : ∀ c', zk_ex [30, 32, 33, 36] c1 c' → zk_s36 A B (zk_wst A B y w b) c' → KV c') : pX6_weighWay [.ref 36, .int (nI o), .int (nI w), .int y] c1 KV := by
  obtain ⟨s1, s2, s3⟩ := st
  have hP := W.1.1
  refine ⟨rfl, zk_bk hX6_weighWay (bX6_weighWay_0 ?_)⟩
  rw [e2]
  refine jX10_weigh W fun c2 hc2 hw => ?_
  rw [zk_al_e, ← eB, nI_clamp (n := o) (by omega), hw o ho, zk_wn_b.1, ← eA, hc2.1 36 (by decide), s1, s2, s3]
  have x2 : zk_ex [30, 32, 33, 36] c1 c2 := hc2.up (by simp)
  have set : zk_wst A B y w b = some w → KV (zk_si (zk_si (zk_si c2 36 3 (nI w)) 36 4 (nI (A w))) 36 5 (nI (B w))) := fun e => next _ (((x2.si (by simp)).si (by simp)).si (by simp)) (by rw [e]; simp [zk_s36, zk_si])
  have keep : zk_wst A B y w b = b → KV c2 := fun e => next c2 x2 (by rw [e]; unfold zk_s36; rw [hc2.1 36 (by decide)]; exact ⟨s1, s2, s3⟩)
  refine ⟨fun q => ⟨vp_in_nI (by omega) (by decide), ?_⟩, fun q => keep ?_⟩
  · have hB0 : ¬ B w = 0 := fun z => q (by rw [z]; rfl)
    cases b with
    | none =>
      refine ⟨fun _ => set ?_, fun z => absurd rfl z⟩
      unfold zk_wst
      rw [if_neg hB0]
    | some d =>
      have hd := hb d rfl
      have h1 := Nat.mul_le_mul (hA w) (hB d)
      have h2 := Nat.mul_le_mul (hA d) (hB w)
      obtain ⟨k1, k2, k3, k4⟩ := zk_cmp0 (a := A w * B d) (b := A d * B w) (by omega) (by omega)
      dsimp only
      rw [pk_mul, pk_mul]
      refine ⟨fun z => absurd z (zk_bo_n (show d < 2 ^ 31 by omega)), fun _ => ⟨fun q2 => ⟨fun q3 => keep ?_, fun q3 => set ?_⟩, fun q2 => ⟨fun q3 => keep ?_, fun q3 => set ?_⟩⟩⟩
      · have := k2.mp q3
        unfold zk_wst zk_bt
        rw [if_neg hB0]
        dsimp only
        rw [if_neg q2, decide_eq_false (show ¬ A w * B d < A d * B w by omega)]
        rfl
      · have : ¬ A d * B w ≤ A w * B d := fun z => q3 (k2.mpr z)
        unfold zk_wst zk_bt
        rw [if_neg hB0]
        dsimp only
        rw [if_neg q2, decide_eq_true (show A w * B d < A d * B w by omega)]
        rfl
      · have := k1.mp q3
        unfold zk_wst zk_bt
        rw [if_neg hB0]
        dsimp only
        rw [if_pos q2, decide_eq_false (show ¬ A d * B w < A w * B d by omega)]
        rfl
      · have : ¬ A w * B d ≤ A d * B w := fun z => q3 (k1.mpr z)
        unfold zk_wst zk_bt
        rw [if_neg hB0]
        dsimp only
        rw [if_pos q2, decide_eq_true (show A d * B w < A w * B d by omega)]
        rfl
  · have hB0 : B w = 0 := (nI_eq (b := 0) (by have := hB w; omega) (by decide)).mp q
    unfold zk_wst
    rw [if_pos hB0]
theorem zk_off.wri (r : zk_off P N c m) (he : zk_exw N c h) (ho : o < P) : zk_wri h o w mi ↔ zk_wrm m o w mi := by
  obtain ⟨-, -, f5, -⟩ := r
  obtain ⟨a1, a2, a3, a4, a5, a6⟩ := f5 o ho
  unfold zk_wri zk_wrm
  rw [he.1 8 (by simp), he.1 3 (by simp), he.1 4 (by simp), a1, a2, a6]
theorem l_seek_38 (r : zk_off P N c m) (LL : zk_lpd lw (c.1 28 1) (c.1 29) (m.1 0 19) (m.1 0 20) (m.1 16) (m.1 17) (m.1 18) (m.1 19)) (ho : o < P) (hto : ∃ j, j < P ∧ to = nI j) {s g : Nat} (hs : s < 9) (hg : g < 5) (next : ∀ h, zk_exw N c h → zk_s36 (zk_wA lw m P N to mi o) (zk_wB lw m P N to mi) (zk_bw (zk_gd m o mi) (zk_wA lw m P N to mi o) (zk_wB lw m P N to mi) y (100 * s + 10 * (g + 1))) h → (zk_X zk_C (zk_lkl lkX6) zk_mt (zk_cxl [(36, zk_vP pX4_layCard), (40, zk_iP pX4_canWriteSo), (71, zk_vP pX6_weighWay)]) none (zk_at cdX6_seekWay) (zk_qv KV)) 29 [some (.ref 36), some (.int (nI o)), some (.int to), some (.int mi), some (.int y), some (.int (nI s)), some (.int (nI (g + 1))), none, none] [] h) : ∀ (n t : Nat) (h : zk_H), t + n = 2 → zk_exw N c h → zk_s36 (zk_wA lw m P N to mi o) (zk_wB lw m P N to mi) (zk_bw (zk_gd m o mi) (zk_wA lw m P N to mi o) (zk_wB lw m P N to mi) y (100 * s + 10 * g + t)) h → (zk_X zk_C (zk_lkl lkX6) zk_mt (zk_cxl [(36, zk_vP pX4_layCard), (40, zk_iP pX4_canWriteSo), (71, zk_vP pX6_weighWay)]) none (zk_at cdX6_seekWay) (zk_qv KV)) 38 [some (.ref 36), some (.int (nI o)), some (.int to), some (.int mi), some (.int y), some (.int (nI s)), some (.int (nI g)), some (.int (nI t)), none] [] h := by
  obtain ⟨⟨hP, hN⟩, ⟨f1, f2, f3, f4⟩, -⟩ := id r
  intro n
  induction n with
  | zero =>
    intro t h ht he st
    have ht2 : t = 2 := by omega
    subst ht2
    refine zk_bk hX6_seekWay (bX6_seekWay_38 ?_)
    refine ⟨fun _ => ?_, fun q => absurd (by decide) q⟩
    rw [nI_1]
    have e : zk_bw (zk_gd m o mi) (zk_wA lw m P N to mi o) (zk_wB lw m P N to mi) y (100 * s + 10 * (g + 1)) = zk_bw (zk_gd m o mi) (zk_wA lw m P N to mi o) (zk_wB lw m P N to mi) y (100 * s + 10 * g + 2) := by
      rw [show 100 * s + 10 * (g + 1) = 100 * s + 10 * g + 2 + 8 by omega]
      exact zk_bw_skip 8 fun v h1 h2 => by
        unfold zk_gd
        rw [decide_eq_false (show ¬ v % 10 < 2 by omega)]
        simp
    rw [← e] at st
    refine zk_fg hX6_seekWay ?_ (next h he st)
    exact ⟨rfl, rfl, rfl, rfl, rfl, rfl, rfl, rfl, rfl, trivial⟩
  | succ n ih =>
    intro t h ht he st
    have hw : 100 * s + 10 * g + t < 900 := by omega
    have g1 : (100 * s + 10 * g + t) / 10 % 10 < 5 := by omega
    have g2 : (100 * s + 10 * g + t) % 10 < 2 := by omega
    have go : ∀ (h' : zk_H) (F : Int32), zk_exw N c h' → zk_s36 (zk_wA lw m P N to mi o) (zk_wB lw m P N to mi) (zk_bw (zk_gd m o mi) (zk_wA lw m P N to mi o) (zk_wB lw m P N to mi) y (100 * s + 10 * g + (t + 1))) h' → (zk_X zk_C (zk_lkl lkX6) zk_mt (zk_cxl [(36, zk_vP pX4_layCard), (40, zk_iP pX4_canWriteSo), (71, zk_vP pX6_weighWay)]) none (zk_at cdX6_seekWay) (zk_qv KV)) 38 [some (.ref 36), some (.int (nI o)), some (.int to), some (.int mi), some (.int y), some (.int (nI s)), some (.int (nI g)), some (.int (nI t + 1)), some (.int F)] [] h' := by
      intro h' F he' st'
      rw [nI_1]
      refine zk_fg hX6_seekWay ?_ (ih (t + 1) h' (by omega) he' st')
      exact ⟨rfl, rfl, rfl, rfl, rfl, rfl, rfl, rfl, rfl, trivial⟩
    refine zk_bk hX6_seekWay (bX6_seekWay_38 ?_)
    rw [zk_ways3]
    refine ⟨fun q => absurd ((nI_ltI (a := 1) (by decide) (by omega)).mp q) (by omega), fun _ => jX4_canWriteSo hw (by omega) (fun q => ⟨fun z => absurd z (by decide), fun _ => ?_⟩) (fun q => ⟨fun _ => go h _ he ?_, fun z => absurd rfl z⟩)⟩
    · have hgd : zk_gd m o mi (100 * s + 10 * g + t) = true := (zk_gd_e g1 g2).mpr ((r.wri he ho).mp q)
      have e2 : h.1 1 2 = nI N := by rw [he.1 1 (by simp)]; exact f2
      refine jX4_layCard hw e2 (by omega) ?_
      have he1 : zk_exw N c (zk_cL h N to mi (100 * s + 10 * g + t)) := he.lay
      refine jX6_weighWay (A := zk_wA lw m P N to mi o) (B := zk_wB lw m P N to mi) (b := zk_bw (zk_gd m o mi) (zk_wA lw m P N to mi o) (zk_wB lw m P N to mi) y (100 * s + 10 * g + t)) (r.wow LL he1 zk_mw_exv zk_cL_lc zk_mw_lm hw hto) rfl rfl (fun w => zk_wn_b.2) (fun w => zk_al_b hP) (by rw [he1.1 1 (by simp)]; exact f2) ho (fun d hd => by have := zk_bw_lt hd; omega) ?_ fun c' hc' st' => go c' _ (he1.scr hc' (by decide)) ?_
      · unfold zk_s36 at st ⊢
        rw [show (zk_cL h N to mi (100 * s + 10 * g + t)).1 36 = h.1 36 by simp [zk_cL, zk_si]]
        exact st
      · rw [show 100 * s + 10 * g + (t + 1) = 100 * s + 10 * g + t + 1 by omega]
        unfold zk_bw
        rw [if_pos hgd]
        exact st'
    · have hgd : ¬ zk_gd m o mi (100 * s + 10 * g + t) = true := fun z => q ((r.wri he ho).mpr ((zk_gd_e g1 g2).mp z))
      rw [show 100 * s + 10 * g + (t + 1) = 100 * s + 10 * g + t + 1 by omega]
      unfold zk_bw
      rw [if_neg hgd]
      exact st
theorem l_seek_29 (r : zk_off P N c m) (LL : zk_lpd lw (c.1 28 1) (c.1 29) (m.1 0 19) (m.1 0 20) (m.1 16) (m.1 17) (m.1 18) (m.1 19)) (ho : o < P) (hto : ∃ j, j < P ∧ to = nI j) {s : Nat} (hs : s < 9) (next : ∀ h, zk_exw N c h → zk_s36 (zk_wA lw m P N to mi o) (zk_wB lw m P N to mi) (zk_bw (zk_gd m o mi) (zk_wA lw m P N to mi o) (zk_wB lw m P N to mi) y (100 * (s + 1))) h → (zk_X zk_C (zk_lkl lkX6) zk_mt (zk_cxl [(36, zk_vP pX4_layCard), (40, zk_iP pX4_canWriteSo), (71, zk_vP pX6_weighWay)]) none (zk_at cdX6_seekWay) (zk_qv KV)) 19 [some (.ref 36), some (.int (nI o)), some (.int to), some (.int mi), some (.int y), some (.int (nI (s + 1))), none, none, none] [] h) : ∀ (n g : Nat) (h : zk_H), g + n = 5 → zk_exw N c h → zk_s36 (zk_wA lw m P N to mi o) (zk_wB lw m P N to mi) (zk_bw (zk_gd m o mi) (zk_wA lw m P N to mi o) (zk_wB lw m P N to mi) y (100 * s + 10 * g)) h → (zk_X zk_C (zk_lkl lkX6) zk_mt (zk_cxl [(36, zk_vP pX4_layCard), (40, zk_iP pX4_canWriteSo), (71, zk_vP pX6_weighWay)]) none (zk_at cdX6_seekWay) (zk_qv KV)) 29 [some (.ref 36), some (.int (nI o)), some (.int to), some (.int mi), some (.int y), some (.int (nI s)), some (.int (nI g)), none, none] [] h := by
  intro n
  induction n with
  | zero =>
    intro g h hg he st
    have hg5 : g = 5 := by omega
    subst hg5
    refine zk_bk hX6_seekWay (bX6_seekWay_29 ?_)
    refine ⟨fun _ => ?_, fun q => absurd (by decide) q⟩
    rw [nI_1]
    have e : zk_bw (zk_gd m o mi) (zk_wA lw m P N to mi o) (zk_wB lw m P N to mi) y (100 * (s + 1)) = zk_bw (zk_gd m o mi) (zk_wA lw m P N to mi o) (zk_wB lw m P N to mi) y (100 * s + 10 * 5) := by
      rw [show 100 * (s + 1) = 100 * s + 10 * 5 + 50 by omega]
      exact zk_bw_skip 50 fun v h1 h2 => by
        unfold zk_gd
        rw [decide_eq_false (show ¬ v / 10 % 10 < 5 by omega)]
        simp
    rw [← e] at st
    refine zk_fg hX6_seekWay ?_ (next h he st)
    exact ⟨rfl, rfl, rfl, rfl, rfl, rfl, rfl, rfl, rfl, trivial⟩
  | succ n ih =>
    intro g h hg he st
    refine zk_bk hX6_seekWay (bX6_seekWay_29 ?_)
    refine ⟨fun q => absurd ((nI_ltI (a := 4) (by decide) (by omega)).mp q) (by omega), fun _ => ?_⟩
    exact l_seek_38 r LL ho hto hs (by omega) (fun h' he' st' => ih (g + 1) h' (by omega) he' st') 2 0 h (by omega) he st
theorem jX6_seekWay (r : zk_off P N c m) (LL : zk_lpd lw (c.1 28 1) (c.1 29) (m.1 0 19) (m.1 0 20) (m.1 16) (m.1 17) (m.1 18) (m.1 19)) (ho : o < P) (hto : ∃ j, j < P ∧ to = nI j) (H : ∀ h, zk_exw N c h → zk_s36 (zk_wA lw m P N to mi o) (zk_wB lw m P N to mi) (zk_bw (zk_gd m o mi) (zk_wA lw m P N to mi o) (zk_wB lw m P N to mi) y 842) h → KV h) : pX6_seekWay [.ref 36, .int (nI o), .int to, .int mi, .int y] c KV := by
  have key : ∀ (n s : Nat) (h : zk_H), s + n = 9 → zk_exw N c h → zk_s36 (zk_wA lw m P N to mi o) (zk_wB lw m P N to mi) (zk_bw (zk_gd m o mi) (zk_wA lw m P N to mi o) (zk_wB lw m P N to mi) y (100 * s)) h → (zk_X zk_C (zk_lkl lkX6) zk_mt (zk_cxl [(36, zk_vP pX4_layCard), (40, zk_iP pX4_canWriteSo), (71, zk_vP pX6_weighWay)]) none (zk_at cdX6_seekWay) (zk_qv KV)) 19 [some (.ref 36), some (.int (nI o)), some (.int to), some (.int mi), some (.int y), some (.int (nI s)), none, none, none] [] h := by
    intro n
    induction n with
    | zero =>
      intro s h hs he st
      have hs9 : s = 9 := by omega
      subst hs9
      refine zk_bk hX6_seekWay (bX6_seekWay_19 ?_)
      refine ⟨fun _ => H h he ?_, fun q => absurd (by decide) q⟩
      have e : zk_bw (zk_gd m o mi) (zk_wA lw m P N to mi o) (zk_wB lw m P N to mi) y (842 + 58) = zk_bw (zk_gd m o mi) (zk_wA lw m P N to mi o) (zk_wB lw m P N to mi) y 842 := zk_bw_skip 58 fun v h1 h2 => by
        unfold zk_gd
        rcases Nat.lt_or_ge v 850 with u | u
        · rw [decide_eq_false (show ¬ v % 10 < 2 by omega)]
          simp
        · rw [decide_eq_false (show ¬ v / 10 % 10 < 5 by omega)]
          simp
      rw [← e]
      exact st
    | succ n ih =>
      intro s h hs he st
      refine zk_bk hX6_seekWay (bX6_seekWay_19 ?_)
      refine ⟨fun q => absurd ((nI_ltI (a := 8) (by decide) (by omega)).mp q) (by omega), fun _ => ?_⟩
      exact l_seek_29 r LL ho hto (by omega) (fun h' he' st' => ih (s + 1) h' (by omega) he' st') 5 0 h (by omega) he st
  refine ⟨rfl, zk_bk hX6_seekWay (bX6_seekWay_0 ?_)⟩
  have x1 : zk_exw N c (zk_si (zk_si (zk_si c 36 3 (-2)) 36 4 0) 36 5 1) := zk_exw.rf.scr (S := [36]) (((zk_ex.rf.si (by simp)).si (by simp)).si (by simp)) (by decide)
  exact key 9 0 _ (by omega) x1 (by simp [zk_s36, zk_bw, zk_si]; exact ⟨rfl, rfl⟩)
end ZKW
