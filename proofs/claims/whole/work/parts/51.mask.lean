/-! People as masks -/
theorem nI_and (a b : Nat) : nI a &&& nI b = nI (a &&& b) := by
  show Int32.ofBitVec (BitVec.ofNat 32 a) &&& Int32.ofBitVec (BitVec.ofNat 32 b) = Int32.ofBitVec (BitVec.ofNat 32 (a &&& b))
  rw [BitVec.ofNat_and]
  rfl
theorem nI_or (a b : Nat) : nI a ||| nI b = nI (a ||| b) := by
  show Int32.ofBitVec (BitVec.ofNat 32 a) ||| Int32.ofBitVec (BitVec.ofNat 32 b) = Int32.ofBitVec (BitVec.ofNat 32 (a ||| b))
  rw [BitVec.ofNat_or]
  rfl
def zk_mask (p : Nat → Bool) : Nat → Nat
  | 0 => 0
  | n + 1 => zk_mask p n ||| (if p n then 2 ^ n else 0)
theorem zk_mask_tb {p : Nat → Bool} {i : Nat} : ∀ {n : Nat}, (zk_mask p n).testBit i = (decide (i < n) && p i)
  | 0 => by simp [zk_mask]
  | n + 1 => by
    unfold zk_mask
    rw [Nat.testBit_or, zk_mask_tb]
    by_cases e : i = n
    · subst e
      cases hp : p i <;> simp [Nat.testBit_two_pow]
    · have h1 : decide (i < n + 1) = decide (i < n) := by
        by_cases q : i < n
        · simp [q]; omega
        · simp [q]; omega
      rw [h1]
      cases hp : p n
      · simp
      · have : ¬ n = i := fun z => e z.symm
        simp [Nat.testBit_two_pow, this]
theorem zk_mask_and {p q : Nat → Bool} {n : Nat} : zk_mask p n &&& zk_mask q n = zk_mask (fun i => p i && q i) n := by
  apply Nat.eq_of_testBit_eq
  intro i
  rw [Nat.testBit_and, zk_mask_tb, zk_mask_tb, zk_mask_tb]
  cases decide (i < n) <;> simp
theorem zk_mask_c {p q : Nat → Bool} : ∀ {n : Nat}, (∀ i, i < n → p i = q i) → zk_mask p n = zk_mask q n
  | 0, _ => rfl
  | n + 1, h => by
    unfold zk_mask
    rw [zk_mask_c fun i hi => h i (by omega), h n (by omega)]
theorem zk_mask_lt {p : Nat → Bool} {n : Nat} (h : n ≤ 8) : zk_mask p n < 256 := by
  have key : ∀ k, k ≤ 8 → zk_mask p k < 2 ^ k := by
    intro k
    induction k with
    | zero => intro _; exact Nat.zero_lt_one
    | succ k ih =>
      intro hk
      unfold zk_mask
      refine Nat.or_lt_two_pow (Nat.lt_of_lt_of_le (ih (by omega)) (Nat.pow_le_pow_right (by decide) (by omega))) ?_
      cases p k
      · exact Nat.two_pow_pos _
      · exact Nat.pow_lt_pow_right (by decide) (by omega)
  exact Nat.lt_of_lt_of_le (key n h) (Nat.pow_le_pow_right (n := 2) (by decide) h)
theorem zk_shl : ∀ n, n < 8 → ((1 : Int32) <<< (nI n &&& 31)) = nI (2 ^ n) := by decide +kernel
theorem zk_every : ∀ n, n < 9 → ((1 : Int32) <<< (nI n &&& 31)) - 1 = nI (zk_mask (fun _ => true) n) := by decide +kernel
theorem zk_allbut : ∀ n, n < 9 → ∀ j, j < 8 → nI (zk_mask (fun _ => true) n) &&& (((1 : Int32) <<< (nI j &&& 31)) ^^^ (-1 : Int32)) = nI (zk_mask (fun o => !decide (o = j)) n) := by decide +kernel
theorem zk_bitof : ∀ n, n < 8 → ∀ M, M < 256 → ((nI M >>> (nI n &&& 31)) &&& 1 = if M.testBit n then 1 else 0) := by decide +kernel
section ZKW
variable {K : Int32 → zk_H → Prop} {h : zk_H} {x y : Int32} {P : Nat}
theorem jX4_everybody (hP : P ≤ 8) (e : h.1 1 1 = nI P) (H : K (nI (zk_mask (fun _ => true) P)) h) : pX4_everybody [.ref 1] h K := by
  refine ⟨rfl, zk_bk hX4_everybody (bX4_everybody_0 ?_)⟩
  rw [e, zk_every P (by omega)]
  exact H
theorem l_knows_4 {p : Nat → Bool} (hP : P ≤ 8) (e : h.1 1 1 = nI P) (hp : ∀ o, o < 8 → (p o = true ↔ (h.1 8 o >>> (x &&& 31)) &&& 1 = 1)) (H : K (nI (zk_mask p P)) h) :
    ∀ (n i : Nat), i + n = P → (zk_X zk_C (zk_lkl lkX4) zk_mt (zk_cxl [(38, zk_iP pX4_knows)]) (some .int) (zk_at cdX4_whoKnows) (zk_qi K)) 4 [some (.ref 1), some (.int x), some (.int (nI (zk_mask p i))), some (.int (nI i))] [] h := by
  intro n
  induction n with
  | zero =>
    intro i hi
    have hiN : i = P := by omega
    subst hiN
    refine zk_bk hX4_whoKnows (bX4_whoKnows_4 ?_)
    rw [e]
    exact ⟨fun _ => H, fun q => absurd ((nI_leI (by omega) (by omega)).mpr (Nat.le_refl _)) q⟩
  | succ n ih =>
    intro i hi
    have I := ih (i + 1) (by omega)
    refine zk_bk hX4_whoKnows (bX4_whoKnows_4 ?_)
    rw [e]
    refine ⟨fun q => absurd q (nI_ge (by omega) (by omega)), fun _ => jX4_knows (by omega) ⟨fun q => ?_, fun q => ?_⟩⟩
    · have hf : p i = false := by
        cases hh : p i
        · rfl
        · exact absurd ((hp i (by omega)).mp hh) (zk_b_0.mp q)
      rw [show zk_mask p (i + 1) = zk_mask p i from by rw [zk_mask, hf]; exact Nat.or_zero _] at I
      rw [nI_1]
      exact I
    · have ht : p i = true := (hp i (by omega)).mpr (zk_b_n q)
      rw [show zk_mask p (i + 1) = zk_mask p i ||| 2 ^ i from by rw [zk_mask, ht]; rfl] at I
      rw [nI_1, zk_shl i (by omega), nI_or]
      exact I
theorem jX4_whoKnows {p : Nat → Bool} (hP : P ≤ 8) (e : h.1 1 1 = nI P) (hp : ∀ o, o < 8 → (p o = true ↔ (h.1 8 o >>> (x &&& 31)) &&& 1 = 1)) (H : K (nI (zk_mask p P)) h) : pX4_whoKnows [.ref 1, .int x] h K := by
  refine ⟨rfl, zk_bk hX4_whoKnows (bX4_whoKnows_0 ?_)⟩
  exact l_knows_4 hP e hp H P 0 (by omega)
theorem l_isIn_4 {p : Nat → Bool} (hP : P ≤ 8) (e : h.1 1 1 = nI P) (hp : ∀ o, o < 8 → (p o = true ↔ (h.1 3 o ≤ x ∧ x ≤ h.1 4 o))) (H : K (nI (zk_mask p P)) h) :
    ∀ (n i : Nat), i + n = P → (zk_X zk_C (zk_lkl lkX4) zk_mt (zk_cxl [(39, zk_iP pX4_isIn)]) (some .int) (zk_at cdX4_whoIsIn) (zk_qi K)) 4 [some (.ref 1), some (.int x), some (.int (nI (zk_mask p i))), some (.int (nI i))] [] h := by
  intro n
  induction n with
  | zero =>
    intro i hi
    have hiN : i = P := by omega
    subst hiN
    refine zk_bk hX4_whoIsIn (bX4_whoIsIn_4 ?_)
    rw [e]
    exact ⟨fun _ => H, fun q => absurd ((nI_leI (by omega) (by omega)).mpr (Nat.le_refl _)) q⟩
  | succ n ih =>
    intro i hi
    have I := ih (i + 1) (by omega)
    refine zk_bk hX4_whoIsIn (bX4_whoIsIn_4 ?_)
    rw [e]
    refine ⟨fun q => absurd q (nI_ge (by omega) (by omega)), fun _ => jX4_isIn (by omega) ⟨fun q => ?_, fun q => ?_⟩⟩
    · have hf : p i = false := by
        cases hh : p i
        · rfl
        · exact absurd ((hp i (by omega)).mp hh) (zk_b_0.mp q)
      rw [show zk_mask p (i + 1) = zk_mask p i from by rw [zk_mask, hf]; exact Nat.or_zero _] at I
      rw [nI_1]
      exact I
    · have ht : p i = true := (hp i (by omega)).mpr (zk_b_n q)
      rw [show zk_mask p (i + 1) = zk_mask p i ||| 2 ^ i from by rw [zk_mask, ht]; rfl] at I
      rw [nI_1, zk_shl i (by omega), nI_or]
      exact I
theorem jX4_whoIsIn {p : Nat → Bool} (hP : P ≤ 8) (e : h.1 1 1 = nI P) (hp : ∀ o, o < 8 → (p o = true ↔ (h.1 3 o ≤ x ∧ x ≤ h.1 4 o))) (H : K (nI (zk_mask p P)) h) : pX4_whoIsIn [.ref 1, .int x] h K := by
  refine ⟨rfl, zk_bk hX4_whoIsIn (bX4_whoIsIn_0 ?_)⟩
  exact l_isIn_4 hP e hp H P 0 (by omega)
/-- who could have written card i, were its secret x -/
def zk_cp (h : zk_H) (i : Nat) (x : Int32) (o : Nat) : Bool := (!decide (nI o = h.1 16 i)) && (decide (x < 0) || decide ((h.1 8 o >>> (x &&& 31)) &&& 1 = 1)) && (decide (h.1 12 i = 0) || (decide (h.1 3 o ≤ h.1 9 i ∧ h.1 9 i ≤ h.1 4 o)))
theorem jX4_whoCouldWithSecret {i j : Nat} (hP : P ≤ 8) (e : h.1 1 1 = nI P) (hi : i < 8) (hj : j < 8) (ej : h.1 16 i = nI j) (H : K (nI (zk_mask (zk_cp h i x) P)) h) : pX4_whoCouldWithSecret [.ref 1, .int (nI i), .int x] h K := by
  have v8 := vp_in_nI (n := i) (N := 8) hi (by decide)
  have nj : ∀ o, o < P → decide (nI o = nI j) = decide (o = j) := fun o ho => by
    by_cases q : o = j
    · subst q; simp
    · rw [decide_eq_false q, decide_eq_false (nI_neq q (by omega) (by omega))]
  refine ⟨rfl, zk_bk hX4_whoCouldWithSecret (bX4_whoCouldWithSecret_0 ?_)⟩
  refine jX4_everybody hP e ⟨(by unfold vp_in; decide), v8, fun q => ⟨(by unfold vp_in; decide), v8, ?_⟩, fun q => jX4_whoKnows (p := fun o => decide ((h.1 8 o >>> (x &&& 31)) &&& 1 = 1)) hP e (fun o _ => by simp) ⟨(by unfold vp_in; decide), v8, ?_⟩⟩
  · rw [nI_clamp (n := i) (by omega), ej, zk_allbut P (by omega) j hj]
    refine ⟨fun q2 => ⟨(by unfold vp_in; decide), v8, jX4_whoIsIn (p := fun o => decide (h.1 3 o ≤ h.1 9 i ∧ h.1 9 i ≤ h.1 4 o)) hP e (fun o _ => by simp) ?_⟩, fun q2 => ?_⟩
    · rw [nI_and, zk_mask_and]
      rw [zk_mask_c (q := fun o => (!decide (o = j)) && decide (h.1 3 o ≤ h.1 9 i ∧ h.1 9 i ≤ h.1 4 o)) (fun o ho => by unfold zk_cp; rw [ej, nj o ho, decide_eq_true q, decide_eq_false q2]; simp)] at H
      exact H
    · rw [zk_mask_c (q := fun o => (!decide (o = j))) (fun o ho => by unfold zk_cp; rw [ej, nj o ho, decide_eq_true q, decide_eq_true q2]; simp)] at H
      exact H
  · rw [nI_clamp (n := i) (by omega), ej, zk_allbut P (by omega) j hj]
    refine ⟨fun q2 => ⟨(by unfold vp_in; decide), v8, jX4_whoIsIn (p := fun o => decide (h.1 3 o ≤ h.1 9 i ∧ h.1 9 i ≤ h.1 4 o)) hP e (fun o _ => by simp) ?_⟩, fun q2 => ?_⟩
    · rw [nI_and, zk_mask_and, nI_and, zk_mask_and]
      rw [zk_mask_c (q := fun o => ((!decide (o = j)) && decide ((h.1 8 o >>> (x &&& 31)) &&& 1 = 1)) && decide (h.1 3 o ≤ h.1 9 i ∧ h.1 9 i ≤ h.1 4 o)) (fun o ho => by unfold zk_cp; rw [ej, nj o ho, decide_eq_false q, decide_eq_false q2]; simp)] at H
      exact H
    · rw [nI_and, zk_mask_and]
      rw [zk_mask_c (q := fun o => ((!decide (o = j)) && decide ((h.1 8 o >>> (x &&& 31)) &&& 1 = 1))) (fun o ho => by unfold zk_cp; rw [ej, nj o ho, decide_eq_false q, decide_eq_true q2]; simp)] at H
      exact H
end ZKW
