/-! CALL: could -/
section ZKW
variable {K : Int32 → zk_H → Prop} {h : zk_H} {x y : Int32} {P : Nat}
def zk_cq (h : zk_H) (i o : Nat) : Bool := (!decide (nI o = h.1 7 i)) && (decide (h.1 10 i < 0) || decide ((h.1 6 o >>> (h.1 10 i &&& 31)) &&& 1 = 1)) && (decide (h.1 11 i = 0) || (decide (h.1 1 o ≤ h.1 8 i ∧ h.1 8 i ≤ h.1 2 o)))
theorem jX12_could {i o : Nat} (hi : i < 7) (ho : o < 8) (H : K (if zk_cq h i o then 1 else 0) h) : pX12_could [.ref 0, .int (nI o), .int (nI i)] h K := by
  have vi := vp_in_nI (n := i) (N := 7) hi (by decide)
  have vo := vp_in_nI (n := o) (N := 8) ho (by decide)
  have Ht : zk_cq h i o = true → ((1 : Int32) = 0 ∨ (1 : Int32) = 1) ∧ K 1 h := fun q => ⟨Or.inr rfl, by rw [if_pos q] at H; exact H⟩
  have Hf : zk_cq h i o = false → ((0 : Int32) = 0 ∨ (0 : Int32) = 1) ∧ K 0 h := fun q => ⟨Or.inl rfl, by rw [if_neg (by rw [q]; decide)] at H; exact H⟩
  refine ⟨rfl, zk_bk hX12_could (bX12_could_0 ?_)⟩
  rw [nI_clamp (n := i) (by omega), nI_clamp (n := o) (by omega)]
  refine ⟨vi, fun q1 => Hf (by unfold zk_cq; rw [decide_eq_true q1]; rfl), fun q1 => ⟨vi, fun q2 => ⟨vi, fun q3 => Ht (by unfold zk_cq; rw [decide_eq_false q1, decide_eq_true q2, decide_eq_true q3]; rfl), fun q3 => ⟨vi, jX12_isIn ho ⟨fun q4 => Hf ?_, fun q4 => Ht ?_⟩⟩⟩, fun q2 => ⟨vo, vi, jX12_has ⟨fun q3 => ⟨vi, fun q4 => Ht ?_, fun q4 => ⟨vi, jX12_isIn ho ⟨fun q5 => Hf ?_, fun q5 => Ht ?_⟩⟩⟩, fun q3 => Hf ?_⟩⟩⟩⟩
  · unfold zk_cq; rw [decide_eq_false q1, decide_eq_true q2, decide_eq_false q3, decide_eq_false (zk_b_0.mp q4)]; rfl
  · unfold zk_cq; rw [decide_eq_false q1, decide_eq_true q2, decide_eq_false q3, decide_eq_true (zk_b_n q4)]; rfl
  · unfold zk_cq; rw [decide_eq_false q1, decide_eq_false q2, decide_eq_true (zk_b_n q3), decide_eq_true q4]; rfl
  · unfold zk_cq; rw [decide_eq_false q1, decide_eq_false q2, decide_eq_true (zk_b_n q3), decide_eq_false q4, decide_eq_false (zk_b_0.mp q5)]; rfl
  · unfold zk_cq; rw [decide_eq_false q1, decide_eq_false q2, decide_eq_true (zk_b_n q3), decide_eq_false q4, decide_eq_true (zk_b_n q5)]; rfl
  · unfold zk_cq; rw [decide_eq_false q1, decide_eq_false q2, decide_eq_false (zk_b_0.mp q3)]; rfl
theorem l_could_4 {i : Nat} (hP : P ≤ 8) (hi : i < 7) (e : h.1 0 0 = nI P) (H : K (nI (zk_mask (zk_cq h i) P)) h) :
    ∀ (n o : Nat), o + n = P → (zk_X zk_D (zk_lkl lkX12) zk_mt (zk_cxl [(195, zk_iP pX12_could)]) (some .int) (zk_at cdX12_couldAll) (zk_qi K)) 4 [some (.ref 0), some (.int (nI i)), some (.int (nI (zk_mask (zk_cq h i) o))), some (.int (nI o))] [] h := by
  intro n
  induction n with
  | zero =>
    intro o ho
    have hiN : o = P := by omega
    subst hiN
    refine zk_bk hX12_couldAll (bX12_couldAll_4 ?_)
    rw [e]
    exact ⟨fun _ => H, fun q => absurd ((nI_leI (by omega) (by omega)).mpr (Nat.le_refl _)) q⟩
  | succ n ih =>
    intro o ho
    have I := ih (o + 1) (by omega)
    refine zk_bk hX12_couldAll (bX12_couldAll_4 ?_)
    rw [e]
    refine ⟨fun q => absurd q (nI_ge (by omega) (by omega)), fun _ => jX12_could hi (by omega) ?_⟩
    cases hh : zk_cq h i o
    · rw [show zk_mask (zk_cq h i) (o + 1) = zk_mask (zk_cq h i) o from by rw [zk_mask, hh]; exact Nat.or_zero _] at I
      rw [nI_1]
      exact ⟨fun _ => I, fun q => absurd rfl q⟩
    · rw [show zk_mask (zk_cq h i) (o + 1) = zk_mask (zk_cq h i) o ||| 2 ^ o from by rw [zk_mask, hh]; rfl] at I
      rw [nI_1, zk_shl o (by omega), nI_or]
      exact ⟨fun q => absurd q (by decide), fun _ => I⟩
theorem jX12_couldAll {i : Nat} (hP : P ≤ 8) (hi : i < 7) (e : h.1 0 0 = nI P) (H : K (nI (zk_mask (zk_cq h i) P)) h) : pX12_couldAll [.ref 0, .int (nI i)] h K := by
  refine ⟨rfl, zk_bk hX12_couldAll (bX12_couldAll_0 ?_)⟩
  exact l_could_4 hP hi e H P 0 (by omega)
/-- both mean the same by could -/
theorem zk_off.could {N i o : Nat} {c m : zk_H} (r : zk_off P N c m) (hi : i < N) (ho : o < P) : zk_cp c i (c.1 11 i) o = zk_cq m i o := by
  obtain ⟨-, -, f5, f6, -⟩ := r
  obtain ⟨a1, a2, a3, a4, a5, a6⟩ := f5 o ho
  obtain ⟨b1, b2, b3, b4, b5, -⟩ := f6 i hi
  unfold zk_cp zk_cq
  rw [a1, a2, a6, b1, b3, b4, b5]
theorem jX4_whoCould {N i : Nat} {m : zk_H} (r : zk_off P N h m) (hi : i < N) (H : K (nI (zk_mask (zk_cq m i) P)) h) : pX4_whoCould [.ref 1, .int (nI i)] h K := by
  obtain ⟨⟨hP, hN⟩, ⟨f1, f2, f3, f4⟩, f5, f6, f7, f8, f9, f10⟩ := id r
  obtain ⟨-, j, hj, ej⟩ := f9 i hi
  refine ⟨rfl, zk_bk hX4_whoCould (bX4_whoCould_0 ?_)⟩
  refine ⟨(by unfold vp_in; decide), vp_in_nI (by omega) (by decide), ?_⟩
  rw [nI_clamp (n := i) (by omega)]
  refine jX4_whoCouldWithSecret hP f1 (by omega) (by omega) ((f6 i hi).2.2.2.2.1.trans ej) ?_
  rw [zk_mask_c fun o ho => r.could hi ho]
  exact H
end ZKW
section ZK3
variable {lp : zk_lp} {c m : zk_H} {x y z : Int32}
theorem e_could (R : zk_RR lp c m) : pX11_could [.ref 0, .int x] c (fun v c' => pX12_could_ [.ref 0, .int x] m (fun v' m' => v = v' ∧ zk_RR lp c' m')) := by
  obtain ⟨P, N, D, U, T, B, R8⟩ := id R
  obtain ⟨r1, -⟩ := id R8
  obtain ⟨⟨hP, hN⟩, ⟨f1, f2, f3, f4⟩, -⟩ := id r1
  refine ⟨rfl, zk_bk hX11_could (bX11_could_0 ?_)⟩
  refine jX4_isCard ?_
  rw [f2]
  refine ⟨fun q => ?_, fun q => ?_⟩
  · show pX12_could_ _ _ _
    refine ⟨rfl, zk_bk hX12_could_ (bX12_could__0 ?_)⟩
    exact jX12_isCard f4 (by omega) ⟨fun _ => ⟨rfl, R⟩, fun q2 => absurd (zk_b_n q2) (zk_b_0.mp q)⟩
  · obtain ⟨i, hi, ei⟩ := zk_ix (by omega) (zk_b_n q).1 (zk_b_n q).2
    subst ei
    refine jX4_whoCould r1 hi ?_
    show pX12_could_ _ _ _
    refine ⟨rfl, zk_bk hX12_could_ (bX12_could__0 ?_)⟩
    exact jX12_isCard f4 (by omega) ⟨fun q2 => absurd (zk_b_n q) (zk_b_0.mp q2), fun _ => jX12_couldAll hP (by omega) f3 ⟨rfl, R⟩⟩
end ZK3
