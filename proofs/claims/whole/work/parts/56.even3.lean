/-! CALLS: evenings, hears -/
section ZK3
variable {lp : zk_lp} {c m : zk_H} {x y z : Int32}
theorem zk_secret {x : Int32} : (0 ≤ x ∧ x < 8) ↔ (0 ≤ x ∧ x ≤ 7) := by
  constructor
  · intro q; ((try simp only [zk_b_0, zk_b_1] at *); simp only [Int32.lt_iff_toInt_lt, Int32.le_iff_toInt_le, ← Int32.toInt_inj, Int32.reduceToInt] at *; omega)
  · intro q; ((try simp only [zk_b_0, zk_b_1] at *); simp only [Int32.lt_iff_toInt_lt, Int32.le_iff_toInt_le, ← Int32.toInt_inj, Int32.reduceToInt] at *; omega)
abbrev zk_pc (c : zk_H) (x : Int32) : Nat → Bool := fun o => decide ((c.1 8 o >>> (x &&& 31)) &&& 1 = 1)
abbrev zk_pm' (m : zk_H) (x : Int32) : Nat → Bool := fun o => decide ((m.1 6 o >>> (x &&& 31)) &&& 1 = 1)
theorem zk_off.pk {P N : Nat} (r : zk_off P N c m) : zk_mask (zk_pc c x) P = zk_mask (zk_pm' m x) P := zk_mask_c fun o ho => by
  have := (r.2.2.1 o ho).2.2.2.2.2
  unfold zk_pc zk_pm'
  rw [this]
theorem zk_m_in {p : Nat → Bool} {P : Nat} : nI (zk_mask p P) &&& nI (zk_mask (fun _ => true) P) = nI (zk_mask p P) := by
  rw [nI_and, zk_mask_and]
  exact congrArg nI (zk_mask_c fun o _ => by simp)
theorem l_after_9 {K : Int32 → zk_H → Prop} {P X : Nat} {M : Int32} (hP : P ≤ 8) (hX : X ≤ 9) (e : c.1 1 1 = nI P) (hM : M &&& nI (zk_mask (fun _ => true) P) = M) (H : K (zk_ev (c.1 7) (nI (zk_mask (fun _ => true) P)) M P X) c) :
    ∀ (n t : Nat), t + n = X → (zk_X zk_C (zk_lkl lkX4) zk_mt (zk_cxl [(45, zk_iP pX4_whoKnows), (48, zk_iP pX4_toldOn)]) (some .int) (zk_at cdX4_whoKnowsAfter) (zk_qi K)) 9 [some (.ref 1), some (.int x), some (.int (nI X)), some (.int (zk_ev (c.1 7) (nI (zk_mask (fun _ => true) P)) M P t)), some (.int (nI t))] [] c := by
  intro n
  induction n with
  | zero =>
    intro t ht
    have hiN : t = X := by omega
    subst hiN
    refine zk_bk hX4_whoKnowsAfter (bX4_whoKnowsAfter_9 ?_)
    exact ⟨fun _ => H, fun q => absurd ((nI_leI (by omega) (by omega)).mpr (Nat.le_refl _)) q⟩
  | succ n ih =>
    intro t ht
    refine zk_bk hX4_whoKnowsAfter (bX4_whoKnowsAfter_9 ?_)
    refine ⟨fun q => absurd q (nI_ge (by omega) (by omega)), fun _ => jX4_toldOn hP e (zk_ev_in hM t) ?_⟩
    rw [nI_1]
    exact ih (t + 1) (by omega)
theorem e_evenings (R : zk_RR lp c m) : pX11_evenings [.ref 0, .int x, .int y] c (fun v c' => pX12_evenings [.ref 0, .int x, .int y] m (fun v' m' => v = v' ∧ zk_RR lp c' m')) := by
  obtain ⟨P, N, D, U, T, B, R8⟩ := id R
  obtain ⟨r1, -⟩ := id R8
  obtain ⟨⟨hP, hN⟩, ⟨f1, f2, f3, f4⟩, f5, -⟩ := id r1
  have out : ¬ ((0 ≤ x ∧ x < 8) ∧ (0 ≤ y ∧ y ≤ 9)) → pX12_evenings [.ref 0, .int x, .int y] m (fun v' m' => -1 = v' ∧ zk_RR lp c m') := by
    intro q
    refine ⟨rfl, zk_bk hX12_evenings (bX12_evenings_0 ?_)⟩
    refine jX12_isSecret ⟨fun _ => ⟨rfl, R⟩, fun q1 => jX12_within ⟨fun q2 => absurd ⟨zk_secret.mpr (zk_b_n q1), zk_b_n q2⟩ q, fun _ => ⟨rfl, R⟩⟩⟩
  refine ⟨rfl, zk_bk hX11_evenings (bX11_evenings_0 ?_)⟩
  refine jX4_isSecret ⟨fun q => ?_, fun q => ⟨fun q1 => ?_, fun q1 => ⟨fun q2 => ?_, fun q2 => ?_⟩⟩⟩
  · show pX12_evenings _ _ _
    exact out fun z => zk_b_0.mp q z.1
  · show pX12_evenings _ _ _
    exact out fun z => by
      have a := z.2.1
      clear z out q
      ((try simp only [zk_b_0, zk_b_1] at *); simp only [Int32.lt_iff_toInt_lt, Int32.le_iff_toInt_le, ← Int32.toInt_inj, Int32.reduceToInt] at *; omega)
  · obtain ⟨X, hX, eX⟩ := nI_of2 (x := y) (M := 9) (n := 9) rfl q1 q2
    subst eX
    refine ⟨rfl, zk_bk hX4_whoKnowsAfter (bX4_whoKnowsAfter_0 ?_)⟩
    refine jX4_whoKnows (p := zk_pc c x) hP f1 (fun o _ => by simp) ?_
    refine l_after_9 hP hX f1 zk_m_in ?_ X 0 (by omega)
    show pX12_evenings _ _ _
    refine ⟨rfl, zk_bk hX12_evenings (bX12_evenings_0 ?_)⟩
    refine jX12_isSecret ⟨fun q3 => absurd (zk_secret.mp (zk_b_n q)) (zk_b_0.mp q3), fun _ => jX12_within ⟨fun _ => ?_, fun q3 => ?_⟩⟩
    · refine jX12_tellsOn (L := c.1 7) (p := zk_pm' m x) hP f3 (fun o ho => ((f5 o ho).2.2.2.2.1).symm) (fun o _ => by simp) fun h' he ht => ?_
      rw [nI_clamp (n := X) (by omega), ht X (by omega), r1.pk]
      exact ⟨vp_in_nI (by omega) (by decide), rfl, P, N, D, U, T, B, zk_R_scr R8 (fun _ _ => rfl) rfl (fun i _ => by rw [he.1 0 (by decide)]) (fun k _ _ _ h _ => he.1 k (by simp [h])) he.2⟩
    · exact absurd ⟨nI_pos' (by omega), q2⟩ (zk_b_0.mp q3)
  · show pX12_evenings _ _ _
    exact out fun z => q2 z.2.2
end ZK3
