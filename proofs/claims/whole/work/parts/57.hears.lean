/-! CALL: hears -/
section ZK3
variable {lp : zk_lp} {c m : zk_H} {x y z : Int32}
theorem l_hears {K : Int32 → zk_H → Prop} {P o : Nat} {M : Int32} {tab : zk_H → Prop} (hP : P ≤ 8) (ho : o < 8) (e : c.1 1 1 = nI P) (hM : M &&& nI (zk_mask (fun _ => true) P) = M) (ht : ∀ h', tab h' → ∀ t, t < 10 → h'.1 35 t = zk_ev (c.1 7) (nI (zk_mask (fun _ => true) P)) M P t) :
    ∀ (n t : Nat), t + n = 10 → (∀ v, (∀ h' (Kr : Int32 → zk_H → Prop), tab h' → Kr v h' → (zk_X zk_D (zk_lkl lkX12) zk_mt (zk_cxl [(154, zk_iP pX12_isOne), (161, zk_iP pX12_isSecret), (163, zk_iP pX12_has), (212, zk_vP pX12_tellsOn)]) (some .int) (zk_at cdX12_hears) (zk_qi Kr)) 24 [some (.ref 0), some (.int x), some (.int (nI o)), some (.int (nI t))] [] h') → K v c) → (zk_X zk_C (zk_lkl lkX4) zk_mt (zk_cxl [(45, zk_iP pX4_whoKnows), (48, zk_iP pX4_toldOn)]) (some .int) (zk_at cdX4_eveningOfHearing) (zk_qi K)) 9 [some (.ref 1), some (.int x), some (.int (nI o)), some (.int (zk_ev (c.1 7) (nI (zk_mask (fun _ => true) P)) M P t)), some (.int (nI t))] [] c := by
  intro n
  induction n with
  | zero =>
    intro t hi hK
    have hiN : t = 10 := by omega
    subst hiN
    refine zk_bk hX4_eveningOfHearing (bX4_eveningOfHearing_9 ?_)
    refine ⟨fun _ => hK _ fun h' Kr h1 h2 => ?_, fun q => absurd (by decide) q⟩
    refine zk_bk hX12_hears (bX12_hears_24 ?_)
    exact ⟨fun _ => h2, fun q => absurd (by decide) q⟩
  | succ n ih =>
    intro t hi hK
    refine zk_bk hX4_eveningOfHearing (bX4_eveningOfHearing_9 ?_)
    have en := nI_toInt (n := t) (by omega)
    refine ⟨fun q => ?_, fun _ => ⟨fun q => jX4_toldOn hP e (zk_ev_in hM t) ?_, fun q => hK _ fun h' Kr h1 h2 => ?_⟩⟩
    · exfalso
      clear ih hK ht
      ((try simp only [zk_b_0, zk_b_1] at *); simp only [Int32.lt_iff_toInt_lt, Int32.le_iff_toInt_le, ← Int32.toInt_inj, Int32.reduceToInt] at *; omega)
    · rw [nI_1]
      refine ih (t + 1) (by omega) fun v hv => hK v fun h' Kr h1 h2 => ?_
      refine zk_bk hX12_hears (bX12_hears_24 ?_)
      rw [nI_clamp (n := t) (by omega), ht h' h1 t (by omega), nI_1]
      exact ⟨fun q => absurd q (nI_ge (b := 10) (by omega) (by decide)), fun _ => ⟨vp_in_nI (by omega) (by decide), jX12_has ⟨fun _ => hv h' Kr h1 h2, fun q2 => absurd (q.symm.trans (zk_b_n q2)) (by decide)⟩⟩⟩
    · refine zk_bk hX12_hears (bX12_hears_24 ?_)
      rw [nI_clamp (n := t) (by omega), ht h' h1 t (by omega)]
      exact ⟨fun q => absurd q (nI_ge (b := 10) (by omega) (by decide)), fun _ => ⟨vp_in_nI (by omega) (by decide), jX12_has ⟨fun q2 => absurd (zk_bitn.mp q) (zk_b_0.mp q2), fun _ => h2⟩⟩⟩
theorem e_hears (R : zk_RR lp c m) : pX11_hears [.ref 0, .int x, .int y] c (fun v c' => pX12_hears [.ref 0, .int x, .int y] m (fun v' m' => v = v' ∧ zk_RR lp c' m')) := by
  obtain ⟨P, N, D, U, T, B, R8⟩ := id R
  obtain ⟨r1, -⟩ := id R8
  obtain ⟨⟨hP, hN⟩, ⟨f1, f2, f3, f4⟩, f5, -⟩ := id r1
  have out : ¬ ((0 ≤ x ∧ x < 8) ∧ (0 ≤ y ∧ y < nI P)) → pX12_hears [.ref 0, .int x, .int y] m (fun v' m' => -1 = v' ∧ zk_RR lp c m') := by
    intro q
    refine ⟨rfl, zk_bk hX12_hears (bX12_hears_0 ?_)⟩
    refine jX12_isSecret ⟨fun _ => ⟨rfl, R⟩, fun q1 => jX12_isOne f3 hP ⟨fun q2 => absurd ⟨zk_secret.mpr (zk_b_n q1), zk_b_n q2⟩ q, fun _ => ⟨rfl, R⟩⟩⟩
  refine ⟨rfl, zk_bk hX11_hears (bX11_hears_0 ?_)⟩
  refine jX4_isSecret ⟨fun q => ?_, fun q => jX4_isPerson ?_⟩
  · show pX12_hears _ _ _
    exact out fun z => zk_b_0.mp q z.1
  · rw [f1]
    refine ⟨fun q1 => ?_, fun q1 => ?_⟩
    · obtain ⟨o, ho, eo⟩ := zk_ix (x := y) (by omega) (zk_b_n q1).1 (zk_b_n q1).2
      subst eo
      refine ⟨rfl, zk_bk hX4_eveningOfHearing (bX4_eveningOfHearing_0 ?_)⟩
      refine jX4_whoKnows (p := zk_pc c x) hP f1 (fun o _ => by simp) ?_
      refine l_hears (tab := fun h' => zk_ex [35] m h' ∧ ∀ t, t < 10 → h'.1 35 t = zk_ev (c.1 7) (nI (zk_mask (fun _ => true) P)) (nI (zk_mask (zk_pc c x) P)) P t) hP (by omega) f1 zk_m_in (fun h' h1 => h1.2) 10 0 rfl fun v hv => ?_
      show pX12_hears _ _ _
      refine ⟨rfl, zk_bk hX12_hears (bX12_hears_0 ?_)⟩
      refine jX12_isSecret ⟨fun q3 => absurd (zk_secret.mp (zk_b_n q)) (zk_b_0.mp q3), fun _ => jX12_isOne f3 hP ⟨fun _ => ?_, fun q3 => absurd (zk_b_n q1) (zk_b_0.mp q3)⟩⟩
      refine jX12_tellsOn (L := c.1 7) (p := zk_pm' m x) hP f3 (fun o ho => ((f5 o ho).2.2.2.2.1).symm) (fun o _ => by simp) fun h' he ht => ?_
      rw [← r1.pk] at ht
      exact hv h' _ ⟨he, ht⟩ ⟨rfl, P, N, D, U, T, B, zk_R_scr R8 (fun _ _ => rfl) rfl (fun i _ => by rw [he.1 0 (by decide)]) (fun k _ _ _ h _ => he.1 k (by simp [h])) he.2⟩
    · show pX12_hears _ _ _
      exact out fun z => zk_b_0.mp q1 z.2
end ZK3
