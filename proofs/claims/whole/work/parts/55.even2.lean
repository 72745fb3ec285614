/-! Evenings: the other's table -/
section ZKW
variable {x y : Int32} {P : Nat}
theorem zk_bitz {v : Int32} (h : ¬ v &&& 1 = 1) : v &&& 1 = 0 := (zk_bit v).resolve_right h
theorem l_tellsOn_72 {K : zk_H → Prop} {m h : zk_H} {L : Nat → Int32} {all E : Int32} {t : Nat} (hP : P ≤ 8) (ht : 0 < t) (ht2 : t < 10) (eP : m.1 0 0 = nI P) (eL : ∀ o, o < P → m.1 5 o = L o) (ea : nI (zk_mask (fun _ => true) P) = all) (fin : ∀ h', zk_ex [35] m h' → (∀ j, j ≠ t → h'.1 35 j = h.1 35 j) → h'.1 35 t = zk_tf L all E P → (zk_X zk_D (zk_lkl lkX12) zk_mt (zk_cxl [(163, zk_iP pX12_has)]) none (zk_at cdX12_tellsOn) (zk_qv K)) 50 [some (.ref 0), some (.int x), some (.int (nI (t + 1))), none] [] h') (eE : h.1 35 (t - 1) = E) :
    ∀ (n i : Nat), i + n = P → ∀ h', zk_ex [35] m h' → (∀ j, j ≠ t → h'.1 35 j = h.1 35 j) → h'.1 35 t = zk_tf L all E i → (zk_X zk_D (zk_lkl lkX12) zk_mt (zk_cxl [(163, zk_iP pX12_has)]) none (zk_at cdX12_tellsOn) (zk_qv K)) 72 [some (.ref 0), some (.int x), some (.int (nI t)), some (.int (nI i))] [] h' := by
  intro n
  induction n with
  | zero =>
    intro i hi h' he hj hv
    have hiN : i = P := by omega
    subst hiN
    refine zk_bk hX12_tellsOn (bX12_tellsOn_72 ?_)
    rw [he.1 0 (by decide), eP, nI_1]
    refine ⟨fun _ => zk_fg hX12_tellsOn ?_ (fin h' he hj hv), fun q => absurd ((nI_leI (by omega) (by omega)).mpr (Nat.le_refl _)) q⟩
    exact ⟨rfl, rfl, rfl, rfl, trivial⟩
  | succ n ih =>
    intro i hi h' he hj hv
    refine zk_bk hX12_tellsOn (bX12_tellsOn_72 ?_)
    rw [he.1 0 (by decide), eP, nI_n1 ht, nI_clamp (n := t - 1) (by omega), nI_clamp (n := t) (by omega), nI_clamp (n := i) (by omega), hj (t - 1) (by omega), eE, nI_1, nI_1]
    refine ⟨fun q => absurd q (nI_ge (by omega) (by omega)), fun _ => ⟨vp_in_nI (by omega) (by decide), jX12_has ⟨fun q => ?_, fun q => ⟨vp_in_nI (by omega) (by decide), vp_in_nI (by omega) (by decide), vp_in_nI (by omega) (by decide), ?_⟩⟩⟩⟩
    · refine ih (i + 1) (by omega) h' he hj ?_
      rw [zk_tf, if_neg (zk_b_0.mp q)]
      exact hv
    · rw [hv, he.1 5 (by decide), he.1 0 (by decide), eP, eL i (by omega), zk_every P (by omega), ea]
      refine ih (i + 1) (by omega) _ (he.si (by simp)) (fun j hj2 => ?_) ?_
      · rw [zk_si_at, if_neg hj2]
        exact hj j hj2
      · rw [zk_si_at, if_pos rfl, zk_tf, if_pos (zk_b_n q)]
theorem l_tellsOn_50 {K : zk_H → Prop} {m : zk_H} {L : Nat → Int32} {all M : Int32} (hP : P ≤ 8) (eP : m.1 0 0 = nI P) (eL : ∀ o, o < P → m.1 5 o = L o) (ea : nI (zk_mask (fun _ => true) P) = all) (fin : ∀ h', zk_ex [35] m h' → (∀ t, t < 10 → h'.1 35 t = zk_ev L all M P t) → K h') :
    ∀ (n t : Nat), t + n = 10 → 0 < t → ∀ h, zk_ex [35] m h → (∀ j, j < t → h.1 35 j = zk_ev L all M P j) → (zk_X zk_D (zk_lkl lkX12) zk_mt (zk_cxl [(163, zk_iP pX12_has)]) none (zk_at cdX12_tellsOn) (zk_qv K)) 50 [some (.ref 0), some (.int x), some (.int (nI t)), none] [] h := by
  intro n
  induction n with
  | zero =>
    intro t hi h0 h he hj
    have hiN : t = 10 := by omega
    subst hiN
    refine zk_bk hX12_tellsOn (bX12_tellsOn_50 ?_)
    exact ⟨fun _ => fin h he hj, fun q => absurd (by decide) q⟩
  | succ n ih =>
    intro t hi h0 h he hj
    refine zk_bk hX12_tellsOn (bX12_tellsOn_50 ?_)
    rw [nI_n1 h0, nI_clamp (n := t - 1) (by omega), nI_clamp (n := t) (by omega)]
    refine ⟨fun q => absurd q (nI_ge (b := 10) (by omega) (by decide)), fun _ => ⟨vp_in_nI (by omega) (by decide), vp_in_nI (by omega) (by decide), ?_⟩⟩
    have eE := hj (t - 1) (by omega)
    refine l_tellsOn_72 (m := m) (h := h) (L := L) (all := all) (E := zk_ev L all M P (t - 1)) hP h0 (by omega) eP eL ea (fun h' he' hj' hv => ?_) eE P 0 (by omega) _ (he.si (by simp)) (fun j hj2 => by rw [zk_si_at, if_neg hj2]) ?_
    · refine ih (t + 1) (by omega) (by omega) h' he' (fun j hj2 => ?_)
      by_cases e : j = t
      · rw [e, hv]
        cases t with
        | zero => omega
        | succ t => rfl
      · rw [hj' j e]
        exact hj j (by omega)
    · rw [zk_si_at, if_pos rfl]
      exact eE
theorem l_tellsOn_9 {K : zk_H → Prop} {m : zk_H} {p : Nat → Bool} (hP : P ≤ 8) (eP : m.1 0 0 = nI P) (hp : ∀ o, o < 8 → (p o = true ↔ (m.1 6 o >>> (x &&& 31)) &&& 1 = 1)) (fin : ∀ h', zk_ex [35] m h' → h'.1 35 0 = nI (zk_mask p P) → (zk_X zk_D (zk_lkl lkX12) zk_mt (zk_cxl [(163, zk_iP pX12_has)]) none (zk_at cdX12_tellsOn) (zk_qv K)) 50 [some (.ref 0), some (.int x), some (.int (nI 1)), none] [] h') :
    ∀ (n i : Nat), i + n = P → ∀ h, zk_ex [35] m h → h.1 35 0 = nI (zk_mask p i) → (zk_X zk_D (zk_lkl lkX12) zk_mt (zk_cxl [(163, zk_iP pX12_has)]) none (zk_at cdX12_tellsOn) (zk_qv K)) 9 [some (.ref 0), some (.int x), some (.int (nI i)), none] [] h := by
  intro n
  induction n with
  | zero =>
    intro i hi h he hv
    have hiN : i = P := by omega
    subst hiN
    refine zk_bk hX12_tellsOn (bX12_tellsOn_9 ?_)
    rw [he.1 0 (by decide), eP]
    exact ⟨fun _ => fin h he hv, fun q => absurd ((nI_leI (by omega) (by omega)).mpr (Nat.le_refl _)) q⟩
  | succ n ih =>
    intro i hi h he hv
    refine zk_bk hX12_tellsOn (bX12_tellsOn_9 ?_)
    rw [he.1 0 (by decide), eP, he.1 6 (by decide), nI_clamp (n := i) (by omega), nI_1]
    refine ⟨fun q => absurd q (nI_ge (by omega) (by omega)), fun _ => ⟨vp_in_nI (by omega) (by decide), jX12_has ⟨fun q => ?_, fun q => ⟨(by unfold vp_in; decide), (by unfold vp_in; decide), ?_⟩⟩⟩⟩
    · have hf : p i = false := by
        cases hh : p i
        · rfl
        · exact absurd ((hp i (by omega)).mp hh) (zk_b_0.mp q)
      refine ih (i + 1) (by omega) h he ?_
      rw [hv, zk_mask, hf]
      exact congrArg nI (Nat.or_zero _).symm
    · have ht : p i = true := (hp i (by omega)).mpr (zk_b_n q)
      rw [hv]
      refine ih (i + 1) (by omega) _ (he.si (by simp)) ?_
      rw [zk_si_at, if_pos rfl, zk_shl i (by omega), nI_or, zk_mask, ht]
      rfl
theorem jX12_tellsOn {K : zk_H → Prop} {m : zk_H} {L : Nat → Int32} {p : Nat → Bool} (hP : P ≤ 8) (eP : m.1 0 0 = nI P) (eL : ∀ o, o < P → m.1 5 o = L o) (hp : ∀ o, o < 8 → (p o = true ↔ (m.1 6 o >>> (x &&& 31)) &&& 1 = 1)) (fin : ∀ h', zk_ex [35] m h' → (∀ t, t < 10 → h'.1 35 t = zk_ev L (nI (zk_mask (fun _ => true) P)) (nI (zk_mask p P)) P t) → K h') : pX12_tellsOn [.ref 0, .int x] m K := by
  refine ⟨rfl, zk_bk hX12_tellsOn (bX12_tellsOn_0 ?_)⟩
  refine ⟨(by unfold vp_in; decide), ?_⟩
  refine l_tellsOn_9 hP eP hp (fun h' he hv => l_tellsOn_50 hP eP eL rfl fin 9 1 rfl (by decide) h' he (fun j hj => ?_)) P 0 (by omega) _ (zk_ex.rf.si (by simp)) ?_
  · rw [show j = 0 by omega]
    exact hv
  · simp [zk_si, zk_mask, nI_0]
end ZKW
