/-! CALLS: send, person -/
section ZKP
variable {K : Int32 → zk_H → Prop} {h : zk_H} {x y z : Int32} {P N B o : Nat}
def zk_wri (h : zk_H) (o w : Nat) (mi : Int32) : Prop := (nI (w / 100) - 1 < 0 ∨ (h.1 8 o >>> ((nI (w / 100) - 1) &&& 31)) &&& 1 = 1) ∧ (nI (w % 10) = 0 ∨ (h.1 3 o ≤ mi ∧ mi ≤ h.1 4 o))
theorem jX4_canWriteSo {w : Nat} (hw : w < 900) (ho : o < 8) (H1 : zk_wri h o w x → K 1 h) (H0 : ¬ zk_wri h o w x → K 0 h) : pX4_canWriteSo [.ref 1, .int (nI o), .int (nI w), .int x] h K := by
  refine ⟨rfl, zk_bk hX4_canWriteSo (bX4_canWriteSo_0 ?_)⟩
  rw [zk_d100 (by omega), zk_d10 (by omega), zk_r10 (by omega)]
  refine ⟨by decide, fun c1 => ⟨by decide, fun c2 => ⟨Or.inr rfl, H1 ⟨Or.inl c1, Or.inl c2⟩⟩, fun c2 => jX4_isIn ho ⟨fun c3 => ⟨Or.inl rfl, H0 fun q => ?_⟩, fun c3 => ⟨Or.inr rfl, H1 ⟨Or.inl c1, Or.inr (zk_b_n c3)⟩⟩⟩⟩, fun c1 => jX4_knows ho ⟨fun c4 => ⟨Or.inl rfl, H0 fun q => ?_⟩, fun c4 => ⟨by decide, fun c2 => ⟨Or.inr rfl, H1 ⟨Or.inr (zk_b_n c4), Or.inl c2⟩⟩, fun c2 => jX4_isIn ho ⟨fun c3 => ⟨Or.inl rfl, H0 fun q => ?_⟩, fun c3 => ⟨Or.inr rfl, H1 ⟨Or.inr (zk_b_n c4), Or.inr (zk_b_n c3)⟩⟩⟩⟩⟩⟩
  · rcases q.2 with q | q
    · exact c2 q
    · exact zk_b_0.mp c3 q
  · rcases q.1 with q | q
    · exact c1 q
    · exact zk_b_0.mp c4 q
  · rcases q.2 with q | q
    · exact c2 q
    · exact zk_b_0.mp c3 q
end ZKP
section ZK3
variable {lp : zk_lp} {c m : zk_H} {x y : Int32} {P N D U T B : Nat}
theorem e_send (R : zk_RR lp c m) : pX11_send [.ref 0, .int x, .int y] c (fun v c' => pX12_send [.ref 0, .int x, .int y] m (fun v' m' => v = v' ∧ zk_RR lp c' m')) := by
  obtain ⟨P, N, D, U, T, B, R8⟩ := id R
  obtain ⟨r1, r2, r3, r4, r5, r6, r7, r8⟩ := id R8
  obtain ⟨⟨hP, hN⟩, ⟨f1, f2, f3, f4⟩, f5, f6, f7, f8, f9⟩ := id r1
  obtain ⟨⟨e1, e2, e3, e4, e5⟩, e6, e7⟩ := id r4
  -- the reference, once both questions are answered
  have mod : ∀ (k : Int32 → zk_H → Prop) (o j w : Nat), o < P → j < P → w < 900 → w / 10 % 10 < 5 → w % 10 < 2 → x / 10 = nI o → x - x / 10 * 10 = nI j → ¬ nI o = nI j → 0 ≤ x → y = nI w →
      (¬ zk_wri c o w (m.1 0 16) → k (-1) m) → (zk_wri c o w (m.1 0 16) → N = 6 → k (-3) m) → (zk_wri c o w (m.1 0 16) → N < 6 → k (nI N) (zk_si (zk_mN (zk_si m 26 0 (m.1 26 0 + 1)) N (nI j) (m.1 0 16) w) 12 N (nI o))) → pX12_send [.ref 0, .int x, .int y] m k := by
    intro k o j w ho hj hw hw1 hw2 eo ej hoj h0 ey k1 k2 k3
    subst ey
    have eN := nI_toInt (n := N) (by omega)
    obtain ⟨g1, g2, g3, g4, g5, g6⟩ := f5 o ho
    have en : ∀ (k : Int32 → zk_H → Prop), (N = 6 → k (-3) m) → (N < 6 → k (nI N) (zk_si (zk_mN (zk_si m 26 0 (m.1 26 0 + 1)) N (nI j) (m.1 0 16) w) 12 N (nI o))) → ((¬ m.1 0 7 = 6 → (vp_in (0 : Int32) 4 ∧ (vp_in (0 : Int32) 4 ∧ (¬ (10 : Int32) = 0 ∧ pX12_newCard [.ref 0, .int (x - x / 10 * 10), .int (m.1 0 16), .int (nI w)] (zk_si m 26 0 (m.1 26 0 + 1)) (fun v6 h5 => (vp_in v6 7 ∧ k v6 (zk_si h5 12 v6.toNatClampNeg (x / 10)))))))) ∧ (m.1 0 7 = 6 → k (-3) m)) := by
      intro k k2 k3
      rw [f4]
      refine ⟨fun d1 => ⟨(by unfold vp_in; decide), (by unfold vp_in; decide), by decide, ?_⟩, fun d1 => k2 ((nI_eq (b := 6) (by omega) (by decide)).mp d1)⟩
      have h6 : N < 6 := by
        rcases Nat.lt_or_ge N 6 with q | q
        · exact q
        · exact absurd (show nI N = 6 from by rw [show N = 6 by omega]; rfl) d1
      rw [eo, ej] at *
      refine jX12_newCard hw (by simpa [zk_si] using f4) (by omega) ⟨vp_in_nI (by omega) (by decide), ?_⟩
      rw [nI_clamp (by omega)]
      exact k3 h6
    refine ⟨rfl, zk_bk hX12_send (bX12_send_0 ?_)⟩
    refine jX12_areTwo f3 hP ⟨fun d1 => absurd ⟨h0, by rw [eo]; exact zk_xi (by omega) ho, by rw [ej]; exact zk_xi (by omega) hj, by rw [ej, eo]; exact hoj⟩ (zk_b_0.mp d1), fun d1 => jX12_isWay ⟨fun d2 => ⟨by decide, ?_⟩, fun d2 => absurd (zk_yaw hw hw1 hw2) (zk_b_0.mp d2)⟩⟩
    have ew := nI_toInt (n := w) (by omega)
    have e100 := zk_pm (n := w / 100) (by omega)
    have est : (nI (w % 10) = 0 ∨ nI (w % 10) = 1) := by
      rcases (show w % 10 = 0 ∨ w % 10 = 1 by omega) with q | q <;> rw [q]
      · exact Or.inl rfl
      · exact Or.inr rfl
    have isin : ∀ (kk : Int32 → zk_H → Prop), kk (zk_b (m.1 1 o ≤ m.1 0 16 ∧ m.1 0 16 ≤ m.1 2 o)) m → pX12_isIn [.ref 0, .int (x / 10), .int (m.1 0 16)] m kk := by
      intro kk hk
      rw [eo]
      exact jX12_isIn (by omega) hk
    refine ⟨fun d3 => ⟨by decide, ?_⟩, fun d3 => ⟨?_, by decide, jX12_has ?_⟩⟩
    · have kn : nI (w / 100) - 1 < 0 := by
        simp only [Int32.lt_iff_toInt_lt, Int32.le_iff_toInt_le, Int32.reduceToInt, ew, e100] at d3 ⊢
        omega
      rw [zk_d10 (n := w) (by omega), zk_r10 (n := w) (by omega)]
      refine ⟨fun d4 => en k (fun q => k2 ⟨Or.inl kn, Or.inl (est.resolve_right d4)⟩ q) (fun q => k3 ⟨Or.inl kn, Or.inl (est.resolve_right d4)⟩ q), fun d4 => isin _ ⟨fun d5 => ?_, fun d5 => k1 fun q => ?_⟩⟩
      · have b := zk_b_n d5
        rw [← g1, ← g2] at b
        exact en k (fun q => k2 ⟨Or.inl kn, Or.inr b⟩ q) (fun q => k3 ⟨Or.inl kn, Or.inr b⟩ q)
      · rcases q.2 with q | q
        · exact absurd (q.symm.trans d4) (by decide)
        · rw [g1, g2] at q
          exact zk_b_0.mp d5 q
    · rw [eo]
      exact vp_in_nI (by omega) (by decide)
    · have kn : ¬ nI (w / 100) - 1 < 0 := by
        simp only [Int32.lt_iff_toInt_lt, Int32.le_iff_toInt_le, Int32.reduceToInt, ew, e100] at d3 ⊢
        omega
      rw [eo, nI_clamp (by omega), zk_d100 (n := w) (by omega), ← g6]
      refine ⟨fun d4 => k1 fun q => ?_, fun d4 => ⟨by decide, ?_⟩⟩
      · rcases q.1 with q | q
        · exact kn q
        · exact zk_b_0.mp d4 q
      · have b4 := zk_b_n d4
        rw [zk_d10 (n := w) (by omega), zk_r10 (n := w) (by omega), ← eo]
        refine ⟨fun d4 => en k (fun q => k2 ⟨Or.inr b4, Or.inl (est.resolve_right d4)⟩ q) (fun q => k3 ⟨Or.inr b4, Or.inl (est.resolve_right d4)⟩ q), fun d4 => isin _ ⟨fun d5 => ?_, fun d5 => k1 fun q => ?_⟩⟩
        · have b := zk_b_n d5
          rw [← g1, ← g2] at b
          exact en k (fun q => k2 ⟨Or.inr b4, Or.inr b⟩ q) (fun q => k3 ⟨Or.inr b4, Or.inr b⟩ q)
        · rcases q.2 with q | q
          · exact absurd (q.symm.trans d4) (by decide)
          · rw [g1, g2] at q
            exact zk_b_0.mp d5 q
  refine ⟨rfl, zk_bk hX11_send (bX11_send_0 ?_)⟩
  refine jX4_isTwoPeople ?_
  rw [f1]
  refine ⟨fun c1 => ?_, fun c1 => jX4_isWay ⟨fun c2 => ?_, fun c2 => ⟨by decide, ?_⟩⟩⟩
  · show pX12_send _ _ _
    refine ⟨rfl, zk_bk hX12_send (bX12_send_0 ?_)⟩
    exact jX12_areTwo f3 hP ⟨fun d1 => ⟨rfl, R⟩, fun d1 => absurd c1 d1⟩
  · show pX12_send _ _ _
    refine ⟨rfl, zk_bk hX12_send (bX12_send_0 ?_)⟩
    exact jX12_areTwo f3 hP ⟨fun d1 => ⟨rfl, R⟩, fun d1 => jX12_isWay ⟨fun d2 => absurd c2 d2, fun d2 => ⟨rfl, R⟩⟩⟩
  obtain ⟨a1, ⟨a2, a3⟩, ⟨a4, a5⟩, a6⟩ := zk_b_n c1
  obtain ⟨o, ho, eo⟩ := zk_ix (n := P) (by omega) a2 a3
  obtain ⟨j, hj, ej⟩ := zk_ix (n := P) (by omega) a4 a5
  obtain ⟨w, hw, hw1, hw2, ey⟩ := zk_way (zk_b_n c2)
  have hoj : ¬ nI o = nI j := by rw [← eo, ← ej]; exact a6
  rw [eo, ey, e1]
  refine jX4_canWriteSo hw (by omega) (fun hc => ⟨fun _ => ?_, fun q => absurd q (by decide)⟩) (fun hc => ⟨fun q => absurd rfl q, fun _ => ?_⟩)
  · rw [f2]
    have eN := nI_toInt (n := N) (by omega)
    refine ⟨fun c4 => ⟨by decide, by decide, ?_⟩, fun c4 => ?_⟩
    · have h6 : N < 6 := by
        simp only [Int32.lt_iff_toInt_lt, Int32.reduceToInt, eN] at c4
        omega
      rw [eo] at ej
      rw [ej]
      refine ⟨rfl, zk_bk hX2_sendCard (bX2_sendCard_0 ?_)⟩
      rw [e1]
      refine jX4_addCard hw f2 (by omega) ⟨(by unfold vp_in; decide), vp_in_nI (by omega) (by decide), ?_⟩
      rw [nI_clamp (by omega)]
      show pX12_send _ _ _
      rw [← ey]
      refine mod _ o j w ho hj hw hw1 hw2 eo (by rw [eo]; exact ej) hoj a1 ey (fun q => absurd hc q) (fun _ q => absurd q (by omega)) (fun _ _ => ⟨rfl, P, N + 1, D, U, T, B, ?_⟩)
      obtain ⟨s1, s2, s3, s4, s5, s6, s7, s8⟩ := zk_R_card R8 h6 hj hw (m.1 0 16)
      refine ⟨?_, s2.cg (by simp [zk_si, zk_sl, zk_wi, zk_wl]) (by simp [zk_si, zk_sl, zk_wi, zk_wl]) (by simp [zk_si, zk_mN, zk_mL']) (by simp [zk_si, zk_mN, zk_mL']), s3.cg (by simp [zk_si, zk_sl, zk_wi, zk_wl]) (by simp [zk_si, zk_sl, zk_wi, zk_wl]) (by simp [zk_si, zk_mN, zk_mL']) (by simp [zk_si, zk_mN, zk_mL']), ?_, s5.cg (by simp [zk_si, zk_sl, zk_wi, zk_wl]) (by simp [zk_si, zk_sl, zk_wi, zk_wl]) (by simp [zk_si, zk_mN, zk_mL']) (by simp [zk_si, zk_mN, zk_mL']), s6.cg (by simp [zk_si, zk_sl, zk_wi, zk_wl]) (by simp [zk_si, zk_sl, zk_wi, zk_wl]) (by simp [zk_si, zk_mN, zk_mL']) (by simp [zk_si, zk_mN, zk_mL']), fun s hs => (s7 s hs).cg (by rw [zk_si_ne (by omega), zk_si_ne (by omega)]) rfl (by simp [zk_si, zk_mN, zk_mL']) rfl, zk_lpcg s8 (by simp [zk_si, zk_sl, zk_wi, zk_wl]) (by simp [zk_si, zk_mN, zk_mL']) (by simp [zk_si, zk_mN, zk_mL'])⟩
      · obtain ⟨t1, t2, t3, t4, t5, t6, t7, t8⟩ := s1
        refine ⟨t1, ⟨by simpa [zk_si, zk_cL] using t2.1, by simp [zk_si], by simpa [zk_si, zk_mN, zk_mL'] using t2.2.2.1, by simp [zk_si, zk_mN]⟩, fun i hi => ?_, fun i hi => ?_, ?_, fun i hi hi8 => ?_, fun i hi => ?_, ?_⟩
        · simpa [zk_si, zk_cL, zk_mN, zk_mL'] using t3 i hi
        · have := t4 i hi
          by_cases e : i = N
          · subst e
            simp [zk_si, zk_cL, zk_mN, zk_mL'] at this ⊢
            exact this.2
          · simpa [zk_si, zk_cL, zk_mN, zk_mL', e] using this
        · simpa [zk_si, zk_cL, zk_mN, zk_mL'] using t5
        · have := t6 i hi hi8
          simpa [zk_si, zk_cL, show i ≠ N by omega] using this
        · simpa [zk_si, zk_mN, zk_mL'] using t7 i hi
        · simpa [zk_si, zk_mN, zk_mL'] using t8
      · refine ⟨⟨by simpa [zk_si, zk_cL, zk_mN, zk_mL'] using e1, by simpa [zk_si, zk_cL, zk_mN, zk_mL'] using e2, by simpa [zk_si, zk_cL, zk_mN, zk_mL'] using e3, by simpa [zk_si, zk_cL, zk_mN, zk_mL'] using e4, by simpa [zk_si, zk_cL, zk_mN, zk_mL'] using e5⟩, by simpa [zk_si, zk_cL, zk_mN, zk_mL'] using e6, ?_⟩
        have := (r4.up (Nat.le_succ N)).2.2
        simpa [zk_si, zk_cL, zk_mN, zk_mL'] using this
    · have h6 : N = 6 := by
        simp only [Int32.lt_iff_toInt_lt, Int32.reduceToInt, eN] at c4
        omega
      show pX12_send _ _ _
      rw [← ey]
      exact mod _ o j w ho hj hw hw1 hw2 eo ej hoj a1 ey (fun q => absurd hc q) (fun _ _ => ⟨rfl, R⟩) (fun _ q => absurd q (by omega))
  · show pX12_send _ _ _
    rw [← ey]
    exact mod _ o j w ho hj hw hw1 hw2 eo ej hoj a1 ey (fun _ => ⟨rfl, R⟩) (fun q => absurd q hc) (fun q => absurd q hc)
end ZK3
