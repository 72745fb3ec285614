/-! people and cards that come; person, card, send -/
theorem zk_d10 {n : Nat} (h : n < 2 ^ 31) : nI n / 10 = nI (n / 10) := pk_div (d := 10) h (by decide) (by decide)
theorem zk_d100 {n : Nat} (h : n < 2 ^ 31) : nI n / 100 = nI (n / 100) := pk_div (d := 100) h (by decide) (by decide)
theorem zk_r10 {n : Nat} (h : n < 2 ^ 31) : nI n - nI (n / 10) * 10 = nI (n % 10) := by
  rw [← zk_d10 h]
  exact pk_rem (d := 10) h (by decide) (by decide)
theorem zk_r100 {n : Nat} (h : n < 2 ^ 31) : nI n - nI (n / 100) * 100 = nI (n % 100) := by
  rw [← zk_d100 h]
  exact pk_rem (d := 100) h (by decide) (by decide)
/-- a way, read -/
theorem zk_way {x : Int32} (h : 0 ≤ x ∧ x / 100 < 9 ∧ x / 10 - x / 10 / 10 * 10 < 5 ∧ x - x / 10 * 10 < 2) : ∃ n, n < 900 ∧ n / 10 % 10 < 5 ∧ n % 10 < 2 ∧ x = nI n := by
  obtain ⟨h0, h1, h2, h3⟩ := h
  obtain ⟨n, hn, rfl⟩ := nI_of (x := x) (by ((try simp only [zk_b_0, zk_b_1] at *); simp only [Int32.lt_iff_toInt_lt, Int32.le_iff_toInt_le, ← Int32.toInt_inj, Int32.reduceToInt] at *; omega))
  rw [zk_d100 hn] at h1
  rw [zk_d10 hn, zk_d10 (by omega), zk_r10 (by omega)] at h2
  rw [zk_d10 hn, zk_r10 hn] at h3
  have e1 := nI_toInt (n := n / 100) (by omega)
  have e2 := nI_toInt (n := n / 10 % 10) (by omega)
  have e3 := nI_toInt (n := n % 10) (by omega)
  simp only [Int32.lt_iff_toInt_lt, Int32.reduceToInt, e1, e2, e3] at h1 h2 h3
  exact ⟨n, by omega, by omega, by omega, rfl⟩
theorem zk_yaw {n : Nat} (hn : n < 900) (h1 : n / 10 % 10 < 5) (h2 : n % 10 < 2) : 0 ≤ nI n ∧ nI n / 100 < 9 ∧ nI n / 10 - nI n / 10 / 10 * 10 < 5 ∧ nI n - nI n / 10 * 10 < 2 := by
  rw [zk_d100 (by omega), zk_d10 (by omega), zk_d10 (by omega), zk_r10 (by omega), zk_r10 (by omega)]
  have e0 := nI_toInt (n := n) (by omega)
  have e1 := nI_toInt (n := n / 100) (by omega)
  have e2 := nI_toInt (n := n / 10 % 10) (by omega)
  have e3 := nI_toInt (n := n % 10) (by omega)
  simp only [Int32.lt_iff_toInt_lt, Int32.le_iff_toInt_le, Int32.reduceToInt, e0, e1, e2, e3]
  omega
theorem zk_bit (v : Int32) : v &&& 1 = 0 ∨ v &&& 1 = 1 := by
  obtain ⟨j, hj, e⟩ := pk_andE v (m := 1) 1 rfl
  rw [e]
  match j, hj with
  | 0, _ => exact Or.inl rfl
  | 1, _ => exact Or.inr rfl
theorem zk_bitn {v : Int32} : ¬ v &&& 1 = 0 ↔ v &&& 1 = 1 := by
  rcases zk_bit v with h | h <;> rw [h] <;> decide
section ZKP
variable {K : Int32 → zk_H → Prop} {h : zk_H} {x y z : Int32} {P N B o : Nat}
theorem jX4_isIn (ho : o < 8) (H : K (zk_b (h.1 3 o ≤ x ∧ x ≤ h.1 4 o)) h) : pX4_isIn [.ref 1, .int (nI o), .int x] h K := by
  refine ⟨rfl, zk_bk hX4_isIn (bX4_isIn_0 ?_)⟩
  rw [nI_clamp (by omega)]
  have hv := vp_in_nI ho (by decide)
  refine ⟨(by unfold vp_in; decide), hv, fun c1 => ⟨Or.inl rfl, ?_⟩, fun c1 => ⟨(by unfold vp_in; decide), hv, fun c2 => ⟨Or.inl rfl, ?_⟩, fun c2 => ⟨Or.inr rfl, ?_⟩⟩⟩ <;> ((repeat' (first | exact Or.inl rfl | exact Or.inr rfl | exact zk_b_or | (show ¬ (_ : Int32) = _; decide) | refine And.intro ?_ ?_ | intro _)) <;> (first | (rw [zk_b_t (by ((try simp only [zk_b_0, zk_b_1] at *); simp only [Int32.lt_iff_toInt_lt, Int32.le_iff_toInt_le, ← Int32.toInt_inj, Int32.reduceToInt] at *; omega))] at H; exact H) | (rw [zk_b_f (by ((try simp only [zk_b_0, zk_b_1] at *); simp only [Int32.lt_iff_toInt_lt, Int32.le_iff_toInt_le, ← Int32.toInt_inj, Int32.reduceToInt] at *; omega))] at H; exact H)))
theorem jX4_knows (ho : o < 8) (H : K (zk_b ((h.1 8 o >>> (x &&& 31)) &&& 1 = 1)) h) : pX4_knows [.ref 1, .int (nI o), .int x] h K := by
  refine ⟨rfl, zk_bk hX4_knows (bX4_knows_0 ?_)⟩
  rw [nI_clamp (by omega)]
  refine ⟨(by unfold vp_in; decide), vp_in_nI ho (by decide), fun c1 => ⟨Or.inl rfl, ?_⟩, fun c1 => ⟨Or.inr rfl, ?_⟩⟩
  · rw [zk_b_f (by rw [c1]; decide)] at H; exact H
  · rw [zk_b_t (zk_bitn.mp c1)] at H; exact H
theorem jX4_likes (ho : o < 8) (H : K (zk_b ((h.1 7 o >>> (x &&& 31)) &&& 1 = 1)) h) : pX4_likes [.ref 1, .int (nI o), .int x] h K := by
  refine ⟨rfl, zk_bk hX4_likes (bX4_likes_0 ?_)⟩
  rw [nI_clamp (by omega)]
  refine ⟨(by unfold vp_in; decide), vp_in_nI ho (by decide), fun c1 => ⟨Or.inl rfl, ?_⟩, fun c1 => ⟨Or.inr rfl, ?_⟩⟩
  · rw [zk_b_f (by rw [c1]; decide)] at H; exact H
  · rw [zk_b_t (zk_bitn.mp c1)] at H; exact H
theorem jX12_isIn (ho : o < 8) (H : K (zk_b (h.1 1 o ≤ x ∧ x ≤ h.1 2 o)) h) : pX12_isIn [.ref 0, .int (nI o), .int x] h K := by
  refine ⟨rfl, zk_bk hX12_isIn (bX12_isIn_0 ?_)⟩
  rw [nI_clamp (by omega)]
  exact ⟨vp_in_nI ho (by decide), vp_in_nI ho (by decide), jX12_within ⟨zk_b_or, H⟩⟩
def zk_cL (h : zk_H) (n : Nat) (to mi : Int32) (w : Nat) : zk_H := zk_si (zk_si (zk_si (zk_si (zk_si h 16 n to) 9 n mi) 11 n (nI (w / 100) - 1)) 10 n (nI (w / 10 % 10) - 1)) 12 n (nI (w % 10))
def zk_mL' (h : zk_H) (n : Nat) (w : Nat) : zk_H := zk_si (zk_si (zk_si h 10 n (nI (w / 100) - 1)) 9 n (nI (w / 10 % 10) - 1)) 11 n (nI (w % 10))
def zk_mN (h : zk_H) (n : Nat) (to mi : Int32) (w : Nat) : zk_H := zk_si (zk_si (zk_si (zk_mL' (zk_si (zk_si h 7 n to) 8 n mi) n w) 12 n (-2)) 13 n (-2)) 0 7 (nI (n + 1))
theorem jX4_layCard {K : zk_H → Prop} {w : Nat} (hw : w < 900) (hN : h.1 1 2 = nI N) (h8 : N < 8) (H : K (zk_cL h N x y w)) : pX4_layCard [.ref 1, .int x, .int y, .int (nI w)] h K := by
  refine ⟨rfl, zk_bk hX4_layCard (bX4_layCard_0 ?_)⟩
  rw [hN, nI_clamp (by omega), zk_d100 (by omega), zk_d10 (by omega), zk_d10 (by omega), zk_r10 (by omega), zk_r10 (by omega)]
  have hv := vp_in_nI h8 (by decide)
  exact ⟨(by unfold vp_in; decide), hv, (by unfold vp_in; decide), hv, (by unfold vp_in; decide), by decide, hv, (by unfold vp_in; decide), by decide, by decide, hv, (by unfold vp_in; decide), by decide, hv, H⟩
theorem jX4_addCard {w : Nat} (hw : w < 900) (hN : h.1 1 2 = nI N) (h8 : N < 8) (H : K (nI N) (zk_si (zk_cL h N x y w) 1 2 (nI (N + 1)))) : pX4_addCard [.ref 1, .int x, .int y, .int (nI w)] h K := by
  refine ⟨rfl, zk_bk hX4_addCard (bX4_addCard_0 ?_)⟩
  refine jX4_layCard hw hN h8 ?_
  rw [show (zk_cL h N x y w).1 1 2 = nI N by simpa [zk_cL, zk_si] using hN, hN, nI_1]
  exact H
theorem jX12_tells {K : zk_H → Prop} {w n : Nat} (hw : w < 900) (h8 : n < 7) (H : K (zk_mL' h n w)) : pX12_tells [.ref 0, .int (nI n), .int (nI w)] h K := by
  refine ⟨rfl, zk_bk hX12_tells (bX12_tells_0 ?_)⟩
  rw [nI_clamp (by omega), zk_d100 (by omega), zk_d10 (by omega), zk_d10 (by omega), zk_r10 (by omega), zk_r10 (by omega)]
  have hv := vp_in_nI h8 (by decide)
  exact ⟨by decide, hv, by decide, by decide, hv, by decide, hv, H⟩
theorem jX12_newCard {w : Nat} (hw : w < 900) (hN : h.1 0 7 = nI N) (h8 : N < 7) (H : K (nI N) (zk_mN h N x y w)) : pX12_newCard [.ref 0, .int x, .int y, .int (nI w)] h K := by
  refine ⟨rfl, zk_bk hX12_newCard (bX12_newCard_0 ?_)⟩
  rw [hN, nI_clamp (by omega)]
  have hv := vp_in_nI h8 (by decide)
  refine ⟨hv, hv, jX12_tells hw h8 ?_⟩
  rw [show (zk_mL' (zk_si (zk_si h 7 N x) 8 N y) N w).1 0 7 = nI N by simpa [zk_mL', zk_si] using hN, nI_clamp (by omega), nI_1]
  exact ⟨hv, hv, H⟩
end ZKP
theorem zk_rec.up {P N w j : Nat} {v : Int32} {P' N' : Nat} (h : zk_rec P N w j v) (hP : P ≤ P') (hN : N ≤ N') : zk_rec P' N' w j v := ⟨by rcases h.1 with h | h | h <;> omega, h.2⟩
theorem zk_chg.up {P N D U P' N' : Nat} {c m : zk_H} (h : zk_chg P N D U c m) (hP : P ≤ P') (hN : N ≤ N') : zk_chg P' N' D U c m := ⟨h.1, h.2.1, fun i hi => by
  obtain ⟨a, b, d, e, w, j, g1, g2, g3, g4⟩ := h.2.2 i hi
  exact ⟨a, b, d, e, w, j, g1, g2, g3.up hP hN, g4.up hP hN⟩⟩
theorem zk_dee.up {N N' : Nat} {c m : zk_H} (h : zk_dee N c m) (hN : N ≤ N') : zk_dee N' c m := ⟨h.1, h.2.1, h.2.2.imp id fun ⟨a, b, O, hO, q⟩ => ⟨a, b, O, by omega, q⟩⟩
section ZK3
variable {lp : zk_lp} {c m : zk_H} {x y : Int32} {P N D U T B : Nat}
theorem zk_sm {n : Nat} (h : n < 2 ^ 30) : -1 ≤ nI n - 1 := by
  have e := zk_pm (n := n) (by omega)
  simp only [Int32.le_iff_toInt_le, Int32.reduceToInt, e]
  omega
/-- a card more, not sent in deed -/
theorem zk_R_card (R : zk_R8 lp P N D U T B c m) (h6 : N < 6) {to w : Nat} (hto : to < P) (hw : w < 900) (mi : Int32) : zk_R8 lp P (N + 1) D U T B (zk_si (zk_cL c N (nI to) mi w) 1 2 (nI (N + 1))) (zk_mN m N (nI to) mi w) := by
  obtain ⟨r1, r2, r3, r4, r5, r6, r7, r8⟩ := R
  refine ⟨?_, (r2.up (Nat.le_refl _) (Nat.le_succ N)).cg (by simp [zk_si, zk_cL]) (by simp [zk_si, zk_cL]) (by simp [zk_si, zk_mN, zk_mL']) (by simp [zk_si, zk_mN, zk_mL']), r3.cg (by simp [zk_si, zk_cL]) (by simp [zk_si, zk_cL]) (by simp [zk_si, zk_mN, zk_mL']) (by simp [zk_si, zk_mN, zk_mL']), (r4.up (Nat.le_succ N)).cg (by simp [zk_si, zk_cL]) (by simp [zk_si, zk_cL]) (by simp [zk_si, zk_mN, zk_mL']) (by simp [zk_si, zk_mN, zk_mL']), r5.cg (by simp [zk_si, zk_cL]) (by simp [zk_si, zk_cL]) (by simp [zk_si, zk_mN, zk_mL']) (by simp [zk_si, zk_mN, zk_mL']), r6.cg (by simp [zk_si, zk_cL]) (by simp [zk_si, zk_cL]) (by simp [zk_si, zk_mN, zk_mL']) (by simp [zk_si, zk_mN, zk_mL']), fun s hs => (r7 s hs).cg (by unfold zk_cL; rw [zk_si_ne (by omega), zk_si_ne (by omega), zk_si_ne (by omega), zk_si_ne (by omega), zk_si_ne (by omega), zk_si_ne (by omega)]) rfl (by simp [zk_si, zk_mN, zk_mL']) rfl, zk_lpcg r8 (by simp [zk_si, zk_cL]) (by simp [zk_si, zk_mN, zk_mL']) (by simp [zk_si, zk_mN, zk_mL'])⟩
  obtain ⟨⟨hP, hN⟩, ⟨f1, f2, f3, f4⟩, f5, f6, f7, f8, f9, f10⟩ := r1
  refine ⟨⟨hP, by omega⟩, ⟨by simpa [zk_si, zk_cL] using f1, by simp [zk_si], by simpa [zk_si, zk_mN, zk_mL'] using f3, by simp [zk_si, zk_mN]⟩, fun i hi => ?_, fun i hi => ?_, ?_, fun i hi hi8 => ?_, fun i hi => ?_, ?_⟩
  · simpa [zk_si, zk_cL, zk_mN, zk_mL'] using f5 i hi
  · by_cases e : i = N
    · subst e
      have := f8 i (Nat.le_refl _) (by omega)
      simp [zk_si, zk_cL, zk_mN, zk_mL', this]
    · have := f6 i (by omega)
      simpa [zk_si, zk_cL, zk_mN, zk_mL', e] using this
  · simpa [zk_si, zk_cL, zk_mN, zk_mL'] using f7
  · simpa [zk_si, zk_cL] using f8 i (by omega) hi8
  · by_cases e : i = N
    · subst e
      simp [zk_si, zk_mN, zk_mL']
      exact ⟨zk_sm (by omega), to, hto, rfl⟩
    · simpa [zk_si, zk_mN, zk_mL', e] using f9 i (by omega)
  · simpa [zk_si, zk_mN, zk_mL'] using f10
theorem e_card (R : zk_RR lp c m) : pX11_card [.ref 0, .int x, .int y] c (fun v c' => pX12_card [.ref 0, .int x, .int y] m (fun v' m' => v = v' ∧ zk_RR lp c' m')) := by
  obtain ⟨P, N, D, U, T, B, R8⟩ := id R
  obtain ⟨r1, -⟩ := id R8
  obtain ⟨⟨hP, hN⟩, ⟨f1, f2, f3, f4⟩, -⟩ := id r1
  have stay : (x < 0 ∨ ¬ (0 ≤ x / 100 ∧ x / 100 < nI P) ∨ ¬ (0 ≤ y ∧ y / 100 < 9 ∧ y / 10 - y / 10 / 10 * 10 < 5 ∧ y - y / 10 * 10 < 2)) → pX12_card [.ref 0, .int x, .int y] m (fun v' m' => -1 = v' ∧ zk_RR lp c m') := by
    intro hor
    refine ⟨rfl, zk_bk hX12_card (bX12_card_0 ?_)⟩
    refine ⟨fun c1 => ⟨rfl, R⟩, fun c1 => ⟨by decide, jX12_isOne f3 hP ⟨fun c2 => ⟨rfl, R⟩, fun c2 => jX12_isWay ⟨fun c3 => ?_, fun c3 => ⟨rfl, R⟩⟩⟩⟩⟩
    rcases hor with q | q | q
    · exact absurd q c1
    · exact absurd (zk_b_n c2) q
    · exact absurd (zk_b_n c3) q
  refine ⟨rfl, zk_bk hX11_card (bX11_card_0 ?_)⟩
  refine ⟨fun c1 => stay (Or.inl c1), fun c1 => ⟨by decide, jX4_isPerson ?_⟩⟩
  rw [f1]
  refine ⟨fun c2 => stay (Or.inr (Or.inl (zk_b_0.mp c2))), fun c2 => jX4_isWay ⟨fun c3 => ?_, fun c3 => stay (Or.inr (Or.inr (zk_b_0.mp c3)))⟩⟩
  obtain ⟨w, hw, hw1, hw2, rfl⟩ := zk_way (zk_b_n c3)
  obtain ⟨n, hn, rfl⟩ := nI_of (x := x) c1
  obtain ⟨to, hto, eto⟩ := zk_ix (n := P) (by omega) (zk_b_n c2).1 (zk_b_n c2).2
  rw [f2]
  have eN := nI_toInt (n := N) (by omega)
  refine ⟨fun c4 => ⟨by decide, by decide, ?_⟩, fun c4 => ?_⟩
  · have h6 : N < 6 := by
      simp only [Int32.lt_iff_toInt_lt, Int32.reduceToInt, eN] at c4
      omega
    rw [zk_d100 hn, zk_r100 hn]
    refine jX4_addCard hw f2 (by omega) ?_
    show pX12_card _ _ _
    refine ⟨rfl, zk_bk hX12_card (bX12_card_0 ?_)⟩
    refine ⟨fun d1 => absurd d1 c1, fun d1 => ⟨by decide, jX12_isOne f3 hP ⟨fun d2 => absurd (zk_b_n c2) (zk_b_0.mp d2), fun d2 => jX12_isWay ⟨fun d3 => ?_, fun d3 => absurd (zk_b_n c3) (zk_b_0.mp d3)⟩⟩⟩⟩
    rw [f4]
    refine ⟨fun d4 => ⟨by decide, by decide, ?_⟩, fun d4 => absurd d4 (nI_neq (b := 6) (by omega) (by omega) (by decide))⟩
    rw [zk_d100 hn, zk_r100 hn]
    refine jX12_newCard hw f4 (by omega) ⟨rfl, P, N + 1, D, U, T, B, ?_⟩
    rw [zk_d100 hn] at eto
    rw [eto]
    exact zk_R_card R8 h6 hto hw _
  · have h6 : N = 6 := by
      simp only [Int32.lt_iff_toInt_lt, Int32.reduceToInt, eN] at c4
      omega
    show pX12_card _ _ _
    refine ⟨rfl, zk_bk hX12_card (bX12_card_0 ?_)⟩
    refine ⟨fun d1 => absurd d1 c1, fun d1 => ⟨by decide, jX12_isOne f3 hP ⟨fun d2 => absurd (zk_b_n c2) (zk_b_0.mp d2), fun d2 => jX12_isWay ⟨fun d3 => ?_, fun d3 => absurd (zk_b_n c3) (zk_b_0.mp d3)⟩⟩⟩⟩
    rw [f4, h6]
    exact ⟨fun d4 => absurd rfl d4, fun d4 => ⟨rfl, R⟩⟩
end ZK3
