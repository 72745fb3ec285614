/-! CALLS: person -/
section ZKP
variable {K : Int32 → zk_H → Prop} {h : zk_H} {x y z : Int32} {P N B o w : Nat}
abbrev zk_fit (w : Nat) (v : Int32) : Prop := zk_rm0.getD w 0 ≤ v ∧ v ≤ zk_rm1.getD w 0
theorem jX4_fits (hw : w < 13) (H : K (zk_b (zk_fit w y)) h) : pX4_fits [.ref 1, .int (nI w), .int y] h K := by
  refine ⟨rfl, zk_bk hX4_fits (bX4_fits_0 ?_)⟩
  rw [nI_clamp (by omega)]
  have e := nI_toInt (n := w) (by omega)
  have hv := vp_in_nI (n := w) (N := 13) hw (by decide)
  refine ⟨fun c1 => absurd c1 (nI_pos (by omega)), fun c1 => ⟨fun c2 => ?_, fun c2 => ⟨hv, fun c3 => ⟨Or.inl rfl, ?_⟩, fun c3 => ⟨hv, fun c4 => ⟨Or.inl rfl, ?_⟩, fun c4 => ⟨Or.inr rfl, ?_⟩⟩⟩⟩⟩
  · exfalso
    ((try simp only [zk_b_0, zk_b_1] at *); simp only [Int32.lt_iff_toInt_lt, Int32.le_iff_toInt_le, ← Int32.toInt_inj, Int32.reduceToInt] at *; omega)
  · rw [zk_b_f (fun q => by have := q.1; ((try simp only [zk_b_0, zk_b_1] at *); simp only [Int32.lt_iff_toInt_lt, Int32.le_iff_toInt_le, ← Int32.toInt_inj, Int32.reduceToInt] at *; omega))] at H; exact H
  · rw [zk_b_f (fun q => by have := q.2; ((try simp only [zk_b_0, zk_b_1] at *); simp only [Int32.lt_iff_toInt_lt, Int32.le_iff_toInt_le, ← Int32.toInt_inj, Int32.reduceToInt] at *; omega))] at H; exact H
  · rw [zk_b_t (by refine ⟨?_, ?_⟩ <;> ((try simp only [zk_b_0, zk_b_1] at *); simp only [Int32.lt_iff_toInt_lt, Int32.le_iff_toInt_le, ← Int32.toInt_inj, Int32.reduceToInt] at *; omega))] at H; exact H
theorem jX4_fits_out (hx : x < 0 ∨ 12 < x) (H : K 0 h) : pX4_fits [.ref 1, .int x, .int y] h K := by
  refine ⟨rfl, zk_bk hX4_fits (bX4_fits_0 ?_)⟩
  refine ⟨fun c1 => ⟨Or.inl rfl, H⟩, fun c1 => ⟨fun c2 => ⟨Or.inl rfl, H⟩, fun c2 => ?_⟩⟩
  rcases hx with q | q
  · exact absurd q c1
  · exact absurd q c2
def zk_cP (h : zk_H) (n : Nat) (a b d : Int32) : zk_H := zk_si (zk_si (zk_si (zk_si (zk_si (zk_si (zk_si h 3 n 0) 4 n 99) 5 n a) 6 n 0) 7 n b) 8 n d) 1 1 (nI (n + 1))
def zk_mP (h : zk_H) (n : Nat) (a b d : Int32) : zk_H := zk_si (zk_si (zk_si (zk_si (zk_si (zk_si (zk_si h 1 n 0) 2 n 99) 3 n a) 4 n 0) 5 n b) 6 n d) 0 0 (nI (n + 1))
theorem jX4_addPerson (hP : h.1 1 1 = nI P) (h8 : P < 8) (H : K (nI P) (zk_cP h P x y z)) : pX4_addPerson [.ref 1, .int x, .int y, .int z] h K := by
  refine ⟨rfl, zk_bk hX4_addPerson (bX4_addPerson_0 ?_)⟩
  rw [hP, nI_clamp (by omega), nI_1]
  have hv := vp_in_nI h8 (by decide)
  exact ⟨(by unfold vp_in; decide), hv, (by unfold vp_in; decide), hv, (by unfold vp_in; decide), hv, (by unfold vp_in; decide), hv, (by unfold vp_in; decide), hv, (by unfold vp_in; decide), hv, H⟩
theorem jX12_newPerson (hP : h.1 0 0 = nI P) (h8 : P < 8) (H : K (nI P) (zk_mP h P x y z)) : pX12_newPerson [.ref 0, .int x, .int y, .int z] h K := by
  refine ⟨rfl, zk_bk hX12_newPerson (bX12_newPerson_0 ?_)⟩
  rw [hP, nI_clamp (by omega), nI_1]
  have hv := vp_in_nI h8 (by decide)
  exact ⟨hv, hv, hv, hv, hv, hv, H⟩
end ZKP
section ZK3
variable {lp : zk_lp} {c m : zk_H} {x y : Int32} {P N D U T B : Nat}
theorem zk_R_person (R : zk_R8 lp P N D U T B c m) (h8 : P < 8) (a b d : Int32) : zk_R8 lp (P + 1) N D U T B (zk_cP c P a b d) (zk_mP m P a b d) := by
  obtain ⟨r1, r2, r3, r4, r5, r6, r7, r8⟩ := R
  refine ⟨?_, (r2.up (Nat.le_succ P) (Nat.le_refl _)).cg (by simp [zk_si, zk_cP]) (by simp [zk_si, zk_cP]) (by simp [zk_si, zk_mP]) (by simp [zk_si, zk_mP]), r3.cg (by simp [zk_si, zk_cP]) (by simp [zk_si, zk_cP]) (by simp [zk_si, zk_mP]) (by simp [zk_si, zk_mP]), r4.cg (by simp [zk_si, zk_cP]) (by simp [zk_si, zk_cP]) (by simp [zk_si, zk_mP]) (by simp [zk_si, zk_mP]), r5.cg (by simp [zk_si, zk_cP]) (by simp [zk_si, zk_cP]) (by simp [zk_si, zk_mP]) (by simp [zk_si, zk_mP]), r6.cg (by simp [zk_si, zk_cP]) (by simp [zk_si, zk_cP]) (by simp [zk_si, zk_mP]) (by simp [zk_si, zk_mP]), fun s hs => (r7 s hs).cg (by unfold zk_cP; rw [zk_si_ne (by omega), zk_si_ne (by omega), zk_si_ne (by omega), zk_si_ne (by omega), zk_si_ne (by omega), zk_si_ne (by omega), zk_si_ne (by omega)]) rfl (by simp [zk_si, zk_mP]) rfl, zk_lpcg r8 (by simp [zk_si, zk_cP]) (by simp [zk_si, zk_mP]) (by simp [zk_si, zk_mP])⟩
  obtain ⟨⟨hP, hN⟩, ⟨f1, f2, f3, f4⟩, f5, f6, f7, f8, f9, f10⟩ := r1
  refine ⟨⟨by omega, hN⟩, ⟨by simp [zk_si, zk_cP], by simpa [zk_si, zk_cP] using f2, by simp [zk_si, zk_mP], by simpa [zk_si, zk_mP] using f4⟩, fun i hi => ?_, fun i hi => ?_, ?_, fun i hi hi8 => ?_, fun i hi => ?_, ?_⟩
  · by_cases e : i = P
    · subst e
      simp [zk_si, zk_cP, zk_mP]
    · have := f5 i (by omega)
      simpa [zk_si, zk_cP, zk_mP, e] using this
  · simpa [zk_si, zk_cP, zk_mP] using f6 i hi
  · simpa [zk_si, zk_cP, zk_mP] using f7
  · simpa [zk_si, zk_cP] using f8 i hi hi8
  · obtain ⟨a1, j, hj, ej⟩ := f9 i hi
    refine ⟨by simpa [zk_si, zk_mP] using a1, j, by omega, by simpa [zk_si, zk_mP] using ej⟩
  · simpa [zk_si, zk_mP] using f10
theorem e_person (R : zk_RR lp c m) : pX11_person [.ref 0, .int x] c (fun v c' => pX12_person [.ref 0, .int x] m (fun v' m' => v = v' ∧ zk_RR lp c' m')) := by
  obtain ⟨P, N, D, U, T, B, R8⟩ := id R
  obtain ⟨r1, -⟩ := id R8
  obtain ⟨⟨hP, hN⟩, ⟨f1, f2, f3, f4⟩, -⟩ := id r1
  have eP := nI_toInt (n := P) (by omega)
  refine ⟨rfl, zk_bk hX11_person (bX11_person_0 ?_)⟩
  refine jX4_fits (w := 2) (by decide) ?_
  show _ ∧ _
  rw [show zk_b (zk_fit 2 x) = zk_b (0 ≤ x ∧ x ≤ 3) from rfl, f1]
  refine ⟨fun c1 => ⟨fun c2 => ?_, fun c2 => ?_⟩, fun c1 => ?_⟩
  · have h8 : P < 8 := by
      simp only [Int32.lt_iff_toInt_lt, Int32.reduceToInt, eP] at c2
      omega
    refine jX4_addPerson f1 h8 ?_
    show pX12_person _ _ _
    refine ⟨rfl, zk_bk hX12_person (bX12_person_0 ?_)⟩
    refine jX12_within ⟨fun d1 => ?_, fun d1 => absurd (zk_b_n c1) (zk_b_0.mp d1)⟩
    rw [f3]
    exact ⟨fun d2 => jX12_newPerson f3 h8 ⟨rfl, P + 1, N, D, U, T, B, zk_R_person R8 h8 _ _ _⟩, fun d2 => absurd d2 (nI_neq (b := 8) (by omega) (by omega) (by decide))⟩
  · have h8 : P = 8 := by
      simp only [Int32.lt_iff_toInt_lt, Int32.reduceToInt, eP] at c2
      omega
    show pX12_person _ _ _
    refine ⟨rfl, zk_bk hX12_person (bX12_person_0 ?_)⟩
    refine jX12_within ⟨fun d1 => ?_, fun d1 => absurd (zk_b_n c1) (zk_b_0.mp d1)⟩
    rw [f3, h8]
    exact ⟨fun d2 => absurd rfl d2, fun d2 => ⟨rfl, R⟩⟩
  · show pX12_person _ _ _
    refine ⟨rfl, zk_bk hX12_person (bX12_person_0 ?_)⟩
    exact jX12_within ⟨fun d1 => absurd c1 d1, fun d1 => ⟨rfl, R⟩⟩
end ZK3
