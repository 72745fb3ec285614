/-! CALLS: image, back, thanked -/
/-- the same but in some cells of ints -/
def zk_ex (S : List Nat) (h h' : zk_H) : Prop := (∀ k, k ∉ S → h'.1 k = h.1 k) ∧ h'.2 = h.2
theorem zk_ex.rf {S : List Nat} {h : zk_H} : zk_ex S h h := ⟨fun _ _ => rfl, rfl⟩
theorem zk_ex.si {S : List Nat} {h h' : zk_H} {a j : Nat} {v : Int32} (e : zk_ex S h h') (ha : a ∈ S) : zk_ex S h (zk_si h' a j v) := ⟨fun k hk => by
    have hne : k ≠ a := fun q => hk (by rw [q]; exact ha)
    rw [zk_si_ne hne]
    exact e.1 k hk, e.2⟩
section ZK3
variable {lp : zk_lp} {c m : zk_H} {x : Int32}
theorem l_image_23 {K : Int32 → zk_H → Prop} {m0 : zk_H} (next : ∀ h, zk_ex [27] m0 h → (∀ j, j < 7 → h.1 27 j = m0.1 13 j) → (zk_X zk_D (zk_lkl lkX12) zk_mt (zk_cxl []) (some .int) (zk_at cdX12_image) (zk_qi K)) 49 [some (.ref 0), some (.int 0)] [] h) :
    ∀ (n i : Nat), i + n = 7 → ∀ h, zk_ex [27] m0 h → (∀ j, j < i → h.1 27 j = m0.1 13 j) → (zk_X zk_D (zk_lkl lkX12) zk_mt (zk_cxl []) (some .int) (zk_at cdX12_image) (zk_qi K)) 23 [some (.ref 0), some (.int (nI i))] [] h := by
  intro n
  induction n with
  | zero =>
    intro i hi h he hj
    refine zk_bk hX12_image (bX12_image_23 ?_)
    have hi7 : i = 7 := by omega
    subst hi7
    exact ⟨fun _ => next h he hj, fun q => absurd (by decide) q⟩
  | succ n ih =>
    intro i hi h he hj
    refine zk_bk hX12_image (bX12_image_23 ?_)
    refine ⟨fun q => absurd q (nI_ge (b := 7) (by omega) (by decide)), fun _ => ⟨vp_in_nI (by omega) (by decide), vp_in_nI (by omega) (by decide), ?_⟩⟩
    rw [nI_clamp (by omega), nI_1]
    refine ih (i + 1) (by omega) _ (he.si (by simp)) (fun j hj2 => ?_)
    rw [zk_si_at]
    by_cases e : j = i
    · rw [if_pos e, e, he.1 13 (by decide)]
    · rw [if_neg e]
      exact hj j (by omega)
theorem l_image_49 {K : Int32 → zk_H → Prop} {m0 : zk_H} (next : ∀ h, zk_ex [28] m0 h → (∀ j, j < 4 → h.1 28 j = m0.1 26 j) → K (m0.1 0 16) h) :
    ∀ (n i : Nat), i + n = 4 → ∀ h, zk_ex [28] m0 h → (∀ j, j < i → h.1 28 j = m0.1 26 j) → (zk_X zk_D (zk_lkl lkX12) zk_mt (zk_cxl []) (some .int) (zk_at cdX12_image) (zk_qi K)) 49 [some (.ref 0), some (.int (nI i))] [] h := by
  intro n
  induction n with
  | zero =>
    intro i hi h he hj
    refine zk_bk hX12_image (bX12_image_49 ?_)
    have hi7 : i = 4 := by omega
    subst hi7
    refine ⟨fun _ => ?_, fun q => absurd (by decide) q⟩
    rw [he.1 0 (by decide)]
    exact next h he hj
  | succ n ih =>
    intro i hi h he hj
    refine zk_bk hX12_image (bX12_image_49 ?_)
    refine ⟨fun q => absurd q (nI_ge (b := 4) (by omega) (by decide)), fun _ => ⟨vp_in_nI (by omega) (by decide), vp_in_nI (by omega) (by decide), ?_⟩⟩
    rw [nI_clamp (by omega), nI_1]
    refine ih (i + 1) (by omega) _ (he.si (by simp)) (fun j hj2 => ?_)
    rw [zk_si_at]
    by_cases e : j = i
    · rw [if_pos e, e, he.1 26 (by decide)]
    · rw [if_neg e]
      exact hj j (by omega)
theorem e_image (R : zk_RR lp c m) : pX11_image [.ref 0] c (fun v c' => pX12_image [.ref 0] m (fun v' m' => v = v' ∧ zk_RR lp c' m')) := by
  obtain ⟨P, N, D, U, T, B, R8⟩ := id R
  obtain ⟨r1, r2, r3, r4, r5, r6, r7, r8⟩ := R8
  refine ⟨rfl, zk_bk hX11_image (bX11_image_0 ?_)⟩
  refine ⟨rfl, zk_bk hX2_keepImage (bX2_keepImage_0 ?_)⟩
  refine ⟨Or.inr rfl, (by unfold vp_in; decide), ⟨by decide, by decide, by decide, by decide, by decide⟩, ?_⟩
  show pX12_image _ _ _
  refine ⟨rfl, zk_bk hX12_image (bX12_image_0 ?_)⟩
  refine ⟨Or.inr rfl, l_image_23 (fun h1 he1 hj1 => l_image_49 (fun h2 he2 hj2 => ?_) 4 0 rfl _ zk_ex.rf (fun j hj => absurd hj (by omega))) 7 0 rfl _ zk_ex.rf (fun j hj => absurd hj (by omega))⟩
  have g : ∀ k, k ∉ [0, 27, 28] → h2.1 k = m.1 k := fun k hk => by
    rw [he2.1 k (fun q => hk (by simp at q ⊢; omega)), he1.1 k (fun q => hk (by simp at q ⊢; omega))]
    simp only [zk_si_ne (show k ≠ 0 from fun q => hk (by simp [q]))]
  have g0 : ∀ j, j ≠ 36 → j ≠ 37 → j ≠ 38 → h2.1 0 j = m.1 0 j := fun j a b d => by
    rw [he2.1 0 (by decide), he1.1 0 (by decide)]
    simp [zk_si, a, b, d]
  have g36 : h2.1 0 36 = 1 ∧ h2.1 0 37 = m.1 0 7 ∧ h2.1 0 38 = m.1 0 16 := by
    rw [he2.1 0 (by decide), he1.1 0 (by decide)]
    simp [zk_si]
  have gl : h2.2 = m.2 := by rw [he2.2, he1.2]; rfl
  refine ⟨?_, P, N, D, U, T, B, r1.cg (by simp [zk_si, zk_sl, zk_wi, zk_wl]) ⟨g0 0 (by decide) (by decide) (by decide), g0 7 (by decide) (by decide) (by decide)⟩ (by simp [zk_si, zk_sl, zk_wi, zk_wl, g]), r2.cg (by simp [zk_si, zk_sl, zk_wi, zk_wl]) (by simp [zk_si, zk_sl, zk_wi, zk_wl]) (by simp [zk_si, zk_sl, zk_wi, zk_wl, g0]) (by simp [zk_si, zk_sl, zk_wi, zk_wl, g]), r3.cg (by simp [zk_si, zk_sl, zk_wi, zk_wl]) (by simp [zk_si, zk_sl, zk_wi, zk_wl]) (by simp [zk_si, zk_sl, zk_wi, zk_wl, g0]) (by simp [zk_si, zk_sl, zk_wi, zk_wl, g]), ?_, r5.cg (by simp [zk_si, zk_sl, zk_wi, zk_wl]) (by simp [zk_si, zk_sl, zk_wi, zk_wl]) (by simp [zk_si, zk_sl, zk_wi, zk_wl, g0]) (by simp [zk_si, zk_sl, zk_wi, zk_wl, g]), r6.cg (by simp [zk_si, zk_sl, zk_wi, zk_wl]) (by simp [zk_si, zk_sl, zk_wi, zk_wl]) (by simp [zk_si, zk_sl, zk_wi, zk_wl, g0]) (by simp [zk_si, zk_sl, zk_wi, zk_wl, g]), fun s hs => (r7 s hs).cg ?_ rfl (by simp [zk_si, zk_sl, zk_wi, zk_wl, g]) (by rw [gl]), zk_lpcg r8 (by simp [zk_si, zk_sl, zk_wi, zk_wl]) (by simp [zk_si, zk_sl, zk_wi, zk_wl, g0]) (by simp [zk_si, zk_sl, zk_wi, zk_wl, g])⟩
  · rw [he1.1 0 (by decide), zk_si_at, zk_si_at, zk_si_at]
    simp
    exact r4.1.1
  · obtain ⟨⟨e1, e2, e3, e4, e5⟩, -⟩ := r4
    obtain ⟨⟨hP, hN⟩, ⟨f1, f2, f3, f4⟩, -, f6, -, f8, -⟩ := r1
    have k26 : h2.1 26 = m.1 26 := g 26 (by decide)
    have k28 : ∀ j, j < 4 → h2.1 28 j = m.1 26 j := fun j hj => by
      rw [hj2 j hj, he1.1 26 (by decide)]
      simp [zk_si]
    have k27 : ∀ j, j < 7 → h2.1 27 j = m.1 13 j := fun j hj => by
      rw [he2.1 27 (by decide), hj1 j hj]
      simp [zk_si]
    unfold zk_dee
    rw [k26, g36.1, g36.2.1, g36.2.2, g0 16 (by decide) (by decide) (by decide), k28 0 (by decide), k28 1 (by decide), k28 2 (by decide), k28 3 (by decide)]
    refine ⟨⟨by simpa [zk_si, zk_wi] using e1, by simpa [zk_si, zk_wi] using e2, by simpa [zk_si, zk_wi] using e3, by simpa [zk_si, zk_wi] using e4, e5⟩, by simp [zk_si, zk_wi], Or.inr ⟨rfl, ⟨by simpa [zk_si, zk_wi] using e1, by simpa [zk_si, zk_wi] using e2, by simpa [zk_si, zk_wi] using e3, by simpa [zk_si, zk_wi] using e4, e5⟩, N, Nat.le_refl _, f4, fun i hi => ?_, fun i hi hi6 => ?_⟩⟩
    · rw [k27 i (by omega)]
      have := (f6 i hi).2.2.2.2.2.2
      simp [zk_si, zk_wi, va_cpy, show i < 6 by omega]
      exact this
    · have := (f8 i hi (by omega)).2
      simp [zk_si, zk_wi, va_cpy, hi6]
      exact this
  · have : 46 + 2 * s ≠ 41 := by omega
    have : 46 + 2 * s ≠ 40 := by omega
    simp [zk_wi, zk_si, *]
end ZK3
