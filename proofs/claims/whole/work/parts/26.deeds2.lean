/-! CALLS: back, thanked -/
theorem zk_ex.wi {S : List Nat} {h h' : zk_H} {a : Nat} {f : Nat → Int32} (e : zk_ex S h h') (ha : a ∈ S) : zk_ex S h (zk_wi h' a f) := ⟨fun k hk => by
    have hne : k ≠ a := fun q => hk (by rw [q]; exact ha)
    rw [show (zk_wi h' a f).1 k = h'.1 k from funext fun z => by simp [zk_wi, hne]]
    exact e.1 k hk, e.2⟩
theorem nI_neq {a b : Nat} (h : a ≠ b) (ha : a < 2 ^ 31) (hb : b < 2 ^ 31) : ¬ nI a = nI b := fun q => h ((nI_eq ha hb).mp q)
section ZK3
variable {lp : zk_lp} {c m : zk_H} {x : Int32}
theorem l_back_20 {K : Int32 → zk_H → Prop} {m0 : zk_H} {N O : Nat} (hN : N ≤ 6) (hO : O ≤ 6) (e7 : m0.1 0 7 = nI N) (e37 : m0.1 0 37 = nI O) (next : ∀ h, zk_ex [13] m0 h → (∀ j, j < N → h.1 13 j = if j < O then m0.1 27 j else -2) → (zk_X zk_D (zk_lkl lkX12) zk_mt (zk_cxl []) (some .int) (zk_at cdX12_back) (zk_qi K)) 61 [some (.ref 0), some (.int 0)] [] h) :
    ∀ (n i : Nat), i + n = N → ∀ h, zk_ex [13] m0 h → (∀ j, j < i → h.1 13 j = if j < O then m0.1 27 j else -2) → (zk_X zk_D (zk_lkl lkX12) zk_mt (zk_cxl []) (some .int) (zk_at cdX12_back) (zk_qi K)) 20 [some (.ref 0), some (.int (nI i))] [] h := by
  intro n
  induction n with
  | zero =>
    intro i hi h he hj
    refine zk_bk hX12_back (bX12_back_20 ?_)
    rw [he.1 0 (by decide), e7]
    have hiN : i = N := by omega
    subst hiN
    exact ⟨fun _ => next h he hj, fun q => absurd (nI_le (Nat.le_refl _) (by omega)) q⟩
  | succ n ih =>
    intro i hi h he hj
    refine zk_bk hX12_back (bX12_back_20 ?_)
    rw [he.1 0 (by decide), e7, e37]
    have step : ∀ v : Int32, v = (if i < O then m0.1 27 i else -2) → (zk_X zk_D (zk_lkl lkX12) zk_mt (zk_cxl []) (some .int) (zk_at cdX12_back) (zk_qi K)) 20 [some (.ref 0), some (.int (nI i + 1))] [] (zk_si h 13 i v) := by
      intro v hv
      rw [nI_1]
      refine ih (i + 1) (by omega) _ (he.si (by simp)) (fun j hj2 => ?_)
      rw [zk_si_at]
      by_cases e : j = i
      · rw [if_pos e, e, hv]
      · rw [if_neg e]
        exact hj j (by omega)
    refine ⟨fun q => absurd q (nI_ge (by omega) (by omega)), fun _ => ⟨fun q => ⟨vp_in_nI (by omega) (by decide), ?_⟩, fun q => ⟨vp_in_nI (by omega) (by decide), vp_in_nI (by omega) (by decide), ?_⟩⟩⟩
    · rw [nI_clamp (by omega)]
      refine step _ ?_
      rw [if_neg]
      intro hlt
      exact absurd q (nI_ge hlt (by omega))
    · rw [nI_clamp (by omega)]
      refine step _ ?_
      rw [if_pos, he.1 27 (by decide)]
      exact Nat.not_le.mp fun hle => q (nI_le hle (by omega))
theorem l_back_61 {K : Int32 → zk_H → Prop} {m0 : zk_H} (next : ∀ h, zk_ex [26] m0 h → (∀ j, j < 4 → h.1 26 j = m0.1 28 j) → K (m0.1 0 16) h) :
    ∀ (n i : Nat), i + n = 4 → ∀ h, zk_ex [26] m0 h → (∀ j, j < i → h.1 26 j = m0.1 28 j) → (zk_X zk_D (zk_lkl lkX12) zk_mt (zk_cxl []) (some .int) (zk_at cdX12_back) (zk_qi K)) 61 [some (.ref 0), some (.int (nI i))] [] h := by
  intro n
  induction n with
  | zero =>
    intro i hi h he hj
    refine zk_bk hX12_back (bX12_back_61 ?_)
    have hi7 : i = 4 := by omega
    subst hi7
    refine ⟨fun _ => ?_, fun q => absurd (by decide) q⟩
    rw [he.1 0 (by decide)]
    exact next h he hj
  | succ n ih =>
    intro i hi h he hj
    refine zk_bk hX12_back (bX12_back_61 ?_)
    refine ⟨fun q => absurd q (nI_ge (b := 4) (by omega) (by decide)), fun _ => ⟨vp_in_nI (by omega) (by decide), vp_in_nI (by omega) (by decide), ?_⟩⟩
    rw [nI_clamp (by omega), nI_1]
    refine ih (i + 1) (by omega) _ (he.si (by simp)) (fun j hj2 => ?_)
    rw [zk_si_at]
    by_cases e : j = i
    · rw [if_pos e, e, he.1 28 (by decide)]
    · rw [if_neg e]
      exact hj j (by omega)
theorem e_back (R : zk_RR lp c m) : pX11_back [.ref 0] c (fun v c' => pX12_back [.ref 0] m (fun v' m' => v = v' ∧ zk_RR lp c' m')) := by
  obtain ⟨P, N, D, U, T, B, R8⟩ := id R
  obtain ⟨r1, r2, r3, r4, r5, r6, r7, r8⟩ := R8
  obtain ⟨⟨e1, e2, e3, e4, e5⟩, e6, e7⟩ := id r4
  refine ⟨rfl, zk_bk hX11_back (bX11_back_0 ?_)⟩
  rcases e7 with e7 | ⟨e7, ⟨i1, i2, i3, i4, i5⟩, O, hO, i6, i7, i8⟩
  · refine ⟨fun c1 => ?_, fun c1 => absurd (e6.trans e7) c1⟩
    show pX12_back _ _ _
    refine ⟨rfl, zk_bk hX12_back (bX12_back_0 ?_)⟩
    exact ⟨fun d1 => absurd e7 d1, fun d1 => ⟨rfl, R⟩⟩
  · refine ⟨fun c1 => absurd (c1.symm.trans (e6.trans e7)) (by decide), fun c1 => ?_⟩
    refine ⟨rfl, zk_bk hX2_layImageBack (bX2_layImageBack_0 ?_)⟩
    refine ⟨(by unfold vp_in; decide), ⟨by decide, by decide, by decide, by decide, by decide⟩, ?_⟩
    show pX12_back _ _ _
    obtain ⟨⟨hP, hN⟩, ⟨f1, f2, f3, f4⟩, f5, f6, f7, f8, f9⟩ := id r1
    refine ⟨rfl, zk_bk hX12_back (bX12_back_0 ?_)⟩
    refine ⟨fun d1 => l_back_20 (N := N) (O := O) hN (by omega) (by simpa [zk_si] using f4) (by simpa [zk_si] using i6) (fun h1 he1 hj1 => l_back_61 (fun h2 he2 hj2 => ?_) 4 0 rfl _ zk_ex.rf (fun j hj => absurd hj (by omega))) N 0 (by omega) _ zk_ex.rf (fun j hj => absurd hj (by omega)), fun d1 => absurd (d1.symm.trans e7) (by decide)⟩
    have g : ∀ k, k ∉ [0, 13, 26] → h2.1 k = m.1 k := fun k hk => by
      rw [he2.1 k (fun q => hk (by simp at q ⊢; omega)), he1.1 k (fun q => hk (by simp at q ⊢; omega))]
      simp only [zk_si_ne (show k ≠ 0 from fun q => hk (by simp [q]))]
    have g0 : ∀ j, j ≠ 16 → h2.1 0 j = m.1 0 j := fun j a => by
      rw [he2.1 0 (by decide), he1.1 0 (by decide)]
      simp [zk_si, a]
    have g16 : h2.1 0 16 = m.1 0 38 := by
      rw [he2.1 0 (by decide), he1.1 0 (by decide)]
      simp [zk_si]
    have gl : h2.2 = m.2 := by rw [he2.2, he1.2]; rfl
    have k13 : ∀ j, j < N → h2.1 13 j = if j < O then m.1 27 j else -2 := fun j hj => by
      rw [he2.1 13 (by decide), hj1 j hj]
      simp [zk_si]
    have k26 : ∀ j, j < 4 → h2.1 26 j = m.1 28 j := fun j hj => by
      rw [hj2 j hj, he1.1 28 (by decide)]
      simp [zk_si]
    refine ⟨?_, P, N, D, U, T, B, ?_, r2.cg (by simp [zk_si, zk_sl, zk_wi, zk_wl]) (by simp [zk_si, zk_sl, zk_wi, zk_wl]) (by simp [zk_si, zk_sl, zk_wi, zk_wl, g0]) (by simp [zk_si, zk_sl, zk_wi, zk_wl, g]), r3.cg (by simp [zk_si, zk_sl, zk_wi, zk_wl]) (by simp [zk_si, zk_sl, zk_wi, zk_wl]) (by simp [zk_si, zk_sl, zk_wi, zk_wl, g0]) (by simp [zk_si, zk_sl, zk_wi, zk_wl, g]), ?_, r5.cg (by simp [zk_si, zk_sl, zk_wi, zk_wl]) (by simp [zk_si, zk_sl, zk_wi, zk_wl]) (by simp [zk_si, zk_sl, zk_wi, zk_wl, g0]) (by simp [zk_si, zk_sl, zk_wi, zk_wl, g]), r6.cg (by simp [zk_si, zk_sl, zk_wi, zk_wl]) (by simp [zk_si, zk_sl, zk_wi, zk_wl]) (by simp [zk_si, zk_sl, zk_wi, zk_wl, g0]) (by simp [zk_si, zk_sl, zk_wi, zk_wl, g]), fun s hs => (r7 s hs).cg ?_ rfl (by simp [zk_si, zk_sl, zk_wi, zk_wl, g]) (by rw [gl]), zk_lpcg r8 (by simp [zk_si, zk_sl, zk_wi, zk_wl]) (by simp [zk_si, zk_sl, zk_wi, zk_wl, g0]) (by simp [zk_si, zk_sl, zk_wi, zk_wl, g])⟩
    · rw [he1.1 0 (by decide), zk_si_at]
      simp
      exact i1
    · refine ⟨⟨hP, hN⟩, ⟨by simpa [zk_si, zk_wi] using f1, by simpa [zk_si, zk_wi] using f2, by rw [g0 0 (by decide)]; exact f3, by rw [g0 7 (by decide)]; exact f4⟩, fun i hi => ?_, fun i hi => ?_, ?_, fun i hi hi8 => ?_, ?_⟩
      · simpa [zk_si, zk_wi, g] using f5 i hi
      · obtain ⟨a1, a2, a3, a4, a5, a6, a7⟩ := f6 i hi
        refine ⟨by simpa [zk_si, zk_wi, g] using a1, by simpa [zk_si, zk_wi, g] using a2, by simpa [zk_si, zk_wi, g] using a3, by simpa [zk_si, zk_wi, g] using a4, by simpa [zk_si, zk_wi, g] using a5, by simpa [zk_si, zk_wi, g] using a6, ?_⟩
        rw [k13 i hi]
        by_cases hlt : i < O
        · rw [if_pos hlt]
          simpa [zk_si, zk_wi, va_cpy, show i < 6 by omega] using i7 i hlt
        · rw [if_neg hlt]
          simpa [zk_si, zk_wi, va_cpy, show i < 6 by omega] using i8 i (by omega) (by omega)
      · simpa [zk_si, zk_wi, g] using f7
      · obtain ⟨a1, a2⟩ := f8 i hi hi8
        refine ⟨by simpa [zk_si, zk_wi] using a1, ?_⟩
        by_cases h6 : i < 6
        · simpa [zk_si, zk_wi, va_cpy, h6] using i8 i (by omega) h6
        · simpa [zk_si, zk_wi, va_cpy, h6] using a2
      · simpa [g] using f9
    · refine ⟨⟨by rw [g16]; simpa [zk_si, zk_wi] using i1, by rw [k26 0 (by decide)]; simpa [zk_si, zk_wi] using i2, by rw [k26 2 (by decide)]; simpa [zk_si, zk_wi] using i3, by rw [k26 3 (by decide)]; simpa [zk_si, zk_wi] using i4, by rw [k26 1 (by decide), k26 2 (by decide), k26 3 (by decide)]; exact i5⟩, by rw [g0 36 (by decide)]; simpa [zk_si, zk_wi] using e6, Or.inr ⟨by rw [g0 36 (by decide)]; exact e7, ⟨by rw [g0 38 (by decide)]; simpa [zk_si, zk_wi] using i1, by rw [g 28 (by decide)]; simpa [zk_si, zk_wi] using i2, by rw [g 28 (by decide)]; simpa [zk_si, zk_wi] using i3, by rw [g 28 (by decide)]; simpa [zk_si, zk_wi] using i4, by rw [g 28 (by decide)]; exact i5⟩, O, hO, by rw [g0 37 (by decide)]; exact i6, fun i hi => ?_, fun i hi hi6 => ?_⟩⟩
      · rw [g 27 (by decide)]
        simpa [zk_si, zk_wi] using i7 i hi
      · simpa [zk_si, zk_wi] using i8 i hi hi6
    · have : 46 + 2 * s ≠ 18 := by omega
      have : 46 + 2 * s ≠ 40 := by omega
      simp [zk_wi, zk_si, *]
theorem e_thanked (R : zk_RR lp c m) : pX11_thanked [.ref 0, .int x] c (fun v c' => pX12_thanked [.ref 0, .int x] m (fun v' m' => v = v' ∧ zk_RR lp c' m')) := by
  obtain ⟨P, N, D, U, T, B, R8⟩ := id R
  obtain ⟨r1, r2, r3, r4, r5, r6, r7, r8⟩ := R8
  obtain ⟨⟨hP, hN⟩, ⟨f1, f2, f3, f4⟩, f5, f6, f7, f8, f9⟩ := id r1
  obtain ⟨⟨e1, e2, e3, e4, e5⟩, e6, e7⟩ := id r4
  refine ⟨rfl, zk_bk hX11_thanked (bX11_thanked_0 ?_)⟩
  refine jX4_isCardAndPerson ?_
  rw [f1, f2]
  refine ⟨fun c1 => ⟨by decide, ?_⟩, fun c1 => ?_⟩
  · obtain ⟨a1, ⟨a2, a3⟩, a4, a5⟩ := zk_b_n c1
    obtain ⟨cd, hcd, ecd⟩ := zk_ix (by omega) a2 a3
    obtain ⟨on, hon, eon⟩ := zk_ix (by omega) a4 a5
    rw [ecd] at eon
    obtain ⟨b1, b2, b3, b4, b5, b6, b7⟩ := f6 cd hcd
    have stay : ∀ k : Int32 → zk_H → Prop, k (-5) m → (m.1 12 cd = -2 ∨ ¬ m.1 13 cd = -2) → pX12_thanked [.ref 0, .int x] m k := by
      intro k hk hor
      refine ⟨rfl, zk_bk hX12_thanked (bX12_thanked_0 ?_)⟩
      refine jX12_isCardOf f3 hP f4 (by omega) ⟨fun d1 => ⟨by decide, ?_⟩, fun d1 => absurd ⟨a1, ⟨a2, a3⟩, a4, a5⟩ (zk_b_0.mp d1)⟩
      rw [ecd, nI_clamp (by omega)]
      refine ⟨vp_in_nI (by omega) (by decide), fun _ => hk, fun d2 => ⟨vp_in_nI (by omega) (by decide), fun d3 => ?_, fun _ => hk⟩⟩
      rcases hor with hor | hor
      · exact absurd hor d2
      · exact absurd d3 hor
    refine ⟨rfl, zk_bk hX2_mayBeThanked (bX2_mayBeThanked_0 ?_)⟩
    rw [ecd, nI_clamp (by omega), b6, b7]
    refine ⟨(by unfold vp_in; decide), vp_in_nI (by omega) (by decide), fun c2 => ⟨Or.inl rfl, ?_⟩, fun c2 => ⟨(by unfold vp_in; decide), vp_in_nI (by omega) (by decide), fun c3 => ⟨Or.inl rfl, ?_⟩, fun c3 => ⟨Or.inr rfl, ?_⟩⟩⟩
    · exact ⟨fun _ => stay _ ⟨rfl, R⟩ (Or.inl c2), fun q => absurd rfl q⟩
    · exact ⟨fun _ => stay _ ⟨rfl, R⟩ (Or.inr c3), fun q => absurd rfl q⟩
    · refine ⟨fun q => absurd q (by decide), fun _ => ⟨by decide, by decide, ?_⟩⟩
      rw [eon]
      refine ⟨rfl, zk_bk hX2_thankOne (bX2_thankOne_0 ?_)⟩
      rw [nI_clamp (by omega), b6]
      refine ⟨(by unfold vp_in; decide), vp_in_nI (by omega) (by decide), (by unfold vp_in; decide), vp_in_nI (by omega) (by decide), ?_⟩
      have fin : ∀ (w w' : Nat) (hw : w = 3 ∧ w' = 2 ∨ w = 4 ∧ w' = 3), zk_RR lp (zk_si (zk_si c 18 cd (nI on)) 40 w (c.1 40 w + 1)) (zk_si (zk_si (zk_si m 13 cd (nI on)) 26 1 (m.1 26 1 + 1)) 26 w' (m.1 26 w' + 1)) := by
        intro w w' hw
        refine ⟨P, N, D, U, T, B, ?_, r2.cg (by simp [zk_si, zk_sl, zk_wi, zk_wl]) (by simp [zk_si, zk_sl, zk_wi, zk_wl]) (by simp [zk_si, zk_sl, zk_wi, zk_wl]) (by simp [zk_si, zk_sl, zk_wi, zk_wl]), r3.cg (by simp [zk_si, zk_sl, zk_wi, zk_wl]) (by simp [zk_si, zk_sl, zk_wi, zk_wl]) (by simp [zk_si, zk_sl, zk_wi, zk_wl]) (by simp [zk_si, zk_sl, zk_wi, zk_wl]), ?_, r5.cg (by simp [zk_si, zk_sl, zk_wi, zk_wl]) (by simp [zk_si, zk_sl, zk_wi, zk_wl]) (by simp [zk_si, zk_sl, zk_wi, zk_wl]) (by simp [zk_si, zk_sl, zk_wi, zk_wl]), r6.cg (by simp [zk_si, zk_sl, zk_wi, zk_wl]) (by simp [zk_si, zk_sl, zk_wi, zk_wl]) (by simp [zk_si, zk_sl, zk_wi, zk_wl]) (by simp [zk_si, zk_sl, zk_wi, zk_wl]), fun s hs => (r7 s hs).cg (by rw [zk_si_ne (by omega), zk_si_ne (by omega)]) rfl (by simp [zk_si, zk_sl, zk_wi, zk_wl]) rfl, zk_lpcg r8 (by simp [zk_si, zk_sl, zk_wi, zk_wl]) (by simp [zk_si, zk_sl, zk_wi, zk_wl]) (by simp [zk_si, zk_sl, zk_wi, zk_wl])⟩
        · refine ⟨⟨hP, hN⟩, ⟨by simpa [zk_si] using f1, by simpa [zk_si] using f2, by simpa [zk_si] using f3, by simpa [zk_si] using f4⟩, fun i hi => by simpa [zk_si] using f5 i hi, fun i hi => ?_, by simpa [zk_si] using f7, fun i hi hi8 => ?_, by simpa [zk_si] using f9⟩
          · by_cases e : i = cd
            · subst e
              simpa [zk_si] using ⟨b1, b2, b3, b4, b5, b6⟩
            · simpa [zk_si, e] using f6 i hi
          · simpa [zk_si, show i ≠ cd by omega] using f8 i hi hi8
        · rcases hw with ⟨rfl, rfl⟩ | ⟨rfl, rfl⟩
          · refine ⟨⟨by simpa [zk_si] using e1, by simpa [zk_si] using e2, by simpa [zk_si] using e3, by simpa [zk_si] using e4, ?_⟩, by simpa [zk_si] using e6, by simpa [zk_si] using e7⟩
            simp [zk_si]
            rw [e5]
            ac_rfl
          · refine ⟨⟨by simpa [zk_si] using e1, by simpa [zk_si] using e2, by simpa [zk_si] using e3, by simpa [zk_si] using e4, ?_⟩, by simpa [zk_si] using e6, by simpa [zk_si] using e7⟩
            simp [zk_si]
            rw [e5]
            ac_rfl
      refine ⟨fun c4 => ?_, fun c4 => ?_⟩ <;> show pX12_thanked _ _ _ <;> refine ⟨rfl, zk_bk hX12_thanked (bX12_thanked_0 ?_)⟩ <;> refine jX12_isCardOf f3 hP f4 (by omega) ⟨fun d1 => ⟨by decide, ?_⟩, fun d1 => absurd ⟨a1, ⟨a2, a3⟩, a4, a5⟩ (zk_b_0.mp d1)⟩ <;> rw [ecd, nI_clamp (by omega)] <;> refine ⟨vp_in_nI (by omega) (by decide), fun d2 => absurd d2 c2, fun d2 => ⟨vp_in_nI (by omega) (by decide), fun d3 => ⟨by decide, vp_in_nI (by omega) (by decide), vp_in_nI (by omega) (by decide), by decide, ?_⟩, fun d3 => absurd c3 d3⟩⟩ <;> rw [eon]
      · exact ⟨fun _ => ⟨(by unfold vp_in; decide), (by unfold vp_in; decide), fun _ => ⟨(by unfold vp_in; decide), (by unfold vp_in; decide), fun _ => ⟨rfl, fin 4 3 (Or.inr ⟨rfl, rfl⟩)⟩, fun q => absurd rfl q⟩, fun q => absurd rfl q⟩, fun q => absurd q c4⟩
      · exact ⟨fun q => absurd c4 q, fun _ => ⟨(by unfold vp_in; decide), (by unfold vp_in; decide), fun q => absurd q (by decide), fun _ => ⟨(by unfold vp_in; decide), (by unfold vp_in; decide), fun q => absurd q (by decide), fun _ => ⟨rfl, fin 3 2 (Or.inl ⟨rfl, rfl⟩)⟩⟩⟩⟩
  · show pX12_thanked _ _ _
    refine ⟨rfl, zk_bk hX12_thanked (bX12_thanked_0 ?_)⟩
    exact jX12_isCardOf f3 hP f4 (by omega) ⟨fun d1 => absurd c1 d1, fun d1 => ⟨rfl, R⟩⟩
end ZK3
