/-! CALLS: keep, row, put, element, taken -/
section ZKS
variable {lp : zk_lp} {P N D U T B s : Nat} {c m c' m' : zk_H}
theorem zk_s6 (h : s < 6) : s = 0 ∨ s = 1 ∨ s = 2 ∨ s = 3 ∨ s = 4 ∨ s = 5 := by omega
theorem zk_shelves (h : s < 6) : zk_C.2 45 s = some (46 + 2 * s) ∧ zk_Cs[46 + 2 * s]? = some (12, 5) ∧ zk_C.2 (46 + 2 * s) 4 = some (47 + 2 * s) ∧ zk_Cs[47 + 2 * s]? = some (1, 60) := by
  rcases zk_s6 h with rfl | rfl | rfl | rfl | rfl | rfl <;> exact ⟨rfl, rfl, rfl, rfl⟩
theorem jX11_shelfAt {K : Value → zk_H → Prop} {h : zk_H} {x : Int32} (H0 : (x < 0 ∨ ¬ x ≤ 5) → K .null h) (H1 : ∀ s, s < 6 → x = nI s → K (.retAddr (46 + 2 * s)) h) : pX11_shelfAt [.ref 0, .int x] h K := by
  refine ⟨rfl, zk_bk hX11_shelfAt (bX11_shelfAt_0 ?_)⟩
  refine ⟨fun q => H0 (Or.inl q), fun q => ⟨fun q2 => H0 (Or.inr ?_), fun q2 => ?_⟩⟩
  · ((try simp only [zk_b_0, zk_b_1] at *); simp only [Int32.lt_iff_toInt_lt, Int32.le_iff_toInt_le, ← Int32.toInt_inj, Int32.reduceToInt] at *; omega)
  · obtain ⟨s, hs, e⟩ := zk_ix (x := x) (n := 6) (by omega) (by ((try simp only [zk_b_0, zk_b_1] at *); simp only [Int32.lt_iff_toInt_lt, Int32.le_iff_toInt_le, ← Int32.toInt_inj, Int32.reduceToInt] at *; omega)) (by
      have : (nI 6).toInt = 6 := rfl
      simp only [Int32.lt_iff_toInt_lt, Int32.le_iff_toInt_le, this] at *
      ((try simp only [zk_b_0, zk_b_1] at *); simp only [Int32.lt_iff_toInt_lt, Int32.le_iff_toInt_le, ← Int32.toInt_inj, Int32.reduceToInt] at *; omega))
    subst e
    rw [nI_clamp (by omega)]
    exact ⟨vp_in_nI hs (by decide), _, (zk_shelves hs).1, H1 s hs rfl⟩
theorem zk_R_she (R : zk_R8 lp P N D U T B c m) (hs : s < 6) (hg : zk_she B s c' m') (C : ∀ k, k ≠ 46 + 2 * s → c'.1 k = c.1 k) (CL : ∀ k, k ≠ 47 + 2 * s → c'.2 k = c.2 k) (M : ∀ k, k ≠ 32 → k ≠ 33 → m'.1 k = m.1 k) (M3 : ∀ i, i ≠ s → m'.1 32 i = m.1 32 i ∧ m'.1 33 i = m.1 33 i) (ML : ∀ i, (i < 60 * s ∨ 60 * s + 60 ≤ i) → m'.2 34 i = m.2 34 i) : zk_R8 lp P N D U T B c' m' := by
  obtain ⟨r1, r2, r3, r4, r5, r6, r7, r8⟩ := R
  have M' : ∀ k, k < 32 → m'.1 k = m.1 k := fun k hk => M k (by omega) (by omega)
  have C' : ∀ k, k < 46 → c'.1 k = c.1 k := fun k hk => C k (by omega)
  refine ⟨r1.cg (fun k hk => ?_) ?_ (fun k hk => ?_), r2.cg (fun k hk => ?_) ?_ ?_ (M' 29 (by omega)), r3.cg ?_ (C' 25 (by omega)) ?_ (M' 15 (by omega)), r4.cg (C' 40 (by omega)) (C' 41 (by omega)) ?_ ?_, r5.cg ?_ (C' 43 (by omega)) ?_ (M' 30 (by omega)), r6.cg ?_ (C' 44 (by omega)) ?_ (M' 31 (by omega)), fun s' hs' => ?_, zk_lpcg r8 ⟨C' 28 (by omega), C' 29 (by omega)⟩ ?_ ⟨M' 16 (by omega), M' 17 (by omega), M' 18 (by omega), M' 19 (by omega)⟩⟩
  · simp only [List.mem_cons, List.not_mem_nil, or_false] at hk
    exact C' k (by omega)
  · rw [M' 0 (by omega)]; exact ⟨rfl, rfl⟩
  · simp only [List.mem_cons, List.not_mem_nil, or_false] at hk
    exact M' k (by omega)
  · simp only [List.mem_cons, List.not_mem_nil, or_false] at hk
    exact C' k (by omega)
  · rw [C' 19 (by omega)]; exact ⟨rfl, rfl⟩
  · rw [M' 0 (by omega)]; exact ⟨rfl, rfl⟩
  · rw [C' 24 (by omega)]
  · rw [M' 0 (by omega)]
  · rw [M' 0 (by omega)]; exact ⟨rfl, rfl, rfl, rfl⟩
  · exact ⟨M' 26 (by omega), M' 27 (by omega), M' 28 (by omega)⟩
  · rw [C' 42 (by omega)]
  · rw [M' 0 (by omega)]
  · rw [C' 42 (by omega)]
  · rw [M' 0 (by omega)]
  · by_cases e : s' = s
    · rw [e]; exact hg
    · have h := r7 s' hs'
      unfold zk_she at h ⊢
      rw [C _ (by omega), CL _ (by omega), (M3 s' e).1, (M3 s' e).2]
      rcases h with h | h | ⟨h1, t, z, h2, h3, h4, h5, h6, h7, h8⟩
      · exact Or.inl h
      · exact Or.inr (Or.inl h)
      · refine Or.inr (Or.inr ⟨h1, t, z, h2, h3, h4, h5, h6, h7, fun i hi => ?_⟩)
        rw [h8 i hi, ML _ (by omega)]
  · rw [M' 0 (by omega)]; exact ⟨rfl, rfl⟩
end ZKS
section ZKT
variable {K : Int32 → zk_H → Prop} {h : zk_H} {x y z : Int32} {s : Nat}
theorem zk_isShelf {x : Int32} (hx : x < 0 ∨ ¬ x ≤ 5) : zk_b (0 ≤ x ∧ x ≤ 5) = 0 := by
  rw [zk_b_f]
  intro q
  ((try simp only [zk_b_0, zk_b_1] at *); simp only [Int32.lt_iff_toInt_lt, Int32.le_iff_toInt_le, ← Int32.toInt_inj, Int32.reduceToInt] at *; omega)
theorem zk_onShelf (hs : s < 6) : zk_b (0 ≤ nI s ∧ nI s ≤ 5) = 1 := by
  rw [zk_b_t]
  have e := nI_toInt (n := s) (by omega)
  ((try simp only [zk_b_0, zk_b_1] at *); simp only [Int32.lt_iff_toInt_lt, Int32.le_iff_toInt_le, ← Int32.toInt_inj, Int32.reduceToInt] at *; omega)
theorem jX12_isRow (hs : s < 6) (H : K (zk_b (0 ≤ h.1 32 s ∧ h.1 32 s ≤ 4)) h) : pX12_isRow [.ref 0, .int (nI s)] h K := by
  refine ⟨rfl, zk_bk hX12_isRow (bX12_isRow_0 ?_)⟩
  rw [nI_clamp (by omega)]
  exact ⟨vp_in_nI hs (by decide), jX12_within ⟨zk_b_or, H⟩⟩
theorem jX8_refusalOfPlace (hs : s < 6) (H : K (if h.1 (46 + 2 * s) 0 = 2 then (if 0 ≤ x ∧ x < h.1 (46 + 2 * s) 3 then 0 else -13) else if h.1 (46 + 2 * s) 0 = 0 then -11 else -12) h) : pX8_refusalOfPlace [.retAddr (46 + 2 * s), .int x] h K := by
  have c := (zk_shelves hs).2.1
  refine ⟨rfl, zk_bk hX8_refusalOfPlace (bX8_refusalOfPlace_0 ?_)⟩
  refine ⟨c, fun q => ⟨fun q1 => ?_, fun q1 => ⟨c, fun q2 => ?_, fun q2 => ?_⟩⟩, fun q => ⟨c, fun q1 => ?_, fun q1 => ?_⟩⟩
  · rw [if_pos q, if_neg (fun z => by ((try simp only [zk_b_0, zk_b_1] at *); simp only [Int32.lt_iff_toInt_lt, Int32.le_iff_toInt_le, ← Int32.toInt_inj, Int32.reduceToInt] at *; omega))] at H; exact H
  · rw [if_pos q, if_neg (fun z => by ((try simp only [zk_b_0, zk_b_1] at *); simp only [Int32.lt_iff_toInt_lt, Int32.le_iff_toInt_le, ← Int32.toInt_inj, Int32.reduceToInt] at *; omega))] at H; exact H
  · rw [if_pos q, if_pos ⟨by ((try simp only [zk_b_0, zk_b_1] at *); simp only [Int32.lt_iff_toInt_lt, Int32.le_iff_toInt_le, ← Int32.toInt_inj, Int32.reduceToInt] at *; omega), by ((try simp only [zk_b_0, zk_b_1] at *); simp only [Int32.lt_iff_toInt_lt, Int32.le_iff_toInt_le, ← Int32.toInt_inj, Int32.reduceToInt] at *; omega)⟩] at H; exact H
  · rw [if_neg q, if_neg q1] at H; exact H
  · rw [if_neg q, if_pos q1] at H; exact H
theorem l_fill0_6 {K : zk_H → Prop} {m0 : zk_H} {b : Nat} (hb : zk_Cs[b]? = some (1, 60)) (next : K (zk_wl m0 b (fun j => if j < 60 then 0 else m0.2 b j))) :
    ∀ (n i : Nat), i + n = 60 → (zk_X zk_C (zk_lkl []) zk_mt (zk_cxl []) none (zk_at cdJ7_fill_d0a16) (zk_qv K)) 6 [some (.retAddr b), some (.long 0), none, some (.int (nI i)), some (.int (nI 60))] [] (zk_wl m0 b (fun j => if j < i then 0 else m0.2 b j)) := by
  intro n
  induction n with
  | zero =>
    intro i hi
    refine zk_bk hJ7_fill_d0a16 (bJ7_fill_d0a16_6 ?_)
    have hiN : i = 60 := by omega
    subst hiN
    exact ⟨fun _ => next, fun q => absurd (by decide) q⟩
  | succ n ih =>
    intro i hi
    refine zk_bk hJ7_fill_d0a16 (bJ7_fill_d0a16_6 ?_)
    refine ⟨fun q => absurd q (nI_ge (b := 60) (by omega) (by decide)), fun _ => ⟨60, hb, vp_in_nI (by omega) (by decide), ?_⟩⟩
    rw [nI_clamp (by omega), nI_1]
    have e : zk_sl (zk_wl m0 b (fun j => if j < i then 0 else m0.2 b j)) b i 0 = zk_wl m0 b (fun j => if j < i + 1 then 0 else m0.2 b j) := by
      unfold zk_sl zk_wl
      refine Prod.ext rfl (funext fun a => funext fun j => ?_)
      by_cases ha : a = b
      · by_cases hj : j = i
        · simp [ha, hj]
        · have : (j < i + 1) = (j < i) := propext ⟨fun q => by omega, fun q => by omega⟩
          simp [ha, hj, this]
      · simp [ha]
    rw [e]
    exact ih (i + 1) (by omega)
theorem jJ7_fill0 {K : zk_H → Prop} {b : Nat} (hb : zk_Cs[b]? = some (1, 60)) (H : K (zk_wl h b (fun j => if j < 60 then 0 else h.2 b j))) : pJ7_fill_d0a16 [.retAddr b, .long 0] h K := by
  refine ⟨rfl, zk_bk hJ7_fill_d0a16 (bJ7_fill_d0a16_0 ?_)⟩
  refine ⟨1, 60, by decide, hb, ?_⟩
  have := l_fill0_6 hb H 60 0 rfl
  rwa [show zk_wl h b (fun j => if j < 0 then 0 else h.2 b j) = h from by
    unfold zk_wl
    refine Prod.ext rfl (funext fun a => funext fun j => ?_)
    by_cases ha : a = b
    · simp [ha]
    · simp [ha]] at this
theorem zk_keep_ {x : Int64} {t : Nat} (ht : t < 5) {K : Int64 → zk_H → Prop} (H : K (if t = 0 then x.toInt32.toInt8.toInt32.toInt64 else if t = 1 then x.toInt32.toInt16.toInt32.toInt64 else if t = 2 then x.toInt32.toInt64 else if t = 3 then x else if x = 0 then 0 else 1) h) : pX12_kept [.int (nI t), .long x] h K := by
  refine ⟨rfl, zk_bk hX12_kept (bX12_kept_0 ?_)⟩
  rcases (show t = 0 ∨ t = 1 ∨ t = 2 ∨ t = 3 ∨ t = 4 by omega) with rfl | rfl | rfl | rfl | rfl
  · exact ⟨fun _ => H, fun q => absurd rfl q⟩
  · exact ⟨fun q => absurd q (by decide), fun _ => ⟨fun _ => H, fun q => absurd rfl q⟩⟩
  · exact ⟨fun q => absurd q (by decide), fun _ => ⟨fun q => absurd q (by decide), fun _ => ⟨fun _ => H, fun q => absurd rfl q⟩⟩⟩
  · exact ⟨fun q => absurd q (by decide), fun _ => ⟨fun q => absurd q (by decide), fun _ => ⟨fun q => absurd q (by decide), fun _ => ⟨fun _ => H, fun q => absurd rfl q⟩⟩⟩⟩
  · refine ⟨fun q => absurd q (by decide), fun _ => ⟨fun q => absurd q (by decide), fun _ => ⟨fun q => absurd q (by decide), fun _ => ⟨fun q => absurd q (by decide), fun _ => ⟨fun q => ?_, fun q => ?_⟩⟩⟩⟩⟩
    · simp only [lg_cmp_eq] at q
      show K 0 h
      simpa [q] using H
    · simp only [lg_cmp_eq] at q
      show K 1 h
      simpa [q] using H
theorem jX8_lowestBits {x : Int64} {t : Nat} (hs : s < 6) (ht : t < 5) (et : h.1 (46 + 2 * s) 2 = nI t) {K : Int64 → zk_H → Prop} (H : K (if t = 0 then x.toInt32.toInt8.toInt32.toInt64 else if t = 1 then x.toInt32.toInt16.toInt32.toInt64 else if t = 2 then x.toInt32.toInt64 else if t = 3 then x else if x = 0 then 0 else 1) h) : pX8_lowestBits [.retAddr (46 + 2 * s), .long x] h K := by
  have c := (zk_shelves hs).2.1
  refine ⟨rfl, zk_bk hX8_lowestBits (bX8_lowestBits_0 ?_)⟩
  rw [et]
  refine ⟨c, ?_⟩
  rcases (show t = 0 ∨ t = 1 ∨ t = 2 ∨ t = 3 ∨ t = 4 by omega) with rfl | rfl | rfl | rfl | rfl
  · exact ⟨fun _ => H, fun q => absurd rfl q⟩
  · exact ⟨fun q => absurd q (by decide), fun _ => ⟨fun _ => H, fun q => absurd rfl q⟩⟩
  · exact ⟨fun q => absurd q (by decide), fun _ => ⟨fun q => absurd q (by decide), fun _ => ⟨fun _ => H, fun q => absurd rfl q⟩⟩⟩
  · exact ⟨fun q => absurd q (by decide), fun _ => ⟨fun q => absurd q (by decide), fun _ => ⟨fun q => absurd q (by decide), fun _ => ⟨fun _ => H, fun q => absurd rfl q⟩⟩⟩⟩
  · refine ⟨fun q => absurd q (by decide), fun _ => ⟨fun q => absurd q (by decide), fun _ => ⟨fun q => absurd q (by decide), fun _ => ⟨fun q => absurd q (by decide), fun _ => ⟨fun _ => ⟨fun q => ?_, fun q => ?_⟩, fun q => absurd rfl q⟩⟩⟩⟩⟩
    · simp only [lg_cmp_eq] at q
      show K 0 h
      simpa [q] using H
    · simp only [lg_cmp_eq] at q
      show K 1 h
      simpa [q] using H
end ZKT
