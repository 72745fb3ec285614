/-! HOW MUCH A CARD COUNTS: weigh, counted -/
theorem zk_bit8 : ∀ M, M < 256 → zk_bc (nI M) = nI ((if M.testBit 0 then 1 else 0) + (if M.testBit 1 then 1 else 0) + (if M.testBit 2 then 1 else 0) + (if M.testBit 3 then 1 else 0) + (if M.testBit 4 then 1 else 0) + (if M.testBit 5 then 1 else 0) + (if M.testBit 6 then 1 else 0) + (if M.testBit 7 then 1 else 0)) := by decide +kernel
/-- how many of the first n -/
def zk_cn (p : Nat → Bool) : Nat → Nat
  | 0 => 0
  | n + 1 => zk_cn p n + (if p n then 1 else 0)
theorem zk_cn_c {p q : Nat → Bool} : ∀ {n : Nat}, (∀ i, i < n → p i = q i) → zk_cn p n = zk_cn q n
  | 0, _ => rfl
  | n + 1, h => by
    unfold zk_cn
    rw [zk_cn_c fun i hi => h i (by omega), h n (by omega)]
theorem zk_cn_up {p : Nat → Bool} {P : Nat} : ∀ d, zk_cn (fun i => decide (i < P) && p i) (P + d) = zk_cn p P
  | 0 => zk_cn_c fun i hi => by rw [decide_eq_true (show i < P from hi)]; rfl
  | d + 1 => by
    show zk_cn _ (P + d) + (if decide (P + d < P) && p (P + d) then 1 else 0) = _
    rw [zk_cn_up d, decide_eq_false (by omega)]
    rfl
theorem zk_cn_le {p : Nat → Bool} : ∀ {n : Nat}, zk_cn p n ≤ n
  | 0 => Nat.le_refl _
  | n + 1 => by
    unfold zk_cn
    have := zk_cn_le (p := p) (n := n)
    split <;> omega
theorem zk_bc_mask {p : Nat → Bool} {P : Nat} (hP : P ≤ 8) : zk_bc (nI (zk_mask p P)) = nI (zk_cn p P) := by
  rw [zk_bit8 _ (zk_mask_lt hP), ← zk_cn_up (8 - P), show P + (8 - P) = 8 by omega]
  simp only [zk_cn, zk_mask_tb, Nat.zero_add]
/-- how many KNOW card i's SECRET -/
def zk_n3 (m : zk_H) (P i : Nat) : Int32 := nI (zk_cn (fun o => decide (¬ m.1 10 i < 0) && decide ((m.1 6 o >>> (m.1 10 i &&& 31)) &&& 1 = 1)) P)
/-- what the law's NAMES are for card i and one of the people -/
def zk_nm (m : zk_H) (P i o : Nat) : Nat → Int32 := fun c => match c with
  | 0 => if (m.1 5 o >>> (m.1 7 i &&& 31)) &&& 1 = 1 then 1 else 0
  | 1 => if m.1 9 i = -1 then 1 else if m.1 9 i = m.1 3 o then 2 else 0
  | 2 => m.1 4 o
  | 3 => zk_n3 m P i
  | 4 => m.1 11 i
  | 5 => nI i
  | _ => 0
theorem zk_nm3 {m : zk_H} {P i o : Nat} : zk_nm m P i o 3 = zk_n3 m P i := by simp only [zk_nm]
theorem zk_nm4 {m : zk_H} {P i o : Nat} : zk_nm m P i o 4 = m.1 11 i := by simp only [zk_nm]
theorem zk_nm5 {m : zk_H} {P i o : Nat} : zk_nm m P i o 5 = nI i := by simp only [zk_nm]
def zk_dv (l hd f : Int32) : Int32 := (1 + 4 * l) * (if hd = 2 then 12 - f else if hd = 1 then 12 else f)
def zk_vw (lw : Option zk_lns) (m : zk_H) (P i o : Nat) : Int32 := match lw with
  | none => zk_dv (zk_nm m P i o 0) (zk_nm m P i o 1) (m.1 14 0)
  | some L => zk_vL (zk_nm m P i o) L
/-- how much card i counts for one of the people -/
def zk_wt (lw : Option zk_lns) (m : zk_H) (P i o : Nat) : Int32 := if zk_cq m i o then zk_clp (zk_vw lw m P i o) else 0
def zk_su (f : Nat → Int32) : Nat → Int32
  | 0 => 0
  | n + 1 => zk_su f n + f n
/-- what both must hold alike, that card i counts alike -/
def zk_wo (lw : Option zk_lns) (P : Nat) (c m : zk_H) (i : Nat) : Prop := (P ≤ 8 ∧ i < 7) ∧ (c.1 1 1 = nI P ∧ m.1 0 0 = nI P) ∧
  (∀ o, o < P → c.1 3 o = m.1 1 o ∧ c.1 4 o = m.1 2 o ∧ c.1 5 o = m.1 3 o ∧ c.1 6 o = m.1 4 o ∧ c.1 7 o = m.1 5 o ∧ c.1 8 o = m.1 6 o) ∧
  (c.1 9 i = m.1 8 i ∧ c.1 10 i = m.1 9 i ∧ c.1 11 i = m.1 10 i ∧ c.1 12 i = m.1 11 i ∧ c.1 16 i = m.1 7 i ∧ -1 ≤ m.1 9 i ∧ ∃ j, j < P ∧ m.1 7 i = nI j) ∧
  (c.1 13 0 = m.1 14 0 ∧ 0 ≤ m.1 14 0 ∧ m.1 14 0 ≤ 12) ∧
  zk_lpd lw (c.1 28 1) (c.1 29) (m.1 0 19) (m.1 0 20) (m.1 16) (m.1 17) (m.1 18) (m.1 19)
section ZKX
variable {lw : Option zk_lns} {P N i o : Nat} {c m c' m' h : zk_H}
theorem zk_off.wo (r : zk_off P N c m) (l : zk_lpd lw (c.1 28 1) (c.1 29) (m.1 0 19) (m.1 0 20) (m.1 16) (m.1 17) (m.1 18) (m.1 19)) (hi : i < N) : zk_wo lw P c m i := by
  obtain ⟨⟨hP, hN⟩, ⟨f1, f2, f3, f4⟩, f5, f6, f7, f8, f9, f10⟩ := r
  obtain ⟨b1, b2, b3, b4, b5, -⟩ := f6 i hi
  exact ⟨⟨hP, by omega⟩, ⟨f1, f3⟩, f5, ⟨b1, b2, b3, b4, b5, f9 i hi⟩, ⟨f7.1, f10⟩, l⟩
theorem zk_wo.ex {S S' : List Nat} (W : zk_wo lw P c m i) (hc : zk_ex S c c') (hm : zk_ex S' m m') (hS : ∀ k ∈ S, 29 < k) (hS' : ∀ k ∈ S', 19 < k) : zk_wo lw P c' m' i := by
  have C : ∀ k, k ≤ 29 → c'.1 k = c.1 k := fun k hk => hc.1 k fun q => by have := hS k q; omega
  have M : ∀ k, k ≤ 19 → m'.1 k = m.1 k := fun k hk => hm.1 k fun q => by have := hS' k q; omega
  unfold zk_wo at W ⊢
  rw [C 1 (by decide), C 3 (by decide), C 4 (by decide), C 5 (by decide), C 6 (by decide), C 7 (by decide), C 8 (by decide), C 9 (by decide), C 10 (by decide), C 11 (by decide), C 12 (by decide), C 13 (by decide), C 16 (by decide), C 28 (by decide), C 29 (by decide), M 0 (by decide), M 1 (by decide), M 2 (by decide), M 3 (by decide), M 4 (by decide), M 5 (by decide), M 6 (by decide), M 7 (by decide), M 8 (by decide), M 9 (by decide), M 10 (by decide), M 11 (by decide), M 14 (by decide), M 16 (by decide), M 17 (by decide), M 18 (by decide), M 19 (by decide)]
  exact W
theorem zk_cq_ex {S : List Nat} (hm : zk_ex S m m') (hS : ∀ k ∈ S, 11 < k) : zk_cq m' i o = zk_cq m i o := by
  have M : ∀ k, k ≤ 11 → m'.1 k = m.1 k := fun k hk => hm.1 k fun q => by have := hS k q; omega
  unfold zk_cq
  rw [M 7 (by decide), M 10 (by decide), M 6 (by decide), M 11 (by decide), M 1 (by decide), M 8 (by decide), M 2 (by decide)]
theorem zk_wt_ex {S : List Nat} (hm : zk_ex S m m') (hS : ∀ k ∈ S, 14 < k) : zk_wt lw m' P i o = zk_wt lw m P i o := by
  have M : ∀ k, k ≤ 14 → m'.1 k = m.1 k := fun k hk => hm.1 k fun q => by have := hS k q; omega
  have e : zk_nm m' P i o = zk_nm m P i o := by
    funext z
    unfold zk_nm zk_n3
    rw [M 5 (by decide), M 7 (by decide), M 9 (by decide), M 3 (by decide), M 4 (by decide), M 10 (by decide), M 6 (by decide), M 11 (by decide)]
  unfold zk_wt zk_vw
  rw [zk_cq_ex hm fun k hk => by have := hS k hk; omega, e, M 14 (by decide)]
theorem zk_wo.could (W : zk_wo lw P c m i) (ho : o < P) : zk_cp c i (c.1 11 i) o = zk_cq m i o := by
  obtain ⟨-, -, f5, ⟨b1, b2, b3, b4, b5, -⟩, -⟩ := W
  obtain ⟨a1, a2, a3, a4, a5, a6⟩ := f5 o ho
  unfold zk_cp zk_cq
  rw [a1, a2, a6, b1, b3, b4, b5]
theorem zk_dv_in : ∀ j, j < 13 → ∀ l, l < 2 → ∀ d, d < 3 → (if zk_dv (nI l) (nI d) (nI j) < 99 then zk_dv (nI l) (nI d) (nI j) else 99) = zk_clp (zk_dv (nI l) (nI d) (nI j)) := by decide +kernel
theorem zk_nm_0 : ∃ l, l < 2 ∧ zk_nm m P i o 0 = nI l := by
  show ∃ l, l < 2 ∧ (if (m.1 5 o >>> (m.1 7 i &&& 31)) &&& 1 = 1 then (1 : Int32) else 0) = nI l
  split
  · exact ⟨1, by decide, rfl⟩
  · exact ⟨0, by decide, rfl⟩
theorem zk_nm_1 : ∃ l, l < 3 ∧ zk_nm m P i o 1 = nI l := by
  show ∃ l, l < 3 ∧ (if m.1 9 i = -1 then (1 : Int32) else if m.1 9 i = m.1 3 o then 2 else 0) = nI l
  split
  · exact ⟨1, by decide, rfl⟩
  · split
    · exact ⟨2, by decide, rfl⟩
    · exact ⟨0, by decide, rfl⟩
theorem zk_flat_pos {L : zk_lns} (h : L ≠ []) : 0 < (zk_flat L).length := by
  cases L with
  | nil => exact absurd rfl h
  | cons q r =>
    unfold zk_flat
    simp
    omega
end ZKX
section ZKW
variable {K : Int32 → zk_H → Prop} {lw : Option zk_lns} {h c m : zk_H} {x y A : Int32} {P N i o : Nat}
theorem jX12_knowers (hP : P ≤ 8) (e : h.1 0 0 = nI P) (H : K (nI (zk_cn (fun o => decide (¬ x < 0) && decide ((h.1 6 o >>> (x &&& 31)) &&& 1 = 1)) P)) h) : pX12_knowers [.ref 0, .int x] h K := by
  refine ⟨rfl, zk_bk hX12_knowers (bX12_knowers_0 ?_)⟩
  have key : ∀ (n i : Nat), i + n = P → (zk_X zk_D (zk_lkl lkX12) zk_mt (zk_cxl [(163, zk_iP pX12_has)]) (some .int) (zk_at cdX12_knowers) (zk_qi K)) 4 [some (.ref 0), some (.int x), some (.int (nI (zk_cn (fun o => decide (¬ x < 0) && decide ((h.1 6 o >>> (x &&& 31)) &&& 1 = 1)) i))), some (.int (nI i))] [] h := by
    intro n
    induction n with
    | zero =>
      intro i hi
      have hiN : i = P := by omega
      subst hiN
      refine zk_bk hX12_knowers (bX12_knowers_4 ?_)
      rw [e]
      exact ⟨fun _ => H, fun q => absurd ((nI_leI (by omega) (by omega)).mpr (Nat.le_refl _)) q⟩
    | succ n ih =>
      intro i hi
      have I := ih (i + 1) (by omega)
      refine zk_bk hX12_knowers (bX12_knowers_4 ?_)
      rw [e, nI_1, nI_1, nI_clamp (n := i) (by omega)]
      have st : ∀ b : Bool, (decide (¬ x < 0) && decide ((h.1 6 i >>> (x &&& 31)) &&& 1 = 1)) = b → zk_cn (fun o => decide (¬ x < 0) && decide ((h.1 6 o >>> (x &&& 31)) &&& 1 = 1)) (i + 1) = zk_cn (fun o => decide (¬ x < 0) && decide ((h.1 6 o >>> (x &&& 31)) &&& 1 = 1)) i + (if b then 1 else 0) := by
        intro b hb
        subst hb
        rfl
      refine ⟨fun q => absurd q (nI_ge (by omega) (by omega)), fun _ => ⟨fun q => ?_, fun q => ⟨vp_in_nI (by omega) (by decide), jX12_has ⟨fun q2 => ?_, fun q2 => ?_⟩⟩⟩⟩
      · rw [st false (by simp [q])] at I
        exact I
      · rw [st false (by rw [decide_eq_false (zk_b_0.mp q2)]; simp)] at I
        exact I
      · rw [st true (by rw [decide_eq_true (zk_b_n q2), decide_eq_true q]; rfl)] at I
        exact I
  exact key P 0 (by omega)
theorem jX12_counted (W : zk_wo lw P c m i) (he : zk_ex [24, 25] m h) (ho : o < P) (H : ∀ h', zk_ex [24, 25] m h' → K (zk_wt lw m P i o) h') : pX12_counted [.ref 0, .int (nI o), .int (nI i)] h K := by
  obtain ⟨⟨hP, hi⟩, ⟨f1, f3⟩, f5, ⟨b1, b2, b3, b4, b5, b6, jj, hjj, ejj⟩, ⟨g1, g2, g3⟩, LL⟩ := id W
  have v7 : vp_in (nI i) 7 := vp_in_nI hi (by decide)
  have v8 : vp_in (nI o) 8 := vp_in_nI (by omega) (by decide)
  have M : ∀ k, k ≠ 24 → k ≠ 25 → h.1 k = m.1 k := fun k h1 h2 => he.1 k (by simp [h1, h2])
  refine ⟨rfl, zk_bk hX12_counted (bX12_counted_0 ?_)⟩
  refine jX12_could hi (by omega) ?_
  rw [zk_cq_ex he (by decide)]
  cases hq : zk_cq m i o
  · refine ⟨fun q => absurd rfl q, fun _ => ?_⟩
    have := H h he
    unfold zk_wt at this
    rw [hq] at this
    exact this
  refine ⟨fun _ => ⟨v8, v7, ?_⟩, fun q => absurd q (by decide)⟩
  have H' : ∀ h', zk_ex [24, 25] m h' → K (zk_clp (zk_vw lw m P i o)) h' := fun h' he' => by
    have := H h' he'
    unfold zk_wt at this
    rw [hq] at this
    exact this
  have tl : ∀ l hd : Int32, l = zk_nm m P i o 0 → hd = zk_nm m P i o 1 → (pX12_knowers [.ref 0, .int (h.1 10 (nI i).toNatClampNeg)] (zk_si (zk_si (zk_si h 25 0 l) 25 1 hd) 25 2 (h.1 4 (nI o).toNatClampNeg)) (fun v6 h5 => (vp_in (3 : Int32) 6 ∧ (vp_in (nI i) 7 ∧ (vp_in (4 : Int32) 6 ∧ (vp_in (5 : Int32) 6 ∧ ((¬ (h5.1 0 19) = 0 → (zk_X zk_D (zk_lkl lkX12) zk_mt (zk_cxl [(163, zk_iP pX12_has), (193, zk_iP pX12_worked), (195, zk_iP pX12_could), (196, zk_iP pX12_knowers)]) (some .int) (zk_at cdX12_counted) (zk_qi K)) 196 [some (.ref 0), some (.int (nI o)), some (.int (nI i)), some (.int (0 : Int32))] [] (zk_si (zk_si (zk_si h5 25 3 v6) 25 4 (h5.1 11 (nI i).toNatClampNeg)) 25 5 (nI i))) ∧ ((h5.1 0 19) = 0 → (vp_in (0 : Int32) 6 ∧ (vp_in (1 : Int32) 6 ∧ ((¬ (h5.1 25 1) = (2 : Int32) → (vp_in (1 : Int32) 6 ∧ ((¬ (h5.1 25 1) = (1 : Int32) → (vp_in (0 : Int32) 3 ∧ K (if (((1 : Int32) + ((4 : Int32) * (h5.1 25 0))) * (h5.1 14 0)) < (99 : Int32) then (((1 : Int32) + ((4 : Int32) * (h5.1 25 0))) * (h5.1 14 0)) else (99 : Int32)) (zk_si (zk_si (zk_si h5 25 3 v6) 25 4 (h5.1 11 (nI i).toNatClampNeg)) 25 5 (nI i)))) ∧ ((h5.1 25 1) = (1 : Int32) → K (if (((1 : Int32) + ((4 : Int32) * (h5.1 25 0))) * (12 : Int32)) < (99 : Int32) then (((1 : Int32) + ((4 : Int32) * (h5.1 25 0))) * (12 : Int32)) else (99 : Int32)) (zk_si (zk_si (zk_si h5 25 3 v6) 25 4 (h5.1 11 (nI i).toNatClampNeg)) 25 5 (nI i)))))) ∧ ((h5.1 25 1) = (2 : Int32) → (vp_in (0 : Int32) 3 ∧ K (if (((1 : Int32) + ((4 : Int32) * (h5.1 25 0))) * ((12 : Int32) - (h5.1 14 0))) < (99 : Int32) then (((1 : Int32) + ((4 : Int32) * (h5.1 25 0))) * ((12 : Int32) - (h5.1 14 0))) else (99 : Int32)) (zk_si (zk_si (zk_si h5 25 3 v6) 25 4 (h5.1 11 (nI i).toNatClampNeg)) 25 5 (nI i))))))))))))))) := by
    intro l hd hl hh
    refine jX12_knowers hP (by simp [zk_si, M, f3]) ?_
    have e3 : (nI (zk_cn (fun o' => decide (¬ (h.1 10 (nI i).toNatClampNeg) < 0) && decide (((zk_si (zk_si (zk_si h 25 0 l) 25 1 hd) 25 2 (h.1 4 (nI o).toNatClampNeg)).1 6 o' >>> ((h.1 10 (nI i).toNatClampNeg) &&& 31)) &&& 1 = 1)) P)) = zk_nm m P i o 3 := by
      rw [nI_clamp (n := i) (by omega)]
      simp [zk_si, M, zk_nm, zk_n3]
    rw [e3, nI_clamp (n := i) (by omega), nI_clamp (n := o) (by omega)]
    refine ⟨(by unfold vp_in; decide), v7, (by unfold vp_in; decide), (by unfold vp_in; decide), fun q => ?_, fun q => ⟨(by unfold vp_in; decide), (by unfold vp_in; decide), ?_⟩⟩
    · cases lw with
      | none => exact absurd (by simp [zk_si, M, LL.2]) q
      | some L =>
        obtain ⟨L1, L2, L3, L4, L5, L6, L7, L8, L9⟩ := LL
        refine l_cnt_196 L8 (by simp [zk_si, M, L7]) L 0 0 _ L2 (by omega) (by have := zk_lc_le L; omega) (by simp only [zk_si, M]; simpa [M] using L9) zk_ex.rf fun h' he' => ?_
        rw [zk_vL_c (nm' := zk_nm m P i o)]
        · exact H' h' ⟨fun k hk => by
            have hk1 : k ≠ 24 := fun z => hk (by simp [z])
            have hk2 : k ≠ 25 := fun z => hk (by simp [z])
            rw [he'.1 k (by simp [hk1])]
            simp [zk_si, hk2, M k hk1 hk2], he'.2.trans he.2⟩
        · intro z hz
          have hz' : z = 0 ∨ z = 1 ∨ z = 2 ∨ z = 3 ∨ z = 4 ∨ z = 5 := by omega
          rcases hz' with rfl | rfl | rfl | rfl | rfl | rfl
          · simp [zk_si, hl]
          · simp [zk_si, hh]
          · simp [zk_si, M, zk_nm]
          · simp [zk_si]
          · simp [zk_si, M, zk_nm]
          · simp [zk_si, zk_nm]
    · cases lw with
      | some L => exact absurd q (by simp [zk_si, M, LL.2.2.1])
      | none =>
        have fin : ∀ (f : Int32) (h' : zk_H), zk_ex [24, 25] m h' → f = zk_dv l hd (m.1 14 0) → K (if f < 99 then f else 99) h' := by
          intro f h' he' hf
          subst hf
          have := H' h' he'
          unfold zk_vw at this
          dsimp only at this
          rw [← hl, ← hh] at this
          obtain ⟨a, ha, ea⟩ := zk_nm_0 (m := m) (P := P) (i := i) (o := o)
          obtain ⟨d, hd', ed⟩ := zk_nm_1 (m := m) (P := P) (i := i) (o := o)
          obtain ⟨j, hj, ej⟩ := zk_ix (n := 13) (by decide) g2 (by
            have e13 : (nI 13 : Int32).toInt = 13 := rfl
            have e12 : (12 : Int32).toInt = 12 := rfl
            rw [Int32.le_iff_toInt_le, e12] at g3
            rw [Int32.lt_iff_toInt_lt, e13]
            omega)
          rw [hl, hh, ea, ed, ej, ← zk_dv_in j hj a ha d hd'] at this
          rw [hl, hh, ea, ed, ej]
          exact this
        have hx : ∀ a b d : Int32, zk_ex [24, 25] m (zk_si (zk_si (zk_si (zk_si (zk_si (zk_si h 25 0 l) 25 1 hd) 25 2 (h.1 4 o)) 25 3 a) 25 4 b) 25 5 d) := fun a b d => (((((he.si (by simp)).si (by simp)).si (by simp)).si (by simp)).si (by simp)).si (by simp)
        have r1 : (zk_si (zk_si (zk_si h 25 0 l) 25 1 hd) 25 2 (h.1 4 o)).1 25 1 = hd := by simp [zk_si]
        have r0 : (zk_si (zk_si (zk_si h 25 0 l) 25 1 hd) 25 2 (h.1 4 o)).1 25 0 = l := by simp [zk_si]
        have r14 : (zk_si (zk_si (zk_si h 25 0 l) 25 1 hd) 25 2 (h.1 4 o)).1 14 0 = m.1 14 0 := by simp [zk_si, M]
        rw [r1, r0, r14]
        refine ⟨fun q1 => ⟨(by unfold vp_in; decide), fun q2 => ⟨(by unfold vp_in; decide), fin _ _ (hx _ _ _) ?_⟩, fun q2 => fin _ _ (hx _ _ _) ?_⟩, fun q1 => ⟨(by unfold vp_in; decide), fin _ _ (hx _ _ _) ?_⟩⟩
        · unfold zk_dv; rw [if_neg q1, if_neg q2]
        · unfold zk_dv; rw [if_neg q1, if_pos q2]
        · unfold zk_dv; rw [if_pos q1]
  have e9 : h.1 9 (nI i).toNatClampNeg = m.1 9 i := by rw [nI_clamp (n := i) (by omega), M 9 (by decide) (by decide)]
  have e3' : h.1 3 (nI o).toNatClampNeg = m.1 3 o := by rw [nI_clamp (n := o) (by omega), M 3 (by decide) (by decide)]
  have l0 : ∀ q : ¬ (m.1 5 o >>> (m.1 7 i &&& 31)) &&& 1 = 1, (0 : Int32) = zk_nm m P i o 0 := fun q => (if_neg q).symm
  have l1 : ∀ q : (m.1 5 o >>> (m.1 7 i &&& 31)) &&& 1 = 1, (1 : Int32) = zk_nm m P i o 0 := fun q => (if_pos q).symm
  have d1 : m.1 9 i = -1 → (1 : Int32) = zk_nm m P i o 1 := fun q => (if_pos q).symm
  have d2 : ¬ m.1 9 i = -1 → m.1 9 i = m.1 3 o → (2 : Int32) = zk_nm m P i o 1 := fun q q2 => by
    show _ = (if m.1 9 i = -1 then (1 : Int32) else if m.1 9 i = m.1 3 o then 2 else 0)
    rw [if_neg q, if_pos q2]
  have d0 : ¬ m.1 9 i = -1 → ¬ m.1 9 i = m.1 3 o → (0 : Int32) = zk_nm m P i o 1 := fun q q2 => by
    show _ = (if m.1 9 i = -1 then (1 : Int32) else if m.1 9 i = m.1 3 o then 2 else 0)
    rw [if_neg q, if_neg q2]
  have ebit : (h.1 5 (nI o).toNatClampNeg >>> (h.1 7 (nI i).toNatClampNeg &&& 31)) &&& 1 = (m.1 5 o >>> (m.1 7 i &&& 31)) &&& 1 := by rw [nI_clamp (n := i) (by omega), nI_clamp (n := o) (by omega), M 5 (by decide) (by decide), M 7 (by decide) (by decide)]
  have rest : ∀ l : Int32, l = zk_nm m P i o 0 → (vp_in (0 : Int32) 6 ∧ (vp_in (nI i) 7 ∧ ((¬ h.1 9 (nI i).toNatClampNeg = (-1 : Int32) → (vp_in (nI i) 7 ∧ (vp_in (nI o) 8 ∧ ((¬ h.1 9 (nI i).toNatClampNeg = h.1 3 (nI o).toNatClampNeg → (vp_in (1 : Int32) 6 ∧ (vp_in (nI o) 8 ∧ (vp_in (2 : Int32) 6 ∧ (vp_in (nI i) 7 ∧ pX12_knowers [.ref 0, .int (h.1 10 (nI i).toNatClampNeg)] (zk_si (zk_si (zk_si h 25 0 l) 25 1 (0 : Int32)) 25 2 (h.1 4 (nI o).toNatClampNeg)) (fun v6 h5 => (vp_in (3 : Int32) 6 ∧ (vp_in (nI i) 7 ∧ (vp_in (4 : Int32) 6 ∧ (vp_in (5 : Int32) 6 ∧ ((¬ (h5.1 0 19) = 0 → (zk_X zk_D (zk_lkl lkX12) zk_mt (zk_cxl [(163, zk_iP pX12_has), (193, zk_iP pX12_worked), (195, zk_iP pX12_could), (196, zk_iP pX12_knowers)]) (some .int) (zk_at cdX12_counted) (zk_qi K)) 196 [some (.ref 0), some (.int (nI o)), some (.int (nI i)), some (.int (0 : Int32))] [] (zk_si (zk_si (zk_si h5 25 3 v6) 25 4 (h5.1 11 (nI i).toNatClampNeg)) 25 5 (nI i))) ∧ ((h5.1 0 19) = 0 → (vp_in (0 : Int32) 6 ∧ (vp_in (1 : Int32) 6 ∧ ((¬ (h5.1 25 1) = (2 : Int32) → (vp_in (1 : Int32) 6 ∧ ((¬ (h5.1 25 1) = (1 : Int32) → (vp_in (0 : Int32) 3 ∧ K (if (((1 : Int32) + ((4 : Int32) * (h5.1 25 0))) * (h5.1 14 0)) < (99 : Int32) then (((1 : Int32) + ((4 : Int32) * (h5.1 25 0))) * (h5.1 14 0)) else (99 : Int32)) (zk_si (zk_si (zk_si h5 25 3 v6) 25 4 (h5.1 11 (nI i).toNatClampNeg)) 25 5 (nI i)))) ∧ ((h5.1 25 1) = (1 : Int32) → K (if (((1 : Int32) + ((4 : Int32) * (h5.1 25 0))) * (12 : Int32)) < (99 : Int32) then (((1 : Int32) + ((4 : Int32) * (h5.1 25 0))) * (12 : Int32)) else (99 : Int32)) (zk_si (zk_si (zk_si h5 25 3 v6) 25 4 (h5.1 11 (nI i).toNatClampNeg)) 25 5 (nI i)))))) ∧ ((h5.1 25 1) = (2 : Int32) → (vp_in (0 : Int32) 3 ∧ K (if (((1 : Int32) + ((4 : Int32) * (h5.1 25 0))) * ((12 : Int32) - (h5.1 14 0))) < (99 : Int32) then (((1 : Int32) + ((4 : Int32) * (h5.1 25 0))) * ((12 : Int32) - (h5.1 14 0))) else (99 : Int32)) (zk_si (zk_si (zk_si h5 25 3 v6) 25 4 (h5.1 11 (nI i).toNatClampNeg)) 25 5 (nI i))))))))))))))))))) ∧ (h.1 9 (nI i).toNatClampNeg = h.1 3 (nI o).toNatClampNeg → (vp_in (1 : Int32) 6 ∧ (vp_in (nI o) 8 ∧ (vp_in (2 : Int32) 6 ∧ (vp_in (nI i) 7 ∧ pX12_knowers [.ref 0, .int (h.1 10 (nI i).toNatClampNeg)] (zk_si (zk_si (zk_si h 25 0 l) 25 1 (2 : Int32)) 25 2 (h.1 4 (nI o).toNatClampNeg)) (fun v6 h5 => (vp_in (3 : Int32) 6 ∧ (vp_in (nI i) 7 ∧ (vp_in (4 : Int32) 6 ∧ (vp_in (5 : Int32) 6 ∧ ((¬ (h5.1 0 19) = 0 → (zk_X zk_D (zk_lkl lkX12) zk_mt (zk_cxl [(163, zk_iP pX12_has), (193, zk_iP pX12_worked), (195, zk_iP pX12_could), (196, zk_iP pX12_knowers)]) (some .int) (zk_at cdX12_counted) (zk_qi K)) 196 [some (.ref 0), some (.int (nI o)), some (.int (nI i)), some (.int (0 : Int32))] [] (zk_si (zk_si (zk_si h5 25 3 v6) 25 4 (h5.1 11 (nI i).toNatClampNeg)) 25 5 (nI i))) ∧ ((h5.1 0 19) = 0 → (vp_in (0 : Int32) 6 ∧ (vp_in (1 : Int32) 6 ∧ ((¬ (h5.1 25 1) = (2 : Int32) → (vp_in (1 : Int32) 6 ∧ ((¬ (h5.1 25 1) = (1 : Int32) → (vp_in (0 : Int32) 3 ∧ K (if (((1 : Int32) + ((4 : Int32) * (h5.1 25 0))) * (h5.1 14 0)) < (99 : Int32) then (((1 : Int32) + ((4 : Int32) * (h5.1 25 0))) * (h5.1 14 0)) else (99 : Int32)) (zk_si (zk_si (zk_si h5 25 3 v6) 25 4 (h5.1 11 (nI i).toNatClampNeg)) 25 5 (nI i)))) ∧ ((h5.1 25 1) = (1 : Int32) → K (if (((1 : Int32) + ((4 : Int32) * (h5.1 25 0))) * (12 : Int32)) < (99 : Int32) then (((1 : Int32) + ((4 : Int32) * (h5.1 25 0))) * (12 : Int32)) else (99 : Int32)) (zk_si (zk_si (zk_si h5 25 3 v6) 25 4 (h5.1 11 (nI i).toNatClampNeg)) 25 5 (nI i)))))) ∧ ((h5.1 25 1) = (2 : Int32) → (vp_in (0 : Int32) 3 ∧ K (if (((1 : Int32) + ((4 : Int32) * (h5.1 25 0))) * ((12 : Int32) - (h5.1 14 0))) < (99 : Int32) then (((1 : Int32) + ((4 : Int32) * (h5.1 25 0))) * ((12 : Int32) - (h5.1 14 0))) else (99 : Int32)) (zk_si (zk_si (zk_si h5 25 3 v6) 25 4 (h5.1 11 (nI i).toNatClampNeg)) 25 5 (nI i))))))))))))))))))))))) ∧ (h.1 9 (nI i).toNatClampNeg = (-1 : Int32) → (vp_in (1 : Int32) 6 ∧ (vp_in (nI o) 8 ∧ (vp_in (2 : Int32) 6 ∧ (vp_in (nI i) 7 ∧ pX12_knowers [.ref 0, .int (h.1 10 (nI i).toNatClampNeg)] (zk_si (zk_si (zk_si h 25 0 l) 25 1 (1 : Int32)) 25 2 (h.1 4 (nI o).toNatClampNeg)) (fun v6 h5 => (vp_in (3 : Int32) 6 ∧ (vp_in (nI i) 7 ∧ (vp_in (4 : Int32) 6 ∧ (vp_in (5 : Int32) 6 ∧ ((¬ (h5.1 0 19) = 0 → (zk_X zk_D (zk_lkl lkX12) zk_mt (zk_cxl [(163, zk_iP pX12_has), (193, zk_iP pX12_worked), (195, zk_iP pX12_could), (196, zk_iP pX12_knowers)]) (some .int) (zk_at cdX12_counted) (zk_qi K)) 196 [some (.ref 0), some (.int (nI o)), some (.int (nI i)), some (.int (0 : Int32))] [] (zk_si (zk_si (zk_si h5 25 3 v6) 25 4 (h5.1 11 (nI i).toNatClampNeg)) 25 5 (nI i))) ∧ ((h5.1 0 19) = 0 → (vp_in (0 : Int32) 6 ∧ (vp_in (1 : Int32) 6 ∧ ((¬ (h5.1 25 1) = (2 : Int32) → (vp_in (1 : Int32) 6 ∧ ((¬ (h5.1 25 1) = (1 : Int32) → (vp_in (0 : Int32) 3 ∧ K (if (((1 : Int32) + ((4 : Int32) * (h5.1 25 0))) * (h5.1 14 0)) < (99 : Int32) then (((1 : Int32) + ((4 : Int32) * (h5.1 25 0))) * (h5.1 14 0)) else (99 : Int32)) (zk_si (zk_si (zk_si h5 25 3 v6) 25 4 (h5.1 11 (nI i).toNatClampNeg)) 25 5 (nI i)))) ∧ ((h5.1 25 1) = (1 : Int32) → K (if (((1 : Int32) + ((4 : Int32) * (h5.1 25 0))) * (12 : Int32)) < (99 : Int32) then (((1 : Int32) + ((4 : Int32) * (h5.1 25 0))) * (12 : Int32)) else (99 : Int32)) (zk_si (zk_si (zk_si h5 25 3 v6) 25 4 (h5.1 11 (nI i).toNatClampNeg)) 25 5 (nI i)))))) ∧ ((h5.1 25 1) = (2 : Int32) → (vp_in (0 : Int32) 3 ∧ K (if (((1 : Int32) + ((4 : Int32) * (h5.1 25 0))) * ((12 : Int32) - (h5.1 14 0))) < (99 : Int32) then (((1 : Int32) + ((4 : Int32) * (h5.1 25 0))) * ((12 : Int32) - (h5.1 14 0))) else (99 : Int32)) (zk_si (zk_si (zk_si h5 25 3 v6) 25 4 (h5.1 11 (nI i).toNatClampNeg)) 25 5 (nI i)))))))))))))))))))))) := by
    intro l hl
    exact ⟨(by unfold vp_in; decide), v7, fun q => ⟨v7, v8, fun q2 => ⟨(by unfold vp_in; decide), v8, (by unfold vp_in; decide), v7, tl l 0 hl (d0 (by rw [← e9]; exact q) (by rw [← e9, ← e3']; exact q2))⟩, fun q2 => ⟨(by unfold vp_in; decide), v8, (by unfold vp_in; decide), v7, tl l 2 hl (d2 (by rw [← e9]; exact q) (by rw [← e9, ← e3']; exact q2))⟩⟩, fun q => ⟨(by unfold vp_in; decide), v8, (by unfold vp_in; decide), v7, tl l 1 hl (d1 (by rw [← e9]; exact q))⟩⟩
  refine jX12_has ⟨fun q => rest 0 (l0 fun z => zk_b_0.mp q (ebit.trans z)), fun q => rest 1 (l1 (ebit.symm.trans (zk_b_n q)))⟩
theorem jX12_countedAll (W : zk_wo lw P c m i) (he : zk_ex [24, 25] m h) (H : ∀ h', zk_ex [24, 25] m h' → K (zk_su (zk_wt lw m P i) P) h') : pX12_countedAll [.ref 0, .int (nI i)] h K := by
  obtain ⟨⟨hP, hi⟩, ⟨f1, f3⟩, -⟩ := id W
  have key : ∀ (n o : Nat) (h : zk_H), o + n = P → zk_ex [24, 25] m h → (zk_X zk_D (zk_lkl lkX12) zk_mt (zk_cxl [(197, zk_iP pX12_counted)]) (some .int) (zk_at cdX12_countedAll) (zk_qi K)) 4 [some (.ref 0), some (.int (nI i)), some (.int (zk_su (zk_wt lw m P i) o)), some (.int (nI o))] [] h := by
    intro n
    induction n with
    | zero =>
      intro o h ho he
      have hoP : o = P := by omega
      refine zk_bk hX12_countedAll (bX12_countedAll_4 ?_)
      rw [he.1 0 (by decide), f3, hoP]
      exact ⟨fun _ => H h he, fun q => absurd ((nI_leI (by omega) (by omega)).mpr (Nat.le_refl _)) q⟩
    | succ n ih =>
      intro o h ho he
      refine zk_bk hX12_countedAll (bX12_countedAll_4 ?_)
      rw [he.1 0 (by decide), f3, nI_1]
      exact ⟨fun q => absurd q (nI_ge (by omega) (by omega)), fun _ => jX12_counted W he (by omega) fun h' he' => ih (o + 1) h' (by omega) he'⟩
  refine ⟨rfl, zk_bk hX12_countedAll (bX12_countedAll_0 ?_)⟩
  exact key P 0 h (by omega) he
end ZKW
