/-! CALL: drawn -/
theorem zk_i32 (x : Int32) : x = nI x.toBitVec.toNat := by
  apply Int32.toBitVec_inj.mp
  apply BitVec.eq_of_toNat_eq
  rw [pk_tn x.toBitVec.isLt]
theorem zk_u8 (x : Int32) : ∃ k, k < 2 ^ 24 ∧ (x.toUInt32 >>> ((8 : Int32).toUInt32 &&& Int32.toUInt32 31)).toInt32 = nI k := by
  refine ⟨(x.toUInt32 >>> ((8 : Int32).toUInt32 &&& Int32.toUInt32 31)).toInt32.toBitVec.toNat, ?_, zk_i32 _⟩
  rw [pk_ushr x 8 8 (by decide)]
  have := x.toBitVec.isLt
  omega
/-- by whom the card at a point is -/
def zk_pk (w : Nat → Nat) : Nat → Nat → Nat → Nat
  | 0, o, _ => o
  | n + 1, o, r => if r < w o then o else zk_pk w n (o + 1) (r - w o)
theorem zk_pk_lt {w : Nat → Nat} : ∀ {n o r : Nat}, r + zk_sn w o < zk_sn w (o + n) → zk_pk w n o r < o + n
  | 0, o, r, h => by rw [Nat.add_zero] at h; omega
  | n + 1, o, r, h => by
    unfold zk_pk
    by_cases q : r < w o
    · rw [if_pos q]; omega
    · rw [if_neg q]
      have := zk_pk_lt (w := w) (n := n) (o := o + 1) (r := r - w o) (by
        rw [show o + 1 + n = o + (n + 1) by omega]
        show r - w o + (zk_sn w o + w o) < _
        omega)
      omega
/-- the seed, and how often each, behind i draws -/
def zk_dz (z : Int32) : Int32 := z * 1103515245 + 12345
def zk_rn (z : Int32) : Nat := (z.toUInt32 >>> ((8 : Int32).toUInt32 &&& Int32.toUInt32 31)).toInt32.toNatClampNeg
theorem zk_rn_e (z : Int32) {B : Nat} (hA : 0 < B) (hA2 : B ≤ 792) : (z.toUInt32 >>> ((8 : Int32).toUInt32 &&& Int32.toUInt32 31)).toInt32 - (z.toUInt32 >>> ((8 : Int32).toUInt32 &&& Int32.toUInt32 31)).toInt32 / nI B * nI B = nI (zk_rn z % B) := by
  obtain ⟨k, hk, ek⟩ := zk_u8 z
  unfold zk_rn
  rw [ek, nI_clamp (by omega)]
  exact pk_rem (by omega) hA (by omega)
def zk_dp (w : Nat → Nat) (A P : Nat) (z : Int32) : Nat := zk_pk w P 0 (zk_rn (zk_dz z) % A)
def zk_inc (t : Nat → Nat) (p : Nat) : Nat → Nat := fun o => if o = p then t o + 1 else t o
def zk_dr (w : Nat → Nat) (A P : Nat) (z : Int32) : Nat → Int32 × (Nat → Nat)
  | 0 => (z, fun _ => 0)
  | i + 1 => (zk_dz (zk_dr w A P z i).1, zk_inc (zk_dr w A P z i).2 (zk_dp w A P (zk_dr w A P z i).1))
theorem zk_dr_le {w : Nat → Nat} {A P : Nat} {z : Int32} : ∀ {i o : Nat}, (zk_dr w A P z i).2 o ≤ i
  | 0, _ => Nat.le_refl _
  | i + 1, o => by
    have := zk_dr_le (w := w) (A := A) (P := P) (z := z) (i := i) (o := o)
    unfold zk_dr zk_inc
    dsimp only
    split <;> omega
def zk_mx (t : Nat → Nat) : Nat → Nat
  | 0 => 0
  | n + 1 => if zk_mx t n < t n then t n else zk_mx t n
theorem zk_mx_ge {t : Nat → Nat} : ∀ {n o : Nat}, o < n → t o ≤ zk_mx t n
  | n + 1, o, h => by
    unfold zk_mx
    rcases Nat.lt_or_ge o n with q | q
    · have := zk_mx_ge (t := t) q
      split <;> omega
    · have : o = n := by omega
      subst this
      split <;> omega
theorem zk_mx_lt {t : Nat → Nat} {b : Nat} (h : ∀ o, t o ≤ b) : ∀ {n : Nat}, zk_mx t n ≤ b
  | 0 => Nat.zero_le _
  | n + 1 => by
    unfold zk_mx
    have := zk_mx_lt h (n := n)
    have := h n
    split <;> omega
theorem zk_mx_up {t : Nat → Nat} {p : Nat} : ∀ {n : Nat}, zk_mx (zk_inc t p) n = if p < n then (if zk_mx t n < t p + 1 then t p + 1 else zk_mx t n) else zk_mx t n
  | 0 => rfl
  | n + 1 => by
    have ih := zk_mx_up (t := t) (p := p) (n := n)
    show (if zk_mx _ n < (if n = p then t n + 1 else t n) then (if n = p then t n + 1 else t n) else zk_mx _ n) = _
    rw [ih]
    show _ = if p < n + 1 then (if (if zk_mx t n < t n then t n else zk_mx t n) < t p + 1 then t p + 1 else (if zk_mx t n < t n then t n else zk_mx t n)) else (if zk_mx t n < t n then t n else zk_mx t n)
    by_cases e : n = p
    · subst e
      rw [if_pos rfl, if_neg (Nat.lt_irrefl n), if_pos (Nat.lt_succ_self n)]
      repeat' split
      all_goals omega
    · rw [if_neg e]
      by_cases q : p < n
      · rw [if_pos q, if_pos (show p < n + 1 by omega)]
        repeat' split
        all_goals omega
      · rw [if_neg q, if_neg (show ¬ p < n + 1 by omega)]
def zk_dv2 (w : Nat → Nat) (A P : Nat) (z : Int32) (n : Nat) (y : Int32) : Int32 := if 0 ≤ y then nI ((zk_dr w A P z (if A = 0 then 0 else n)).2 y.toNatClampNeg) else nI (zk_mx (zk_dr w A P z (if A = 0 then 0 else n)).2 8)
section ZKW
variable {K : Int32 → zk_H → Prop} {lw : Option zk_lns} {h c m : zk_H} {x y z A M : Int32} {P N i o : Nat}
theorem jX12_counted_u {S : List Nat} (W : zk_wo lw P c m i) (he : zk_ex S m h) (hS : ∀ k ∈ S, 19 < k) (ho : o < P) (H : ∀ h', zk_ex [24, 25] h h' → K (zk_wt lw m P i o) h') : pX12_counted [.ref 0, .int (nI o), .int (nI i)] h K :=
  jX12_counted (W.ex (zk_ex.rf (S := [])) he (by simp) hS) zk_ex.rf ho fun h' he' => by
    rw [zk_wt_ex he fun k hk => by have := hS k hk; omega]
    exact H h' he'
theorem l_whoIsAt_4 {w : Nat → Nat} (hP : P ≤ 8) (e1 : h.1 1 1 = nI P) (hw : ∀ o, o < P → h.1 33 o = nI (w o)) (hw99 : ∀ o, w o ≤ 99) : ∀ (n o r : Nat), o + n = P → r + zk_sn w o < zk_sn w P → K (nI (zk_pk w n o r)) h → (zk_X zk_C (zk_lkl lkX6) zk_mt (zk_cxl []) (some .int) (zk_at cdX6_whoIsAt) (zk_qi K)) 4 [some (.ref 36), some (.int x), some (.int (nI r)), some (.int (nI o))] [] h := by
  intro n
  induction n with
  | zero =>
    intro o r ho hr _
    have hoP : o = P := by omega
    subst hoP
    omega
  | succ n ih =>
    intro o r ho hr H
    have hb := zk_sn_le hw99 P
    have := hw99 o
    refine zk_bk hX6_whoIsAt (bX6_whoIsAt_4 ?_)
    rw [e1, nI_1, nI_clamp (n := o) (by omega), hw o (by omega)]
    refine ⟨fun q => absurd q (nI_ge (by omega) (by omega)), fun _ => ⟨vp_in_nI (by omega) (by decide), fun q => ?_, fun q => ?_⟩⟩
    · have hle : w o ≤ r := by
        rcases Nat.lt_or_ge r (w o) with u | u
        · have := pk_sneg (a := r) (b := w o) (by omega) u
          exact absurd q (Int32.not_le.mpr this)
        · exact u
      rw [nI_sub hle]
      refine ih (o + 1) (r - w o) (by omega) (by show r - w o + (zk_sn w o + w o) < _; omega) ?_
      unfold zk_pk at H
      rw [if_neg (by omega)] at H
      exact H
    · have hlt : r < w o := by
        rcases Nat.lt_or_ge r (w o) with u | u
        · exact u
        · exact absurd (by rw [nI_sub u]; exact nI_pos' (by omega)) q
      unfold zk_pk at H
      rw [if_pos hlt] at H
      exact H
theorem zk_pk_in {w : Nat → Nat} {r : Nat} (hs : zk_sn w P = N) (hr : r < N) : zk_pk w P 0 r < P := by
  have := zk_pk_lt (w := w) (n := P) (o := 0) (r := r) (by rw [Nat.zero_add, hs]; exact hr)
  rw [Nat.zero_add] at this
  exact this
theorem zk_mxi {t : Nat → Nat} {p k : Nat} (hp : p < 8) (ht : ∀ o, t o ≤ k) (hk : k ≤ 50) : (if nI (zk_mx t 8) < nI (t p + 1) then nI (t p + 1) else nI (zk_mx t 8)) = nI (zk_mx (zk_inc t p) 8) := by
  have h1 := zk_mx_lt ht (n := 8)
  have h2 := ht p
  rw [zk_mx_up, if_pos hp]
  by_cases u : zk_mx t 8 < t p + 1
  · rw [if_pos u, if_pos (nI_lt u (by omega))]
  · rw [if_neg u, if_neg fun v => u ((nI_ltI (by omega) (by omega)).mp v)]
theorem l_times_27 {w : Nat → Nat} {n : Nat} (hP : P ≤ 8) (hs : zk_sn w P = N) (hN : N ≤ 792) (hw99 : ∀ o, w o ≤ 99) (hn : n ≤ 50) (hy : y < nI P) (f1 : c.1 1 1 = nI P) (hw : ∀ o, o < P → c.1 33 o = nI (w o)) (H : ∀ c', zk_ex [37] c c' → K (zk_dv2 w N P z n y) c') : ∀ (d k : Nat) (zz : Int32) (t : Nat → Nat) (h : zk_H), k + d = n → (N = 0 → k = 0) → (zk_dr w N P z k) = (zz, t) → zk_ex [37] c h → (∀ o, o < 8 → h.1 37 o = nI (t o)) → (zk_X zk_C (zk_lkl lkX6) zk_mt (zk_cxl [(74, zk_iP pX6_whoIsAt), (92, zk_iP pX10_weigh), (272, zk_vP pJ7_fill_53178)]) (some .int) (zk_at cdX6_timesDrawn) (zk_qi K)) 27 [some (.ref 36), some (.int x), some (.int A), some (.int (nI n)), some (.int y), some (.int (nI N)), some (.int zz), some (.int (nI (zk_mx t 8))), some (.int (nI k)), none] [] h := by
  have fin : ∀ (k : Nat) (zz : Int32) (t : Nat → Nat) (h : zk_H), k = (if N = 0 then 0 else n) → (zk_dr w N P z k) = (zz, t) → zk_ex [37] c h → (∀ o, o < 8 → h.1 37 o = nI (t o)) → ((0 ≤ y → (vp_in y 8 ∧ K (h.1 37 y.toNatClampNeg) h)) ∧ (¬ 0 ≤ y → K (nI (zk_mx t 8)) h)) := by
    intro k zz t h hk et he ht
    have H2 := H h he
    unfold zk_dv2 at H2
    rw [← hk, et] at H2
    refine ⟨fun q => ?_, fun q => ?_⟩
    · obtain ⟨j, hj, ej⟩ := zk_ix (by omega) q hy
      rw [if_pos q, ej, nI_clamp (by omega)] at H2
      rw [ej, nI_clamp (by omega), ht j (by omega)]
      exact ⟨vp_in_nI (by omega) (by decide), H2⟩
    · rw [if_neg q] at H2
      exact H2
  intro d
  induction d with
  | zero =>
    intro k zz t h hk hk0 et he ht
    refine zk_bk hX6_timesDrawn (bX6_timesDrawn_27 ?_)
    refine ⟨fun _ => fin k zz t h (by split <;> omega) et he ht, fun q => absurd ((nI_leI (by omega) (by omega)).mpr (by omega)) q⟩
  | succ d ih =>
    intro k zz t h hk hk0 et he ht
    refine zk_bk hX6_timesDrawn (bX6_timesDrawn_27 ?_)
    refine ⟨fun q => absurd q (nI_ge (by omega) (by omega)), fun _ => ⟨fun q => ?_, fun q => ?_⟩⟩
    · have e0 : N = 0 := Nat.eq_zero_of_le_zero ((nI_leI (b := 0) (by omega) (by decide)).mp q)
      exact fin k zz t h (by rw [if_pos e0]; exact hk0 e0) et he ht
    · have hp : 0 < N := Nat.pos_of_ne_zero fun z => q (by rw [z]; exact Int32.le_refl _)
      refine ⟨fun z => q (by rw [z]; exact Int32.le_refl _), ?_⟩
      rw [zk_rn_e _ hp hN]
      show pX6_whoIsAt [.ref 36, .int (nI (zk_rn (zk_dz zz) % N))] h _
      obtain ⟨r, hr, er⟩ : ∃ r, r < N ∧ zk_rn (zk_dz zz) % N = r := ⟨_, Nat.mod_lt _ hp, rfl⟩
      obtain ⟨p, ep⟩ : ∃ p, p = zk_pk w P 0 r := ⟨_, rfl⟩
      have hpk : p < P := by rw [ep]; exact zk_pk_in hs hr
      have est : zk_dr w N P z (k + 1) = (zk_dz zz, zk_inc t p) := by
        unfold zk_dr zk_dp
        rw [et]
        dsimp only
        rw [er, ep]
      rw [er]
      refine ⟨rfl, zk_bk hX6_whoIsAt (bX6_whoIsAt_0 ?_)⟩
      refine l_whoIsAt_4 hP (by rw [he.1 1 (by decide)]; exact f1) (fun o ho => by rw [he.1 33 (by decide)]; exact hw o ho) hw99 P 0 r (by omega) (by rw [hs]; exact hr) ?_
      rw [← ep]
      have v8 := vp_in_nI (N := 8) (n := p) (by omega) (by decide)
      refine ⟨v8, v8, v8, ?_⟩
      rw [nI_clamp (n := p) (by omega), zk_si_at, if_pos rfl, ht p (by omega), nI_1, nI_1, zk_mxi (k := k) (by omega) (fun o => by have := zk_dr_le (w := w) (A := N) (P := P) (z := z) (i := k) (o := o); rw [et] at this; exact this) (by omega)]
      refine zk_fg hX6_timesDrawn ?_ (ih (k + 1) (zk_dz zz) (zk_inc t p) (zk_si h 37 p (nI (t p + 1))) (by omega) (fun u => by omega) ?_ (he.si (by simp)) (fun o ho => ?_))
      · exact ⟨rfl, rfl, rfl, rfl, rfl, rfl, rfl, rfl, rfl, rfl, trivial⟩
      · exact est
      · rw [zk_si_at]
        unfold zk_inc
        by_cases e : o = p
        · rw [if_pos e, if_pos e, e]
        · rw [if_neg e, if_neg e]; exact ht o ho
end ZKW
