/-! CALLS OUT OF THE LAW, by world and by kind of answer; arguments out of the script -/
theorem lw_w_in {E : zk_E} {w : zk_Wd} {h : zk_H} {k : Nat} {q : Nat × va_E} (hk : (zk_w E w h)[k]? = some q) : k < w.1.length ∧ q.1 = E.2.2 k := by
  have h1 : k < (zk_w E w h).length := (List.getElem?_eq_some_iff.mp hk).1
  have h2 : k < w.1.length := by simpa [zk_w] using h1
  obtain ⟨t, ht⟩ : ∃ t, w.1[k]? = some t := ⟨_, List.getElem?_eq_getElem h2⟩
  rw [zk_w_get ht] at hk
  cases hk
  exact ⟨h2, rfl⟩
theorem lw_kept {E E' : zk_E} {w w' : zk_Wd} {h : zk_H} {H H1 : Heap} (hP : va_P E.1 zk_cl (zk_w E w h) H) (hx : ∀ i j, i < w'.1.length → j < w.1.length → E'.2.2 i ≠ E.2.2 j) (hk : ∀ q : Nat, q < H.size → ¬ zk_A E' w'.1.length H.size q → H1[q]? = H[q]?) : va_P E.1 zk_cl (zk_w E w h) H1 := hP.kept (fun k q hq => by
  have hlt := (hP k q hq).lt
  obtain ⟨h1, h2⟩ := lw_w_in hq
  refine hk q.1 hlt (fun ha => ?_)
  rcases ha with ⟨i, hi, e⟩ | ha
  · exact hx i k hi h1 (by rw [← e, h2])
  · omega)
section LWC
variable {p : Program} {l : Launch} {e : Env} {s : State} {m : MethodId} {below : List Frame} {meth : Method} {c : Code} {H : Heap} {locs : List Loc} {Q' : State → Prop}
variable {pc : Nat} {ls : Array Slot} {rest st0 : List Value} {b L : Nat} {xs : Nat → Int32} {E1 E2 : zk_E} {hc hm : zk_H} {n i d : Nat} {As : List Value}
theorem lw_cC {P : zk_P} {Q : zk_Q} (C0 : lw_At p s m meth c b L xs) (F : lw_F E1 E2 s) (J : lw_J s E1 E2 hc hm H locs) (hls : ls.size = 4) (ok : zk_OK zk_C d n P) (hd : 40 * d + 39 ≤ 84000 ∧ d + 1 ≤ 2048) (hrc : (zk_mt n).2.2 = 11) (hlk : Cond.methodLink R_law i (zk_mt n).1.1 ∈ zk_uw) (hp : P (.ref 0 :: As) hc Q) (hAs : As.map (zk_cv E1) = As) (hlen : As.length = (zk_mt n).2.1) (hcat : zk_cats rest ≤ 8) (hst : st0 = As.reverse ++ (.ref (E1.2.2 0) :: rest)) (hdg : decode code pc = .ok (.invokevirtual i, 3))
    (kk : ∀ (r : Option Value) (hc' : zk_H) (H1 : Heap) (locs1 : List Loc), zk_Qr Q r hc' → lw_J s E1 E2 hc' hm H1 locs1 → W p l e room_1 s m #[Value.ref b] below meth c H1 locs1 600000 7302250 Q' (F0 m (pc + 3) ls ((r.map (zk_cv E1)).toList ++ rest))) : W p l e room_1 s m #[Value.ref b] below meth c H locs 600000 7302250 Q' (F0 m pc ls st0) := by
  obtain ⟨hx, hb, hr, hml, hown, hts, hX, hbl, hlocks, hgv⟩ := C0
  obtain ⟨⟨k1, b1⟩, k2, b2⟩ := F
  obtain ⟨p1, p2, d1, d2, ap, hS⟩ := J
  exact lw_call (N := 10) hx hb hml hown hts k1 b1 p1 d1 hS ok hd.1 hd.2 (zk_mt_ok n) (by rw [hrc]; decide) (by rw [hrc]; rfl) hlk hp hAs hlen hcat hls hst hdg (fun r h' H1 locs1 hQ hP1 hD1 hS1 hk => kk r h' H1 locs1 hQ ⟨hP1, lw_kept p2 ap hk, hD1, d2, ap, hS1⟩)
theorem lw_cD {P : zk_P} {Q : zk_Q} (C0 : lw_At p s m meth c b L xs) (F : lw_F E1 E2 s) (J : lw_J s E1 E2 hc hm H locs) (hls : ls.size = 4) (ok : zk_OK zk_D d n P) (hd : 40 * d + 39 ≤ 84000 ∧ d + 1 ≤ 2048) (hrc : (zk_mt n).2.2 = 12) (hlk : Cond.methodLink R_law i (zk_mt n).1.1 ∈ zk_uw) (hp : P (.ref 0 :: As) hm Q) (hAs : As.map (zk_cv E2) = As) (hlen : As.length = (zk_mt n).2.1) (hcat : zk_cats rest ≤ 8) (hst : st0 = As.reverse ++ (.ref (E2.2.2 0) :: rest)) (hdg : decode code pc = .ok (.invokevirtual i, 3))
    (kk : ∀ (r : Option Value) (hm' : zk_H) (H1 : Heap) (locs1 : List Loc), zk_Qr Q r hm' → lw_J s E1 E2 hc hm' H1 locs1 → W p l e room_1 s m #[Value.ref b] below meth c H1 locs1 600000 7302250 Q' (F0 m (pc + 3) ls ((r.map (zk_cv E2)).toList ++ rest))) : W p l e room_1 s m #[Value.ref b] below meth c H locs 600000 7302250 Q' (F0 m pc ls st0) := by
  obtain ⟨hx, hb, hr, hml, hown, hts, hX, hbl, hlocks, hgv⟩ := C0
  obtain ⟨⟨k1, b1⟩, k2, b2⟩ := F
  obtain ⟨p1, p2, d1, d2, ap, hS⟩ := J
  exact lw_call (N := 56) hx hb hml hown hts k2 b2 p2 d2 hS ok hd.1 hd.2 (zk_mt_ok n) (by rw [hrc]; decide) (by rw [hrc]; rfl) hlk hp hAs hlen hcat hls hst hdg (fun r h' H1 locs1 hQ hP1 hD1 hS1 hk => kk r h' H1 locs1 hQ ⟨lw_kept p1 (fun i j hi hj q => ap j i hj hi q.symm) hk, hP1, d1, hD1, ap, hS1⟩)
theorem lw_cCi {P : zk_pI} {K : Int32 → zk_H → Prop} (C0 : lw_At p s m meth c b L xs) (F : lw_F E1 E2 s) (J : lw_J s E1 E2 hc hm H locs) (hls : ls.size = 4) (ok : zk_OK zk_C d n (zk_iP P)) (hd : 40 * d + 39 ≤ 84000 ∧ d + 1 ≤ 2048) (hrc : (zk_mt n).2.2 = 11) (hlk : Cond.methodLink R_law i (zk_mt n).1.1 ∈ zk_uw) (hp : P (.ref 0 :: As) hc K) (hAs : As.map (zk_cv E1) = As) (hlen : As.length = (zk_mt n).2.1) (hcat : zk_cats rest ≤ 8) (hst : st0 = As.reverse ++ (.ref (E1.2.2 0) :: rest)) (hdg : decode code pc = .ok (.invokevirtual i, 3))
    (kk : ∀ (v : Int32) (hc' : zk_H) (H1 : Heap) (locs1 : List Loc), K v hc' → lw_J s E1 E2 hc' hm H1 locs1 → W p l e room_1 s m #[Value.ref b] below meth c H1 locs1 600000 7302250 Q' (F0 m (pc + 3) ls (.int v :: rest))) : W p l e room_1 s m #[Value.ref b] below meth c H locs 600000 7302250 Q' (F0 m pc ls st0) :=
  lw_cC (Q := (K, fun _ _ => False, fun _ _ => False, fun _ _ => False)) C0 F J hls ok hd hrc hlk hp hAs hlen hcat hst hdg (fun r h' H1 locs1 hQ J => by
    cases r with
    | none => exact False.elim hQ
    | some v => cases v <;> first | exact kk _ _ _ _ hQ J | exact False.elim hQ)
theorem lw_cDi {P : zk_pI} {K : Int32 → zk_H → Prop} (C0 : lw_At p s m meth c b L xs) (F : lw_F E1 E2 s) (J : lw_J s E1 E2 hc hm H locs) (hls : ls.size = 4) (ok : zk_OK zk_D d n (zk_iP P)) (hd : 40 * d + 39 ≤ 84000 ∧ d + 1 ≤ 2048) (hrc : (zk_mt n).2.2 = 12) (hlk : Cond.methodLink R_law i (zk_mt n).1.1 ∈ zk_uw) (hp : P (.ref 0 :: As) hm K) (hAs : As.map (zk_cv E2) = As) (hlen : As.length = (zk_mt n).2.1) (hcat : zk_cats rest ≤ 8) (hst : st0 = As.reverse ++ (.ref (E2.2.2 0) :: rest)) (hdg : decode code pc = .ok (.invokevirtual i, 3))
    (kk : ∀ (v : Int32) (hm' : zk_H) (H1 : Heap) (locs1 : List Loc), K v hm' → lw_J s E1 E2 hc hm' H1 locs1 → W p l e room_1 s m #[Value.ref b] below meth c H1 locs1 600000 7302250 Q' (F0 m (pc + 3) ls (.int v :: rest))) : W p l e room_1 s m #[Value.ref b] below meth c H locs 600000 7302250 Q' (F0 m pc ls st0) :=
  lw_cD (Q := (K, fun _ _ => False, fun _ _ => False, fun _ _ => False)) C0 F J hls ok hd hrc hlk hp hAs hlen hcat hst hdg (fun r h' H1 locs1 hQ J => by
    cases r with
    | none => exact False.elim hQ
    | some v => cases v <;> first | exact kk _ _ _ _ hQ J | exact False.elim hQ)
theorem lw_cCl {P : zk_pL} {K : Int64 → zk_H → Prop} (C0 : lw_At p s m meth c b L xs) (F : lw_F E1 E2 s) (J : lw_J s E1 E2 hc hm H locs) (hls : ls.size = 4) (ok : zk_OK zk_C d n (zk_lP P)) (hd : 40 * d + 39 ≤ 84000 ∧ d + 1 ≤ 2048) (hrc : (zk_mt n).2.2 = 11) (hlk : Cond.methodLink R_law i (zk_mt n).1.1 ∈ zk_uw) (hp : P (.ref 0 :: As) hc K) (hAs : As.map (zk_cv E1) = As) (hlen : As.length = (zk_mt n).2.1) (hcat : zk_cats rest ≤ 8) (hst : st0 = As.reverse ++ (.ref (E1.2.2 0) :: rest)) (hdg : decode code pc = .ok (.invokevirtual i, 3))
    (kk : ∀ (v : Int64) (hc' : zk_H) (H1 : Heap) (locs1 : List Loc), K v hc' → lw_J s E1 E2 hc' hm H1 locs1 → W p l e room_1 s m #[Value.ref b] below meth c H1 locs1 600000 7302250 Q' (F0 m (pc + 3) ls (.long v :: rest))) : W p l e room_1 s m #[Value.ref b] below meth c H locs 600000 7302250 Q' (F0 m pc ls st0) :=
  lw_cC (Q := (fun _ _ => False, K, fun _ _ => False, fun _ _ => False)) C0 F J hls ok hd hrc hlk hp hAs hlen hcat hst hdg (fun r h' H1 locs1 hQ J => by
    cases r with
    | none => exact False.elim hQ
    | some v => cases v <;> first | exact kk _ _ _ _ hQ J | exact False.elim hQ)
theorem lw_cDl {P : zk_pL} {K : Int64 → zk_H → Prop} (C0 : lw_At p s m meth c b L xs) (F : lw_F E1 E2 s) (J : lw_J s E1 E2 hc hm H locs) (hls : ls.size = 4) (ok : zk_OK zk_D d n (zk_lP P)) (hd : 40 * d + 39 ≤ 84000 ∧ d + 1 ≤ 2048) (hrc : (zk_mt n).2.2 = 12) (hlk : Cond.methodLink R_law i (zk_mt n).1.1 ∈ zk_uw) (hp : P (.ref 0 :: As) hm K) (hAs : As.map (zk_cv E2) = As) (hlen : As.length = (zk_mt n).2.1) (hcat : zk_cats rest ≤ 8) (hst : st0 = As.reverse ++ (.ref (E2.2.2 0) :: rest)) (hdg : decode code pc = .ok (.invokevirtual i, 3))
    (kk : ∀ (v : Int64) (hm' : zk_H) (H1 : Heap) (locs1 : List Loc), K v hm' → lw_J s E1 E2 hc hm' H1 locs1 → W p l e room_1 s m #[Value.ref b] below meth c H1 locs1 600000 7302250 Q' (F0 m (pc + 3) ls (.long v :: rest))) : W p l e room_1 s m #[Value.ref b] below meth c H locs 600000 7302250 Q' (F0 m pc ls st0) :=
  lw_cD (Q := (fun _ _ => False, K, fun _ _ => False, fun _ _ => False)) C0 F J hls ok hd hrc hlk hp hAs hlen hcat hst hdg (fun r h' H1 locs1 hQ J => by
    cases r with
    | none => exact False.elim hQ
    | some v => cases v <;> first | exact kk _ _ _ _ hQ J | exact False.elim hQ)
/-- script[i + k] is pushed -/
def lw_ad (pc k : Nat) : Prop := (decode code pc = .ok (.aload_n 0, 1) ∧ decode code (pc + 1) = .ok (.iload_n 3, 1) ∧ decode code (pc + 1 + 1) = .ok (.iconst k, 1)) ∧ decode code (pc + 1 + 1 + 1) = .ok (.iadd, 1) ∧ decode code (pc + 1 + 1 + 1 + 1) = .ok (.iaload, 1)
theorem lw_arg {k j : Nat} {lv : List (Nat × Value)} (hL : L ≤ 3072) (C0 : lw_At p s m meth c b L xs) (J : lw_J s E1 E2 hc hm H locs) (hl : lv_has ls 4 lv) (h0 : lv[0]? = some (0, .ref b)) (h3 : lv[3]? = some (3, .int (nI j))) (hd : lw_ad pc k) (hj : j + k < L)
    (kk : W p l e room_1 s m #[Value.ref b] below meth c H locs 600000 7302250 Q' (F0 m (pc + 5) ls (.int (xs (j + k)) :: rest))) : W p l e room_1 s m #[Value.ref b] below meth c H locs 600000 7302250 Q' (F0 m pc ls rest) := by
  obtain ⟨hx, hb, hr, hml, hown, hts, hX, hbl, hlocks, hgv⟩ := C0
  obtain ⟨⟨a1, a2, a3⟩, a4, a5⟩ := hd
  refine lv_aload_n hx hb a1 rfl (lv_at hl 0 h0) ?_
  refine lv_iload_n hx hb a2 rfl (lv_at hl 3 h3) ?_
  refine lv_iconst (v := nI k) hx hb a3 rfl ?_
  refine lv_iadd hx hb a4 ?_
  rw [nI_add]
  refine va_sld (A := fun q : Nat => s.heap.size ≤ q) hx hb hX hbl (Nat.not_le.mpr hbl) J.2.2.2.2.2 (vp_in_nI hj (by omega)) a5 ?_
  rw [nI_clamp (by omega)]
  exact kk
end LWC
