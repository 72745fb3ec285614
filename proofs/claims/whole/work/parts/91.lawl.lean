/-! THE LAW'S LOOP. Written by wip/whole/gen91.py -/
theorem lw_sub6 {L : Nat} (hL : L ≤ 3072) : (nI L - 6).toInt = (L : Int) - 6 := pk_sub_toInt (a := L) (b := 6) (by omega) (by omega)
section LWE
variable {p : Program} {l : Launch} {e : Env} {s : State} {m : MethodId} {below : List Frame} {meth : Method} {c : Code} {b L : Nat} {xs : Nat → Int32} {E1 E2 : zk_E}
theorem lw_loop (hL : L ≤ 3072) (C0 : lw_At p s m meth c b L xs) (F : lw_F E1 E2 s) : ∀ (n j : Nat), L + 6 ≤ j + n → j < L + 6 → ∀ (hc hm : zk_H) (H : Heap) (locs : List Loc) (ls : Array Slot), zk_RR zk_lpe hc hm → lw_J s E1 E2 hc hm H locs → lv_has ls 4 [(0, .ref b), (1, .ref (E1.2.2 0)), (2, .ref (E2.2.2 0)), (3, .int (nI j))] → W p l e room_1 s m #[Value.ref b] below meth c H locs 600000 7302250 (lw_Z below #[Value.ref b] s) (F0 m 18 ls []) := by
  obtain ⟨hx, hb, hr, hml, hown, hts, hX, hbl, hlocks, hgv⟩ := id C0
  intro n
  induction n with
  | zero => intro j h1 h2; omega
  | succ n ih =>
    intro j h1 h2 hc hm H locs ls RR J hl
    have hS := J.2.2.2.2.2
    refine lv_iload_n hx hb dL_18 rfl (lv_at hl 3 rfl) ?_
    refine lv_aload_n hx hb dL_19 rfl (lv_at hl 0 rfl) ?_
    refine va_slen (A := fun q : Nat => s.heap.size ≤ q) hx hb hX hbl (Nat.not_le.mpr hbl) hS dL_20 ?_
    refine lv_bipush (v := 6) hx hb dL_21 (by decide) ?_
    refine lv_isub hx hb dL_23 ?_
    refine lv_icmp_gt (tgt := 1660) hx hb dL_24 (by decide) (fun hgt => ?_) (fun hgt => ?_)
    · refine lv_iconst (v := 1) hx hb dL_1660 (by decide) ?_
      refine va_forget (fun q hq => hS.2.2 q hq) ?_
      exact lw_ret hx hb hr hlocks dL_1661
    have hj : j + 6 ≤ L := by
      have h3 := hgt
      rw [Int32.lt_iff_toInt_lt, show Int32.ofNat L = nI L from rfl, lw_sub6 hL, nI_toInt (by omega)] at h3
      omega
    have KK : ∀ (hc hm : zk_H) (H : Heap) (locs : List Loc), zk_RR zk_lpe hc hm → lw_J s E1 E2 hc hm H locs → W p l e room_1 s m #[Value.ref b] below meth c H locs 600000 7302250 (lw_Z below #[Value.ref b] s) (F0 m 1654 ls []) := by
      intro hc hm H locs RR J
      refine lv_iinc (v := nI (j + 6)) (lv' := [(3, .int (nI (j + 6))), (0, .ref b), (1, .ref (E1.2.2 0)), (2, .ref (E2.2.2 0))]) hx hb dL_1654 hl (k := 3) rfl (nI_add j 6) (by decide) rfl (fun ls hl => ?_)
      refine lv_goto (tgt := 18) hx hb dL_1657 (by decide) ?_
      exact ih (j + 6) (by omega) (by omega) hc hm H locs ls RR J (lv_sub hl [1, 2, 3, 0] rfl)
    refine lv_aload_n hx hb dL_27 rfl (lv_at hl 0 rfl) ?_
    refine lv_iload_n hx hb dL_28 rfl (lv_at hl 3 rfl) ?_
    refine va_sld (A := fun q : Nat => s.heap.size ≤ q) hx hb hX hbl (Nat.not_le.mpr hbl) hS (vp_in_nI (by omega) (by omega)) dL_29 ?_
    refine lv_bipush (v := 63) hx hb dL_30 (by decide) ?_
    refine lv_iand hx hb dL_32 ?_
    obtain ⟨k, hk, ek⟩ := pk_andE (xs (nI j).toNatClampNeg) (m := 63) 6 (by decide)
    rw [ek]
    clear ek
    by_cases h46 : k < 46
    · match k, h46, hk with
      | 0, _, _ => exact lv_tableIn (off := 199) (tgt := 232) hx hb dL_33 (by decide) (by decide) (by decide) (by decide) (lc_0 hL C0 F J RR hl hj KK)
      | 1, _, _ => exact lv_tableIn (off := 222) (tgt := 255) hx hb dL_33 (by decide) (by decide) (by decide) (by decide) (lc_1 hL C0 F J RR hl hj KK)
      | 2, _, _ => exact lv_tableIn (off := 265) (tgt := 298) hx hb dL_33 (by decide) (by decide) (by decide) (by decide) (lc_2 hL C0 F J RR hl hj KK)
      | 3, _, _ => exact lv_tableIn (off := 298) (tgt := 331) hx hb dL_33 (by decide) (by decide) (by decide) (by decide) (lc_3 hL C0 F J RR hl hj KK)
      | 4, _, _ => exact lv_tableIn (off := 341) (tgt := 374) hx hb dL_33 (by decide) (by decide) (by decide) (by decide) (lc_4 hL C0 F J RR hl hj KK)
      | 5, _, _ => exact lv_tableIn (off := 374) (tgt := 407) hx hb dL_33 (by decide) (by decide) (by decide) (by decide) (lc_5 hL C0 F J RR hl hj KK)
      | 6, _, _ => exact lv_tableIn (off := 397) (tgt := 430) hx hb dL_33 (by decide) (by decide) (by decide) (by decide) (lc_6 hL C0 F J RR hl hj KK)
      | 7, _, _ => exact lv_tableIn (off := 410) (tgt := 443) hx hb dL_33 (by decide) (by decide) (by decide) (by decide) (lc_7 hL C0 F J RR hl hj KK)
      | 8, _, _ => exact lv_tableIn (off := 433) (tgt := 466) hx hb dL_33 (by decide) (by decide) (by decide) (by decide) (lc_8 hL C0 F J RR hl hj KK)
      | 9, _, _ => exact lv_tableIn (off := 456) (tgt := 489) hx hb dL_33 (by decide) (by decide) (by decide) (by decide) (lc_9 hL C0 F J RR hl hj KK)
      | 10, _, _ => exact lv_tableIn (off := 490) (tgt := 523) hx hb dL_33 (by decide) (by decide) (by decide) (by decide) (lc_10 hL C0 F J RR hl hj KK)
      | 11, _, _ => exact lv_tableIn (off := 523) (tgt := 556) hx hb dL_33 (by decide) (by decide) (by decide) (by decide) (lc_11 hL C0 F J RR hl hj KK)
      | 12, _, _ => exact lv_tableIn (off := 546) (tgt := 579) hx hb dL_33 (by decide) (by decide) (by decide) (by decide) (lc_12 hL C0 F J RR hl hj KK)
      | 13, _, _ => exact lv_tableIn (off := 579) (tgt := 612) hx hb dL_33 (by decide) (by decide) (by decide) (by decide) (lc_13 hL C0 F J RR hl hj KK)
      | 14, _, _ => exact lv_tableIn (off := 602) (tgt := 635) hx hb dL_33 (by decide) (by decide) (by decide) (by decide) (lc_14 hL C0 F J RR hl hj KK)
      | 15, _, _ => exact lv_tableIn (off := 635) (tgt := 668) hx hb dL_33 (by decide) (by decide) (by decide) (by decide) (lc_15 hL C0 F J RR hl hj KK)
      | 16, _, _ => exact lv_tableIn (off := 668) (tgt := 701) hx hb dL_33 (by decide) (by decide) (by decide) (by decide) (lc_16 hL C0 F J RR hl hj KK)
      | 17, _, _ => exact lv_tableIn (off := 701) (tgt := 734) hx hb dL_33 (by decide) (by decide) (by decide) (by decide) (lc_17 hL C0 F J RR hl hj KK)
      | 18, _, _ => exact lv_tableIn (off := 724) (tgt := 757) hx hb dL_33 (by decide) (by decide) (by decide) (by decide) (lc_18 hL C0 F J RR hl hj KK)
      | 19, _, _ => exact lv_tableIn (off := 747) (tgt := 780) hx hb dL_33 (by decide) (by decide) (by decide) (by decide) (lc_19 hL C0 F J RR hl hj KK)
      | 20, _, _ => exact lv_tableIn (off := 780) (tgt := 813) hx hb dL_33 (by decide) (by decide) (by decide) (by decide) (lc_20 hL C0 F J RR hl hj KK)
      | 21, _, _ => exact lv_tableIn (off := 823) (tgt := 856) hx hb dL_33 (by decide) (by decide) (by decide) (by decide) (lc_21 hL C0 F J RR hl hj KK)
      | 22, _, _ => exact lv_tableIn (off := 867) (tgt := 900) hx hb dL_33 (by decide) (by decide) (by decide) (by decide) (lc_22 hL C0 F J RR hl hj KK)
      | 23, _, _ => exact lv_tableIn (off := 900) (tgt := 933) hx hb dL_33 (by decide) (by decide) (by decide) (by decide) (lc_23 hL C0 F J RR hl hj KK)
      | 24, _, _ => exact lv_tableIn (off := 933) (tgt := 966) hx hb dL_33 (by decide) (by decide) (by decide) (by decide) (lc_24 hL C0 F J RR hl hj KK)
      | 25, _, _ => exact lv_tableIn (off := 956) (tgt := 989) hx hb dL_33 (by decide) (by decide) (by decide) (by decide) (lc_25 hL C0 F J RR hl hj KK)
      | 26, _, _ => exact lv_tableIn (off := 990) (tgt := 1023) hx hb dL_33 (by decide) (by decide) (by decide) (by decide) (lc_26 hL C0 F J RR hl hj KK)
      | 27, _, _ => exact lv_tableIn (off := 1023) (tgt := 1056) hx hb dL_33 (by decide) (by decide) (by decide) (by decide) (lc_27 hL C0 F J RR hl hj KK)
      | 28, _, _ => exact lv_tableIn (off := 1076) (tgt := 1109) hx hb dL_33 (by decide) (by decide) (by decide) (by decide) (lc_28 hL C0 F J RR hl hj KK)
      | 29, _, _ => exact lv_tableIn (off := 1099) (tgt := 1132) hx hb dL_33 (by decide) (by decide) (by decide) (by decide) (lc_29 hL C0 F J RR hl hj KK)
      | 30, _, _ => exact lv_tableIn (off := 1132) (tgt := 1165) hx hb dL_33 (by decide) (by decide) (by decide) (by decide) (lc_30 hL C0 F J RR hl hj KK)
      | 31, _, _ => exact lv_tableIn (off := 1155) (tgt := 1188) hx hb dL_33 (by decide) (by decide) (by decide) (by decide) (lc_31 hL C0 F J RR hl hj KK)
      | 32, _, _ => exact lv_tableIn (off := 1178) (tgt := 1211) hx hb dL_33 (by decide) (by decide) (by decide) (by decide) (lc_32 hL C0 F J RR hl hj KK)
      | 33, _, _ => exact lv_tableIn (off := 1191) (tgt := 1224) hx hb dL_33 (by decide) (by decide) (by decide) (by decide) (lc_33 hL C0 F J RR hl hj KK)
      | 34, _, _ => exact lv_tableIn (off := 1204) (tgt := 1237) hx hb dL_33 (by decide) (by decide) (by decide) (by decide) (lc_34 hL C0 F J RR hl hj KK)
      | 35, _, _ => exact lv_tableIn (off := 1217) (tgt := 1250) hx hb dL_33 (by decide) (by decide) (by decide) (by decide) (lc_35 hL C0 F J RR hl hj KK)
      | 36, _, _ => exact lv_tableIn (off := 1230) (tgt := 1263) hx hb dL_33 (by decide) (by decide) (by decide) (by decide) (lc_36 hL C0 F J RR hl hj KK)
      | 37, _, _ => exact lv_tableIn (off := 1253) (tgt := 1286) hx hb dL_33 (by decide) (by decide) (by decide) (by decide) (lc_37 hL C0 F J RR hl hj KK)
      | 38, _, _ => exact lv_tableIn (off := 1296) (tgt := 1329) hx hb dL_33 (by decide) (by decide) (by decide) (by decide) (lc_38 hL C0 F J RR hl hj KK)
      | 39, _, _ => exact lv_tableIn (off := 1319) (tgt := 1352) hx hb dL_33 (by decide) (by decide) (by decide) (by decide) (lc_39 hL C0 F J RR hl hj KK)
      | 40, _, _ => exact lv_tableIn (off := 1352) (tgt := 1385) hx hb dL_33 (by decide) (by decide) (by decide) (by decide) (lc_40 hL C0 F J RR hl hj KK)
      | 41, _, _ => exact lv_tableIn (off := 1395) (tgt := 1428) hx hb dL_33 (by decide) (by decide) (by decide) (by decide) (lc_41 hL C0 F J RR hl hj KK)
      | 42, _, _ => exact lv_tableIn (off := 1468) (tgt := 1501) hx hb dL_33 (by decide) (by decide) (by decide) (by decide) (lc_42 hL C0 F J RR hl hj KK)
      | 43, _, _ => exact lv_tableIn (off := 1502) (tgt := 1535) hx hb dL_33 (by decide) (by decide) (by decide) (by decide) (lc_43 hL C0 F J RR hl hj KK)
      | 44, _, _ => exact lv_tableIn (off := 1565) (tgt := 1598) hx hb dL_33 (by decide) (by decide) (by decide) (by decide) (lc_44 hL C0 F J RR hl hj KK)
      | 45, _, _ => exact lv_tableIn (off := 1598) (tgt := 1631) hx hb dL_33 (by decide) (by decide) (by decide) (by decide) (lc_45 hL C0 F J RR hl hj KK)
      | k + 46, h, _ => omega
    · exact lv_tableOut (tgt := 1654) hx hb dL_33 (Or.inr (by rw [nI_toInt (by omega)]; omega)) (by decide) (KK hc hm H locs RR J)
end LWE
