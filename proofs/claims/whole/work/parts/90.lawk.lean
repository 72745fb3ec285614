/-! THE LAW'S 46 CASES: both are asked, both answer alike. Written by wip/whole/gen89.py -/
theorem lw_cmp0 (v : Int64) : lg_cmp v v = 0 := by unfold lg_cmp; simp [Int64.lt_irrefl]
section LWD
variable {p : Program} {l : Launch} {e : Env} {s : State} {m : MethodId} {below : List Frame} {meth : Method} {c : Code} {H : Heap} {locs : List Loc} {Q' : State → Prop}
variable {ls : Array Slot} {b L j : Nat} {xs : Nat → Int32} {E1 E2 : zk_E} {hc hm : zk_H}
theorem lc_0 (hL : L ≤ 3072) (C0 : lw_At p s m meth c b L xs) (F : lw_F E1 E2 s) (J : lw_J s E1 E2 hc hm H locs) (R : zk_RR zk_lpe hc hm) (hl : lv_has ls 4 [(0, .ref b), (1, .ref (E1.2.2 0)), (2, .ref (E2.2.2 0)), (3, .int (nI j))]) (hj : j + 6 ≤ L)
    (kk : ∀ (hc hm : zk_H) (H : Heap) (locs : List Loc), zk_RR zk_lpe hc hm → lw_J s E1 E2 hc hm H locs → W p l e room_1 s m #[Value.ref b] below meth c H locs 600000 7302250 Q' (F0 m 1654 ls [])) : W p l e room_1 s m #[Value.ref b] below meth c H locs 600000 7302250 Q' (F0 m 232 ls []) := by
  have hx := C0.1
  have hb := C0.2.1
  have hown := C0.2.2.2.2.1
  have hts := C0.2.2.2.2.2.1
  refine lv_aload_n hx hb dL_232 rfl (lv_at hl 1 rfl) ?_
  refine lw_arg hL C0 J hl rfl rfl aL_233 (by omega) ?_
  refine lw_cCi (As := [.int (xs (j + 1))]) (rest := []) C0 F J hl.1 okX11_person ⟨by decide, by decide⟩ rfl mL_13 (e_person R) rfl rfl (Nat.le_of_ble_eq_true rfl) rfl dL_238 (fun v hc1 H locs K J => ?_)
  refine lv_aload_n hx hb dL_241 rfl (lv_at hl 2 rfl) ?_
  refine lw_arg hL C0 J hl rfl rfl aL_242 (by omega) ?_
  refine lw_cDi (As := [.int (xs (j + 1))]) (rest := [.int v]) C0 F J hl.1 okX12_person ⟨by decide, by decide⟩ rfl mL_17 K rfl rfl (Nat.le_of_ble_eq_true rfl) rfl dL_247 (fun v2 hm1 H locs K J => ?_)
  obtain ⟨rfl, R⟩ := K
  exact lv_icmp_eq (tgt := 1654) hx hb dL_250 (by decide) (fun _ => kk _ _ _ _ R J) (fun h => absurd rfl h)
theorem lc_1 (hL : L ≤ 3072) (C0 : lw_At p s m meth c b L xs) (F : lw_F E1 E2 s) (J : lw_J s E1 E2 hc hm H locs) (R : zk_RR zk_lpe hc hm) (hl : lv_has ls 4 [(0, .ref b), (1, .ref (E1.2.2 0)), (2, .ref (E2.2.2 0)), (3, .int (nI j))]) (hj : j + 6 ≤ L)
    (kk : ∀ (hc hm : zk_H) (H : Heap) (locs : List Loc), zk_RR zk_lpe hc hm → lw_J s E1 E2 hc hm H locs → W p l e room_1 s m #[Value.ref b] below meth c H locs 600000 7302250 Q' (F0 m 1654 ls [])) : W p l e room_1 s m #[Value.ref b] below meth c H locs 600000 7302250 Q' (F0 m 255 ls []) := by
  have hx := C0.1
  have hb := C0.2.1
  have hown := C0.2.2.2.2.1
  have hts := C0.2.2.2.2.2.1
  refine lv_aload_n hx hb dL_255 rfl (lv_at hl 1 rfl) ?_
  refine lw_arg hL C0 J hl rfl rfl aL_256 (by omega) ?_
  refine lw_arg hL C0 J hl rfl rfl aL_261 (by omega) ?_
  refine lw_arg hL C0 J hl rfl rfl aL_266 (by omega) ?_
  refine lw_cCi (As := [.int (xs (j + 1)), .int (xs (j + 2)), .int (xs (j + 3))]) (rest := []) C0 F J hl.1 okX11_people ⟨by decide, by decide⟩ rfl mL_18 (e_people R) rfl rfl (Nat.le_of_ble_eq_true rfl) rfl dL_271 (fun v hc1 H locs K J => ?_)
  refine lv_aload_n hx hb dL_274 rfl (lv_at hl 2 rfl) ?_
  refine lw_arg hL C0 J hl rfl rfl aL_275 (by omega) ?_
  refine lw_arg hL C0 J hl rfl rfl aL_280 (by omega) ?_
  refine lw_arg hL C0 J hl rfl rfl aL_285 (by omega) ?_
  refine lw_cDi (As := [.int (xs (j + 1)), .int (xs (j + 2)), .int (xs (j + 3))]) (rest := [.int v]) C0 F J hl.1 okX12_people ⟨by decide, by decide⟩ rfl mL_22 K rfl rfl (Nat.le_of_ble_eq_true rfl) rfl dL_290 (fun v2 hm1 H locs K J => ?_)
  obtain ⟨rfl, R⟩ := K
  exact lv_icmp_eq (tgt := 1654) hx hb dL_293 (by decide) (fun _ => kk _ _ _ _ R J) (fun h => absurd rfl h)
theorem lc_2 (hL : L ≤ 3072) (C0 : lw_At p s m meth c b L xs) (F : lw_F E1 E2 s) (J : lw_J s E1 E2 hc hm H locs) (R : zk_RR zk_lpe hc hm) (hl : lv_has ls 4 [(0, .ref b), (1, .ref (E1.2.2 0)), (2, .ref (E2.2.2 0)), (3, .int (nI j))]) (hj : j + 6 ≤ L)
    (kk : ∀ (hc hm : zk_H) (H : Heap) (locs : List Loc), zk_RR zk_lpe hc hm → lw_J s E1 E2 hc hm H locs → W p l e room_1 s m #[Value.ref b] below meth c H locs 600000 7302250 Q' (F0 m 1654 ls [])) : W p l e room_1 s m #[Value.ref b] below meth c H locs 600000 7302250 Q' (F0 m 298 ls []) := by
  have hx := C0.1
  have hb := C0.2.1
  have hown := C0.2.2.2.2.1
  have hts := C0.2.2.2.2.2.1
  refine lv_aload_n hx hb dL_298 rfl (lv_at hl 1 rfl) ?_
  refine lw_arg hL C0 J hl rfl rfl aL_299 (by omega) ?_
  refine lw_arg hL C0 J hl rfl rfl aL_304 (by omega) ?_
  refine lw_cCi (As := [.int (xs (j + 1)), .int (xs (j + 2))]) (rest := []) C0 F J hl.1 okX11_card ⟨by decide, by decide⟩ rfl mL_23 (e_card R) rfl rfl (Nat.le_of_ble_eq_true rfl) rfl dL_309 (fun v hc1 H locs K J => ?_)
  refine lv_aload_n hx hb dL_312 rfl (lv_at hl 2 rfl) ?_
  refine lw_arg hL C0 J hl rfl rfl aL_313 (by omega) ?_
  refine lw_arg hL C0 J hl rfl rfl aL_318 (by omega) ?_
  refine lw_cDi (As := [.int (xs (j + 1)), .int (xs (j + 2))]) (rest := [.int v]) C0 F J hl.1 okX12_card ⟨by decide, by decide⟩ rfl mL_27 K rfl rfl (Nat.le_of_ble_eq_true rfl) rfl dL_323 (fun v2 hm1 H locs K J => ?_)
  obtain ⟨rfl, R⟩ := K
  exact lv_icmp_eq (tgt := 1654) hx hb dL_326 (by decide) (fun _ => kk _ _ _ _ R J) (fun h => absurd rfl h)
theorem lc_3 (hL : L ≤ 3072) (C0 : lw_At p s m meth c b L xs) (F : lw_F E1 E2 s) (J : lw_J s E1 E2 hc hm H locs) (R : zk_RR zk_lpe hc hm) (hl : lv_has ls 4 [(0, .ref b), (1, .ref (E1.2.2 0)), (2, .ref (E2.2.2 0)), (3, .int (nI j))]) (hj : j + 6 ≤ L)
    (kk : ∀ (hc hm : zk_H) (H : Heap) (locs : List Loc), zk_RR zk_lpe hc hm → lw_J s E1 E2 hc hm H locs → W p l e room_1 s m #[Value.ref b] below meth c H locs 600000 7302250 Q' (F0 m 1654 ls [])) : W p l e room_1 s m #[Value.ref b] below meth c H locs 600000 7302250 Q' (F0 m 331 ls []) := by
  have hx := C0.1
  have hb := C0.2.1
  have hown := C0.2.2.2.2.1
  have hts := C0.2.2.2.2.2.1
  refine lv_aload_n hx hb dL_331 rfl (lv_at hl 1 rfl) ?_
  refine lw_arg hL C0 J hl rfl rfl aL_332 (by omega) ?_
  refine lw_arg hL C0 J hl rfl rfl aL_337 (by omega) ?_
  refine lw_arg hL C0 J hl rfl rfl aL_342 (by omega) ?_
  refine lw_cCi (As := [.int (xs (j + 1)), .int (xs (j + 2)), .int (xs (j + 3))]) (rest := []) C0 F J hl.1 okX11_mend ⟨by decide, by decide⟩ rfl mL_28 (e_mend R) rfl rfl (Nat.le_of_ble_eq_true rfl) rfl dL_347 (fun v hc1 H locs K J => ?_)
  refine lv_aload_n hx hb dL_350 rfl (lv_at hl 2 rfl) ?_
  refine lw_arg hL C0 J hl rfl rfl aL_351 (by omega) ?_
  refine lw_arg hL C0 J hl rfl rfl aL_356 (by omega) ?_
  refine lw_arg hL C0 J hl rfl rfl aL_361 (by omega) ?_
  refine lw_cDi (As := [.int (xs (j + 1)), .int (xs (j + 2)), .int (xs (j + 3))]) (rest := [.int v]) C0 F J hl.1 okX12_mend ⟨by decide, by decide⟩ rfl mL_31 K rfl rfl (Nat.le_of_ble_eq_true rfl) rfl dL_366 (fun v2 hm1 H locs K J => ?_)
  obtain ⟨rfl, R⟩ := K
  exact lv_icmp_eq (tgt := 1654) hx hb dL_369 (by decide) (fun _ => kk _ _ _ _ R J) (fun h => absurd rfl h)
theorem lc_4 (hL : L ≤ 3072) (C0 : lw_At p s m meth c b L xs) (F : lw_F E1 E2 s) (J : lw_J s E1 E2 hc hm H locs) (R : zk_RR zk_lpe hc hm) (hl : lv_has ls 4 [(0, .ref b), (1, .ref (E1.2.2 0)), (2, .ref (E2.2.2 0)), (3, .int (nI j))]) (hj : j + 6 ≤ L)
    (kk : ∀ (hc hm : zk_H) (H : Heap) (locs : List Loc), zk_RR zk_lpe hc hm → lw_J s E1 E2 hc hm H locs → W p l e room_1 s m #[Value.ref b] below meth c H locs 600000 7302250 Q' (F0 m 1654 ls [])) : W p l e room_1 s m #[Value.ref b] below meth c H locs 600000 7302250 Q' (F0 m 374 ls []) := by
  have hx := C0.1
  have hb := C0.2.1
  have hown := C0.2.2.2.2.1
  have hts := C0.2.2.2.2.2.1
  refine lv_aload_n hx hb dL_374 rfl (lv_at hl 1 rfl) ?_
  refine lw_arg hL C0 J hl rfl rfl aL_375 (by omega) ?_
  refine lw_arg hL C0 J hl rfl rfl aL_380 (by omega) ?_
  refine lw_cCi (As := [.int (xs (j + 1)), .int (xs (j + 2))]) (rest := []) C0 F J hl.1 okX11_of ⟨by decide, by decide⟩ rfl mL_32 (e_of R) rfl rfl (Nat.le_of_ble_eq_true rfl) rfl dL_385 (fun v hc1 H locs K J => ?_)
  refine lv_aload_n hx hb dL_388 rfl (lv_at hl 2 rfl) ?_
  refine lw_arg hL C0 J hl rfl rfl aL_389 (by omega) ?_
  refine lw_arg hL C0 J hl rfl rfl aL_394 (by omega) ?_
  refine lw_cDi (As := [.int (xs (j + 1)), .int (xs (j + 2))]) (rest := [.int v]) C0 F J hl.1 okX12_of ⟨by decide, by decide⟩ rfl mL_35 K rfl rfl (Nat.le_of_ble_eq_true rfl) rfl dL_399 (fun v2 hm1 H locs K J => ?_)
  obtain ⟨rfl, R⟩ := K
  exact lv_icmp_eq (tgt := 1654) hx hb dL_402 (by decide) (fun _ => kk _ _ _ _ R J) (fun h => absurd rfl h)
theorem lc_5 (hL : L ≤ 3072) (C0 : lw_At p s m meth c b L xs) (F : lw_F E1 E2 s) (J : lw_J s E1 E2 hc hm H locs) (R : zk_RR zk_lpe hc hm) (hl : lv_has ls 4 [(0, .ref b), (1, .ref (E1.2.2 0)), (2, .ref (E2.2.2 0)), (3, .int (nI j))]) (hj : j + 6 ≤ L)
    (kk : ∀ (hc hm : zk_H) (H : Heap) (locs : List Loc), zk_RR zk_lpe hc hm → lw_J s E1 E2 hc hm H locs → W p l e room_1 s m #[Value.ref b] below meth c H locs 600000 7302250 Q' (F0 m 1654 ls [])) : W p l e room_1 s m #[Value.ref b] below meth c H locs 600000 7302250 Q' (F0 m 407 ls []) := by
  have hx := C0.1
  have hb := C0.2.1
  have hown := C0.2.2.2.2.1
  have hts := C0.2.2.2.2.2.1
  refine lv_aload_n hx hb dL_407 rfl (lv_at hl 1 rfl) ?_
  refine lw_arg hL C0 J hl rfl rfl aL_408 (by omega) ?_
  refine lw_cCi (As := [.int (xs (j + 1))]) (rest := []) C0 F J hl.1 okX11_feed ⟨by decide, by decide⟩ rfl mL_36 (e_feed R) rfl rfl (Nat.le_of_ble_eq_true rfl) rfl dL_413 (fun v hc1 H locs K J => ?_)
  refine lv_aload_n hx hb dL_416 rfl (lv_at hl 2 rfl) ?_
  refine lw_arg hL C0 J hl rfl rfl aL_417 (by omega) ?_
  refine lw_cDi (As := [.int (xs (j + 1))]) (rest := [.int v]) C0 F J hl.1 okX12_feed ⟨by decide, by decide⟩ rfl mL_39 K rfl rfl (Nat.le_of_ble_eq_true rfl) rfl dL_422 (fun v2 hm1 H locs K J => ?_)
  obtain ⟨rfl, R⟩ := K
  exact lv_icmp_eq (tgt := 1654) hx hb dL_425 (by decide) (fun _ => kk _ _ _ _ R J) (fun h => absurd rfl h)
theorem lc_6 (hL : L ≤ 3072) (C0 : lw_At p s m meth c b L xs) (F : lw_F E1 E2 s) (J : lw_J s E1 E2 hc hm H locs) (R : zk_RR zk_lpe hc hm) (hl : lv_has ls 4 [(0, .ref b), (1, .ref (E1.2.2 0)), (2, .ref (E2.2.2 0)), (3, .int (nI j))]) (hj : j + 6 ≤ L)
    (kk : ∀ (hc hm : zk_H) (H : Heap) (locs : List Loc), zk_RR zk_lpe hc hm → lw_J s E1 E2 hc hm H locs → W p l e room_1 s m #[Value.ref b] below meth c H locs 600000 7302250 Q' (F0 m 1654 ls [])) : W p l e room_1 s m #[Value.ref b] below meth c H locs 600000 7302250 Q' (F0 m 430 ls []) := by
  have hx := C0.1
  have hb := C0.2.1
  have hown := C0.2.2.2.2.1
  have hts := C0.2.2.2.2.2.1
  refine lv_aload_n hx hb dL_430 rfl (lv_at hl 1 rfl) ?_
  refine lw_cCi (As := []) (rest := []) C0 F J hl.1 okX11_law ⟨by decide, by decide⟩ rfl mL_40 (e_law R) rfl rfl (Nat.le_of_ble_eq_true rfl) rfl dL_431 (fun v hc1 H locs K J => ?_)
  refine lv_aload_n hx hb dL_434 rfl (lv_at hl 2 rfl) ?_
  refine lw_cDi (As := []) (rest := [.int v]) C0 F J hl.1 okX12_law ⟨by decide, by decide⟩ rfl mL_44 K rfl rfl (Nat.le_of_ble_eq_true rfl) rfl dL_435 (fun v2 hm1 H locs K J => ?_)
  obtain ⟨rfl, R⟩ := K
  exact lv_icmp_eq (tgt := 1654) hx hb dL_438 (by decide) (fun _ => kk _ _ _ _ R J) (fun h => absurd rfl h)
theorem lc_7 (hL : L ≤ 3072) (C0 : lw_At p s m meth c b L xs) (F : lw_F E1 E2 s) (J : lw_J s E1 E2 hc hm H locs) (R : zk_RR zk_lpe hc hm) (hl : lv_has ls 4 [(0, .ref b), (1, .ref (E1.2.2 0)), (2, .ref (E2.2.2 0)), (3, .int (nI j))]) (hj : j + 6 ≤ L)
    (kk : ∀ (hc hm : zk_H) (H : Heap) (locs : List Loc), zk_RR zk_lpe hc hm → lw_J s E1 E2 hc hm H locs → W p l e room_1 s m #[Value.ref b] below meth c H locs 600000 7302250 Q' (F0 m 1654 ls [])) : W p l e room_1 s m #[Value.ref b] below meth c H locs 600000 7302250 Q' (F0 m 443 ls []) := by
  have hx := C0.1
  have hb := C0.2.1
  have hown := C0.2.2.2.2.1
  have hts := C0.2.2.2.2.2.1
  refine lv_aload_n hx hb dL_443 rfl (lv_at hl 1 rfl) ?_
  refine lw_arg hL C0 J hl rfl rfl aL_444 (by omega) ?_
  refine lw_cCi (As := [.int (xs (j + 1))]) (rest := []) C0 F J hl.1 okX11_could ⟨by decide, by decide⟩ rfl mL_45 (e_could R) rfl rfl (Nat.le_of_ble_eq_true rfl) rfl dL_449 (fun v hc1 H locs K J => ?_)
  refine lv_aload_n hx hb dL_452 rfl (lv_at hl 2 rfl) ?_
  refine lw_arg hL C0 J hl rfl rfl aL_453 (by omega) ?_
  refine lw_cDi (As := [.int (xs (j + 1))]) (rest := [.int v]) C0 F J hl.1 okX12_could_ ⟨by decide, by decide⟩ rfl mL_48 K rfl rfl (Nat.le_of_ble_eq_true rfl) rfl dL_458 (fun v2 hm1 H locs K J => ?_)
  obtain ⟨rfl, R⟩ := K
  exact lv_icmp_eq (tgt := 1654) hx hb dL_461 (by decide) (fun _ => kk _ _ _ _ R J) (fun h => absurd rfl h)
theorem lc_8 (hL : L ≤ 3072) (C0 : lw_At p s m meth c b L xs) (F : lw_F E1 E2 s) (J : lw_J s E1 E2 hc hm H locs) (R : zk_RR zk_lpe hc hm) (hl : lv_has ls 4 [(0, .ref b), (1, .ref (E1.2.2 0)), (2, .ref (E2.2.2 0)), (3, .int (nI j))]) (hj : j + 6 ≤ L)
    (kk : ∀ (hc hm : zk_H) (H : Heap) (locs : List Loc), zk_RR zk_lpe hc hm → lw_J s E1 E2 hc hm H locs → W p l e room_1 s m #[Value.ref b] below meth c H locs 600000 7302250 Q' (F0 m 1654 ls [])) : W p l e room_1 s m #[Value.ref b] below meth c H locs 600000 7302250 Q' (F0 m 466 ls []) := by
  have hx := C0.1
  have hb := C0.2.1
  have hown := C0.2.2.2.2.1
  have hts := C0.2.2.2.2.2.1
  refine lv_aload_n hx hb dL_466 rfl (lv_at hl 1 rfl) ?_
  refine lw_arg hL C0 J hl rfl rfl aL_467 (by omega) ?_
  refine lw_cCi (As := [.int (xs (j + 1))]) (rest := []) C0 F J hl.1 okX11_counts ⟨by decide, by decide⟩ rfl mL_49 (e_counts R) rfl rfl (Nat.le_of_ble_eq_true rfl) rfl dL_472 (fun v hc1 H locs K J => ?_)
  refine lv_aload_n hx hb dL_475 rfl (lv_at hl 2 rfl) ?_
  refine lw_arg hL C0 J hl rfl rfl aL_476 (by omega) ?_
  refine lw_cDi (As := [.int (xs (j + 1))]) (rest := [.int v]) C0 F J hl.1 okX12_counts ⟨by decide, by decide⟩ rfl mL_52 K rfl rfl (Nat.le_of_ble_eq_true rfl) rfl dL_481 (fun v2 hm1 H locs K J => ?_)
  obtain ⟨rfl, R⟩ := K
  exact lv_icmp_eq (tgt := 1654) hx hb dL_484 (by decide) (fun _ => kk _ _ _ _ R J) (fun h => absurd rfl h)
theorem lc_9 (hL : L ≤ 3072) (C0 : lw_At p s m meth c b L xs) (F : lw_F E1 E2 s) (J : lw_J s E1 E2 hc hm H locs) (R : zk_RR zk_lpe hc hm) (hl : lv_has ls 4 [(0, .ref b), (1, .ref (E1.2.2 0)), (2, .ref (E2.2.2 0)), (3, .int (nI j))]) (hj : j + 6 ≤ L)
    (kk : ∀ (hc hm : zk_H) (H : Heap) (locs : List Loc), zk_RR zk_lpe hc hm → lw_J s E1 E2 hc hm H locs → W p l e room_1 s m #[Value.ref b] below meth c H locs 600000 7302250 Q' (F0 m 1654 ls [])) : W p l e room_1 s m #[Value.ref b] below meth c H locs 600000 7302250 Q' (F0 m 489 ls []) := by
  have hx := C0.1
  have hb := C0.2.1
  have hown := C0.2.2.2.2.1
  have hts := C0.2.2.2.2.2.1
  refine lv_aload_n hx hb dL_489 rfl (lv_at hl 1 rfl) ?_
  refine lw_arg hL C0 J hl rfl rfl aL_490 (by omega) ?_
  refine lw_arg hL C0 J hl rfl rfl aL_495 (by omega) ?_
  refine lw_cCl (As := [.int (xs (j + 1)), .int (xs (j + 2))]) (rest := []) C0 F J hl.1 okX11_likely ⟨by decide, by decide⟩ rfl mL_53 (e_likely R) rfl rfl (Nat.le_of_ble_eq_true rfl) rfl dL_500 (fun v hc1 H locs K J => ?_)
  refine lv_aload_n hx hb dL_503 rfl (lv_at hl 2 rfl) ?_
  refine lw_arg hL C0 J hl rfl rfl aL_504 (by omega) ?_
  refine lw_arg hL C0 J hl rfl rfl aL_509 (by omega) ?_
  refine lw_cDl (As := [.int (xs (j + 1)), .int (xs (j + 2))]) (rest := [.long v]) C0 F J hl.1 okX12_likely ⟨by decide, by decide⟩ rfl mL_57 K rfl rfl (Nat.le_of_ble_eq_true rfl) rfl dL_514 (fun v2 hm1 H locs K J => ?_)
  obtain ⟨rfl, R⟩ := K
  refine W.lcmp hx hb dL_517 ?_
  exact lv_if_eq (tgt := 1654) hx hb dL_518 (by decide) (fun _ => kk _ _ _ _ R J) (fun h => absurd (lw_cmp0 _) h)
theorem lc_10 (hL : L ≤ 3072) (C0 : lw_At p s m meth c b L xs) (F : lw_F E1 E2 s) (J : lw_J s E1 E2 hc hm H locs) (R : zk_RR zk_lpe hc hm) (hl : lv_has ls 4 [(0, .ref b), (1, .ref (E1.2.2 0)), (2, .ref (E2.2.2 0)), (3, .int (nI j))]) (hj : j + 6 ≤ L)
    (kk : ∀ (hc hm : zk_H) (H : Heap) (locs : List Loc), zk_RR zk_lpe hc hm → lw_J s E1 E2 hc hm H locs → W p l e room_1 s m #[Value.ref b] below meth c H locs 600000 7302250 Q' (F0 m 1654 ls [])) : W p l e room_1 s m #[Value.ref b] below meth c H locs 600000 7302250 Q' (F0 m 523 ls []) := by
  have hx := C0.1
  have hb := C0.2.1
  have hown := C0.2.2.2.2.1
  have hts := C0.2.2.2.2.2.1
  refine lv_aload_n hx hb dL_523 rfl (lv_at hl 1 rfl) ?_
  refine lw_arg hL C0 J hl rfl rfl aL_524 (by omega) ?_
  refine lw_arg hL C0 J hl rfl rfl aL_529 (by omega) ?_
  refine lw_cCi (As := [.int (xs (j + 1)), .int (xs (j + 2))]) (rest := []) C0 F J hl.1 okX11_likeliest ⟨by decide, by decide⟩ rfl mL_58 (e_likeliest R) rfl rfl (Nat.le_of_ble_eq_true rfl) rfl dL_534 (fun v hc1 H locs K J => ?_)
  refine lv_aload_n hx hb dL_537 rfl (lv_at hl 2 rfl) ?_
  refine lw_arg hL C0 J hl rfl rfl aL_538 (by omega) ?_
  refine lw_arg hL C0 J hl rfl rfl aL_543 (by omega) ?_
  refine lw_cDi (As := [.int (xs (j + 1)), .int (xs (j + 2))]) (rest := [.int v]) C0 F J hl.1 okX12_likeliest_ ⟨by decide, by decide⟩ rfl mL_61 K rfl rfl (Nat.le_of_ble_eq_true rfl) rfl dL_548 (fun v2 hm1 H locs K J => ?_)
  obtain ⟨rfl, R⟩ := K
  exact lv_icmp_eq (tgt := 1654) hx hb dL_551 (by decide) (fun _ => kk _ _ _ _ R J) (fun h => absurd rfl h)
theorem lc_11 (hL : L ≤ 3072) (C0 : lw_At p s m meth c b L xs) (F : lw_F E1 E2 s) (J : lw_J s E1 E2 hc hm H locs) (R : zk_RR zk_lpe hc hm) (hl : lv_has ls 4 [(0, .ref b), (1, .ref (E1.2.2 0)), (2, .ref (E2.2.2 0)), (3, .int (nI j))]) (hj : j + 6 ≤ L)
    (kk : ∀ (hc hm : zk_H) (H : Heap) (locs : List Loc), zk_RR zk_lpe hc hm → lw_J s E1 E2 hc hm H locs → W p l e room_1 s m #[Value.ref b] below meth c H locs 600000 7302250 Q' (F0 m 1654 ls [])) : W p l e room_1 s m #[Value.ref b] below meth c H locs 600000 7302250 Q' (F0 m 556 ls []) := by
  have hx := C0.1
  have hb := C0.2.1
  have hown := C0.2.2.2.2.1
  have hts := C0.2.2.2.2.2.1
  refine lv_aload_n hx hb dL_556 rfl (lv_at hl 1 rfl) ?_
  refine lw_arg hL C0 J hl rfl rfl aL_557 (by omega) ?_
  refine lw_cCi (As := [.int (xs (j + 1))]) (rest := []) C0 F J hl.1 okX11_allByOne ⟨by decide, by decide⟩ rfl mL_62 (e_allByOne R) rfl rfl (Nat.le_of_ble_eq_true rfl) rfl dL_562 (fun v hc1 H locs K J => ?_)
  refine lv_aload_n hx hb dL_565 rfl (lv_at hl 2 rfl) ?_
  refine lw_arg hL C0 J hl rfl rfl aL_566 (by omega) ?_
  refine lw_cDi (As := [.int (xs (j + 1))]) (rest := [.int v]) C0 F J hl.1 okX12_allByOne ⟨by decide, by decide⟩ rfl mL_65 K rfl rfl (Nat.le_of_ble_eq_true rfl) rfl dL_571 (fun v2 hm1 H locs K J => ?_)
  obtain ⟨rfl, R⟩ := K
  exact lv_icmp_eq (tgt := 1654) hx hb dL_574 (by decide) (fun _ => kk _ _ _ _ R J) (fun h => absurd rfl h)
theorem lc_12 (hL : L ≤ 3072) (C0 : lw_At p s m meth c b L xs) (F : lw_F E1 E2 s) (J : lw_J s E1 E2 hc hm H locs) (R : zk_RR zk_lpe hc hm) (hl : lv_has ls 4 [(0, .ref b), (1, .ref (E1.2.2 0)), (2, .ref (E2.2.2 0)), (3, .int (nI j))]) (hj : j + 6 ≤ L)
    (kk : ∀ (hc hm : zk_H) (H : Heap) (locs : List Loc), zk_RR zk_lpe hc hm → lw_J s E1 E2 hc hm H locs → W p l e room_1 s m #[Value.ref b] below meth c H locs 600000 7302250 Q' (F0 m 1654 ls [])) : W p l e room_1 s m #[Value.ref b] below meth c H locs 600000 7302250 Q' (F0 m 579 ls []) := by
  have hx := C0.1
  have hb := C0.2.1
  have hown := C0.2.2.2.2.1
  have hts := C0.2.2.2.2.2.1
  refine lv_aload_n hx hb dL_579 rfl (lv_at hl 1 rfl) ?_
  refine lw_arg hL C0 J hl rfl rfl aL_580 (by omega) ?_
  refine lw_arg hL C0 J hl rfl rfl aL_585 (by omega) ?_
  refine lw_cCi (As := [.int (xs (j + 1)), .int (xs (j + 2))]) (rest := []) C0 F J hl.1 okX11_hands ⟨by decide, by decide⟩ rfl mL_66 (e_hands R) rfl rfl (Nat.le_of_ble_eq_true rfl) rfl dL_590 (fun v hc1 H locs K J => ?_)
  refine lv_aload_n hx hb dL_593 rfl (lv_at hl 2 rfl) ?_
  refine lw_arg hL C0 J hl rfl rfl aL_594 (by omega) ?_
  refine lw_arg hL C0 J hl rfl rfl aL_599 (by omega) ?_
  refine lw_cDi (As := [.int (xs (j + 1)), .int (xs (j + 2))]) (rest := [.int v]) C0 F J hl.1 okX12_hands ⟨by decide, by decide⟩ rfl mL_69 K rfl rfl (Nat.le_of_ble_eq_true rfl) rfl dL_604 (fun v2 hm1 H locs K J => ?_)
  obtain ⟨rfl, R⟩ := K
  exact lv_icmp_eq (tgt := 1654) hx hb dL_607 (by decide) (fun _ => kk _ _ _ _ R J) (fun h => absurd rfl h)
theorem lc_13 (hL : L ≤ 3072) (C0 : lw_At p s m meth c b L xs) (F : lw_F E1 E2 s) (J : lw_J s E1 E2 hc hm H locs) (R : zk_RR zk_lpe hc hm) (hl : lv_has ls 4 [(0, .ref b), (1, .ref (E1.2.2 0)), (2, .ref (E2.2.2 0)), (3, .int (nI j))]) (hj : j + 6 ≤ L)
    (kk : ∀ (hc hm : zk_H) (H : Heap) (locs : List Loc), zk_RR zk_lpe hc hm → lw_J s E1 E2 hc hm H locs → W p l e room_1 s m #[Value.ref b] below meth c H locs 600000 7302250 Q' (F0 m 1654 ls [])) : W p l e room_1 s m #[Value.ref b] below meth c H locs 600000 7302250 Q' (F0 m 612 ls []) := by
  have hx := C0.1
  have hb := C0.2.1
  have hown := C0.2.2.2.2.1
  have hts := C0.2.2.2.2.2.1
  refine lv_aload_n hx hb dL_612 rfl (lv_at hl 1 rfl) ?_
  refine lw_arg hL C0 J hl rfl rfl aL_613 (by omega) ?_
  refine lw_cCi (As := [.int (xs (j + 1))]) (rest := []) C0 F J hl.1 okX11_unlike ⟨by decide, by decide⟩ rfl mL_70 (e_unlike R) rfl rfl (Nat.le_of_ble_eq_true rfl) rfl dL_618 (fun v hc1 H locs K J => ?_)
  refine lv_aload_n hx hb dL_621 rfl (lv_at hl 2 rfl) ?_
  refine lw_arg hL C0 J hl rfl rfl aL_622 (by omega) ?_
  refine lw_cDi (As := [.int (xs (j + 1))]) (rest := [.int v]) C0 F J hl.1 okX12_unlike ⟨by decide, by decide⟩ rfl mL_73 K rfl rfl (Nat.le_of_ble_eq_true rfl) rfl dL_627 (fun v2 hm1 H locs K J => ?_)
  obtain ⟨rfl, R⟩ := K
  exact lv_icmp_eq (tgt := 1654) hx hb dL_630 (by decide) (fun _ => kk _ _ _ _ R J) (fun h => absurd rfl h)
theorem lc_14 (hL : L ≤ 3072) (C0 : lw_At p s m meth c b L xs) (F : lw_F E1 E2 s) (J : lw_J s E1 E2 hc hm H locs) (R : zk_RR zk_lpe hc hm) (hl : lv_has ls 4 [(0, .ref b), (1, .ref (E1.2.2 0)), (2, .ref (E2.2.2 0)), (3, .int (nI j))]) (hj : j + 6 ≤ L)
    (kk : ∀ (hc hm : zk_H) (H : Heap) (locs : List Loc), zk_RR zk_lpe hc hm → lw_J s E1 E2 hc hm H locs → W p l e room_1 s m #[Value.ref b] below meth c H locs 600000 7302250 Q' (F0 m 1654 ls [])) : W p l e room_1 s m #[Value.ref b] below meth c H locs 600000 7302250 Q' (F0 m 635 ls []) := by
  have hx := C0.1
  have hb := C0.2.1
  have hown := C0.2.2.2.2.1
  have hts := C0.2.2.2.2.2.1
  refine lv_aload_n hx hb dL_635 rfl (lv_at hl 1 rfl) ?_
  refine lw_arg hL C0 J hl rfl rfl aL_636 (by omega) ?_
  refine lw_arg hL C0 J hl rfl rfl aL_641 (by omega) ?_
  refine lw_cCi (As := [.int (xs (j + 1)), .int (xs (j + 2))]) (rest := []) C0 F J hl.1 okX11_evenings ⟨by decide, by decide⟩ rfl mL_74 (e_evenings R) rfl rfl (Nat.le_of_ble_eq_true rfl) rfl dL_646 (fun v hc1 H locs K J => ?_)
  refine lv_aload_n hx hb dL_649 rfl (lv_at hl 2 rfl) ?_
  refine lw_arg hL C0 J hl rfl rfl aL_650 (by omega) ?_
  refine lw_arg hL C0 J hl rfl rfl aL_655 (by omega) ?_
  refine lw_cDi (As := [.int (xs (j + 1)), .int (xs (j + 2))]) (rest := [.int v]) C0 F J hl.1 okX12_evenings ⟨by decide, by decide⟩ rfl mL_77 K rfl rfl (Nat.le_of_ble_eq_true rfl) rfl dL_660 (fun v2 hm1 H locs K J => ?_)
  obtain ⟨rfl, R⟩ := K
  exact lv_icmp_eq (tgt := 1654) hx hb dL_663 (by decide) (fun _ => kk _ _ _ _ R J) (fun h => absurd rfl h)
theorem lc_15 (hL : L ≤ 3072) (C0 : lw_At p s m meth c b L xs) (F : lw_F E1 E2 s) (J : lw_J s E1 E2 hc hm H locs) (R : zk_RR zk_lpe hc hm) (hl : lv_has ls 4 [(0, .ref b), (1, .ref (E1.2.2 0)), (2, .ref (E2.2.2 0)), (3, .int (nI j))]) (hj : j + 6 ≤ L)
    (kk : ∀ (hc hm : zk_H) (H : Heap) (locs : List Loc), zk_RR zk_lpe hc hm → lw_J s E1 E2 hc hm H locs → W p l e room_1 s m #[Value.ref b] below meth c H locs 600000 7302250 Q' (F0 m 1654 ls [])) : W p l e room_1 s m #[Value.ref b] below meth c H locs 600000 7302250 Q' (F0 m 668 ls []) := by
  have hx := C0.1
  have hb := C0.2.1
  have hown := C0.2.2.2.2.1
  have hts := C0.2.2.2.2.2.1
  refine lv_aload_n hx hb dL_668 rfl (lv_at hl 1 rfl) ?_
  refine lw_arg hL C0 J hl rfl rfl aL_669 (by omega) ?_
  refine lw_arg hL C0 J hl rfl rfl aL_674 (by omega) ?_
  refine lw_cCi (As := [.int (xs (j + 1)), .int (xs (j + 2))]) (rest := []) C0 F J hl.1 okX11_hears ⟨by decide, by decide⟩ rfl mL_78 (e_hears R) rfl rfl (Nat.le_of_ble_eq_true rfl) rfl dL_679 (fun v hc1 H locs K J => ?_)
  refine lv_aload_n hx hb dL_682 rfl (lv_at hl 2 rfl) ?_
  refine lw_arg hL C0 J hl rfl rfl aL_683 (by omega) ?_
  refine lw_arg hL C0 J hl rfl rfl aL_688 (by omega) ?_
  refine lw_cDi (As := [.int (xs (j + 1)), .int (xs (j + 2))]) (rest := [.int v]) C0 F J hl.1 okX12_hears ⟨by decide, by decide⟩ rfl mL_81 K rfl rfl (Nat.le_of_ble_eq_true rfl) rfl dL_693 (fun v2 hm1 H locs K J => ?_)
  obtain ⟨rfl, R⟩ := K
  exact lv_icmp_eq (tgt := 1654) hx hb dL_696 (by decide) (fun _ => kk _ _ _ _ R J) (fun h => absurd rfl h)
theorem lc_16 (hL : L ≤ 3072) (C0 : lw_At p s m meth c b L xs) (F : lw_F E1 E2 s) (J : lw_J s E1 E2 hc hm H locs) (R : zk_RR zk_lpe hc hm) (hl : lv_has ls 4 [(0, .ref b), (1, .ref (E1.2.2 0)), (2, .ref (E2.2.2 0)), (3, .int (nI j))]) (hj : j + 6 ≤ L)
    (kk : ∀ (hc hm : zk_H) (H : Heap) (locs : List Loc), zk_RR zk_lpe hc hm → lw_J s E1 E2 hc hm H locs → W p l e room_1 s m #[Value.ref b] below meth c H locs 600000 7302250 Q' (F0 m 1654 ls [])) : W p l e room_1 s m #[Value.ref b] below meth c H locs 600000 7302250 Q' (F0 m 701 ls []) := by
  have hx := C0.1
  have hb := C0.2.1
  have hown := C0.2.2.2.2.1
  have hts := C0.2.2.2.2.2.1
  refine lv_aload_n hx hb dL_701 rfl (lv_at hl 1 rfl) ?_
  refine lw_arg hL C0 J hl rfl rfl aL_702 (by omega) ?_
  refine lw_arg hL C0 J hl rfl rfl aL_707 (by omega) ?_
  refine lw_cCi (As := [.int (xs (j + 1)), .int (xs (j + 2))]) (rest := []) C0 F J hl.1 okX11_ask ⟨by decide, by decide⟩ rfl mL_82 (e_ask R) rfl rfl (Nat.le_of_ble_eq_true rfl) rfl dL_712 (fun v hc1 H locs K J => ?_)
  refine lv_aload_n hx hb dL_715 rfl (lv_at hl 2 rfl) ?_
  refine lw_arg hL C0 J hl rfl rfl aL_716 (by omega) ?_
  refine lw_arg hL C0 J hl rfl rfl aL_721 (by omega) ?_
  refine lw_cDi (As := [.int (xs (j + 1)), .int (xs (j + 2))]) (rest := [.int v]) C0 F J hl.1 okX12_ask ⟨by decide, by decide⟩ rfl mL_85 K rfl rfl (Nat.le_of_ble_eq_true rfl) rfl dL_726 (fun v2 hm1 H locs K J => ?_)
  obtain ⟨rfl, R⟩ := K
  exact lv_icmp_eq (tgt := 1654) hx hb dL_729 (by decide) (fun _ => kk _ _ _ _ R J) (fun h => absurd rfl h)
theorem lc_17 (hL : L ≤ 3072) (C0 : lw_At p s m meth c b L xs) (F : lw_F E1 E2 s) (J : lw_J s E1 E2 hc hm H locs) (R : zk_RR zk_lpe hc hm) (hl : lv_has ls 4 [(0, .ref b), (1, .ref (E1.2.2 0)), (2, .ref (E2.2.2 0)), (3, .int (nI j))]) (hj : j + 6 ≤ L)
    (kk : ∀ (hc hm : zk_H) (H : Heap) (locs : List Loc), zk_RR zk_lpe hc hm → lw_J s E1 E2 hc hm H locs → W p l e room_1 s m #[Value.ref b] below meth c H locs 600000 7302250 Q' (F0 m 1654 ls [])) : W p l e room_1 s m #[Value.ref b] below meth c H locs 600000 7302250 Q' (F0 m 734 ls []) := by
  have hx := C0.1
  have hb := C0.2.1
  have hown := C0.2.2.2.2.1
  have hts := C0.2.2.2.2.2.1
  refine lv_aload_n hx hb dL_734 rfl (lv_at hl 1 rfl) ?_
  refine lw_arg hL C0 J hl rfl rfl aL_735 (by omega) ?_
  refine lw_cCi (As := [.int (xs (j + 1))]) (rest := []) C0 F J hl.1 okX11_worth ⟨by decide, by decide⟩ rfl mL_86 (e_worth R) rfl rfl (Nat.le_of_ble_eq_true rfl) rfl dL_740 (fun v hc1 H locs K J => ?_)
  refine lv_aload_n hx hb dL_743 rfl (lv_at hl 2 rfl) ?_
  refine lw_arg hL C0 J hl rfl rfl aL_744 (by omega) ?_
  refine lw_cDi (As := [.int (xs (j + 1))]) (rest := [.int v]) C0 F J hl.1 okX12_worth ⟨by decide, by decide⟩ rfl mL_89 K rfl rfl (Nat.le_of_ble_eq_true rfl) rfl dL_749 (fun v2 hm1 H locs K J => ?_)
  obtain ⟨rfl, R⟩ := K
  exact lv_icmp_eq (tgt := 1654) hx hb dL_752 (by decide) (fun _ => kk _ _ _ _ R J) (fun h => absurd rfl h)
theorem lc_18 (hL : L ≤ 3072) (C0 : lw_At p s m meth c b L xs) (F : lw_F E1 E2 s) (J : lw_J s E1 E2 hc hm H locs) (R : zk_RR zk_lpe hc hm) (hl : lv_has ls 4 [(0, .ref b), (1, .ref (E1.2.2 0)), (2, .ref (E2.2.2 0)), (3, .int (nI j))]) (hj : j + 6 ≤ L)
    (kk : ∀ (hc hm : zk_H) (H : Heap) (locs : List Loc), zk_RR zk_lpe hc hm → lw_J s E1 E2 hc hm H locs → W p l e room_1 s m #[Value.ref b] below meth c H locs 600000 7302250 Q' (F0 m 1654 ls [])) : W p l e room_1 s m #[Value.ref b] below meth c H locs 600000 7302250 Q' (F0 m 757 ls []) := by
  have hx := C0.1
  have hb := C0.2.1
  have hown := C0.2.2.2.2.1
  have hts := C0.2.2.2.2.2.1
  refine lv_aload_n hx hb dL_757 rfl (lv_at hl 1 rfl) ?_
  refine lw_arg hL C0 J hl rfl rfl aL_758 (by omega) ?_
  refine lw_cCi (As := [.int (xs (j + 1))]) (rest := []) C0 F J hl.1 okX11_thank ⟨by decide, by decide⟩ rfl mL_90 (e_thank R) rfl rfl (Nat.le_of_ble_eq_true rfl) rfl dL_763 (fun v hc1 H locs K J => ?_)
  refine lv_aload_n hx hb dL_766 rfl (lv_at hl 2 rfl) ?_
  refine lw_arg hL C0 J hl rfl rfl aL_767 (by omega) ?_
  refine lw_cDi (As := [.int (xs (j + 1))]) (rest := [.int v]) C0 F J hl.1 okX12_thank ⟨by decide, by decide⟩ rfl mL_93 K rfl rfl (Nat.le_of_ble_eq_true rfl) rfl dL_772 (fun v2 hm1 H locs K J => ?_)
  obtain ⟨rfl, R⟩ := K
  exact lv_icmp_eq (tgt := 1654) hx hb dL_775 (by decide) (fun _ => kk _ _ _ _ R J) (fun h => absurd rfl h)
theorem lc_19 (hL : L ≤ 3072) (C0 : lw_At p s m meth c b L xs) (F : lw_F E1 E2 s) (J : lw_J s E1 E2 hc hm H locs) (R : zk_RR zk_lpe hc hm) (hl : lv_has ls 4 [(0, .ref b), (1, .ref (E1.2.2 0)), (2, .ref (E2.2.2 0)), (3, .int (nI j))]) (hj : j + 6 ≤ L)
    (kk : ∀ (hc hm : zk_H) (H : Heap) (locs : List Loc), zk_RR zk_lpe hc hm → lw_J s E1 E2 hc hm H locs → W p l e room_1 s m #[Value.ref b] below meth c H locs 600000 7302250 Q' (F0 m 1654 ls [])) : W p l e room_1 s m #[Value.ref b] below meth c H locs 600000 7302250 Q' (F0 m 780 ls []) := by
  have hx := C0.1
  have hb := C0.2.1
  have hown := C0.2.2.2.2.1
  have hts := C0.2.2.2.2.2.1
  refine lv_aload_n hx hb dL_780 rfl (lv_at hl 1 rfl) ?_
  refine lw_arg hL C0 J hl rfl rfl aL_781 (by omega) ?_
  refine lw_arg hL C0 J hl rfl rfl aL_786 (by omega) ?_
  refine lw_cCi (As := [.int (xs (j + 1)), .int (xs (j + 2))]) (rest := []) C0 F J hl.1 okX11_next ⟨by decide, by decide⟩ rfl mL_94 (e_next R) rfl rfl (Nat.le_of_ble_eq_true rfl) rfl dL_791 (fun v hc1 H locs K J => ?_)
  refine lv_aload_n hx hb dL_794 rfl (lv_at hl 2 rfl) ?_
  refine lw_arg hL C0 J hl rfl rfl aL_795 (by omega) ?_
  refine lw_arg hL C0 J hl rfl rfl aL_800 (by omega) ?_
  refine lw_cDi (As := [.int (xs (j + 1)), .int (xs (j + 2))]) (rest := [.int v]) C0 F J hl.1 okX12_next ⟨by decide, by decide⟩ rfl mL_97 K rfl rfl (Nat.le_of_ble_eq_true rfl) rfl dL_805 (fun v2 hm1 H locs K J => ?_)
  obtain ⟨rfl, R⟩ := K
  exact lv_icmp_eq (tgt := 1654) hx hb dL_808 (by decide) (fun _ => kk _ _ _ _ R J) (fun h => absurd rfl h)
theorem lc_20 (hL : L ≤ 3072) (C0 : lw_At p s m meth c b L xs) (F : lw_F E1 E2 s) (J : lw_J s E1 E2 hc hm H locs) (R : zk_RR zk_lpe hc hm) (hl : lv_has ls 4 [(0, .ref b), (1, .ref (E1.2.2 0)), (2, .ref (E2.2.2 0)), (3, .int (nI j))]) (hj : j + 6 ≤ L)
    (kk : ∀ (hc hm : zk_H) (H : Heap) (locs : List Loc), zk_RR zk_lpe hc hm → lw_J s E1 E2 hc hm H locs → W p l e room_1 s m #[Value.ref b] below meth c H locs 600000 7302250 Q' (F0 m 1654 ls [])) : W p l e room_1 s m #[Value.ref b] below meth c H locs 600000 7302250 Q' (F0 m 813 ls []) := by
  have hx := C0.1
  have hb := C0.2.1
  have hown := C0.2.2.2.2.1
  have hts := C0.2.2.2.2.2.1
  refine lv_aload_n hx hb dL_813 rfl (lv_at hl 1 rfl) ?_
  refine lw_arg hL C0 J hl rfl rfl aL_814 (by omega) ?_
  refine lw_arg hL C0 J hl rfl rfl aL_819 (by omega) ?_
  refine lw_arg hL C0 J hl rfl rfl aL_824 (by omega) ?_
  refine lw_cCi (As := [.int (xs (j + 1)), .int (xs (j + 2)), .int (xs (j + 3))]) (rest := []) C0 F J hl.1 okX11_write ⟨by decide, by decide⟩ rfl mL_98 (e_write R) rfl rfl (Nat.le_of_ble_eq_true rfl) rfl dL_829 (fun v hc1 H locs K J => ?_)
  refine lv_aload_n hx hb dL_832 rfl (lv_at hl 2 rfl) ?_
  refine lw_arg hL C0 J hl rfl rfl aL_833 (by omega) ?_
  refine lw_arg hL C0 J hl rfl rfl aL_838 (by omega) ?_
  refine lw_arg hL C0 J hl rfl rfl aL_843 (by omega) ?_
  refine lw_cDi (As := [.int (xs (j + 1)), .int (xs (j + 2)), .int (xs (j + 3))]) (rest := [.int v]) C0 F J hl.1 okX12_write ⟨by decide, by decide⟩ rfl mL_101 K rfl rfl (Nat.le_of_ble_eq_true rfl) rfl dL_848 (fun v2 hm1 H locs K J => ?_)
  obtain ⟨rfl, R⟩ := K
  exact lv_icmp_eq (tgt := 1654) hx hb dL_851 (by decide) (fun _ => kk _ _ _ _ R J) (fun h => absurd rfl h)
theorem lc_21 (hL : L ≤ 3072) (C0 : lw_At p s m meth c b L xs) (F : lw_F E1 E2 s) (J : lw_J s E1 E2 hc hm H locs) (R : zk_RR zk_lpe hc hm) (hl : lv_has ls 4 [(0, .ref b), (1, .ref (E1.2.2 0)), (2, .ref (E2.2.2 0)), (3, .int (nI j))]) (hj : j + 6 ≤ L)
    (kk : ∀ (hc hm : zk_H) (H : Heap) (locs : List Loc), zk_RR zk_lpe hc hm → lw_J s E1 E2 hc hm H locs → W p l e room_1 s m #[Value.ref b] below meth c H locs 600000 7302250 Q' (F0 m 1654 ls [])) : W p l e room_1 s m #[Value.ref b] below meth c H locs 600000 7302250 Q' (F0 m 856 ls []) := by
  have hx := C0.1
  have hb := C0.2.1
  have hown := C0.2.2.2.2.1
  have hts := C0.2.2.2.2.2.1
  refine lv_aload_n hx hb dL_856 rfl (lv_at hl 1 rfl) ?_
  refine lw_arg hL C0 J hl rfl rfl aL_857 (by omega) ?_
  refine lw_arg hL C0 J hl rfl rfl aL_862 (by omega) ?_
  refine lw_arg hL C0 J hl rfl rfl aL_867 (by omega) ?_
  refine lw_cCl (As := [.int (xs (j + 1)), .int (xs (j + 2)), .int (xs (j + 3))]) (rest := []) C0 F J hl.1 okX11_written ⟨by decide, by decide⟩ rfl mL_102 (e_written R) rfl rfl (Nat.le_of_ble_eq_true rfl) rfl dL_872 (fun v hc1 H locs K J => ?_)
  refine lv_aload_n hx hb dL_875 rfl (lv_at hl 2 rfl) ?_
  refine lw_arg hL C0 J hl rfl rfl aL_876 (by omega) ?_
  refine lw_arg hL C0 J hl rfl rfl aL_881 (by omega) ?_
  refine lw_arg hL C0 J hl rfl rfl aL_886 (by omega) ?_
  refine lw_cDl (As := [.int (xs (j + 1)), .int (xs (j + 2)), .int (xs (j + 3))]) (rest := [.long v]) C0 F J hl.1 okX12_written ⟨by decide, by decide⟩ rfl mL_106 K rfl rfl (Nat.le_of_ble_eq_true rfl) rfl dL_891 (fun v2 hm1 H locs K J => ?_)
  obtain ⟨rfl, R⟩ := K
  refine W.lcmp hx hb dL_894 ?_
  exact lv_if_eq (tgt := 1654) hx hb dL_895 (by decide) (fun _ => kk _ _ _ _ R J) (fun h => absurd (lw_cmp0 _) h)
theorem lc_22 (hL : L ≤ 3072) (C0 : lw_At p s m meth c b L xs) (F : lw_F E1 E2 s) (J : lw_J s E1 E2 hc hm H locs) (R : zk_RR zk_lpe hc hm) (hl : lv_has ls 4 [(0, .ref b), (1, .ref (E1.2.2 0)), (2, .ref (E2.2.2 0)), (3, .int (nI j))]) (hj : j + 6 ≤ L)
    (kk : ∀ (hc hm : zk_H) (H : Heap) (locs : List Loc), zk_RR zk_lpe hc hm → lw_J s E1 E2 hc hm H locs → W p l e room_1 s m #[Value.ref b] below meth c H locs 600000 7302250 Q' (F0 m 1654 ls [])) : W p l e room_1 s m #[Value.ref b] below meth c H locs 600000 7302250 Q' (F0 m 900 ls []) := by
  have hx := C0.1
  have hb := C0.2.1
  have hown := C0.2.2.2.2.1
  have hts := C0.2.2.2.2.2.1
  refine lv_aload_n hx hb dL_900 rfl (lv_at hl 1 rfl) ?_
  refine lw_arg hL C0 J hl rfl rfl aL_901 (by omega) ?_
  refine lw_arg hL C0 J hl rfl rfl aL_906 (by omega) ?_
  refine lw_cCi (As := [.int (xs (j + 1)), .int (xs (j + 2))]) (rest := []) C0 F J hl.1 okX11_looks ⟨by decide, by decide⟩ rfl mL_107 (e_looks R) rfl rfl (Nat.le_of_ble_eq_true rfl) rfl dL_911 (fun v hc1 H locs K J => ?_)
  refine lv_aload_n hx hb dL_914 rfl (lv_at hl 2 rfl) ?_
  refine lw_arg hL C0 J hl rfl rfl aL_915 (by omega) ?_
  refine lw_arg hL C0 J hl rfl rfl aL_920 (by omega) ?_
  refine lw_cDi (As := [.int (xs (j + 1)), .int (xs (j + 2))]) (rest := [.int v]) C0 F J hl.1 okX12_looks ⟨by decide, by decide⟩ rfl mL_110 K rfl rfl (Nat.le_of_ble_eq_true rfl) rfl dL_925 (fun v2 hm1 H locs K J => ?_)
  obtain ⟨rfl, R⟩ := K
  exact lv_icmp_eq (tgt := 1654) hx hb dL_928 (by decide) (fun _ => kk _ _ _ _ R J) (fun h => absurd rfl h)
theorem lc_23 (hL : L ≤ 3072) (C0 : lw_At p s m meth c b L xs) (F : lw_F E1 E2 s) (J : lw_J s E1 E2 hc hm H locs) (R : zk_RR zk_lpe hc hm) (hl : lv_has ls 4 [(0, .ref b), (1, .ref (E1.2.2 0)), (2, .ref (E2.2.2 0)), (3, .int (nI j))]) (hj : j + 6 ≤ L)
    (kk : ∀ (hc hm : zk_H) (H : Heap) (locs : List Loc), zk_RR zk_lpe hc hm → lw_J s E1 E2 hc hm H locs → W p l e room_1 s m #[Value.ref b] below meth c H locs 600000 7302250 Q' (F0 m 1654 ls [])) : W p l e room_1 s m #[Value.ref b] below meth c H locs 600000 7302250 Q' (F0 m 933 ls []) := by
  have hx := C0.1
  have hb := C0.2.1
  have hown := C0.2.2.2.2.1
  have hts := C0.2.2.2.2.2.1
  refine lv_aload_n hx hb dL_933 rfl (lv_at hl 1 rfl) ?_
  refine lw_arg hL C0 J hl rfl rfl aL_934 (by omega) ?_
  refine lw_arg hL C0 J hl rfl rfl aL_939 (by omega) ?_
  refine lw_cCi (As := [.int (xs (j + 1)), .int (xs (j + 2))]) (rest := []) C0 F J hl.1 okX11_since ⟨by decide, by decide⟩ rfl mL_111 (e_since R) rfl rfl (Nat.le_of_ble_eq_true rfl) rfl dL_944 (fun v hc1 H locs K J => ?_)
  refine lv_aload_n hx hb dL_947 rfl (lv_at hl 2 rfl) ?_
  refine lw_arg hL C0 J hl rfl rfl aL_948 (by omega) ?_
  refine lw_arg hL C0 J hl rfl rfl aL_953 (by omega) ?_
  refine lw_cDi (As := [.int (xs (j + 1)), .int (xs (j + 2))]) (rest := [.int v]) C0 F J hl.1 okX12_since ⟨by decide, by decide⟩ rfl mL_114 K rfl rfl (Nat.le_of_ble_eq_true rfl) rfl dL_958 (fun v2 hm1 H locs K J => ?_)
  obtain ⟨rfl, R⟩ := K
  exact lv_icmp_eq (tgt := 1654) hx hb dL_961 (by decide) (fun _ => kk _ _ _ _ R J) (fun h => absurd rfl h)
theorem lc_24 (hL : L ≤ 3072) (C0 : lw_At p s m meth c b L xs) (F : lw_F E1 E2 s) (J : lw_J s E1 E2 hc hm H locs) (R : zk_RR zk_lpe hc hm) (hl : lv_has ls 4 [(0, .ref b), (1, .ref (E1.2.2 0)), (2, .ref (E2.2.2 0)), (3, .int (nI j))]) (hj : j + 6 ≤ L)
    (kk : ∀ (hc hm : zk_H) (H : Heap) (locs : List Loc), zk_RR zk_lpe hc hm → lw_J s E1 E2 hc hm H locs → W p l e room_1 s m #[Value.ref b] below meth c H locs 600000 7302250 Q' (F0 m 1654 ls [])) : W p l e room_1 s m #[Value.ref b] below meth c H locs 600000 7302250 Q' (F0 m 966 ls []) := by
  have hx := C0.1
  have hb := C0.2.1
  have hown := C0.2.2.2.2.1
  have hts := C0.2.2.2.2.2.1
  refine lv_aload_n hx hb dL_966 rfl (lv_at hl 1 rfl) ?_
  refine lw_arg hL C0 J hl rfl rfl aL_967 (by omega) ?_
  refine lw_cCi (As := [.int (xs (j + 1))]) (rest := []) C0 F J hl.1 okX11_judge ⟨by decide, by decide⟩ rfl mL_115 (e_judge R) rfl rfl (Nat.le_of_ble_eq_true rfl) rfl dL_972 (fun v hc1 H locs K J => ?_)
  refine lv_aload_n hx hb dL_975 rfl (lv_at hl 2 rfl) ?_
  refine lw_arg hL C0 J hl rfl rfl aL_976 (by omega) ?_
  refine lw_cDi (As := [.int (xs (j + 1))]) (rest := [.int v]) C0 F J hl.1 okX12_judge ⟨by decide, by decide⟩ rfl mL_118 K rfl rfl (Nat.le_of_ble_eq_true rfl) rfl dL_981 (fun v2 hm1 H locs K J => ?_)
  obtain ⟨rfl, R⟩ := K
  exact lv_icmp_eq (tgt := 1654) hx hb dL_984 (by decide) (fun _ => kk _ _ _ _ R J) (fun h => absurd rfl h)
theorem lc_25 (hL : L ≤ 3072) (C0 : lw_At p s m meth c b L xs) (F : lw_F E1 E2 s) (J : lw_J s E1 E2 hc hm H locs) (R : zk_RR zk_lpe hc hm) (hl : lv_has ls 4 [(0, .ref b), (1, .ref (E1.2.2 0)), (2, .ref (E2.2.2 0)), (3, .int (nI j))]) (hj : j + 6 ≤ L)
    (kk : ∀ (hc hm : zk_H) (H : Heap) (locs : List Loc), zk_RR zk_lpe hc hm → lw_J s E1 E2 hc hm H locs → W p l e room_1 s m #[Value.ref b] below meth c H locs 600000 7302250 Q' (F0 m 1654 ls [])) : W p l e room_1 s m #[Value.ref b] below meth c H locs 600000 7302250 Q' (F0 m 989 ls []) := by
  have hx := C0.1
  have hb := C0.2.1
  have hown := C0.2.2.2.2.1
  have hts := C0.2.2.2.2.2.1
  refine lv_aload_n hx hb dL_989 rfl (lv_at hl 1 rfl) ?_
  refine lw_arg hL C0 J hl rfl rfl aL_990 (by omega) ?_
  refine lw_arg hL C0 J hl rfl rfl aL_995 (by omega) ?_
  refine lw_cCl (As := [.int (xs (j + 1)), .int (xs (j + 2))]) (rest := []) C0 F J hl.1 okX11_filled ⟨by decide, by decide⟩ rfl mL_119 (e_filled R) rfl rfl (Nat.le_of_ble_eq_true rfl) rfl dL_1000 (fun v hc1 H locs K J => ?_)
  refine lv_aload_n hx hb dL_1003 rfl (lv_at hl 2 rfl) ?_
  refine lw_arg hL C0 J hl rfl rfl aL_1004 (by omega) ?_
  refine lw_arg hL C0 J hl rfl rfl aL_1009 (by omega) ?_
  refine lw_cDl (As := [.int (xs (j + 1)), .int (xs (j + 2))]) (rest := [.long v]) C0 F J hl.1 okX12_filled ⟨by decide, by decide⟩ rfl mL_122 K rfl rfl (Nat.le_of_ble_eq_true rfl) rfl dL_1014 (fun v2 hm1 H locs K J => ?_)
  obtain ⟨rfl, R⟩ := K
  refine W.lcmp hx hb dL_1017 ?_
  exact lv_if_eq (tgt := 1654) hx hb dL_1018 (by decide) (fun _ => kk _ _ _ _ R J) (fun h => absurd (lw_cmp0 _) h)
theorem lc_26 (hL : L ≤ 3072) (C0 : lw_At p s m meth c b L xs) (F : lw_F E1 E2 s) (J : lw_J s E1 E2 hc hm H locs) (R : zk_RR zk_lpe hc hm) (hl : lv_has ls 4 [(0, .ref b), (1, .ref (E1.2.2 0)), (2, .ref (E2.2.2 0)), (3, .int (nI j))]) (hj : j + 6 ≤ L)
    (kk : ∀ (hc hm : zk_H) (H : Heap) (locs : List Loc), zk_RR zk_lpe hc hm → lw_J s E1 E2 hc hm H locs → W p l e room_1 s m #[Value.ref b] below meth c H locs 600000 7302250 Q' (F0 m 1654 ls [])) : W p l e room_1 s m #[Value.ref b] below meth c H locs 600000 7302250 Q' (F0 m 1023 ls []) := by
  have hx := C0.1
  have hb := C0.2.1
  have hown := C0.2.2.2.2.1
  have hts := C0.2.2.2.2.2.1
  refine lv_aload_n hx hb dL_1023 rfl (lv_at hl 1 rfl) ?_
  refine lw_arg hL C0 J hl rfl rfl aL_1024 (by omega) ?_
  refine lw_arg hL C0 J hl rfl rfl aL_1029 (by omega) ?_
  refine lw_cCi (As := [.int (xs (j + 1)), .int (xs (j + 2))]) (rest := []) C0 F J hl.1 okX11_hope ⟨by decide, by decide⟩ rfl mL_123 (e_hope R) rfl rfl (Nat.le_of_ble_eq_true rfl) rfl dL_1034 (fun v hc1 H locs K J => ?_)
  refine lv_aload_n hx hb dL_1037 rfl (lv_at hl 2 rfl) ?_
  refine lw_arg hL C0 J hl rfl rfl aL_1038 (by omega) ?_
  refine lw_arg hL C0 J hl rfl rfl aL_1043 (by omega) ?_
  refine lw_cDi (As := [.int (xs (j + 1)), .int (xs (j + 2))]) (rest := [.int v]) C0 F J hl.1 okX12_hope ⟨by decide, by decide⟩ rfl mL_126 K rfl rfl (Nat.le_of_ble_eq_true rfl) rfl dL_1048 (fun v2 hm1 H locs K J => ?_)
  obtain ⟨rfl, R⟩ := K
  exact lv_icmp_eq (tgt := 1654) hx hb dL_1051 (by decide) (fun _ => kk _ _ _ _ R J) (fun h => absurd rfl h)
theorem lc_27 (hL : L ≤ 3072) (C0 : lw_At p s m meth c b L xs) (F : lw_F E1 E2 s) (J : lw_J s E1 E2 hc hm H locs) (R : zk_RR zk_lpe hc hm) (hl : lv_has ls 4 [(0, .ref b), (1, .ref (E1.2.2 0)), (2, .ref (E2.2.2 0)), (3, .int (nI j))]) (hj : j + 6 ≤ L)
    (kk : ∀ (hc hm : zk_H) (H : Heap) (locs : List Loc), zk_RR zk_lpe hc hm → lw_J s E1 E2 hc hm H locs → W p l e room_1 s m #[Value.ref b] below meth c H locs 600000 7302250 Q' (F0 m 1654 ls [])) : W p l e room_1 s m #[Value.ref b] below meth c H locs 600000 7302250 Q' (F0 m 1056 ls []) := by
  have hx := C0.1
  have hb := C0.2.1
  have hown := C0.2.2.2.2.1
  have hts := C0.2.2.2.2.2.1
  refine lv_aload_n hx hb dL_1056 rfl (lv_at hl 1 rfl) ?_
  refine lw_arg hL C0 J hl rfl rfl aL_1057 (by omega) ?_
  refine lw_arg hL C0 J hl rfl rfl aL_1062 (by omega) ?_
  refine lw_arg hL C0 J hl rfl rfl aL_1067 (by omega) ?_
  refine lw_arg hL C0 J hl rfl rfl aL_1072 (by omega) ?_
  refine lw_cCi (As := [.int (xs (j + 1)), .int (xs (j + 2)), .int (xs (j + 3)), .int (xs (j + 4))]) (rest := []) C0 F J hl.1 okX11_drawn ⟨by decide, by decide⟩ rfl mL_127 (e_drawn R) rfl rfl (Nat.le_of_ble_eq_true rfl) rfl dL_1077 (fun v hc1 H locs K J => ?_)
  refine lv_aload_n hx hb dL_1080 rfl (lv_at hl 2 rfl) ?_
  refine lw_arg hL C0 J hl rfl rfl aL_1081 (by omega) ?_
  refine lw_arg hL C0 J hl rfl rfl aL_1086 (by omega) ?_
  refine lw_arg hL C0 J hl rfl rfl aL_1091 (by omega) ?_
  refine lw_arg hL C0 J hl rfl rfl aL_1096 (by omega) ?_
  refine lw_cDi (As := [.int (xs (j + 1)), .int (xs (j + 2)), .int (xs (j + 3)), .int (xs (j + 4))]) (rest := [.int v]) C0 F J hl.1 okX12_drawn ⟨by decide, by decide⟩ rfl mL_131 K rfl rfl (Nat.le_of_ble_eq_true rfl) rfl dL_1101 (fun v2 hm1 H locs K J => ?_)
  obtain ⟨rfl, R⟩ := K
  exact lv_icmp_eq (tgt := 1654) hx hb dL_1104 (by decide) (fun _ => kk _ _ _ _ R J) (fun h => absurd rfl h)
theorem lc_28 (hL : L ≤ 3072) (C0 : lw_At p s m meth c b L xs) (F : lw_F E1 E2 s) (J : lw_J s E1 E2 hc hm H locs) (R : zk_RR zk_lpe hc hm) (hl : lv_has ls 4 [(0, .ref b), (1, .ref (E1.2.2 0)), (2, .ref (E2.2.2 0)), (3, .int (nI j))]) (hj : j + 6 ≤ L)
    (kk : ∀ (hc hm : zk_H) (H : Heap) (locs : List Loc), zk_RR zk_lpe hc hm → lw_J s E1 E2 hc hm H locs → W p l e room_1 s m #[Value.ref b] below meth c H locs 600000 7302250 Q' (F0 m 1654 ls [])) : W p l e room_1 s m #[Value.ref b] below meth c H locs 600000 7302250 Q' (F0 m 1109 ls []) := by
  have hx := C0.1
  have hb := C0.2.1
  have hown := C0.2.2.2.2.1
  have hts := C0.2.2.2.2.2.1
  refine lv_aload_n hx hb dL_1109 rfl (lv_at hl 1 rfl) ?_
  refine lw_arg hL C0 J hl rfl rfl aL_1110 (by omega) ?_
  refine lw_cCi (As := [.int (xs (j + 1))]) (rest := []) C0 F J hl.1 okX11_pass ⟨by decide, by decide⟩ rfl mL_132 (e_pass R) rfl rfl (Nat.le_of_ble_eq_true rfl) rfl dL_1115 (fun v hc1 H locs K J => ?_)
  refine lv_aload_n hx hb dL_1118 rfl (lv_at hl 2 rfl) ?_
  refine lw_arg hL C0 J hl rfl rfl aL_1119 (by omega) ?_
  refine lw_cDi (As := [.int (xs (j + 1))]) (rest := [.int v]) C0 F J hl.1 okX12_pass ⟨by decide, by decide⟩ rfl mL_135 K rfl rfl (Nat.le_of_ble_eq_true rfl) rfl dL_1124 (fun v2 hm1 H locs K J => ?_)
  obtain ⟨rfl, R⟩ := K
  exact lv_icmp_eq (tgt := 1654) hx hb dL_1127 (by decide) (fun _ => kk _ _ _ _ R J) (fun h => absurd rfl h)
theorem lc_29 (hL : L ≤ 3072) (C0 : lw_At p s m meth c b L xs) (F : lw_F E1 E2 s) (J : lw_J s E1 E2 hc hm H locs) (R : zk_RR zk_lpe hc hm) (hl : lv_has ls 4 [(0, .ref b), (1, .ref (E1.2.2 0)), (2, .ref (E2.2.2 0)), (3, .int (nI j))]) (hj : j + 6 ≤ L)
    (kk : ∀ (hc hm : zk_H) (H : Heap) (locs : List Loc), zk_RR zk_lpe hc hm → lw_J s E1 E2 hc hm H locs → W p l e room_1 s m #[Value.ref b] below meth c H locs 600000 7302250 Q' (F0 m 1654 ls [])) : W p l e room_1 s m #[Value.ref b] below meth c H locs 600000 7302250 Q' (F0 m 1132 ls []) := by
  have hx := C0.1
  have hb := C0.2.1
  have hown := C0.2.2.2.2.1
  have hts := C0.2.2.2.2.2.1
  refine lv_aload_n hx hb dL_1132 rfl (lv_at hl 1 rfl) ?_
  refine lw_arg hL C0 J hl rfl rfl aL_1133 (by omega) ?_
  refine lw_arg hL C0 J hl rfl rfl aL_1138 (by omega) ?_
  refine lw_cCi (As := [.int (xs (j + 1)), .int (xs (j + 2))]) (rest := []) C0 F J hl.1 okX11_send ⟨by decide, by decide⟩ rfl mL_136 (e_send R) rfl rfl (Nat.le_of_ble_eq_true rfl) rfl dL_1143 (fun v hc1 H locs K J => ?_)
  refine lv_aload_n hx hb dL_1146 rfl (lv_at hl 2 rfl) ?_
  refine lw_arg hL C0 J hl rfl rfl aL_1147 (by omega) ?_
  refine lw_arg hL C0 J hl rfl rfl aL_1152 (by omega) ?_
  refine lw_cDi (As := [.int (xs (j + 1)), .int (xs (j + 2))]) (rest := [.int v]) C0 F J hl.1 okX12_send ⟨by decide, by decide⟩ rfl mL_139 K rfl rfl (Nat.le_of_ble_eq_true rfl) rfl dL_1157 (fun v2 hm1 H locs K J => ?_)
  obtain ⟨rfl, R⟩ := K
  exact lv_icmp_eq (tgt := 1654) hx hb dL_1160 (by decide) (fun _ => kk _ _ _ _ R J) (fun h => absurd rfl h)
theorem lc_30 (hL : L ≤ 3072) (C0 : lw_At p s m meth c b L xs) (F : lw_F E1 E2 s) (J : lw_J s E1 E2 hc hm H locs) (R : zk_RR zk_lpe hc hm) (hl : lv_has ls 4 [(0, .ref b), (1, .ref (E1.2.2 0)), (2, .ref (E2.2.2 0)), (3, .int (nI j))]) (hj : j + 6 ≤ L)
    (kk : ∀ (hc hm : zk_H) (H : Heap) (locs : List Loc), zk_RR zk_lpe hc hm → lw_J s E1 E2 hc hm H locs → W p l e room_1 s m #[Value.ref b] below meth c H locs 600000 7302250 Q' (F0 m 1654 ls [])) : W p l e room_1 s m #[Value.ref b] below meth c H locs 600000 7302250 Q' (F0 m 1165 ls []) := by
  have hx := C0.1
  have hb := C0.2.1
  have hown := C0.2.2.2.2.1
  have hts := C0.2.2.2.2.2.1
  refine lv_aload_n hx hb dL_1165 rfl (lv_at hl 1 rfl) ?_
  refine lw_arg hL C0 J hl rfl rfl aL_1166 (by omega) ?_
  refine lw_cCi (As := [.int (xs (j + 1))]) (rest := []) C0 F J hl.1 okX11_thanked ⟨by decide, by decide⟩ rfl mL_140 (e_thanked R) rfl rfl (Nat.le_of_ble_eq_true rfl) rfl dL_1171 (fun v hc1 H locs K J => ?_)
  refine lv_aload_n hx hb dL_1174 rfl (lv_at hl 2 rfl) ?_
  refine lw_arg hL C0 J hl rfl rfl aL_1175 (by omega) ?_
  refine lw_cDi (As := [.int (xs (j + 1))]) (rest := [.int v]) C0 F J hl.1 okX12_thanked ⟨by decide, by decide⟩ rfl mL_143 K rfl rfl (Nat.le_of_ble_eq_true rfl) rfl dL_1180 (fun v2 hm1 H locs K J => ?_)
  obtain ⟨rfl, R⟩ := K
  exact lv_icmp_eq (tgt := 1654) hx hb dL_1183 (by decide) (fun _ => kk _ _ _ _ R J) (fun h => absurd rfl h)
theorem lc_31 (hL : L ≤ 3072) (C0 : lw_At p s m meth c b L xs) (F : lw_F E1 E2 s) (J : lw_J s E1 E2 hc hm H locs) (R : zk_RR zk_lpe hc hm) (hl : lv_has ls 4 [(0, .ref b), (1, .ref (E1.2.2 0)), (2, .ref (E2.2.2 0)), (3, .int (nI j))]) (hj : j + 6 ≤ L)
    (kk : ∀ (hc hm : zk_H) (H : Heap) (locs : List Loc), zk_RR zk_lpe hc hm → lw_J s E1 E2 hc hm H locs → W p l e room_1 s m #[Value.ref b] below meth c H locs 600000 7302250 Q' (F0 m 1654 ls [])) : W p l e room_1 s m #[Value.ref b] below meth c H locs 600000 7302250 Q' (F0 m 1188 ls []) := by
  have hx := C0.1
  have hb := C0.2.1
  have hown := C0.2.2.2.2.1
  have hts := C0.2.2.2.2.2.1
  refine lv_aload_n hx hb dL_1188 rfl (lv_at hl 1 rfl) ?_
  refine lw_arg hL C0 J hl rfl rfl aL_1189 (by omega) ?_
  refine lw_cCi (As := [.int (xs (j + 1))]) (rest := []) C0 F J hl.1 okX11_led ⟨by decide, by decide⟩ rfl mL_144 (e_led R) rfl rfl (Nat.le_of_ble_eq_true rfl) rfl dL_1194 (fun v hc1 H locs K J => ?_)
  refine lv_aload_n hx hb dL_1197 rfl (lv_at hl 2 rfl) ?_
  refine lw_arg hL C0 J hl rfl rfl aL_1198 (by omega) ?_
  refine lw_cDi (As := [.int (xs (j + 1))]) (rest := [.int v]) C0 F J hl.1 okX12_led ⟨by decide, by decide⟩ rfl mL_147 K rfl rfl (Nat.le_of_ble_eq_true rfl) rfl dL_1203 (fun v2 hm1 H locs K J => ?_)
  obtain ⟨rfl, R⟩ := K
  exact lv_icmp_eq (tgt := 1654) hx hb dL_1206 (by decide) (fun _ => kk _ _ _ _ R J) (fun h => absurd rfl h)
theorem lc_32 (hL : L ≤ 3072) (C0 : lw_At p s m meth c b L xs) (F : lw_F E1 E2 s) (J : lw_J s E1 E2 hc hm H locs) (R : zk_RR zk_lpe hc hm) (hl : lv_has ls 4 [(0, .ref b), (1, .ref (E1.2.2 0)), (2, .ref (E2.2.2 0)), (3, .int (nI j))]) (hj : j + 6 ≤ L)
    (kk : ∀ (hc hm : zk_H) (H : Heap) (locs : List Loc), zk_RR zk_lpe hc hm → lw_J s E1 E2 hc hm H locs → W p l e room_1 s m #[Value.ref b] below meth c H locs 600000 7302250 Q' (F0 m 1654 ls [])) : W p l e room_1 s m #[Value.ref b] below meth c H locs 600000 7302250 Q' (F0 m 1211 ls []) := by
  have hx := C0.1
  have hb := C0.2.1
  have hown := C0.2.2.2.2.1
  have hts := C0.2.2.2.2.2.1
  refine lv_aload_n hx hb dL_1211 rfl (lv_at hl 1 rfl) ?_
  refine lw_cCi (As := []) (rest := []) C0 F J hl.1 okX11_image ⟨by decide, by decide⟩ rfl mL_148 (e_image R) rfl rfl (Nat.le_of_ble_eq_true rfl) rfl dL_1212 (fun v hc1 H locs K J => ?_)
  refine lv_aload_n hx hb dL_1215 rfl (lv_at hl 2 rfl) ?_
  refine lw_cDi (As := []) (rest := [.int v]) C0 F J hl.1 okX12_image ⟨by decide, by decide⟩ rfl mL_151 K rfl rfl (Nat.le_of_ble_eq_true rfl) rfl dL_1216 (fun v2 hm1 H locs K J => ?_)
  obtain ⟨rfl, R⟩ := K
  exact lv_icmp_eq (tgt := 1654) hx hb dL_1219 (by decide) (fun _ => kk _ _ _ _ R J) (fun h => absurd rfl h)
theorem lc_33 (hL : L ≤ 3072) (C0 : lw_At p s m meth c b L xs) (F : lw_F E1 E2 s) (J : lw_J s E1 E2 hc hm H locs) (R : zk_RR zk_lpe hc hm) (hl : lv_has ls 4 [(0, .ref b), (1, .ref (E1.2.2 0)), (2, .ref (E2.2.2 0)), (3, .int (nI j))]) (hj : j + 6 ≤ L)
    (kk : ∀ (hc hm : zk_H) (H : Heap) (locs : List Loc), zk_RR zk_lpe hc hm → lw_J s E1 E2 hc hm H locs → W p l e room_1 s m #[Value.ref b] below meth c H locs 600000 7302250 Q' (F0 m 1654 ls [])) : W p l e room_1 s m #[Value.ref b] below meth c H locs 600000 7302250 Q' (F0 m 1224 ls []) := by
  have hx := C0.1
  have hb := C0.2.1
  have hown := C0.2.2.2.2.1
  have hts := C0.2.2.2.2.2.1
  refine lv_aload_n hx hb dL_1224 rfl (lv_at hl 1 rfl) ?_
  refine lw_cCi (As := []) (rest := []) C0 F J hl.1 okX11_back ⟨by decide, by decide⟩ rfl mL_152 (e_back R) rfl rfl (Nat.le_of_ble_eq_true rfl) rfl dL_1225 (fun v hc1 H locs K J => ?_)
  refine lv_aload_n hx hb dL_1228 rfl (lv_at hl 2 rfl) ?_
  refine lw_cDi (As := []) (rest := [.int v]) C0 F J hl.1 okX12_back ⟨by decide, by decide⟩ rfl mL_155 K rfl rfl (Nat.le_of_ble_eq_true rfl) rfl dL_1229 (fun v2 hm1 H locs K J => ?_)
  obtain ⟨rfl, R⟩ := K
  exact lv_icmp_eq (tgt := 1654) hx hb dL_1232 (by decide) (fun _ => kk _ _ _ _ R J) (fun h => absurd rfl h)
theorem lc_34 (hL : L ≤ 3072) (C0 : lw_At p s m meth c b L xs) (F : lw_F E1 E2 s) (J : lw_J s E1 E2 hc hm H locs) (R : zk_RR zk_lpe hc hm) (hl : lv_has ls 4 [(0, .ref b), (1, .ref (E1.2.2 0)), (2, .ref (E2.2.2 0)), (3, .int (nI j))]) (hj : j + 6 ≤ L)
    (kk : ∀ (hc hm : zk_H) (H : Heap) (locs : List Loc), zk_RR zk_lpe hc hm → lw_J s E1 E2 hc hm H locs → W p l e room_1 s m #[Value.ref b] below meth c H locs 600000 7302250 Q' (F0 m 1654 ls [])) : W p l e room_1 s m #[Value.ref b] below meth c H locs 600000 7302250 Q' (F0 m 1237 ls []) := by
  have hx := C0.1
  have hb := C0.2.1
  have hown := C0.2.2.2.2.1
  have hts := C0.2.2.2.2.2.1
  refine lv_aload_n hx hb dL_1237 rfl (lv_at hl 1 rfl) ?_
  refine lw_cCi (As := []) (rest := []) C0 F J hl.1 okX11_undo ⟨by decide, by decide⟩ rfl mL_156 (e_undo R) rfl rfl (Nat.le_of_ble_eq_true rfl) rfl dL_1238 (fun v hc1 H locs K J => ?_)
  refine lv_aload_n hx hb dL_1241 rfl (lv_at hl 2 rfl) ?_
  refine lw_cDi (As := []) (rest := [.int v]) C0 F J hl.1 okX12_undo ⟨by decide, by decide⟩ rfl mL_159 K rfl rfl (Nat.le_of_ble_eq_true rfl) rfl dL_1242 (fun v2 hm1 H locs K J => ?_)
  obtain ⟨rfl, R⟩ := K
  exact lv_icmp_eq (tgt := 1654) hx hb dL_1245 (by decide) (fun _ => kk _ _ _ _ R J) (fun h => absurd rfl h)
theorem lc_35 (hL : L ≤ 3072) (C0 : lw_At p s m meth c b L xs) (F : lw_F E1 E2 s) (J : lw_J s E1 E2 hc hm H locs) (R : zk_RR zk_lpe hc hm) (hl : lv_has ls 4 [(0, .ref b), (1, .ref (E1.2.2 0)), (2, .ref (E2.2.2 0)), (3, .int (nI j))]) (hj : j + 6 ≤ L)
    (kk : ∀ (hc hm : zk_H) (H : Heap) (locs : List Loc), zk_RR zk_lpe hc hm → lw_J s E1 E2 hc hm H locs → W p l e room_1 s m #[Value.ref b] below meth c H locs 600000 7302250 Q' (F0 m 1654 ls [])) : W p l e room_1 s m #[Value.ref b] below meth c H locs 600000 7302250 Q' (F0 m 1250 ls []) := by
  have hx := C0.1
  have hb := C0.2.1
  have hown := C0.2.2.2.2.1
  have hts := C0.2.2.2.2.2.1
  refine lv_aload_n hx hb dL_1250 rfl (lv_at hl 1 rfl) ?_
  refine lw_cCi (As := []) (rest := []) C0 F J hl.1 okX11_redo ⟨by decide, by decide⟩ rfl mL_160 (e_redo R) rfl rfl (Nat.le_of_ble_eq_true rfl) rfl dL_1251 (fun v hc1 H locs K J => ?_)
  refine lv_aload_n hx hb dL_1254 rfl (lv_at hl 2 rfl) ?_
  refine lw_cDi (As := []) (rest := [.int v]) C0 F J hl.1 okX12_redo ⟨by decide, by decide⟩ rfl mL_163 K rfl rfl (Nat.le_of_ble_eq_true rfl) rfl dL_1255 (fun v2 hm1 H locs K J => ?_)
  obtain ⟨rfl, R⟩ := K
  exact lv_icmp_eq (tgt := 1654) hx hb dL_1258 (by decide) (fun _ => kk _ _ _ _ R J) (fun h => absurd rfl h)
theorem lc_36 (hL : L ≤ 3072) (C0 : lw_At p s m meth c b L xs) (F : lw_F E1 E2 s) (J : lw_J s E1 E2 hc hm H locs) (R : zk_RR zk_lpe hc hm) (hl : lv_has ls 4 [(0, .ref b), (1, .ref (E1.2.2 0)), (2, .ref (E2.2.2 0)), (3, .int (nI j))]) (hj : j + 6 ≤ L)
    (kk : ∀ (hc hm : zk_H) (H : Heap) (locs : List Loc), zk_RR zk_lpe hc hm → lw_J s E1 E2 hc hm H locs → W p l e room_1 s m #[Value.ref b] below meth c H locs 600000 7302250 Q' (F0 m 1654 ls [])) : W p l e room_1 s m #[Value.ref b] below meth c H locs 600000 7302250 Q' (F0 m 1263 ls []) := by
  have hx := C0.1
  have hb := C0.2.1
  have hown := C0.2.2.2.2.1
  have hts := C0.2.2.2.2.2.1
  refine lv_aload_n hx hb dL_1263 rfl (lv_at hl 1 rfl) ?_
  refine lw_arg hL C0 J hl rfl rfl aL_1264 (by omega) ?_
  refine lw_cCi (As := [.int (xs (j + 1))]) (rest := []) C0 F J hl.1 okX11_body ⟨by decide, by decide⟩ rfl mL_164 (e_body R) rfl rfl (Nat.le_of_ble_eq_true rfl) rfl dL_1269 (fun v hc1 H locs K J => ?_)
  refine lv_aload_n hx hb dL_1272 rfl (lv_at hl 2 rfl) ?_
  refine lw_arg hL C0 J hl rfl rfl aL_1273 (by omega) ?_
  refine lw_cDi (As := [.int (xs (j + 1))]) (rest := [.int v]) C0 F J hl.1 okX12_body ⟨by decide, by decide⟩ rfl mL_167 K rfl rfl (Nat.le_of_ble_eq_true rfl) rfl dL_1278 (fun v2 hm1 H locs K J => ?_)
  obtain ⟨rfl, R⟩ := K
  exact lv_icmp_eq (tgt := 1654) hx hb dL_1281 (by decide) (fun _ => kk _ _ _ _ R J) (fun h => absurd rfl h)
theorem lc_37 (hL : L ≤ 3072) (C0 : lw_At p s m meth c b L xs) (F : lw_F E1 E2 s) (J : lw_J s E1 E2 hc hm H locs) (R : zk_RR zk_lpe hc hm) (hl : lv_has ls 4 [(0, .ref b), (1, .ref (E1.2.2 0)), (2, .ref (E2.2.2 0)), (3, .int (nI j))]) (hj : j + 6 ≤ L)
    (kk : ∀ (hc hm : zk_H) (H : Heap) (locs : List Loc), zk_RR zk_lpe hc hm → lw_J s E1 E2 hc hm H locs → W p l e room_1 s m #[Value.ref b] below meth c H locs 600000 7302250 Q' (F0 m 1654 ls [])) : W p l e room_1 s m #[Value.ref b] below meth c H locs 600000 7302250 Q' (F0 m 1286 ls []) := by
  have hx := C0.1
  have hb := C0.2.1
  have hown := C0.2.2.2.2.1
  have hts := C0.2.2.2.2.2.1
  refine lv_aload_n hx hb dL_1286 rfl (lv_at hl 1 rfl) ?_
  refine lw_arg hL C0 J hl rfl rfl aL_1287 (by omega) ?_
  refine lw_arg hL C0 J hl rfl rfl aL_1292 (by omega) ?_
  refine lw_arg hL C0 J hl rfl rfl aL_1297 (by omega) ?_
  refine lw_cCi (As := [.int (xs (j + 1)), .int (xs (j + 2)), .int (xs (j + 3))]) (rest := []) C0 F J hl.1 okX11_act ⟨by decide, by decide⟩ rfl mL_168 (e_act R) rfl rfl (Nat.le_of_ble_eq_true rfl) rfl dL_1302 (fun v hc1 H locs K J => ?_)
  refine lv_aload_n hx hb dL_1305 rfl (lv_at hl 2 rfl) ?_
  refine lw_arg hL C0 J hl rfl rfl aL_1306 (by omega) ?_
  refine lw_arg hL C0 J hl rfl rfl aL_1311 (by omega) ?_
  refine lw_arg hL C0 J hl rfl rfl aL_1316 (by omega) ?_
  refine lw_cDi (As := [.int (xs (j + 1)), .int (xs (j + 2)), .int (xs (j + 3))]) (rest := [.int v]) C0 F J hl.1 okX12_act ⟨by decide, by decide⟩ rfl mL_171 K rfl rfl (Nat.le_of_ble_eq_true rfl) rfl dL_1321 (fun v2 hm1 H locs K J => ?_)
  obtain ⟨rfl, R⟩ := K
  exact lv_icmp_eq (tgt := 1654) hx hb dL_1324 (by decide) (fun _ => kk _ _ _ _ R J) (fun h => absurd rfl h)
theorem lc_38 (hL : L ≤ 3072) (C0 : lw_At p s m meth c b L xs) (F : lw_F E1 E2 s) (J : lw_J s E1 E2 hc hm H locs) (R : zk_RR zk_lpe hc hm) (hl : lv_has ls 4 [(0, .ref b), (1, .ref (E1.2.2 0)), (2, .ref (E2.2.2 0)), (3, .int (nI j))]) (hj : j + 6 ≤ L)
    (kk : ∀ (hc hm : zk_H) (H : Heap) (locs : List Loc), zk_RR zk_lpe hc hm → lw_J s E1 E2 hc hm H locs → W p l e room_1 s m #[Value.ref b] below meth c H locs 600000 7302250 Q' (F0 m 1654 ls [])) : W p l e room_1 s m #[Value.ref b] below meth c H locs 600000 7302250 Q' (F0 m 1329 ls []) := by
  have hx := C0.1
  have hb := C0.2.1
  have hown := C0.2.2.2.2.1
  have hts := C0.2.2.2.2.2.1
  refine lv_aload_n hx hb dL_1329 rfl (lv_at hl 1 rfl) ?_
  refine lw_arg hL C0 J hl rfl rfl aL_1330 (by omega) ?_
  refine lw_cCi (As := [.int (xs (j + 1))]) (rest := []) C0 F J hl.1 okX11_trace ⟨by decide, by decide⟩ rfl mL_172 (e_trace R) rfl rfl (Nat.le_of_ble_eq_true rfl) rfl dL_1335 (fun v hc1 H locs K J => ?_)
  refine lv_aload_n hx hb dL_1338 rfl (lv_at hl 2 rfl) ?_
  refine lw_arg hL C0 J hl rfl rfl aL_1339 (by omega) ?_
  refine lw_cDi (As := [.int (xs (j + 1))]) (rest := [.int v]) C0 F J hl.1 okX12_trace ⟨by decide, by decide⟩ rfl mL_175 K rfl rfl (Nat.le_of_ble_eq_true rfl) rfl dL_1344 (fun v2 hm1 H locs K J => ?_)
  obtain ⟨rfl, R⟩ := K
  exact lv_icmp_eq (tgt := 1654) hx hb dL_1347 (by decide) (fun _ => kk _ _ _ _ R J) (fun h => absurd rfl h)
theorem lc_39 (hL : L ≤ 3072) (C0 : lw_At p s m meth c b L xs) (F : lw_F E1 E2 s) (J : lw_J s E1 E2 hc hm H locs) (R : zk_RR zk_lpe hc hm) (hl : lv_has ls 4 [(0, .ref b), (1, .ref (E1.2.2 0)), (2, .ref (E2.2.2 0)), (3, .int (nI j))]) (hj : j + 6 ≤ L)
    (kk : ∀ (hc hm : zk_H) (H : Heap) (locs : List Loc), zk_RR zk_lpe hc hm → lw_J s E1 E2 hc hm H locs → W p l e room_1 s m #[Value.ref b] below meth c H locs 600000 7302250 Q' (F0 m 1654 ls [])) : W p l e room_1 s m #[Value.ref b] below meth c H locs 600000 7302250 Q' (F0 m 1352 ls []) := by
  have hx := C0.1
  have hb := C0.2.1
  have hown := C0.2.2.2.2.1
  have hts := C0.2.2.2.2.2.1
  refine lv_aload_n hx hb dL_1352 rfl (lv_at hl 1 rfl) ?_
  refine lw_arg hL C0 J hl rfl rfl aL_1353 (by omega) ?_
  refine lw_arg hL C0 J hl rfl rfl aL_1358 (by omega) ?_
  refine lw_cCi (As := [.int (xs (j + 1)), .int (xs (j + 2))]) (rest := []) C0 F J hl.1 okX11_keep ⟨by decide, by decide⟩ rfl mL_176 (e_keep R) rfl rfl (Nat.le_of_ble_eq_true rfl) rfl dL_1363 (fun v hc1 H locs K J => ?_)
  refine lv_aload_n hx hb dL_1366 rfl (lv_at hl 2 rfl) ?_
  refine lw_arg hL C0 J hl rfl rfl aL_1367 (by omega) ?_
  refine lw_arg hL C0 J hl rfl rfl aL_1372 (by omega) ?_
  refine lw_cDi (As := [.int (xs (j + 1)), .int (xs (j + 2))]) (rest := [.int v]) C0 F J hl.1 okX12_keep ⟨by decide, by decide⟩ rfl mL_179 K rfl rfl (Nat.le_of_ble_eq_true rfl) rfl dL_1377 (fun v2 hm1 H locs K J => ?_)
  obtain ⟨rfl, R⟩ := K
  exact lv_icmp_eq (tgt := 1654) hx hb dL_1380 (by decide) (fun _ => kk _ _ _ _ R J) (fun h => absurd rfl h)
theorem lc_40 (hL : L ≤ 3072) (C0 : lw_At p s m meth c b L xs) (F : lw_F E1 E2 s) (J : lw_J s E1 E2 hc hm H locs) (R : zk_RR zk_lpe hc hm) (hl : lv_has ls 4 [(0, .ref b), (1, .ref (E1.2.2 0)), (2, .ref (E2.2.2 0)), (3, .int (nI j))]) (hj : j + 6 ≤ L)
    (kk : ∀ (hc hm : zk_H) (H : Heap) (locs : List Loc), zk_RR zk_lpe hc hm → lw_J s E1 E2 hc hm H locs → W p l e room_1 s m #[Value.ref b] below meth c H locs 600000 7302250 Q' (F0 m 1654 ls [])) : W p l e room_1 s m #[Value.ref b] below meth c H locs 600000 7302250 Q' (F0 m 1385 ls []) := by
  have hx := C0.1
  have hb := C0.2.1
  have hown := C0.2.2.2.2.1
  have hts := C0.2.2.2.2.2.1
  refine lv_aload_n hx hb dL_1385 rfl (lv_at hl 1 rfl) ?_
  refine lw_arg hL C0 J hl rfl rfl aL_1386 (by omega) ?_
  refine lw_arg hL C0 J hl rfl rfl aL_1391 (by omega) ?_
  refine lw_arg hL C0 J hl rfl rfl aL_1396 (by omega) ?_
  refine lw_cCi (As := [.int (xs (j + 1)), .int (xs (j + 2)), .int (xs (j + 3))]) (rest := []) C0 F J hl.1 okX11_row ⟨by decide, by decide⟩ rfl mL_180 (e_row R) rfl rfl (Nat.le_of_ble_eq_true rfl) rfl dL_1401 (fun v hc1 H locs K J => ?_)
  refine lv_aload_n hx hb dL_1404 rfl (lv_at hl 2 rfl) ?_
  refine lw_arg hL C0 J hl rfl rfl aL_1405 (by omega) ?_
  refine lw_arg hL C0 J hl rfl rfl aL_1410 (by omega) ?_
  refine lw_arg hL C0 J hl rfl rfl aL_1415 (by omega) ?_
  refine lw_cDi (As := [.int (xs (j + 1)), .int (xs (j + 2)), .int (xs (j + 3))]) (rest := [.int v]) C0 F J hl.1 okX12_row ⟨by decide, by decide⟩ rfl mL_183 K rfl rfl (Nat.le_of_ble_eq_true rfl) rfl dL_1420 (fun v2 hm1 H locs K J => ?_)
  obtain ⟨rfl, R⟩ := K
  exact lv_icmp_eq (tgt := 1654) hx hb dL_1423 (by decide) (fun _ => kk _ _ _ _ R J) (fun h => absurd rfl h)
theorem lc_41 (hL : L ≤ 3072) (C0 : lw_At p s m meth c b L xs) (F : lw_F E1 E2 s) (J : lw_J s E1 E2 hc hm H locs) (R : zk_RR zk_lpe hc hm) (hl : lv_has ls 4 [(0, .ref b), (1, .ref (E1.2.2 0)), (2, .ref (E2.2.2 0)), (3, .int (nI j))]) (hj : j + 6 ≤ L)
    (kk : ∀ (hc hm : zk_H) (H : Heap) (locs : List Loc), zk_RR zk_lpe hc hm → lw_J s E1 E2 hc hm H locs → W p l e room_1 s m #[Value.ref b] below meth c H locs 600000 7302250 Q' (F0 m 1654 ls [])) : W p l e room_1 s m #[Value.ref b] below meth c H locs 600000 7302250 Q' (F0 m 1428 ls []) := by
  have hx := C0.1
  have hb := C0.2.1
  have hown := C0.2.2.2.2.1
  have hts := C0.2.2.2.2.2.1
  refine lv_aload_n hx hb dL_1428 rfl (lv_at hl 1 rfl) ?_
  refine lw_arg hL C0 J hl rfl rfl aL_1429 (by omega) ?_
  refine lw_arg hL C0 J hl rfl rfl aL_1434 (by omega) ?_
  refine lw_arg hL C0 J hl rfl rfl aL_1439 (by omega) ?_
  refine lv_i2l hx hb dL_1444 rfl ?_
  refine lv_bipush (v := 32) hx hb dL_1445 (by decide) ?_
  refine lv_lshl hx hb dL_1447 rfl ?_
  refine lw_arg hL C0 J hl rfl rfl aL_1448 (by omega) ?_
  refine lv_i2l hx hb dL_1453 rfl ?_
  refine lv_ldc2 hx hb hown (hts _ kL_184) dL_1454 ?_
  refine lv_land hx hb dL_1457 ?_
  refine lv_lor hx hb dL_1458 ?_
  refine lv_topl (fun y ey => ?_)
  refine lw_cCi (As := [.int (xs (j + 1)), .int (xs (j + 2)), .long y]) (rest := []) C0 F J hl.1 okX11_put ⟨by decide, by decide⟩ rfl mL_186 (e_put R) rfl rfl (Nat.le_of_ble_eq_true rfl) rfl dL_1459 (fun v hc1 H locs K J => ?_)
  refine lv_aload_n hx hb dL_1462 rfl (lv_at hl 2 rfl) ?_
  refine lw_arg hL C0 J hl rfl rfl aL_1463 (by omega) ?_
  refine lw_arg hL C0 J hl rfl rfl aL_1468 (by omega) ?_
  refine lw_arg hL C0 J hl rfl rfl aL_1473 (by omega) ?_
  refine lv_i2l hx hb dL_1478 rfl ?_
  refine lv_bipush (v := 32) hx hb dL_1479 (by decide) ?_
  refine lv_lshl hx hb dL_1481 rfl ?_
  refine lw_arg hL C0 J hl rfl rfl aL_1482 (by omega) ?_
  refine lv_i2l hx hb dL_1487 rfl ?_
  refine lv_ldc2 hx hb hown (hts _ kL_184) dL_1488 ?_
  refine lv_land hx hb dL_1491 ?_
  refine lv_lor hx hb dL_1492 ?_
  refine lv_topl (fun y2 ey2 => ?_)
  obtain rfl : y2 = y := ey2.trans ey.symm
  refine lw_cDi (As := [.int (xs (j + 1)), .int (xs (j + 2)), .long y2]) (rest := [.int v]) C0 F J hl.1 okX12_put ⟨by decide, by decide⟩ rfl mL_190 K rfl rfl (Nat.le_of_ble_eq_true rfl) rfl dL_1493 (fun v2 hm1 H locs K J => ?_)
  obtain ⟨rfl, R⟩ := K
  exact lv_icmp_eq (tgt := 1654) hx hb dL_1496 (by decide) (fun _ => kk _ _ _ _ R J) (fun h => absurd rfl h)
theorem lc_42 (hL : L ≤ 3072) (C0 : lw_At p s m meth c b L xs) (F : lw_F E1 E2 s) (J : lw_J s E1 E2 hc hm H locs) (R : zk_RR zk_lpe hc hm) (hl : lv_has ls 4 [(0, .ref b), (1, .ref (E1.2.2 0)), (2, .ref (E2.2.2 0)), (3, .int (nI j))]) (hj : j + 6 ≤ L)
    (kk : ∀ (hc hm : zk_H) (H : Heap) (locs : List Loc), zk_RR zk_lpe hc hm → lw_J s E1 E2 hc hm H locs → W p l e room_1 s m #[Value.ref b] below meth c H locs 600000 7302250 Q' (F0 m 1654 ls [])) : W p l e room_1 s m #[Value.ref b] below meth c H locs 600000 7302250 Q' (F0 m 1501 ls []) := by
  have hx := C0.1
  have hb := C0.2.1
  have hown := C0.2.2.2.2.1
  have hts := C0.2.2.2.2.2.1
  refine lv_aload_n hx hb dL_1501 rfl (lv_at hl 1 rfl) ?_
  refine lw_arg hL C0 J hl rfl rfl aL_1502 (by omega) ?_
  refine lw_arg hL C0 J hl rfl rfl aL_1507 (by omega) ?_
  refine lw_cCl (As := [.int (xs (j + 1)), .int (xs (j + 2))]) (rest := []) C0 F J hl.1 okX11_element ⟨by decide, by decide⟩ rfl mL_191 (e_element R) rfl rfl (Nat.le_of_ble_eq_true rfl) rfl dL_1512 (fun v hc1 H locs K J => ?_)
  refine lv_aload_n hx hb dL_1515 rfl (lv_at hl 2 rfl) ?_
  refine lw_arg hL C0 J hl rfl rfl aL_1516 (by omega) ?_
  refine lw_arg hL C0 J hl rfl rfl aL_1521 (by omega) ?_
  refine lw_cDl (As := [.int (xs (j + 1)), .int (xs (j + 2))]) (rest := [.long v]) C0 F J hl.1 okX12_element ⟨by decide, by decide⟩ rfl mL_194 K rfl rfl (Nat.le_of_ble_eq_true rfl) rfl dL_1526 (fun v2 hm1 H locs K J => ?_)
  obtain ⟨rfl, R⟩ := K
  refine W.lcmp hx hb dL_1529 ?_
  exact lv_if_eq (tgt := 1654) hx hb dL_1530 (by decide) (fun _ => kk _ _ _ _ R J) (fun h => absurd (lw_cmp0 _) h)
theorem lc_43 (hL : L ≤ 3072) (C0 : lw_At p s m meth c b L xs) (F : lw_F E1 E2 s) (J : lw_J s E1 E2 hc hm H locs) (R : zk_RR zk_lpe hc hm) (hl : lv_has ls 4 [(0, .ref b), (1, .ref (E1.2.2 0)), (2, .ref (E2.2.2 0)), (3, .int (nI j))]) (hj : j + 6 ≤ L)
    (kk : ∀ (hc hm : zk_H) (H : Heap) (locs : List Loc), zk_RR zk_lpe hc hm → lw_J s E1 E2 hc hm H locs → W p l e room_1 s m #[Value.ref b] below meth c H locs 600000 7302250 Q' (F0 m 1654 ls [])) : W p l e room_1 s m #[Value.ref b] below meth c H locs 600000 7302250 Q' (F0 m 1535 ls []) := by
  have hx := C0.1
  have hb := C0.2.1
  have hown := C0.2.2.2.2.1
  have hts := C0.2.2.2.2.2.1
  refine lv_aload_n hx hb dL_1535 rfl (lv_at hl 1 rfl) ?_
  refine lw_arg hL C0 J hl rfl rfl aL_1536 (by omega) ?_
  refine lw_arg hL C0 J hl rfl rfl aL_1541 (by omega) ?_
  refine lw_arg hL C0 J hl rfl rfl aL_1546 (by omega) ?_
  refine lw_arg hL C0 J hl rfl rfl aL_1551 (by omega) ?_
  refine lw_arg hL C0 J hl rfl rfl aL_1556 (by omega) ?_
  refine lw_cCi (As := [.int (xs (j + 1)), .int (xs (j + 2)), .int (xs (j + 3)), .int (xs (j + 4)), .int (xs (j + 5))]) (rest := []) C0 F J hl.1 okX11_shift ⟨by decide, by decide⟩ rfl mL_195 (e_shift R) rfl rfl (Nat.le_of_ble_eq_true rfl) rfl dL_1561 (fun v hc1 H locs K J => ?_)
  refine lv_aload_n hx hb dL_1564 rfl (lv_at hl 2 rfl) ?_
  refine lw_arg hL C0 J hl rfl rfl aL_1565 (by omega) ?_
  refine lw_arg hL C0 J hl rfl rfl aL_1570 (by omega) ?_
  refine lw_arg hL C0 J hl rfl rfl aL_1575 (by omega) ?_
  refine lw_arg hL C0 J hl rfl rfl aL_1580 (by omega) ?_
  refine lw_arg hL C0 J hl rfl rfl aL_1585 (by omega) ?_
  refine lw_cDi (As := [.int (xs (j + 1)), .int (xs (j + 2)), .int (xs (j + 3)), .int (xs (j + 4)), .int (xs (j + 5))]) (rest := [.int v]) C0 F J hl.1 okX12_shift ⟨by decide, by decide⟩ rfl mL_199 K rfl rfl (Nat.le_of_ble_eq_true rfl) rfl dL_1590 (fun v2 hm1 H locs K J => ?_)
  obtain ⟨rfl, R⟩ := K
  exact lv_icmp_eq (tgt := 1654) hx hb dL_1593 (by decide) (fun _ => kk _ _ _ _ R J) (fun h => absurd rfl h)
theorem lc_44 (hL : L ≤ 3072) (C0 : lw_At p s m meth c b L xs) (F : lw_F E1 E2 s) (J : lw_J s E1 E2 hc hm H locs) (R : zk_RR zk_lpe hc hm) (hl : lv_has ls 4 [(0, .ref b), (1, .ref (E1.2.2 0)), (2, .ref (E2.2.2 0)), (3, .int (nI j))]) (hj : j + 6 ≤ L)
    (kk : ∀ (hc hm : zk_H) (H : Heap) (locs : List Loc), zk_RR zk_lpe hc hm → lw_J s E1 E2 hc hm H locs → W p l e room_1 s m #[Value.ref b] below meth c H locs 600000 7302250 Q' (F0 m 1654 ls [])) : W p l e room_1 s m #[Value.ref b] below meth c H locs 600000 7302250 Q' (F0 m 1598 ls []) := by
  have hx := C0.1
  have hb := C0.2.1
  have hown := C0.2.2.2.2.1
  have hts := C0.2.2.2.2.2.1
  refine lv_aload_n hx hb dL_1598 rfl (lv_at hl 1 rfl) ?_
  refine lw_arg hL C0 J hl rfl rfl aL_1599 (by omega) ?_
  refine lw_arg hL C0 J hl rfl rfl aL_1604 (by omega) ?_
  refine lw_cCi (As := [.int (xs (j + 1)), .int (xs (j + 2))]) (rest := []) C0 F J hl.1 okX11_taken ⟨by decide, by decide⟩ rfl mL_200 (e_taken R) rfl rfl (Nat.le_of_ble_eq_true rfl) rfl dL_1609 (fun v hc1 H locs K J => ?_)
  refine lv_aload_n hx hb dL_1612 rfl (lv_at hl 2 rfl) ?_
  refine lw_arg hL C0 J hl rfl rfl aL_1613 (by omega) ?_
  refine lw_arg hL C0 J hl rfl rfl aL_1618 (by omega) ?_
  refine lw_cDi (As := [.int (xs (j + 1)), .int (xs (j + 2))]) (rest := [.int v]) C0 F J hl.1 okX12_taken ⟨by decide, by decide⟩ rfl mL_203 K rfl rfl (Nat.le_of_ble_eq_true rfl) rfl dL_1623 (fun v2 hm1 H locs K J => ?_)
  obtain ⟨rfl, R⟩ := K
  exact lv_icmp_eq (tgt := 1654) hx hb dL_1626 (by decide) (fun _ => kk _ _ _ _ R J) (fun h => absurd rfl h)
theorem lc_45 (hL : L ≤ 3072) (C0 : lw_At p s m meth c b L xs) (F : lw_F E1 E2 s) (J : lw_J s E1 E2 hc hm H locs) (R : zk_RR zk_lpe hc hm) (hl : lv_has ls 4 [(0, .ref b), (1, .ref (E1.2.2 0)), (2, .ref (E2.2.2 0)), (3, .int (nI j))]) (hj : j + 6 ≤ L)
    (kk : ∀ (hc hm : zk_H) (H : Heap) (locs : List Loc), zk_RR zk_lpe hc hm → lw_J s E1 E2 hc hm H locs → W p l e room_1 s m #[Value.ref b] below meth c H locs 600000 7302250 Q' (F0 m 1654 ls [])) : W p l e room_1 s m #[Value.ref b] below meth c H locs 600000 7302250 Q' (F0 m 1631 ls []) := by
  have hx := C0.1
  have hb := C0.2.1
  have hown := C0.2.2.2.2.1
  have hts := C0.2.2.2.2.2.1
  refine lv_aload_n hx hb dL_1631 rfl (lv_at hl 1 rfl) ?_
  refine lw_arg hL C0 J hl rfl rfl aL_1632 (by omega) ?_
  refine lw_cCi (As := [.int (xs (j + 1))]) (rest := []) C0 F J hl.1 okX11_count ⟨by decide, by decide⟩ rfl mL_204 (e_count R) rfl rfl (Nat.le_of_ble_eq_true rfl) rfl dL_1637 (fun v hc1 H locs K J => ?_)
  refine lv_aload_n hx hb dL_1640 rfl (lv_at hl 2 rfl) ?_
  refine lw_arg hL C0 J hl rfl rfl aL_1641 (by omega) ?_
  refine lw_cDi (As := [.int (xs (j + 1))]) (rest := [.int v]) C0 F J hl.1 okX12_count ⟨by decide, by decide⟩ rfl mL_207 K rfl rfl (Nat.le_of_ble_eq_true rfl) rfl dL_1646 (fun v2 hm1 H locs K J => ?_)
  obtain ⟨rfl, R⟩ := K
  exact lv_icmp_eq (tgt := 1654) hx hb dL_1649 (by decide) (fun _ => kk _ _ _ _ R J) (fun h => absurd rfl h)
end LWD
