/-! BLOCKS of the JDK's own methods; how a contract follows from a run. Written by wip/whole/contracts.py -/
theorem fcJ6_bitCount_0f7a4 : zk_fc mJ6_bitCount_0f7a4 (zk_lkl lkJ6) (zk_at cdJ6_bitCount_0f7a4) := ⟨lkJ6_ok, by decide +kernel, cdJ6_bitCount_0f7a4_ok⟩
set_option maxRecDepth 100000 in
theorem bJ6_bitCount_0f7a4_0 {w : zk_Wd}  {k : zk_K} {Q : zk_Q} {h : zk_H} {x0 : Int32} (H : Q.1 ((((((((x0 - ((x0.toUInt32 >>> ((1 : Int32).toUInt32 &&& Int32.toUInt32 31)).toInt32 &&& (1431655765 : Int32))) &&& (858993459 : Int32)) + (((x0 - ((x0.toUInt32 >>> ((1 : Int32).toUInt32 &&& Int32.toUInt32 31)).toInt32 &&& (1431655765 : Int32))).toUInt32 >>> ((2 : Int32).toUInt32 &&& Int32.toUInt32 31)).toInt32 &&& (858993459 : Int32))) + ((((x0 - ((x0.toUInt32 >>> ((1 : Int32).toUInt32 &&& Int32.toUInt32 31)).toInt32 &&& (1431655765 : Int32))) &&& (858993459 : Int32)) + (((x0 - ((x0.toUInt32 >>> ((1 : Int32).toUInt32 &&& Int32.toUInt32 31)).toInt32 &&& (1431655765 : Int32))).toUInt32 >>> ((2 : Int32).toUInt32 &&& Int32.toUInt32 31)).toInt32 &&& (858993459 : Int32))).toUInt32 >>> ((4 : Int32).toUInt32 &&& Int32.toUInt32 31)).toInt32) &&& (252645135 : Int32)) + ((((((x0 - ((x0.toUInt32 >>> ((1 : Int32).toUInt32 &&& Int32.toUInt32 31)).toInt32 &&& (1431655765 : Int32))) &&& (858993459 : Int32)) + (((x0 - ((x0.toUInt32 >>> ((1 : Int32).toUInt32 &&& Int32.toUInt32 31)).toInt32 &&& (1431655765 : Int32))).toUInt32 >>> ((2 : Int32).toUInt32 &&& Int32.toUInt32 31)).toInt32 &&& (858993459 : Int32))) + ((((x0 - ((x0.toUInt32 >>> ((1 : Int32).toUInt32 &&& Int32.toUInt32 31)).toInt32 &&& (1431655765 : Int32))) &&& (858993459 : Int32)) + (((x0 - ((x0.toUInt32 >>> ((1 : Int32).toUInt32 &&& Int32.toUInt32 31)).toInt32 &&& (1431655765 : Int32))).toUInt32 >>> ((2 : Int32).toUInt32 &&& Int32.toUInt32 31)).toInt32 &&& (858993459 : Int32))).toUInt32 >>> ((4 : Int32).toUInt32 &&& Int32.toUInt32 31)).toInt32) &&& (252645135 : Int32)).toUInt32 >>> ((8 : Int32).toUInt32 &&& Int32.toUInt32 31)).toInt32) + (((((((x0 - ((x0.toUInt32 >>> ((1 : Int32).toUInt32 &&& Int32.toUInt32 31)).toInt32 &&& (1431655765 : Int32))) &&& (858993459 : Int32)) + (((x0 - ((x0.toUInt32 >>> ((1 : Int32).toUInt32 &&& Int32.toUInt32 31)).toInt32 &&& (1431655765 : Int32))).toUInt32 >>> ((2 : Int32).toUInt32 &&& Int32.toUInt32 31)).toInt32 &&& (858993459 : Int32))) + ((((x0 - ((x0.toUInt32 >>> ((1 : Int32).toUInt32 &&& Int32.toUInt32 31)).toInt32 &&& (1431655765 : Int32))) &&& (858993459 : Int32)) + (((x0 - ((x0.toUInt32 >>> ((1 : Int32).toUInt32 &&& Int32.toUInt32 31)).toInt32 &&& (1431655765 : Int32))).toUInt32 >>> ((2 : Int32).toUInt32 &&& Int32.toUInt32 31)).toInt32 &&& (858993459 : Int32))).toUInt32 >>> ((4 : Int32).toUInt32 &&& Int32.toUInt32 31)).toInt32) &&& (252645135 : Int32)) + ((((((x0 - ((x0.toUInt32 >>> ((1 : Int32).toUInt32 &&& Int32.toUInt32 31)).toInt32 &&& (1431655765 : Int32))) &&& (858993459 : Int32)) + (((x0 - ((x0.toUInt32 >>> ((1 : Int32).toUInt32 &&& Int32.toUInt32 31)).toInt32 &&& (1431655765 : Int32))).toUInt32 >>> ((2 : Int32).toUInt32 &&& Int32.toUInt32 31)).toInt32 &&& (858993459 : Int32))) + ((((x0 - ((x0.toUInt32 >>> ((1 : Int32).toUInt32 &&& Int32.toUInt32 31)).toInt32 &&& (1431655765 : Int32))) &&& (858993459 : Int32)) + (((x0 - ((x0.toUInt32 >>> ((1 : Int32).toUInt32 &&& Int32.toUInt32 31)).toInt32 &&& (1431655765 : Int32))).toUInt32 >>> ((2 : Int32).toUInt32 &&& Int32.toUInt32 31)).toInt32 &&& (858993459 : Int32))).toUInt32 >>> ((4 : Int32).toUInt32 &&& Int32.toUInt32 31)).toInt32) &&& (252645135 : Int32)).toUInt32 >>> ((8 : Int32).toUInt32 &&& Int32.toUInt32 31)).toInt32).toUInt32 >>> ((16 : Int32).toUInt32 &&& Int32.toUInt32 31)).toInt32) &&& (63 : Int32)) h) : zk_R w (zk_lkl lkJ6) zk_mt (zk_cxl []) (some .int) (zk_at cdJ6_bitCount_0f7a4) Q [] k 44 0 [some (.int x0)] [] h := H
theorem fcJ0_length_8abf5 : zk_fc mJ0_length_8abf5 (zk_lkl lkJ0) (zk_at cdJ0_length_8abf5) := ⟨lkJ0_ok, by decide +kernel, cdJ0_length_8abf5_ok⟩
set_option maxRecDepth 100000 in
theorem bJ0_length_8abf5_0 {pJ0_coder_7d493 : zk_pI} {k : zk_K} {Q : zk_Q} {h : zk_H}  (H : pJ0_coder_7d493 [.ref 2000] h (fun v2 h1 => Q.1 ((6 : Int32) >>> (v2 &&& 31)) h1)) : zk_R zk_C (zk_lkl lkJ0) zk_mt (zk_cxl [(266, zk_iP pJ0_coder_7d493)]) (some .int) (zk_at cdJ0_length_8abf5) Q [] k 9 0 [some (.ref 2000)] [] h := H
theorem fcJ0_indexOf_0f7a4 : zk_fc mJ0_indexOf_0f7a4 (zk_lkl lkJ0) (zk_at cdJ0_indexOf_0f7a4) := ⟨lkJ0_ok, by decide +kernel, cdJ0_indexOf_0f7a4_ok⟩
set_option maxRecDepth 100000 in
theorem bJ0_indexOf_0f7a4_0 {pJ0_indexOf_7cf53 : zk_pI} {k : zk_K} {Q : zk_Q} {h : zk_H} {x1 : Int32} (H : pJ0_indexOf_7cf53 [.ref 2000, .int x1, .int (0 : Int32)] h (fun v2 h1 => Q.1 v2 h1)) : zk_R zk_C (zk_lkl lkJ0) zk_mt (zk_cxl [(265, zk_iP pJ0_indexOf_7cf53)]) (some .int) (zk_at cdJ0_indexOf_0f7a4) Q [] k 7 0 [some (.ref 2000), some (.int x1)] [] h := H
theorem fcJ0_indexOf_7cf53 : zk_fc mJ0_indexOf_7cf53 (zk_lkl lkJ0) (zk_at cdJ0_indexOf_7cf53) := ⟨lkJ0_ok, by decide +kernel, cdJ0_indexOf_7cf53_ok⟩
set_option maxRecDepth 100000 in
theorem bJ0_indexOf_7cf53_0 {pJ0_length_8abf5 : zk_pI} {pJ0_isLatin1_aae02 : zk_pI} {pJ1_indexOf_4cfef : zk_pI} {k : zk_K} {Q : zk_Q} {h : zk_H} {x1 x2 : Int32} (H : pJ0_isLatin1_aae02 [.ref 2000] h (fun v2 h1 => ((v2 = 0 → pJ0_length_8abf5 [.ref 2000] h1 (fun v4 h3 => False)) ∧ (¬ v2 = 0 → pJ0_length_8abf5 [.ref 2000] h1 (fun v6 h5 => pJ1_indexOf_4cfef [.ref 1004, .int x1, .int x2, .int v6] h5 (fun v8 h7 => Q.1 v8 h7)))))) : zk_R zk_C (zk_lkl lkJ0) zk_mt (zk_cxl [(263, zk_iP pJ0_length_8abf5), (267, zk_iP pJ0_isLatin1_aae02), (269, zk_iP pJ1_indexOf_4cfef)]) (some .int) (zk_at cdJ0_indexOf_7cf53) Q [] k 14 0 [some (.ref 2000), some (.int x1), some (.int x2)] [] h := H
theorem fcJ0_coder_7d493 : zk_fc mJ0_coder_7d493 (zk_lkl lkJ0) (zk_at cdJ0_coder_7d493) := ⟨lkJ0_ok, by decide +kernel, cdJ0_coder_7d493_ok⟩
set_option maxRecDepth 100000 in
theorem bJ0_coder_7d493_0  {k : zk_K} {Q : zk_Q} {h : zk_H}  (H : (((1 : Int32) = 0 → ((1 : Int32).toInt8.toInt32 = (1 : Int32) ∧ Q.1 (1 : Int32) h)) ∧ (¬ (1 : Int32) = 0 → ((0 : Int32).toInt8.toInt32 = (0 : Int32) ∧ Q.1 (0 : Int32) h)))) : zk_R zk_C (zk_lkl lkJ0) zk_mt (zk_cxl []) (some .byte) (zk_at cdJ0_coder_7d493) Q [] k 8 0 [some (.ref 2000)] [] h := H
theorem fcJ0_isLatin1_aae02 : zk_fc mJ0_isLatin1_aae02 (zk_lkl lkJ0) (zk_at cdJ0_isLatin1_aae02) := ⟨lkJ0_ok, by decide +kernel, cdJ0_isLatin1_aae02_ok⟩
set_option maxRecDepth 100000 in
theorem bJ0_isLatin1_aae02_0  {k : zk_K} {Q : zk_Q} {h : zk_H}  (H : (((1 : Int32) = 0 → (((0 : Int32) = 0 ∨ (0 : Int32) = 1) ∧ Q.1 (0 : Int32) h)) ∧ (¬ (1 : Int32) = 0 → ((¬ (0 : Int32) = 0 → (((0 : Int32) = 0 ∨ (0 : Int32) = 1) ∧ Q.1 (0 : Int32) h)) ∧ ((0 : Int32) = 0 → (((1 : Int32) = 0 ∨ (1 : Int32) = 1) ∧ Q.1 (1 : Int32) h)))))) : zk_R zk_C (zk_lkl lkJ0) zk_mt (zk_cxl []) (some .boolean) (zk_at cdJ0_isLatin1_aae02) Q [] k 10 0 [some (.ref 2000)] [] h := H
theorem fcJ1_canEncode_9a6ad : zk_fc mJ1_canEncode_9a6ad (zk_lkl lkJ1) (zk_at cdJ1_canEncode_9a6ad) := ⟨lkJ1_ok, by decide +kernel, cdJ1_canEncode_9a6ad_ok⟩
set_option maxRecDepth 100000 in
theorem bJ1_canEncode_9a6ad_0  {k : zk_K} {Q : zk_Q} {h : zk_H} {x0 : Int32} (H : ((x0 < 0 → (((0 : Int32) = 0 ∨ (0 : Int32) = 1) ∧ Q.1 (0 : Int32) h)) ∧ (¬ x0 < 0 → (((255 : Int32) < x0 → (((0 : Int32) = 0 ∨ (0 : Int32) = 1) ∧ Q.1 (0 : Int32) h)) ∧ (¬ (255 : Int32) < x0 → (((1 : Int32) = 0 ∨ (1 : Int32) = 1) ∧ Q.1 (1 : Int32) h)))))) : zk_R zk_C (zk_lkl lkJ1) zk_mt (zk_cxl []) (some .boolean) (zk_at cdJ1_canEncode_9a6ad) Q [] k 10 0 [some (.int x0)] [] h := H
theorem fcJ1_indexOf_4cfef : zk_fc mJ1_indexOf_4cfef (zk_lkl lkJ1) (zk_at cdJ1_indexOf_4cfef) := ⟨lkJ1_ok, by decide +kernel, cdJ1_indexOf_4cfef_ok⟩
set_option maxRecDepth 100000 in
theorem bJ1_indexOf_4cfef_0 {pJ1_canEncode_9a6ad : zk_pI} {pJ1_indexOfChar_4cfef : zk_pI} {k : zk_K} {Q : zk_Q} {h : zk_H} {x1 x2 x3 : Int32} (H : pJ1_canEncode_9a6ad [.int x1] h (fun v2 h1 => ((¬ v2 = 0 → (((if x2 < (0 : Int32) then (0 : Int32) else x2) < (if (6 : Int32) < x3 then (6 : Int32) else x3) → pJ1_indexOfChar_4cfef [.ref 1004, .int x1, .int (if x2 < (0 : Int32) then (0 : Int32) else x2), .int (if (6 : Int32) < x3 then (6 : Int32) else x3)] h1 (fun v4 h3 => Q.1 v4 h3)) ∧ (¬ (if x2 < (0 : Int32) then (0 : Int32) else x2) < (if (6 : Int32) < x3 then (6 : Int32) else x3) → Q.1 (-1 : Int32) h1))) ∧ (v2 = 0 → Q.1 (-1 : Int32) h1)))) : zk_R zk_C (zk_lkl lkJ1) zk_mt (zk_cxl [(268, zk_iP pJ1_canEncode_9a6ad), (270, zk_iP pJ1_indexOfChar_4cfef)]) (some .int) (zk_at cdJ1_indexOf_4cfef) Q [] k 23 0 [some (.ref 1004), some (.int x1), some (.int x2), some (.int x3)] [] h := H
theorem fcJ1_indexOfChar_4cfef : zk_fc mJ1_indexOfChar_4cfef (zk_lkl lkJ1) (zk_at cdJ1_indexOfChar_4cfef) := ⟨lkJ1_ok, by decide +kernel, cdJ1_indexOfChar_4cfef_ok⟩
set_option maxRecDepth 100000 in
theorem bJ1_indexOfChar_4cfef_0  {k : zk_K} {Q : zk_Q} {h : zk_H} {x1 x2 x3 : Int32} (H : k 7 [some (.ref 1004), some (.int x1), some (.int x2), some (.int x3), some (.int x1.toInt8.toInt32), some (.int x2)] [] h) : zk_R zk_C (zk_lkl lkJ1) zk_mt (zk_cxl []) (some .int) (zk_at cdJ1_indexOfChar_4cfef) Q [7] k 7 0 [some (.ref 1004), some (.int x1), some (.int x2), some (.int x3), none, none] [] h := H
set_option maxRecDepth 100000 in
theorem bJ1_indexOfChar_4cfef_7  {k : zk_K} {Q : zk_Q} {h : zk_H} {x1 x2 x3 x4 x5 : Int32} (H : ((x3 ≤ x5 → Q.1 (-1 : Int32) h) ∧ (¬ x3 ≤ x5 → (vp_in x5 6 ∧ ((¬ (([108, 104, 115, 107, 109, 99] : List Int32).getD x5.toNatClampNeg 0) = x4 → k 7 [some (.ref 1004), some (.int x1), some (.int x2), some (.int x3), some (.int x4), some (.int (x5 + (1 : Int32)))] [] h) ∧ ((([108, 104, 115, 107, 109, 99] : List Int32).getD x5.toNatClampNeg 0) = x4 → Q.1 x5 h)))))) : zk_R zk_C (zk_lkl lkJ1) zk_mt (zk_cxl []) (some .int) (zk_at cdJ1_indexOfChar_4cfef) Q [7] k 12 7 [some (.ref 1004), some (.int x1), some (.int x2), some (.int x3), some (.int x4), some (.int x5)] [] h := H
theorem fcJ7_fill_d0a16 : zk_fc mJ7_fill_d0a16 (zk_lkl []) (zk_at cdJ7_fill_d0a16) := ⟨fun _ => trivial, by decide +kernel, cdJ7_fill_d0a16_ok⟩
set_option maxRecDepth 100000 in
theorem bJ7_fill_d0a16_0  {k : zk_K} {Q : zk_Q} {h : zk_H} {a0 : Nat} {x1 : Int64} (H : (∃ d2 n1, d2 < 2 ∧ zk_Cs[a0]? = some (d2, n1) ∧ k 6 [some (.retAddr a0), some (.long x1), none, some (.int (0 : Int32)), some (.int (Int32.ofNat n1))] [] h)) : zk_R zk_C (zk_lkl []) zk_mt (zk_cxl []) none (zk_at cdJ7_fill_d0a16) Q [6] k 7 0 [some (.retAddr a0), some (.long x1), none, none, none] [] h := H
set_option maxRecDepth 100000 in
theorem bJ7_fill_d0a16_6  {k : zk_K} {Q : zk_Q} {h : zk_H} {a0 : Nat} {x1 : Int64} {x3 x4 : Int32} (H : ((x4 ≤ x3 → Q.2.2.1 () h) ∧ (¬ x4 ≤ x3 → (∃ n1, zk_Cs[a0]? = some (1, n1) ∧ (vp_in x3 n1 ∧ k 6 [some (.retAddr a0), some (.long x1), none, some (.int (x3 + (1 : Int32))), some (.int x4)] [] (zk_sl h a0 x3.toNatClampNeg x1)))))) : zk_R zk_C (zk_lkl []) zk_mt (zk_cxl []) none (zk_at cdJ7_fill_d0a16) Q [6] k 11 6 [some (.retAddr a0), some (.long x1), none, some (.int x3), some (.int x4)] [] h := H
theorem fcJ7_fill_53178 : zk_fc mJ7_fill_53178 (zk_lkl []) (zk_at cdJ7_fill_53178) := ⟨fun _ => trivial, by decide +kernel, cdJ7_fill_53178_ok⟩
set_option maxRecDepth 100000 in
theorem bJ7_fill_53178_0  {k : zk_K} {Q : zk_Q} {h : zk_H} {a0 : Nat} {x1 : Int32} (H : (∃ d2 n1, d2 < 2 ∧ zk_Cs[a0]? = some (d2, n1) ∧ k 5 [some (.retAddr a0), some (.int x1), some (.int (0 : Int32)), some (.int (Int32.ofNat n1))] [] h)) : zk_R zk_C (zk_lkl []) zk_mt (zk_cxl []) none (zk_at cdJ7_fill_53178) Q [5] k 7 0 [some (.retAddr a0), some (.int x1), none, none] [] h := H
set_option maxRecDepth 100000 in
theorem bJ7_fill_53178_5  {k : zk_K} {Q : zk_Q} {h : zk_H} {a0 : Nat} {x1 x2 x3 : Int32} (H : ((x3 ≤ x2 → Q.2.2.1 () h) ∧ (¬ x3 ≤ x2 → (∃ n1, zk_Cs[a0]? = some (0, n1) ∧ (vp_in x2 n1 ∧ k 5 [some (.retAddr a0), some (.int x1), some (.int (x2 + (1 : Int32))), some (.int x3)] [] (zk_si h a0 x2.toNatClampNeg x1)))))) : zk_R zk_C (zk_lkl []) zk_mt (zk_cxl []) none (zk_at cdJ7_fill_53178) Q [5] k 11 5 [some (.retAddr a0), some (.int x1), some (.int x2), some (.int x3)] [] h := H
def zk_qi (f : Int32 → zk_H → Prop) : zk_Q := (f, fun _ _ => False, fun _ _ => False, fun _ _ => False)
def zk_ql (f : Int64 → zk_H → Prop) : zk_Q := (fun _ _ => False, f, fun _ _ => False, fun _ _ => False)
def zk_qv (f : zk_H → Prop) : zk_Q := (fun _ _ => False, fun _ _ => False, fun _ h => f h, fun _ _ => False)
def zk_qr (f : Value → zk_H → Prop) : zk_Q := (fun _ _ => False, fun _ _ => False, fun _ _ => False, f)
def zk_arg (as : List Value) (n : Nat) : Bool := as.all zk_nod && Nat.ble (zk_wds as) n
theorem zk_arg_s {as : List Value} {n : Nat} (h : zk_arg as n = true) : (∀ v ∈ as, zk_nod v = true) ∧ zk_wds as ≤ n := by
  unfold zk_arg at h
  rw [Bool.and_eq_true] at h
  exact ⟨fun v hv => List.all_eq_true.mp h.1 v hv, Nat.le_of_ble_eq_true h.2⟩
section ZKQ
variable {w : zk_Wd} {lk : Nat → zk_Ln} {mt : zk_Mt} {cx : Nat → zk_P} {rt : Option FieldType} {Q Q' : zk_Q} {cd : Nat → Option (Instr × Nat)}
theorem zk_S_Q (hQ : zk_le Q Q') {k : zk_K} {ins : Instr} {md pc : Nat} {L : zk_L} {st : List Value} {h : zk_H} (hyp : zk_S w lk mt cx rt Q k ins md pc L st h) : zk_S w lk mt cx rt Q' k ins md pc L st h := by
  cases ins
  case ireturn =>
    simp only [zk_S] at hyp ⊢
    split at hyp
    next v =>
      split at hyp
      · exact hQ.1 _ _ hyp
      · exact ⟨hyp.1, hQ.1 _ _ hyp.2⟩
      · exact ⟨hyp.1, hQ.1 _ _ hyp.2⟩
      · exact hyp.elim
    · exact hyp.elim
  case lreturn =>
    simp only [zk_S] at hyp ⊢
    split at hyp
    next v =>
      split at hyp
      · exact hQ.2.1 _ _ hyp
      · exact hyp.elim
    · exact hyp.elim
  case return_ =>
    simp only [zk_S] at hyp ⊢
    split at hyp
    next =>
      split at hyp
      · exact hQ.2.2.1 _ _ hyp
      · exact hyp.elim
    · exact hyp.elim
  case areturn =>
    simp only [zk_S] at hyp ⊢
    split at hyp
    next v =>
      split at hyp
      · exact zk_pr_m (fun _ _ => hQ.2.2.2 _ _) hyp
      · exact hyp.elim
    · exact hyp.elim
  all_goals exact hyp
theorem zk_X_Q (hQ : zk_le Q Q') {pc : Nat} {L : zk_L} {st : List Value} {h : zk_H} (hyp : zk_X w lk mt cx rt cd Q pc L st h) : zk_X w lk mt cx rt cd Q' pc L st h := fun Z hZ => hyp Z (fun pc L st h hs => hZ pc L st h (by
  unfold zk_Sp at hs ⊢
  split at hs
  · exact zk_S_Q hQ hs
  · exact hs.elim))
end ZKQ
theorem zk_le_i {K K' : Int32 → zk_H → Prop} (m : ∀ v x, K v x → K' v x) : zk_le (zk_qi K) (zk_qi K') := ⟨m, fun _ _ h => h, fun _ _ h => h, fun _ _ h => h⟩
theorem zk_le_l {K K' : Int64 → zk_H → Prop} (m : ∀ v x, K v x → K' v x) : zk_le (zk_ql K) (zk_ql K') := ⟨fun _ _ h => h, m, fun _ _ h => h, fun _ _ h => h⟩
theorem zk_le_v {K K' : zk_H → Prop} (m : ∀ x, K x → K' x) : zk_le (zk_qv K) (zk_qv K') := ⟨fun _ _ h => h, fun _ _ h => h, fun _ => m, fun _ _ h => h⟩
theorem zk_le_r {K K' : Value → zk_H → Prop} (m : ∀ v x, K v x → K' v x) : zk_le (zk_qr K) (zk_qr K') := ⟨fun _ _ h => h, fun _ _ h => h, fun _ _ h => h, m⟩
theorem zk_le_iQ (Q : zk_Q) : zk_le (zk_qi Q.1) Q := ⟨fun _ _ h => h, fun _ _ h => False.elim h, fun _ _ h => False.elim h, fun _ _ h => False.elim h⟩
theorem zk_le_lQ (Q : zk_Q) : zk_le (zk_ql Q.2.1) Q := ⟨fun _ _ h => False.elim h, fun _ _ h => h, fun _ _ h => False.elim h, fun _ _ h => False.elim h⟩
theorem zk_le_vQ (Q : zk_Q) : zk_le (zk_qv (Q.2.2.1 ())) Q := ⟨fun _ _ h => False.elim h, fun _ _ h => False.elim h, fun _ _ h => h, fun _ _ h => False.elim h⟩
theorem zk_le_rQ (Q : zk_Q) : zk_le (zk_qr Q.2.2.2) Q := ⟨fun _ _ h => False.elim h, fun _ _ h => False.elim h, fun _ _ h => False.elim h, fun _ _ h => h⟩
section ZKN
variable {w : zk_Wd} {d n : Nat} {l : List (Nat × zk_P)} {j0 : zk_M} {lk : Nat → zk_Ln} {cd : Nat → Option (Instr × Nat)}
theorem zk_mkI (hl : ∀ q ∈ l, zk_OK w d q.1 q.2) (hj : (zk_mt n).1 = j0) (hf : zk_fc j0 lk cd) : zk_OK w (d + 1) n (zk_iP fun as h K => zk_arg as j0.2.2.1 = true ∧ zk_X w lk zk_mt (zk_cxl l) j0.2.2.2 cd (zk_qi K) 0 (zk_L0 as j0.2.2.1) [] h) :=
  zk_mk hl hj hf (zk_mI_P fun _ _ _ _ m H => ⟨H.1, zk_X_Q (zk_le_i m) H.2⟩) fun _ _ Q H => ⟨zk_arg_s H.1, zk_X_Q (zk_le_iQ Q) H.2⟩
theorem zk_mkL (hl : ∀ q ∈ l, zk_OK w d q.1 q.2) (hj : (zk_mt n).1 = j0) (hf : zk_fc j0 lk cd) : zk_OK w (d + 1) n (zk_lP fun as h K => zk_arg as j0.2.2.1 = true ∧ zk_X w lk zk_mt (zk_cxl l) j0.2.2.2 cd (zk_ql K) 0 (zk_L0 as j0.2.2.1) [] h) :=
  zk_mk hl hj hf (zk_mL_P fun _ _ _ _ m H => ⟨H.1, zk_X_Q (zk_le_l m) H.2⟩) fun _ _ Q H => ⟨zk_arg_s H.1, zk_X_Q (zk_le_lQ Q) H.2⟩
theorem zk_mkV (hl : ∀ q ∈ l, zk_OK w d q.1 q.2) (hj : (zk_mt n).1 = j0) (hf : zk_fc j0 lk cd) : zk_OK w (d + 1) n (zk_vP fun as h K => zk_arg as j0.2.2.1 = true ∧ zk_X w lk zk_mt (zk_cxl l) j0.2.2.2 cd (zk_qv K) 0 (zk_L0 as j0.2.2.1) [] h) :=
  zk_mk hl hj hf (zk_mV_P fun _ _ _ _ m H => ⟨H.1, zk_X_Q (zk_le_v m) H.2⟩) fun _ _ Q H => ⟨zk_arg_s H.1, zk_X_Q (zk_le_vQ Q) H.2⟩
theorem zk_mkR (hl : ∀ q ∈ l, zk_OK w d q.1 q.2) (hj : (zk_mt n).1 = j0) (hf : zk_fc j0 lk cd) : zk_OK w (d + 1) n (zk_rP fun as h K => zk_arg as j0.2.2.1 = true ∧ zk_X w lk zk_mt (zk_cxl l) j0.2.2.2 cd (zk_qr K) 0 (zk_L0 as j0.2.2.1) [] h) :=
  zk_mk hl hj hf (zk_mR_P fun _ _ _ _ m H => ⟨H.1, zk_X_Q (zk_le_r m) H.2⟩) fun _ _ Q H => ⟨zk_arg_s H.1, zk_X_Q (zk_le_rQ Q) H.2⟩
end ZKN

