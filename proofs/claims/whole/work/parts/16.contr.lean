/-! EVERY METHOD'S CONTRACT IS ITS OWN RUN in the small machine, over its callees' contracts. Written by wip/whole/contracts.py -/
def pX0_isKind : zk_pI := fun as h K => zk_arg as 2 = true ∧ zk_X zk_C (zk_lkl lkX0) zk_mt (zk_cxl []) (some .boolean) (zk_at cdX0_isKind) (zk_qi K) 0 (zk_L0 as 2) [] h
theorem hX0_isKind : ∀ q ∈ ([] : List (Nat × zk_P)), zk_OK zk_C 0 q.1 q.2 := zk_nil
theorem okX0_isKind : zk_OK zk_C 1 0 (zk_iP pX0_isKind) := zk_mkI hX0_isKind rfl fcX0_isKind
def pX0_isBody : zk_pI := fun as h K => zk_arg as 2 = true ∧ zk_X zk_C (zk_lkl lkX0) zk_mt (zk_cxl []) (some .boolean) (zk_at cdX0_isBody) (zk_qi K) 0 (zk_L0 as 2) [] h
theorem hX0_isBody : ∀ q ∈ ([] : List (Nat × zk_P)), zk_OK zk_C 0 q.1 q.2 := zk_nil
theorem okX0_isBody : zk_OK zk_C 1 1 (zk_iP pX0_isBody) := zk_mkI hX0_isBody rfl fcX0_isBody
def pX0_add : zk_pI := fun as h K => zk_arg as 3 = true ∧ zk_X zk_C (zk_lkl lkX0) zk_mt (zk_cxl []) (some .int) (zk_at cdX0_add) (zk_qi K) 0 (zk_L0 as 3) [] h
theorem hX0_add : ∀ q ∈ ([] : List (Nat × zk_P)), zk_OK zk_C 0 q.1 q.2 := zk_nil
theorem okX0_add : zk_OK zk_C 1 2 (zk_iP pX0_add) := zk_mkI hX0_add rfl fcX0_add
def pX0_isUnder : zk_pI := fun as h K => zk_arg as 5 = true ∧ zk_X zk_C (zk_lkl lkX0) zk_mt (zk_cxl [(1, zk_iP pX0_isBody)]) (some .boolean) (zk_at cdX0_isUnder) (zk_qi K) 0 (zk_L0 as 5) [] h
theorem hX0_isUnder : ∀ q ∈ ([(1, zk_iP pX0_isBody)] : List (Nat × zk_P)), zk_OK zk_C 1 q.1 q.2 := zk_cons (okX0_isBody.up (by decide)) (zk_nil)
theorem okX0_isUnder : zk_OK zk_C 2 3 (zk_iP pX0_isUnder) := zk_mkI hX0_isUnder rfl fcX0_isUnder
def pX0_traced : zk_pI := fun as h K => zk_arg as 1 = true ∧ zk_X zk_C (zk_lkl lkX0) zk_mt (zk_cxl []) (some .int) (zk_at cdX0_traced) (zk_qi K) 0 (zk_L0 as 1) [] h
theorem hX0_traced : ∀ q ∈ ([] : List (Nat × zk_P)), zk_OK zk_C 0 q.1 q.2 := zk_nil
theorem okX0_traced : zk_OK zk_C 1 4 (zk_iP pX0_traced) := zk_mkI hX0_traced rfl fcX0_traced
def pX0_bodyFrom : zk_pI := fun as h K => zk_arg as 6 = true ∧ zk_X zk_C (zk_lkl lkX0) zk_mt (zk_cxl []) (some .int) (zk_at cdX0_bodyFrom) (zk_qi K) 0 (zk_L0 as 6) [] h
theorem hX0_bodyFrom : ∀ q ∈ ([] : List (Nat × zk_P)), zk_OK zk_C 0 q.1 q.2 := zk_nil
theorem okX0_bodyFrom : zk_OK zk_C 1 8 (zk_iP pX0_bodyFrom) := zk_mkI hX0_bodyFrom rfl fcX0_bodyFrom
def gX0_above (r : zk_pI) : zk_pI := fun as h K => zk_arg as 5 = true ∧ zk_X zk_C (zk_lkl lkX0) zk_mt (zk_cxl [(8, zk_iP pX0_bodyFrom), (9, zk_iP r)]) (some .int) (zk_at cdX0_above) (zk_qi K) 0 (zk_L0 as 5) [] h
def gX0_own (r : zk_pI) : zk_pI := fun as h K => zk_arg as 4 = true ∧ zk_X zk_C (zk_lkl lkX0) zk_mt (zk_cxl [(8, zk_iP pX0_bodyFrom), (9, zk_iP r)]) (some .int) (zk_at cdX0_own) (zk_qi K) 0 (zk_L0 as 4) [] h
def gX0_run (r : zk_pI) : zk_pI := fun as h K => zk_arg as 4 = true ∧ zk_X zk_C (zk_lkl lkX0) zk_mt (zk_cxl [(6, zk_iP (gX0_own r)), (7, zk_iP (gX0_above r))]) (some .int) (zk_at cdX0_run) (zk_qi K) 0 (zk_L0 as 4) [] h
def pX0_run : Nat → zk_pI
  | 0 => fun _ _ _ => False
  | n + 1 => gX0_run (pX0_run n)
def pX0_above (n : Nat) : zk_pI := gX0_above (pX0_run n)
def pX0_own (n : Nat) : zk_pI := gX0_own (pX0_run n)
theorem ghX0_above {r : zk_pI} {d : Nat} (hr : zk_OK zk_C (1 + d) 9 (zk_iP r)) : ∀ q ∈ ([(8, zk_iP pX0_bodyFrom), (9, zk_iP r)] : List (Nat × zk_P)), zk_OK zk_C (1 + d) q.1 q.2 := zk_cons (okX0_bodyFrom.up (by omega)) (zk_cons (hr.up (by omega)) (zk_nil))
theorem gokX0_above {r : zk_pI} {d : Nat} (hr : zk_OK zk_C (1 + d) 9 (zk_iP r)) : zk_OK zk_C (2 + d) 7 (zk_iP (gX0_above r)) := (show zk_OK zk_C (1 + d + 1) 7 (zk_iP (gX0_above r)) from zk_mkI (ghX0_above hr) rfl fcX0_above).up (by omega)
theorem ghX0_own {r : zk_pI} {d : Nat} (hr : zk_OK zk_C (1 + d) 9 (zk_iP r)) : ∀ q ∈ ([(8, zk_iP pX0_bodyFrom), (9, zk_iP r)] : List (Nat × zk_P)), zk_OK zk_C (2 + d) q.1 q.2 := zk_cons (okX0_bodyFrom.up (by omega)) (zk_cons (hr.up (by omega)) (zk_nil))
theorem gokX0_own {r : zk_pI} {d : Nat} (hr : zk_OK zk_C (1 + d) 9 (zk_iP r)) : zk_OK zk_C (3 + d) 6 (zk_iP (gX0_own r)) := (show zk_OK zk_C (2 + d + 1) 6 (zk_iP (gX0_own r)) from zk_mkI (ghX0_own hr) rfl fcX0_own).up (by omega)
theorem ghX0_run {r : zk_pI} {d : Nat} (hr : zk_OK zk_C (1 + d) 9 (zk_iP r)) : ∀ q ∈ ([(6, zk_iP (gX0_own r)), (7, zk_iP (gX0_above r))] : List (Nat × zk_P)), zk_OK zk_C (3 + d) q.1 q.2 := zk_cons ((gokX0_own hr).up (by omega)) (zk_cons ((gokX0_above hr).up (by omega)) (zk_nil))
theorem gokX0_run {r : zk_pI} {d : Nat} (hr : zk_OK zk_C (1 + d) 9 (zk_iP r)) : zk_OK zk_C (1 + (d + 3)) 9 (zk_iP (gX0_run r)) := (show zk_OK zk_C (3 + d + 1) 9 (zk_iP (gX0_run r)) from zk_mkI (ghX0_run hr) rfl fcX0_run).up (by omega)
theorem okX0_run : ∀ n, zk_OK zk_C (1 + 3 * n) 9 (zk_iP (pX0_run n))
  | 0 => ⟨zk_CT.none, fun _ _ _ _ _ h => h⟩
  | n + 1 => (gokX0_run (okX0_run n)).up (by omega)
theorem okX0_above (n : Nat) : zk_OK zk_C (2 + 3 * n) 7 (zk_iP (pX0_above n)) := (gokX0_above (okX0_run n)).up (by omega)
theorem okX0_own (n : Nat) : zk_OK zk_C (3 + 3 * n) 6 (zk_iP (pX0_own n)) := (gokX0_own (okX0_run n)).up (by omega)
def pX0_perform : zk_pI := fun as h K => zk_arg as 4 = true ∧ zk_X zk_C (zk_lkl lkX0) zk_mt (zk_cxl [(1, zk_iP pX0_isBody), (6, zk_iP (pX0_own 40))]) (some .int) (zk_at cdX0_perform) (zk_qi K) 0 (zk_L0 as 4) [] h
theorem hX0_perform : ∀ q ∈ ([(1, zk_iP pX0_isBody), (6, zk_iP (pX0_own 40))] : List (Nat × zk_P)), zk_OK zk_C 123 q.1 q.2 := zk_cons (okX0_isBody.up (by decide)) (zk_cons ((okX0_own 40).up (by decide)) (zk_nil))
theorem okX0_perform : zk_OK zk_C 124 5 (zk_iP pX0_perform) := zk_mkI hX0_perform rfl fcX0_perform
def pX1_dropOldest : zk_pV := fun as h K => zk_arg as 1 = true ∧ zk_X zk_C (zk_lkl lkX1) zk_mt (zk_cxl []) none (zk_at cdX1_dropOldest) (zk_qv K) 0 (zk_L0 as 1) [] h
theorem hX1_dropOldest : ∀ q ∈ ([] : List (Nat × zk_P)), zk_OK zk_C 0 q.1 q.2 := zk_nil
theorem okX1_dropOldest : zk_OK zk_C 1 13 (zk_vP pX1_dropOldest) := zk_mkV hX1_dropOldest rfl fcX1_dropOldest
def pX1_make : zk_pV := fun as h K => zk_arg as 4 = true ∧ zk_X zk_C (zk_lkl lkX1) zk_mt (zk_cxl [(13, zk_vP pX1_dropOldest)]) none (zk_at cdX1_make) (zk_qv K) 0 (zk_L0 as 4) [] h
theorem hX1_make : ∀ q ∈ ([(13, zk_vP pX1_dropOldest)] : List (Nat × zk_P)), zk_OK zk_C 1 q.1 q.2 := zk_cons (okX1_dropOldest.up (by decide)) (zk_nil)
theorem okX1_make : zk_OK zk_C 2 10 (zk_vP pX1_make) := zk_mkV hX1_make rfl fcX1_make
def pX1_takeBack : zk_pI := fun as h K => zk_arg as 1 = true ∧ zk_X zk_C (zk_lkl lkX1) zk_mt (zk_cxl []) (some .int) (zk_at cdX1_takeBack) (zk_qi K) 0 (zk_L0 as 1) [] h
theorem hX1_takeBack : ∀ q ∈ ([] : List (Nat × zk_P)), zk_OK zk_C 0 q.1 q.2 := zk_nil
theorem okX1_takeBack : zk_OK zk_C 1 11 (zk_iP pX1_takeBack) := zk_mkI hX1_takeBack rfl fcX1_takeBack
def pX1_makeAgain : zk_pI := fun as h K => zk_arg as 1 = true ∧ zk_X zk_C (zk_lkl lkX1) zk_mt (zk_cxl []) (some .int) (zk_at cdX1_makeAgain) (zk_qi K) 0 (zk_L0 as 1) [] h
theorem hX1_makeAgain : ∀ q ∈ ([] : List (Nat × zk_P)), zk_OK zk_C 0 q.1 q.2 := zk_nil
theorem okX1_makeAgain : zk_OK zk_C 1 12 (zk_iP pX1_makeAgain) := zk_mkI hX1_makeAgain rfl fcX1_makeAgain
def pX2_letMinutesPass : zk_pI := fun as h K => zk_arg as 2 = true ∧ zk_X zk_C (zk_lkl lkX2) zk_mt (zk_cxl []) (some .int) (zk_at cdX2_letMinutesPass) (zk_qi K) 0 (zk_L0 as 2) [] h
theorem hX2_letMinutesPass : ∀ q ∈ ([] : List (Nat × zk_P)), zk_OK zk_C 0 q.1 q.2 := zk_nil
theorem okX2_letMinutesPass : zk_OK zk_C 1 14 (zk_iP pX2_letMinutesPass) := zk_mkI hX2_letMinutesPass rfl fcX2_letMinutesPass
def pX4_layCard : zk_pV := fun as h K => zk_arg as 5 = true ∧ zk_X zk_C (zk_lkl lkX4) zk_mt (zk_cxl []) none (zk_at cdX4_layCard) (zk_qv K) 0 (zk_L0 as 5) [] h
theorem hX4_layCard : ∀ q ∈ ([] : List (Nat × zk_P)), zk_OK zk_C 0 q.1 q.2 := zk_nil
theorem okX4_layCard : zk_OK zk_C 1 36 (zk_vP pX4_layCard) := zk_mkV hX4_layCard rfl fcX4_layCard
def pX4_addCard : zk_pI := fun as h K => zk_arg as 5 = true ∧ zk_X zk_C (zk_lkl lkX4) zk_mt (zk_cxl [(36, zk_vP pX4_layCard)]) (some .int) (zk_at cdX4_addCard) (zk_qi K) 0 (zk_L0 as 5) [] h
theorem hX4_addCard : ∀ q ∈ ([(36, zk_vP pX4_layCard)] : List (Nat × zk_P)), zk_OK zk_C 1 q.1 q.2 := zk_cons (okX4_layCard.up (by decide)) (zk_nil)
theorem okX4_addCard : zk_OK zk_C 2 35 (zk_iP pX4_addCard) := zk_mkI hX4_addCard rfl fcX4_addCard
def pX2_sendCard : zk_pI := fun as h K => zk_arg as 5 = true ∧ zk_X zk_C (zk_lkl lkX2) zk_mt (zk_cxl [(35, zk_iP pX4_addCard)]) (some .int) (zk_at cdX2_sendCard) (zk_qi K) 0 (zk_L0 as 5) [] h
theorem hX2_sendCard : ∀ q ∈ ([(35, zk_iP pX4_addCard)] : List (Nat × zk_P)), zk_OK zk_C 2 q.1 q.2 := zk_cons (okX4_addCard.up (by decide)) (zk_nil)
theorem okX2_sendCard : zk_OK zk_C 3 15 (zk_iP pX2_sendCard) := zk_mkI hX2_sendCard rfl fcX2_sendCard
def pX2_mayBeThanked : zk_pI := fun as h K => zk_arg as 2 = true ∧ zk_X zk_C (zk_lkl lkX2) zk_mt (zk_cxl []) (some .boolean) (zk_at cdX2_mayBeThanked) (zk_qi K) 0 (zk_L0 as 2) [] h
theorem hX2_mayBeThanked : ∀ q ∈ ([] : List (Nat × zk_P)), zk_OK zk_C 0 q.1 q.2 := zk_nil
theorem okX2_mayBeThanked : zk_OK zk_C 1 16 (zk_iP pX2_mayBeThanked) := zk_mkI hX2_mayBeThanked rfl fcX2_mayBeThanked
def pX2_thankOne : zk_pI := fun as h K => zk_arg as 3 = true ∧ zk_X zk_C (zk_lkl lkX2) zk_mt (zk_cxl []) (some .int) (zk_at cdX2_thankOne) (zk_qi K) 0 (zk_L0 as 3) [] h
theorem hX2_thankOne : ∀ q ∈ ([] : List (Nat × zk_P)), zk_OK zk_C 0 q.1 q.2 := zk_nil
theorem okX2_thankOne : zk_OK zk_C 1 17 (zk_iP pX2_thankOne) := zk_mkI hX2_thankOne rfl fcX2_thankOne
def pX2_keepImage : zk_pI := fun as h K => zk_arg as 1 = true ∧ zk_X zk_C (zk_lkl lkX2) zk_mt (zk_cxl []) (some .int) (zk_at cdX2_keepImage) (zk_qi K) 0 (zk_L0 as 1) [] h
theorem hX2_keepImage : ∀ q ∈ ([] : List (Nat × zk_P)), zk_OK zk_C 0 q.1 q.2 := zk_nil
theorem okX2_keepImage : zk_OK zk_C 1 18 (zk_iP pX2_keepImage) := zk_mkI hX2_keepImage rfl fcX2_keepImage
def pX2_layImageBack : zk_pI := fun as h K => zk_arg as 1 = true ∧ zk_X zk_C (zk_lkl lkX2) zk_mt (zk_cxl []) (some .int) (zk_at cdX2_layImageBack) (zk_qi K) 0 (zk_L0 as 1) [] h
theorem hX2_layImageBack : ∀ q ∈ ([] : List (Nat × zk_P)), zk_OK zk_C 0 q.1 q.2 := zk_nil
theorem okX2_layImageBack : zk_OK zk_C 1 19 (zk_iP pX2_layImageBack) := zk_mkI hX2_layImageBack rfl fcX2_layImageBack
def pX3_adopt : zk_pV := fun as h K => zk_arg as 3 = true ∧ zk_X zk_C (zk_lkl lkX3) zk_mt (zk_cxl []) none (zk_at cdX3_adopt) (zk_qv K) 0 (zk_L0 as 3) [] h
theorem hX3_adopt : ∀ q ∈ ([] : List (Nat × zk_P)), zk_OK zk_C 0 q.1 q.2 := zk_nil
theorem okX3_adopt : zk_OK zk_C 1 20 (zk_vP pX3_adopt) := zk_mkV hX3_adopt rfl fcX3_adopt
def pX3_isTold : zk_pI := fun as h K => zk_arg as 1 = true ∧ zk_X zk_C (zk_lkl lkX3) zk_mt (zk_cxl []) (some .boolean) (zk_at cdX3_isTold) (zk_qi K) 0 (zk_L0 as 1) [] h
theorem hX3_isTold : ∀ q ∈ ([] : List (Nat × zk_P)), zk_OK zk_C 0 q.1 q.2 := zk_nil
theorem okX3_isTold : zk_OK zk_C 1 21 (zk_iP pX3_isTold) := zk_mkI hX3_isTold rfl fcX3_isTold
def pX3_operandsOf : zk_pI := fun as h K => zk_arg as 2 = true ∧ zk_X zk_C (zk_lkl lkX3) zk_mt (zk_cxl []) (some .int) (zk_at cdX3_operandsOf) (zk_qi K) 0 (zk_L0 as 2) [] h
theorem hX3_operandsOf : ∀ q ∈ ([] : List (Nat × zk_P)), zk_OK zk_C 0 q.1 q.2 := zk_nil
theorem okX3_operandsOf : zk_OK zk_C 1 23 (zk_iP pX3_operandsOf) := zk_mkI hX3_operandsOf rfl fcX3_operandsOf
def pX3_worked : zk_pI := fun as h K => zk_arg as 4 = true ∧ zk_X zk_C (zk_lkl lkX3) zk_mt (zk_cxl []) (some .int) (zk_at cdX3_worked) (zk_qi K) 0 (zk_L0 as 4) [] h
theorem hX3_worked : ∀ q ∈ ([] : List (Nat × zk_P)), zk_OK zk_C 0 q.1 q.2 := zk_nil
theorem okX3_worked : zk_OK zk_C 1 24 (zk_iP pX3_worked) := zk_mkI hX3_worked rfl fcX3_worked
def pX3_valueFor : zk_pI := fun as h K => zk_arg as 7 = true ∧ zk_X zk_C (zk_lkl lkX3) zk_mt (zk_cxl [(23, zk_iP pX3_operandsOf), (24, zk_iP pX3_worked)]) (some .int) (zk_at cdX3_valueFor) (zk_qi K) 0 (zk_L0 as 7) [] h
theorem hX3_valueFor : ∀ q ∈ ([(23, zk_iP pX3_operandsOf), (24, zk_iP pX3_worked)] : List (Nat × zk_P)), zk_OK zk_C 1 q.1 q.2 := zk_cons (okX3_operandsOf.up (by decide)) (zk_cons (okX3_worked.up (by decide)) (zk_nil))
theorem okX3_valueFor : zk_OK zk_C 2 22 (zk_iP pX3_valueFor) := zk_mkI hX3_valueFor rfl fcX3_valueFor
def pX4_isPerson : zk_pI := fun as h K => zk_arg as 2 = true ∧ zk_X zk_C (zk_lkl lkX4) zk_mt (zk_cxl []) (some .boolean) (zk_at cdX4_isPerson) (zk_qi K) 0 (zk_L0 as 2) [] h
theorem hX4_isPerson : ∀ q ∈ ([] : List (Nat × zk_P)), zk_OK zk_C 0 q.1 q.2 := zk_nil
theorem okX4_isPerson : zk_OK zk_C 1 25 (zk_iP pX4_isPerson) := zk_mkI hX4_isPerson rfl fcX4_isPerson
def pX4_isCard : zk_pI := fun as h K => zk_arg as 2 = true ∧ zk_X zk_C (zk_lkl lkX4) zk_mt (zk_cxl []) (some .boolean) (zk_at cdX4_isCard) (zk_qi K) 0 (zk_L0 as 2) [] h
theorem hX4_isCard : ∀ q ∈ ([] : List (Nat × zk_P)), zk_OK zk_C 0 q.1 q.2 := zk_nil
theorem okX4_isCard : zk_OK zk_C 1 26 (zk_iP pX4_isCard) := zk_mkI hX4_isCard rfl fcX4_isCard
def pX4_isSecret : zk_pI := fun as h K => zk_arg as 2 = true ∧ zk_X zk_C (zk_lkl lkX4) zk_mt (zk_cxl []) (some .boolean) (zk_at cdX4_isSecret) (zk_qi K) 0 (zk_L0 as 2) [] h
theorem hX4_isSecret : ∀ q ∈ ([] : List (Nat × zk_P)), zk_OK zk_C 0 q.1 q.2 := zk_nil
theorem okX4_isSecret : zk_OK zk_C 1 27 (zk_iP pX4_isSecret) := zk_mkI hX4_isSecret rfl fcX4_isSecret
def pX4_isSet : zk_pI := fun as h K => zk_arg as 2 = true ∧ zk_X zk_C (zk_lkl lkX4) zk_mt (zk_cxl []) (some .boolean) (zk_at cdX4_isSet) (zk_qi K) 0 (zk_L0 as 2) [] h
theorem hX4_isSet : ∀ q ∈ ([] : List (Nat × zk_P)), zk_OK zk_C 0 q.1 q.2 := zk_nil
theorem okX4_isSet : zk_OK zk_C 1 28 (zk_iP pX4_isSet) := zk_mkI hX4_isSet rfl fcX4_isSet
def pX4_isCardAndPerson : zk_pI := fun as h K => zk_arg as 2 = true ∧ zk_X zk_C (zk_lkl lkX4) zk_mt (zk_cxl [(25, zk_iP pX4_isPerson), (26, zk_iP pX4_isCard)]) (some .boolean) (zk_at cdX4_isCardAndPerson) (zk_qi K) 0 (zk_L0 as 2) [] h
theorem hX4_isCardAndPerson : ∀ q ∈ ([(25, zk_iP pX4_isPerson), (26, zk_iP pX4_isCard)] : List (Nat × zk_P)), zk_OK zk_C 1 q.1 q.2 := zk_cons (okX4_isPerson.up (by decide)) (zk_cons (okX4_isCard.up (by decide)) (zk_nil))
theorem okX4_isCardAndPerson : zk_OK zk_C 2 29 (zk_iP pX4_isCardAndPerson) := zk_mkI hX4_isCardAndPerson rfl fcX4_isCardAndPerson
def pX4_isTwoPeople : zk_pI := fun as h K => zk_arg as 2 = true ∧ zk_X zk_C (zk_lkl lkX4) zk_mt (zk_cxl [(25, zk_iP pX4_isPerson)]) (some .boolean) (zk_at cdX4_isTwoPeople) (zk_qi K) 0 (zk_L0 as 2) [] h
theorem hX4_isTwoPeople : ∀ q ∈ ([(25, zk_iP pX4_isPerson)] : List (Nat × zk_P)), zk_OK zk_C 1 q.1 q.2 := zk_cons (okX4_isPerson.up (by decide)) (zk_nil)
theorem okX4_isTwoPeople : zk_OK zk_C 2 30 (zk_iP pX4_isTwoPeople) := zk_mkI hX4_isTwoPeople rfl fcX4_isTwoPeople
def pX4_isWay : zk_pI := fun as h K => zk_arg as 2 = true ∧ zk_X zk_C (zk_lkl lkX4) zk_mt (zk_cxl []) (some .boolean) (zk_at cdX4_isWay) (zk_qi K) 0 (zk_L0 as 2) [] h
theorem hX4_isWay : ∀ q ∈ ([] : List (Nat × zk_P)), zk_OK zk_C 0 q.1 q.2 := zk_nil
theorem okX4_isWay : zk_OK zk_C 1 31 (zk_iP pX4_isWay) := zk_mkI hX4_isWay rfl fcX4_isWay
def pX4_has : zk_pI := fun as h K => zk_arg as 3 = true ∧ zk_X zk_C (zk_lkl lkX4) zk_mt (zk_cxl [(25, zk_iP pX4_isPerson), (26, zk_iP pX4_isCard)]) (some .boolean) (zk_at cdX4_has) (zk_qi K) 0 (zk_L0 as 3) [] h
theorem hX4_has : ∀ q ∈ ([(25, zk_iP pX4_isPerson), (26, zk_iP pX4_isCard)] : List (Nat × zk_P)), zk_OK zk_C 1 q.1 q.2 := zk_cons (okX4_isPerson.up (by decide)) (zk_cons (okX4_isCard.up (by decide)) (zk_nil))
theorem okX4_has : zk_OK zk_C 2 32 (zk_iP pX4_has) := zk_mkI hX4_has rfl fcX4_has
def pX4_fits : zk_pI := fun as h K => zk_arg as 3 = true ∧ zk_X zk_C (zk_lkl lkX4) zk_mt (zk_cxl []) (some .boolean) (zk_at cdX4_fits) (zk_qi K) 0 (zk_L0 as 3) [] h
theorem hX4_fits : ∀ q ∈ ([] : List (Nat × zk_P)), zk_OK zk_C 0 q.1 q.2 := zk_nil
theorem okX4_fits : zk_OK zk_C 1 33 (zk_iP pX4_fits) := zk_mkI hX4_fits rfl fcX4_fits
def pX4_addPerson : zk_pI := fun as h K => zk_arg as 5 = true ∧ zk_X zk_C (zk_lkl lkX4) zk_mt (zk_cxl []) (some .int) (zk_at cdX4_addPerson) (zk_qi K) 0 (zk_L0 as 5) [] h
theorem hX4_addPerson : ∀ q ∈ ([] : List (Nat × zk_P)), zk_OK zk_C 0 q.1 q.2 := zk_nil
theorem okX4_addPerson : zk_OK zk_C 1 34 (zk_iP pX4_addPerson) := zk_mkI hX4_addPerson rfl fcX4_addPerson
def pX4_likes : zk_pI := fun as h K => zk_arg as 3 = true ∧ zk_X zk_C (zk_lkl lkX4) zk_mt (zk_cxl []) (some .boolean) (zk_at cdX4_likes) (zk_qi K) 0 (zk_L0 as 3) [] h
theorem hX4_likes : ∀ q ∈ ([] : List (Nat × zk_P)), zk_OK zk_C 0 q.1 q.2 := zk_nil
theorem okX4_likes : zk_OK zk_C 1 37 (zk_iP pX4_likes) := zk_mkI hX4_likes rfl fcX4_likes
def pX4_knows : zk_pI := fun as h K => zk_arg as 3 = true ∧ zk_X zk_C (zk_lkl lkX4) zk_mt (zk_cxl []) (some .boolean) (zk_at cdX4_knows) (zk_qi K) 0 (zk_L0 as 3) [] h
theorem hX4_knows : ∀ q ∈ ([] : List (Nat × zk_P)), zk_OK zk_C 0 q.1 q.2 := zk_nil
theorem okX4_knows : zk_OK zk_C 1 38 (zk_iP pX4_knows) := zk_mkI hX4_knows rfl fcX4_knows
def pX4_isIn : zk_pI := fun as h K => zk_arg as 3 = true ∧ zk_X zk_C (zk_lkl lkX4) zk_mt (zk_cxl []) (some .boolean) (zk_at cdX4_isIn) (zk_qi K) 0 (zk_L0 as 3) [] h
theorem hX4_isIn : ∀ q ∈ ([] : List (Nat × zk_P)), zk_OK zk_C 0 q.1 q.2 := zk_nil
theorem okX4_isIn : zk_OK zk_C 1 39 (zk_iP pX4_isIn) := zk_mkI hX4_isIn rfl fcX4_isIn
def pX4_canWriteSo : zk_pI := fun as h K => zk_arg as 5 = true ∧ zk_X zk_C (zk_lkl lkX4) zk_mt (zk_cxl [(38, zk_iP pX4_knows), (39, zk_iP pX4_isIn)]) (some .boolean) (zk_at cdX4_canWriteSo) (zk_qi K) 0 (zk_L0 as 5) [] h
theorem hX4_canWriteSo : ∀ q ∈ ([(38, zk_iP pX4_knows), (39, zk_iP pX4_isIn)] : List (Nat × zk_P)), zk_OK zk_C 1 q.1 q.2 := zk_cons (okX4_knows.up (by decide)) (zk_cons (okX4_isIn.up (by decide)) (zk_nil))
theorem okX4_canWriteSo : zk_OK zk_C 2 40 (zk_iP pX4_canWriteSo) := zk_mkI hX4_canWriteSo rfl fcX4_canWriteSo
def pX4_everybody : zk_pI := fun as h K => zk_arg as 1 = true ∧ zk_X zk_C (zk_lkl lkX4) zk_mt (zk_cxl []) (some .int) (zk_at cdX4_everybody) (zk_qi K) 0 (zk_L0 as 1) [] h
theorem hX4_everybody : ∀ q ∈ ([] : List (Nat × zk_P)), zk_OK zk_C 0 q.1 q.2 := zk_nil
theorem okX4_everybody : zk_OK zk_C 1 43 (zk_iP pX4_everybody) := zk_mkI hX4_everybody rfl fcX4_everybody
def pX4_whoIsIn : zk_pI := fun as h K => zk_arg as 4 = true ∧ zk_X zk_C (zk_lkl lkX4) zk_mt (zk_cxl [(39, zk_iP pX4_isIn)]) (some .int) (zk_at cdX4_whoIsIn) (zk_qi K) 0 (zk_L0 as 4) [] h
theorem hX4_whoIsIn : ∀ q ∈ ([(39, zk_iP pX4_isIn)] : List (Nat × zk_P)), zk_OK zk_C 1 q.1 q.2 := zk_cons (okX4_isIn.up (by decide)) (zk_nil)
theorem okX4_whoIsIn : zk_OK zk_C 2 44 (zk_iP pX4_whoIsIn) := zk_mkI hX4_whoIsIn rfl fcX4_whoIsIn
def pX4_whoKnows : zk_pI := fun as h K => zk_arg as 4 = true ∧ zk_X zk_C (zk_lkl lkX4) zk_mt (zk_cxl [(38, zk_iP pX4_knows)]) (some .int) (zk_at cdX4_whoKnows) (zk_qi K) 0 (zk_L0 as 4) [] h
theorem hX4_whoKnows : ∀ q ∈ ([(38, zk_iP pX4_knows)] : List (Nat × zk_P)), zk_OK zk_C 1 q.1 q.2 := zk_cons (okX4_knows.up (by decide)) (zk_nil)
theorem okX4_whoKnows : zk_OK zk_C 2 45 (zk_iP pX4_whoKnows) := zk_mkI hX4_whoKnows rfl fcX4_whoKnows
def pX4_whoCouldWithSecret : zk_pI := fun as h K => zk_arg as 4 = true ∧ zk_X zk_C (zk_lkl lkX4) zk_mt (zk_cxl [(43, zk_iP pX4_everybody), (44, zk_iP pX4_whoIsIn), (45, zk_iP pX4_whoKnows)]) (some .int) (zk_at cdX4_whoCouldWithSecret) (zk_qi K) 0 (zk_L0 as 4) [] h
theorem hX4_whoCouldWithSecret : ∀ q ∈ ([(43, zk_iP pX4_everybody), (44, zk_iP pX4_whoIsIn), (45, zk_iP pX4_whoKnows)] : List (Nat × zk_P)), zk_OK zk_C 2 q.1 q.2 := zk_cons (okX4_everybody.up (by decide)) (zk_cons (okX4_whoIsIn.up (by decide)) (zk_cons (okX4_whoKnows.up (by decide)) (zk_nil)))
theorem okX4_whoCouldWithSecret : zk_OK zk_C 3 42 (zk_iP pX4_whoCouldWithSecret) := zk_mkI hX4_whoCouldWithSecret rfl fcX4_whoCouldWithSecret
def pX4_whoCould : zk_pI := fun as h K => zk_arg as 2 = true ∧ zk_X zk_C (zk_lkl lkX4) zk_mt (zk_cxl [(42, zk_iP pX4_whoCouldWithSecret)]) (some .int) (zk_at cdX4_whoCould) (zk_qi K) 0 (zk_L0 as 2) [] h
theorem hX4_whoCould : ∀ q ∈ ([(42, zk_iP pX4_whoCouldWithSecret)] : List (Nat × zk_P)), zk_OK zk_C 3 q.1 q.2 := zk_cons (okX4_whoCouldWithSecret.up (by decide)) (zk_nil)
theorem okX4_whoCould : zk_OK zk_C 4 41 (zk_iP pX4_whoCould) := zk_mkI hX4_whoCould rfl fcX4_whoCould
def pX4_toldOn : zk_pI := fun as h K => zk_arg as 4 = true ∧ zk_X zk_C (zk_lkl lkX4) zk_mt (zk_cxl [(43, zk_iP pX4_everybody)]) (some .int) (zk_at cdX4_toldOn) (zk_qi K) 0 (zk_L0 as 4) [] h
theorem hX4_toldOn : ∀ q ∈ ([(43, zk_iP pX4_everybody)] : List (Nat × zk_P)), zk_OK zk_C 1 q.1 q.2 := zk_cons (okX4_everybody.up (by decide)) (zk_nil)
theorem okX4_toldOn : zk_OK zk_C 2 48 (zk_iP pX4_toldOn) := zk_mkI hX4_toldOn rfl fcX4_toldOn
def pX4_whoKnowsAfter : zk_pI := fun as h K => zk_arg as 5 = true ∧ zk_X zk_C (zk_lkl lkX4) zk_mt (zk_cxl [(45, zk_iP pX4_whoKnows), (48, zk_iP pX4_toldOn)]) (some .int) (zk_at cdX4_whoKnowsAfter) (zk_qi K) 0 (zk_L0 as 5) [] h
theorem hX4_whoKnowsAfter : ∀ q ∈ ([(45, zk_iP pX4_whoKnows), (48, zk_iP pX4_toldOn)] : List (Nat × zk_P)), zk_OK zk_C 2 q.1 q.2 := zk_cons (okX4_whoKnows.up (by decide)) (zk_cons (okX4_toldOn.up (by decide)) (zk_nil))
theorem okX4_whoKnowsAfter : zk_OK zk_C 3 46 (zk_iP pX4_whoKnowsAfter) := zk_mkI hX4_whoKnowsAfter rfl fcX4_whoKnowsAfter
def pX4_eveningOfHearing : zk_pI := fun as h K => zk_arg as 5 = true ∧ zk_X zk_C (zk_lkl lkX4) zk_mt (zk_cxl [(45, zk_iP pX4_whoKnows), (48, zk_iP pX4_toldOn)]) (some .int) (zk_at cdX4_eveningOfHearing) (zk_qi K) 0 (zk_L0 as 5) [] h
theorem hX4_eveningOfHearing : ∀ q ∈ ([(45, zk_iP pX4_whoKnows), (48, zk_iP pX4_toldOn)] : List (Nat × zk_P)), zk_OK zk_C 2 q.1 q.2 := zk_cons (okX4_whoKnows.up (by decide)) (zk_cons (okX4_toldOn.up (by decide)) (zk_nil))
theorem okX4_eveningOfHearing : zk_OK zk_C 3 47 (zk_iP pX4_eveningOfHearing) := zk_mkI hX4_eveningOfHearing rfl fcX4_eveningOfHearing
def pX5_takeLetter : zk_pI := fun as h K => zk_arg as 2 = true ∧ zk_X zk_C (zk_lkl lkX5) zk_mt (zk_cxl []) (some .int) (zk_at cdX5_takeLetter) (zk_qi K) 0 (zk_L0 as 2) [] h
theorem hX5_takeLetter : ∀ q ∈ ([] : List (Nat × zk_P)), zk_OK zk_C 0 q.1 q.2 := zk_nil
theorem okX5_takeLetter : zk_OK zk_C 1 49 (zk_iP pX5_takeLetter) := zk_mkI hX5_takeLetter rfl fcX5_takeLetter
def pX5_begin : zk_pV := fun as h K => zk_arg as 1 = true ∧ zk_X zk_C (zk_lkl lkX5) zk_mt (zk_cxl []) none (zk_at cdX5_begin) (zk_qv K) 0 (zk_L0 as 1) [] h
theorem hX5_begin : ∀ q ∈ ([] : List (Nat × zk_P)), zk_OK zk_C 0 q.1 q.2 := zk_nil
theorem okX5_begin : zk_OK zk_C 1 51 (zk_vP pX5_begin) := zk_mkV hX5_begin rfl fcX5_begin
def pX5_emit : zk_pV := fun as h K => zk_arg as 2 = true ∧ zk_X zk_C (zk_lkl lkX5) zk_mt (zk_cxl []) none (zk_at cdX5_emit) (zk_qv K) 0 (zk_L0 as 2) [] h
theorem hX5_emit : ∀ q ∈ ([] : List (Nat × zk_P)), zk_OK zk_C 0 q.1 q.2 := zk_nil
theorem okX5_emit : zk_OK zk_C 1 63 (zk_vP pX5_emit) := zk_mkV hX5_emit rfl fcX5_emit
def pX5_endOperand : zk_pV := fun as h K => zk_arg as 1 = true ∧ zk_X zk_C (zk_lkl lkX5) zk_mt (zk_cxl [(63, zk_vP pX5_emit)]) none (zk_at cdX5_endOperand) (zk_qv K) 0 (zk_L0 as 1) [] h
theorem hX5_endOperand : ∀ q ∈ ([(63, zk_vP pX5_emit)] : List (Nat × zk_P)), zk_OK zk_C 1 q.1 q.2 := zk_cons (okX5_emit.up (by decide)) (zk_nil)
theorem okX5_endOperand : zk_OK zk_C 2 59 (zk_vP pX5_endOperand) := zk_mkV hX5_endOperand rfl fcX5_endOperand
def pX5_beginsNumber : zk_pI := fun as h K => zk_arg as 2 = true ∧ zk_X zk_C (zk_lkl lkX5) zk_mt (zk_cxl [(59, zk_vP pX5_endOperand), (63, zk_vP pX5_emit)]) (some .boolean) (zk_at cdX5_beginsNumber) (zk_qi K) 0 (zk_L0 as 2) [] h
theorem hX5_beginsNumber : ∀ q ∈ ([(59, zk_vP pX5_endOperand), (63, zk_vP pX5_emit)] : List (Nat × zk_P)), zk_OK zk_C 2 q.1 q.2 := zk_cons (okX5_endOperand.up (by decide)) (zk_cons (okX5_emit.up (by decide)) (zk_nil))
theorem okX5_beginsNumber : zk_OK zk_C 3 53 (zk_iP pX5_beginsNumber) := zk_mkI hX5_beginsNumber rfl fcX5_beginsNumber
def pX5_await : zk_pV := fun as h K => zk_arg as 2 = true ∧ zk_X zk_C (zk_lkl lkX5) zk_mt (zk_cxl []) none (zk_at cdX5_await) (zk_qv K) 0 (zk_L0 as 2) [] h
theorem hX5_await : ∀ q ∈ ([] : List (Nat × zk_P)), zk_OK zk_C 0 q.1 q.2 := zk_nil
theorem okX5_await : zk_OK zk_C 1 62 (zk_vP pX5_await) := zk_mkV hX5_await rfl fcX5_await
def pJ0_coder_7d493 : zk_pI := fun as h K => zk_arg as 1 = true ∧ zk_X zk_C (zk_lkl lkJ0) zk_mt (zk_cxl []) (some .byte) (zk_at cdJ0_coder_7d493) (zk_qi K) 0 (zk_L0 as 1) [] h
theorem hJ0_coder_7d493 : ∀ q ∈ ([] : List (Nat × zk_P)), zk_OK zk_C 0 q.1 q.2 := zk_nil
theorem okJ0_coder_7d493 : zk_OK zk_C 1 266 (zk_iP pJ0_coder_7d493) := zk_mkI hJ0_coder_7d493 rfl fcJ0_coder_7d493
def pJ0_length_8abf5 : zk_pI := fun as h K => zk_arg as 1 = true ∧ zk_X zk_C (zk_lkl lkJ0) zk_mt (zk_cxl [(266, zk_iP pJ0_coder_7d493)]) (some .int) (zk_at cdJ0_length_8abf5) (zk_qi K) 0 (zk_L0 as 1) [] h
theorem hJ0_length_8abf5 : ∀ q ∈ ([(266, zk_iP pJ0_coder_7d493)] : List (Nat × zk_P)), zk_OK zk_C 1 q.1 q.2 := zk_cons (okJ0_coder_7d493.up (by decide)) (zk_nil)
theorem okJ0_length_8abf5 : zk_OK zk_C 2 263 (zk_iP pJ0_length_8abf5) := zk_mkI hJ0_length_8abf5 rfl fcJ0_length_8abf5
def pJ0_isLatin1_aae02 : zk_pI := fun as h K => zk_arg as 1 = true ∧ zk_X zk_C (zk_lkl lkJ0) zk_mt (zk_cxl []) (some .boolean) (zk_at cdJ0_isLatin1_aae02) (zk_qi K) 0 (zk_L0 as 1) [] h
theorem hJ0_isLatin1_aae02 : ∀ q ∈ ([] : List (Nat × zk_P)), zk_OK zk_C 0 q.1 q.2 := zk_nil
theorem okJ0_isLatin1_aae02 : zk_OK zk_C 1 267 (zk_iP pJ0_isLatin1_aae02) := zk_mkI hJ0_isLatin1_aae02 rfl fcJ0_isLatin1_aae02
def pJ1_canEncode_9a6ad : zk_pI := fun as h K => zk_arg as 1 = true ∧ zk_X zk_C (zk_lkl lkJ1) zk_mt (zk_cxl []) (some .boolean) (zk_at cdJ1_canEncode_9a6ad) (zk_qi K) 0 (zk_L0 as 1) [] h
theorem hJ1_canEncode_9a6ad : ∀ q ∈ ([] : List (Nat × zk_P)), zk_OK zk_C 0 q.1 q.2 := zk_nil
theorem okJ1_canEncode_9a6ad : zk_OK zk_C 1 268 (zk_iP pJ1_canEncode_9a6ad) := zk_mkI hJ1_canEncode_9a6ad rfl fcJ1_canEncode_9a6ad
def pJ1_indexOfChar_4cfef : zk_pI := fun as h K => zk_arg as 6 = true ∧ zk_X zk_C (zk_lkl lkJ1) zk_mt (zk_cxl []) (some .int) (zk_at cdJ1_indexOfChar_4cfef) (zk_qi K) 0 (zk_L0 as 6) [] h
theorem hJ1_indexOfChar_4cfef : ∀ q ∈ ([] : List (Nat × zk_P)), zk_OK zk_C 0 q.1 q.2 := zk_nil
theorem okJ1_indexOfChar_4cfef : zk_OK zk_C 1 270 (zk_iP pJ1_indexOfChar_4cfef) := zk_mkI hJ1_indexOfChar_4cfef rfl fcJ1_indexOfChar_4cfef
def pJ1_indexOf_4cfef : zk_pI := fun as h K => zk_arg as 4 = true ∧ zk_X zk_C (zk_lkl lkJ1) zk_mt (zk_cxl [(268, zk_iP pJ1_canEncode_9a6ad), (270, zk_iP pJ1_indexOfChar_4cfef)]) (some .int) (zk_at cdJ1_indexOf_4cfef) (zk_qi K) 0 (zk_L0 as 4) [] h
theorem hJ1_indexOf_4cfef : ∀ q ∈ ([(268, zk_iP pJ1_canEncode_9a6ad), (270, zk_iP pJ1_indexOfChar_4cfef)] : List (Nat × zk_P)), zk_OK zk_C 1 q.1 q.2 := zk_cons (okJ1_canEncode_9a6ad.up (by decide)) (zk_cons (okJ1_indexOfChar_4cfef.up (by decide)) (zk_nil))
theorem okJ1_indexOf_4cfef : zk_OK zk_C 2 269 (zk_iP pJ1_indexOf_4cfef) := zk_mkI hJ1_indexOf_4cfef rfl fcJ1_indexOf_4cfef
def pJ0_indexOf_7cf53 : zk_pI := fun as h K => zk_arg as 3 = true ∧ zk_X zk_C (zk_lkl lkJ0) zk_mt (zk_cxl [(263, zk_iP pJ0_length_8abf5), (267, zk_iP pJ0_isLatin1_aae02), (269, zk_iP pJ1_indexOf_4cfef)]) (some .int) (zk_at cdJ0_indexOf_7cf53) (zk_qi K) 0 (zk_L0 as 3) [] h
theorem hJ0_indexOf_7cf53 : ∀ q ∈ ([(263, zk_iP pJ0_length_8abf5), (267, zk_iP pJ0_isLatin1_aae02), (269, zk_iP pJ1_indexOf_4cfef)] : List (Nat × zk_P)), zk_OK zk_C 2 q.1 q.2 := zk_cons (okJ0_length_8abf5.up (by decide)) (zk_cons (okJ0_isLatin1_aae02.up (by decide)) (zk_cons (okJ1_indexOf_4cfef.up (by decide)) (zk_nil)))
theorem okJ0_indexOf_7cf53 : zk_OK zk_C 3 265 (zk_iP pJ0_indexOf_7cf53) := zk_mkI hJ0_indexOf_7cf53 rfl fcJ0_indexOf_7cf53
def pJ0_indexOf_0f7a4 : zk_pI := fun as h K => zk_arg as 2 = true ∧ zk_X zk_C (zk_lkl lkJ0) zk_mt (zk_cxl [(265, zk_iP pJ0_indexOf_7cf53)]) (some .int) (zk_at cdJ0_indexOf_0f7a4) (zk_qi K) 0 (zk_L0 as 2) [] h
theorem hJ0_indexOf_0f7a4 : ∀ q ∈ ([(265, zk_iP pJ0_indexOf_7cf53)] : List (Nat × zk_P)), zk_OK zk_C 3 q.1 q.2 := zk_cons (okJ0_indexOf_7cf53.up (by decide)) (zk_nil)
theorem okJ0_indexOf_0f7a4 : zk_OK zk_C 4 264 (zk_iP pJ0_indexOf_0f7a4) := zk_mkI hJ0_indexOf_0f7a4 rfl fcJ0_indexOf_0f7a4
def pX5_takesAsOperand : zk_pI := fun as h K => zk_arg as 3 = true ∧ zk_X zk_C (zk_lkl lkX5) zk_mt (zk_cxl [(59, zk_vP pX5_endOperand), (62, zk_vP pX5_await), (63, zk_vP pX5_emit), (264, zk_iP pJ0_indexOf_0f7a4)]) (some .boolean) (zk_at cdX5_takesAsOperand) (zk_qi K) 0 (zk_L0 as 3) [] h
theorem hX5_takesAsOperand : ∀ q ∈ ([(59, zk_vP pX5_endOperand), (62, zk_vP pX5_await), (63, zk_vP pX5_emit), (264, zk_iP pJ0_indexOf_0f7a4)] : List (Nat × zk_P)), zk_OK zk_C 4 q.1 q.2 := zk_cons (okX5_endOperand.up (by decide)) (zk_cons (okX5_await.up (by decide)) (zk_cons (okX5_emit.up (by decide)) (zk_cons (okJ0_indexOf_0f7a4.up (by decide)) (zk_nil))))
theorem okX5_takesAsOperand : zk_OK zk_C 5 54 (zk_iP pX5_takesAsOperand) := zk_mkI hX5_takesAsOperand rfl fcX5_takesAsOperand
def pX5_rankOf : zk_pI := fun as h K => zk_arg as 2 = true ∧ zk_X zk_C (zk_lkl lkX5) zk_mt (zk_cxl []) (some .int) (zk_at cdX5_rankOf) (zk_qi K) 0 (zk_L0 as 2) [] h
theorem hX5_rankOf : ∀ q ∈ ([] : List (Nat × zk_P)), zk_OK zk_C 0 q.1 q.2 := zk_nil
theorem okX5_rankOf : zk_OK zk_C 1 61 (zk_iP pX5_rankOf) := zk_mkI hX5_rankOf rfl fcX5_rankOf
def pX5_emitWaiting : zk_pV := fun as h K => zk_arg as 2 = true ∧ zk_X zk_C (zk_lkl lkX5) zk_mt (zk_cxl [(61, zk_iP pX5_rankOf), (63, zk_vP pX5_emit)]) none (zk_at cdX5_emitWaiting) (zk_qv K) 0 (zk_L0 as 2) [] h
theorem hX5_emitWaiting : ∀ q ∈ ([(61, zk_iP pX5_rankOf), (63, zk_vP pX5_emit)] : List (Nat × zk_P)), zk_OK zk_C 1 q.1 q.2 := zk_cons (okX5_rankOf.up (by decide)) (zk_cons (okX5_emit.up (by decide)) (zk_nil))
theorem okX5_emitWaiting : zk_OK zk_C 2 60 (zk_vP pX5_emitWaiting) := zk_mkV hX5_emitWaiting rfl fcX5_emitWaiting
def pX5_closesBracket : zk_pI := fun as h K => zk_arg as 1 = true ∧ zk_X zk_C (zk_lkl lkX5) zk_mt (zk_cxl [(59, zk_vP pX5_endOperand), (60, zk_vP pX5_emitWaiting)]) (some .boolean) (zk_at cdX5_closesBracket) (zk_qi K) 0 (zk_L0 as 1) [] h
theorem hX5_closesBracket : ∀ q ∈ ([(59, zk_vP pX5_endOperand), (60, zk_vP pX5_emitWaiting)] : List (Nat × zk_P)), zk_OK zk_C 2 q.1 q.2 := zk_cons (okX5_endOperand.up (by decide)) (zk_cons (okX5_emitWaiting.up (by decide)) (zk_nil))
theorem okX5_closesBracket : zk_OK zk_C 3 56 (zk_iP pX5_closesBracket) := zk_mkI hX5_closesBracket rfl fcX5_closesBracket
def pX5_endsExpression : zk_pI := fun as h K => zk_arg as 3 = true ∧ zk_X zk_C (zk_lkl lkX5) zk_mt (zk_cxl [(60, zk_vP pX5_emitWaiting), (63, zk_vP pX5_emit)]) (some .boolean) (zk_at cdX5_endsExpression) (zk_qi K) 0 (zk_L0 as 3) [] h
theorem hX5_endsExpression : ∀ q ∈ ([(60, zk_vP pX5_emitWaiting), (63, zk_vP pX5_emit)] : List (Nat × zk_P)), zk_OK zk_C 2 q.1 q.2 := zk_cons (okX5_emitWaiting.up (by decide)) (zk_cons (okX5_emit.up (by decide)) (zk_nil))
theorem okX5_endsExpression : zk_OK zk_C 3 57 (zk_iP pX5_endsExpression) := zk_mkI hX5_endsExpression rfl fcX5_endsExpression
def pX5_takesBetween : zk_pI := fun as h K => zk_arg as 3 = true ∧ zk_X zk_C (zk_lkl lkX5) zk_mt (zk_cxl [(60, zk_vP pX5_emitWaiting), (61, zk_iP pX5_rankOf), (62, zk_vP pX5_await)]) (some .boolean) (zk_at cdX5_takesBetween) (zk_qi K) 0 (zk_L0 as 3) [] h
theorem hX5_takesBetween : ∀ q ∈ ([(60, zk_vP pX5_emitWaiting), (61, zk_iP pX5_rankOf), (62, zk_vP pX5_await)] : List (Nat × zk_P)), zk_OK zk_C 2 q.1 q.2 := zk_cons (okX5_emitWaiting.up (by decide)) (zk_cons (okX5_rankOf.up (by decide)) (zk_cons (okX5_await.up (by decide)) (zk_nil)))
theorem okX5_takesBetween : zk_OK zk_C 3 58 (zk_iP pX5_takesBetween) := zk_mkI hX5_takesBetween rfl fcX5_takesBetween
def pX5_takesBehindOperand : zk_pI := fun as h K => zk_arg as 2 = true ∧ zk_X zk_C (zk_lkl lkX5) zk_mt (zk_cxl [(56, zk_iP pX5_closesBracket), (57, zk_iP pX5_endsExpression), (58, zk_iP pX5_takesBetween)]) (some .boolean) (zk_at cdX5_takesBehindOperand) (zk_qi K) 0 (zk_L0 as 2) [] h
theorem hX5_takesBehindOperand : ∀ q ∈ ([(56, zk_iP pX5_closesBracket), (57, zk_iP pX5_endsExpression), (58, zk_iP pX5_takesBetween)] : List (Nat × zk_P)), zk_OK zk_C 3 q.1 q.2 := zk_cons (okX5_closesBracket.up (by decide)) (zk_cons (okX5_endsExpression.up (by decide)) (zk_cons (okX5_takesBetween.up (by decide)) (zk_nil)))
theorem okX5_takesBehindOperand : zk_OK zk_C 4 55 (zk_iP pX5_takesBehindOperand) := zk_mkI hX5_takesBehindOperand rfl fcX5_takesBehindOperand
def pX5_takes : zk_pI := fun as h K => zk_arg as 3 = true ∧ zk_X zk_C (zk_lkl lkX5) zk_mt (zk_cxl [(53, zk_iP pX5_beginsNumber), (54, zk_iP pX5_takesAsOperand), (55, zk_iP pX5_takesBehindOperand)]) (some .boolean) (zk_at cdX5_takes) (zk_qi K) 0 (zk_L0 as 3) [] h
theorem hX5_takes : ∀ q ∈ ([(53, zk_iP pX5_beginsNumber), (54, zk_iP pX5_takesAsOperand), (55, zk_iP pX5_takesBehindOperand)] : List (Nat × zk_P)), zk_OK zk_C 5 q.1 q.2 := zk_cons (okX5_beginsNumber.up (by decide)) (zk_cons (okX5_takesAsOperand.up (by decide)) (zk_cons (okX5_takesBehindOperand.up (by decide)) (zk_nil)))
theorem okX5_takes : zk_OK zk_C 6 52 (zk_iP pX5_takes) := zk_mkI hX5_takes rfl fcX5_takes
def pX5_parseTape : zk_pI := fun as h K => zk_arg as 3 = true ∧ zk_X zk_C (zk_lkl lkX5) zk_mt (zk_cxl [(51, zk_vP pX5_begin), (52, zk_iP pX5_takes), (57, zk_iP pX5_endsExpression)]) (some .int) (zk_at cdX5_parseTape) (zk_qi K) 0 (zk_L0 as 3) [] h
theorem hX5_parseTape : ∀ q ∈ ([(51, zk_vP pX5_begin), (52, zk_iP pX5_takes), (57, zk_iP pX5_endsExpression)] : List (Nat × zk_P)), zk_OK zk_C 6 q.1 q.2 := zk_cons (okX5_begin.up (by decide)) (zk_cons (okX5_takes.up (by decide)) (zk_cons (okX5_endsExpression.up (by decide)) (zk_nil)))
theorem okX5_parseTape : zk_OK zk_C 7 50 (zk_iP pX5_parseTape) := zk_mkI hX5_parseTape rfl fcX5_parseTape
def pX6_saysYes : zk_pI := fun as h K => zk_arg as 4 = true ∧ zk_X zk_C (zk_lkl lkX6) zk_mt (zk_cxl [(37, zk_iP pX4_likes), (38, zk_iP pX4_knows)]) (some .boolean) (zk_at cdX6_saysYes) (zk_qi K) 0 (zk_L0 as 4) [] h
theorem hX6_saysYes : ∀ q ∈ ([(37, zk_iP pX4_likes), (38, zk_iP pX4_knows)] : List (Nat × zk_P)), zk_OK zk_C 1 q.1 q.2 := zk_cons (okX4_likes.up (by decide)) (zk_cons (okX4_knows.up (by decide)) (zk_nil))
theorem okX6_saysYes : zk_OK zk_C 2 66 (zk_iP pX6_saysYes) := zk_mkI hX6_saysYes rfl fcX6_saysYes
def pX6_sumOfYes : zk_pI := fun as h K => zk_arg as 5 = true ∧ zk_X zk_C (zk_lkl lkX6) zk_mt (zk_cxl [(66, zk_iP pX6_saysYes)]) (some .int) (zk_at cdX6_sumOfYes) (zk_qi K) 0 (zk_L0 as 5) [] h
theorem hX6_sumOfYes : ∀ q ∈ ([(66, zk_iP pX6_saysYes)] : List (Nat × zk_P)), zk_OK zk_C 2 q.1 q.2 := zk_cons (okX6_saysYes.up (by decide)) (zk_nil)
theorem okX6_sumOfYes : zk_OK zk_C 3 65 (zk_iP pX6_sumOfYes) := zk_mkI hX6_sumOfYes rfl fcX6_sumOfYes
def pX10_likenessOfHand : zk_pI := fun as h K => zk_arg as 4 = true ∧ zk_X zk_C (zk_lkl lkX10) zk_mt (zk_cxl []) (some .int) (zk_at cdX10_likenessOfHand) (zk_qi K) 0 (zk_L0 as 4) [] h
theorem hX10_likenessOfHand : ∀ q ∈ ([] : List (Nat × zk_P)), zk_OK zk_C 0 q.1 q.2 := zk_nil
theorem okX10_likenessOfHand : zk_OK zk_C 1 94 (zk_iP pX10_likenessOfHand) := zk_mkI hX10_likenessOfHand rfl fcX10_likenessOfHand
def pX10_valueWithoutLaw : zk_pI := fun as h K => zk_arg as 3 = true ∧ zk_X zk_C (zk_lkl lkX10) zk_mt (zk_cxl []) (some .int) (zk_at cdX10_valueWithoutLaw) (zk_qi K) 0 (zk_L0 as 3) [] h
theorem hX10_valueWithoutLaw : ∀ q ∈ ([] : List (Nat × zk_P)), zk_OK zk_C 0 q.1 q.2 := zk_nil
theorem okX10_valueWithoutLaw : zk_OK zk_C 1 95 (zk_iP pX10_valueWithoutLaw) := zk_mkI hX10_valueWithoutLaw rfl fcX10_valueWithoutLaw
def pX10_countFor : zk_pI := fun as h K => zk_arg as 4 = true ∧ zk_X zk_C (zk_lkl lkX10) zk_mt (zk_cxl [(21, zk_iP pX3_isTold), (22, zk_iP pX3_valueFor), (37, zk_iP pX4_likes), (94, zk_iP pX10_likenessOfHand), (95, zk_iP pX10_valueWithoutLaw)]) (some .int) (zk_at cdX10_countFor) (zk_qi K) 0 (zk_L0 as 4) [] h
theorem hX10_countFor : ∀ q ∈ ([(21, zk_iP pX3_isTold), (22, zk_iP pX3_valueFor), (37, zk_iP pX4_likes), (94, zk_iP pX10_likenessOfHand), (95, zk_iP pX10_valueWithoutLaw)] : List (Nat × zk_P)), zk_OK zk_C 2 q.1 q.2 := zk_cons (okX3_isTold.up (by decide)) (zk_cons (okX3_valueFor.up (by decide)) (zk_cons (okX4_likes.up (by decide)) (zk_cons (okX10_likenessOfHand.up (by decide)) (zk_cons (okX10_valueWithoutLaw.up (by decide)) (zk_nil)))))
theorem okX10_countFor : zk_OK zk_C 3 93 (zk_iP pX10_countFor) := zk_mkI hX10_countFor rfl fcX10_countFor
def pJ6_bitCount_0f7a4 (w : zk_Wd) : zk_pI := fun as h K => zk_arg as 1 = true ∧ zk_X w (zk_lkl lkJ6) zk_mt (zk_cxl []) (some .int) (zk_at cdJ6_bitCount_0f7a4) (zk_qi K) 0 (zk_L0 as 1) [] h
theorem hJ6_bitCount_0f7a4 {w : zk_Wd} : ∀ q ∈ ([] : List (Nat × zk_P)), zk_OK w 0 q.1 q.2 := zk_nil
theorem okJ6_bitCount_0f7a4 {w : zk_Wd} : zk_OK w 1 262 (zk_iP (pJ6_bitCount_0f7a4 w)) := zk_mkI hJ6_bitCount_0f7a4 rfl fcJ6_bitCount_0f7a4
def pX10_weigh : zk_pI := fun as h K => zk_arg as 6 = true ∧ zk_X zk_C (zk_lkl lkX10) zk_mt (zk_cxl [(42, zk_iP pX4_whoCouldWithSecret), (45, zk_iP pX4_whoKnows), (93, zk_iP pX10_countFor), (262, zk_iP (pJ6_bitCount_0f7a4 zk_C))]) (some .int) (zk_at cdX10_weigh) (zk_qi K) 0 (zk_L0 as 6) [] h
theorem hX10_weigh : ∀ q ∈ ([(42, zk_iP pX4_whoCouldWithSecret), (45, zk_iP pX4_whoKnows), (93, zk_iP pX10_countFor), (262, zk_iP (pJ6_bitCount_0f7a4 zk_C))] : List (Nat × zk_P)), zk_OK zk_C 3 q.1 q.2 := zk_cons (okX4_whoCouldWithSecret.up (by decide)) (zk_cons (okX4_whoKnows.up (by decide)) (zk_cons (okX10_countFor.up (by decide)) (zk_cons (okJ6_bitCount_0f7a4.up (by decide)) (zk_nil))))
theorem okX10_weigh : zk_OK zk_C 4 92 (zk_iP pX10_weigh) := zk_mkI hX10_weigh rfl fcX10_weigh
def pX6_bestQuestion : zk_pI := fun as h K => zk_arg as 9 = true ∧ zk_X zk_C (zk_lkl lkX6) zk_mt (zk_cxl [(65, zk_iP pX6_sumOfYes), (92, zk_iP pX10_weigh)]) (some .int) (zk_at cdX6_bestQuestion) (zk_qi K) 0 (zk_L0 as 9) [] h
theorem hX6_bestQuestion : ∀ q ∈ ([(65, zk_iP pX6_sumOfYes), (92, zk_iP pX10_weigh)] : List (Nat × zk_P)), zk_OK zk_C 4 q.1 q.2 := zk_cons (okX6_sumOfYes.up (by decide)) (zk_cons (okX10_weigh.up (by decide)) (zk_nil))
theorem okX6_bestQuestion : zk_OK zk_C 5 64 (zk_iP pX6_bestQuestion) := zk_mkI hX6_bestQuestion rfl fcX6_bestQuestion
def pX6_worthOfThanking : zk_pI := fun as h K => zk_arg as 6 = true ∧ zk_X zk_C (zk_lkl lkX6) zk_mt (zk_cxl []) (some .int) (zk_at cdX6_worthOfThanking) (zk_qi K) 0 (zk_L0 as 6) [] h
theorem hX6_worthOfThanking : ∀ q ∈ ([] : List (Nat × zk_P)), zk_OK zk_C 0 q.1 q.2 := zk_nil
theorem okX6_worthOfThanking : zk_OK zk_C 1 67 (zk_iP pX6_worthOfThanking) := zk_mkI hX6_worthOfThanking rfl fcX6_worthOfThanking
def pX6_whomToThank : zk_pI := fun as h K => zk_arg as 7 = true ∧ zk_X zk_C (zk_lkl lkX6) zk_mt (zk_cxl [(67, zk_iP pX6_worthOfThanking), (92, zk_iP pX10_weigh)]) (some .int) (zk_at cdX6_whomToThank) (zk_qi K) 0 (zk_L0 as 7) [] h
theorem hX6_whomToThank : ∀ q ∈ ([(67, zk_iP pX6_worthOfThanking), (92, zk_iP pX10_weigh)] : List (Nat × zk_P)), zk_OK zk_C 4 q.1 q.2 := zk_cons (okX6_worthOfThanking.up (by decide)) (zk_cons (okX10_weigh.up (by decide)) (zk_nil))
theorem okX6_whomToThank : zk_OK zk_C 5 68 (zk_iP pX6_whomToThank) := zk_mkI hX6_whomToThank rfl fcX6_whomToThank
def pX6_tellingSecret : zk_pI := fun as h K => zk_arg as 7 = true ∧ zk_X zk_C (zk_lkl lkX6) zk_mt (zk_cxl [(42, zk_iP pX4_whoCouldWithSecret), (262, zk_iP (pJ6_bitCount_0f7a4 zk_C))]) (some .int) (zk_at cdX6_tellingSecret) (zk_qi K) 0 (zk_L0 as 7) [] h
theorem hX6_tellingSecret : ∀ q ∈ ([(42, zk_iP pX4_whoCouldWithSecret), (262, zk_iP (pJ6_bitCount_0f7a4 zk_C))] : List (Nat × zk_P)), zk_OK zk_C 3 q.1 q.2 := zk_cons (okX4_whoCouldWithSecret.up (by decide)) (zk_cons (okJ6_bitCount_0f7a4.up (by decide)) (zk_nil))
theorem okX6_tellingSecret : zk_OK zk_C 4 69 (zk_iP pX6_tellingSecret) := zk_mkI hX6_tellingSecret rfl fcX6_tellingSecret
def pX6_weighWay : zk_pV := fun as h K => zk_arg as 7 = true ∧ zk_X zk_C (zk_lkl lkX6) zk_mt (zk_cxl [(92, zk_iP pX10_weigh)]) none (zk_at cdX6_weighWay) (zk_qv K) 0 (zk_L0 as 7) [] h
theorem hX6_weighWay : ∀ q ∈ ([(92, zk_iP pX10_weigh)] : List (Nat × zk_P)), zk_OK zk_C 4 q.1 q.2 := zk_cons (okX10_weigh.up (by decide)) (zk_nil)
theorem okX6_weighWay : zk_OK zk_C 5 71 (zk_vP pX6_weighWay) := zk_mkV hX6_weighWay rfl fcX6_weighWay
def pX6_seekWay : zk_pV := fun as h K => zk_arg as 9 = true ∧ zk_X zk_C (zk_lkl lkX6) zk_mt (zk_cxl [(36, zk_vP pX4_layCard), (40, zk_iP pX4_canWriteSo), (71, zk_vP pX6_weighWay)]) none (zk_at cdX6_seekWay) (zk_qv K) 0 (zk_L0 as 9) [] h
theorem hX6_seekWay : ∀ q ∈ ([(36, zk_vP pX4_layCard), (40, zk_iP pX4_canWriteSo), (71, zk_vP pX6_weighWay)] : List (Nat × zk_P)), zk_OK zk_C 5 q.1 q.2 := zk_cons (okX4_layCard.up (by decide)) (zk_cons (okX4_canWriteSo.up (by decide)) (zk_cons (okX6_weighWay.up (by decide)) (zk_nil)))
theorem okX6_seekWay : zk_OK zk_C 6 70 (zk_vP pX6_seekWay) := zk_mkV hX6_seekWay rfl fcX6_seekWay
def pX10_likeliestOf : zk_pI := fun as h K => zk_arg as 6 = true ∧ zk_X zk_C (zk_lkl lkX10) zk_mt (zk_cxl [(92, zk_iP pX10_weigh)]) (some .int) (zk_at cdX10_likeliestOf) (zk_qi K) 0 (zk_L0 as 6) [] h
theorem hX10_likeliestOf : ∀ q ∈ ([(92, zk_iP pX10_weigh)] : List (Nat × zk_P)), zk_OK zk_C 4 q.1 q.2 := zk_cons (okX10_weigh.up (by decide)) (zk_nil)
theorem okX10_likeliestOf : zk_OK zk_C 5 96 (zk_iP pX10_likeliestOf) := zk_mkI hX10_likeliestOf rfl fcX10_likeliestOf
def pX6_hopeOfReceiver : zk_pI := fun as h K => zk_arg as 7 = true ∧ zk_X zk_C (zk_lkl lkX6) zk_mt (zk_cxl [(43, zk_iP pX4_everybody), (92, zk_iP pX10_weigh), (96, zk_iP pX10_likeliestOf)]) (some .int) (zk_at cdX6_hopeOfReceiver) (zk_qi K) 0 (zk_L0 as 7) [] h
theorem hX6_hopeOfReceiver : ∀ q ∈ ([(43, zk_iP pX4_everybody), (92, zk_iP pX10_weigh), (96, zk_iP pX10_likeliestOf)] : List (Nat × zk_P)), zk_OK zk_C 5 q.1 q.2 := zk_cons (okX4_everybody.up (by decide)) (zk_cons (okX10_weigh.up (by decide)) (zk_cons (okX10_likeliestOf.up (by decide)) (zk_nil)))
theorem okX6_hopeOfReceiver : zk_OK zk_C 6 72 (zk_iP pX6_hopeOfReceiver) := zk_mkI hX6_hopeOfReceiver rfl fcX6_hopeOfReceiver
def pX6_whoIsAt : zk_pI := fun as h K => zk_arg as 4 = true ∧ zk_X zk_C (zk_lkl lkX6) zk_mt (zk_cxl []) (some .int) (zk_at cdX6_whoIsAt) (zk_qi K) 0 (zk_L0 as 4) [] h
theorem hX6_whoIsAt : ∀ q ∈ ([] : List (Nat × zk_P)), zk_OK zk_C 0 q.1 q.2 := zk_nil
theorem okX6_whoIsAt : zk_OK zk_C 1 74 (zk_iP pX6_whoIsAt) := zk_mkI hX6_whoIsAt rfl fcX6_whoIsAt
def pJ7_fill_53178 : zk_pV := fun as h K => zk_arg as 4 = true ∧ zk_X zk_C (zk_lkl []) zk_mt (zk_cxl []) none (zk_at cdJ7_fill_53178) (zk_qv K) 0 (zk_L0 as 4) [] h
theorem hJ7_fill_53178 : ∀ q ∈ ([] : List (Nat × zk_P)), zk_OK zk_C 0 q.1 q.2 := zk_nil
theorem okJ7_fill_53178 : zk_OK zk_C 1 272 (zk_vP pJ7_fill_53178) := zk_mkV hJ7_fill_53178 rfl fcJ7_fill_53178
def pX6_timesDrawn : zk_pI := fun as h K => zk_arg as 10 = true ∧ zk_X zk_C (zk_lkl lkX6) zk_mt (zk_cxl [(74, zk_iP pX6_whoIsAt), (92, zk_iP pX10_weigh), (272, zk_vP pJ7_fill_53178)]) (some .int) (zk_at cdX6_timesDrawn) (zk_qi K) 0 (zk_L0 as 10) [] h
theorem hX6_timesDrawn : ∀ q ∈ ([(74, zk_iP pX6_whoIsAt), (92, zk_iP pX10_weigh), (272, zk_vP pJ7_fill_53178)] : List (Nat × zk_P)), zk_OK zk_C 4 q.1 q.2 := zk_cons (okX6_whoIsAt.up (by decide)) (zk_cons (okX10_weigh.up (by decide)) (zk_cons (okJ7_fill_53178.up (by decide)) (zk_nil)))
theorem okX6_timesDrawn : zk_OK zk_C 5 73 (zk_iP pX6_timesDrawn) := zk_mkI hX6_timesDrawn rfl fcX6_timesDrawn
def pX7_comesFrom : zk_pI := fun as h K => zk_arg as 7 = true ∧ zk_X zk_C (zk_lkl lkX7) zk_mt (zk_cxl [(33, zk_iP pX4_fits), (34, zk_iP pX4_addPerson)]) (some .boolean) (zk_at cdX7_comesFrom) (zk_qi K) 0 (zk_L0 as 7) [] h
theorem hX7_comesFrom : ∀ q ∈ ([(33, zk_iP pX4_fits), (34, zk_iP pX4_addPerson)] : List (Nat × zk_P)), zk_OK zk_C 1 q.1 q.2 := zk_cons (okX4_fits.up (by decide)) (zk_cons (okX4_addPerson.up (by decide)) (zk_nil))
theorem okX7_comesFrom : zk_OK zk_C 2 76 (zk_iP pX7_comesFrom) := zk_mkI hX7_comesFrom rfl fcX7_comesFrom
def pX7_peopleCome : zk_pI := fun as h K => zk_arg as 6 = true ∧ zk_X zk_C (zk_lkl lkX7) zk_mt (zk_cxl [(76, zk_iP pX7_comesFrom)]) (some .int) (zk_at cdX7_peopleCome) (zk_qi K) 0 (zk_L0 as 6) [] h
theorem hX7_peopleCome : ∀ q ∈ ([(76, zk_iP pX7_comesFrom)] : List (Nat × zk_P)), zk_OK zk_C 2 q.1 q.2 := zk_cons (okX7_comesFrom.up (by decide)) (zk_nil)
theorem okX7_peopleCome : zk_OK zk_C 3 75 (zk_iP pX7_peopleCome) := zk_mkI hX7_peopleCome rfl fcX7_peopleCome
def pX7_firstLookFromOutside : zk_pI := fun as h K => zk_arg as 4 = true ∧ zk_X zk_C (zk_lkl lkX7) zk_mt (zk_cxl [(25, zk_iP pX4_isPerson), (39, zk_iP pX4_isIn)]) (some .int) (zk_at cdX7_firstLookFromOutside) (zk_qi K) 0 (zk_L0 as 4) [] h
theorem hX7_firstLookFromOutside : ∀ q ∈ ([(25, zk_iP pX4_isPerson), (39, zk_iP pX4_isIn)] : List (Nat × zk_P)), zk_OK zk_C 1 q.1 q.2 := zk_cons (okX4_isPerson.up (by decide)) (zk_cons (okX4_isIn.up (by decide)) (zk_nil))
theorem okX7_firstLookFromOutside : zk_OK zk_C 2 77 (zk_iP pX7_firstLookFromOutside) := zk_mkI hX7_firstLookFromOutside rfl fcX7_firstLookFromOutside
def pX7_tallyLooks : zk_pV := fun as h K => zk_arg as 5 = true ∧ zk_X zk_C (zk_lkl lkX7) zk_mt (zk_cxl [(25, zk_iP pX4_isPerson), (272, zk_vP pJ7_fill_53178)]) none (zk_at cdX7_tallyLooks) (zk_qv K) 0 (zk_L0 as 5) [] h
theorem hX7_tallyLooks : ∀ q ∈ ([(25, zk_iP pX4_isPerson), (272, zk_vP pJ7_fill_53178)] : List (Nat × zk_P)), zk_OK zk_C 1 q.1 q.2 := zk_cons (okX4_isPerson.up (by decide)) (zk_cons (okJ7_fill_53178.up (by decide)) (zk_nil))
theorem okX7_tallyLooks : zk_OK zk_C 2 78 (zk_vP pX7_tallyLooks) := zk_mkV hX7_tallyLooks rfl fcX7_tallyLooks
def pX7_mostTallied : zk_pI := fun as h K => zk_arg as 4 = true ∧ zk_X zk_C (zk_lkl lkX7) zk_mt (zk_cxl []) (some .int) (zk_at cdX7_mostTallied) (zk_qi K) 0 (zk_L0 as 4) [] h
theorem hX7_mostTallied : ∀ q ∈ ([] : List (Nat × zk_P)), zk_OK zk_C 0 q.1 q.2 := zk_nil
theorem okX7_mostTallied : zk_OK zk_C 1 79 (zk_iP pX7_mostTallied) := zk_mkI hX7_mostTallied rfl fcX7_mostTallied
def pX7_canBe : zk_pI := fun as h K => zk_arg as 3 = true ∧ zk_X zk_C (zk_lkl lkX7) zk_mt (zk_cxl [(25, zk_iP pX4_isPerson), (26, zk_iP pX4_isCard), (41, zk_iP pX4_whoCould)]) (some .boolean) (zk_at cdX7_canBe) (zk_qi K) 0 (zk_L0 as 3) [] h
theorem hX7_canBe : ∀ q ∈ ([(25, zk_iP pX4_isPerson), (26, zk_iP pX4_isCard), (41, zk_iP pX4_whoCould)] : List (Nat × zk_P)), zk_OK zk_C 4 q.1 q.2 := zk_cons (okX4_isPerson.up (by decide)) (zk_cons (okX4_isCard.up (by decide)) (zk_cons (okX4_whoCould.up (by decide)) (zk_nil)))
theorem okX7_canBe : zk_OK zk_C 5 81 (zk_iP pX7_canBe) := zk_mkI hX7_canBe rfl fcX7_canBe
def pX7_firstWrongLetter : zk_pI := fun as h K => zk_arg as 3 = true ∧ zk_X zk_C (zk_lkl lkX7) zk_mt (zk_cxl [(81, zk_iP pX7_canBe)]) (some .int) (zk_at cdX7_firstWrongLetter) (zk_qi K) 0 (zk_L0 as 3) [] h
theorem hX7_firstWrongLetter : ∀ q ∈ ([(81, zk_iP pX7_canBe)] : List (Nat × zk_P)), zk_OK zk_C 5 q.1 q.2 := zk_cons (okX7_canBe.up (by decide)) (zk_nil)
theorem okX7_firstWrongLetter : zk_OK zk_C 6 80 (zk_iP pX7_firstWrongLetter) := zk_mkI hX7_firstWrongLetter rfl fcX7_firstWrongLetter
def pX7_waysToFill : zk_pI := fun as h K => zk_arg as 3 = true ∧ zk_X zk_C (zk_lkl lkX7) zk_mt (zk_cxl [(41, zk_iP pX4_whoCould), (262, zk_iP (pJ6_bitCount_0f7a4 zk_C))]) (some .int) (zk_at cdX7_waysToFill) (zk_qi K) 0 (zk_L0 as 3) [] h
theorem hX7_waysToFill : ∀ q ∈ ([(41, zk_iP pX4_whoCould), (262, zk_iP (pJ6_bitCount_0f7a4 zk_C))] : List (Nat × zk_P)), zk_OK zk_C 4 q.1 q.2 := zk_cons (okX4_whoCould.up (by decide)) (zk_cons (okJ6_bitCount_0f7a4.up (by decide)) (zk_nil))
theorem okX7_waysToFill : zk_OK zk_C 5 83 (zk_iP pX7_waysToFill) := zk_mkI hX7_waysToFill rfl fcX7_waysToFill
def pX7_countsTogether : zk_pI := fun as h K => zk_arg as 4 = true ∧ zk_X zk_C (zk_lkl lkX7) zk_mt (zk_cxl [(92, zk_iP pX10_weigh)]) (some .int) (zk_at cdX7_countsTogether) (zk_qi K) 0 (zk_L0 as 4) [] h
theorem hX7_countsTogether : ∀ q ∈ ([(92, zk_iP pX10_weigh)] : List (Nat × zk_P)), zk_OK zk_C 4 q.1 q.2 := zk_cons (okX10_weigh.up (by decide)) (zk_nil)
theorem okX7_countsTogether : zk_OK zk_C 5 84 (zk_iP pX7_countsTogether) := zk_mkI hX7_countsTogether rfl fcX7_countsTogether
def pX7_lettersFilled : zk_pL := fun as h K => zk_arg as 8 = true ∧ zk_X zk_C (zk_lkl lkX7) zk_mt (zk_cxl [(83, zk_iP pX7_waysToFill), (84, zk_iP pX7_countsTogether)]) (some .long) (zk_at cdX7_lettersFilled) (zk_ql K) 0 (zk_L0 as 8) [] h
theorem hX7_lettersFilled : ∀ q ∈ ([(83, zk_iP pX7_waysToFill), (84, zk_iP pX7_countsTogether)] : List (Nat × zk_P)), zk_OK zk_C 5 q.1 q.2 := zk_cons (okX7_waysToFill.up (by decide)) (zk_cons (okX7_countsTogether.up (by decide)) (zk_nil))
theorem okX7_lettersFilled : zk_OK zk_C 6 82 (zk_lP pX7_lettersFilled) := zk_mkL hX7_lettersFilled rfl fcX7_lettersFilled
def pX8_holdLook : zk_pV := fun as h K => zk_arg as 2 = true ∧ zk_X zk_C (zk_lkl lkX8) zk_mt (zk_cxl []) none (zk_at cdX8_holdLook) (zk_qv K) 0 (zk_L0 as 2) [] h
theorem hX8_holdLook : ∀ q ∈ ([] : List (Nat × zk_P)), zk_OK zk_C 0 q.1 q.2 := zk_nil
theorem okX8_holdLook : zk_OK zk_C 1 85 (zk_vP pX8_holdLook) := zk_mkV hX8_holdLook rfl fcX8_holdLook
def pJ7_fill_d0a16 : zk_pV := fun as h K => zk_arg as 5 = true ∧ zk_X zk_C (zk_lkl []) zk_mt (zk_cxl []) none (zk_at cdJ7_fill_d0a16) (zk_qv K) 0 (zk_L0 as 5) [] h
theorem hJ7_fill_d0a16 : ∀ q ∈ ([] : List (Nat × zk_P)), zk_OK zk_C 0 q.1 q.2 := zk_nil
theorem okJ7_fill_d0a16 : zk_OK zk_C 1 271 (zk_vP pJ7_fill_d0a16) := zk_mkV hJ7_fill_d0a16 rfl fcJ7_fill_d0a16
def pX8_holdRow : zk_pV := fun as h K => zk_arg as 3 = true ∧ zk_X zk_C (zk_lkl lkX8) zk_mt (zk_cxl [(271, zk_vP pJ7_fill_d0a16)]) none (zk_at cdX8_holdRow) (zk_qv K) 0 (zk_L0 as 3) [] h
theorem hX8_holdRow : ∀ q ∈ ([(271, zk_vP pJ7_fill_d0a16)] : List (Nat × zk_P)), zk_OK zk_C 1 q.1 q.2 := zk_cons (okJ7_fill_d0a16.up (by decide)) (zk_nil)
theorem okX8_holdRow : zk_OK zk_C 2 86 (zk_vP pX8_holdRow) := zk_mkV hX8_holdRow rfl fcX8_holdRow
def pX8_isRowOf : zk_pI := fun as h K => zk_arg as 2 = true ∧ zk_X zk_C (zk_lkl lkX8) zk_mt (zk_cxl []) (some .boolean) (zk_at cdX8_isRowOf) (zk_qi K) 0 (zk_L0 as 2) [] h
theorem hX8_isRowOf : ∀ q ∈ ([] : List (Nat × zk_P)), zk_OK zk_C 0 q.1 q.2 := zk_nil
theorem okX8_isRowOf : zk_OK zk_C 1 87 (zk_iP pX8_isRowOf) := zk_mkI hX8_isRowOf rfl fcX8_isRowOf
def pX8_refusalOfRow : zk_pI := fun as h K => zk_arg as 2 = true ∧ zk_X zk_C (zk_lkl lkX8) zk_mt (zk_cxl [(87, zk_iP pX8_isRowOf)]) (some .int) (zk_at cdX8_refusalOfRow) (zk_qi K) 0 (zk_L0 as 2) [] h
theorem hX8_refusalOfRow : ∀ q ∈ ([(87, zk_iP pX8_isRowOf)] : List (Nat × zk_P)), zk_OK zk_C 1 q.1 q.2 := zk_cons (okX8_isRowOf.up (by decide)) (zk_nil)
theorem okX8_refusalOfRow : zk_OK zk_C 2 88 (zk_iP pX8_refusalOfRow) := zk_mkI hX8_refusalOfRow rfl fcX8_refusalOfRow
def pX8_refusalOfPlace : zk_pI := fun as h K => zk_arg as 2 = true ∧ zk_X zk_C (zk_lkl lkX8) zk_mt (zk_cxl []) (some .int) (zk_at cdX8_refusalOfPlace) (zk_qi K) 0 (zk_L0 as 2) [] h
theorem hX8_refusalOfPlace : ∀ q ∈ ([] : List (Nat × zk_P)), zk_OK zk_C 0 q.1 q.2 := zk_nil
theorem okX8_refusalOfPlace : zk_OK zk_C 1 89 (zk_iP pX8_refusalOfPlace) := zk_mkI hX8_refusalOfPlace rfl fcX8_refusalOfPlace
def pX8_hasPlaces : zk_pI := fun as h K => zk_arg as 3 = true ∧ zk_X zk_C (zk_lkl lkX8) zk_mt (zk_cxl []) (some .boolean) (zk_at cdX8_hasPlaces) (zk_qi K) 0 (zk_L0 as 3) [] h
theorem hX8_hasPlaces : ∀ q ∈ ([] : List (Nat × zk_P)), zk_OK zk_C 0 q.1 q.2 := zk_nil
theorem okX8_hasPlaces : zk_OK zk_C 1 90 (zk_iP pX8_hasPlaces) := zk_mkI hX8_hasPlaces rfl fcX8_hasPlaces
def pX8_lowestBits : zk_pL := fun as h K => zk_arg as 3 = true ∧ zk_X zk_C (zk_lkl lkX8) zk_mt (zk_cxl []) (some .long) (zk_at cdX8_lowestBits) (zk_ql K) 0 (zk_L0 as 3) [] h
theorem hX8_lowestBits : ∀ q ∈ ([] : List (Nat × zk_P)), zk_OK zk_C 0 q.1 q.2 := zk_nil
theorem okX8_lowestBits : zk_OK zk_C 1 91 (zk_lP pX8_lowestBits) := zk_mkL hX8_lowestBits rfl fcX8_lowestBits
def pX10_onlyOne : zk_pI := fun as h K => zk_arg as 4 = true ∧ zk_X zk_C (zk_lkl lkX10) zk_mt (zk_cxl [(43, zk_iP pX4_everybody), (96, zk_iP pX10_likeliestOf)]) (some .int) (zk_at cdX10_onlyOne) (zk_qi K) 0 (zk_L0 as 4) [] h
theorem hX10_onlyOne : ∀ q ∈ ([(43, zk_iP pX4_everybody), (96, zk_iP pX10_likeliestOf)] : List (Nat × zk_P)), zk_OK zk_C 5 q.1 q.2 := zk_cons (okX4_everybody.up (by decide)) (zk_cons (okX10_likeliestOf.up (by decide)) (zk_nil))
theorem okX10_onlyOne : zk_OK zk_C 6 97 (zk_iP pX10_onlyOne) := zk_mkI hX10_onlyOne rfl fcX10_onlyOne
def pX10_whoCouldAll : zk_pI := fun as h K => zk_arg as 4 = true ∧ zk_X zk_C (zk_lkl lkX10) zk_mt (zk_cxl [(41, zk_iP pX4_whoCould), (43, zk_iP pX4_everybody)]) (some .int) (zk_at cdX10_whoCouldAll) (zk_qi K) 0 (zk_L0 as 4) [] h
theorem hX10_whoCouldAll : ∀ q ∈ ([(41, zk_iP pX4_whoCould), (43, zk_iP pX4_everybody)] : List (Nat × zk_P)), zk_OK zk_C 4 q.1 q.2 := zk_cons (okX4_whoCould.up (by decide)) (zk_cons (okX4_everybody.up (by decide)) (zk_nil))
theorem okX10_whoCouldAll : zk_OK zk_C 5 98 (zk_iP pX10_whoCouldAll) := zk_mkI hX10_whoCouldAll rfl fcX10_whoCouldAll
def pX10_couldAllBeBy : zk_pI := fun as h K => zk_arg as 4 = true ∧ zk_X zk_C (zk_lkl lkX10) zk_mt (zk_cxl []) (some .boolean) (zk_at cdX10_couldAllBeBy) (zk_qi K) 0 (zk_L0 as 4) [] h
theorem hX10_couldAllBeBy : ∀ q ∈ ([] : List (Nat × zk_P)), zk_OK zk_C 0 q.1 q.2 := zk_nil
theorem okX10_couldAllBeBy : zk_OK zk_C 1 100 (zk_iP pX10_couldAllBeBy) := zk_mkI hX10_couldAllBeBy rfl fcX10_couldAllBeBy
def pX10_fewestHands : zk_pI := fun as h K => zk_arg as 5 = true ∧ zk_X zk_C (zk_lkl lkX10) zk_mt (zk_cxl [(41, zk_iP pX4_whoCould), (43, zk_iP pX4_everybody), (100, zk_iP pX10_couldAllBeBy), (262, zk_iP (pJ6_bitCount_0f7a4 zk_C))]) (some .int) (zk_at cdX10_fewestHands) (zk_qi K) 0 (zk_L0 as 5) [] h
theorem hX10_fewestHands : ∀ q ∈ ([(41, zk_iP pX4_whoCould), (43, zk_iP pX4_everybody), (100, zk_iP pX10_couldAllBeBy), (262, zk_iP (pJ6_bitCount_0f7a4 zk_C))] : List (Nat × zk_P)), zk_OK zk_C 4 q.1 q.2 := zk_cons (okX4_whoCould.up (by decide)) (zk_cons (okX4_everybody.up (by decide)) (zk_cons (okX10_couldAllBeBy.up (by decide)) (zk_cons (okJ6_bitCount_0f7a4.up (by decide)) (zk_nil))))
theorem okX10_fewestHands : zk_OK zk_C 5 99 (zk_iP pX10_fewestHands) := zk_mkI hX10_fewestHands rfl fcX10_fewestHands
def pX10_addWriter : zk_pI := fun as h K => zk_arg as 6 = true ∧ zk_X zk_C (zk_lkl lkX10) zk_mt (zk_cxl [(43, zk_iP pX4_everybody)]) (some .int) (zk_at cdX10_addWriter) (zk_qi K) 0 (zk_L0 as 6) [] h
theorem hX10_addWriter : ∀ q ∈ ([(43, zk_iP pX4_everybody)] : List (Nat × zk_P)), zk_OK zk_C 1 q.1 q.2 := zk_cons (okX4_everybody.up (by decide)) (zk_nil)
theorem okX10_addWriter : zk_OK zk_C 2 102 (zk_iP pX10_addWriter) := zk_mkI hX10_addWriter rfl fcX10_addWriter
def pX10_waysByUnlike : zk_pI := fun as h K => zk_arg as 4 = true ∧ zk_X zk_C (zk_lkl lkX10) zk_mt (zk_cxl [(41, zk_iP pX4_whoCould), (102, zk_iP pX10_addWriter), (272, zk_vP pJ7_fill_53178)]) (some .int) (zk_at cdX10_waysByUnlike) (zk_qi K) 0 (zk_L0 as 4) [] h
theorem hX10_waysByUnlike : ∀ q ∈ ([(41, zk_iP pX4_whoCould), (102, zk_iP pX10_addWriter), (272, zk_vP pJ7_fill_53178)] : List (Nat × zk_P)), zk_OK zk_C 4 q.1 q.2 := zk_cons (okX4_whoCould.up (by decide)) (zk_cons (okX10_addWriter.up (by decide)) (zk_cons (okJ7_fill_53178.up (by decide)) (zk_nil)))
theorem okX10_waysByUnlike : zk_OK zk_C 5 101 (zk_iP pX10_waysByUnlike) := zk_mkI hX10_waysByUnlike rfl fcX10_waysByUnlike
def pX10_greatestDivisor : zk_pI := fun as h K => zk_arg as 7 = true ∧ zk_X zk_C (zk_lkl lkX10) zk_mt (zk_cxl []) (some .int) (zk_at cdX10_greatestDivisor) (zk_qi K) 0 (zk_L0 as 7) [] h
theorem hX10_greatestDivisor : ∀ q ∈ ([] : List (Nat × zk_P)), zk_OK zk_C 0 q.1 q.2 := zk_nil
theorem okX10_greatestDivisor : zk_OK zk_C 1 104 (zk_iP pX10_greatestDivisor) := zk_mkI hX10_greatestDivisor rfl fcX10_greatestDivisor
def pX10_lowestTerms : zk_pI := fun as h K => zk_arg as 5 = true ∧ zk_X zk_C (zk_lkl lkX10) zk_mt (zk_cxl [(104, zk_iP pX10_greatestDivisor)]) (some .int) (zk_at cdX10_lowestTerms) (zk_qi K) 0 (zk_L0 as 5) [] h
theorem hX10_lowestTerms : ∀ q ∈ ([(104, zk_iP pX10_greatestDivisor)] : List (Nat × zk_P)), zk_OK zk_C 1 q.1 q.2 := zk_cons (okX10_greatestDivisor.up (by decide)) (zk_nil)
theorem okX10_lowestTerms : zk_OK zk_C 2 103 (zk_iP pX10_lowestTerms) := zk_mkI hX10_lowestTerms rfl fcX10_lowestTerms
def pX11_person : zk_pI := fun as h K => zk_arg as 2 = true ∧ zk_X zk_C (zk_lkl lkX11) zk_mt (zk_cxl [(33, zk_iP pX4_fits), (34, zk_iP pX4_addPerson)]) (some .int) (zk_at cdX11_person) (zk_qi K) 0 (zk_L0 as 2) [] h
theorem hX11_person : ∀ q ∈ ([(33, zk_iP pX4_fits), (34, zk_iP pX4_addPerson)] : List (Nat × zk_P)), zk_OK zk_C 1 q.1 q.2 := zk_cons (okX4_fits.up (by decide)) (zk_cons (okX4_addPerson.up (by decide)) (zk_nil))
theorem okX11_person : zk_OK zk_C 2 105 (zk_iP pX11_person) := zk_mkI hX11_person rfl fcX11_person
def pX11_shelfAt : zk_pR := fun as h K => zk_arg as 2 = true ∧ zk_X zk_C (zk_lkl lkX11) zk_mt (zk_cxl []) (some (.object "CardUnsigned$Shelf")) (zk_at cdX11_shelfAt) (zk_qr K) 0 (zk_L0 as 2) [] h
theorem hX11_shelfAt : ∀ q ∈ ([] : List (Nat × zk_P)), zk_OK zk_C 0 q.1 q.2 := zk_nil
theorem okX11_shelfAt : zk_OK zk_C 1 151 (zk_rP pX11_shelfAt) := zk_mkR hX11_shelfAt rfl fcX11_shelfAt
def pX11_people : zk_pI := fun as h K => zk_arg as 5 = true ∧ zk_X zk_C (zk_lkl lkX11) zk_mt (zk_cxl [(75, zk_iP pX7_peopleCome), (87, zk_iP pX8_isRowOf), (151, zk_rP pX11_shelfAt)]) (some .int) (zk_at cdX11_people) (zk_qi K) 0 (zk_L0 as 5) [] h
theorem hX11_people : ∀ q ∈ ([(75, zk_iP pX7_peopleCome), (87, zk_iP pX8_isRowOf), (151, zk_rP pX11_shelfAt)] : List (Nat × zk_P)), zk_OK zk_C 3 q.1 q.2 := zk_cons (okX7_peopleCome.up (by decide)) (zk_cons (okX8_isRowOf.up (by decide)) (zk_cons (okX11_shelfAt.up (by decide)) (zk_nil)))
theorem okX11_people : zk_OK zk_C 4 106 (zk_iP pX11_people) := zk_mkI hX11_people rfl fcX11_people
def pX11_card : zk_pI := fun as h K => zk_arg as 3 = true ∧ zk_X zk_C (zk_lkl lkX11) zk_mt (zk_cxl [(25, zk_iP pX4_isPerson), (31, zk_iP pX4_isWay), (35, zk_iP pX4_addCard)]) (some .int) (zk_at cdX11_card) (zk_qi K) 0 (zk_L0 as 3) [] h
theorem hX11_card : ∀ q ∈ ([(25, zk_iP pX4_isPerson), (31, zk_iP pX4_isWay), (35, zk_iP pX4_addCard)] : List (Nat × zk_P)), zk_OK zk_C 2 q.1 q.2 := zk_cons (okX4_isPerson.up (by decide)) (zk_cons (okX4_isWay.up (by decide)) (zk_cons (okX4_addCard.up (by decide)) (zk_nil)))
theorem okX11_card : zk_OK zk_C 3 107 (zk_iP pX11_card) := zk_mkI hX11_card rfl fcX11_card
def pX11_mend : zk_pI := fun as h K => zk_arg as 5 = true ∧ zk_X zk_C (zk_lkl lkX11) zk_mt (zk_cxl [(10, zk_vP pX1_make), (32, zk_iP pX4_has), (33, zk_iP pX4_fits)]) (some .int) (zk_at cdX11_mend) (zk_qi K) 0 (zk_L0 as 5) [] h
theorem hX11_mend : ∀ q ∈ ([(10, zk_vP pX1_make), (32, zk_iP pX4_has), (33, zk_iP pX4_fits)] : List (Nat × zk_P)), zk_OK zk_C 2 q.1 q.2 := zk_cons (okX1_make.up (by decide)) (zk_cons (okX4_has.up (by decide)) (zk_cons (okX4_fits.up (by decide)) (zk_nil)))
theorem okX11_mend : zk_OK zk_C 3 108 (zk_iP pX11_mend) := zk_mkI hX11_mend rfl fcX11_mend
def pX11_of : zk_pI := fun as h K => zk_arg as 3 = true ∧ zk_X zk_C (zk_lkl lkX11) zk_mt (zk_cxl [(32, zk_iP pX4_has)]) (some .int) (zk_at cdX11_of) (zk_qi K) 0 (zk_L0 as 3) [] h
theorem hX11_of : ∀ q ∈ ([(32, zk_iP pX4_has)] : List (Nat × zk_P)), zk_OK zk_C 2 q.1 q.2 := zk_cons (okX4_has.up (by decide)) (zk_nil)
theorem okX11_of : zk_OK zk_C 3 109 (zk_iP pX11_of) := zk_mkI hX11_of rfl fcX11_of
def pX11_feed : zk_pI := fun as h K => zk_arg as 2 = true ∧ zk_X zk_C (zk_lkl lkX11) zk_mt (zk_cxl [(49, zk_iP pX5_takeLetter)]) (some .int) (zk_at cdX11_feed) (zk_qi K) 0 (zk_L0 as 2) [] h
theorem hX11_feed : ∀ q ∈ ([(49, zk_iP pX5_takeLetter)] : List (Nat × zk_P)), zk_OK zk_C 1 q.1 q.2 := zk_cons (okX5_takeLetter.up (by decide)) (zk_nil)
theorem okX11_feed : zk_OK zk_C 2 110 (zk_iP pX11_feed) := zk_mkI hX11_feed rfl fcX11_feed
def pX11_law : zk_pI := fun as h K => zk_arg as 2 = true ∧ zk_X zk_C (zk_lkl lkX11) zk_mt (zk_cxl [(20, zk_vP pX3_adopt), (50, zk_iP pX5_parseTape)]) (some .int) (zk_at cdX11_law) (zk_qi K) 0 (zk_L0 as 2) [] h
theorem hX11_law : ∀ q ∈ ([(20, zk_vP pX3_adopt), (50, zk_iP pX5_parseTape)] : List (Nat × zk_P)), zk_OK zk_C 7 q.1 q.2 := zk_cons (okX3_adopt.up (by decide)) (zk_cons (okX5_parseTape.up (by decide)) (zk_nil))
theorem okX11_law : zk_OK zk_C 8 111 (zk_iP pX11_law) := zk_mkI hX11_law rfl fcX11_law
def pX11_could : zk_pI := fun as h K => zk_arg as 2 = true ∧ zk_X zk_C (zk_lkl lkX11) zk_mt (zk_cxl [(26, zk_iP pX4_isCard), (41, zk_iP pX4_whoCould)]) (some .int) (zk_at cdX11_could) (zk_qi K) 0 (zk_L0 as 2) [] h
theorem hX11_could : ∀ q ∈ ([(26, zk_iP pX4_isCard), (41, zk_iP pX4_whoCould)] : List (Nat × zk_P)), zk_OK zk_C 4 q.1 q.2 := zk_cons (okX4_isCard.up (by decide)) (zk_cons (okX4_whoCould.up (by decide)) (zk_nil))
theorem okX11_could : zk_OK zk_C 5 112 (zk_iP pX11_could) := zk_mkI hX11_could rfl fcX11_could
def pX11_counts : zk_pI := fun as h K => zk_arg as 2 = true ∧ zk_X zk_C (zk_lkl lkX11) zk_mt (zk_cxl [(29, zk_iP pX4_isCardAndPerson), (92, zk_iP pX10_weigh)]) (some .int) (zk_at cdX11_counts) (zk_qi K) 0 (zk_L0 as 2) [] h
theorem hX11_counts : ∀ q ∈ ([(29, zk_iP pX4_isCardAndPerson), (92, zk_iP pX10_weigh)] : List (Nat × zk_P)), zk_OK zk_C 4 q.1 q.2 := zk_cons (okX4_isCardAndPerson.up (by decide)) (zk_cons (okX10_weigh.up (by decide)) (zk_nil))
theorem okX11_counts : zk_OK zk_C 5 113 (zk_iP pX11_counts) := zk_mkI hX11_counts rfl fcX11_counts
def pX11_isZeroOrOne : zk_pI := fun as h K => zk_arg as 1 = true ∧ zk_X zk_C (zk_lkl lkX11) zk_mt (zk_cxl []) (some .boolean) (zk_at cdX11_isZeroOrOne) (zk_qi K) 0 (zk_L0 as 1) [] h
theorem hX11_isZeroOrOne : ∀ q ∈ ([] : List (Nat × zk_P)), zk_OK zk_C 0 q.1 q.2 := zk_nil
theorem okX11_isZeroOrOne : zk_OK zk_C 1 152 (zk_iP pX11_isZeroOrOne) := zk_mkI hX11_isZeroOrOne rfl fcX11_isZeroOrOne
def pX11_likely : zk_pL := fun as h K => zk_arg as 4 = true ∧ zk_X zk_C (zk_lkl lkX11) zk_mt (zk_cxl [(29, zk_iP pX4_isCardAndPerson), (92, zk_iP pX10_weigh), (103, zk_iP pX10_lowestTerms), (152, zk_iP pX11_isZeroOrOne)]) (some .long) (zk_at cdX11_likely) (zk_ql K) 0 (zk_L0 as 4) [] h
theorem hX11_likely : ∀ q ∈ ([(29, zk_iP pX4_isCardAndPerson), (92, zk_iP pX10_weigh), (103, zk_iP pX10_lowestTerms), (152, zk_iP pX11_isZeroOrOne)] : List (Nat × zk_P)), zk_OK zk_C 4 q.1 q.2 := zk_cons (okX4_isCardAndPerson.up (by decide)) (zk_cons (okX10_weigh.up (by decide)) (zk_cons (okX10_lowestTerms.up (by decide)) (zk_cons (okX11_isZeroOrOne.up (by decide)) (zk_nil))))
theorem okX11_likely : zk_OK zk_C 5 114 (zk_lP pX11_likely) := zk_mkL hX11_likely rfl fcX11_likely
def pX11_likeliest : zk_pI := fun as h K => zk_arg as 3 = true ∧ zk_X zk_C (zk_lkl lkX11) zk_mt (zk_cxl [(26, zk_iP pX4_isCard), (43, zk_iP pX4_everybody), (96, zk_iP pX10_likeliestOf), (97, zk_iP pX10_onlyOne), (152, zk_iP pX11_isZeroOrOne)]) (some .int) (zk_at cdX11_likeliest) (zk_qi K) 0 (zk_L0 as 3) [] h
theorem hX11_likeliest : ∀ q ∈ ([(26, zk_iP pX4_isCard), (43, zk_iP pX4_everybody), (96, zk_iP pX10_likeliestOf), (97, zk_iP pX10_onlyOne), (152, zk_iP pX11_isZeroOrOne)] : List (Nat × zk_P)), zk_OK zk_C 6 q.1 q.2 := zk_cons (okX4_isCard.up (by decide)) (zk_cons (okX4_everybody.up (by decide)) (zk_cons (okX10_likeliestOf.up (by decide)) (zk_cons (okX10_onlyOne.up (by decide)) (zk_cons (okX11_isZeroOrOne.up (by decide)) (zk_nil)))))
theorem okX11_likeliest : zk_OK zk_C 7 115 (zk_iP pX11_likeliest) := zk_mkI hX11_likeliest rfl fcX11_likeliest
def pX11_allByOne : zk_pI := fun as h K => zk_arg as 2 = true ∧ zk_X zk_C (zk_lkl lkX11) zk_mt (zk_cxl [(28, zk_iP pX4_isSet), (98, zk_iP pX10_whoCouldAll)]) (some .int) (zk_at cdX11_allByOne) (zk_qi K) 0 (zk_L0 as 2) [] h
theorem hX11_allByOne : ∀ q ∈ ([(28, zk_iP pX4_isSet), (98, zk_iP pX10_whoCouldAll)] : List (Nat × zk_P)), zk_OK zk_C 5 q.1 q.2 := zk_cons (okX4_isSet.up (by decide)) (zk_cons (okX10_whoCouldAll.up (by decide)) (zk_nil))
theorem okX11_allByOne : zk_OK zk_C 6 116 (zk_iP pX11_allByOne) := zk_mkI hX11_allByOne rfl fcX11_allByOne
def pX11_hands : zk_pI := fun as h K => zk_arg as 4 = true ∧ zk_X zk_C (zk_lkl lkX11) zk_mt (zk_cxl [(28, zk_iP pX4_isSet), (99, zk_iP pX10_fewestHands), (152, zk_iP pX11_isZeroOrOne), (262, zk_iP (pJ6_bitCount_0f7a4 zk_C))]) (some .int) (zk_at cdX11_hands) (zk_qi K) 0 (zk_L0 as 4) [] h
theorem hX11_hands : ∀ q ∈ ([(28, zk_iP pX4_isSet), (99, zk_iP pX10_fewestHands), (152, zk_iP pX11_isZeroOrOne), (262, zk_iP (pJ6_bitCount_0f7a4 zk_C))] : List (Nat × zk_P)), zk_OK zk_C 5 q.1 q.2 := zk_cons (okX4_isSet.up (by decide)) (zk_cons (okX10_fewestHands.up (by decide)) (zk_cons (okX11_isZeroOrOne.up (by decide)) (zk_cons (okJ6_bitCount_0f7a4.up (by decide)) (zk_nil))))
theorem okX11_hands : zk_OK zk_C 6 117 (zk_iP pX11_hands) := zk_mkI hX11_hands rfl fcX11_hands
def pX11_unlike : zk_pI := fun as h K => zk_arg as 2 = true ∧ zk_X zk_C (zk_lkl lkX11) zk_mt (zk_cxl [(28, zk_iP pX4_isSet), (101, zk_iP pX10_waysByUnlike)]) (some .int) (zk_at cdX11_unlike) (zk_qi K) 0 (zk_L0 as 2) [] h
theorem hX11_unlike : ∀ q ∈ ([(28, zk_iP pX4_isSet), (101, zk_iP pX10_waysByUnlike)] : List (Nat × zk_P)), zk_OK zk_C 5 q.1 q.2 := zk_cons (okX4_isSet.up (by decide)) (zk_cons (okX10_waysByUnlike.up (by decide)) (zk_nil))
theorem okX11_unlike : zk_OK zk_C 6 118 (zk_iP pX11_unlike) := zk_mkI hX11_unlike rfl fcX11_unlike
def pX11_evenings : zk_pI := fun as h K => zk_arg as 3 = true ∧ zk_X zk_C (zk_lkl lkX11) zk_mt (zk_cxl [(27, zk_iP pX4_isSecret), (46, zk_iP pX4_whoKnowsAfter)]) (some .int) (zk_at cdX11_evenings) (zk_qi K) 0 (zk_L0 as 3) [] h
theorem hX11_evenings : ∀ q ∈ ([(27, zk_iP pX4_isSecret), (46, zk_iP pX4_whoKnowsAfter)] : List (Nat × zk_P)), zk_OK zk_C 3 q.1 q.2 := zk_cons (okX4_isSecret.up (by decide)) (zk_cons (okX4_whoKnowsAfter.up (by decide)) (zk_nil))
theorem okX11_evenings : zk_OK zk_C 4 119 (zk_iP pX11_evenings) := zk_mkI hX11_evenings rfl fcX11_evenings
def pX11_hears : zk_pI := fun as h K => zk_arg as 3 = true ∧ zk_X zk_C (zk_lkl lkX11) zk_mt (zk_cxl [(25, zk_iP pX4_isPerson), (27, zk_iP pX4_isSecret), (47, zk_iP pX4_eveningOfHearing)]) (some .int) (zk_at cdX11_hears) (zk_qi K) 0 (zk_L0 as 3) [] h
theorem hX11_hears : ∀ q ∈ ([(25, zk_iP pX4_isPerson), (27, zk_iP pX4_isSecret), (47, zk_iP pX4_eveningOfHearing)] : List (Nat × zk_P)), zk_OK zk_C 3 q.1 q.2 := zk_cons (okX4_isPerson.up (by decide)) (zk_cons (okX4_isSecret.up (by decide)) (zk_cons (okX4_eveningOfHearing.up (by decide)) (zk_nil)))
theorem okX11_hears : zk_OK zk_C 4 120 (zk_iP pX11_hears) := zk_mkI hX11_hears rfl fcX11_hears
def pX11_ask : zk_pI := fun as h K => zk_arg as 3 = true ∧ zk_X zk_C (zk_lkl lkX11) zk_mt (zk_cxl [(26, zk_iP pX4_isCard), (64, zk_iP pX6_bestQuestion), (152, zk_iP pX11_isZeroOrOne)]) (some .int) (zk_at cdX11_ask) (zk_qi K) 0 (zk_L0 as 3) [] h
theorem hX11_ask : ∀ q ∈ ([(26, zk_iP pX4_isCard), (64, zk_iP pX6_bestQuestion), (152, zk_iP pX11_isZeroOrOne)] : List (Nat × zk_P)), zk_OK zk_C 5 q.1 q.2 := zk_cons (okX4_isCard.up (by decide)) (zk_cons (okX6_bestQuestion.up (by decide)) (zk_cons (okX11_isZeroOrOne.up (by decide)) (zk_nil)))
theorem okX11_ask : zk_OK zk_C 6 121 (zk_iP pX11_ask) := zk_mkI hX11_ask rfl fcX11_ask
def pX11_worth : zk_pI := fun as h K => zk_arg as 3 = true ∧ zk_X zk_C (zk_lkl lkX11) zk_mt (zk_cxl [(29, zk_iP pX4_isCardAndPerson), (67, zk_iP pX6_worthOfThanking), (92, zk_iP pX10_weigh)]) (some .int) (zk_at cdX11_worth) (zk_qi K) 0 (zk_L0 as 3) [] h
theorem hX11_worth : ∀ q ∈ ([(29, zk_iP pX4_isCardAndPerson), (67, zk_iP pX6_worthOfThanking), (92, zk_iP pX10_weigh)] : List (Nat × zk_P)), zk_OK zk_C 4 q.1 q.2 := zk_cons (okX4_isCardAndPerson.up (by decide)) (zk_cons (okX6_worthOfThanking.up (by decide)) (zk_cons (okX10_weigh.up (by decide)) (zk_nil)))
theorem okX11_worth : zk_OK zk_C 5 122 (zk_iP pX11_worth) := zk_mkI hX11_worth rfl fcX11_worth
def pX11_thank : zk_pI := fun as h K => zk_arg as 2 = true ∧ zk_X zk_C (zk_lkl lkX11) zk_mt (zk_cxl [(26, zk_iP pX4_isCard), (68, zk_iP pX6_whomToThank)]) (some .int) (zk_at cdX11_thank) (zk_qi K) 0 (zk_L0 as 2) [] h
theorem hX11_thank : ∀ q ∈ ([(26, zk_iP pX4_isCard), (68, zk_iP pX6_whomToThank)] : List (Nat × zk_P)), zk_OK zk_C 5 q.1 q.2 := zk_cons (okX4_isCard.up (by decide)) (zk_cons (okX6_whomToThank.up (by decide)) (zk_nil))
theorem okX11_thank : zk_OK zk_C 6 123 (zk_iP pX11_thank) := zk_mkI hX11_thank rfl fcX11_thank
def pX11_next : zk_pI := fun as h K => zk_arg as 3 = true ∧ zk_X zk_C (zk_lkl lkX11) zk_mt (zk_cxl [(26, zk_iP pX4_isCard), (69, zk_iP pX6_tellingSecret), (152, zk_iP pX11_isZeroOrOne)]) (some .int) (zk_at cdX11_next) (zk_qi K) 0 (zk_L0 as 3) [] h
theorem hX11_next : ∀ q ∈ ([(26, zk_iP pX4_isCard), (69, zk_iP pX6_tellingSecret), (152, zk_iP pX11_isZeroOrOne)] : List (Nat × zk_P)), zk_OK zk_C 4 q.1 q.2 := zk_cons (okX4_isCard.up (by decide)) (zk_cons (okX6_tellingSecret.up (by decide)) (zk_cons (okX11_isZeroOrOne.up (by decide)) (zk_nil)))
theorem okX11_next : zk_OK zk_C 5 124 (zk_iP pX11_next) := zk_mkI hX11_next rfl fcX11_next
def pX11_write : zk_pI := fun as h K => zk_arg as 4 = true ∧ zk_X zk_C (zk_lkl lkX11) zk_mt (zk_cxl [(30, zk_iP pX4_isTwoPeople), (33, zk_iP pX4_fits), (70, zk_vP pX6_seekWay), (152, zk_iP pX11_isZeroOrOne)]) (some .int) (zk_at cdX11_write) (zk_qi K) 0 (zk_L0 as 4) [] h
theorem hX11_write : ∀ q ∈ ([(30, zk_iP pX4_isTwoPeople), (33, zk_iP pX4_fits), (70, zk_vP pX6_seekWay), (152, zk_iP pX11_isZeroOrOne)] : List (Nat × zk_P)), zk_OK zk_C 6 q.1 q.2 := zk_cons (okX4_isTwoPeople.up (by decide)) (zk_cons (okX4_fits.up (by decide)) (zk_cons (okX6_seekWay.up (by decide)) (zk_cons (okX11_isZeroOrOne.up (by decide)) (zk_nil))))
theorem okX11_write : zk_OK zk_C 7 125 (zk_iP pX11_write) := zk_mkI hX11_write rfl fcX11_write
def pX11_written : zk_pL := fun as h K => zk_arg as 5 = true ∧ zk_X zk_C (zk_lkl lkX11) zk_mt (zk_cxl [(30, zk_iP pX4_isTwoPeople), (33, zk_iP pX4_fits), (70, zk_vP pX6_seekWay), (103, zk_iP pX10_lowestTerms), (152, zk_iP pX11_isZeroOrOne)]) (some .long) (zk_at cdX11_written) (zk_ql K) 0 (zk_L0 as 5) [] h
theorem hX11_written : ∀ q ∈ ([(30, zk_iP pX4_isTwoPeople), (33, zk_iP pX4_fits), (70, zk_vP pX6_seekWay), (103, zk_iP pX10_lowestTerms), (152, zk_iP pX11_isZeroOrOne)] : List (Nat × zk_P)), zk_OK zk_C 6 q.1 q.2 := zk_cons (okX4_isTwoPeople.up (by decide)) (zk_cons (okX4_fits.up (by decide)) (zk_cons (okX6_seekWay.up (by decide)) (zk_cons (okX10_lowestTerms.up (by decide)) (zk_cons (okX11_isZeroOrOne.up (by decide)) (zk_nil)))))
theorem okX11_written : zk_OK zk_C 7 126 (zk_lP pX11_written) := zk_mkL hX11_written rfl fcX11_written
def pX11_looks : zk_pI := fun as h K => zk_arg as 5 = true ∧ zk_X zk_C (zk_lkl lkX11) zk_mt (zk_cxl [(77, zk_iP pX7_firstLookFromOutside), (78, zk_vP pX7_tallyLooks), (79, zk_iP pX7_mostTallied), (88, zk_iP pX8_refusalOfRow), (151, zk_rP pX11_shelfAt)]) (some .int) (zk_at cdX11_looks) (zk_qi K) 0 (zk_L0 as 5) [] h
theorem hX11_looks : ∀ q ∈ ([(77, zk_iP pX7_firstLookFromOutside), (78, zk_vP pX7_tallyLooks), (79, zk_iP pX7_mostTallied), (88, zk_iP pX8_refusalOfRow), (151, zk_rP pX11_shelfAt)] : List (Nat × zk_P)), zk_OK zk_C 2 q.1 q.2 := zk_cons (okX7_firstLookFromOutside.up (by decide)) (zk_cons (okX7_tallyLooks.up (by decide)) (zk_cons (okX7_mostTallied.up (by decide)) (zk_cons (okX8_refusalOfRow.up (by decide)) (zk_cons (okX11_shelfAt.up (by decide)) (zk_nil)))))
theorem okX11_looks : zk_OK zk_C 3 127 (zk_iP pX11_looks) := zk_mkI hX11_looks rfl fcX11_looks
def pX11_since : zk_pI := fun as h K => zk_arg as 5 = true ∧ zk_X zk_C (zk_lkl lkX11) zk_mt (zk_cxl [(33, zk_iP pX4_fits), (78, zk_vP pX7_tallyLooks), (79, zk_iP pX7_mostTallied), (88, zk_iP pX8_refusalOfRow), (151, zk_rP pX11_shelfAt)]) (some .int) (zk_at cdX11_since) (zk_qi K) 0 (zk_L0 as 5) [] h
theorem hX11_since : ∀ q ∈ ([(33, zk_iP pX4_fits), (78, zk_vP pX7_tallyLooks), (79, zk_iP pX7_mostTallied), (88, zk_iP pX8_refusalOfRow), (151, zk_rP pX11_shelfAt)] : List (Nat × zk_P)), zk_OK zk_C 2 q.1 q.2 := zk_cons (okX4_fits.up (by decide)) (zk_cons (okX7_tallyLooks.up (by decide)) (zk_cons (okX7_mostTallied.up (by decide)) (zk_cons (okX8_refusalOfRow.up (by decide)) (zk_cons (okX11_shelfAt.up (by decide)) (zk_nil)))))
theorem okX11_since : zk_OK zk_C 3 128 (zk_iP pX11_since) := zk_mkI hX11_since rfl fcX11_since
def pX11_judge : zk_pI := fun as h K => zk_arg as 4 = true ∧ zk_X zk_C (zk_lkl lkX11) zk_mt (zk_cxl [(80, zk_iP pX7_firstWrongLetter), (88, zk_iP pX8_refusalOfRow), (151, zk_rP pX11_shelfAt)]) (some .int) (zk_at cdX11_judge) (zk_qi K) 0 (zk_L0 as 4) [] h
theorem hX11_judge : ∀ q ∈ ([(80, zk_iP pX7_firstWrongLetter), (88, zk_iP pX8_refusalOfRow), (151, zk_rP pX11_shelfAt)] : List (Nat × zk_P)), zk_OK zk_C 6 q.1 q.2 := zk_cons (okX7_firstWrongLetter.up (by decide)) (zk_cons (okX8_refusalOfRow.up (by decide)) (zk_cons (okX11_shelfAt.up (by decide)) (zk_nil)))
theorem okX11_judge : zk_OK zk_C 7 129 (zk_iP pX11_judge) := zk_mkI hX11_judge rfl fcX11_judge
def pX11_filled : zk_pL := fun as h K => zk_arg as 4 = true ∧ zk_X zk_C (zk_lkl lkX11) zk_mt (zk_cxl [(80, zk_iP pX7_firstWrongLetter), (82, zk_lP pX7_lettersFilled), (87, zk_iP pX8_isRowOf), (151, zk_rP pX11_shelfAt), (152, zk_iP pX11_isZeroOrOne)]) (some .long) (zk_at cdX11_filled) (zk_ql K) 0 (zk_L0 as 4) [] h
theorem hX11_filled : ∀ q ∈ ([(80, zk_iP pX7_firstWrongLetter), (82, zk_lP pX7_lettersFilled), (87, zk_iP pX8_isRowOf), (151, zk_rP pX11_shelfAt), (152, zk_iP pX11_isZeroOrOne)] : List (Nat × zk_P)), zk_OK zk_C 6 q.1 q.2 := zk_cons (okX7_firstWrongLetter.up (by decide)) (zk_cons (okX7_lettersFilled.up (by decide)) (zk_cons (okX8_isRowOf.up (by decide)) (zk_cons (okX11_shelfAt.up (by decide)) (zk_cons (okX11_isZeroOrOne.up (by decide)) (zk_nil)))))
theorem okX11_filled : zk_OK zk_C 7 130 (zk_lP pX11_filled) := zk_mkL hX11_filled rfl fcX11_filled
def pX11_hope : zk_pI := fun as h K => zk_arg as 3 = true ∧ zk_X zk_C (zk_lkl lkX11) zk_mt (zk_cxl [(26, zk_iP pX4_isCard), (72, zk_iP pX6_hopeOfReceiver), (152, zk_iP pX11_isZeroOrOne)]) (some .int) (zk_at cdX11_hope) (zk_qi K) 0 (zk_L0 as 3) [] h
theorem hX11_hope : ∀ q ∈ ([(26, zk_iP pX4_isCard), (72, zk_iP pX6_hopeOfReceiver), (152, zk_iP pX11_isZeroOrOne)] : List (Nat × zk_P)), zk_OK zk_C 6 q.1 q.2 := zk_cons (okX4_isCard.up (by decide)) (zk_cons (okX6_hopeOfReceiver.up (by decide)) (zk_cons (okX11_isZeroOrOne.up (by decide)) (zk_nil)))
theorem okX11_hope : zk_OK zk_C 7 131 (zk_iP pX11_hope) := zk_mkI hX11_hope rfl fcX11_hope
def pX11_drawn : zk_pI := fun as h K => zk_arg as 5 = true ∧ zk_X zk_C (zk_lkl lkX11) zk_mt (zk_cxl [(26, zk_iP pX4_isCard), (73, zk_iP pX6_timesDrawn)]) (some .int) (zk_at cdX11_drawn) (zk_qi K) 0 (zk_L0 as 5) [] h
theorem hX11_drawn : ∀ q ∈ ([(26, zk_iP pX4_isCard), (73, zk_iP pX6_timesDrawn)] : List (Nat × zk_P)), zk_OK zk_C 5 q.1 q.2 := zk_cons (okX4_isCard.up (by decide)) (zk_cons (okX6_timesDrawn.up (by decide)) (zk_nil))
theorem okX11_drawn : zk_OK zk_C 6 132 (zk_iP pX11_drawn) := zk_mkI hX11_drawn rfl fcX11_drawn
def pX11_pass : zk_pI := fun as h K => zk_arg as 2 = true ∧ zk_X zk_C (zk_lkl lkX11) zk_mt (zk_cxl [(14, zk_iP pX2_letMinutesPass)]) (some .int) (zk_at cdX11_pass) (zk_qi K) 0 (zk_L0 as 2) [] h
theorem hX11_pass : ∀ q ∈ ([(14, zk_iP pX2_letMinutesPass)] : List (Nat × zk_P)), zk_OK zk_C 1 q.1 q.2 := zk_cons (okX2_letMinutesPass.up (by decide)) (zk_nil)
theorem okX11_pass : zk_OK zk_C 2 133 (zk_iP pX11_pass) := zk_mkI hX11_pass rfl fcX11_pass
def pX11_send : zk_pI := fun as h K => zk_arg as 3 = true ∧ zk_X zk_C (zk_lkl lkX11) zk_mt (zk_cxl [(15, zk_iP pX2_sendCard), (30, zk_iP pX4_isTwoPeople), (31, zk_iP pX4_isWay), (40, zk_iP pX4_canWriteSo)]) (some .int) (zk_at cdX11_send) (zk_qi K) 0 (zk_L0 as 3) [] h
theorem hX11_send : ∀ q ∈ ([(15, zk_iP pX2_sendCard), (30, zk_iP pX4_isTwoPeople), (31, zk_iP pX4_isWay), (40, zk_iP pX4_canWriteSo)] : List (Nat × zk_P)), zk_OK zk_C 3 q.1 q.2 := zk_cons (okX2_sendCard.up (by decide)) (zk_cons (okX4_isTwoPeople.up (by decide)) (zk_cons (okX4_isWay.up (by decide)) (zk_cons (okX4_canWriteSo.up (by decide)) (zk_nil))))
theorem okX11_send : zk_OK zk_C 4 134 (zk_iP pX11_send) := zk_mkI hX11_send rfl fcX11_send
def pX11_thanked : zk_pI := fun as h K => zk_arg as 2 = true ∧ zk_X zk_C (zk_lkl lkX11) zk_mt (zk_cxl [(16, zk_iP pX2_mayBeThanked), (17, zk_iP pX2_thankOne), (29, zk_iP pX4_isCardAndPerson)]) (some .int) (zk_at cdX11_thanked) (zk_qi K) 0 (zk_L0 as 2) [] h
theorem hX11_thanked : ∀ q ∈ ([(16, zk_iP pX2_mayBeThanked), (17, zk_iP pX2_thankOne), (29, zk_iP pX4_isCardAndPerson)] : List (Nat × zk_P)), zk_OK zk_C 2 q.1 q.2 := zk_cons (okX2_mayBeThanked.up (by decide)) (zk_cons (okX2_thankOne.up (by decide)) (zk_cons (okX4_isCardAndPerson.up (by decide)) (zk_nil)))
theorem okX11_thanked : zk_OK zk_C 3 135 (zk_iP pX11_thanked) := zk_mkI hX11_thanked rfl fcX11_thanked
def pX11_led : zk_pI := fun as h K => zk_arg as 2 = true ∧ zk_X zk_C (zk_lkl lkX11) zk_mt (zk_cxl []) (some .int) (zk_at cdX11_led) (zk_qi K) 0 (zk_L0 as 2) [] h
theorem hX11_led : ∀ q ∈ ([] : List (Nat × zk_P)), zk_OK zk_C 0 q.1 q.2 := zk_nil
theorem okX11_led : zk_OK zk_C 1 136 (zk_iP pX11_led) := zk_mkI hX11_led rfl fcX11_led
def pX11_image : zk_pI := fun as h K => zk_arg as 1 = true ∧ zk_X zk_C (zk_lkl lkX11) zk_mt (zk_cxl [(18, zk_iP pX2_keepImage)]) (some .int) (zk_at cdX11_image) (zk_qi K) 0 (zk_L0 as 1) [] h
theorem hX11_image : ∀ q ∈ ([(18, zk_iP pX2_keepImage)] : List (Nat × zk_P)), zk_OK zk_C 1 q.1 q.2 := zk_cons (okX2_keepImage.up (by decide)) (zk_nil)
theorem okX11_image : zk_OK zk_C 2 137 (zk_iP pX11_image) := zk_mkI hX11_image rfl fcX11_image
def pX11_back : zk_pI := fun as h K => zk_arg as 1 = true ∧ zk_X zk_C (zk_lkl lkX11) zk_mt (zk_cxl [(19, zk_iP pX2_layImageBack)]) (some .int) (zk_at cdX11_back) (zk_qi K) 0 (zk_L0 as 1) [] h
theorem hX11_back : ∀ q ∈ ([(19, zk_iP pX2_layImageBack)] : List (Nat × zk_P)), zk_OK zk_C 1 q.1 q.2 := zk_cons (okX2_layImageBack.up (by decide)) (zk_nil)
theorem okX11_back : zk_OK zk_C 2 138 (zk_iP pX11_back) := zk_mkI hX11_back rfl fcX11_back
def pX11_undo : zk_pI := fun as h K => zk_arg as 1 = true ∧ zk_X zk_C (zk_lkl lkX11) zk_mt (zk_cxl [(11, zk_iP pX1_takeBack)]) (some .int) (zk_at cdX11_undo) (zk_qi K) 0 (zk_L0 as 1) [] h
theorem hX11_undo : ∀ q ∈ ([(11, zk_iP pX1_takeBack)] : List (Nat × zk_P)), zk_OK zk_C 1 q.1 q.2 := zk_cons (okX1_takeBack.up (by decide)) (zk_nil)
theorem okX11_undo : zk_OK zk_C 2 139 (zk_iP pX11_undo) := zk_mkI hX11_undo rfl fcX11_undo
def pX11_redo : zk_pI := fun as h K => zk_arg as 1 = true ∧ zk_X zk_C (zk_lkl lkX11) zk_mt (zk_cxl [(12, zk_iP pX1_makeAgain)]) (some .int) (zk_at cdX11_redo) (zk_qi K) 0 (zk_L0 as 1) [] h
theorem hX11_redo : ∀ q ∈ ([(12, zk_iP pX1_makeAgain)] : List (Nat × zk_P)), zk_OK zk_C 1 q.1 q.2 := zk_cons (okX1_makeAgain.up (by decide)) (zk_nil)
theorem okX11_redo : zk_OK zk_C 2 140 (zk_iP pX11_redo) := zk_mkI hX11_redo rfl fcX11_redo
def pX11_body : zk_pI := fun as h K => zk_arg as 2 = true ∧ zk_X zk_C (zk_lkl lkX11) zk_mt (zk_cxl [(0, zk_iP pX0_isKind), (2, zk_iP pX0_add)]) (some .int) (zk_at cdX11_body) (zk_qi K) 0 (zk_L0 as 2) [] h
theorem hX11_body : ∀ q ∈ ([(0, zk_iP pX0_isKind), (2, zk_iP pX0_add)] : List (Nat × zk_P)), zk_OK zk_C 1 q.1 q.2 := zk_cons (okX0_isKind.up (by decide)) (zk_cons (okX0_add.up (by decide)) (zk_nil))
theorem okX11_body : zk_OK zk_C 2 141 (zk_iP pX11_body) := zk_mkI hX11_body rfl fcX11_body
def pX11_act : zk_pI := fun as h K => zk_arg as 4 = true ∧ zk_X zk_C (zk_lkl lkX11) zk_mt (zk_cxl [(5, zk_iP pX0_perform)]) (some .int) (zk_at cdX11_act) (zk_qi K) 0 (zk_L0 as 4) [] h
theorem hX11_act : ∀ q ∈ ([(5, zk_iP pX0_perform)] : List (Nat × zk_P)), zk_OK zk_C 124 q.1 q.2 := zk_cons (okX0_perform.up (by decide)) (zk_nil)
theorem okX11_act : zk_OK zk_C 125 142 (zk_iP pX11_act) := zk_mkI hX11_act rfl fcX11_act
def pX11_trace : zk_pI := fun as h K => zk_arg as 2 = true ∧ zk_X zk_C (zk_lkl lkX11) zk_mt (zk_cxl [(4, zk_iP pX0_traced)]) (some .int) (zk_at cdX11_trace) (zk_qi K) 0 (zk_L0 as 2) [] h
theorem hX11_trace : ∀ q ∈ ([(4, zk_iP pX0_traced)] : List (Nat × zk_P)), zk_OK zk_C 1 q.1 q.2 := zk_cons (okX0_traced.up (by decide)) (zk_nil)
theorem okX11_trace : zk_OK zk_C 2 143 (zk_iP pX11_trace) := zk_mkI hX11_trace rfl fcX11_trace
def pX11_keep : zk_pI := fun as h K => zk_arg as 4 = true ∧ zk_X zk_C (zk_lkl lkX11) zk_mt (zk_cxl [(1, zk_iP pX0_isBody), (85, zk_vP pX8_holdLook), (151, zk_rP pX11_shelfAt)]) (some .int) (zk_at cdX11_keep) (zk_qi K) 0 (zk_L0 as 4) [] h
theorem hX11_keep : ∀ q ∈ ([(1, zk_iP pX0_isBody), (85, zk_vP pX8_holdLook), (151, zk_rP pX11_shelfAt)] : List (Nat × zk_P)), zk_OK zk_C 1 q.1 q.2 := zk_cons (okX0_isBody.up (by decide)) (zk_cons (okX8_holdLook.up (by decide)) (zk_cons (okX11_shelfAt.up (by decide)) (zk_nil)))
theorem okX11_keep : zk_OK zk_C 2 144 (zk_iP pX11_keep) := zk_mkI hX11_keep rfl fcX11_keep
def pX11_row : zk_pI := fun as h K => zk_arg as 5 = true ∧ zk_X zk_C (zk_lkl lkX11) zk_mt (zk_cxl [(86, zk_vP pX8_holdRow), (151, zk_rP pX11_shelfAt)]) (some .int) (zk_at cdX11_row) (zk_qi K) 0 (zk_L0 as 5) [] h
theorem hX11_row : ∀ q ∈ ([(86, zk_vP pX8_holdRow), (151, zk_rP pX11_shelfAt)] : List (Nat × zk_P)), zk_OK zk_C 2 q.1 q.2 := zk_cons (okX8_holdRow.up (by decide)) (zk_cons (okX11_shelfAt.up (by decide)) (zk_nil))
theorem okX11_row : zk_OK zk_C 3 145 (zk_iP pX11_row) := zk_mkI hX11_row rfl fcX11_row
def pX11_put : zk_pI := fun as h K => zk_arg as 7 = true ∧ zk_X zk_C (zk_lkl lkX11) zk_mt (zk_cxl [(89, zk_iP pX8_refusalOfPlace), (91, zk_lP pX8_lowestBits), (151, zk_rP pX11_shelfAt)]) (some .int) (zk_at cdX11_put) (zk_qi K) 0 (zk_L0 as 7) [] h
theorem hX11_put : ∀ q ∈ ([(89, zk_iP pX8_refusalOfPlace), (91, zk_lP pX8_lowestBits), (151, zk_rP pX11_shelfAt)] : List (Nat × zk_P)), zk_OK zk_C 1 q.1 q.2 := zk_cons (okX8_refusalOfPlace.up (by decide)) (zk_cons (okX8_lowestBits.up (by decide)) (zk_cons (okX11_shelfAt.up (by decide)) (zk_nil)))
theorem okX11_put : zk_OK zk_C 2 146 (zk_iP pX11_put) := zk_mkI hX11_put rfl fcX11_put
def pX11_element : zk_pL := fun as h K => zk_arg as 4 = true ∧ zk_X zk_C (zk_lkl lkX11) zk_mt (zk_cxl [(89, zk_iP pX8_refusalOfPlace), (151, zk_rP pX11_shelfAt)]) (some .long) (zk_at cdX11_element) (zk_ql K) 0 (zk_L0 as 4) [] h
theorem hX11_element : ∀ q ∈ ([(89, zk_iP pX8_refusalOfPlace), (151, zk_rP pX11_shelfAt)] : List (Nat × zk_P)), zk_OK zk_C 1 q.1 q.2 := zk_cons (okX8_refusalOfPlace.up (by decide)) (zk_cons (okX11_shelfAt.up (by decide)) (zk_nil))
theorem okX11_element : zk_OK zk_C 2 147 (zk_lP pX11_element) := zk_mkL hX11_element rfl fcX11_element
def pX11_shift : zk_pI := fun as h K => zk_arg as 8 = true ∧ zk_X zk_C (zk_lkl lkX11) zk_mt (zk_cxl [(87, zk_iP pX8_isRowOf), (90, zk_iP pX8_hasPlaces), (151, zk_rP pX11_shelfAt)]) (some .int) (zk_at cdX11_shift) (zk_qi K) 0 (zk_L0 as 8) [] h
theorem hX11_shift : ∀ q ∈ ([(87, zk_iP pX8_isRowOf), (90, zk_iP pX8_hasPlaces), (151, zk_rP pX11_shelfAt)] : List (Nat × zk_P)), zk_OK zk_C 1 q.1 q.2 := zk_cons (okX8_isRowOf.up (by decide)) (zk_cons (okX8_hasPlaces.up (by decide)) (zk_cons (okX11_shelfAt.up (by decide)) (zk_nil)))
theorem okX11_shift : zk_OK zk_C 2 148 (zk_iP pX11_shift) := zk_mkI hX11_shift rfl fcX11_shift
def pX11_taken : zk_pI := fun as h K => zk_arg as 5 = true ∧ zk_X zk_C (zk_lkl lkX11) zk_mt (zk_cxl [(0, zk_iP pX0_isKind), (3, zk_iP pX0_isUnder), (151, zk_rP pX11_shelfAt)]) (some .int) (zk_at cdX11_taken) (zk_qi K) 0 (zk_L0 as 5) [] h
theorem hX11_taken : ∀ q ∈ ([(0, zk_iP pX0_isKind), (3, zk_iP pX0_isUnder), (151, zk_rP pX11_shelfAt)] : List (Nat × zk_P)), zk_OK zk_C 2 q.1 q.2 := zk_cons (okX0_isKind.up (by decide)) (zk_cons (okX0_isUnder.up (by decide)) (zk_cons (okX11_shelfAt.up (by decide)) (zk_nil)))
theorem okX11_taken : zk_OK zk_C 3 149 (zk_iP pX11_taken) := zk_mkI hX11_taken rfl fcX11_taken
def pX11_count : zk_pI := fun as h K => zk_arg as 2 = true ∧ zk_X zk_C (zk_lkl lkX11) zk_mt (zk_cxl []) (some .int) (zk_at cdX11_count) (zk_qi K) 0 (zk_L0 as 2) [] h
theorem hX11_count : ∀ q ∈ ([] : List (Nat × zk_P)), zk_OK zk_C 0 q.1 q.2 := zk_nil
theorem okX11_count : zk_OK zk_C 1 150 (zk_iP pX11_count) := zk_mkI hX11_count rfl fcX11_count
def pX12_within : zk_pI := fun as h K => zk_arg as 3 = true ∧ zk_X zk_D (zk_lkl lkX12) zk_mt (zk_cxl []) (some .boolean) (zk_at cdX12_within) (zk_qi K) 0 (zk_L0 as 3) [] h
theorem hX12_within : ∀ q ∈ ([] : List (Nat × zk_P)), zk_OK zk_D 0 q.1 q.2 := zk_nil
theorem okX12_within : zk_OK zk_D 1 153 (zk_iP pX12_within) := zk_mkI hX12_within rfl fcX12_within
def pX12_isOne : zk_pI := fun as h K => zk_arg as 2 = true ∧ zk_X zk_D (zk_lkl lkX12) zk_mt (zk_cxl [(153, zk_iP pX12_within)]) (some .boolean) (zk_at cdX12_isOne) (zk_qi K) 0 (zk_L0 as 2) [] h
theorem hX12_isOne : ∀ q ∈ ([(153, zk_iP pX12_within)] : List (Nat × zk_P)), zk_OK zk_D 1 q.1 q.2 := zk_cons (okX12_within.up (by decide)) (zk_nil)
theorem okX12_isOne : zk_OK zk_D 2 154 (zk_iP pX12_isOne) := zk_mkI hX12_isOne rfl fcX12_isOne
def pX12_isCard : zk_pI := fun as h K => zk_arg as 2 = true ∧ zk_X zk_D (zk_lkl lkX12) zk_mt (zk_cxl [(153, zk_iP pX12_within)]) (some .boolean) (zk_at cdX12_isCard) (zk_qi K) 0 (zk_L0 as 2) [] h
theorem hX12_isCard : ∀ q ∈ ([(153, zk_iP pX12_within)] : List (Nat × zk_P)), zk_OK zk_D 1 q.1 q.2 := zk_cons (okX12_within.up (by decide)) (zk_nil)
theorem okX12_isCard : zk_OK zk_D 2 155 (zk_iP pX12_isCard) := zk_mkI hX12_isCard rfl fcX12_isCard
def pX12_isCardOf : zk_pI := fun as h K => zk_arg as 2 = true ∧ zk_X zk_D (zk_lkl lkX12) zk_mt (zk_cxl [(154, zk_iP pX12_isOne), (155, zk_iP pX12_isCard)]) (some .boolean) (zk_at cdX12_isCardOf) (zk_qi K) 0 (zk_L0 as 2) [] h
theorem hX12_isCardOf : ∀ q ∈ ([(154, zk_iP pX12_isOne), (155, zk_iP pX12_isCard)] : List (Nat × zk_P)), zk_OK zk_D 2 q.1 q.2 := zk_cons (okX12_isOne.up (by decide)) (zk_cons (okX12_isCard.up (by decide)) (zk_nil))
theorem okX12_isCardOf : zk_OK zk_D 3 156 (zk_iP pX12_isCardOf) := zk_mkI hX12_isCardOf rfl fcX12_isCardOf
def pX12_areTwo : zk_pI := fun as h K => zk_arg as 2 = true ∧ zk_X zk_D (zk_lkl lkX12) zk_mt (zk_cxl [(154, zk_iP pX12_isOne)]) (some .boolean) (zk_at cdX12_areTwo) (zk_qi K) 0 (zk_L0 as 2) [] h
theorem hX12_areTwo : ∀ q ∈ ([(154, zk_iP pX12_isOne)] : List (Nat × zk_P)), zk_OK zk_D 2 q.1 q.2 := zk_cons (okX12_isOne.up (by decide)) (zk_nil)
theorem okX12_areTwo : zk_OK zk_D 3 157 (zk_iP pX12_areTwo) := zk_mkI hX12_areTwo rfl fcX12_areTwo
def pX12_areCards : zk_pI := fun as h K => zk_arg as 2 = true ∧ zk_X zk_D (zk_lkl lkX12) zk_mt (zk_cxl [(153, zk_iP pX12_within)]) (some .boolean) (zk_at cdX12_areCards) (zk_qi K) 0 (zk_L0 as 2) [] h
theorem hX12_areCards : ∀ q ∈ ([(153, zk_iP pX12_within)] : List (Nat × zk_P)), zk_OK zk_D 1 q.1 q.2 := zk_cons (okX12_within.up (by decide)) (zk_nil)
theorem okX12_areCards : zk_OK zk_D 2 158 (zk_iP pX12_areCards) := zk_mkI hX12_areCards rfl fcX12_areCards
def pX12_isMinute : zk_pI := fun as h K => zk_arg as 1 = true ∧ zk_X zk_D (zk_lkl lkX12) zk_mt (zk_cxl [(153, zk_iP pX12_within)]) (some .boolean) (zk_at cdX12_isMinute) (zk_qi K) 0 (zk_L0 as 1) [] h
theorem hX12_isMinute : ∀ q ∈ ([(153, zk_iP pX12_within)] : List (Nat × zk_P)), zk_OK zk_D 1 q.1 q.2 := zk_cons (okX12_within.up (by decide)) (zk_nil)
theorem okX12_isMinute : zk_OK zk_D 2 159 (zk_iP pX12_isMinute) := zk_mkI hX12_isMinute rfl fcX12_isMinute
def pX12_isWay : zk_pI := fun as h K => zk_arg as 1 = true ∧ zk_X zk_D (zk_lkl lkX12) zk_mt (zk_cxl []) (some .boolean) (zk_at cdX12_isWay) (zk_qi K) 0 (zk_L0 as 1) [] h
theorem hX12_isWay : ∀ q ∈ ([] : List (Nat × zk_P)), zk_OK zk_D 0 q.1 q.2 := zk_nil
theorem okX12_isWay : zk_OK zk_D 1 160 (zk_iP pX12_isWay) := zk_mkI hX12_isWay rfl fcX12_isWay
def pX12_isSecret : zk_pI := fun as h K => zk_arg as 1 = true ∧ zk_X zk_D (zk_lkl lkX12) zk_mt (zk_cxl [(153, zk_iP pX12_within)]) (some .boolean) (zk_at cdX12_isSecret) (zk_qi K) 0 (zk_L0 as 1) [] h
theorem hX12_isSecret : ∀ q ∈ ([(153, zk_iP pX12_within)] : List (Nat × zk_P)), zk_OK zk_D 1 q.1 q.2 := zk_cons (okX12_within.up (by decide)) (zk_nil)
theorem okX12_isSecret : zk_OK zk_D 2 161 (zk_iP pX12_isSecret) := zk_mkI hX12_isSecret rfl fcX12_isSecret
def pX12_isShelf : zk_pI := fun as h K => zk_arg as 1 = true ∧ zk_X zk_D (zk_lkl lkX12) zk_mt (zk_cxl [(153, zk_iP pX12_within)]) (some .boolean) (zk_at cdX12_isShelf) (zk_qi K) 0 (zk_L0 as 1) [] h
theorem hX12_isShelf : ∀ q ∈ ([(153, zk_iP pX12_within)] : List (Nat × zk_P)), zk_OK zk_D 1 q.1 q.2 := zk_cons (okX12_within.up (by decide)) (zk_nil)
theorem okX12_isShelf : zk_OK zk_D 2 162 (zk_iP pX12_isShelf) := zk_mkI hX12_isShelf rfl fcX12_isShelf
def pX12_has : zk_pI := fun as h K => zk_arg as 2 = true ∧ zk_X zk_D (zk_lkl lkX12) zk_mt (zk_cxl []) (some .boolean) (zk_at cdX12_has) (zk_qi K) 0 (zk_L0 as 2) [] h
theorem hX12_has : ∀ q ∈ ([] : List (Nat × zk_P)), zk_OK zk_D 0 q.1 q.2 := zk_nil
theorem okX12_has : zk_OK zk_D 1 163 (zk_iP pX12_has) := zk_mkI hX12_has rfl fcX12_has
def pX12_newPerson : zk_pI := fun as h K => zk_arg as 4 = true ∧ zk_X zk_D (zk_lkl lkX12) zk_mt (zk_cxl []) (some .int) (zk_at cdX12_newPerson) (zk_qi K) 0 (zk_L0 as 4) [] h
theorem hX12_newPerson : ∀ q ∈ ([] : List (Nat × zk_P)), zk_OK zk_D 0 q.1 q.2 := zk_nil
theorem okX12_newPerson : zk_OK zk_D 1 164 (zk_iP pX12_newPerson) := zk_mkI hX12_newPerson rfl fcX12_newPerson
def pX12_person : zk_pI := fun as h K => zk_arg as 2 = true ∧ zk_X zk_D (zk_lkl lkX12) zk_mt (zk_cxl [(153, zk_iP pX12_within), (164, zk_iP pX12_newPerson)]) (some .int) (zk_at cdX12_person) (zk_qi K) 0 (zk_L0 as 2) [] h
theorem hX12_person : ∀ q ∈ ([(153, zk_iP pX12_within), (164, zk_iP pX12_newPerson)] : List (Nat × zk_P)), zk_OK zk_D 1 q.1 q.2 := zk_cons (okX12_within.up (by decide)) (zk_cons (okX12_newPerson.up (by decide)) (zk_nil))
theorem okX12_person : zk_OK zk_D 2 165 (zk_iP pX12_person) := zk_mkI hX12_person rfl fcX12_person
def pX12_people : zk_pI := fun as h K => zk_arg as 9 = true ∧ zk_X zk_D (zk_lkl lkX12) zk_mt (zk_cxl [(153, zk_iP pX12_within), (162, zk_iP pX12_isShelf), (164, zk_iP pX12_newPerson)]) (some .int) (zk_at cdX12_people) (zk_qi K) 0 (zk_L0 as 9) [] h
theorem hX12_people : ∀ q ∈ ([(153, zk_iP pX12_within), (162, zk_iP pX12_isShelf), (164, zk_iP pX12_newPerson)] : List (Nat × zk_P)), zk_OK zk_D 2 q.1 q.2 := zk_cons (okX12_within.up (by decide)) (zk_cons (okX12_isShelf.up (by decide)) (zk_cons (okX12_newPerson.up (by decide)) (zk_nil)))
theorem okX12_people : zk_OK zk_D 3 166 (zk_iP pX12_people) := zk_mkI hX12_people rfl fcX12_people
def pX12_tells : zk_pV := fun as h K => zk_arg as 3 = true ∧ zk_X zk_D (zk_lkl lkX12) zk_mt (zk_cxl []) none (zk_at cdX12_tells) (zk_qv K) 0 (zk_L0 as 3) [] h
theorem hX12_tells : ∀ q ∈ ([] : List (Nat × zk_P)), zk_OK zk_D 0 q.1 q.2 := zk_nil
theorem okX12_tells : zk_OK zk_D 1 168 (zk_vP pX12_tells) := zk_mkV hX12_tells rfl fcX12_tells
def pX12_newCard : zk_pI := fun as h K => zk_arg as 4 = true ∧ zk_X zk_D (zk_lkl lkX12) zk_mt (zk_cxl [(168, zk_vP pX12_tells)]) (some .int) (zk_at cdX12_newCard) (zk_qi K) 0 (zk_L0 as 4) [] h
theorem hX12_newCard : ∀ q ∈ ([(168, zk_vP pX12_tells)] : List (Nat × zk_P)), zk_OK zk_D 1 q.1 q.2 := zk_cons (okX12_tells.up (by decide)) (zk_nil)
theorem okX12_newCard : zk_OK zk_D 2 167 (zk_iP pX12_newCard) := zk_mkI hX12_newCard rfl fcX12_newCard
def pX12_card : zk_pI := fun as h K => zk_arg as 3 = true ∧ zk_X zk_D (zk_lkl lkX12) zk_mt (zk_cxl [(154, zk_iP pX12_isOne), (160, zk_iP pX12_isWay), (167, zk_iP pX12_newCard)]) (some .int) (zk_at cdX12_card) (zk_qi K) 0 (zk_L0 as 3) [] h
theorem hX12_card : ∀ q ∈ ([(154, zk_iP pX12_isOne), (160, zk_iP pX12_isWay), (167, zk_iP pX12_newCard)] : List (Nat × zk_P)), zk_OK zk_D 2 q.1 q.2 := zk_cons (okX12_isOne.up (by decide)) (zk_cons (okX12_isWay.up (by decide)) (zk_cons (okX12_newCard.up (by decide)) (zk_nil)))
theorem okX12_card : zk_OK zk_D 3 169 (zk_iP pX12_card) := zk_mkI hX12_card rfl fcX12_card
def pX12_isOf : zk_pI := fun as h K => zk_arg as 3 = true ∧ zk_X zk_D (zk_lkl lkX12) zk_mt (zk_cxl [(153, zk_iP pX12_within), (154, zk_iP pX12_isOne), (155, zk_iP pX12_isCard)]) (some .boolean) (zk_at cdX12_isOf) (zk_qi K) 0 (zk_L0 as 3) [] h
theorem hX12_isOf : ∀ q ∈ ([(153, zk_iP pX12_within), (154, zk_iP pX12_isOne), (155, zk_iP pX12_isCard)] : List (Nat × zk_P)), zk_OK zk_D 2 q.1 q.2 := zk_cons (okX12_within.up (by decide)) (zk_cons (okX12_isOne.up (by decide)) (zk_cons (okX12_isCard.up (by decide)) (zk_nil)))
theorem okX12_isOf : zk_OK zk_D 3 170 (zk_iP pX12_isOf) := zk_mkI hX12_isOf rfl fcX12_isOf
def pX12_isFit : zk_pI := fun as h K => zk_arg as 2 = true ∧ zk_X zk_D (zk_lkl lkX12) zk_mt (zk_cxl [(153, zk_iP pX12_within), (159, zk_iP pX12_isMinute)]) (some .boolean) (zk_at cdX12_isFit) (zk_qi K) 0 (zk_L0 as 2) [] h
theorem hX12_isFit : ∀ q ∈ ([(153, zk_iP pX12_within), (159, zk_iP pX12_isMinute)] : List (Nat × zk_P)), zk_OK zk_D 2 q.1 q.2 := zk_cons (okX12_within.up (by decide)) (zk_cons (okX12_isMinute.up (by decide)) (zk_nil))
theorem okX12_isFit : zk_OK zk_D 3 171 (zk_iP pX12_isFit) := zk_mkI hX12_isFit rfl fcX12_isFit
def pX12_get : zk_pI := fun as h K => zk_arg as 3 = true ∧ zk_X zk_D (zk_lkl lkX12) zk_mt (zk_cxl []) (some .int) (zk_at cdX12_get) (zk_qi K) 0 (zk_L0 as 3) [] h
theorem hX12_get : ∀ q ∈ ([] : List (Nat × zk_P)), zk_OK zk_D 0 q.1 q.2 := zk_nil
theorem okX12_get : zk_OK zk_D 1 172 (zk_iP pX12_get) := zk_mkI hX12_get rfl fcX12_get
def pX12_becomes : zk_pV := fun as h K => zk_arg as 4 = true ∧ zk_X zk_D (zk_lkl lkX12) zk_mt (zk_cxl []) none (zk_at cdX12_becomes) (zk_qv K) 0 (zk_L0 as 4) [] h
theorem hX12_becomes : ∀ q ∈ ([] : List (Nat × zk_P)), zk_OK zk_D 0 q.1 q.2 := zk_nil
theorem okX12_becomes : zk_OK zk_D 1 173 (zk_vP pX12_becomes) := zk_mkV hX12_becomes rfl fcX12_becomes
def pX12_mend : zk_pI := fun as h K => zk_arg as 6 = true ∧ zk_X zk_D (zk_lkl lkX12) zk_mt (zk_cxl [(170, zk_iP pX12_isOf), (171, zk_iP pX12_isFit), (172, zk_iP pX12_get), (173, zk_vP pX12_becomes)]) (some .int) (zk_at cdX12_mend) (zk_qi K) 0 (zk_L0 as 6) [] h
theorem hX12_mend : ∀ q ∈ ([(170, zk_iP pX12_isOf), (171, zk_iP pX12_isFit), (172, zk_iP pX12_get), (173, zk_vP pX12_becomes)] : List (Nat × zk_P)), zk_OK zk_D 3 q.1 q.2 := zk_cons (okX12_isOf.up (by decide)) (zk_cons (okX12_isFit.up (by decide)) (zk_cons (okX12_get.up (by decide)) (zk_cons (okX12_becomes.up (by decide)) (zk_nil))))
theorem okX12_mend : zk_OK zk_D 4 174 (zk_iP pX12_mend) := zk_mkI hX12_mend rfl fcX12_mend
def pX12_of : zk_pI := fun as h K => zk_arg as 3 = true ∧ zk_X zk_D (zk_lkl lkX12) zk_mt (zk_cxl [(153, zk_iP pX12_within), (155, zk_iP pX12_isCard), (170, zk_iP pX12_isOf), (172, zk_iP pX12_get)]) (some .int) (zk_at cdX12_of) (zk_qi K) 0 (zk_L0 as 3) [] h
theorem hX12_of : ∀ q ∈ ([(153, zk_iP pX12_within), (155, zk_iP pX12_isCard), (170, zk_iP pX12_isOf), (172, zk_iP pX12_get)] : List (Nat × zk_P)), zk_OK zk_D 3 q.1 q.2 := zk_cons (okX12_within.up (by decide)) (zk_cons (okX12_isCard.up (by decide)) (zk_cons (okX12_isOf.up (by decide)) (zk_cons (okX12_get.up (by decide)) (zk_nil))))
theorem okX12_of : zk_OK zk_D 4 175 (zk_iP pX12_of) := zk_mkI hX12_of rfl fcX12_of
def pX12_undo : zk_pI := fun as h K => zk_arg as 1 = true ∧ zk_X zk_D (zk_lkl lkX12) zk_mt (zk_cxl [(173, zk_vP pX12_becomes)]) (some .int) (zk_at cdX12_undo) (zk_qi K) 0 (zk_L0 as 1) [] h
theorem hX12_undo : ∀ q ∈ ([(173, zk_vP pX12_becomes)] : List (Nat × zk_P)), zk_OK zk_D 1 q.1 q.2 := zk_cons (okX12_becomes.up (by decide)) (zk_nil)
theorem okX12_undo : zk_OK zk_D 2 176 (zk_iP pX12_undo) := zk_mkI hX12_undo rfl fcX12_undo
def pX12_redo : zk_pI := fun as h K => zk_arg as 1 = true ∧ zk_X zk_D (zk_lkl lkX12) zk_mt (zk_cxl [(173, zk_vP pX12_becomes)]) (some .int) (zk_at cdX12_redo) (zk_qi K) 0 (zk_L0 as 1) [] h
theorem hX12_redo : ∀ q ∈ ([(173, zk_vP pX12_becomes)] : List (Nat × zk_P)), zk_OK zk_D 1 q.1 q.2 := zk_cons (okX12_becomes.up (by decide)) (zk_nil)
theorem okX12_redo : zk_OK zk_D 2 177 (zk_iP pX12_redo) := zk_mkI hX12_redo rfl fcX12_redo
def pX12_feed : zk_pI := fun as h K => zk_arg as 2 = true ∧ zk_X zk_D (zk_lkl lkX12) zk_mt (zk_cxl [(153, zk_iP pX12_within)]) (some .int) (zk_at cdX12_feed) (zk_qi K) 0 (zk_L0 as 2) [] h
theorem hX12_feed : ∀ q ∈ ([(153, zk_iP pX12_within)] : List (Nat × zk_P)), zk_OK zk_D 1 q.1 q.2 := zk_cons (okX12_within.up (by decide)) (zk_nil)
theorem okX12_feed : zk_OK zk_D 2 178 (zk_iP pX12_feed) := zk_mkI hX12_feed rfl fcX12_feed
def pX12_sign : zk_pI := fun as h K => zk_arg as 1 = true ∧ zk_X zk_D (zk_lkl lkX12) zk_mt (zk_cxl []) (some .int) (zk_at cdX12_sign) (zk_qi K) 0 (zk_L0 as 1) [] h
theorem hX12_sign : ∀ q ∈ ([] : List (Nat × zk_P)), zk_OK zk_D 0 q.1 q.2 := zk_nil
theorem okX12_sign : zk_OK zk_D 1 179 (zk_iP pX12_sign) := zk_mkI hX12_sign rfl fcX12_sign
def pX12_is : zk_pI := fun as h K => zk_arg as 2 = true ∧ zk_X zk_D (zk_lkl lkX12) zk_mt (zk_cxl [(179, zk_iP pX12_sign)]) (some .boolean) (zk_at cdX12_is) (zk_qi K) 0 (zk_L0 as 2) [] h
theorem hX12_is : ∀ q ∈ ([(179, zk_iP pX12_sign)] : List (Nat × zk_P)), zk_OK zk_D 1 q.1 q.2 := zk_cons (okX12_sign.up (by decide)) (zk_nil)
theorem okX12_is : zk_OK zk_D 2 180 (zk_iP pX12_is) := zk_mkI hX12_is rfl fcX12_is
def pX12_codes : zk_pI := fun as h K => zk_arg as 2 = true ∧ zk_X zk_D (zk_lkl lkX12) zk_mt (zk_cxl []) (some .boolean) (zk_at cdX12_codes) (zk_qi K) 0 (zk_L0 as 2) [] h
theorem hX12_codes : ∀ q ∈ ([] : List (Nat × zk_P)), zk_OK zk_D 0 q.1 q.2 := zk_nil
theorem okX12_codes : zk_OK zk_D 1 181 (zk_iP pX12_codes) := zk_mkI hX12_codes rfl fcX12_codes
def pX12_isDigit : zk_pI := fun as h K => zk_arg as 1 = true ∧ zk_X zk_D (zk_lkl lkX12) zk_mt (zk_cxl [(179, zk_iP pX12_sign)]) (some .boolean) (zk_at cdX12_isDigit) (zk_qi K) 0 (zk_L0 as 1) [] h
theorem hX12_isDigit : ∀ q ∈ ([(179, zk_iP pX12_sign)] : List (Nat × zk_P)), zk_OK zk_D 1 q.1 q.2 := zk_cons (okX12_sign.up (by decide)) (zk_nil)
theorem okX12_isDigit : zk_OK zk_D 2 182 (zk_iP pX12_isDigit) := zk_mkI hX12_isDigit rfl fcX12_isDigit
def pX12_nameOf : zk_pI := fun as h K => zk_arg as 1 = true ∧ zk_X zk_D (zk_lkl lkX12) zk_mt (zk_cxl []) (some .int) (zk_at cdX12_nameOf) (zk_qi K) 0 (zk_L0 as 1) [] h
theorem hX12_nameOf : ∀ q ∈ ([] : List (Nat × zk_P)), zk_OK zk_D 0 q.1 q.2 := zk_nil
theorem okX12_nameOf : zk_OK zk_D 1 183 (zk_iP pX12_nameOf) := zk_mkI hX12_nameOf rfl fcX12_nameOf
def gX12_isP (r : zk_pI) : zk_pI := fun as h K => zk_arg as 2 = true ∧ zk_X zk_D (zk_lkl lkX12) zk_mt (zk_cxl [(179, zk_iP pX12_sign), (181, zk_iP pX12_codes), (184, zk_iP r)]) (some .boolean) (zk_at cdX12_isP) (zk_qi K) 0 (zk_L0 as 2) [] h
def gX12_isS (r : zk_pI) : zk_pI := fun as h K => zk_arg as 2 = true ∧ zk_X zk_D (zk_lkl lkX12) zk_mt (zk_cxl [(179, zk_iP pX12_sign), (181, zk_iP pX12_codes), (185, zk_iP (gX12_isP r))]) (some .boolean) (zk_at cdX12_isS) (zk_qi K) 0 (zk_L0 as 2) [] h
def gX12_isB (r : zk_pI) : zk_pI := fun as h K => zk_arg as 2 = true ∧ zk_X zk_D (zk_lkl lkX12) zk_mt (zk_cxl [(179, zk_iP pX12_sign), (181, zk_iP pX12_codes), (186, zk_iP (gX12_isS r))]) (some .boolean) (zk_at cdX12_isB) (zk_qi K) 0 (zk_L0 as 2) [] h
def gX12_isA (r : zk_pI) : zk_pI := fun as h K => zk_arg as 1 = true ∧ zk_X zk_D (zk_lkl lkX12) zk_mt (zk_cxl [(180, zk_iP pX12_is), (181, zk_iP pX12_codes), (187, zk_iP (gX12_isB r))]) (some .boolean) (zk_at cdX12_isA) (zk_qi K) 0 (zk_L0 as 1) [] h
def gX12_isE (r : zk_pI) : zk_pI := fun as h K => zk_arg as 1 = true ∧ zk_X zk_D (zk_lkl lkX12) zk_mt (zk_cxl [(180, zk_iP pX12_is), (181, zk_iP pX12_codes), (188, zk_iP (gX12_isA r))]) (some .boolean) (zk_at cdX12_isE) (zk_qi K) 0 (zk_L0 as 1) [] h
def gX12_isO (r : zk_pI) : zk_pI := fun as h K => zk_arg as 3 = true ∧ zk_X zk_D (zk_lkl lkX12) zk_mt (zk_cxl [(179, zk_iP pX12_sign), (180, zk_iP pX12_is), (181, zk_iP pX12_codes), (182, zk_iP pX12_isDigit), (183, zk_iP pX12_nameOf), (184, zk_iP r), (189, zk_iP (gX12_isE r))]) (some .boolean) (zk_at cdX12_isO) (zk_qi K) 0 (zk_L0 as 3) [] h
def pX12_isO : Nat → zk_pI
  | 0 => fun _ _ _ => False
  | n + 1 => gX12_isO (pX12_isO n)
def pX12_isP (n : Nat) : zk_pI := gX12_isP (pX12_isO n)
def pX12_isS (n : Nat) : zk_pI := gX12_isS (pX12_isO n)
def pX12_isB (n : Nat) : zk_pI := gX12_isB (pX12_isO n)
def pX12_isA (n : Nat) : zk_pI := gX12_isA (pX12_isO n)
def pX12_isE (n : Nat) : zk_pI := gX12_isE (pX12_isO n)
theorem ghX12_isP {r : zk_pI} {d : Nat} (hr : zk_OK zk_D (2 + d) 184 (zk_iP r)) : ∀ q ∈ ([(179, zk_iP pX12_sign), (181, zk_iP pX12_codes), (184, zk_iP r)] : List (Nat × zk_P)), zk_OK zk_D (2 + d) q.1 q.2 := zk_cons (okX12_sign.up (by omega)) (zk_cons (okX12_codes.up (by omega)) (zk_cons (hr.up (by omega)) (zk_nil)))
theorem gokX12_isP {r : zk_pI} {d : Nat} (hr : zk_OK zk_D (2 + d) 184 (zk_iP r)) : zk_OK zk_D (3 + d) 185 (zk_iP (gX12_isP r)) := (show zk_OK zk_D (2 + d + 1) 185 (zk_iP (gX12_isP r)) from zk_mkI (ghX12_isP hr) rfl fcX12_isP).up (by omega)
theorem ghX12_isS {r : zk_pI} {d : Nat} (hr : zk_OK zk_D (2 + d) 184 (zk_iP r)) : ∀ q ∈ ([(179, zk_iP pX12_sign), (181, zk_iP pX12_codes), (185, zk_iP (gX12_isP r))] : List (Nat × zk_P)), zk_OK zk_D (3 + d) q.1 q.2 := zk_cons (okX12_sign.up (by omega)) (zk_cons (okX12_codes.up (by omega)) (zk_cons ((gokX12_isP hr).up (by omega)) (zk_nil)))
theorem gokX12_isS {r : zk_pI} {d : Nat} (hr : zk_OK zk_D (2 + d) 184 (zk_iP r)) : zk_OK zk_D (4 + d) 186 (zk_iP (gX12_isS r)) := (show zk_OK zk_D (3 + d + 1) 186 (zk_iP (gX12_isS r)) from zk_mkI (ghX12_isS hr) rfl fcX12_isS).up (by omega)
theorem ghX12_isB {r : zk_pI} {d : Nat} (hr : zk_OK zk_D (2 + d) 184 (zk_iP r)) : ∀ q ∈ ([(179, zk_iP pX12_sign), (181, zk_iP pX12_codes), (186, zk_iP (gX12_isS r))] : List (Nat × zk_P)), zk_OK zk_D (4 + d) q.1 q.2 := zk_cons (okX12_sign.up (by omega)) (zk_cons (okX12_codes.up (by omega)) (zk_cons ((gokX12_isS hr).up (by omega)) (zk_nil)))
theorem gokX12_isB {r : zk_pI} {d : Nat} (hr : zk_OK zk_D (2 + d) 184 (zk_iP r)) : zk_OK zk_D (5 + d) 187 (zk_iP (gX12_isB r)) := (show zk_OK zk_D (4 + d + 1) 187 (zk_iP (gX12_isB r)) from zk_mkI (ghX12_isB hr) rfl fcX12_isB).up (by omega)
theorem ghX12_isA {r : zk_pI} {d : Nat} (hr : zk_OK zk_D (2 + d) 184 (zk_iP r)) : ∀ q ∈ ([(180, zk_iP pX12_is), (181, zk_iP pX12_codes), (187, zk_iP (gX12_isB r))] : List (Nat × zk_P)), zk_OK zk_D (5 + d) q.1 q.2 := zk_cons (okX12_is.up (by omega)) (zk_cons (okX12_codes.up (by omega)) (zk_cons ((gokX12_isB hr).up (by omega)) (zk_nil)))
theorem gokX12_isA {r : zk_pI} {d : Nat} (hr : zk_OK zk_D (2 + d) 184 (zk_iP r)) : zk_OK zk_D (6 + d) 188 (zk_iP (gX12_isA r)) := (show zk_OK zk_D (5 + d + 1) 188 (zk_iP (gX12_isA r)) from zk_mkI (ghX12_isA hr) rfl fcX12_isA).up (by omega)
theorem ghX12_isE {r : zk_pI} {d : Nat} (hr : zk_OK zk_D (2 + d) 184 (zk_iP r)) : ∀ q ∈ ([(180, zk_iP pX12_is), (181, zk_iP pX12_codes), (188, zk_iP (gX12_isA r))] : List (Nat × zk_P)), zk_OK zk_D (6 + d) q.1 q.2 := zk_cons (okX12_is.up (by omega)) (zk_cons (okX12_codes.up (by omega)) (zk_cons ((gokX12_isA hr).up (by omega)) (zk_nil)))
theorem gokX12_isE {r : zk_pI} {d : Nat} (hr : zk_OK zk_D (2 + d) 184 (zk_iP r)) : zk_OK zk_D (7 + d) 189 (zk_iP (gX12_isE r)) := (show zk_OK zk_D (6 + d + 1) 189 (zk_iP (gX12_isE r)) from zk_mkI (ghX12_isE hr) rfl fcX12_isE).up (by omega)
theorem ghX12_isO {r : zk_pI} {d : Nat} (hr : zk_OK zk_D (2 + d) 184 (zk_iP r)) : ∀ q ∈ ([(179, zk_iP pX12_sign), (180, zk_iP pX12_is), (181, zk_iP pX12_codes), (182, zk_iP pX12_isDigit), (183, zk_iP pX12_nameOf), (184, zk_iP r), (189, zk_iP (gX12_isE r))] : List (Nat × zk_P)), zk_OK zk_D (7 + d) q.1 q.2 := zk_cons (okX12_sign.up (by omega)) (zk_cons (okX12_is.up (by omega)) (zk_cons (okX12_codes.up (by omega)) (zk_cons (okX12_isDigit.up (by omega)) (zk_cons (okX12_nameOf.up (by omega)) (zk_cons (hr.up (by omega)) (zk_cons ((gokX12_isE hr).up (by omega)) (zk_nil)))))))
theorem gokX12_isO {r : zk_pI} {d : Nat} (hr : zk_OK zk_D (2 + d) 184 (zk_iP r)) : zk_OK zk_D (2 + (d + 6)) 184 (zk_iP (gX12_isO r)) := (show zk_OK zk_D (7 + d + 1) 184 (zk_iP (gX12_isO r)) from zk_mkI (ghX12_isO hr) rfl fcX12_isO).up (by omega)
theorem okX12_isO : ∀ n, zk_OK zk_D (2 + 6 * n) 184 (zk_iP (pX12_isO n))
  | 0 => ⟨zk_CT.none, fun _ _ _ _ _ h => h⟩
  | n + 1 => (gokX12_isO (okX12_isO n)).up (by omega)
theorem okX12_isP (n : Nat) : zk_OK zk_D (3 + 6 * n) 185 (zk_iP (pX12_isP n)) := (gokX12_isP (okX12_isO n)).up (by omega)
theorem okX12_isS (n : Nat) : zk_OK zk_D (4 + 6 * n) 186 (zk_iP (pX12_isS n)) := (gokX12_isS (okX12_isO n)).up (by omega)
theorem okX12_isB (n : Nat) : zk_OK zk_D (5 + 6 * n) 187 (zk_iP (pX12_isB n)) := (gokX12_isB (okX12_isO n)).up (by omega)
theorem okX12_isA (n : Nat) : zk_OK zk_D (6 + 6 * n) 188 (zk_iP (pX12_isA n)) := (gokX12_isA (okX12_isO n)).up (by omega)
theorem okX12_isE (n : Nat) : zk_OK zk_D (7 + 6 * n) 189 (zk_iP (pX12_isE n)) := (gokX12_isE (okX12_isO n)).up (by omega)
def pX12_isLine : zk_pI := fun as h K => zk_arg as 1 = true ∧ zk_X zk_D (zk_lkl lkX12) zk_mt (zk_cxl [(180, zk_iP pX12_is), (189, zk_iP (pX12_isE 9))]) (some .boolean) (zk_at cdX12_isLine) (zk_qi K) 0 (zk_L0 as 1) [] h
theorem hX12_isLine : ∀ q ∈ ([(180, zk_iP pX12_is), (189, zk_iP (pX12_isE 9))] : List (Nat × zk_P)), zk_OK zk_D 61 q.1 q.2 := zk_cons (okX12_is.up (by decide)) (zk_cons ((okX12_isE 9).up (by decide)) (zk_nil))
theorem okX12_isLine : zk_OK zk_D 62 190 (zk_iP pX12_isLine) := zk_mkI hX12_isLine rfl fcX12_isLine
def pX12_law : zk_pI := fun as h K => zk_arg as 4 = true ∧ zk_X zk_D (zk_lkl lkX12) zk_mt (zk_cxl [(180, zk_iP pX12_is), (190, zk_iP pX12_isLine)]) (some .int) (zk_at cdX12_law) (zk_qi K) 0 (zk_L0 as 4) [] h
theorem hX12_law : ∀ q ∈ ([(180, zk_iP pX12_is), (190, zk_iP pX12_isLine)] : List (Nat × zk_P)), zk_OK zk_D 62 q.1 q.2 := zk_cons (okX12_is.up (by decide)) (zk_cons (okX12_isLine.up (by decide)) (zk_nil))
theorem okX12_law : zk_OK zk_D 63 191 (zk_iP pX12_law) := zk_mkI hX12_law rfl fcX12_law
def pX12_both : zk_pI := fun as h K => zk_arg as 3 = true ∧ zk_X zk_D (zk_lkl lkX12) zk_mt (zk_cxl []) (some .int) (zk_at cdX12_both) (zk_qi K) 0 (zk_L0 as 3) [] h
theorem hX12_both : ∀ q ∈ ([] : List (Nat × zk_P)), zk_OK zk_D 0 q.1 q.2 := zk_nil
theorem okX12_both : zk_OK zk_D 1 192 (zk_iP pX12_both) := zk_mkI hX12_both rfl fcX12_both
def pX12_worked : zk_pI := fun as h K => zk_arg as 6 = true ∧ zk_X zk_D (zk_lkl lkX12) zk_mt (zk_cxl [(192, zk_iP pX12_both)]) (some .int) (zk_at cdX12_worked) (zk_qi K) 0 (zk_L0 as 6) [] h
theorem hX12_worked : ∀ q ∈ ([(192, zk_iP pX12_both)] : List (Nat × zk_P)), zk_OK zk_D 1 q.1 q.2 := zk_cons (okX12_both.up (by decide)) (zk_nil)
theorem okX12_worked : zk_OK zk_D 2 193 (zk_iP pX12_worked) := zk_mkI hX12_worked rfl fcX12_worked
def pX12_isIn : zk_pI := fun as h K => zk_arg as 3 = true ∧ zk_X zk_D (zk_lkl lkX12) zk_mt (zk_cxl [(153, zk_iP pX12_within)]) (some .boolean) (zk_at cdX12_isIn) (zk_qi K) 0 (zk_L0 as 3) [] h
theorem hX12_isIn : ∀ q ∈ ([(153, zk_iP pX12_within)] : List (Nat × zk_P)), zk_OK zk_D 1 q.1 q.2 := zk_cons (okX12_within.up (by decide)) (zk_nil)
theorem okX12_isIn : zk_OK zk_D 2 194 (zk_iP pX12_isIn) := zk_mkI hX12_isIn rfl fcX12_isIn
def pX12_could : zk_pI := fun as h K => zk_arg as 3 = true ∧ zk_X zk_D (zk_lkl lkX12) zk_mt (zk_cxl [(163, zk_iP pX12_has), (194, zk_iP pX12_isIn)]) (some .boolean) (zk_at cdX12_could) (zk_qi K) 0 (zk_L0 as 3) [] h
theorem hX12_could : ∀ q ∈ ([(163, zk_iP pX12_has), (194, zk_iP pX12_isIn)] : List (Nat × zk_P)), zk_OK zk_D 2 q.1 q.2 := zk_cons (okX12_has.up (by decide)) (zk_cons (okX12_isIn.up (by decide)) (zk_nil))
theorem okX12_could : zk_OK zk_D 3 195 (zk_iP pX12_could) := zk_mkI hX12_could rfl fcX12_could
def pX12_knowers : zk_pI := fun as h K => zk_arg as 4 = true ∧ zk_X zk_D (zk_lkl lkX12) zk_mt (zk_cxl [(163, zk_iP pX12_has)]) (some .int) (zk_at cdX12_knowers) (zk_qi K) 0 (zk_L0 as 4) [] h
theorem hX12_knowers : ∀ q ∈ ([(163, zk_iP pX12_has)] : List (Nat × zk_P)), zk_OK zk_D 1 q.1 q.2 := zk_cons (okX12_has.up (by decide)) (zk_nil)
theorem okX12_knowers : zk_OK zk_D 2 196 (zk_iP pX12_knowers) := zk_mkI hX12_knowers rfl fcX12_knowers
def pX12_counted : zk_pI := fun as h K => zk_arg as 4 = true ∧ zk_X zk_D (zk_lkl lkX12) zk_mt (zk_cxl [(163, zk_iP pX12_has), (193, zk_iP pX12_worked), (195, zk_iP pX12_could), (196, zk_iP pX12_knowers)]) (some .int) (zk_at cdX12_counted) (zk_qi K) 0 (zk_L0 as 4) [] h
theorem hX12_counted : ∀ q ∈ ([(163, zk_iP pX12_has), (193, zk_iP pX12_worked), (195, zk_iP pX12_could), (196, zk_iP pX12_knowers)] : List (Nat × zk_P)), zk_OK zk_D 3 q.1 q.2 := zk_cons (okX12_has.up (by decide)) (zk_cons (okX12_worked.up (by decide)) (zk_cons (okX12_could.up (by decide)) (zk_cons (okX12_knowers.up (by decide)) (zk_nil))))
theorem okX12_counted : zk_OK zk_D 4 197 (zk_iP pX12_counted) := zk_mkI hX12_counted rfl fcX12_counted
def pX12_countedAll : zk_pI := fun as h K => zk_arg as 4 = true ∧ zk_X zk_D (zk_lkl lkX12) zk_mt (zk_cxl [(197, zk_iP pX12_counted)]) (some .int) (zk_at cdX12_countedAll) (zk_qi K) 0 (zk_L0 as 4) [] h
theorem hX12_countedAll : ∀ q ∈ ([(197, zk_iP pX12_counted)] : List (Nat × zk_P)), zk_OK zk_D 4 q.1 q.2 := zk_cons (okX12_counted.up (by decide)) (zk_nil)
theorem okX12_countedAll : zk_OK zk_D 5 198 (zk_iP pX12_countedAll) := zk_mkI hX12_countedAll rfl fcX12_countedAll
def pX12_couldAll : zk_pI := fun as h K => zk_arg as 4 = true ∧ zk_X zk_D (zk_lkl lkX12) zk_mt (zk_cxl [(195, zk_iP pX12_could)]) (some .int) (zk_at cdX12_couldAll) (zk_qi K) 0 (zk_L0 as 4) [] h
theorem hX12_couldAll : ∀ q ∈ ([(195, zk_iP pX12_could)] : List (Nat × zk_P)), zk_OK zk_D 3 q.1 q.2 := zk_cons (okX12_could.up (by decide)) (zk_nil)
theorem okX12_couldAll : zk_OK zk_D 4 199 (zk_iP pX12_couldAll) := zk_mkI hX12_couldAll rfl fcX12_couldAll
def pX12_could_ : zk_pI := fun as h K => zk_arg as 2 = true ∧ zk_X zk_D (zk_lkl lkX12) zk_mt (zk_cxl [(155, zk_iP pX12_isCard), (199, zk_iP pX12_couldAll)]) (some .int) (zk_at cdX12_could_) (zk_qi K) 0 (zk_L0 as 2) [] h
theorem hX12_could_ : ∀ q ∈ ([(155, zk_iP pX12_isCard), (199, zk_iP pX12_couldAll)] : List (Nat × zk_P)), zk_OK zk_D 4 q.1 q.2 := zk_cons (okX12_isCard.up (by decide)) (zk_cons (okX12_couldAll.up (by decide)) (zk_nil))
theorem okX12_could_ : zk_OK zk_D 5 200 (zk_iP pX12_could_) := zk_mkI hX12_could_ rfl fcX12_could_
def pX12_counts : zk_pI := fun as h K => zk_arg as 2 = true ∧ zk_X zk_D (zk_lkl lkX12) zk_mt (zk_cxl [(156, zk_iP pX12_isCardOf), (197, zk_iP pX12_counted)]) (some .int) (zk_at cdX12_counts) (zk_qi K) 0 (zk_L0 as 2) [] h
theorem hX12_counts : ∀ q ∈ ([(156, zk_iP pX12_isCardOf), (197, zk_iP pX12_counted)] : List (Nat × zk_P)), zk_OK zk_D 4 q.1 q.2 := zk_cons (okX12_isCardOf.up (by decide)) (zk_cons (okX12_counted.up (by decide)) (zk_nil))
theorem okX12_counts : zk_OK zk_D 5 201 (zk_iP pX12_counts) := zk_mkI hX12_counts rfl fcX12_counts
def pX12_part : zk_pL := fun as h K => zk_arg as 6 = true ∧ zk_X zk_D (zk_lkl lkX12) zk_mt (zk_cxl []) (some .long) (zk_at cdX12_part) (zk_ql K) 0 (zk_L0 as 6) [] h
theorem hX12_part : ∀ q ∈ ([] : List (Nat × zk_P)), zk_OK zk_D 0 q.1 q.2 := zk_nil
theorem okX12_part : zk_OK zk_D 1 202 (zk_lP pX12_part) := zk_mkL hX12_part rfl fcX12_part
def pX12_likely : zk_pL := fun as h K => zk_arg as 3 = true ∧ zk_X zk_D (zk_lkl lkX12) zk_mt (zk_cxl [(153, zk_iP pX12_within), (156, zk_iP pX12_isCardOf), (197, zk_iP pX12_counted), (198, zk_iP pX12_countedAll), (202, zk_lP pX12_part)]) (some .long) (zk_at cdX12_likely) (zk_ql K) 0 (zk_L0 as 3) [] h
theorem hX12_likely : ∀ q ∈ ([(153, zk_iP pX12_within), (156, zk_iP pX12_isCardOf), (197, zk_iP pX12_counted), (198, zk_iP pX12_countedAll), (202, zk_lP pX12_part)] : List (Nat × zk_P)), zk_OK zk_D 5 q.1 q.2 := zk_cons (okX12_within.up (by decide)) (zk_cons (okX12_isCardOf.up (by decide)) (zk_cons (okX12_counted.up (by decide)) (zk_cons (okX12_countedAll.up (by decide)) (zk_cons (okX12_part.up (by decide)) (zk_nil)))))
theorem okX12_likely : zk_OK zk_D 6 203 (zk_lP pX12_likely) := zk_mkL hX12_likely rfl fcX12_likely
def pX12_likeliest : zk_pI := fun as h K => zk_arg as 5 = true ∧ zk_X zk_D (zk_lkl lkX12) zk_mt (zk_cxl [(197, zk_iP pX12_counted)]) (some .int) (zk_at cdX12_likeliest) (zk_qi K) 0 (zk_L0 as 5) [] h
theorem hX12_likeliest : ∀ q ∈ ([(197, zk_iP pX12_counted)] : List (Nat × zk_P)), zk_OK zk_D 4 q.1 q.2 := zk_cons (okX12_counted.up (by decide)) (zk_nil)
theorem okX12_likeliest : zk_OK zk_D 5 204 (zk_iP pX12_likeliest) := zk_mkI hX12_likeliest rfl fcX12_likeliest
def pX12_sure : zk_pI := fun as h K => zk_arg as 4 = true ∧ zk_X zk_D (zk_lkl lkX12) zk_mt (zk_cxl [(197, zk_iP pX12_counted)]) (some .int) (zk_at cdX12_sure) (zk_qi K) 0 (zk_L0 as 4) [] h
theorem hX12_sure : ∀ q ∈ ([(197, zk_iP pX12_counted)] : List (Nat × zk_P)), zk_OK zk_D 4 q.1 q.2 := zk_cons (okX12_counted.up (by decide)) (zk_nil)
theorem okX12_sure : zk_OK zk_D 5 205 (zk_iP pX12_sure) := zk_mkI hX12_sure rfl fcX12_sure
def pX12_likeliest_ : zk_pI := fun as h K => zk_arg as 3 = true ∧ zk_X zk_D (zk_lkl lkX12) zk_mt (zk_cxl [(153, zk_iP pX12_within), (155, zk_iP pX12_isCard), (204, zk_iP pX12_likeliest), (205, zk_iP pX12_sure)]) (some .int) (zk_at cdX12_likeliest_) (zk_qi K) 0 (zk_L0 as 3) [] h
theorem hX12_likeliest_ : ∀ q ∈ ([(153, zk_iP pX12_within), (155, zk_iP pX12_isCard), (204, zk_iP pX12_likeliest), (205, zk_iP pX12_sure)] : List (Nat × zk_P)), zk_OK zk_D 5 q.1 q.2 := zk_cons (okX12_within.up (by decide)) (zk_cons (okX12_isCard.up (by decide)) (zk_cons (okX12_likeliest.up (by decide)) (zk_cons (okX12_sure.up (by decide)) (zk_nil))))
theorem okX12_likeliest_ : zk_OK zk_D 6 206 (zk_iP pX12_likeliest_) := zk_mkI hX12_likeliest_ rfl fcX12_likeliest_
def pX12_allByOne : zk_pI := fun as h K => zk_arg as 4 = true ∧ zk_X zk_D (zk_lkl lkX12) zk_mt (zk_cxl [(158, zk_iP pX12_areCards), (163, zk_iP pX12_has), (199, zk_iP pX12_couldAll)]) (some .int) (zk_at cdX12_allByOne) (zk_qi K) 0 (zk_L0 as 4) [] h
theorem hX12_allByOne : ∀ q ∈ ([(158, zk_iP pX12_areCards), (163, zk_iP pX12_has), (199, zk_iP pX12_couldAll)] : List (Nat × zk_P)), zk_OK zk_D 4 q.1 q.2 := zk_cons (okX12_areCards.up (by decide)) (zk_cons (okX12_has.up (by decide)) (zk_cons (okX12_couldAll.up (by decide)) (zk_nil)))
theorem okX12_allByOne : zk_OK zk_D 5 207 (zk_iP pX12_allByOne) := zk_mkI hX12_allByOne rfl fcX12_allByOne
def pX12_areHands : zk_pI := fun as h K => zk_arg as 4 = true ∧ zk_X zk_D (zk_lkl lkX12) zk_mt (zk_cxl [(163, zk_iP pX12_has), (199, zk_iP pX12_couldAll)]) (some .boolean) (zk_at cdX12_areHands) (zk_qi K) 0 (zk_L0 as 4) [] h
theorem hX12_areHands : ∀ q ∈ ([(163, zk_iP pX12_has), (199, zk_iP pX12_couldAll)] : List (Nat × zk_P)), zk_OK zk_D 4 q.1 q.2 := zk_cons (okX12_has.up (by decide)) (zk_cons (okX12_couldAll.up (by decide)) (zk_nil))
theorem okX12_areHands : zk_OK zk_D 5 208 (zk_iP pX12_areHands) := zk_mkI hX12_areHands rfl fcX12_areHands
def pX12_hands : zk_pI := fun as h K => zk_arg as 5 = true ∧ zk_X zk_D (zk_lkl lkX12) zk_mt (zk_cxl [(153, zk_iP pX12_within), (158, zk_iP pX12_areCards), (208, zk_iP pX12_areHands), (262, zk_iP (pJ6_bitCount_0f7a4 zk_D))]) (some .int) (zk_at cdX12_hands) (zk_qi K) 0 (zk_L0 as 5) [] h
theorem hX12_hands : ∀ q ∈ ([(153, zk_iP pX12_within), (158, zk_iP pX12_areCards), (208, zk_iP pX12_areHands), (262, zk_iP (pJ6_bitCount_0f7a4 zk_D))] : List (Nat × zk_P)), zk_OK zk_D 5 q.1 q.2 := zk_cons (okX12_within.up (by decide)) (zk_cons (okX12_areCards.up (by decide)) (zk_cons (okX12_areHands.up (by decide)) (zk_cons (okJ6_bitCount_0f7a4.up (by decide)) (zk_nil))))
theorem okX12_hands : zk_OK zk_D 6 209 (zk_iP pX12_hands) := zk_mkI hX12_hands rfl fcX12_hands
def gX12_unlikes (r : zk_pI) : zk_pI := fun as h K => zk_arg as 6 = true ∧ zk_X zk_D (zk_lkl lkX12) zk_mt (zk_cxl [(163, zk_iP pX12_has), (195, zk_iP pX12_could), (210, zk_iP r)]) (some .int) (zk_at cdX12_unlikes) (zk_qi K) 0 (zk_L0 as 6) [] h
def pX12_unlikes : Nat → zk_pI
  | 0 => fun _ _ _ => False
  | n + 1 => gX12_unlikes (pX12_unlikes n)
theorem ghX12_unlikes {r : zk_pI} {d : Nat} (hr : zk_OK zk_D (3 + d) 210 (zk_iP r)) : ∀ q ∈ ([(163, zk_iP pX12_has), (195, zk_iP pX12_could), (210, zk_iP r)] : List (Nat × zk_P)), zk_OK zk_D (3 + d) q.1 q.2 := zk_cons (okX12_has.up (by omega)) (zk_cons (okX12_could.up (by omega)) (zk_cons (hr.up (by omega)) (zk_nil)))
theorem gokX12_unlikes {r : zk_pI} {d : Nat} (hr : zk_OK zk_D (3 + d) 210 (zk_iP r)) : zk_OK zk_D (3 + (d + 1)) 210 (zk_iP (gX12_unlikes r)) := (show zk_OK zk_D (3 + d + 1) 210 (zk_iP (gX12_unlikes r)) from zk_mkI (ghX12_unlikes hr) rfl fcX12_unlikes).up (by omega)
theorem okX12_unlikes : ∀ n, zk_OK zk_D (3 + 1 * n) 210 (zk_iP (pX12_unlikes n))
  | 0 => ⟨zk_CT.none, fun _ _ _ _ _ h => h⟩
  | n + 1 => (gokX12_unlikes (okX12_unlikes n)).up (by omega)
def pX12_unlike : zk_pI := fun as h K => zk_arg as 2 = true ∧ zk_X zk_D (zk_lkl lkX12) zk_mt (zk_cxl [(158, zk_iP pX12_areCards), (210, zk_iP (pX12_unlikes 9))]) (some .int) (zk_at cdX12_unlike) (zk_qi K) 0 (zk_L0 as 2) [] h
theorem hX12_unlike : ∀ q ∈ ([(158, zk_iP pX12_areCards), (210, zk_iP (pX12_unlikes 9))] : List (Nat × zk_P)), zk_OK zk_D 12 q.1 q.2 := zk_cons (okX12_areCards.up (by decide)) (zk_cons ((okX12_unlikes 9).up (by decide)) (zk_nil))
theorem okX12_unlike : zk_OK zk_D 13 211 (zk_iP pX12_unlike) := zk_mkI hX12_unlike rfl fcX12_unlike
def pX12_tellsOn : zk_pV := fun as h K => zk_arg as 4 = true ∧ zk_X zk_D (zk_lkl lkX12) zk_mt (zk_cxl [(163, zk_iP pX12_has)]) none (zk_at cdX12_tellsOn) (zk_qv K) 0 (zk_L0 as 4) [] h
theorem hX12_tellsOn : ∀ q ∈ ([(163, zk_iP pX12_has)] : List (Nat × zk_P)), zk_OK zk_D 1 q.1 q.2 := zk_cons (okX12_has.up (by decide)) (zk_nil)
theorem okX12_tellsOn : zk_OK zk_D 2 212 (zk_vP pX12_tellsOn) := zk_mkV hX12_tellsOn rfl fcX12_tellsOn
def pX12_evenings : zk_pI := fun as h K => zk_arg as 3 = true ∧ zk_X zk_D (zk_lkl lkX12) zk_mt (zk_cxl [(153, zk_iP pX12_within), (161, zk_iP pX12_isSecret), (212, zk_vP pX12_tellsOn)]) (some .int) (zk_at cdX12_evenings) (zk_qi K) 0 (zk_L0 as 3) [] h
theorem hX12_evenings : ∀ q ∈ ([(153, zk_iP pX12_within), (161, zk_iP pX12_isSecret), (212, zk_vP pX12_tellsOn)] : List (Nat × zk_P)), zk_OK zk_D 2 q.1 q.2 := zk_cons (okX12_within.up (by decide)) (zk_cons (okX12_isSecret.up (by decide)) (zk_cons (okX12_tellsOn.up (by decide)) (zk_nil)))
theorem okX12_evenings : zk_OK zk_D 3 213 (zk_iP pX12_evenings) := zk_mkI hX12_evenings rfl fcX12_evenings
def pX12_hears : zk_pI := fun as h K => zk_arg as 4 = true ∧ zk_X zk_D (zk_lkl lkX12) zk_mt (zk_cxl [(154, zk_iP pX12_isOne), (161, zk_iP pX12_isSecret), (163, zk_iP pX12_has), (212, zk_vP pX12_tellsOn)]) (some .int) (zk_at cdX12_hears) (zk_qi K) 0 (zk_L0 as 4) [] h
theorem hX12_hears : ∀ q ∈ ([(154, zk_iP pX12_isOne), (161, zk_iP pX12_isSecret), (163, zk_iP pX12_has), (212, zk_vP pX12_tellsOn)] : List (Nat × zk_P)), zk_OK zk_D 2 q.1 q.2 := zk_cons (okX12_isOne.up (by decide)) (zk_cons (okX12_isSecret.up (by decide)) (zk_cons (okX12_has.up (by decide)) (zk_cons (okX12_tellsOn.up (by decide)) (zk_nil))))
theorem okX12_hears : zk_OK zk_D 3 214 (zk_iP pX12_hears) := zk_mkI hX12_hears rfl fcX12_hears
def pX12_saysYes : zk_pI := fun as h K => zk_arg as 4 = true ∧ zk_X zk_D (zk_lkl lkX12) zk_mt (zk_cxl [(163, zk_iP pX12_has)]) (some .boolean) (zk_at cdX12_saysYes) (zk_qi K) 0 (zk_L0 as 4) [] h
theorem hX12_saysYes : ∀ q ∈ ([(163, zk_iP pX12_has)] : List (Nat × zk_P)), zk_OK zk_D 1 q.1 q.2 := zk_cons (okX12_has.up (by decide)) (zk_nil)
theorem okX12_saysYes : zk_OK zk_D 2 215 (zk_iP pX12_saysYes) := zk_mkI hX12_saysYes rfl fcX12_saysYes
def pX12_greater : zk_pI := fun as h K => zk_arg as 5 = true ∧ zk_X zk_D (zk_lkl lkX12) zk_mt (zk_cxl [(197, zk_iP pX12_counted), (198, zk_iP pX12_countedAll), (215, zk_iP pX12_saysYes)]) (some .int) (zk_at cdX12_greater) (zk_qi K) 0 (zk_L0 as 5) [] h
theorem hX12_greater : ∀ q ∈ ([(197, zk_iP pX12_counted), (198, zk_iP pX12_countedAll), (215, zk_iP pX12_saysYes)] : List (Nat × zk_P)), zk_OK zk_D 5 q.1 q.2 := zk_cons (okX12_counted.up (by decide)) (zk_cons (okX12_countedAll.up (by decide)) (zk_cons (okX12_saysYes.up (by decide)) (zk_nil)))
theorem okX12_greater : zk_OK zk_D 6 216 (zk_iP pX12_greater) := zk_mkI hX12_greater rfl fcX12_greater
def pX12_ask : zk_pI := fun as h K => zk_arg as 5 = true ∧ zk_X zk_D (zk_lkl lkX12) zk_mt (zk_cxl [(153, zk_iP pX12_within), (155, zk_iP pX12_isCard), (216, zk_iP pX12_greater)]) (some .int) (zk_at cdX12_ask) (zk_qi K) 0 (zk_L0 as 5) [] h
theorem hX12_ask : ∀ q ∈ ([(153, zk_iP pX12_within), (155, zk_iP pX12_isCard), (216, zk_iP pX12_greater)] : List (Nat × zk_P)), zk_OK zk_D 6 q.1 q.2 := zk_cons (okX12_within.up (by decide)) (zk_cons (okX12_isCard.up (by decide)) (zk_cons (okX12_greater.up (by decide)) (zk_nil)))
theorem okX12_ask : zk_OK zk_D 7 217 (zk_iP pX12_ask) := zk_mkI hX12_ask rfl fcX12_ask
def pX12_worthOf : zk_pI := fun as h K => zk_arg as 5 = true ∧ zk_X zk_D (zk_lkl lkX12) zk_mt (zk_cxl [(197, zk_iP pX12_counted), (198, zk_iP pX12_countedAll)]) (some .int) (zk_at cdX12_worthOf) (zk_qi K) 0 (zk_L0 as 5) [] h
theorem hX12_worthOf : ∀ q ∈ ([(197, zk_iP pX12_counted), (198, zk_iP pX12_countedAll)] : List (Nat × zk_P)), zk_OK zk_D 5 q.1 q.2 := zk_cons (okX12_counted.up (by decide)) (zk_cons (okX12_countedAll.up (by decide)) (zk_nil))
theorem okX12_worthOf : zk_OK zk_D 6 218 (zk_iP pX12_worthOf) := zk_mkI hX12_worthOf rfl fcX12_worthOf
def pX12_worth : zk_pI := fun as h K => zk_arg as 2 = true ∧ zk_X zk_D (zk_lkl lkX12) zk_mt (zk_cxl [(156, zk_iP pX12_isCardOf), (218, zk_iP pX12_worthOf)]) (some .int) (zk_at cdX12_worth) (zk_qi K) 0 (zk_L0 as 2) [] h
theorem hX12_worth : ∀ q ∈ ([(156, zk_iP pX12_isCardOf), (218, zk_iP pX12_worthOf)] : List (Nat × zk_P)), zk_OK zk_D 6 q.1 q.2 := zk_cons (okX12_isCardOf.up (by decide)) (zk_cons (okX12_worthOf.up (by decide)) (zk_nil))
theorem okX12_worth : zk_OK zk_D 7 219 (zk_iP pX12_worth) := zk_mkI hX12_worth rfl fcX12_worth
def pX12_thank : zk_pI := fun as h K => zk_arg as 5 = true ∧ zk_X zk_D (zk_lkl lkX12) zk_mt (zk_cxl [(155, zk_iP pX12_isCard), (218, zk_iP pX12_worthOf)]) (some .int) (zk_at cdX12_thank) (zk_qi K) 0 (zk_L0 as 5) [] h
theorem hX12_thank : ∀ q ∈ ([(155, zk_iP pX12_isCard), (218, zk_iP pX12_worthOf)] : List (Nat × zk_P)), zk_OK zk_D 6 q.1 q.2 := zk_cons (okX12_isCard.up (by decide)) (zk_cons (okX12_worthOf.up (by decide)) (zk_nil))
theorem okX12_thank : zk_OK zk_D 7 220 (zk_iP pX12_thank) := zk_mkI hX12_thank rfl fcX12_thank
def pX12_next : zk_pI := fun as h K => zk_arg as 8 = true ∧ zk_X zk_D (zk_lkl lkX12) zk_mt (zk_cxl [(153, zk_iP pX12_within), (155, zk_iP pX12_isCard), (199, zk_iP pX12_couldAll), (262, zk_iP (pJ6_bitCount_0f7a4 zk_D))]) (some .int) (zk_at cdX12_next) (zk_qi K) 0 (zk_L0 as 8) [] h
theorem hX12_next : ∀ q ∈ ([(153, zk_iP pX12_within), (155, zk_iP pX12_isCard), (199, zk_iP pX12_couldAll), (262, zk_iP (pJ6_bitCount_0f7a4 zk_D))] : List (Nat × zk_P)), zk_OK zk_D 4 q.1 q.2 := zk_cons (okX12_within.up (by decide)) (zk_cons (okX12_isCard.up (by decide)) (zk_cons (okX12_couldAll.up (by decide)) (zk_cons (okJ6_bitCount_0f7a4.up (by decide)) (zk_nil))))
theorem okX12_next : zk_OK zk_D 5 221 (zk_iP pX12_next) := zk_mkI hX12_next rfl fcX12_next
def pX12_writes : zk_pV := fun as h K => zk_arg as 9 = true ∧ zk_X zk_D (zk_lkl lkX12) zk_mt (zk_cxl [(160, zk_iP pX12_isWay), (163, zk_iP pX12_has), (167, zk_iP pX12_newCard), (168, zk_vP pX12_tells), (194, zk_iP pX12_isIn), (197, zk_iP pX12_counted), (198, zk_iP pX12_countedAll)]) none (zk_at cdX12_writes) (zk_qv K) 0 (zk_L0 as 9) [] h
theorem hX12_writes : ∀ q ∈ ([(160, zk_iP pX12_isWay), (163, zk_iP pX12_has), (167, zk_iP pX12_newCard), (168, zk_vP pX12_tells), (194, zk_iP pX12_isIn), (197, zk_iP pX12_counted), (198, zk_iP pX12_countedAll)] : List (Nat × zk_P)), zk_OK zk_D 5 q.1 q.2 := zk_cons (okX12_isWay.up (by decide)) (zk_cons (okX12_has.up (by decide)) (zk_cons (okX12_newCard.up (by decide)) (zk_cons (okX12_tells.up (by decide)) (zk_cons (okX12_isIn.up (by decide)) (zk_cons (okX12_counted.up (by decide)) (zk_cons (okX12_countedAll.up (by decide)) (zk_nil)))))))
theorem okX12_writes : zk_OK zk_D 6 222 (zk_vP pX12_writes) := zk_mkV hX12_writes rfl fcX12_writes
def pX12_write : zk_pI := fun as h K => zk_arg as 4 = true ∧ zk_X zk_D (zk_lkl lkX12) zk_mt (zk_cxl [(153, zk_iP pX12_within), (157, zk_iP pX12_areTwo), (159, zk_iP pX12_isMinute), (222, zk_vP pX12_writes)]) (some .int) (zk_at cdX12_write) (zk_qi K) 0 (zk_L0 as 4) [] h
theorem hX12_write : ∀ q ∈ ([(153, zk_iP pX12_within), (157, zk_iP pX12_areTwo), (159, zk_iP pX12_isMinute), (222, zk_vP pX12_writes)] : List (Nat × zk_P)), zk_OK zk_D 6 q.1 q.2 := zk_cons (okX12_within.up (by decide)) (zk_cons (okX12_areTwo.up (by decide)) (zk_cons (okX12_isMinute.up (by decide)) (zk_cons (okX12_writes.up (by decide)) (zk_nil))))
theorem okX12_write : zk_OK zk_D 7 223 (zk_iP pX12_write) := zk_mkI hX12_write rfl fcX12_write
def pX12_written : zk_pL := fun as h K => zk_arg as 4 = true ∧ zk_X zk_D (zk_lkl lkX12) zk_mt (zk_cxl [(157, zk_iP pX12_areTwo), (159, zk_iP pX12_isMinute), (202, zk_lP pX12_part), (222, zk_vP pX12_writes)]) (some .long) (zk_at cdX12_written) (zk_ql K) 0 (zk_L0 as 4) [] h
theorem hX12_written : ∀ q ∈ ([(157, zk_iP pX12_areTwo), (159, zk_iP pX12_isMinute), (202, zk_lP pX12_part), (222, zk_vP pX12_writes)] : List (Nat × zk_P)), zk_OK zk_D 6 q.1 q.2 := zk_cons (okX12_areTwo.up (by decide)) (zk_cons (okX12_isMinute.up (by decide)) (zk_cons (okX12_part.up (by decide)) (zk_cons (okX12_writes.up (by decide)) (zk_nil))))
theorem okX12_written : zk_OK zk_D 7 224 (zk_lP pX12_written) := zk_mkL hX12_written rfl fcX12_written
def pX12_noRow : zk_pI := fun as h K => zk_arg as 3 = true ∧ zk_X zk_D (zk_lkl lkX12) zk_mt (zk_cxl []) (some .int) (zk_at cdX12_noRow) (zk_qi K) 0 (zk_L0 as 3) [] h
theorem hX12_noRow : ∀ q ∈ ([] : List (Nat × zk_P)), zk_OK zk_D 0 q.1 q.2 := zk_nil
theorem okX12_noRow : zk_OK zk_D 1 225 (zk_iP pX12_noRow) := zk_mkI hX12_noRow rfl fcX12_noRow
def pX12_toldAt : zk_pI := fun as h K => zk_arg as 3 = true ∧ zk_X zk_D (zk_lkl lkX12) zk_mt (zk_cxl []) (some .int) (zk_at cdX12_toldAt) (zk_qi K) 0 (zk_L0 as 3) [] h
theorem hX12_toldAt : ∀ q ∈ ([] : List (Nat × zk_P)), zk_OK zk_D 0 q.1 q.2 := zk_nil
theorem okX12_toldAt : zk_OK zk_D 1 226 (zk_iP pX12_toldAt) := zk_mkI hX12_toldAt rfl fcX12_toldAt
def pX12_most : zk_pI := fun as h K => zk_arg as 3 = true ∧ zk_X zk_D (zk_lkl lkX12) zk_mt (zk_cxl []) (some .int) (zk_at cdX12_most) (zk_qi K) 0 (zk_L0 as 3) [] h
theorem hX12_most : ∀ q ∈ ([] : List (Nat × zk_P)), zk_OK zk_D 0 q.1 q.2 := zk_nil
theorem okX12_most : zk_OK zk_D 1 227 (zk_iP pX12_most) := zk_mkI hX12_most rfl fcX12_most
def pX12_lookedFrom : zk_pV := fun as h K => zk_arg as 4 = true ∧ zk_X zk_D (zk_lkl lkX12) zk_mt (zk_cxl [(154, zk_iP pX12_isOne), (226, zk_iP pX12_toldAt)]) none (zk_at cdX12_lookedFrom) (zk_qv K) 0 (zk_L0 as 4) [] h
theorem hX12_lookedFrom : ∀ q ∈ ([(154, zk_iP pX12_isOne), (226, zk_iP pX12_toldAt)] : List (Nat × zk_P)), zk_OK zk_D 2 q.1 q.2 := zk_cons (okX12_isOne.up (by decide)) (zk_cons (okX12_toldAt.up (by decide)) (zk_nil))
theorem okX12_lookedFrom : zk_OK zk_D 3 228 (zk_vP pX12_lookedFrom) := zk_mkV hX12_lookedFrom rfl fcX12_lookedFrom
def pX12_strange : zk_pI := fun as h K => zk_arg as 3 = true ∧ zk_X zk_D (zk_lkl lkX12) zk_mt (zk_cxl [(154, zk_iP pX12_isOne), (194, zk_iP pX12_isIn), (226, zk_iP pX12_toldAt)]) (some .int) (zk_at cdX12_strange) (zk_qi K) 0 (zk_L0 as 3) [] h
theorem hX12_strange : ∀ q ∈ ([(154, zk_iP pX12_isOne), (194, zk_iP pX12_isIn), (226, zk_iP pX12_toldAt)] : List (Nat × zk_P)), zk_OK zk_D 2 q.1 q.2 := zk_cons (okX12_isOne.up (by decide)) (zk_cons (okX12_isIn.up (by decide)) (zk_cons (okX12_toldAt.up (by decide)) (zk_nil)))
theorem okX12_strange : zk_OK zk_D 3 229 (zk_iP pX12_strange) := zk_mkI hX12_strange rfl fcX12_strange
def pX12_looks : zk_pI := fun as h K => zk_arg as 4 = true ∧ zk_X zk_D (zk_lkl lkX12) zk_mt (zk_cxl [(153, zk_iP pX12_within), (162, zk_iP pX12_isShelf), (225, zk_iP pX12_noRow), (227, zk_iP pX12_most), (228, zk_vP pX12_lookedFrom), (229, zk_iP pX12_strange)]) (some .int) (zk_at cdX12_looks) (zk_qi K) 0 (zk_L0 as 4) [] h
theorem hX12_looks : ∀ q ∈ ([(153, zk_iP pX12_within), (162, zk_iP pX12_isShelf), (225, zk_iP pX12_noRow), (227, zk_iP pX12_most), (228, zk_vP pX12_lookedFrom), (229, zk_iP pX12_strange)] : List (Nat × zk_P)), zk_OK zk_D 3 q.1 q.2 := zk_cons (okX12_within.up (by decide)) (zk_cons (okX12_isShelf.up (by decide)) (zk_cons (okX12_noRow.up (by decide)) (zk_cons (okX12_most.up (by decide)) (zk_cons (okX12_lookedFrom.up (by decide)) (zk_cons (okX12_strange.up (by decide)) (zk_nil))))))
theorem okX12_looks : zk_OK zk_D 4 230 (zk_iP pX12_looks) := zk_mkI hX12_looks rfl fcX12_looks
def pX12_since : zk_pI := fun as h K => zk_arg as 4 = true ∧ zk_X zk_D (zk_lkl lkX12) zk_mt (zk_cxl [(159, zk_iP pX12_isMinute), (162, zk_iP pX12_isShelf), (225, zk_iP pX12_noRow), (227, zk_iP pX12_most), (228, zk_vP pX12_lookedFrom)]) (some .int) (zk_at cdX12_since) (zk_qi K) 0 (zk_L0 as 4) [] h
theorem hX12_since : ∀ q ∈ ([(159, zk_iP pX12_isMinute), (162, zk_iP pX12_isShelf), (225, zk_iP pX12_noRow), (227, zk_iP pX12_most), (228, zk_vP pX12_lookedFrom)] : List (Nat × zk_P)), zk_OK zk_D 3 q.1 q.2 := zk_cons (okX12_isMinute.up (by decide)) (zk_cons (okX12_isShelf.up (by decide)) (zk_cons (okX12_noRow.up (by decide)) (zk_cons (okX12_most.up (by decide)) (zk_cons (okX12_lookedFrom.up (by decide)) (zk_nil)))))
theorem okX12_since : zk_OK zk_D 4 231 (zk_iP pX12_since) := zk_mkI hX12_since rfl fcX12_since
def pX12_canBe : zk_pI := fun as h K => zk_arg as 5 = true ∧ zk_X zk_D (zk_lkl lkX12) zk_mt (zk_cxl [(154, zk_iP pX12_isOne), (155, zk_iP pX12_isCard), (195, zk_iP pX12_could), (199, zk_iP pX12_couldAll), (226, zk_iP pX12_toldAt)]) (some .boolean) (zk_at cdX12_canBe) (zk_qi K) 0 (zk_L0 as 5) [] h
theorem hX12_canBe : ∀ q ∈ ([(154, zk_iP pX12_isOne), (155, zk_iP pX12_isCard), (195, zk_iP pX12_could), (199, zk_iP pX12_couldAll), (226, zk_iP pX12_toldAt)] : List (Nat × zk_P)), zk_OK zk_D 4 q.1 q.2 := zk_cons (okX12_isOne.up (by decide)) (zk_cons (okX12_isCard.up (by decide)) (zk_cons (okX12_could.up (by decide)) (zk_cons (okX12_couldAll.up (by decide)) (zk_cons (okX12_toldAt.up (by decide)) (zk_nil)))))
theorem okX12_canBe : zk_OK zk_D 5 232 (zk_iP pX12_canBe) := zk_mkI hX12_canBe rfl fcX12_canBe
def pX12_wrong : zk_pI := fun as h K => zk_arg as 3 = true ∧ zk_X zk_D (zk_lkl lkX12) zk_mt (zk_cxl [(232, zk_iP pX12_canBe)]) (some .int) (zk_at cdX12_wrong) (zk_qi K) 0 (zk_L0 as 3) [] h
theorem hX12_wrong : ∀ q ∈ ([(232, zk_iP pX12_canBe)] : List (Nat × zk_P)), zk_OK zk_D 5 q.1 q.2 := zk_cons (okX12_canBe.up (by decide)) (zk_nil)
theorem okX12_wrong : zk_OK zk_D 6 233 (zk_iP pX12_wrong) := zk_mkI hX12_wrong rfl fcX12_wrong
def pX12_judge : zk_pI := fun as h K => zk_arg as 3 = true ∧ zk_X zk_D (zk_lkl lkX12) zk_mt (zk_cxl [(162, zk_iP pX12_isShelf), (225, zk_iP pX12_noRow), (233, zk_iP pX12_wrong)]) (some .int) (zk_at cdX12_judge) (zk_qi K) 0 (zk_L0 as 3) [] h
theorem hX12_judge : ∀ q ∈ ([(162, zk_iP pX12_isShelf), (225, zk_iP pX12_noRow), (233, zk_iP pX12_wrong)] : List (Nat × zk_P)), zk_OK zk_D 6 q.1 q.2 := zk_cons (okX12_isShelf.up (by decide)) (zk_cons (okX12_noRow.up (by decide)) (zk_cons (okX12_wrong.up (by decide)) (zk_nil)))
theorem okX12_judge : zk_OK zk_D 7 234 (zk_iP pX12_judge) := zk_mkI hX12_judge rfl fcX12_judge
def pX12_filled : zk_pL := fun as h K => zk_arg as 8 = true ∧ zk_X zk_D (zk_lkl lkX12) zk_mt (zk_cxl [(153, zk_iP pX12_within), (162, zk_iP pX12_isShelf), (197, zk_iP pX12_counted), (198, zk_iP pX12_countedAll), (199, zk_iP pX12_couldAll), (225, zk_iP pX12_noRow), (226, zk_iP pX12_toldAt), (233, zk_iP pX12_wrong), (262, zk_iP (pJ6_bitCount_0f7a4 zk_D))]) (some .long) (zk_at cdX12_filled) (zk_ql K) 0 (zk_L0 as 8) [] h
theorem hX12_filled : ∀ q ∈ ([(153, zk_iP pX12_within), (162, zk_iP pX12_isShelf), (197, zk_iP pX12_counted), (198, zk_iP pX12_countedAll), (199, zk_iP pX12_couldAll), (225, zk_iP pX12_noRow), (226, zk_iP pX12_toldAt), (233, zk_iP pX12_wrong), (262, zk_iP (pJ6_bitCount_0f7a4 zk_D))] : List (Nat × zk_P)), zk_OK zk_D 6 q.1 q.2 := zk_cons (okX12_within.up (by decide)) (zk_cons (okX12_isShelf.up (by decide)) (zk_cons (okX12_counted.up (by decide)) (zk_cons (okX12_countedAll.up (by decide)) (zk_cons (okX12_couldAll.up (by decide)) (zk_cons (okX12_noRow.up (by decide)) (zk_cons (okX12_toldAt.up (by decide)) (zk_cons (okX12_wrong.up (by decide)) (zk_cons (okJ6_bitCount_0f7a4.up (by decide)) (zk_nil)))))))))
theorem okX12_filled : zk_OK zk_D 7 235 (zk_lP pX12_filled) := zk_mkL hX12_filled rfl fcX12_filled
def pX12_hope : zk_pI := fun as h K => zk_arg as 6 = true ∧ zk_X zk_D (zk_lkl lkX12) zk_mt (zk_cxl [(153, zk_iP pX12_within), (155, zk_iP pX12_isCard), (163, zk_iP pX12_has), (197, zk_iP pX12_counted), (198, zk_iP pX12_countedAll)]) (some .int) (zk_at cdX12_hope) (zk_qi K) 0 (zk_L0 as 6) [] h
theorem hX12_hope : ∀ q ∈ ([(153, zk_iP pX12_within), (155, zk_iP pX12_isCard), (163, zk_iP pX12_has), (197, zk_iP pX12_counted), (198, zk_iP pX12_countedAll)] : List (Nat × zk_P)), zk_OK zk_D 5 q.1 q.2 := zk_cons (okX12_within.up (by decide)) (zk_cons (okX12_isCard.up (by decide)) (zk_cons (okX12_has.up (by decide)) (zk_cons (okX12_counted.up (by decide)) (zk_cons (okX12_countedAll.up (by decide)) (zk_nil)))))
theorem okX12_hope : zk_OK zk_D 6 236 (zk_iP pX12_hope) := zk_mkI hX12_hope rfl fcX12_hope
def pX12_drawn : zk_pI := fun as h K => zk_arg as 10 = true ∧ zk_X zk_D (zk_lkl lkX12) zk_mt (zk_cxl [(153, zk_iP pX12_within), (155, zk_iP pX12_isCard), (197, zk_iP pX12_counted), (198, zk_iP pX12_countedAll)]) (some .int) (zk_at cdX12_drawn) (zk_qi K) 0 (zk_L0 as 10) [] h
theorem hX12_drawn : ∀ q ∈ ([(153, zk_iP pX12_within), (155, zk_iP pX12_isCard), (197, zk_iP pX12_counted), (198, zk_iP pX12_countedAll)] : List (Nat × zk_P)), zk_OK zk_D 5 q.1 q.2 := zk_cons (okX12_within.up (by decide)) (zk_cons (okX12_isCard.up (by decide)) (zk_cons (okX12_counted.up (by decide)) (zk_cons (okX12_countedAll.up (by decide)) (zk_nil))))
theorem okX12_drawn : zk_OK zk_D 6 237 (zk_iP pX12_drawn) := zk_mkI hX12_drawn rfl fcX12_drawn
def pX12_pass : zk_pI := fun as h K => zk_arg as 2 = true ∧ zk_X zk_D (zk_lkl lkX12) zk_mt (zk_cxl [(153, zk_iP pX12_within)]) (some .int) (zk_at cdX12_pass) (zk_qi K) 0 (zk_L0 as 2) [] h
theorem hX12_pass : ∀ q ∈ ([(153, zk_iP pX12_within)] : List (Nat × zk_P)), zk_OK zk_D 1 q.1 q.2 := zk_cons (okX12_within.up (by decide)) (zk_nil)
theorem okX12_pass : zk_OK zk_D 2 238 (zk_iP pX12_pass) := zk_mkI hX12_pass rfl fcX12_pass
def pX12_send : zk_pI := fun as h K => zk_arg as 5 = true ∧ zk_X zk_D (zk_lkl lkX12) zk_mt (zk_cxl [(157, zk_iP pX12_areTwo), (160, zk_iP pX12_isWay), (163, zk_iP pX12_has), (167, zk_iP pX12_newCard), (194, zk_iP pX12_isIn)]) (some .int) (zk_at cdX12_send) (zk_qi K) 0 (zk_L0 as 5) [] h
theorem hX12_send : ∀ q ∈ ([(157, zk_iP pX12_areTwo), (160, zk_iP pX12_isWay), (163, zk_iP pX12_has), (167, zk_iP pX12_newCard), (194, zk_iP pX12_isIn)] : List (Nat × zk_P)), zk_OK zk_D 3 q.1 q.2 := zk_cons (okX12_areTwo.up (by decide)) (zk_cons (okX12_isWay.up (by decide)) (zk_cons (okX12_has.up (by decide)) (zk_cons (okX12_newCard.up (by decide)) (zk_cons (okX12_isIn.up (by decide)) (zk_nil)))))
theorem okX12_send : zk_OK zk_D 4 239 (zk_iP pX12_send) := zk_mkI hX12_send rfl fcX12_send
def pX12_thanked : zk_pI := fun as h K => zk_arg as 4 = true ∧ zk_X zk_D (zk_lkl lkX12) zk_mt (zk_cxl [(156, zk_iP pX12_isCardOf)]) (some .int) (zk_at cdX12_thanked) (zk_qi K) 0 (zk_L0 as 4) [] h
theorem hX12_thanked : ∀ q ∈ ([(156, zk_iP pX12_isCardOf)] : List (Nat × zk_P)), zk_OK zk_D 3 q.1 q.2 := zk_cons (okX12_isCardOf.up (by decide)) (zk_nil)
theorem okX12_thanked : zk_OK zk_D 4 240 (zk_iP pX12_thanked) := zk_mkI hX12_thanked rfl fcX12_thanked
def pX12_led : zk_pI := fun as h K => zk_arg as 2 = true ∧ zk_X zk_D (zk_lkl lkX12) zk_mt (zk_cxl [(153, zk_iP pX12_within)]) (some .int) (zk_at cdX12_led) (zk_qi K) 0 (zk_L0 as 2) [] h
theorem hX12_led : ∀ q ∈ ([(153, zk_iP pX12_within)] : List (Nat × zk_P)), zk_OK zk_D 1 q.1 q.2 := zk_cons (okX12_within.up (by decide)) (zk_nil)
theorem okX12_led : zk_OK zk_D 2 241 (zk_iP pX12_led) := zk_mkI hX12_led rfl fcX12_led
def pX12_image : zk_pI := fun as h K => zk_arg as 2 = true ∧ zk_X zk_D (zk_lkl lkX12) zk_mt (zk_cxl []) (some .int) (zk_at cdX12_image) (zk_qi K) 0 (zk_L0 as 2) [] h
theorem hX12_image : ∀ q ∈ ([] : List (Nat × zk_P)), zk_OK zk_D 0 q.1 q.2 := zk_nil
theorem okX12_image : zk_OK zk_D 1 242 (zk_iP pX12_image) := zk_mkI hX12_image rfl fcX12_image
def pX12_back : zk_pI := fun as h K => zk_arg as 2 = true ∧ zk_X zk_D (zk_lkl lkX12) zk_mt (zk_cxl []) (some .int) (zk_at cdX12_back) (zk_qi K) 0 (zk_L0 as 2) [] h
theorem hX12_back : ∀ q ∈ ([] : List (Nat × zk_P)), zk_OK zk_D 0 q.1 q.2 := zk_nil
theorem okX12_back : zk_OK zk_D 1 243 (zk_iP pX12_back) := zk_mkI hX12_back rfl fcX12_back
def pX12_above : zk_pI := fun as h K => zk_arg as 1 = true ∧ zk_X zk_D (zk_lkl lkX12) zk_mt (zk_cxl []) (some .int) (zk_at cdX12_above) (zk_qi K) 0 (zk_L0 as 1) [] h
theorem hX12_above : ∀ q ∈ ([] : List (Nat × zk_P)), zk_OK zk_D 0 q.1 q.2 := zk_nil
theorem okX12_above : zk_OK zk_D 1 244 (zk_iP pX12_above) := zk_mkI hX12_above rfl fcX12_above
def pX12_ran : zk_pV := fun as h K => zk_arg as 2 = true ∧ zk_X zk_D (zk_lkl lkX12) zk_mt (zk_cxl []) none (zk_at cdX12_ran) (zk_qv K) 0 (zk_L0 as 2) [] h
theorem hX12_ran : ∀ q ∈ ([] : List (Nat × zk_P)), zk_OK zk_D 0 q.1 q.2 := zk_nil
theorem okX12_ran : zk_OK zk_D 1 245 (zk_vP pX12_ran) := zk_mkV hX12_ran rfl fcX12_ran
def gX12_looksBy (r : zk_pI) : zk_pI := fun as h K => zk_arg as 4 = true ∧ zk_X zk_D (zk_lkl lkX12) zk_mt (zk_cxl [(244, zk_iP pX12_above), (245, zk_vP pX12_ran), (246, zk_iP r)]) (some .int) (zk_at cdX12_looksBy) (zk_qi K) 0 (zk_L0 as 4) [] h
def pX12_looksBy : Nat → zk_pI
  | 0 => fun _ _ _ => False
  | n + 1 => gX12_looksBy (pX12_looksBy n)
theorem ghX12_looksBy {r : zk_pI} {d : Nat} (hr : zk_OK zk_D (1 + d) 246 (zk_iP r)) : ∀ q ∈ ([(244, zk_iP pX12_above), (245, zk_vP pX12_ran), (246, zk_iP r)] : List (Nat × zk_P)), zk_OK zk_D (1 + d) q.1 q.2 := zk_cons (okX12_above.up (by omega)) (zk_cons (okX12_ran.up (by omega)) (zk_cons (hr.up (by omega)) (zk_nil)))
theorem gokX12_looksBy {r : zk_pI} {d : Nat} (hr : zk_OK zk_D (1 + d) 246 (zk_iP r)) : zk_OK zk_D (1 + (d + 1)) 246 (zk_iP (gX12_looksBy r)) := (show zk_OK zk_D (1 + d + 1) 246 (zk_iP (gX12_looksBy r)) from zk_mkI (ghX12_looksBy hr) rfl fcX12_looksBy).up (by omega)
theorem okX12_looksBy : ∀ n, zk_OK zk_D (1 + 1 * n) 246 (zk_iP (pX12_looksBy n))
  | 0 => ⟨zk_CT.none, fun _ _ _ _ _ h => h⟩
  | n + 1 => (gokX12_looksBy (okX12_looksBy n)).up (by omega)
def gX12_hidesBy (r : zk_pI) : zk_pI := fun as h K => zk_arg as 5 = true ∧ zk_X zk_D (zk_lkl lkX12) zk_mt (zk_cxl [(244, zk_iP pX12_above), (245, zk_vP pX12_ran), (246, zk_iP (pX12_looksBy 6)), (248, zk_iP r)]) (some .int) (zk_at cdX12_hidesBy) (zk_qi K) 0 (zk_L0 as 5) [] h
def pX12_hidesBy : Nat → zk_pI
  | 0 => fun _ _ _ => False
  | n + 1 => gX12_hidesBy (pX12_hidesBy n)
theorem ghX12_hidesBy {r : zk_pI} {d : Nat} (hr : zk_OK zk_D (7 + d) 248 (zk_iP r)) : ∀ q ∈ ([(244, zk_iP pX12_above), (245, zk_vP pX12_ran), (246, zk_iP (pX12_looksBy 6)), (248, zk_iP r)] : List (Nat × zk_P)), zk_OK zk_D (7 + d) q.1 q.2 := zk_cons (okX12_above.up (by omega)) (zk_cons (okX12_ran.up (by omega)) (zk_cons ((okX12_looksBy 6).up (by omega)) (zk_cons (hr.up (by omega)) (zk_nil))))
theorem gokX12_hidesBy {r : zk_pI} {d : Nat} (hr : zk_OK zk_D (7 + d) 248 (zk_iP r)) : zk_OK zk_D (7 + (d + 1)) 248 (zk_iP (gX12_hidesBy r)) := (show zk_OK zk_D (7 + d + 1) 248 (zk_iP (gX12_hidesBy r)) from zk_mkI (ghX12_hidesBy hr) rfl fcX12_hidesBy).up (by omega)
theorem okX12_hidesBy : ∀ n, zk_OK zk_D (7 + 1 * n) 248 (zk_iP (pX12_hidesBy n))
  | 0 => ⟨zk_CT.none, fun _ _ _ _ _ h => h⟩
  | n + 1 => (gokX12_hidesBy (okX12_hidesBy n)).up (by omega)
def gX12_writesBy (r : zk_pI) : zk_pI := fun as h K => zk_arg as 5 = true ∧ zk_X zk_D (zk_lkl lkX12) zk_mt (zk_cxl [(244, zk_iP pX12_above), (245, zk_vP pX12_ran), (246, zk_iP (pX12_looksBy 6)), (247, zk_iP r), (248, zk_iP (pX12_hidesBy 6))]) (some .int) (zk_at cdX12_writesBy) (zk_qi K) 0 (zk_L0 as 5) [] h
def pX12_writesBy : Nat → zk_pI
  | 0 => fun _ _ _ => False
  | n + 1 => gX12_writesBy (pX12_writesBy n)
theorem ghX12_writesBy {r : zk_pI} {d : Nat} (hr : zk_OK zk_D (13 + d) 247 (zk_iP r)) : ∀ q ∈ ([(244, zk_iP pX12_above), (245, zk_vP pX12_ran), (246, zk_iP (pX12_looksBy 6)), (247, zk_iP r), (248, zk_iP (pX12_hidesBy 6))] : List (Nat × zk_P)), zk_OK zk_D (13 + d) q.1 q.2 := zk_cons (okX12_above.up (by omega)) (zk_cons (okX12_ran.up (by omega)) (zk_cons ((okX12_looksBy 6).up (by omega)) (zk_cons (hr.up (by omega)) (zk_cons ((okX12_hidesBy 6).up (by omega)) (zk_nil)))))
theorem gokX12_writesBy {r : zk_pI} {d : Nat} (hr : zk_OK zk_D (13 + d) 247 (zk_iP r)) : zk_OK zk_D (13 + (d + 1)) 247 (zk_iP (gX12_writesBy r)) := (show zk_OK zk_D (13 + d + 1) 247 (zk_iP (gX12_writesBy r)) from zk_mkI (ghX12_writesBy hr) rfl fcX12_writesBy).up (by omega)
theorem okX12_writesBy : ∀ n, zk_OK zk_D (13 + 1 * n) 247 (zk_iP (pX12_writesBy n))
  | 0 => ⟨zk_CT.none, fun _ _ _ _ _ h => h⟩
  | n + 1 => (gokX12_writesBy (okX12_writesBy n)).up (by omega)
def gX12_tells_ (r : zk_pI) : zk_pI := fun as h K => zk_arg as 5 = true ∧ zk_X zk_D (zk_lkl lkX12) zk_mt (zk_cxl [(244, zk_iP pX12_above), (245, zk_vP pX12_ran), (247, zk_iP (pX12_writesBy 6)), (248, zk_iP (pX12_hidesBy 6)), (249, zk_iP r)]) (some .int) (zk_at cdX12_tells_) (zk_qi K) 0 (zk_L0 as 5) [] h
def pX12_tells_ : Nat → zk_pI
  | 0 => fun _ _ _ => False
  | n + 1 => gX12_tells_ (pX12_tells_ n)
theorem ghX12_tells_ {r : zk_pI} {d : Nat} (hr : zk_OK zk_D (19 + d) 249 (zk_iP r)) : ∀ q ∈ ([(244, zk_iP pX12_above), (245, zk_vP pX12_ran), (247, zk_iP (pX12_writesBy 6)), (248, zk_iP (pX12_hidesBy 6)), (249, zk_iP r)] : List (Nat × zk_P)), zk_OK zk_D (19 + d) q.1 q.2 := zk_cons (okX12_above.up (by omega)) (zk_cons (okX12_ran.up (by omega)) (zk_cons ((okX12_writesBy 6).up (by omega)) (zk_cons ((okX12_hidesBy 6).up (by omega)) (zk_cons (hr.up (by omega)) (zk_nil)))))
theorem gokX12_tells_ {r : zk_pI} {d : Nat} (hr : zk_OK zk_D (19 + d) 249 (zk_iP r)) : zk_OK zk_D (19 + (d + 1)) 249 (zk_iP (gX12_tells_ r)) := (show zk_OK zk_D (19 + d + 1) 249 (zk_iP (gX12_tells_ r)) from zk_mkI (ghX12_tells_ hr) rfl fcX12_tells_).up (by omega)
theorem okX12_tells_ : ∀ n, zk_OK zk_D (19 + 1 * n) 249 (zk_iP (pX12_tells_ n))
  | 0 => ⟨zk_CT.none, fun _ _ _ _ _ h => h⟩
  | n + 1 => (gokX12_tells_ (okX12_tells_ n)).up (by omega)
def pX12_body : zk_pI := fun as h K => zk_arg as 2 = true ∧ zk_X zk_D (zk_lkl lkX12) zk_mt (zk_cxl [(153, zk_iP pX12_within)]) (some .int) (zk_at cdX12_body) (zk_qi K) 0 (zk_L0 as 2) [] h
theorem hX12_body : ∀ q ∈ ([(153, zk_iP pX12_within)] : List (Nat × zk_P)), zk_OK zk_D 1 q.1 q.2 := zk_cons (okX12_within.up (by decide)) (zk_nil)
theorem okX12_body : zk_OK zk_D 2 250 (zk_iP pX12_body) := zk_mkI hX12_body rfl fcX12_body
def pX12_act : zk_pI := fun as h K => zk_arg as 5 = true ∧ zk_X zk_D (zk_lkl lkX12) zk_mt (zk_cxl [(153, zk_iP pX12_within), (246, zk_iP (pX12_looksBy 6)), (247, zk_iP (pX12_writesBy 6)), (248, zk_iP (pX12_hidesBy 6)), (249, zk_iP (pX12_tells_ 6))]) (some .int) (zk_at cdX12_act) (zk_qi K) 0 (zk_L0 as 5) [] h
theorem hX12_act : ∀ q ∈ ([(153, zk_iP pX12_within), (246, zk_iP (pX12_looksBy 6)), (247, zk_iP (pX12_writesBy 6)), (248, zk_iP (pX12_hidesBy 6)), (249, zk_iP (pX12_tells_ 6))] : List (Nat × zk_P)), zk_OK zk_D 25 q.1 q.2 := zk_cons (okX12_within.up (by decide)) (zk_cons ((okX12_looksBy 6).up (by decide)) (zk_cons ((okX12_writesBy 6).up (by decide)) (zk_cons ((okX12_hidesBy 6).up (by decide)) (zk_cons ((okX12_tells_ 6).up (by decide)) (zk_nil)))))
theorem okX12_act : zk_OK zk_D 26 251 (zk_iP pX12_act) := zk_mkI hX12_act rfl fcX12_act
def pX12_trace : zk_pI := fun as h K => zk_arg as 2 = true ∧ zk_X zk_D (zk_lkl lkX12) zk_mt (zk_cxl [(153, zk_iP pX12_within)]) (some .int) (zk_at cdX12_trace) (zk_qi K) 0 (zk_L0 as 2) [] h
theorem hX12_trace : ∀ q ∈ ([(153, zk_iP pX12_within)] : List (Nat × zk_P)), zk_OK zk_D 1 q.1 q.2 := zk_cons (okX12_within.up (by decide)) (zk_nil)
theorem okX12_trace : zk_OK zk_D 2 252 (zk_iP pX12_trace) := zk_mkI hX12_trace rfl fcX12_trace
def pX12_keep : zk_pI := fun as h K => zk_arg as 3 = true ∧ zk_X zk_D (zk_lkl lkX12) zk_mt (zk_cxl [(153, zk_iP pX12_within), (162, zk_iP pX12_isShelf)]) (some .int) (zk_at cdX12_keep) (zk_qi K) 0 (zk_L0 as 3) [] h
theorem hX12_keep : ∀ q ∈ ([(153, zk_iP pX12_within), (162, zk_iP pX12_isShelf)] : List (Nat × zk_P)), zk_OK zk_D 2 q.1 q.2 := zk_cons (okX12_within.up (by decide)) (zk_cons (okX12_isShelf.up (by decide)) (zk_nil))
theorem okX12_keep : zk_OK zk_D 3 253 (zk_iP pX12_keep) := zk_mkI hX12_keep rfl fcX12_keep
def pX12_row : zk_pI := fun as h K => zk_arg as 5 = true ∧ zk_X zk_D (zk_lkl lkX12) zk_mt (zk_cxl [(153, zk_iP pX12_within), (162, zk_iP pX12_isShelf)]) (some .int) (zk_at cdX12_row) (zk_qi K) 0 (zk_L0 as 5) [] h
theorem hX12_row : ∀ q ∈ ([(153, zk_iP pX12_within), (162, zk_iP pX12_isShelf)] : List (Nat × zk_P)), zk_OK zk_D 2 q.1 q.2 := zk_cons (okX12_within.up (by decide)) (zk_cons (okX12_isShelf.up (by decide)) (zk_nil))
theorem okX12_row : zk_OK zk_D 3 254 (zk_iP pX12_row) := zk_mkI hX12_row rfl fcX12_row
def pX12_isRow : zk_pI := fun as h K => zk_arg as 2 = true ∧ zk_X zk_D (zk_lkl lkX12) zk_mt (zk_cxl [(153, zk_iP pX12_within)]) (some .boolean) (zk_at cdX12_isRow) (zk_qi K) 0 (zk_L0 as 2) [] h
theorem hX12_isRow : ∀ q ∈ ([(153, zk_iP pX12_within)] : List (Nat × zk_P)), zk_OK zk_D 1 q.1 q.2 := zk_cons (okX12_within.up (by decide)) (zk_nil)
theorem okX12_isRow : zk_OK zk_D 2 255 (zk_iP pX12_isRow) := zk_mkI hX12_isRow rfl fcX12_isRow
def pX12_kept : zk_pL := fun as h K => zk_arg as 3 = true ∧ zk_X zk_D (zk_lkl lkX12) zk_mt (zk_cxl []) (some .long) (zk_at cdX12_kept) (zk_ql K) 0 (zk_L0 as 3) [] h
theorem hX12_kept : ∀ q ∈ ([] : List (Nat × zk_P)), zk_OK zk_D 0 q.1 q.2 := zk_nil
theorem okX12_kept : zk_OK zk_D 1 256 (zk_lP pX12_kept) := zk_mkL hX12_kept rfl fcX12_kept
def pX12_put : zk_pI := fun as h K => zk_arg as 5 = true ∧ zk_X zk_D (zk_lkl lkX12) zk_mt (zk_cxl [(153, zk_iP pX12_within), (162, zk_iP pX12_isShelf), (255, zk_iP pX12_isRow), (256, zk_lP pX12_kept)]) (some .int) (zk_at cdX12_put) (zk_qi K) 0 (zk_L0 as 5) [] h
theorem hX12_put : ∀ q ∈ ([(153, zk_iP pX12_within), (162, zk_iP pX12_isShelf), (255, zk_iP pX12_isRow), (256, zk_lP pX12_kept)] : List (Nat × zk_P)), zk_OK zk_D 2 q.1 q.2 := zk_cons (okX12_within.up (by decide)) (zk_cons (okX12_isShelf.up (by decide)) (zk_cons (okX12_isRow.up (by decide)) (zk_cons (okX12_kept.up (by decide)) (zk_nil))))
theorem okX12_put : zk_OK zk_D 3 257 (zk_iP pX12_put) := zk_mkI hX12_put rfl fcX12_put
def pX12_element : zk_pL := fun as h K => zk_arg as 3 = true ∧ zk_X zk_D (zk_lkl lkX12) zk_mt (zk_cxl [(153, zk_iP pX12_within), (162, zk_iP pX12_isShelf), (255, zk_iP pX12_isRow)]) (some .long) (zk_at cdX12_element) (zk_ql K) 0 (zk_L0 as 3) [] h
theorem hX12_element : ∀ q ∈ ([(153, zk_iP pX12_within), (162, zk_iP pX12_isShelf), (255, zk_iP pX12_isRow)] : List (Nat × zk_P)), zk_OK zk_D 2 q.1 q.2 := zk_cons (okX12_within.up (by decide)) (zk_cons (okX12_isShelf.up (by decide)) (zk_cons (okX12_isRow.up (by decide)) (zk_nil)))
theorem okX12_element : zk_OK zk_D 3 258 (zk_lP pX12_element) := zk_mkL hX12_element rfl fcX12_element
def pX12_shift : zk_pI := fun as h K => zk_arg as 7 = true ∧ zk_X zk_D (zk_lkl lkX12) zk_mt (zk_cxl [(162, zk_iP pX12_isShelf), (255, zk_iP pX12_isRow)]) (some .int) (zk_at cdX12_shift) (zk_qi K) 0 (zk_L0 as 7) [] h
theorem hX12_shift : ∀ q ∈ ([(162, zk_iP pX12_isShelf), (255, zk_iP pX12_isRow)] : List (Nat × zk_P)), zk_OK zk_D 2 q.1 q.2 := zk_cons (okX12_isShelf.up (by decide)) (zk_cons (okX12_isRow.up (by decide)) (zk_nil))
theorem okX12_shift : zk_OK zk_D 3 259 (zk_iP pX12_shift) := zk_mkI hX12_shift rfl fcX12_shift
def pX12_taken : zk_pI := fun as h K => zk_arg as 5 = true ∧ zk_X zk_D (zk_lkl lkX12) zk_mt (zk_cxl [(153, zk_iP pX12_within), (162, zk_iP pX12_isShelf), (244, zk_iP pX12_above), (255, zk_iP pX12_isRow)]) (some .int) (zk_at cdX12_taken) (zk_qi K) 0 (zk_L0 as 5) [] h
theorem hX12_taken : ∀ q ∈ ([(153, zk_iP pX12_within), (162, zk_iP pX12_isShelf), (244, zk_iP pX12_above), (255, zk_iP pX12_isRow)] : List (Nat × zk_P)), zk_OK zk_D 2 q.1 q.2 := zk_cons (okX12_within.up (by decide)) (zk_cons (okX12_isShelf.up (by decide)) (zk_cons (okX12_above.up (by decide)) (zk_cons (okX12_isRow.up (by decide)) (zk_nil))))
theorem okX12_taken : zk_OK zk_D 3 260 (zk_iP pX12_taken) := zk_mkI hX12_taken rfl fcX12_taken
def pX12_count : zk_pI := fun as h K => zk_arg as 2 = true ∧ zk_X zk_D (zk_lkl lkX12) zk_mt (zk_cxl []) (some .int) (zk_at cdX12_count) (zk_qi K) 0 (zk_L0 as 2) [] h
theorem hX12_count : ∀ q ∈ ([] : List (Nat × zk_P)), zk_OK zk_D 0 q.1 q.2 := zk_nil
theorem okX12_count : zk_OK zk_D 1 261 (zk_iP pX12_count) := zk_mkI hX12_count rfl fcX12_count
