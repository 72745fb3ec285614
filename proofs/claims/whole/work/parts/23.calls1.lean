/-! CALLS, one by one: pass, led, count, body, trace, feed -/
section ZK1
variable {lp : zk_lp} {c m : zk_H} {x : Int32}
theorem e_pass (R : zk_RR lp c m) : pX11_pass [.ref 0, .int x] c (fun v c' => pX12_pass [.ref 0, .int x] m (fun v' m' => v = v' ∧ zk_RR lp c' m')) := by
  obtain ⟨P, N, D, U, T, B, R8⟩ := id R
  obtain ⟨r1, r2, r3, r4, r5, r6, r7, r8⟩ := R8
  have e1 : c.1 40 1 = m.1 0 16 := r4.1.1
  refine ⟨rfl, zk_bk hX11_pass (bX11_pass_0 ?_)⟩
  refine ⟨fun c1 => ?_, fun c1 => ⟨fun c2 => ⟨fun c3 => ?_, fun c3 => ?_⟩, fun c2 => ?_⟩⟩
  · show pX12_pass _ _ _
    refine ⟨rfl, zk_bk hX12_pass (bX12_pass_0 ?_)⟩
    refine jX12_within ⟨fun d1 => ?_, fun d1 => ⟨rfl, R⟩⟩
    exfalso
    ((try simp only [zk_b_0, zk_b_1] at *); simp only [Int32.lt_iff_toInt_lt, Int32.le_iff_toInt_le, ← Int32.toInt_inj, Int32.reduceToInt] at *; omega)
  · refine ⟨rfl, zk_bk hX2_letMinutesPass (bX2_letMinutesPass_0 ?_)⟩
    show pX12_pass _ _ _
    refine ⟨rfl, zk_bk hX12_pass (bX12_pass_0 ?_)⟩
    refine jX12_within ⟨fun d1 => ⟨fun d2 => ⟨by rw [e1], P, N, D, U, T, B, ?_⟩, fun d2 => ?_⟩, fun d1 => ?_⟩
    · refine ⟨r1.cg (by simp [zk_si, zk_sl, zk_wi, zk_wl]) (by simp [zk_si, zk_sl, zk_wi, zk_wl]) (by simp [zk_si, zk_sl, zk_wi, zk_wl]), r2.cg (by simp [zk_si, zk_sl, zk_wi, zk_wl]) (by simp [zk_si, zk_sl, zk_wi, zk_wl]) (by simp [zk_si, zk_sl, zk_wi, zk_wl]) (by simp [zk_si, zk_sl, zk_wi, zk_wl]), r3.cg (by simp [zk_si, zk_sl, zk_wi, zk_wl]) (by simp [zk_si, zk_sl, zk_wi, zk_wl]) (by simp [zk_si, zk_sl, zk_wi, zk_wl]) (by simp [zk_si, zk_sl, zk_wi, zk_wl]), ?_, r5.cg (by simp [zk_si, zk_sl, zk_wi, zk_wl]) (by simp [zk_si, zk_sl, zk_wi, zk_wl]) (by simp [zk_si, zk_sl, zk_wi, zk_wl]) (by simp [zk_si, zk_sl, zk_wi, zk_wl]), r6.cg (by simp [zk_si, zk_sl, zk_wi, zk_wl]) (by simp [zk_si, zk_sl, zk_wi, zk_wl]) (by simp [zk_si, zk_sl, zk_wi, zk_wl]) (by simp [zk_si, zk_sl, zk_wi, zk_wl]), fun s hs => (r7 s hs).cg (zk_si_ne (by omega)) rfl (by simp [zk_si, zk_sl, zk_wi, zk_wl]) rfl, zk_lpcg r8 (by simp [zk_si, zk_sl, zk_wi, zk_wl]) (by simp [zk_si, zk_sl, zk_wi, zk_wl]) (by simp [zk_si, zk_sl, zk_wi, zk_wl])⟩
      unfold zk_dee at r4 ⊢
      simp [zk_si] at r4 ⊢
      rw [e1]
      exact ⟨⟨rfl, r4.1.2⟩, r4.2⟩
    · rw [e1] at c3
      exact absurd c3 d2
    · exfalso
      ((try simp only [zk_b_0, zk_b_1] at *); simp only [Int32.lt_iff_toInt_lt, Int32.le_iff_toInt_le, ← Int32.toInt_inj, Int32.reduceToInt] at *; omega)
  · show pX12_pass _ _ _
    refine ⟨rfl, zk_bk hX12_pass (bX12_pass_0 ?_)⟩
    refine jX12_within ⟨fun d1 => ⟨fun d2 => ?_, fun d2 => ⟨rfl, R⟩⟩, fun d1 => ?_⟩
    · rw [e1] at c3
      exact absurd d2 c3
    · exfalso
      ((try simp only [zk_b_0, zk_b_1] at *); simp only [Int32.lt_iff_toInt_lt, Int32.le_iff_toInt_le, ← Int32.toInt_inj, Int32.reduceToInt] at *; omega)
  · show pX12_pass _ _ _
    refine ⟨rfl, zk_bk hX12_pass (bX12_pass_0 ?_)⟩
    refine jX12_within ⟨fun d1 => ?_, fun d1 => ⟨rfl, R⟩⟩
    exfalso
    ((try simp only [zk_b_0, zk_b_1] at *); simp only [Int32.lt_iff_toInt_lt, Int32.le_iff_toInt_le, ← Int32.toInt_inj, Int32.reduceToInt] at *; omega)
theorem e_count (R : zk_RR lp c m) : pX11_count [.ref 0, .int x] c (fun v c' => pX12_count [.ref 0, .int x] m (fun v' m' => v = v' ∧ zk_RR lp c' m')) := by
  obtain ⟨P, N, D, U, T, B, R8⟩ := id R
  obtain ⟨r1, r2, r3, r4, r5, ⟨Z, r6⟩, r7, r8⟩ := R8
  refine ⟨rfl, zk_bk hX11_count (bX11_count_0 ?_)⟩
  refine ⟨fun c1 => ?_, fun c1 => ⟨fun c2 => ?_, fun c2 => ⟨fun c3 => ?_, fun c3 => ⟨fun c4 => ?_, fun c4 => ⟨fun c5 => ?_, fun c5 => ⟨fun c6 => ?_, fun c6 => ?_⟩⟩⟩⟩⟩⟩ <;> show pX12_count _ _ _ <;> refine ⟨rfl, zk_bk hX12_count (bX12_count_0 ?_)⟩ <;> refine ⟨fun d1 => ?_, fun d1 => ⟨fun d2 => ?_, fun d2 => ⟨fun d3 => ?_, fun d3 => ⟨fun d4 => ?_, fun d4 => ⟨fun d5 => ?_, fun d5 => ⟨fun d6 => ?_, fun d6 => ?_⟩⟩⟩⟩⟩⟩ <;> first | exact absurd ‹_› ‹¬ _› | (exfalso; ((try simp only [zk_b_0, zk_b_1] at *); simp only [Int32.lt_iff_toInt_lt, Int32.le_iff_toInt_le, ← Int32.toInt_inj, Int32.reduceToInt] at *; omega)) | (refine ⟨?_, R⟩; first | rfl | rw [r1.2.1.1, r1.2.1.2.2.1] | rw [r1.2.1.2.1, r1.2.1.2.2.2] | rw [r3.2.1, r3.2.2.1] | rw [r2.2.1.1, r2.2.1.2.2.1] | rw [r5.2.1, r5.2.2.1] | rw [r6.2.1, r6.2.2.1])
end ZK1
