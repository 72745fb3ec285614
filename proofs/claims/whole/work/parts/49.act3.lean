/-! CALL: act: the other's side -/
def zk_lm (h : zk_H) (f : Int32) : zk_H := if (24 : Int32) ≤ h.1 0 46 then zk_si h 0 46 (h.1 0 46 + 1) else zk_si (zk_si h 31 (h.1 0 46).toNatClampNeg f) 0 46 (h.1 0 46 + 1)
def zk_lms (h : zk_H) : List Int32 → zk_H
  | [] => h
  | f :: l => zk_lms (zk_lm h f) l
theorem zk_lms_app {l l' : List Int32} : ∀ {h : zk_H}, zk_lms h (l ++ l') = zk_lms (zk_lms h l) l' := by
  induction l with
  | nil => exact rfl
  | cons f l ih => exact ih
def zk_ja (U k Z : Nat) (h : zk_H) : Prop := h.1 0 46 = nI Z ∧ h.1 30 U = nI k
theorem zk_ja.lg {U k Z : Nat} {h : zk_H} {f : Int32} (e : zk_ja U k Z h) : zk_ja U k (Z + 1) (zk_lm h f) := by
  obtain ⟨a, b⟩ := e
  unfold zk_lm
  by_cases q : (24 : Int32) ≤ h.1 0 46
  · rw [if_pos q, a, nI_1]
    exact ⟨by simp [zk_si], by simpa [zk_si] using b⟩
  · rw [if_neg q, a, nI_1]
    exact ⟨by simp [zk_si], by simpa [zk_si] using b⟩
theorem zk_ja.lgs {U k : Nat} {l : List Int32} : ∀ {Z : Nat} {h : zk_H}, zk_ja U k Z h → zk_ja U k (Z + l.length) (zk_lms h l) := by
  induction l with
  | nil => exact fun e => e
  | cons f l ih =>
    intro Z h e
    have := ih (e.lg (f := f))
    rw [List.length_cons, show Z + (l.length + 1) = Z + 1 + l.length by omega]
    exact this
def zk_bwr (j k : Nat) (u x : Int32) : Int32 × List Int32 := if j = 2 then zk_a30 k u x else if j = 3 ∨ j = 5 then zk_a41 k u x else if j = 7 then zk_a80 k u x else zk_a10 k u x
def zk_bhd (j k : Nat) (u x : Int32) : Int32 × List Int32 := if j = 3 ∨ j = 5 then zk_a40 u x else if j = 4 ∨ j = 7 then zk_a50 k u x else zk_a11 u x
def zk_bte (j k : Nat) (u x : Int32) : Int32 × List Int32 := if j = 5 then zk_a60 k u x else if j = 7 then zk_a81 k u x else zk_a2 k u x
section ZKA
variable {K : Int32 → zk_H → Prop} {h : zk_H} {x : Int32} {U k Z n : Nat}
theorem jX12_ran {K : zk_H → Prop} {f : Int32} (e : zk_ja U k Z h) (hZ : Z < 1000) (H : K (zk_lm h f)) : pX12_ran [.ref 0, .int f] h K := by
  obtain ⟨a, b⟩ := e
  refine ⟨rfl, zk_bk hX12_ran (bX12_ran_0 ?_)⟩
  unfold zk_lm at H
  refine ⟨fun q => ?_, fun q => ⟨?_, ?_⟩⟩
  · rw [if_pos q] at H
    exact H
  · rw [a] at q ⊢
    refine vp_in_nI ?_ (by decide)
    rcases Nat.lt_or_ge Z 24 with z | z
    · exact z
    · exact absurd ((nI_leI (a := 24) (by decide) (by omega)).mpr z) q
  · rw [if_neg q] at H
    exact H
theorem rD_looksBy_0 (e : zk_ja U k Z h) (hU : U < 50) (hk : k < 8) (hZ : Z + 1 < 1000) (H : K (zk_a1 (nI U) x).1 (zk_lms h (zk_a1 (nI U) x).2)) : pX12_looksBy (n + 1) [.ref 0, .int (nI U), .int (nI 0), .int x] h K := by
  refine ⟨rfl, zk_bk (ghX12_looksBy (okX12_looksBy _)) (bX12_looksBy_0 ?_)⟩
  exact ⟨fun _ => jX12_ran e (by omega) H, fun q => absurd rfl q⟩
theorem rD_looksBy_1 (e : zk_ja U k Z h) (hU : U < 50) (hk : k < 8) (hZ : Z + 5 < 1000) (H : K (zk_a20 (nI U) x).1 (zk_lms h (zk_a20 (nI U) x).2)) : pX12_looksBy (n + 2) [.ref 0, .int (nI U), .int (nI 1), .int x] h K := by
  refine ⟨rfl, zk_bk (ghX12_looksBy (okX12_looksBy _)) (bX12_looksBy_0 ?_)⟩
  exact ⟨fun q => absurd q (by decide), fun _ => ⟨fun _ => jX12_ran e (by omega) (rD_looksBy_0 (n := n) e.lg hU hk (by omega) H), fun q => absurd rfl q⟩⟩
theorem rD_looksBy_6 (e : zk_ja U k Z h) (hU : U < 50) (hk : k < 8) (hZ : Z + 5 < 1000) (H : K (zk_a70 (nI U) x).1 (zk_lms h (zk_a70 (nI U) x).2)) : pX12_looksBy (n + 2) [.ref 0, .int (nI U), .int (nI 6), .int x] h K := by
  refine ⟨rfl, zk_bk (ghX12_looksBy (okX12_looksBy _)) (bX12_looksBy_0 ?_)⟩
  exact ⟨fun q => absurd q (by decide), fun _ => ⟨fun q => absurd q (by decide), fun _ => ⟨fun _ => jX12_ran e (by omega) (rD_looksBy_0 (n := n) e.lg hU hk (by omega) H), fun q => absurd rfl q⟩⟩⟩
theorem rD_looksBy_2 (e : zk_ja U k Z h) (hU : U < 50) (hk : k < 8) (hZ : Z + 5 < 1000) (H : K (zk_a1 (nI U) x).1 (zk_lms h (zk_a1 (nI U) x).2)) : pX12_looksBy (n + 2) [.ref 0, .int (nI U), .int (nI 2), .int x] h K := by
  refine ⟨rfl, zk_bk (ghX12_looksBy (okX12_looksBy _)) (bX12_looksBy_0 ?_)⟩
  exact ⟨fun q => absurd q (by decide), fun _ => ⟨fun q => absurd q (by decide), fun _ => ⟨fun q => absurd q (by decide), fun _ => jX12_above (by decide) (rD_looksBy_0 (n := n) e hU hk (by omega) H)⟩⟩⟩
theorem rD_looksBy_3 (e : zk_ja U k Z h) (hU : U < 50) (hk : k < 8) (hZ : Z + 5 < 1000) (H : K (zk_a1 (nI U) x).1 (zk_lms h (zk_a1 (nI U) x).2)) : pX12_looksBy (n + 3) [.ref 0, .int (nI U), .int (nI 3), .int x] h K := by
  refine ⟨rfl, zk_bk (ghX12_looksBy (okX12_looksBy _)) (bX12_looksBy_0 ?_)⟩
  exact ⟨fun q => absurd q (by decide), fun _ => ⟨fun q => absurd q (by decide), fun _ => ⟨fun q => absurd q (by decide), fun _ => jX12_above (by decide) (rD_looksBy_2 (n := n) e hU hk (by omega) H)⟩⟩⟩
theorem rD_looksBy_4 (e : zk_ja U k Z h) (hU : U < 50) (hk : k < 8) (hZ : Z + 5 < 1000) (H : K (zk_a20 (nI U) x).1 (zk_lms h (zk_a20 (nI U) x).2)) : pX12_looksBy (n + 3) [.ref 0, .int (nI U), .int (nI 4), .int x] h K := by
  refine ⟨rfl, zk_bk (ghX12_looksBy (okX12_looksBy _)) (bX12_looksBy_0 ?_)⟩
  exact ⟨fun q => absurd q (by decide), fun _ => ⟨fun q => absurd q (by decide), fun _ => ⟨fun q => absurd q (by decide), fun _ => jX12_above (by decide) (rD_looksBy_1 (n := n) e hU hk (by omega) H)⟩⟩⟩
theorem rD_looksBy_5 (e : zk_ja U k Z h) (hU : U < 50) (hk : k < 8) (hZ : Z + 5 < 1000) (H : K (zk_a1 (nI U) x).1 (zk_lms h (zk_a1 (nI U) x).2)) : pX12_looksBy (n + 4) [.ref 0, .int (nI U), .int (nI 5), .int x] h K := by
  refine ⟨rfl, zk_bk (ghX12_looksBy (okX12_looksBy _)) (bX12_looksBy_0 ?_)⟩
  exact ⟨fun q => absurd q (by decide), fun _ => ⟨fun q => absurd q (by decide), fun _ => ⟨fun q => absurd q (by decide), fun _ => jX12_above (by decide) (rD_looksBy_3 (n := n) e hU hk (by omega) H)⟩⟩⟩
theorem rD_looksBy_7 (e : zk_ja U k Z h) (hU : U < 50) (hk : k < 8) (hZ : Z + 5 < 1000) (H : K (zk_a20 (nI U) x).1 (zk_lms h (zk_a20 (nI U) x).2)) : pX12_looksBy (n + 4) [.ref 0, .int (nI U), .int (nI 7), .int x] h K := by
  refine ⟨rfl, zk_bk (ghX12_looksBy (okX12_looksBy _)) (bX12_looksBy_0 ?_)⟩
  exact ⟨fun q => absurd q (by decide), fun _ => ⟨fun q => absurd q (by decide), fun _ => ⟨fun q => absurd q (by decide), fun _ => jX12_above (by decide) (rD_looksBy_4 (n := n) e hU hk (by omega) H)⟩⟩⟩
theorem rD_looksBy {j : Nat} (hj : j < 8) (e : zk_ja U k Z h) (hU : U < 50) (hk : k < 8) (hZ : Z + 5 < 1000) (H : K (zk_alk j (nI U) x).1 (zk_lms h (zk_alk j (nI U) x).2)) : pX12_looksBy 6 [.ref 0, .int (nI U), .int (nI j), .int x] h K := by
  rcases zk_c8 hj with rfl | rfl | rfl | rfl | rfl | rfl | rfl | rfl
  · exact rD_looksBy_0 (n := 5) e hU hk (by omega) H
  · exact rD_looksBy_1 (n := 4) e hU hk (by omega) H
  · exact rD_looksBy_2 (n := 4) e hU hk (by omega) H
  · exact rD_looksBy_3 (n := 3) e hU hk (by omega) H
  · exact rD_looksBy_4 (n := 3) e hU hk (by omega) H
  · exact rD_looksBy_5 (n := 2) e hU hk (by omega) H
  · exact rD_looksBy_6 (n := 4) e hU hk (by omega) H
  · exact rD_looksBy_7 (n := 2) e hU hk (by omega) H
theorem rD_hidesBy_0 (e : zk_ja U k Z h) (hU : U < 50) (hk : k < 8) (hZ : Z + 1 < 1000) (H : K (zk_a11 (nI U) x).1 (zk_lms h (zk_a11 (nI U) x).2)) : pX12_hidesBy (n + 1) [.ref 0, .int (nI U), .int (nI 0), .int x] h K := by
  refine ⟨rfl, zk_bk (ghX12_hidesBy (okX12_hidesBy _)) (bX12_hidesBy_0 ?_)⟩
  exact ⟨fun _ => jX12_ran e (by omega) H, fun q => absurd rfl q⟩
theorem rD_hidesBy_1 (e : zk_ja U k Z h) (hU : U < 50) (hk : k < 8) (hZ : Z + 5 < 1000) (H : K (zk_a11 (nI U) x).1 (zk_lms h (zk_a11 (nI U) x).2)) : pX12_hidesBy (n + 2) [.ref 0, .int (nI U), .int (nI 1), .int x] h K := by
  refine ⟨rfl, zk_bk (ghX12_hidesBy (okX12_hidesBy _)) (bX12_hidesBy_0 ?_)⟩
  exact ⟨fun q => absurd q (by decide), fun _ => ⟨fun _ => jX12_above (by decide) (rD_hidesBy_0 (n := n) e hU hk (by omega) H), fun q => absurd rfl q⟩⟩
theorem rD_hidesBy_2 (e : zk_ja U k Z h) (hU : U < 50) (hk : k < 8) (hZ : Z + 5 < 1000) (H : K (zk_a11 (nI U) x).1 (zk_lms h (zk_a11 (nI U) x).2)) : pX12_hidesBy (n + 2) [.ref 0, .int (nI U), .int (nI 2), .int x] h K := by
  refine ⟨rfl, zk_bk (ghX12_hidesBy (okX12_hidesBy _)) (bX12_hidesBy_0 ?_)⟩
  exact ⟨fun q => absurd q (by decide), fun _ => ⟨fun q => absurd q (by decide), fun _ => ⟨fun _ => jX12_above (by decide) (rD_hidesBy_0 (n := n) e hU hk (by omega) H), fun q => absurd rfl q⟩⟩⟩
theorem rD_hidesBy_6 (e : zk_ja U k Z h) (hU : U < 50) (hk : k < 8) (hZ : Z + 5 < 1000) (H : K (zk_a11 (nI U) x).1 (zk_lms h (zk_a11 (nI U) x).2)) : pX12_hidesBy (n + 2) [.ref 0, .int (nI U), .int (nI 6), .int x] h K := by
  refine ⟨rfl, zk_bk (ghX12_hidesBy (okX12_hidesBy _)) (bX12_hidesBy_0 ?_)⟩
  exact ⟨fun q => absurd q (by decide), fun _ => ⟨fun q => absurd q (by decide), fun _ => ⟨fun q => absurd q (by decide), fun _ => ⟨fun q => absurd q (by decide), fun _ => ⟨fun q => absurd q (by decide), fun _ => jX12_above (by decide) (rD_hidesBy_0 (n := n) e hU hk (by omega) H)⟩⟩⟩⟩⟩
theorem rD_hidesBy_3 (e : zk_ja U k Z h) (hU : U < 50) (hk : k < 8) (hZ : Z + 6 < 1000) (H : K (zk_a40 (nI U) x).1 (zk_lms h (zk_a40 (nI U) x).2)) : pX12_hidesBy (n + 3) [.ref 0, .int (nI U), .int (nI 3), .int x] h K := by
  refine ⟨rfl, zk_bk (ghX12_hidesBy (okX12_hidesBy _)) (bX12_hidesBy_0 ?_)⟩
  exact ⟨fun q => absurd q (by decide), fun _ => ⟨fun q => absurd q (by decide), fun _ => ⟨fun q => absurd q (by decide), fun _ => ⟨fun _ => jX12_ran e (by omega) (rD_hidesBy_2 (n := n) e.lg hU hk (by omega) H), fun q => absurd rfl q⟩⟩⟩⟩
theorem rD_hidesBy_4 (e : zk_ja U k Z h) (hU : U < 50) (hk : k < 8) (hZ : Z + 20 < 1000) (H : K (zk_a50 k (nI U) x).1 (zk_lms h (zk_a50 k (nI U) x).2)) : pX12_hidesBy (n + 3) [.ref 0, .int (nI U), .int (nI 4), .int x] h K := by
  refine ⟨rfl, zk_bk (ghX12_hidesBy (okX12_hidesBy _)) (bX12_hidesBy_0 ?_)⟩
  have H2 : K (zk_a50 k (nI U) x).1 (zk_lms (zk_lms (zk_lm h 50) (zk_a11 (nI U) x).2) (zk_alk k (nI U) 2).2) := by
    rw [← zk_lms_app]
    exact H
  have l1 : (zk_a11 (nI U) x).2.length = 1 := rfl
  refine ⟨fun q => absurd q (by decide), fun _ => ⟨fun q => absurd q (by decide), fun _ => ⟨fun q => absurd q (by decide), fun _ => ⟨fun q => absurd q (by decide), fun _ => ⟨fun _ => jX12_ran e (by omega) (rD_hidesBy_1 (n := n) e.lg hU hk (by omega) ⟨vp_in_nI hU (by decide), ?_⟩), fun q => absurd rfl q⟩⟩⟩⟩⟩
  rw [nI_clamp (n := U) (by omega), e.lg.lgs.2]
  exact rD_looksBy hk e.lg.lgs hU hk (by omega) H2
theorem rD_hidesBy_5 (e : zk_ja U k Z h) (hU : U < 50) (hk : k < 8) (hZ : Z + 6 < 1000) (H : K (zk_a40 (nI U) x).1 (zk_lms h (zk_a40 (nI U) x).2)) : pX12_hidesBy (n + 4) [.ref 0, .int (nI U), .int (nI 5), .int x] h K := by
  refine ⟨rfl, zk_bk (ghX12_hidesBy (okX12_hidesBy _)) (bX12_hidesBy_0 ?_)⟩
  exact ⟨fun q => absurd q (by decide), fun _ => ⟨fun q => absurd q (by decide), fun _ => ⟨fun q => absurd q (by decide), fun _ => ⟨fun q => absurd q (by decide), fun _ => ⟨fun q => absurd q (by decide), fun _ => jX12_above (by decide) (rD_hidesBy_3 (n := n) e hU hk (by omega) H)⟩⟩⟩⟩⟩
theorem rD_hidesBy_7 (e : zk_ja U k Z h) (hU : U < 50) (hk : k < 8) (hZ : Z + 20 < 1000) (H : K (zk_a50 k (nI U) x).1 (zk_lms h (zk_a50 k (nI U) x).2)) : pX12_hidesBy (n + 4) [.ref 0, .int (nI U), .int (nI 7), .int x] h K := by
  refine ⟨rfl, zk_bk (ghX12_hidesBy (okX12_hidesBy _)) (bX12_hidesBy_0 ?_)⟩
  exact ⟨fun q => absurd q (by decide), fun _ => ⟨fun q => absurd q (by decide), fun _ => ⟨fun q => absurd q (by decide), fun _ => ⟨fun q => absurd q (by decide), fun _ => ⟨fun q => absurd q (by decide), fun _ => jX12_above (by decide) (rD_hidesBy_4 (n := n) e hU hk (by omega) H)⟩⟩⟩⟩⟩
theorem rD_hidesBy {j : Nat} (hj : j < 8) (e : zk_ja U k Z h) (hU : U < 50) (hk : k < 8) (hZ : Z + 20 < 1000) (H : K (zk_bhd j k (nI U) x).1 (zk_lms h (zk_bhd j k (nI U) x).2)) : pX12_hidesBy 6 [.ref 0, .int (nI U), .int (nI j), .int x] h K := by
  rcases zk_c8 hj with rfl | rfl | rfl | rfl | rfl | rfl | rfl | rfl
  · exact rD_hidesBy_0 (n := 5) e hU hk (by omega) H
  · exact rD_hidesBy_1 (n := 4) e hU hk (by omega) H
  · exact rD_hidesBy_2 (n := 4) e hU hk (by omega) H
  · exact rD_hidesBy_3 (n := 3) e hU hk (by omega) H
  · exact rD_hidesBy_4 (n := 3) e hU hk (by omega) H
  · exact rD_hidesBy_5 (n := 2) e hU hk (by omega) H
  · exact rD_hidesBy_6 (n := 4) e hU hk (by omega) H
  · exact rD_hidesBy_7 (n := 2) e hU hk (by omega) H
theorem rD_writesBy_0 (e : zk_ja U k Z h) (hU : U < 50) (hk : k < 8) (hZ : Z + 10 < 1000) (H : K (zk_a10 k (nI U) x).1 (zk_lms h (zk_a10 k (nI U) x).2)) : pX12_writesBy (n + 1) [.ref 0, .int (nI U), .int (nI 0), .int x] h K := by
  refine ⟨rfl, zk_bk (ghX12_writesBy (okX12_writesBy _)) (bX12_writesBy_0 ?_)⟩
  refine ⟨fun _ => jX12_ran e (by omega) ⟨vp_in_nI hU (by decide), ?_⟩, fun q => absurd rfl q⟩
  rw [nI_clamp (n := U) (by omega), e.lg.2]
  exact rD_looksBy hk e.lg hU hk (by omega) H
theorem rD_writesBy_1 (e : zk_ja U k Z h) (hU : U < 50) (hk : k < 8) (hZ : Z + 10 < 1000) (H : K (zk_a10 k (nI U) x).1 (zk_lms h (zk_a10 k (nI U) x).2)) : pX12_writesBy (n + 2) [.ref 0, .int (nI U), .int (nI 1), .int x] h K := by
  refine ⟨rfl, zk_bk (ghX12_writesBy (okX12_writesBy _)) (bX12_writesBy_0 ?_)⟩
  exact ⟨fun q => absurd q (by decide), fun _ => ⟨fun _ => jX12_above (by decide) (rD_writesBy_0 (n := n) e hU hk (by omega) H), fun q => absurd rfl q⟩⟩
theorem rD_writesBy_6 (e : zk_ja U k Z h) (hU : U < 50) (hk : k < 8) (hZ : Z + 10 < 1000) (H : K (zk_a10 k (nI U) x).1 (zk_lms h (zk_a10 k (nI U) x).2)) : pX12_writesBy (n + 2) [.ref 0, .int (nI U), .int (nI 6), .int x] h K := by
  refine ⟨rfl, zk_bk (ghX12_writesBy (okX12_writesBy _)) (bX12_writesBy_0 ?_)⟩
  exact ⟨fun q => absurd q (by decide), fun _ => ⟨fun q => absurd q (by decide), fun _ => ⟨fun q => absurd q (by decide), fun _ => ⟨fun q => absurd q (by decide), fun _ => ⟨fun q => absurd q (by decide), fun _ => ⟨fun q => absurd q (by decide), fun _ => ⟨fun _ => jX12_above (by decide) (rD_writesBy_0 (n := n) e hU hk (by omega) H), fun q => absurd rfl q⟩⟩⟩⟩⟩⟩⟩
theorem rD_writesBy_2 (e : zk_ja U k Z h) (hU : U < 50) (hk : k < 8) (hZ : Z + 15 < 1000) (H : K (zk_a30 k (nI U) x).1 (zk_lms h (zk_a30 k (nI U) x).2)) : pX12_writesBy (n + 2) [.ref 0, .int (nI U), .int (nI 2), .int x] h K := by
  refine ⟨rfl, zk_bk (ghX12_writesBy (okX12_writesBy _)) (bX12_writesBy_0 ?_)⟩
  exact ⟨fun q => absurd q (by decide), fun _ => ⟨fun q => absurd q (by decide), fun _ => ⟨fun _ => jX12_ran e (by omega) (rD_writesBy_0 (n := n) e.lg hU hk (by omega) H), fun q => absurd rfl q⟩⟩⟩
theorem rD_writesBy_3 (e : zk_ja U k Z h) (hU : U < 50) (hk : k < 8) (hZ : Z + 20 < 1000) (H : K (zk_a41 k (nI U) x).1 (zk_lms h (zk_a41 k (nI U) x).2)) : pX12_writesBy (n + 3) [.ref 0, .int (nI U), .int (nI 3), .int x] h K := by
  refine ⟨rfl, zk_bk (ghX12_writesBy (okX12_writesBy _)) (bX12_writesBy_0 ?_)⟩
  exact ⟨fun q => absurd q (by decide), fun _ => ⟨fun q => absurd q (by decide), fun _ => ⟨fun q => absurd q (by decide), fun _ => ⟨fun _ => jX12_ran e (by omega) (rD_writesBy_2 (n := n) e.lg hU hk (by omega) H), fun q => absurd rfl q⟩⟩⟩⟩
theorem rD_writesBy_4 (e : zk_ja U k Z h) (hU : U < 50) (hk : k < 8) (hZ : Z + 10 < 1000) (H : K (zk_a10 k (nI U) x).1 (zk_lms h (zk_a10 k (nI U) x).2)) : pX12_writesBy (n + 3) [.ref 0, .int (nI U), .int (nI 4), .int x] h K := by
  refine ⟨rfl, zk_bk (ghX12_writesBy (okX12_writesBy _)) (bX12_writesBy_0 ?_)⟩
  exact ⟨fun q => absurd q (by decide), fun _ => ⟨fun q => absurd q (by decide), fun _ => ⟨fun q => absurd q (by decide), fun _ => ⟨fun q => absurd q (by decide), fun _ => ⟨fun _ => jX12_above (by decide) (rD_writesBy_1 (n := n) e hU hk (by omega) H), fun q => absurd rfl q⟩⟩⟩⟩⟩
theorem rD_writesBy_5 (e : zk_ja U k Z h) (hU : U < 50) (hk : k < 8) (hZ : Z + 20 < 1000) (H : K (zk_a41 k (nI U) x).1 (zk_lms h (zk_a41 k (nI U) x).2)) : pX12_writesBy (n + 4) [.ref 0, .int (nI U), .int (nI 5), .int x] h K := by
  refine ⟨rfl, zk_bk (ghX12_writesBy (okX12_writesBy _)) (bX12_writesBy_0 ?_)⟩
  exact ⟨fun q => absurd q (by decide), fun _ => ⟨fun q => absurd q (by decide), fun _ => ⟨fun q => absurd q (by decide), fun _ => ⟨fun q => absurd q (by decide), fun _ => ⟨fun q => absurd q (by decide), fun _ => ⟨fun _ => jX12_above (by decide) (rD_writesBy_3 (n := n) e hU hk (by omega) H), fun q => absurd rfl q⟩⟩⟩⟩⟩⟩
theorem rD_writesBy_7 (e : zk_ja U k Z h) (hU : U < 50) (hk : k < 8) (hZ : Z + 40 < 1000) (H : K (zk_a80 k (nI U) x).1 (zk_lms h (zk_a80 k (nI U) x).2)) : pX12_writesBy (n + 4) [.ref 0, .int (nI U), .int (nI 7), .int x] h K := by
  refine ⟨rfl, zk_bk (ghX12_writesBy (okX12_writesBy _)) (bX12_writesBy_0 ?_)⟩
  have H2 : K (zk_a80 k (nI U) x).1 (zk_lms (zk_lms (zk_lm h 80) (zk_a10 k (nI U) x).2) (zk_ahd k (nI U) 2).2) := by
    rw [← zk_lms_app]
    exact H
  have l1 := zk_len_10 (u := nI U) (x := x) hk
  refine ⟨fun q => absurd q (by decide), fun _ => ⟨fun q => absurd q (by decide), fun _ => ⟨fun q => absurd q (by decide), fun _ => ⟨fun q => absurd q (by decide), fun _ => ⟨fun q => absurd q (by decide), fun _ => ⟨fun q => absurd q (by decide), fun _ => ⟨fun q => absurd q (by decide), fun _ => ⟨fun _ => jX12_ran e (by omega) (rD_writesBy_4 (n := n) e.lg hU hk (by omega) ⟨vp_in_nI hU (by decide), ?_⟩), fun q => absurd rfl q⟩⟩⟩⟩⟩⟩⟩⟩
  rw [nI_clamp (n := U) (by omega), e.lg.lgs.2]
  exact rD_hidesBy hk e.lg.lgs hU hk (by omega) H2
theorem rD_writesBy {j : Nat} (hj : j < 8) (e : zk_ja U k Z h) (hU : U < 50) (hk : k < 8) (hZ : Z + 40 < 1000) (H : K (zk_bwr j k (nI U) x).1 (zk_lms h (zk_bwr j k (nI U) x).2)) : pX12_writesBy 6 [.ref 0, .int (nI U), .int (nI j), .int x] h K := by
  rcases zk_c8 hj with rfl | rfl | rfl | rfl | rfl | rfl | rfl | rfl
  · exact rD_writesBy_0 (n := 5) e hU hk (by omega) H
  · exact rD_writesBy_1 (n := 4) e hU hk (by omega) H
  · exact rD_writesBy_2 (n := 4) e hU hk (by omega) H
  · exact rD_writesBy_3 (n := 3) e hU hk (by omega) H
  · exact rD_writesBy_4 (n := 3) e hU hk (by omega) H
  · exact rD_writesBy_5 (n := 2) e hU hk (by omega) H
  · exact rD_writesBy_6 (n := 4) e hU hk (by omega) H
  · exact rD_writesBy_7 (n := 2) e hU hk (by omega) H
theorem rD_tells__0 (e : zk_ja U k Z h) (hU : U < 50) (hk : k < 8) (hZ : Z + 70 < 1000) (H : K (zk_a2 k (nI U) x).1 (zk_lms h (zk_a2 k (nI U) x).2)) : pX12_tells_ (n + 1) [.ref 0, .int (nI U), .int (nI 0), .int x] h K := by
  refine ⟨rfl, zk_bk (ghX12_tells_ (okX12_tells_ _)) (bX12_tells__0 ?_)⟩
  have H2 : K (zk_a2 k (nI U) x).1 (zk_lms (zk_lms (zk_lm h 2) (zk_awr k (nI U) x).2) (zk_ahd k (nI U) 1).2) := by
    rw [← zk_lms_app]
    exact H
  have l1 : (zk_bwr k k (nI U) x).2.length ≤ 8 := zk_len_wr (u := nI U) (x := x) hk
  refine ⟨fun _ => jX12_ran e (by omega) ⟨vp_in_nI hU (by decide), ?_⟩, fun q => absurd rfl q⟩
  rw [nI_clamp (n := U) (by omega), e.lg.2]
  refine rD_writesBy hk e.lg hU hk (by omega) ⟨vp_in_nI hU (by decide), ?_⟩
  rw [e.lg.lgs.2]
  exact rD_hidesBy hk e.lg.lgs hU hk (by omega) H2
theorem rD_tells__1 (e : zk_ja U k Z h) (hU : U < 50) (hk : k < 8) (hZ : Z + 70 < 1000) (H : K (zk_a2 k (nI U) x).1 (zk_lms h (zk_a2 k (nI U) x).2)) : pX12_tells_ (n + 2) [.ref 0, .int (nI U), .int (nI 1), .int x] h K := by
  refine ⟨rfl, zk_bk (ghX12_tells_ (okX12_tells_ _)) (bX12_tells__0 ?_)⟩
  exact ⟨fun q => absurd q (by decide), fun _ => ⟨fun q => absurd q (by decide), fun _ => ⟨fun q => absurd q (by decide), fun _ => jX12_above (by decide) (rD_tells__0 (n := n) e hU hk (by omega) H)⟩⟩⟩
theorem rD_tells__2 (e : zk_ja U k Z h) (hU : U < 50) (hk : k < 8) (hZ : Z + 70 < 1000) (H : K (zk_a2 k (nI U) x).1 (zk_lms h (zk_a2 k (nI U) x).2)) : pX12_tells_ (n + 2) [.ref 0, .int (nI U), .int (nI 2), .int x] h K := by
  refine ⟨rfl, zk_bk (ghX12_tells_ (okX12_tells_ _)) (bX12_tells__0 ?_)⟩
  exact ⟨fun q => absurd q (by decide), fun _ => ⟨fun q => absurd q (by decide), fun _ => ⟨fun q => absurd q (by decide), fun _ => jX12_above (by decide) (rD_tells__0 (n := n) e hU hk (by omega) H)⟩⟩⟩
theorem rD_tells__6 (e : zk_ja U k Z h) (hU : U < 50) (hk : k < 8) (hZ : Z + 70 < 1000) (H : K (zk_a2 k (nI U) x).1 (zk_lms h (zk_a2 k (nI U) x).2)) : pX12_tells_ (n + 2) [.ref 0, .int (nI U), .int (nI 6), .int x] h K := by
  refine ⟨rfl, zk_bk (ghX12_tells_ (okX12_tells_ _)) (bX12_tells__0 ?_)⟩
  exact ⟨fun q => absurd q (by decide), fun _ => ⟨fun q => absurd q (by decide), fun _ => ⟨fun q => absurd q (by decide), fun _ => jX12_above (by decide) (rD_tells__0 (n := n) e hU hk (by omega) H)⟩⟩⟩
theorem rD_tells__3 (e : zk_ja U k Z h) (hU : U < 50) (hk : k < 8) (hZ : Z + 70 < 1000) (H : K (zk_a2 k (nI U) x).1 (zk_lms h (zk_a2 k (nI U) x).2)) : pX12_tells_ (n + 3) [.ref 0, .int (nI U), .int (nI 3), .int x] h K := by
  refine ⟨rfl, zk_bk (ghX12_tells_ (okX12_tells_ _)) (bX12_tells__0 ?_)⟩
  exact ⟨fun q => absurd q (by decide), fun _ => ⟨fun q => absurd q (by decide), fun _ => ⟨fun q => absurd q (by decide), fun _ => jX12_above (by decide) (rD_tells__2 (n := n) e hU hk (by omega) H)⟩⟩⟩
theorem rD_tells__4 (e : zk_ja U k Z h) (hU : U < 50) (hk : k < 8) (hZ : Z + 70 < 1000) (H : K (zk_a2 k (nI U) x).1 (zk_lms h (zk_a2 k (nI U) x).2)) : pX12_tells_ (n + 3) [.ref 0, .int (nI U), .int (nI 4), .int x] h K := by
  refine ⟨rfl, zk_bk (ghX12_tells_ (okX12_tells_ _)) (bX12_tells__0 ?_)⟩
  exact ⟨fun q => absurd q (by decide), fun _ => ⟨fun q => absurd q (by decide), fun _ => ⟨fun q => absurd q (by decide), fun _ => jX12_above (by decide) (rD_tells__1 (n := n) e hU hk (by omega) H)⟩⟩⟩
theorem rD_tells__5 (e : zk_ja U k Z h) (hU : U < 50) (hk : k < 8) (hZ : Z + 80 < 1000) (H : K (zk_a60 k (nI U) x).1 (zk_lms h (zk_a60 k (nI U) x).2)) : pX12_tells_ (n + 4) [.ref 0, .int (nI U), .int (nI 5), .int x] h K := by
  refine ⟨rfl, zk_bk (ghX12_tells_ (okX12_tells_ _)) (bX12_tells__0 ?_)⟩
  exact ⟨fun q => absurd q (by decide), fun _ => ⟨fun _ => jX12_ran e (by omega) (rD_tells__3 (n := n) e.lg hU hk (by omega) H), fun q => absurd rfl q⟩⟩
theorem rD_tells__7 (e : zk_ja U k Z h) (hU : U < 50) (hk : k < 8) (hZ : Z + 80 < 1000) (H : K (zk_a81 k (nI U) x).1 (zk_lms h (zk_a81 k (nI U) x).2)) : pX12_tells_ (n + 4) [.ref 0, .int (nI U), .int (nI 7), .int x] h K := by
  refine ⟨rfl, zk_bk (ghX12_tells_ (okX12_tells_ _)) (bX12_tells__0 ?_)⟩
  exact ⟨fun q => absurd q (by decide), fun _ => ⟨fun q => absurd q (by decide), fun _ => ⟨fun _ => jX12_ran e (by omega) (rD_tells__4 (n := n) e.lg hU hk (by omega) H), fun q => absurd rfl q⟩⟩⟩
theorem rD_tells_ {j : Nat} (hj : j < 8) (e : zk_ja U k Z h) (hU : U < 50) (hk : k < 8) (hZ : Z + 80 < 1000) (H : K (zk_bte j k (nI U) x).1 (zk_lms h (zk_bte j k (nI U) x).2)) : pX12_tells_ 6 [.ref 0, .int (nI U), .int (nI j), .int x] h K := by
  rcases zk_c8 hj with rfl | rfl | rfl | rfl | rfl | rfl | rfl | rfl
  · exact rD_tells__0 (n := 5) e hU hk (by omega) H
  · exact rD_tells__1 (n := 4) e hU hk (by omega) H
  · exact rD_tells__2 (n := 4) e hU hk (by omega) H
  · exact rD_tells__3 (n := 3) e hU hk (by omega) H
  · exact rD_tells__4 (n := 3) e hU hk (by omega) H
  · exact rD_tells__5 (n := 2) e hU hk (by omega) H
  · exact rD_tells__6 (n := 4) e hU hk (by omega) H
  · exact rD_tells__7 (n := 2) e hU hk (by omega) H
end ZKA
