/-! CALL: act: what each body comes to, and what runs -/
def zk_a1 (u x : Int32) : Int32 × List Int32 := (x + u, [1])
def zk_a20 (u x : Int32) : Int32 × List Int32 := ((zk_a1 u x).1 + 3, 20 :: (zk_a1 u x).2)
def zk_a70 (u x : Int32) : Int32 × List Int32 := ((zk_a1 u x).1 * 2, 70 :: (zk_a1 u x).2)
def zk_alk (k : Nat) (u x : Int32) : Int32 × List Int32 := if k = 1 ∨ k = 4 ∨ k = 7 then zk_a20 u x else if k = 6 then zk_a70 u x else zk_a1 u x
def zk_a10 (k : Nat) (u x : Int32) : Int32 × List Int32 := ((zk_alk k u x).1 * 2, 10 :: (zk_alk k u x).2)
def zk_a30 (k : Nat) (u x : Int32) : Int32 × List Int32 := (-(zk_a10 k u x).1, 30 :: (zk_a10 k u x).2)
def zk_a41 (k : Nat) (u x : Int32) : Int32 × List Int32 := ((zk_a30 k u (x + 1)).1, 41 :: (zk_a30 k u (x + 1)).2)
def zk_a11 (u x : Int32) : Int32 × List Int32 := (x ^^^ u, [11])
def zk_a40 (u x : Int32) : Int32 × List Int32 := ((zk_a11 u x).1 * 3, 40 :: (zk_a11 u x).2)
def zk_a50 (k : Nat) (u x : Int32) : Int32 × List Int32 := ((zk_a11 u x).1 - (zk_alk k u 2).1, 50 :: ((zk_a11 u x).2 ++ (zk_alk k u 2).2))
def zk_ahd (k : Nat) (u x : Int32) : Int32 × List Int32 := if k = 3 ∨ k = 5 then zk_a40 u x else if k = 4 ∨ k = 7 then zk_a50 k u x else zk_a11 u x
def zk_a80 (k : Nat) (u x : Int32) : Int32 × List Int32 := ((zk_a10 k u x).1 + (zk_ahd k u 2).1, 80 :: ((zk_a10 k u x).2 ++ (zk_ahd k u 2).2))
def zk_awr (k : Nat) (u x : Int32) : Int32 × List Int32 := if k = 2 then zk_a30 k u x else if k = 3 ∨ k = 5 then zk_a41 k u x else if k = 7 then zk_a80 k u x else zk_a10 k u x
def zk_a2 (k : Nat) (u x : Int32) : Int32 × List Int32 := ((zk_awr k u x).1 - (zk_ahd k u 1).1, 2 :: ((zk_awr k u x).2 ++ (zk_ahd k u 1).2))
def zk_a60 (k : Nat) (u x : Int32) : Int32 × List Int32 := ((zk_a2 k u x).1 ^^^ 5, 60 :: (zk_a2 k u x).2)
def zk_a81 (k : Nat) (u x : Int32) : Int32 × List Int32 := ((zk_a2 k u x).1 - 1, 81 :: (zk_a2 k u x).2)
def zk_ate (k : Nat) (u x : Int32) : Int32 × List Int32 := if k = 5 then zk_a60 k u x else if k = 7 then zk_a81 k u x else zk_a2 k u x
theorem zk_len_lk {k : Nat} {u x : Int32} (hk : k < 8) : (zk_alk k u x).2.length ≤ 2 := by
  rcases zk_c8 hk with rfl | rfl | rfl | rfl | rfl | rfl | rfl | rfl <;> exact Nat.le_of_ble_eq_true rfl
theorem zk_len_10 {k : Nat} {u x : Int32} (hk : k < 8) : (zk_a10 k u x).2.length ≤ 3 := Nat.succ_le_succ (zk_len_lk hk)
theorem zk_len_hd {k : Nat} {u x : Int32} (hk : k < 8) : (zk_ahd k u x).2.length ≤ 4 := by
  rcases zk_c8 hk with rfl | rfl | rfl | rfl | rfl | rfl | rfl | rfl <;> exact Nat.le_of_ble_eq_true rfl
theorem zk_len_wr {k : Nat} {u x : Int32} (hk : k < 8) : (zk_awr k u x).2.length ≤ 8 := by
  rcases zk_c8 hk with rfl | rfl | rfl | rfl | rfl | rfl | rfl | rfl <;> exact Nat.le_of_ble_eq_true rfl
section ZKA
variable {K : Int32 → zk_H → Prop} {h : zk_H} {x : Int32} {U k Z n d : Nat}
theorem rC_1 (hd : d + 0 ≤ 40) (e : zk_ia U k Z h) (hU : U < 50) (hk : k < 8) (hZ : Z + 0 < 1000) (H : K (zk_a1 (nI U) x).1 (zk_lgs h (zk_a1 (nI U) x).2)) : pX0_run (n + 1) [.ref 42, .int 1, .int x, .int (nI d)] h K := by
  refine jX0_run (by omega) e (by omega) ⟨fun _ => H, fun q => absurd rfl q⟩
theorem rC_11 (hd : d + 0 ≤ 40) (e : zk_ia U k Z h) (hU : U < 50) (hk : k < 8) (hZ : Z + 0 < 1000) (H : K (zk_a11 (nI U) x).1 (zk_lgs h (zk_a11 (nI U) x).2)) : pX0_run (n + 1) [.ref 42, .int 11, .int x, .int (nI d)] h K := by
  refine jX0_run (by omega) e (by omega) ⟨fun q => absurd q (by decide), fun _ => ⟨fun q => absurd q (by decide), fun _ => ⟨fun q => absurd q (by decide), fun _ => ⟨fun _ => H, fun q => absurd rfl q⟩⟩⟩⟩
theorem rC_20 (hd : d + 1 ≤ 40) (e : zk_ia U k Z h) (hU : U < 50) (hk : k < 8) (hZ : Z + 5 < 1000) (H : K (zk_a20 (nI U) x).1 (zk_lgs h (zk_a20 (nI U) x).2)) : pX0_run (n + 2) [.ref 42, .int 20, .int x, .int (nI d)] h K := by
  refine jX0_run (by omega) e (by omega) ⟨fun q => absurd q (by decide), fun _ => ⟨fun q => absurd q (by decide), fun _ => ⟨fun q => absurd q (by decide), fun _ => ⟨fun q => absurd q (by decide), fun _ => ⟨fun _ => jX0_above (j := 1) (p := 0) (w := 0) (by decide) (by decide) rfl (by decide) (rC_1 (n := n) (by omega) e.lg hU hk (by omega) H), fun q => absurd rfl q⟩⟩⟩⟩⟩
theorem rC_70 (hd : d + 1 ≤ 40) (e : zk_ia U k Z h) (hU : U < 50) (hk : k < 8) (hZ : Z + 5 < 1000) (H : K (zk_a70 (nI U) x).1 (zk_lgs h (zk_a70 (nI U) x).2)) : pX0_run (n + 2) [.ref 42, .int 70, .int x, .int (nI d)] h K := by
  refine jX0_run (by omega) e (by omega) ⟨fun q => absurd q (by decide), fun _ => ⟨fun q => absurd q (by decide), fun _ => ⟨fun q => absurd q (by decide), fun _ => ⟨fun q => absurd q (by decide), fun _ => ⟨fun q => absurd q (by decide), fun _ => ⟨fun q => absurd q (by decide), fun _ => ⟨fun q => absurd q (by decide), fun _ => ⟨fun q => absurd q (by decide), fun _ => ⟨fun q => absurd q (by decide), fun _ => ⟨fun q => absurd q (by decide), fun _ => ⟨fun _ => jX0_above (j := 6) (p := 0) (w := 0) (by decide) (by decide) rfl (by decide) (rC_1 (n := n) (by omega) e.lg hU hk (by omega) H), fun q => absurd rfl q⟩⟩⟩⟩⟩⟩⟩⟩⟩⟩⟩
theorem rC_40 (hd : d + 1 ≤ 40) (e : zk_ia U k Z h) (hU : U < 50) (hk : k < 8) (hZ : Z + 5 < 1000) (H : K (zk_a40 (nI U) x).1 (zk_lgs h (zk_a40 (nI U) x).2)) : pX0_run (n + 2) [.ref 42, .int 40, .int x, .int (nI d)] h K := by
  refine jX0_run (by omega) e (by omega) ⟨fun q => absurd q (by decide), fun _ => ⟨fun q => absurd q (by decide), fun _ => ⟨fun q => absurd q (by decide), fun _ => ⟨fun q => absurd q (by decide), fun _ => ⟨fun q => absurd q (by decide), fun _ => ⟨fun q => absurd q (by decide), fun _ => ⟨fun _ => jX0_above (j := 3) (p := 2) (w := 2) (by decide) (by decide) rfl (by decide) (rC_11 (n := n) (by omega) e.lg hU hk (by omega) H), fun q => absurd rfl q⟩⟩⟩⟩⟩⟩⟩
theorem rC_lk (hd : d + 1 ≤ 40) (e : zk_ia U k Z h) (hU : U < 50) (hk : k < 8) (hZ : Z + 5 < 1000) (H : K (zk_alk k (nI U) x).1 (zk_lgs h (zk_alk k (nI U) x).2)) : pX0_run (n + 2) [.ref 42, .int (zk_bf k 0), .int x, .int (nI d)] h K := by
  rcases zk_c8 hk with rfl | rfl | rfl | rfl | rfl | rfl | rfl | rfl
  · exact rC_1 (n := n + 1) (by omega) e hU hk (by omega) H
  · exact rC_20 (n := n) (by omega) e hU hk (by omega) H
  · exact rC_1 (n := n + 1) (by omega) e hU hk (by omega) H
  · exact rC_1 (n := n + 1) (by omega) e hU hk (by omega) H
  · exact rC_20 (n := n) (by omega) e hU hk (by omega) H
  · exact rC_1 (n := n + 1) (by omega) e hU hk (by omega) H
  · exact rC_70 (n := n) (by omega) e hU hk (by omega) H
  · exact rC_20 (n := n) (by omega) e hU hk (by omega) H
theorem rC_10 (hd : d + 2 ≤ 40) (e : zk_ia U k Z h) (hU : U < 50) (hk : k < 8) (hZ : Z + 10 < 1000) (H : K (zk_a10 k (nI U) x).1 (zk_lgs h (zk_a10 k (nI U) x).2)) : pX0_run (n + 3) [.ref 42, .int 10, .int x, .int (nI d)] h K := by
  refine jX0_run (by omega) e (by omega) ⟨fun q => absurd q (by decide), fun _ => ⟨fun q => absurd q (by decide), fun _ => ⟨fun _ => jX0_own (w := 0) e.lg hU hk (by decide) (rC_lk (n := n) (by omega) e.lg hU hk (by omega) H), fun q => absurd rfl q⟩⟩⟩
theorem rC_30 (hd : d + 3 ≤ 40) (e : zk_ia U k Z h) (hU : U < 50) (hk : k < 8) (hZ : Z + 15 < 1000) (H : K (zk_a30 k (nI U) x).1 (zk_lgs h (zk_a30 k (nI U) x).2)) : pX0_run (n + 4) [.ref 42, .int 30, .int x, .int (nI d)] h K := by
  refine jX0_run (by omega) e (by omega) ⟨fun q => absurd q (by decide), fun _ => ⟨fun q => absurd q (by decide), fun _ => ⟨fun q => absurd q (by decide), fun _ => ⟨fun q => absurd q (by decide), fun _ => ⟨fun q => absurd q (by decide), fun _ => ⟨fun _ => jX0_above (j := 2) (p := 0) (w := 1) (by decide) (by decide) rfl (by decide) (rC_10 (n := n) (by omega) e.lg hU hk (by omega) H), fun q => absurd rfl q⟩⟩⟩⟩⟩⟩
theorem rC_41 (hd : d + 4 ≤ 40) (e : zk_ia U k Z h) (hU : U < 50) (hk : k < 8) (hZ : Z + 20 < 1000) (H : K (zk_a41 k (nI U) x).1 (zk_lgs h (zk_a41 k (nI U) x).2)) : pX0_run (n + 5) [.ref 42, .int 41, .int x, .int (nI d)] h K := by
  refine jX0_run (by omega) e (by omega) ⟨fun q => absurd q (by decide), fun _ => ⟨fun q => absurd q (by decide), fun _ => ⟨fun q => absurd q (by decide), fun _ => ⟨fun q => absurd q (by decide), fun _ => ⟨fun q => absurd q (by decide), fun _ => ⟨fun q => absurd q (by decide), fun _ => ⟨fun q => absurd q (by decide), fun _ => ⟨fun _ => jX0_above (j := 3) (p := 2) (w := 1) (by decide) (by decide) rfl (by decide) (rC_30 (n := n) (by omega) e.lg hU hk (by omega) H), fun q => absurd rfl q⟩⟩⟩⟩⟩⟩⟩⟩
theorem rC_50 (hd : d + 2 ≤ 40) (e : zk_ia U k Z h) (hU : U < 50) (hk : k < 8) (hZ : Z + 10 < 1000) (H : K (zk_a50 k (nI U) x).1 (zk_lgs h (zk_a50 k (nI U) x).2)) : pX0_run (n + 3) [.ref 42, .int 50, .int x, .int (nI d)] h K := by
  have H2 : K (zk_a50 k (nI U) x).1 (zk_lgs (zk_lgs (zk_lg h 50) (zk_a11 (nI U) x).2) (zk_alk k (nI U) 2).2) := by
    rw [← zk_lgs_app]
    exact H
  refine jX0_run (by omega) e (by omega) ⟨fun q => absurd q (by decide), fun _ => ⟨fun q => absurd q (by decide), fun _ => ⟨fun q => absurd q (by decide), fun _ => ⟨fun q => absurd q (by decide), fun _ => ⟨fun q => absurd q (by decide), fun _ => ⟨fun q => absurd q (by decide), fun _ => ⟨fun q => absurd q (by decide), fun _ => ⟨fun q => absurd q (by decide), fun _ => ⟨fun _ => jX0_above (j := 4) (p := 1) (w := 2) (by decide) (by decide) rfl (by decide) (rC_11 (n := n + 1) (by omega) e.lg hU hk (by omega) (jX0_own (w := 0) e.lg.lgs hU hk (by decide) (rC_lk (n := n) (by omega) e.lg.lgs hU hk (by have : (zk_a11 (nI U) x).2.length = 1 := rfl; omega) H2))), fun q => absurd rfl q⟩⟩⟩⟩⟩⟩⟩⟩⟩
theorem rC_hd (hd : d + 2 ≤ 40) (e : zk_ia U k Z h) (hU : U < 50) (hk : k < 8) (hZ : Z + 10 < 1000) (H : K (zk_ahd k (nI U) x).1 (zk_lgs h (zk_ahd k (nI U) x).2)) : pX0_run (n + 3) [.ref 42, .int (zk_bf k 2), .int x, .int (nI d)] h K := by
  rcases zk_c8 hk with rfl | rfl | rfl | rfl | rfl | rfl | rfl | rfl
  · exact rC_11 (n := n + 2) (by omega) e hU hk (by omega) H
  · exact rC_11 (n := n + 2) (by omega) e hU hk (by omega) H
  · exact rC_11 (n := n + 2) (by omega) e hU hk (by omega) H
  · exact rC_40 (n := n + 1) (by omega) e hU hk (by omega) H
  · exact rC_50 (n := n) (by omega) e hU hk (by omega) H
  · exact rC_40 (n := n + 1) (by omega) e hU hk (by omega) H
  · exact rC_11 (n := n + 2) (by omega) e hU hk (by omega) H
  · exact rC_50 (n := n) (by omega) e hU hk (by omega) H
theorem rC_80 (hd : d + 3 ≤ 40) (e : zk_ia U k Z h) (hU : U < 50) (hk : k < 8) (hZ : Z + 30 < 1000) (H : K (zk_a80 k (nI U) x).1 (zk_lgs h (zk_a80 k (nI U) x).2)) : pX0_run (n + 4) [.ref 42, .int 80, .int x, .int (nI d)] h K := by
  have H2 : K (zk_a80 k (nI U) x).1 (zk_lgs (zk_lgs (zk_lg h 80) (zk_a10 k (nI U) x).2) (zk_ahd k (nI U) 2).2) := by
    rw [← zk_lgs_app]
    exact H
  have l1 := zk_len_10 (u := nI U) (x := x) hk
  refine jX0_run (by omega) e (by omega) ⟨fun q => absurd q (by decide), fun _ => ⟨fun q => absurd q (by decide), fun _ => ⟨fun q => absurd q (by decide), fun _ => ⟨fun q => absurd q (by decide), fun _ => ⟨fun q => absurd q (by decide), fun _ => ⟨fun q => absurd q (by decide), fun _ => ⟨fun q => absurd q (by decide), fun _ => ⟨fun q => absurd q (by decide), fun _ => ⟨fun q => absurd q (by decide), fun _ => ⟨fun q => absurd q (by decide), fun _ => ⟨fun q => absurd q (by decide), fun _ => ⟨fun _ => jX0_above (j := 7) (p := 4) (w := 1) (by decide) (by decide) rfl (by decide) (rC_10 (n := n) (by omega) e.lg hU hk (by omega) (jX0_own (w := 2) e.lg.lgs hU hk (by decide) (rC_hd (n := n) (by omega) e.lg.lgs hU hk (by omega) H2))), fun q => absurd rfl q⟩⟩⟩⟩⟩⟩⟩⟩⟩⟩⟩⟩
theorem rC_wr (hd : d + 4 ≤ 40) (e : zk_ia U k Z h) (hU : U < 50) (hk : k < 8) (hZ : Z + 30 < 1000) (H : K (zk_awr k (nI U) x).1 (zk_lgs h (zk_awr k (nI U) x).2)) : pX0_run (n + 5) [.ref 42, .int (zk_bf k 1), .int x, .int (nI d)] h K := by
  rcases zk_c8 hk with rfl | rfl | rfl | rfl | rfl | rfl | rfl | rfl
  · exact rC_10 (n := n + 2) (by omega) e hU hk (by omega) H
  · exact rC_10 (n := n + 2) (by omega) e hU hk (by omega) H
  · exact rC_30 (n := n + 1) (by omega) e hU hk (by omega) H
  · exact rC_41 (n := n) (by omega) e hU hk (by omega) H
  · exact rC_10 (n := n + 2) (by omega) e hU hk (by omega) H
  · exact rC_41 (n := n) (by omega) e hU hk (by omega) H
  · exact rC_10 (n := n + 2) (by omega) e hU hk (by omega) H
  · exact rC_80 (n := n + 1) (by omega) e hU hk (by omega) H
theorem rC_2 (hd : d + 5 ≤ 40) (e : zk_ia U k Z h) (hU : U < 50) (hk : k < 8) (hZ : Z + 60 < 1000) (H : K (zk_a2 k (nI U) x).1 (zk_lgs h (zk_a2 k (nI U) x).2)) : pX0_run (n + 6) [.ref 42, .int 2, .int x, .int (nI d)] h K := by
  have H2 : K (zk_a2 k (nI U) x).1 (zk_lgs (zk_lgs (zk_lg h 2) (zk_awr k (nI U) x).2) (zk_ahd k (nI U) 1).2) := by
    rw [← zk_lgs_app]
    exact H
  have l1 := zk_len_wr (u := nI U) (x := x) hk
  refine jX0_run (by omega) e (by omega) ⟨fun q => absurd q (by decide), fun _ => ⟨fun _ => jX0_own (w := 1) e.lg hU hk (by decide) (rC_wr (n := n) (by omega) e.lg hU hk (by omega) (jX0_own (w := 2) e.lg.lgs hU hk (by decide) (rC_hd (n := n + 2) (by omega) e.lg.lgs hU hk (by omega) H2))), fun q => absurd rfl q⟩⟩
theorem rC_60 (hd : d + 6 ≤ 40) (e : zk_ia U k Z h) (hU : U < 50) (hk : k < 8) (hZ : Z + 70 < 1000) (H : K (zk_a60 k (nI U) x).1 (zk_lgs h (zk_a60 k (nI U) x).2)) : pX0_run (n + 7) [.ref 42, .int 60, .int x, .int (nI d)] h K := by
  refine jX0_run (by omega) e (by omega) ⟨fun q => absurd q (by decide), fun _ => ⟨fun q => absurd q (by decide), fun _ => ⟨fun q => absurd q (by decide), fun _ => ⟨fun q => absurd q (by decide), fun _ => ⟨fun q => absurd q (by decide), fun _ => ⟨fun q => absurd q (by decide), fun _ => ⟨fun q => absurd q (by decide), fun _ => ⟨fun q => absurd q (by decide), fun _ => ⟨fun q => absurd q (by decide), fun _ => ⟨fun _ => jX0_above (j := 5) (p := 3) (w := 3) (by decide) (by decide) rfl (by decide) (rC_2 (n := n) (by omega) e.lg hU hk (by omega) H), fun q => absurd rfl q⟩⟩⟩⟩⟩⟩⟩⟩⟩⟩
theorem rC_81 (hd : d + 6 ≤ 40) (e : zk_ia U k Z h) (hU : U < 50) (hk : k < 8) (hZ : Z + 70 < 1000) (H : K (zk_a81 k (nI U) x).1 (zk_lgs h (zk_a81 k (nI U) x).2)) : pX0_run (n + 7) [.ref 42, .int 81, .int x, .int (nI d)] h K := by
  refine jX0_run (by omega) e (by omega) ⟨fun q => absurd q (by decide), fun _ => ⟨fun q => absurd q (by decide), fun _ => ⟨fun q => absurd q (by decide), fun _ => ⟨fun q => absurd q (by decide), fun _ => ⟨fun q => absurd q (by decide), fun _ => ⟨fun q => absurd q (by decide), fun _ => ⟨fun q => absurd q (by decide), fun _ => ⟨fun q => absurd q (by decide), fun _ => ⟨fun q => absurd q (by decide), fun _ => ⟨fun q => absurd q (by decide), fun _ => ⟨fun q => absurd q (by decide), fun _ => ⟨fun q => absurd q (by decide), fun _ => ⟨fun _ => jX0_above (j := 7) (p := 4) (w := 3) (by decide) (by decide) rfl (by decide) (rC_2 (n := n) (by omega) e.lg hU hk (by omega) H), fun q => absurd rfl q⟩⟩⟩⟩⟩⟩⟩⟩⟩⟩⟩⟩⟩
theorem rC_te (hd : d + 6 ≤ 40) (e : zk_ia U k Z h) (hU : U < 50) (hk : k < 8) (hZ : Z + 70 < 1000) (H : K (zk_ate k (nI U) x).1 (zk_lgs h (zk_ate k (nI U) x).2)) : pX0_run (n + 7) [.ref 42, .int (zk_bf k 3), .int x, .int (nI d)] h K := by
  rcases zk_c8 hk with rfl | rfl | rfl | rfl | rfl | rfl | rfl | rfl
  · exact rC_2 (n := n + 1) (by omega) e hU hk (by omega) H
  · exact rC_2 (n := n + 1) (by omega) e hU hk (by omega) H
  · exact rC_2 (n := n + 1) (by omega) e hU hk (by omega) H
  · exact rC_2 (n := n + 1) (by omega) e hU hk (by omega) H
  · exact rC_2 (n := n + 1) (by omega) e hU hk (by omega) H
  · exact rC_60 (n := n) (by omega) e hU hk (by omega) H
  · exact rC_2 (n := n + 1) (by omega) e hU hk (by omega) H
  · exact rC_81 (n := n) (by omega) e hU hk (by omega) H
/-- an act of a body: by its kind -/
def zk_aact (k w : Nat) (u x : Int32) : Int32 × List Int32 := if w = 0 then zk_alk k u x else if w = 1 then zk_awr k u x else if w = 2 then zk_ahd k u x else zk_ate k u x
theorem rC_own {w : Nat} (hw : w < 4) (e : zk_ia U k 0 h) (hU : U < 50) (hk : k < 8) (H : K (zk_aact k w (nI U) x).1 (zk_lgs h (zk_aact k w (nI U) x).2)) : pX0_own 40 [.ref 42, .int (nI w), .int x, .int 0] h K := by
  refine jX0_own (n := 40) (d := 0) e hU hk hw ?_
  rcases zk_c4 hw with rfl | rfl | rfl | rfl
  · exact rC_lk (n := 38) (by decide) e hU hk (by decide) H
  · exact rC_wr (n := 35) (by decide) e hU hk (by decide) H
  · exact rC_hd (n := 37) (by decide) e hU hk (by decide) H
  · exact rC_te (n := 33) (by decide) e hU hk (by decide) H
end ZKA
