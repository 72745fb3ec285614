/-! CALL: act, the class' side -/
def zk_rd (o a : zk_pI) (f x d u : Int32) (h : zk_H) (K : Int32 → zk_H → Prop) : Prop := ((f = (1 : Int32) → K (x + u) h) ∧ (¬ f = (1 : Int32) → ((f = (2 : Int32) → o [.ref 42, .int (1 : Int32), .int x, .int d] h (fun v54 h53 => o [.ref 42, .int (2 : Int32), .int (1 : Int32), .int d] h53 (fun v56 h55 => K (v54 - v56) h55))) ∧ (¬ f = (2 : Int32) → ((f = (10 : Int32) → o [.ref 42, .int (0 : Int32), .int x, .int d] h (fun v52 h51 => K (v52 * (2 : Int32)) h51)) ∧ (¬ f = (10 : Int32) → ((f = (11 : Int32) → K (x ^^^ u) h) ∧ (¬ f = (11 : Int32) → ((f = (20 : Int32) → a [.ref 42, .int (1 : Int32), .int (0 : Int32), .int x, .int d] h (fun v50 h49 => K (v50 + (3 : Int32)) h49)) ∧ (¬ f = (20 : Int32) → ((f = (30 : Int32) → a [.ref 42, .int (2 : Int32), .int (1 : Int32), .int x, .int d] h (fun v48 h47 => K (-v48) h47)) ∧ (¬ f = (30 : Int32) → ((f = (40 : Int32) → a [.ref 42, .int (3 : Int32), .int (2 : Int32), .int x, .int d] h (fun v46 h45 => K (v46 * (3 : Int32)) h45)) ∧ (¬ f = (40 : Int32) → ((f = (41 : Int32) → a [.ref 42, .int (3 : Int32), .int (1 : Int32), .int (x + (1 : Int32)), .int d] h (fun v44 h43 => K v44 h43)) ∧ (¬ f = (41 : Int32) → ((f = (50 : Int32) → a [.ref 42, .int (4 : Int32), .int (2 : Int32), .int x, .int d] h (fun v40 h39 => o [.ref 42, .int (0 : Int32), .int (2 : Int32), .int d] h39 (fun v42 h41 => K (v40 - v42) h41))) ∧ (¬ f = (50 : Int32) → ((f = (60 : Int32) → a [.ref 42, .int (5 : Int32), .int (3 : Int32), .int x, .int d] h (fun v38 h37 => K (v38 ^^^ (5 : Int32)) h37)) ∧ (¬ f = (60 : Int32) → ((f = (70 : Int32) → a [.ref 42, .int (6 : Int32), .int (0 : Int32), .int x, .int d] h (fun v36 h35 => K (v36 * (2 : Int32)) h35)) ∧ (¬ f = (70 : Int32) → ((f = (80 : Int32) → a [.ref 42, .int (7 : Int32), .int (1 : Int32), .int x, .int d] h (fun v32 h31 => o [.ref 42, .int (2 : Int32), .int (2 : Int32), .int d] h31 (fun v34 h33 => K (v32 + v34) h33))) ∧ (¬ f = (80 : Int32) → ((f = (81 : Int32) → a [.ref 42, .int (7 : Int32), .int (3 : Int32), .int x, .int d] h (fun v30 h29 => K (v30 - (1 : Int32)) h29)) ∧ (¬ f = (81 : Int32) → K (0 : Int32) h))))))))))))))))))))))))))
/-- a run is written down -/
def zk_lg (h : zk_H) (f : Int32) : zk_H := if (24 : Int32) ≤ h.1 42 3 then zk_si h 42 3 (h.1 42 3 + 1) else zk_si (zk_si h 44 (h.1 42 3).toNatClampNeg f) 42 3 (h.1 42 3 + 1)
def zk_lgs (h : zk_H) : List Int32 → zk_H
  | [] => h
  | f :: l => zk_lgs (zk_lg h f) l
theorem zk_lgs_app {l l' : List Int32} : ∀ {h : zk_H}, zk_lgs h (l ++ l') = zk_lgs (zk_lgs h l) l' := by
  induction l with
  | nil => exact rfl
  | cons f l ih => exact ih
def zk_ia (U k Z : Nat) (h : zk_H) : Prop := h.1 42 3 = nI Z ∧ h.1 42 4 = nI U ∧ h.1 43 U = nI k
theorem zk_ia.lg {U k Z : Nat} {h : zk_H} {f : Int32} (e : zk_ia U k Z h) : zk_ia U k (Z + 1) (zk_lg h f) := by
  obtain ⟨a, b, c⟩ := e
  unfold zk_lg
  by_cases q : (24 : Int32) ≤ h.1 42 3
  · rw [if_pos q, a, nI_1]
    exact ⟨by simp [zk_si], by simpa [zk_si] using b, by simpa [zk_si] using c⟩
  · rw [if_neg q, a, nI_1]
    exact ⟨by simp [zk_si], by simpa [zk_si] using b, by simpa [zk_si] using c⟩
theorem zk_ia.lgs {U k : Nat} {l : List Int32} : ∀ {Z : Nat} {h : zk_H}, zk_ia U k Z h → zk_ia U k (Z + l.length) (zk_lgs h l) := by
  induction l with
  | nil => exact fun e => e
  | cons f l ih =>
    intro Z h e
    have := ih (e.lg (f := f))
    rw [List.length_cons, show Z + (l.length + 1) = Z + 1 + l.length by omega]
    exact this
section ZKA
variable {K : Int32 → zk_H → Prop} {h : zk_H} {x u : Int32} {U k Z n d : Nat}
theorem jX0_run {f : Int32} (hd : d ≤ 40) (e : zk_ia U k Z h) (hZ : Z < 1000) (H : zk_rd (pX0_own n) (pX0_above n) f x (nI d) (nI U) (zk_lg h f) K) : pX0_run (n + 1) [.ref 42, .int f, .int x, .int (nI d)] h K := by
  obtain ⟨a, b, c⟩ := e
  refine ⟨rfl, zk_bk (ghX0_run (okX0_run n)) (bX0_run_0 ?_)⟩
  unfold zk_lg at H
  rw [b]
  refine ⟨fun _ => ⟨fun q => ?_, fun q => ⟨?_, ?_⟩⟩, fun q => absurd ((nI_leI (b := 40) (by omega) (by decide)).mpr hd) q⟩
  · rw [if_pos q] at H
    exact H
  · rw [a] at q ⊢
    refine vp_in_nI ?_ (by decide)
    rcases Nat.lt_or_ge Z 24 with z | z
    · exact z
    · exact absurd ((nI_leI (a := 24) (by decide) (by omega)).mpr z) q
  · rw [if_neg q] at H
    exact H
def zk_bf (k w : Nat) : Int32 := ([1, 10, 11, 2, 20, 10, 11, 2, 1, 30, 11, 2, 1, 41, 40, 2, 20, 10, 50, 2, 1, 41, 40, 60, 70, 10, 11, 2, 20, 80, 50, 81] : List Int32).getD (4 * k + w) 0
theorem zk_c8 (h : k < 8) : k = 0 ∨ k = 1 ∨ k = 2 ∨ k = 3 ∨ k = 4 ∨ k = 5 ∨ k = 6 ∨ k = 7 := by omega
theorem zk_c4 {w : Nat} (h : w < 4) : w = 0 ∨ w = 1 ∨ w = 2 ∨ w = 3 := by omega
theorem jX0_bodyFrom {w : Nat} (hk : k < 8) (hw : w < 4) (H : K (zk_bf k w) h) : pX0_bodyFrom [.ref 42, .int (nI k), .int (nI w)] h K := by
  refine ⟨rfl, zk_bk hX0_bodyFrom (bX0_bodyFrom_0 ?_)⟩
  have own : ∀ y : Int32, ∀ j i, j < 8 → i < 8 → ¬ zk_rm3.getD (4 * j + w) 0 = 0 → K (zk_rm3.getD (4 * j + w) 0) h → (zk_X zk_C (zk_lkl lkX0) zk_mt (zk_cxl []) (some .int) (zk_at cdX0_bodyFrom) (zk_qi K)) 5 [some (.ref 42), some (.int y), some (.int (nI w)), some (.int (nI j)), some (.int (nI i)), none] [] h := by
    intro y j i hj hi e HK
    refine zk_bk hX0_bodyFrom (bX0_bodyFrom_5 ?_)
    rw [Int32.mul_comm, nI_4, nI_add, nI_clamp (n := 4 * j + w) (by omega)]
    exact ⟨fun q => absurd q (nI_ge (b := 8) (by omega) (by decide)), fun _ => ⟨fun q => absurd q (nI_pos (by omega)), fun _ => ⟨vp_in_nI (by omega) (by decide), fun q => absurd q e, fun _ => HK⟩⟩⟩
  have up : ∀ y : Int32, ∀ j i p, j < 8 → i < 8 → zk_rm3.getD (4 * j + w) 0 = 0 → zk_rm2.getD j 0 = nI p → (zk_X zk_C (zk_lkl lkX0) zk_mt (zk_cxl []) (some .int) (zk_at cdX0_bodyFrom) (zk_qi K)) 5 [some (.ref 42), some (.int y), some (.int (nI w)), some (.int (nI p)), some (.int (nI (i + 1))), none] [] h → (zk_X zk_C (zk_lkl lkX0) zk_mt (zk_cxl []) (some .int) (zk_at cdX0_bodyFrom) (zk_qi K)) 5 [some (.ref 42), some (.int y), some (.int (nI w)), some (.int (nI j)), some (.int (nI i)), none] [] h := by
    intro y j i p hj hi e e2 HK
    refine zk_bk hX0_bodyFrom (bX0_bodyFrom_5 ?_)
    rw [Int32.mul_comm, nI_4, nI_add, nI_clamp (n := 4 * j + w) (by omega), nI_clamp (n := j) (by omega), e2, nI_1]
    refine ⟨fun q => absurd q (nI_ge (b := 8) (by omega) (by decide)), fun _ => ⟨fun q => absurd q (nI_pos (by omega)), fun _ => ⟨vp_in_nI (by omega) (by decide), fun q => ⟨vp_in_nI hj (by decide), zk_fg hX0_bodyFrom ?_ HK⟩, fun q => absurd e q⟩⟩⟩
    exact ⟨rfl, rfl, rfl, rfl, rfl, rfl, trivial⟩
  have s0 : ∀ (y : Int32) i, i < 8 → K (zk_bf 0 w) h → (zk_X zk_C (zk_lkl lkX0) zk_mt (zk_cxl []) (some .int) (zk_at cdX0_bodyFrom) (zk_qi K)) 5 [some (.ref 42), some (.int y), some (.int (nI w)), some (.int (nI 0)), some (.int (nI i)), none] [] h := by
    intro y i hi HK
    rcases zk_c4 hw with rfl | rfl | rfl | rfl <;> exact own y 0 i (by decide) hi (by decide) HK
  have s1 : ∀ (y : Int32) i, i < 7 → K (zk_bf 1 w) h → (zk_X zk_C (zk_lkl lkX0) zk_mt (zk_cxl []) (some .int) (zk_at cdX0_bodyFrom) (zk_qi K)) 5 [some (.ref 42), some (.int y), some (.int (nI w)), some (.int (nI 1)), some (.int (nI i)), none] [] h := by
    intro y i hi HK
    rcases zk_c4 hw with rfl | rfl | rfl | rfl <;> first | exact own y 1 i (by decide) (by omega) (by decide) HK | exact up y 1 i 0 (by decide) (by omega) rfl rfl (s0 y _ (by omega) HK)
  have s2 : ∀ (y : Int32) i, i < 7 → K (zk_bf 2 w) h → (zk_X zk_C (zk_lkl lkX0) zk_mt (zk_cxl []) (some .int) (zk_at cdX0_bodyFrom) (zk_qi K)) 5 [some (.ref 42), some (.int y), some (.int (nI w)), some (.int (nI 2)), some (.int (nI i)), none] [] h := by
    intro y i hi HK
    rcases zk_c4 hw with rfl | rfl | rfl | rfl <;> first | exact own y 2 i (by decide) (by omega) (by decide) HK | exact up y 2 i 0 (by decide) (by omega) rfl rfl (s0 y _ (by omega) HK)
  have s3 : ∀ (y : Int32) i, i < 6 → K (zk_bf 3 w) h → (zk_X zk_C (zk_lkl lkX0) zk_mt (zk_cxl []) (some .int) (zk_at cdX0_bodyFrom) (zk_qi K)) 5 [some (.ref 42), some (.int y), some (.int (nI w)), some (.int (nI 3)), some (.int (nI i)), none] [] h := by
    intro y i hi HK
    rcases zk_c4 hw with rfl | rfl | rfl | rfl <;> first | exact own y 3 i (by decide) (by omega) (by decide) HK | exact up y 3 i 2 (by decide) (by omega) rfl rfl (s2 y _ (by omega) HK)
  have s4 : ∀ (y : Int32) i, i < 6 → K (zk_bf 4 w) h → (zk_X zk_C (zk_lkl lkX0) zk_mt (zk_cxl []) (some .int) (zk_at cdX0_bodyFrom) (zk_qi K)) 5 [some (.ref 42), some (.int y), some (.int (nI w)), some (.int (nI 4)), some (.int (nI i)), none] [] h := by
    intro y i hi HK
    rcases zk_c4 hw with rfl | rfl | rfl | rfl <;> first | exact own y 4 i (by decide) (by omega) (by decide) HK | exact up y 4 i 1 (by decide) (by omega) rfl rfl (s1 y _ (by omega) HK)
  rcases zk_c8 hk with rfl | rfl | rfl | rfl | rfl | rfl | rfl | rfl
  · exact s0 _ 0 (by decide) H
  · exact s1 _ 0 (by decide) H
  · exact s2 _ 0 (by decide) H
  · exact s3 _ 0 (by decide) H
  · exact s4 _ 0 (by decide) H
  · rcases zk_c4 hw with rfl | rfl | rfl | rfl <;> first | exact own _ 5 0 (by decide) (by omega) (by decide) H | exact up _ 5 0 3 (by decide) (by omega) rfl rfl (s3 _ _ (by omega) H)
  · rcases zk_c4 hw with rfl | rfl | rfl | rfl <;> first | exact own _ 6 0 (by decide) (by omega) (by decide) H | exact up _ 6 0 0 (by decide) (by omega) rfl rfl (s0 _ _ (by omega) H)
  · rcases zk_c4 hw with rfl | rfl | rfl | rfl <;> first | exact own _ 7 0 (by decide) (by omega) (by decide) H | exact up _ 7 0 4 (by decide) (by omega) rfl rfl (s4 _ _ (by omega) H)
theorem jX0_own {w : Nat} (e : zk_ia U k Z h) (hU : U < 50) (hk : k < 8) (hw : w < 4) (H : pX0_run n [.ref 42, .int (zk_bf k w), .int x, .int (nI (d + 1))] h K) : pX0_own n [.ref 42, .int (nI w), .int x, .int (nI d)] h K := by
  obtain ⟨a, b, c⟩ := e
  refine ⟨rfl, zk_bk (ghX0_own (okX0_run n)) (bX0_own_0 ?_)⟩
  rw [b, nI_clamp (n := U) (by omega), c, nI_1]
  exact ⟨vp_in_nI hU (by decide), jX0_bodyFrom hk hw H⟩
theorem jX0_above {w j p : Nat} (hj : j < 8) (hp : p < 8) (ej : zk_rm2.getD j 0 = nI p) (hw : w < 4) (H : pX0_run n [.ref 42, .int (zk_bf p w), .int x, .int (nI (d + 1))] h K) : pX0_above n [.ref 42, .int (nI j), .int (nI w), .int x, .int (nI d)] h K := by
  refine ⟨rfl, zk_bk (ghX0_above (okX0_run n)) (bX0_above_0 ?_)⟩
  rw [nI_clamp (n := j) (by omega), ej, nI_1]
  exact ⟨vp_in_nI hj (by decide), jX0_bodyFrom hp hw H⟩
end ZKA
