/-! THE LAW read: the reference is the spec -/
def zk_hd : List Nat → Int32
  | [] => -1
  | c :: _ => nI c
def zk_hdg : List Nat → Bool
  | [] => false
  | c :: _ => zk_dgt c
/-- while it reads: t is left, k codes, op open -/
def zk_pst (m0 : zk_H) (T : Nat) (t : List Nat) (k op : Nat) (h : zk_H) : Prop := ((∀ c, c ≠ 0 → c ≠ 23 → h.1 c = m0.1 c) ∧ h.2 = m0.2 ∧ (∀ j, j ≠ 25 → j ≠ 26 → j ≠ 27 → h.1 0 j = m0.1 0 j)) ∧ (∃ a, a + t.length = T ∧ zk_sg (m0.1 15) a (t.map nI) ∧ h.1 0 25 = nI a) ∧ (h.1 0 26 = nI op ∧ h.1 0 27 = nI k) ∧ (m0.1 0 17 = nI T ∧ T ≤ 120 ∧ ∀ c ∈ t, c < 256)
theorem zk_sg_keep {f g : Nat → Int32} : ∀ {l : List Int32} {p : Nat}, zk_sg f p l → (∀ j, p ≤ j → j < p + l.length → g j = f j) → zk_sg g p l
  | [], _, _, _ => trivial
  | v :: r, p, h, e => by
    rw [List.length_cons] at e
    exact ⟨(e p (Nat.le_refl _) (by omega)).trans h.1, zk_sg_keep h.2 fun j h1 h2 => e j (by omega) (by omega)⟩
section ZKW
variable {K : Int32 → zk_H → Prop} {m0 h h' : zk_H} {T k op a c : Nat} {t r : List Nat}
theorem zk_pst.adv (S : zk_pst m0 T (c :: r) k op h) : zk_pst m0 T r k op (zk_si h 0 25 (h.1 0 25 + 1)) := by
  obtain ⟨⟨s1, s2, s3⟩, ⟨a, ha, sg, ea⟩, ⟨s4, s5⟩, s6, s7, s8⟩ := S
  rw [List.length_cons] at ha
  refine ⟨⟨fun c h1 h2 => ?_, s2, fun j h1 h2 h3 => ?_⟩, ⟨a + 1, by omega, sg.2, ?_⟩, ⟨?_, ?_⟩, s6, s7, fun d hd => s8 d (List.mem_cons_of_mem _ hd)⟩
  · rw [zk_si_ne h1]; exact s1 c h1 h2
  · rw [zk_si_at, if_neg h1]; exact s3 j h1 h2 h3
  · rw [zk_si_at, if_pos rfl, ea, nI_1]
  · rw [zk_si_at, if_neg (by decide)]; exact s4
  · rw [zk_si_at, if_neg (by decide)]; exact s5
theorem zk_pst.opn {o2 : Nat} (S : zk_pst m0 T t k op h) : zk_pst m0 T t k o2 (zk_si h 0 26 (nI o2)) := by
  obtain ⟨⟨s1, s2, s3⟩, ⟨a, ha, sg, ea⟩, ⟨s4, s5⟩, s6, s7, s8⟩ := S
  refine ⟨⟨fun c h1 h2 => ?_, s2, fun j h1 h2 h3 => ?_⟩, ⟨a, ha, sg, ?_⟩, ⟨?_, ?_⟩, s6, s7, s8⟩
  · rw [zk_si_ne h1]; exact s1 c h1 h2
  · rw [zk_si_at, if_neg h2]; exact s3 j h1 h2 h3
  · rw [zk_si_at, if_neg (by decide)]; exact ea
  · rw [zk_si_at, if_pos rfl]
  · rw [zk_si_at, if_neg (by decide)]; exact s5
theorem jX12_sign (S : zk_pst m0 T t k op h) (H : K (zk_hd t) h) : pX12_sign [.ref 0] h K := by
  obtain ⟨⟨s1, s2, s3⟩, ⟨a, ha, sg, ea⟩, ⟨s4, s5⟩, s6, s7, s8⟩ := S
  refine ⟨rfl, zk_bk hX12_sign (bX12_sign_0 ?_)⟩
  rw [s3 17 (by decide) (by decide) (by decide), s6, ea, s1 15 (by decide) (by decide), nI_clamp (n := a) (by omega)]
  cases t with
  | nil =>
    rw [List.length_nil] at ha
    exact ⟨fun _ => H, fun q => absurd ((nI_leI (by omega) (by omega)).mpr (by omega)) q⟩
  | cons c r =>
    rw [List.length_cons] at ha
    refine ⟨fun q => absurd q (nI_ge (by omega) (by omega)), fun _ => ⟨vp_in_nI (by omega) (by decide), ?_⟩⟩
    rw [sg.1]
    exact H
theorem zk_hd_c {d : Nat} (hd : d < 256) (S : zk_pst m0 T t k op h) : zk_hd t = nI d ↔ ∃ r, t = d :: r := by
  obtain ⟨-, -, -, -, -, s8⟩ := S
  cases t with
  | nil =>
    refine ⟨fun q => absurd q ?_, fun ⟨r, q⟩ => by cases q⟩
    intro q
    have := nI_toInt (n := d) (by omega)
    rw [← show (-1 : Int32) = nI d from q] at this
    have e : (-1 : Int32).toInt = -1 := rfl
    omega
  | cons c r =>
    have hc := s8 c List.mem_cons_self
    refine ⟨fun q => ⟨r, by rw [(nI_eq (by omega) (by omega)).mp q]⟩, fun ⟨r', q⟩ => by cases q; rfl⟩
theorem jX12_is {d : Nat} (hd : d < 256) (S : zk_pst m0 T t k op h) (H1 : ∀ r, t = d :: r → ∀ h', zk_pst m0 T r k op h' → h'.1 23 = h.1 23 → K 1 h') (H0 : (∀ r, t ≠ d :: r) → K 0 h) : pX12_is [.ref 0, .int (nI d)] h K := by
  refine ⟨rfl, zk_bk hX12_is (bX12_is_0 ?_)⟩
  refine jX12_sign S ⟨fun q => ⟨Or.inr rfl, ?_⟩, fun q => ⟨Or.inl rfl, H0 fun r e => q ((zk_hd_c hd S).mpr ⟨r, e⟩)⟩⟩
  obtain ⟨r, e⟩ := (zk_hd_c hd S).mp q
  subst e
  exact H1 r rfl _ S.adv (zk_si_ne (by decide))
theorem jX12_codes {x : Nat} (S : zk_pst m0 T t k op h) (hk : k < 200) (H : ∀ h', zk_pst m0 T t (k + 1) op h' → h'.1 23 k = nI x → (∀ j, j ≠ k → h'.1 23 j = h.1 23 j) → K 1 h') : pX12_codes [.ref 0, .int (nI x)] h K := by
  obtain ⟨⟨s1, s2, s3⟩, ⟨a, ha, sg, ea⟩, ⟨s4, s5⟩, s6, s7, s8⟩ := S
  refine ⟨rfl, zk_bk hX12_codes (bX12_codes_0 ?_)⟩
  rw [s5, nI_clamp (n := k) (by omega), nI_1]
  refine ⟨vp_in_nI hk (by decide), Or.inr rfl, H _ ⟨⟨fun c h1 h2 => ?_, s2, fun j h1 h2 h3 => ?_⟩, ⟨a, ha, sg, ?_⟩, ⟨?_, ?_⟩, s6, s7, s8⟩ ?_ fun j hj => ?_⟩
  · rw [zk_si_ne h2, zk_si_ne h1]; exact s1 c h1 h2
  · rw [zk_si_ne (by decide), zk_si_at, if_neg h3]; exact s3 j h1 h2 h3
  · rw [zk_si_ne (by decide), zk_si_at, if_neg (by decide)]; exact ea
  · rw [zk_si_ne (by decide), zk_si_at, if_neg (by decide)]; exact s4
  · rw [zk_si_ne (by decide), zk_si_at, if_pos rfl]
  · rw [zk_si_at, if_pos rfl]
  · rw [zk_si_at, if_neg hj, zk_si_ne (by decide)]
theorem jX12_isDigit (S : zk_pst m0 T t k op h) (H : K (if zk_hdg t then 1 else 0) h) : pX12_isDigit [.ref 0] h K := by
  refine ⟨rfl, zk_bk hX12_isDigit (bX12_isDigit_0 ?_)⟩
  have s8 := S.2.2.2.2.2
  refine jX12_sign S ⟨fun q => ⟨Or.inl rfl, ?_⟩, fun q => jX12_sign S ⟨fun q2 => ⟨Or.inl rfl, ?_⟩, fun q2 => ⟨Or.inr rfl, ?_⟩⟩⟩
  · cases t with
    | nil => exact H
    | cons c r =>
      have hc := s8 c List.mem_cons_self
      have := (nI_ltI (a := c) (b := 48) (by omega) (by decide)).mp q
      rw [if_neg (by show ¬ zk_dgt c = true; unfold zk_dgt; rw [decide_eq_false (by omega)]; simp)] at H
      exact H
  · cases t with
    | nil => exact absurd (by decide) q
    | cons c r =>
      have hc := s8 c List.mem_cons_self
      have := (nI_ltI (a := 57) (b := c) (by decide) (by omega)).mp q2
      rw [if_neg (by show ¬ zk_dgt c = true; unfold zk_dgt; rw [decide_eq_false (show ¬ c ≤ 57 by omega)]; simp)] at H
      exact H
  · cases t with
    | nil => exact absurd (by decide) q
    | cons c r =>
      have hc := s8 c List.mem_cons_self
      have h1 : ¬ c < 48 := fun z => q ((nI_ltI (a := c) (b := 48) (by omega) (by decide)).mpr z)
      have h2 : ¬ 57 < c := fun z => q2 ((nI_ltI (a := 57) (b := c) (by decide) (by omega)).mpr z)
      rw [if_pos (by show zk_dgt c = true; unfold zk_dgt; rw [decide_eq_true (show 48 ≤ c by omega), decide_eq_true (show c ≤ 57 by omega)]; rfl)] at H
      exact H
theorem jX12_nameOf_0 (H : K (-1) h) : pX12_nameOf [.int (-1)] h K := by
  refine ⟨rfl, zk_bk hX12_nameOf (bX12_nameOf_0 ?_)⟩
  repeat (refine ⟨fun q => absurd q (by decide), fun _ => ?_⟩)
  exact H
theorem jX12_nameOf {c : Nat} (hc : c < 256) (H : K (match zk_nam c with | some k => nI k | none => -1) h) : pX12_nameOf [.int (nI c)] h K := by
  refine ⟨rfl, zk_bk hX12_nameOf (bX12_nameOf_0 ?_)⟩
  refine ⟨fun q => ?_, fun q99 => ?_⟩
  · have e := (nI_eq (b := 99) (by omega) (by decide)).mp q
    subst e
    exact H
  refine ⟨fun q => ?_, fun q100 => ?_⟩
  · have e := (nI_eq (b := 100) (by omega) (by decide)).mp q
    subst e
    exact H
  refine ⟨fun q => ?_, fun q101 => ?_⟩
  · have e := (nI_eq (b := 101) (by omega) (by decide)).mp q
    subst e
    exact H
  refine ⟨fun q => ?_, fun q102 => ?_⟩
  · have e := (nI_eq (b := 102) (by omega) (by decide)).mp q
    subst e
    exact H
  refine ⟨fun q => ?_, fun q103 => ?_⟩
  · have e := (nI_eq (b := 103) (by omega) (by decide)).mp q
    subst e
    exact H
  refine ⟨fun q => ?_, fun q104 => ?_⟩
  · have e := (nI_eq (b := 104) (by omega) (by decide)).mp q
    subst e
    exact H
  refine ⟨fun q => ?_, fun q105 => ?_⟩
  · have e := (nI_eq (b := 105) (by omega) (by decide)).mp q
    subst e
    exact H
  refine ⟨fun q => ?_, fun q106 => ?_⟩
  · have e := (nI_eq (b := 106) (by omega) (by decide)).mp q
    subst e
    exact H
  refine ⟨fun q => ?_, fun q107 => ?_⟩
  · have e := (nI_eq (b := 107) (by omega) (by decide)).mp q
    subst e
    exact H
  refine ⟨fun q => ?_, fun q108 => ?_⟩
  · have e := (nI_eq (b := 108) (by omega) (by decide)).mp q
    subst e
    exact H
  refine ⟨fun q => ?_, fun q109 => ?_⟩
  · have e := (nI_eq (b := 109) (by omega) (by decide)).mp q
    subst e
    exact H
  refine ⟨fun q => ?_, fun q110 => ?_⟩
  · have e := (nI_eq (b := 110) (by omega) (by decide)).mp q
    subst e
    exact H
  refine ⟨fun q => ?_, fun q111 => ?_⟩
  · have e := (nI_eq (b := 111) (by omega) (by decide)).mp q
    subst e
    exact H
  refine ⟨fun q => ?_, fun q112 => ?_⟩
  · have e := (nI_eq (b := 112) (by omega) (by decide)).mp q
    subst e
    exact H
  refine ⟨fun q => ?_, fun q113 => ?_⟩
  · have e := (nI_eq (b := 113) (by omega) (by decide)).mp q
    subst e
    exact H
  refine ⟨fun q => ?_, fun q114 => ?_⟩
  · have e := (nI_eq (b := 114) (by omega) (by decide)).mp q
    subst e
    exact H
  refine ⟨fun q => ?_, fun q115 => ?_⟩
  · have e := (nI_eq (b := 115) (by omega) (by decide)).mp q
    subst e
    exact H
  have e : zk_nam c = none := by
    unfold zk_nam
    rw [if_neg fun z => q108 (by rw [z]; rfl), if_neg fun z => q104 (by rw [z]; rfl), if_neg fun z => q115 (by rw [z]; rfl), if_neg fun z => q107 (by rw [z]; rfl), if_neg fun z => q109 (by rw [z]; rfl), if_neg fun z => q99 (by rw [z]; rfl)]
  rw [e] at H
  exact H
end ZKW
/-- a method that reads reads X, with op open -/
def zk_mE (p : zk_pI) (op : Nat) (X : List Nat → zk_Rs) : Prop := ∀ (m0 h : zk_H) (T k : Nat) (t : List Nat) (K : Int32 → zk_H → Prop), zk_pst m0 T t k op h → k + t.length ≤ 120 → (∀ h', zk_pst m0 T (X t).2.1 (k + (X t).2.2.length) op h' → zk_sg (h'.1 23) k ((X t).2.2.map nI) → (∀ j, j < k → h'.1 23 j = h.1 23 j) → K (if (X t).1 then 1 else 0) h') → p [.ref 0] h K
/-- codes behind codes -/
theorem zk_sg_2 {f g : Nat → Int32} {k : Nat} {cs ds : List Nat} (h1 : zk_sg f k (cs.map nI)) (h2 : zk_sg g (k + cs.length) (ds.map nI)) (e : ∀ j, j < k + cs.length → g j = f j) : zk_sg g k ((cs ++ ds).map nI) := by
  rw [List.map_append]
  refine zk_sg_app.mpr ⟨zk_sg_keep h1 fun j _ hj => e j (by rw [List.length_map] at hj; exact hj), ?_⟩
  rw [List.length_map]
  exact h2
theorem misP {r : zk_pI} {d op : Nat} {X : List Nat → zk_Rs} (hok : zk_OK zk_D (2 + d) 184 (zk_iP r)) (hX : zk_gX (X)) (hr : zk_mE r op (X)) : zk_mE (gX12_isP r) op (zk_xP X) := by
  intro m0 h T k t K S hk H
  have loop : ∀ (n : Nat) (t1 cs : List Nat) (h1 : zk_H), t1.length < n → zk_pst m0 T t1 (k + cs.length) op h1 → k + cs.length + t1.length ≤ 120 → zk_sg (h1.1 23) k (cs.map nI) → (∀ j, j < k → h1.1 23 j = h.1 23 j) → (∀ h', zk_pst m0 T (zk_lo zk_o5 (X) n t1 cs).2.1 (k + (zk_lo zk_o5 (X) n t1 cs).2.2.length) op h' → zk_sg (h'.1 23) k ((zk_lo zk_o5 (X) n t1 cs).2.2.map nI) → (∀ j, j < k → h'.1 23 j = h.1 23 j) → K (if (zk_lo zk_o5 (X) n t1 cs).1 then 1 else 0) h') → (zk_X zk_D (zk_lkl lkX12) zk_mt (zk_cxl [(179, zk_iP pX12_sign), (181, zk_iP pX12_codes), (184, zk_iP r)]) (some .boolean) (zk_at cdX12_isP) (zk_qi K)) 9 [some (.ref 0), none] [] h1 := by
    intro n
    induction n with
    | zero => exact fun t1 cs h1 hn => absurd hn (Nat.not_lt_zero _)
    | succ n ih =>
      intro t1 cs h1 hn S1 hk1 sg1 e1 H1
      have st : ∀ (c kk : Nat) (r1 : List Nat) (h2 : zk_H), t1 = c :: r1 → zk_o5 c = some kk → zk_pst m0 T r1 (k + cs.length) op h2 → h2.1 23 = h1.1 23 → r [.ref 0] h2 (fun v h3 => ((¬ v = 0 → pX12_codes [.ref 0, .int (nI kk)] h3 (fun _ h5 => (zk_X zk_D (zk_lkl lkX12) zk_mt (zk_cxl [(179, zk_iP pX12_sign), (181, zk_iP pX12_codes), (184, zk_iP r)]) (some .boolean) (zk_at cdX12_isP) (zk_qi K)) 9 [some (.ref 0), some (.int (nI kk))] [] h5)) ∧ (v = 0 → (((0 : Int32) = 0 ∨ (0 : Int32) = 1) ∧ K 0 h3)))) := by
        intro c kk r1 h2 et ho S2 e2
        subst et
        rw [List.length_cons] at hn hk1
        obtain ⟨g1, g2⟩ := hX r1
        refine hr m0 h2 T (k + cs.length) r1 _ S2 (by omega) fun h3 S3 sg3 e3 => ?_
        have e3' : ∀ j, j < k + cs.length → h3.1 23 j = h1.1 23 j := fun j hj => by rw [e3 j hj, e2]
        have sgm := zk_sg_2 sg1 sg3 e3'
        cases hq : (X r1).1
        · refine ⟨fun z => absurd rfl z, fun _ => ⟨Or.inl rfl, ?_⟩⟩
          rw [zk_lo_f ho hq] at H1
          refine H1 h3 ?_ sgm fun j hj => (e3' j (by omega)).trans (e1 j hj)
          rw [List.length_append, ← Nat.add_assoc]
          exact S3
        · refine ⟨fun _ => jX12_codes S3 (by omega) fun h5 S5 c5 e5 => ?_, fun z => absurd z (by decide)⟩
          rw [zk_lo_t ho hq] at H1
          have g3 := (g2 hq).1
          have el : k + (cs ++ (X r1).2.2 ++ [kk]).length = k + cs.length + (X r1).2.2.length + 1 := by simp only [List.length_append, List.length_cons, List.length_nil]; omega
          have sg5 : zk_sg (h5.1 23) k ((cs ++ (X r1).2.2 ++ [kk]).map nI) := by
            refine zk_sg_2 sgm ⟨?_, trivial⟩ fun j hj => e5 j (by rw [List.length_append] at hj; omega)
            rw [List.length_append, ← Nat.add_assoc]
            exact c5
          exact zk_fg (ghX12_isP hok) (by exact ⟨rfl, rfl, trivial⟩) (ih _ _ h5 (by omega) (by rw [el]; exact S5) (by rw [el]; omega) sg5 (fun j hj => (e5 j (by omega)).trans ((e3' j (by omega)).trans (e1 j hj))) H1)
      have no : (∀ c r1, t1 = c :: r1 → zk_o5 c = none) → K 1 h1 := by
        intro hno
        cases t1 with
        | nil => rw [zk_lo_0] at H1; exact H1 h1 S1 sg1 e1
        | cons c r1 => rw [zk_lo_n (hno c r1 rfl)] at H1; exact H1 h1 S1 sg1 e1
      refine zk_bk (ghX12_isP hok) (bX12_isP_9 ?_)
      have yes : ∀ d kk, d < 256 → zk_o5 d = some kk → zk_hd t1 = nI d → r [.ref 0] (zk_si h1 0 25 (h1.1 0 25 + 1)) (fun v h3 => ((¬ v = 0 → pX12_codes [.ref 0, .int (nI kk)] h3 (fun _ h5 => (zk_X zk_D (zk_lkl lkX12) zk_mt (zk_cxl [(179, zk_iP pX12_sign), (181, zk_iP pX12_codes), (184, zk_iP r)]) (some .boolean) (zk_at cdX12_isP) (zk_qi K)) 9 [some (.ref 0), some (.int (nI kk))] [] h5)) ∧ (v = 0 → (((0 : Int32) = 0 ∨ (0 : Int32) = 1) ∧ K 0 h3)))) := by
        intro d kk hd ho hh
        obtain ⟨r1, et⟩ := (zk_hd_c hd S1).mp hh
        exact st d kk r1 _ et ho (by rw [et] at S1; exact S1.adv) (zk_si_ne (by decide))
      refine jX12_sign S1 ⟨fun q0 => jX12_sign S1 ⟨fun q1 => jX12_sign S1 ⟨fun q2 => ⟨fun z => absurd z (by decide), fun _ => ⟨Or.inr rfl, no fun c r1 et => ?_⟩⟩, fun q => ⟨fun _ => yes 37 15 (by decide) rfl q, fun z => absurd (by decide) z⟩⟩, fun q => ⟨fun _ => yes 47 14 (by decide) rfl q, fun z => absurd (by decide) z⟩⟩, fun q => ⟨fun _ => yes 42 13 (by decide) rfl q, fun z => absurd (by decide) z⟩⟩
      unfold zk_o5
      rw [if_neg fun z => q0 ((zk_hd_c (d := 42) (by decide) S1).mpr ⟨r1, by rw [et, z]⟩), if_neg fun z => q1 ((zk_hd_c (d := 47) (by decide) S1).mpr ⟨r1, by rw [et, z]⟩), if_neg fun z => q2 ((zk_hd_c (d := 37) (by decide) S1).mpr ⟨r1, by rw [et, z]⟩)]
  refine ⟨rfl, zk_bk (ghX12_isP hok) (bX12_isP_0 ?_)⟩
  refine hr m0 h T k t _ S hk fun h1 S1 sg1 e1 => ?_
  obtain ⟨g1, g2⟩ := hX t
  have HH : ∀ q, zk_xP X t = q → ∀ h', zk_pst m0 T q.2.1 (k + q.2.2.length) op h' → zk_sg (h'.1 23) k (q.2.2.map nI) → (∀ j, j < k → h'.1 23 j = h.1 23 j) → K (if q.1 then 1 else 0) h' := fun q e => by subst e; exact H
  cases hq : (X t).1
  · have e : zk_xP X t = X t := if_neg (by rw [hq]; decide)
    refine ⟨fun z => absurd rfl z, fun _ => ⟨Or.inl rfl, ?_⟩⟩
    have := HH _ e h1 S1 sg1 e1
    rw [hq] at this
    exact this
  · have e : zk_xP X t = zk_lo zk_o5 (X) t.length (X t).2.1 (X t).2.2 := if_pos hq
    have g3 := (g2 hq).1
    exact ⟨fun _ => loop t.length _ _ h1 (by omega) S1 (by omega) sg1 e1 (HH _ e), fun z => absurd z (by decide)⟩
theorem misS {r : zk_pI} {d op : Nat} {X : List Nat → zk_Rs} (hok : zk_OK zk_D (2 + d) 184 (zk_iP r)) (hX : zk_gX (zk_xP X)) (hr : zk_mE (gX12_isP r) op (zk_xP X)) : zk_mE (gX12_isS r) op (zk_xS X) := by
  intro m0 h T k t K S hk H
  have loop : ∀ (n : Nat) (t1 cs : List Nat) (h1 : zk_H), t1.length < n → zk_pst m0 T t1 (k + cs.length) op h1 → k + cs.length + t1.length ≤ 120 → zk_sg (h1.1 23) k (cs.map nI) → (∀ j, j < k → h1.1 23 j = h.1 23 j) → (∀ h', zk_pst m0 T (zk_lo zk_o4 (zk_xP X) n t1 cs).2.1 (k + (zk_lo zk_o4 (zk_xP X) n t1 cs).2.2.length) op h' → zk_sg (h'.1 23) k ((zk_lo zk_o4 (zk_xP X) n t1 cs).2.2.map nI) → (∀ j, j < k → h'.1 23 j = h.1 23 j) → K (if (zk_lo zk_o4 (zk_xP X) n t1 cs).1 then 1 else 0) h') → (zk_X zk_D (zk_lkl lkX12) zk_mt (zk_cxl [(179, zk_iP pX12_sign), (181, zk_iP pX12_codes), (185, zk_iP (gX12_isP r))]) (some .boolean) (zk_at cdX12_isS) (zk_qi K)) 9 [some (.ref 0), none] [] h1 := by
    intro n
    induction n with
    | zero => exact fun t1 cs h1 hn => absurd hn (Nat.not_lt_zero _)
    | succ n ih =>
      intro t1 cs h1 hn S1 hk1 sg1 e1 H1
      have st : ∀ (c kk : Nat) (r1 : List Nat) (h2 : zk_H), t1 = c :: r1 → zk_o4 c = some kk → zk_pst m0 T r1 (k + cs.length) op h2 → h2.1 23 = h1.1 23 → (gX12_isP r) [.ref 0] h2 (fun v h3 => ((¬ v = 0 → pX12_codes [.ref 0, .int (nI kk)] h3 (fun _ h5 => (zk_X zk_D (zk_lkl lkX12) zk_mt (zk_cxl [(179, zk_iP pX12_sign), (181, zk_iP pX12_codes), (185, zk_iP (gX12_isP r))]) (some .boolean) (zk_at cdX12_isS) (zk_qi K)) 9 [some (.ref 0), some (.int (nI kk))] [] h5)) ∧ (v = 0 → (((0 : Int32) = 0 ∨ (0 : Int32) = 1) ∧ K 0 h3)))) := by
        intro c kk r1 h2 et ho S2 e2
        subst et
        rw [List.length_cons] at hn hk1
        obtain ⟨g1, g2⟩ := hX r1
        refine hr m0 h2 T (k + cs.length) r1 _ S2 (by omega) fun h3 S3 sg3 e3 => ?_
        have e3' : ∀ j, j < k + cs.length → h3.1 23 j = h1.1 23 j := fun j hj => by rw [e3 j hj, e2]
        have sgm := zk_sg_2 sg1 sg3 e3'
        cases hq : (zk_xP X r1).1
        · refine ⟨fun z => absurd rfl z, fun _ => ⟨Or.inl rfl, ?_⟩⟩
          rw [zk_lo_f ho hq] at H1
          refine H1 h3 ?_ sgm fun j hj => (e3' j (by omega)).trans (e1 j hj)
          rw [List.length_append, ← Nat.add_assoc]
          exact S3
        · refine ⟨fun _ => jX12_codes S3 (by omega) fun h5 S5 c5 e5 => ?_, fun z => absurd z (by decide)⟩
          rw [zk_lo_t ho hq] at H1
          have g3 := (g2 hq).1
          have el : k + (cs ++ (zk_xP X r1).2.2 ++ [kk]).length = k + cs.length + (zk_xP X r1).2.2.length + 1 := by simp only [List.length_append, List.length_cons, List.length_nil]; omega
          have sg5 : zk_sg (h5.1 23) k ((cs ++ (zk_xP X r1).2.2 ++ [kk]).map nI) := by
            refine zk_sg_2 sgm ⟨?_, trivial⟩ fun j hj => e5 j (by rw [List.length_append] at hj; omega)
            rw [List.length_append, ← Nat.add_assoc]
            exact c5
          exact zk_fg (ghX12_isS hok) (by exact ⟨rfl, rfl, trivial⟩) (ih _ _ h5 (by omega) (by rw [el]; exact S5) (by rw [el]; omega) sg5 (fun j hj => (e5 j (by omega)).trans ((e3' j (by omega)).trans (e1 j hj))) H1)
      have no : (∀ c r1, t1 = c :: r1 → zk_o4 c = none) → K 1 h1 := by
        intro hno
        cases t1 with
        | nil => rw [zk_lo_0] at H1; exact H1 h1 S1 sg1 e1
        | cons c r1 => rw [zk_lo_n (hno c r1 rfl)] at H1; exact H1 h1 S1 sg1 e1
      refine zk_bk (ghX12_isS hok) (bX12_isS_9 ?_)
      have yes : ∀ d kk, d < 256 → zk_o4 d = some kk → zk_hd t1 = nI d → (gX12_isP r) [.ref 0] (zk_si h1 0 25 (h1.1 0 25 + 1)) (fun v h3 => ((¬ v = 0 → pX12_codes [.ref 0, .int (nI kk)] h3 (fun _ h5 => (zk_X zk_D (zk_lkl lkX12) zk_mt (zk_cxl [(179, zk_iP pX12_sign), (181, zk_iP pX12_codes), (185, zk_iP (gX12_isP r))]) (some .boolean) (zk_at cdX12_isS) (zk_qi K)) 9 [some (.ref 0), some (.int (nI kk))] [] h5)) ∧ (v = 0 → (((0 : Int32) = 0 ∨ (0 : Int32) = 1) ∧ K 0 h3)))) := by
        intro d kk hd ho hh
        obtain ⟨r1, et⟩ := (zk_hd_c hd S1).mp hh
        exact st d kk r1 _ et ho (by rw [et] at S1; exact S1.adv) (zk_si_ne (by decide))
      refine jX12_sign S1 ⟨fun q0 => jX12_sign S1 ⟨fun q1 => ⟨fun z => absurd z (by decide), fun _ => ⟨Or.inr rfl, no fun c r1 et => ?_⟩⟩, fun q => ⟨fun _ => yes 45 12 (by decide) rfl q, fun z => absurd (by decide) z⟩⟩, fun q => ⟨fun _ => yes 43 11 (by decide) rfl q, fun z => absurd (by decide) z⟩⟩
      unfold zk_o4
      rw [if_neg fun z => q0 ((zk_hd_c (d := 43) (by decide) S1).mpr ⟨r1, by rw [et, z]⟩), if_neg fun z => q1 ((zk_hd_c (d := 45) (by decide) S1).mpr ⟨r1, by rw [et, z]⟩)]
  refine ⟨rfl, zk_bk (ghX12_isS hok) (bX12_isS_0 ?_)⟩
  refine hr m0 h T k t _ S hk fun h1 S1 sg1 e1 => ?_
  obtain ⟨g1, g2⟩ := hX t
  have HH : ∀ q, zk_xS X t = q → ∀ h', zk_pst m0 T q.2.1 (k + q.2.2.length) op h' → zk_sg (h'.1 23) k (q.2.2.map nI) → (∀ j, j < k → h'.1 23 j = h.1 23 j) → K (if q.1 then 1 else 0) h' := fun q e => by subst e; exact H
  cases hq : (zk_xP X t).1
  · have e : zk_xS X t = zk_xP X t := if_neg (by rw [hq]; decide)
    refine ⟨fun z => absurd rfl z, fun _ => ⟨Or.inl rfl, ?_⟩⟩
    have := HH _ e h1 S1 sg1 e1
    rw [hq] at this
    exact this
  · have e : zk_xS X t = zk_lo zk_o4 (zk_xP X) t.length (zk_xP X t).2.1 (zk_xP X t).2.2 := if_pos hq
    have g3 := (g2 hq).1
    exact ⟨fun _ => loop t.length _ _ h1 (by omega) S1 (by omega) sg1 e1 (HH _ e), fun z => absurd z (by decide)⟩
theorem misB {r : zk_pI} {d op : Nat} {X : List Nat → zk_Rs} (hok : zk_OK zk_D (2 + d) 184 (zk_iP r)) (hX : zk_gX (zk_xS X)) (hr : zk_mE (gX12_isS r) op (zk_xS X)) : zk_mE (gX12_isB r) op (zk_xB X) := by
  intro m0 h T k t K S hk H
  refine ⟨rfl, zk_bk (ghX12_isB hok) (bX12_isB_0 ?_)⟩
  refine hr m0 h T k t _ S hk fun h1 S1 sg1 e1 => ?_
  obtain ⟨g1, g2⟩ := hX t
  have HH : ∀ q, zk_xB X t = q → ∀ h', zk_pst m0 T q.2.1 (k + q.2.2.length) op h' → zk_sg (h'.1 23) k (q.2.2.map nI) → (∀ j, j < k → h'.1 23 j = h.1 23 j) → K (if q.1 then 1 else 0) h' := fun q e => by subst e; exact H
  cases hq : (zk_xS X t).1
  · have e : zk_xB X t = zk_xS X t := if_neg (by rw [hq]; decide)
    refine ⟨fun z => absurd rfl z, fun _ => ⟨Or.inl rfl, ?_⟩⟩
    have := HH _ e h1 S1 sg1 e1
    rw [hq] at this
    exact this
  · have g3 := (g2 hq).1
    have no : (∀ c r1, (zk_xS X t).2.1 = c :: r1 → zk_o3 c = none) → K 1 h1 := by
      intro hno
      have e : zk_xB X t = zk_xS X t := by
        unfold zk_xB zk_two
        rw [if_pos hq]
        split
        · rfl
        next c r1 et => rw [hno c r1 et]
      have := HH _ e h1 S1 sg1 e1
      rw [hq] at this
      exact this
    have yes : ∀ c kk, c < 256 → zk_o3 c = some kk → zk_hd (zk_xS X t).2.1 = nI c → gX12_isS r [.ref 0] (zk_si h1 0 25 (h1.1 0 25 + 1)) (fun v h3 => ((v = 0 → (((0 : Int32) = 0 ∨ (0 : Int32) = 1) ∧ K 0 h3)) ∧ (¬ v = 0 → pX12_codes [.ref 0, .int (nI kk)] h3 (fun v5 h5 => ((v5 = 0 → (((0 : Int32) = 0 ∨ (0 : Int32) = 1) ∧ K 0 h5)) ∧ (¬ v5 = 0 → (((1 : Int32) = 0 ∨ (1 : Int32) = 1) ∧ K 1 h5))))))) := by
      intro c kk hc ho hh
      obtain ⟨r1, et⟩ := (zk_hd_c hc S1).mp hh
      rw [et, List.length_cons] at g1 g3
      rw [et] at S1
      obtain ⟨k1, k2⟩ := hX r1
      refine hr m0 _ T (k + (zk_xS X t).2.2.length) r1 _ S1.adv (by omega) fun h3 S3 sg3 e3 => ?_
      have e3' : ∀ j, j < k + (zk_xS X t).2.2.length → h3.1 23 j = h1.1 23 j := fun j hj => by rw [e3 j hj, zk_si_ne (by decide)]
      have sgm := zk_sg_2 sg1 sg3 e3'
      cases hq2 : (zk_xS X r1).1
      · have e : zk_xB X t = (false, (zk_xS X r1).2.1, (zk_xS X t).2.2 ++ (zk_xS X r1).2.2) := by
          unfold zk_xB zk_two
          rw [if_pos hq, et]
          dsimp only
          rw [ho]
          exact if_neg (by rw [hq2]; decide)
        refine ⟨fun _ => ⟨Or.inl rfl, HH _ e h3 ?_ sgm fun j hj => (e3' j (by omega)).trans (e1 j hj)⟩, fun z => absurd rfl z⟩
        dsimp only
        rw [List.length_append, ← Nat.add_assoc]
        exact S3
      · have e : zk_xB X t = (true, (zk_xS X r1).2.1, (zk_xS X t).2.2 ++ (zk_xS X r1).2.2 ++ [kk]) := by
          unfold zk_xB zk_two
          rw [if_pos hq, et]
          dsimp only
          rw [ho]
          exact if_pos hq2
        refine ⟨fun z => absurd z (by decide), fun _ => jX12_codes S3 (by omega) fun h5 S5 c5 e5 => ⟨fun z => absurd z (by decide), fun _ => ⟨Or.inr rfl, HH _ e h5 ?_ ?_ fun j hj => (e5 j (by omega)).trans ((e3' j (by omega)).trans (e1 j hj))⟩⟩⟩
        · dsimp only
          rw [show k + ((zk_xS X t).2.2 ++ (zk_xS X r1).2.2 ++ [kk]).length = k + (zk_xS X t).2.2.length + (zk_xS X r1).2.2.length + 1 by simp only [List.length_append, List.length_cons, List.length_nil]; omega]
          exact S5
        · refine zk_sg_2 sgm ⟨?_, trivial⟩ fun j hj => e5 j (by rw [List.length_append] at hj; omega)
          rw [List.length_append, ← Nat.add_assoc]
          exact c5
    refine ⟨fun _ => jX12_sign S1 ⟨fun q0 => jX12_sign S1 ⟨fun q1 => jX12_sign S1 ⟨fun q2 => ⟨fun z => absurd z (by decide), fun _ => ⟨Or.inr rfl, no fun c r1 et => ?_⟩⟩, fun q => ⟨fun _ => yes 62 10 (by decide) rfl q, fun z => absurd (by decide) z⟩⟩, fun q => ⟨fun _ => yes 61 9 (by decide) rfl q, fun z => absurd (by decide) z⟩⟩, fun q => ⟨fun _ => yes 60 8 (by decide) rfl q, fun z => absurd (by decide) z⟩⟩, fun z => absurd z (by decide)⟩
    unfold zk_o3
    rw [if_neg fun z => q0 ((zk_hd_c (d := 60) (by decide) S1).mpr ⟨r1, by rw [et, z]⟩), if_neg fun z => q1 ((zk_hd_c (d := 61) (by decide) S1).mpr ⟨r1, by rw [et, z]⟩), if_neg fun z => q2 ((zk_hd_c (d := 62) (by decide) S1).mpr ⟨r1, by rw [et, z]⟩)]
theorem misA {r : zk_pI} {d op : Nat} {X : List Nat → zk_Rs} (hok : zk_OK zk_D (2 + d) 184 (zk_iP r)) (hX : zk_gX (zk_xB X)) (hr : zk_mE (gX12_isB r) op (zk_xB X)) : zk_mE (gX12_isA r) op (zk_xA X) := by
  intro m0 h T k t K S hk H
  have loop : ∀ (n : Nat) (t1 cs : List Nat) (h1 : zk_H), t1.length < n → zk_pst m0 T t1 (k + cs.length) op h1 → k + cs.length + t1.length ≤ 120 → zk_sg (h1.1 23) k (cs.map nI) → (∀ j, j < k → h1.1 23 j = h.1 23 j) → (∀ h', zk_pst m0 T (zk_lo zk_o2 (zk_xB X) n t1 cs).2.1 (k + (zk_lo zk_o2 (zk_xB X) n t1 cs).2.2.length) op h' → zk_sg (h'.1 23) k ((zk_lo zk_o2 (zk_xB X) n t1 cs).2.2.map nI) → (∀ j, j < k → h'.1 23 j = h.1 23 j) → K (if (zk_lo zk_o2 (zk_xB X) n t1 cs).1 then 1 else 0) h') → (zk_X zk_D (zk_lkl lkX12) zk_mt (zk_cxl [(180, zk_iP pX12_is), (181, zk_iP pX12_codes), (187, zk_iP (gX12_isB r))]) (some .boolean) (zk_at cdX12_isA) (zk_qi K)) 9 [some (.ref 0)] [] h1 := by
    intro n
    induction n with
    | zero => exact fun t1 cs h1 hn => absurd hn (Nat.not_lt_zero _)
    | succ n ih =>
      intro t1 cs h1 hn S1 hk1 sg1 e1 H1
      have st : ∀ (c kk : Nat) (r1 : List Nat) (h2 : zk_H), t1 = c :: r1 → zk_o2 c = some kk → zk_pst m0 T r1 (k + cs.length) op h2 → h2.1 23 = h1.1 23 → (gX12_isB r) [.ref 0] h2 (fun v h3 => ((¬ v = 0 → pX12_codes [.ref 0, .int (nI kk)] h3 (fun _ h5 => (zk_X zk_D (zk_lkl lkX12) zk_mt (zk_cxl [(180, zk_iP pX12_is), (181, zk_iP pX12_codes), (187, zk_iP (gX12_isB r))]) (some .boolean) (zk_at cdX12_isA) (zk_qi K)) 9 [some (.ref 0)] [] h5)) ∧ (v = 0 → (((0 : Int32) = 0 ∨ (0 : Int32) = 1) ∧ K 0 h3)))) := by
        intro c kk r1 h2 et ho S2 e2
        subst et
        rw [List.length_cons] at hn hk1
        obtain ⟨g1, g2⟩ := hX r1
        refine hr m0 h2 T (k + cs.length) r1 _ S2 (by omega) fun h3 S3 sg3 e3 => ?_
        have e3' : ∀ j, j < k + cs.length → h3.1 23 j = h1.1 23 j := fun j hj => by rw [e3 j hj, e2]
        have sgm := zk_sg_2 sg1 sg3 e3'
        cases hq : (zk_xB X r1).1
        · refine ⟨fun z => absurd rfl z, fun _ => ⟨Or.inl rfl, ?_⟩⟩
          rw [zk_lo_f ho hq] at H1
          refine H1 h3 ?_ sgm fun j hj => (e3' j (by omega)).trans (e1 j hj)
          rw [List.length_append, ← Nat.add_assoc]
          exact S3
        · refine ⟨fun _ => jX12_codes S3 (by omega) fun h5 S5 c5 e5 => ?_, fun z => absurd z (by decide)⟩
          rw [zk_lo_t ho hq] at H1
          have g3 := (g2 hq).1
          have el : k + (cs ++ (zk_xB X r1).2.2 ++ [kk]).length = k + cs.length + (zk_xB X r1).2.2.length + 1 := by simp only [List.length_append, List.length_cons, List.length_nil]; omega
          have sg5 : zk_sg (h5.1 23) k ((cs ++ (zk_xB X r1).2.2 ++ [kk]).map nI) := by
            refine zk_sg_2 sgm ⟨?_, trivial⟩ fun j hj => e5 j (by rw [List.length_append] at hj; omega)
            rw [List.length_append, ← Nat.add_assoc]
            exact c5
          exact ih _ _ h5 (by omega) (by rw [el]; exact S5) (by rw [el]; omega) sg5 (fun j hj => (e5 j (by omega)).trans ((e3' j (by omega)).trans (e1 j hj))) H1
      have no : (∀ c r1, t1 = c :: r1 → zk_o2 c = none) → K 1 h1 := by
        intro hno
        cases t1 with
        | nil => rw [zk_lo_0] at H1; exact H1 h1 S1 sg1 e1
        | cons c r1 => rw [zk_lo_n (hno c r1 rfl)] at H1; exact H1 h1 S1 sg1 e1
      refine zk_bk (ghX12_isA hok) (bX12_isA_9 ?_)
      refine jX12_is (d := 38) (by decide) S1 (fun r1 et h2 S2 e2 => ⟨fun z => absurd z (by decide), fun _ => st 38 7 r1 h2 et rfl S2 e2⟩) (fun hno => ⟨fun _ => ⟨Or.inr rfl, no fun c r1 et => ?_⟩, fun z => absurd rfl z⟩)
      unfold zk_o2
      exact if_neg fun z => hno r1 (by rw [et, z])
  refine ⟨rfl, zk_bk (ghX12_isA hok) (bX12_isA_0 ?_)⟩
  refine hr m0 h T k t _ S hk fun h1 S1 sg1 e1 => ?_
  obtain ⟨g1, g2⟩ := hX t
  have HH : ∀ q, zk_xA X t = q → ∀ h', zk_pst m0 T q.2.1 (k + q.2.2.length) op h' → zk_sg (h'.1 23) k (q.2.2.map nI) → (∀ j, j < k → h'.1 23 j = h.1 23 j) → K (if q.1 then 1 else 0) h' := fun q e => by subst e; exact H
  cases hq : (zk_xB X t).1
  · have e : zk_xA X t = zk_xB X t := if_neg (by rw [hq]; decide)
    refine ⟨fun z => absurd rfl z, fun _ => ⟨Or.inl rfl, ?_⟩⟩
    have := HH _ e h1 S1 sg1 e1
    rw [hq] at this
    exact this
  · have e : zk_xA X t = zk_lo zk_o2 (zk_xB X) t.length (zk_xB X t).2.1 (zk_xB X t).2.2 := if_pos hq
    have g3 := (g2 hq).1
    exact ⟨fun _ => loop t.length _ _ h1 (by omega) S1 (by omega) sg1 e1 (HH _ e), fun z => absurd z (by decide)⟩
theorem misE {r : zk_pI} {d op : Nat} {X : List Nat → zk_Rs} (hok : zk_OK zk_D (2 + d) 184 (zk_iP r)) (hX : zk_gX (zk_xA X)) (hr : zk_mE (gX12_isA r) op (zk_xA X)) : zk_mE (gX12_isE r) op (zk_xE X) := by
  intro m0 h T k t K S hk H
  have loop : ∀ (n : Nat) (t1 cs : List Nat) (h1 : zk_H), t1.length < n → zk_pst m0 T t1 (k + cs.length) op h1 → k + cs.length + t1.length ≤ 120 → zk_sg (h1.1 23) k (cs.map nI) → (∀ j, j < k → h1.1 23 j = h.1 23 j) → (∀ h', zk_pst m0 T (zk_lo zk_o1 (zk_xA X) n t1 cs).2.1 (k + (zk_lo zk_o1 (zk_xA X) n t1 cs).2.2.length) op h' → zk_sg (h'.1 23) k ((zk_lo zk_o1 (zk_xA X) n t1 cs).2.2.map nI) → (∀ j, j < k → h'.1 23 j = h.1 23 j) → K (if (zk_lo zk_o1 (zk_xA X) n t1 cs).1 then 1 else 0) h') → (zk_X zk_D (zk_lkl lkX12) zk_mt (zk_cxl [(180, zk_iP pX12_is), (181, zk_iP pX12_codes), (188, zk_iP (gX12_isA r))]) (some .boolean) (zk_at cdX12_isE) (zk_qi K)) 9 [some (.ref 0)] [] h1 := by
    intro n
    induction n with
    | zero => exact fun t1 cs h1 hn => absurd hn (Nat.not_lt_zero _)
    | succ n ih =>
      intro t1 cs h1 hn S1 hk1 sg1 e1 H1
      have st : ∀ (c kk : Nat) (r1 : List Nat) (h2 : zk_H), t1 = c :: r1 → zk_o1 c = some kk → zk_pst m0 T r1 (k + cs.length) op h2 → h2.1 23 = h1.1 23 → (gX12_isA r) [.ref 0] h2 (fun v h3 => ((¬ v = 0 → pX12_codes [.ref 0, .int (nI kk)] h3 (fun _ h5 => (zk_X zk_D (zk_lkl lkX12) zk_mt (zk_cxl [(180, zk_iP pX12_is), (181, zk_iP pX12_codes), (188, zk_iP (gX12_isA r))]) (some .boolean) (zk_at cdX12_isE) (zk_qi K)) 9 [some (.ref 0)] [] h5)) ∧ (v = 0 → (((0 : Int32) = 0 ∨ (0 : Int32) = 1) ∧ K 0 h3)))) := by
        intro c kk r1 h2 et ho S2 e2
        subst et
        rw [List.length_cons] at hn hk1
        obtain ⟨g1, g2⟩ := hX r1
        refine hr m0 h2 T (k + cs.length) r1 _ S2 (by omega) fun h3 S3 sg3 e3 => ?_
        have e3' : ∀ j, j < k + cs.length → h3.1 23 j = h1.1 23 j := fun j hj => by rw [e3 j hj, e2]
        have sgm := zk_sg_2 sg1 sg3 e3'
        cases hq : (zk_xA X r1).1
        · refine ⟨fun z => absurd rfl z, fun _ => ⟨Or.inl rfl, ?_⟩⟩
          rw [zk_lo_f ho hq] at H1
          refine H1 h3 ?_ sgm fun j hj => (e3' j (by omega)).trans (e1 j hj)
          rw [List.length_append, ← Nat.add_assoc]
          exact S3
        · refine ⟨fun _ => jX12_codes S3 (by omega) fun h5 S5 c5 e5 => ?_, fun z => absurd z (by decide)⟩
          rw [zk_lo_t ho hq] at H1
          have g3 := (g2 hq).1
          have el : k + (cs ++ (zk_xA X r1).2.2 ++ [kk]).length = k + cs.length + (zk_xA X r1).2.2.length + 1 := by simp only [List.length_append, List.length_cons, List.length_nil]; omega
          have sg5 : zk_sg (h5.1 23) k ((cs ++ (zk_xA X r1).2.2 ++ [kk]).map nI) := by
            refine zk_sg_2 sgm ⟨?_, trivial⟩ fun j hj => e5 j (by rw [List.length_append] at hj; omega)
            rw [List.length_append, ← Nat.add_assoc]
            exact c5
          exact ih _ _ h5 (by omega) (by rw [el]; exact S5) (by rw [el]; omega) sg5 (fun j hj => (e5 j (by omega)).trans ((e3' j (by omega)).trans (e1 j hj))) H1
      have no : (∀ c r1, t1 = c :: r1 → zk_o1 c = none) → K 1 h1 := by
        intro hno
        cases t1 with
        | nil => rw [zk_lo_0] at H1; exact H1 h1 S1 sg1 e1
        | cons c r1 => rw [zk_lo_n (hno c r1 rfl)] at H1; exact H1 h1 S1 sg1 e1
      refine zk_bk (ghX12_isE hok) (bX12_isE_9 ?_)
      refine jX12_is (d := 124) (by decide) S1 (fun r1 et h2 S2 e2 => ⟨fun z => absurd z (by decide), fun _ => st 124 6 r1 h2 et rfl S2 e2⟩) (fun hno => ⟨fun _ => ⟨Or.inr rfl, no fun c r1 et => ?_⟩, fun z => absurd rfl z⟩)
      unfold zk_o1
      exact if_neg fun z => hno r1 (by rw [et, z])
  refine ⟨rfl, zk_bk (ghX12_isE hok) (bX12_isE_0 ?_)⟩
  refine hr m0 h T k t _ S hk fun h1 S1 sg1 e1 => ?_
  obtain ⟨g1, g2⟩ := hX t
  have HH : ∀ q, zk_xE X t = q → ∀ h', zk_pst m0 T q.2.1 (k + q.2.2.length) op h' → zk_sg (h'.1 23) k (q.2.2.map nI) → (∀ j, j < k → h'.1 23 j = h.1 23 j) → K (if q.1 then 1 else 0) h' := fun q e => by subst e; exact H
  cases hq : (zk_xA X t).1
  · have e : zk_xE X t = zk_xA X t := if_neg (by rw [hq]; decide)
    refine ⟨fun z => absurd rfl z, fun _ => ⟨Or.inl rfl, ?_⟩⟩
    have := HH _ e h1 S1 sg1 e1
    rw [hq] at this
    exact this
  · have e : zk_xE X t = zk_lo zk_o1 (zk_xA X) t.length (zk_xA X t).2.1 (zk_xA X t).2.2 := if_pos hq
    have g3 := (g2 hq).1
    exact ⟨fun _ => loop t.length _ _ h1 (by omega) S1 (by omega) sg1 e1 (HH _ e), fun z => absurd z (by decide)⟩
