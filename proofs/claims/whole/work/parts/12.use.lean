/-! BLOCKS AND CONTRACTS in use: what a callee is called with; locals that a loop forgets -/
abbrev zk_pI : Type := List Value → zk_H → (Int32 → zk_H → Prop) → Prop
abbrev zk_pL : Type := List Value → zk_H → (Int64 → zk_H → Prop) → Prop
abbrev zk_pV : Type := List Value → zk_H → (zk_H → Prop) → Prop
abbrev zk_pR : Type := List Value → zk_H → (Value → zk_H → Prop) → Prop
def zk_iP (p : zk_pI) : zk_P := fun as h Q => p as h Q.1
def zk_lP (p : zk_pL) : zk_P := fun as h Q => p as h Q.2.1
def zk_vP (p : zk_pV) : zk_P := fun as h Q => p as h (Q.2.2.1 ())
def zk_rP (p : zk_pR) : zk_P := fun as h Q => p as h Q.2.2.2
def zk_mI (p : zk_pI) : Prop := ∀ as h (K K' : Int32 → zk_H → Prop), (∀ v x, K v x → K' v x) → p as h K → p as h K'
def zk_mL (p : zk_pL) : Prop := ∀ as h (K K' : Int64 → zk_H → Prop), (∀ v x, K v x → K' v x) → p as h K → p as h K'
def zk_mV (p : zk_pV) : Prop := ∀ as h (K K' : zk_H → Prop), (∀ x, K x → K' x) → p as h K → p as h K'
def zk_mR (p : zk_pR) : Prop := ∀ as h (K K' : Value → zk_H → Prop), (∀ v x, K v x → K' v x) → p as h K → p as h K'
theorem zk_mI_P {p : zk_pI} (h : zk_mI p) : zk_Mono (zk_iP p) := fun as x _ _ hQ => h as x _ _ hQ.1
theorem zk_mL_P {p : zk_pL} (h : zk_mL p) : zk_Mono (zk_lP p) := fun as x _ _ hQ => h as x _ _ hQ.2.1
theorem zk_mV_P {p : zk_pV} (h : zk_mV p) : zk_Mono (zk_vP p) := fun as x _ _ hQ => h as x _ _ (hQ.2.2.1 ())
theorem zk_mR_P {p : zk_pR} (h : zk_mR p) : zk_Mono (zk_rP p) := fun as x _ _ hQ => h as x _ _ hQ.2.2.2
/-- a method by its number meets P, with room for d calls below -/
def zk_OK (w : zk_Wd) (d n : Nat) (P : zk_P) : Prop := zk_CT w d (zk_mt n).1 P ∧ zk_Mono P
theorem zk_OK.up {w : zk_Wd} {d d' n : Nat} {P : zk_P} (h : zk_OK w d n P) (hd : d ≤ d') : zk_OK w d' n P := ⟨h.1.mono hd, h.2⟩
def zk_cxl : List (Nat × zk_P) → Nat → zk_P
  | [], _ => fun _ _ _ => False
  | q :: l, a => bif Nat.beq q.1 a then q.2 else zk_cxl l a
theorem zk_cxl_ct {w : zk_Wd} {d : Nat} : ∀ {l : List (Nat × zk_P)}, (∀ q ∈ l, zk_OK w d q.1 q.2) → ∀ a, zk_CT w d (zk_mt a).1 (zk_cxl l a) ∧ zk_Mono (zk_cxl l a)
  | [], _, a => ⟨zk_CT.none, fun _ _ _ _ _ h => h⟩
  | q :: l, h, a => by
    unfold zk_cxl
    cases hb : Nat.beq q.1 a with
    | true =>
      rw [Nat.beq_eq] at hb
      subst hb
      exact h q List.mem_cons_self
    | false => exact zk_cxl_ct (fun q hq => h q (List.mem_cons_of_mem _ hq)) a
theorem zk_nil {w : zk_Wd} {d : Nat} : ∀ q ∈ ([] : List (Nat × zk_P)), zk_OK w d q.1 q.2 := fun _ h => absurd h List.not_mem_nil
theorem zk_cons {w : zk_Wd} {d n : Nat} {P : zk_P} {l : List (Nat × zk_P)} (h : zk_OK w d n P) (hl : ∀ q ∈ l, zk_OK w d q.1 q.2) : ∀ q ∈ (n, P) :: l, zk_OK w d q.1 q.2 := List.forall_mem_cons.mpr ⟨h, hl⟩
/-- what a program knows of a method: its pool, its code -/
def zk_fc (j0 : zk_M) (lk : Nat → zk_Ln) (cd : Nat → Option (Instr × Nat)) : Prop := (∀ i, zk_lk1 j0.1.cls zk_mt i (lk i)) ∧ plainName j0.1.cls = true ∧ ∀ pc q, cd pc = some q → decode j0.2.1 pc = .ok (q.1, zk_len q.1 q.2)
theorem zk_mk {w : zk_Wd} {d n : Nat} {l : List (Nat × zk_P)} {P : zk_P} {j0 : zk_M} {lk : Nat → zk_Ln} {cd : Nat → Option (Instr × Nat)} (hl : ∀ q ∈ l, zk_OK w d q.1 q.2) (hj : (zk_mt n).1 = j0) (hf : zk_fc j0 lk cd) (hm : zk_Mono P)
    (hb : ∀ as h Q, P as h Q → ((∀ v ∈ as, zk_nod v = true) ∧ zk_wds as ≤ j0.2.2.1) ∧ zk_X w lk zk_mt (zk_cxl l) j0.2.2.2 cd Q 0 (zk_L0 as j0.2.2.1) [] h) : zk_OK w (d + 1) n P := by
  refine ⟨?_, hm⟩
  rw [hj]
  exact zk_met zk_cl_ok zk_jdk_ok (fun a => Or.inl (zk_mt_ok a)) hf.1 hf.2.1 hf.2.2 (fun a => (zk_cxl_ct hl a).1) hb
/-- a block, then what stands at its end -/
theorem zk_bk {w : zk_Wd} {lk : Nat → zk_Ln} {rt : Option FieldType} {cd : Nat → Option (Instr × Nat)} {Q : zk_Q} {d : Nat} {l : List (Nat × zk_P)} (hl : ∀ q ∈ l, zk_OK w d q.1 q.2) {stops : List Nat} {n : Nat} {pc : Nat} {L : zk_L} {st : List Value} {h : zk_H} (H : zk_R w lk zk_mt (zk_cxl l) rt cd Q stops (zk_X w lk zk_mt (zk_cxl l) rt cd Q) n pc L st h) : zk_X w lk zk_mt (zk_cxl l) rt cd Q pc L st h := zk_go (fun a => (zk_cxl_ct hl a).2) n H
/-! locals forgotten -/
def zk_nl (o : Option Value) : Bool := match o with
  | some (.long _) => false
  | some (.double _) => false
  | _ => true
/-- L' holds what L holds, and perhaps more -/
def zk_sub (L L' : zk_L) : Prop := L.length = L'.length ∧ ∀ i, (∀ v, zk_gl L i = some v → zk_gl L' i = some v) ∧ (zk_gl L i = none → zk_nl (zk_gl L' i) = true)
def zk_subb : zk_L → zk_L → Prop
  | [], [] => True
  | none :: l, o :: l' => zk_nl o = true ∧ zk_subb l l'
  | some v :: l, o :: l' => o = some v ∧ zk_subb l l'
  | _, _ => False
theorem zk_subb_s : ∀ {L L' : zk_L}, zk_subb L L' → zk_sub L L'
  | [], [], _ => ⟨rfl, fun i => ⟨fun v h => h, fun _ => by simp [zk_gl, zk_nl]⟩⟩
  | none :: l, o :: l', h => by
    obtain ⟨h1, h2⟩ := zk_subb_s h.2
    refine ⟨by simp [h1], fun i => ?_⟩
    cases i with
    | zero => exact ⟨fun v hv => absurd (show (none : Option Value) = some v from hv) (by simp), fun _ => h.1⟩
    | succ i => exact h2 i
  | some v :: l, o :: l', h => by
    obtain ⟨h1, h2⟩ := zk_subb_s h.2
    refine ⟨by simp [h1], fun i => ?_⟩
    cases i with
    | zero => exact ⟨fun u hu => (show o = some u from h.1.trans (show some v = some u from hu)), fun hn => absurd (show some v = none from hn) (by simp)⟩
    | succ i => exact h2 i
  | [], _ :: _, h => h.elim
  | none :: _, [], h => h.elim
  | some _ :: _, [], h => h.elim
theorem zk_sub.wide {L L' : zk_L} (h : zk_sub L L') (i : Nat) : zk_wide L' i = zk_wide L i := by
  unfold zk_wide
  cases i with
  | zero => rfl
  | succ k =>
    dsimp only
    cases hg : zk_gl L k with
    | some v => rw [(h.2 k).1 v hg]
    | none =>
      have := (h.2 k).2 hg
      unfold zk_nl at this
      split at this
      · cases this
      · cases this
      next o h1 h2 =>
        split
        next x e => exact absurd e (h1 x)
        next x e => exact absurd e (h2 x)
        · rfl
theorem zk_gl_set' {L : zk_L} {i j : Nat} {o : Option Value} : zk_gl (L.set i o) j = if i = j ∧ i < L.length then o else zk_gl L j := by
  unfold zk_gl
  rw [List.getElem?_set]
  by_cases e : i = j
  · subst e
    by_cases hl : i < L.length
    · simp [hl]
    · simp [hl]
  · simp [e]
theorem zk_sub.set {L L' : zk_L} (h : zk_sub L L') (i : Nat) (o : Option Value) : zk_sub (L.set i o) (L'.set i o) := by
  refine ⟨by simp [h.1], fun j => ?_⟩
  rw [zk_gl_set', zk_gl_set', h.1]
  by_cases e : i = j ∧ i < L'.length
  · rw [if_pos e, if_pos e]
    exact ⟨fun v hv => hv, fun hn => by rw [hn]; rfl⟩
  · rw [if_neg e, if_neg e]
    exact h.2 j
theorem zk_sub.st1 {L L' L1 : zk_L} (h : zk_sub L L') {i : Nat} {v : Value} (hs : zk_st1 L i v = some L1) : ∃ L2, zk_st1 L' i v = some L2 ∧ zk_sub L1 L2 := by
  unfold zk_st1 at hs ⊢
  rw [h.wide, ← h.1]
  cases hb : Nat.blt i L.length && !(zk_wide L i) with
  | false => rw [hb] at hs; cases hs
  | true =>
    rw [hb] at hs
    cases hs
    exact ⟨_, rfl, h.set i _⟩
theorem zk_sub.st2 {L L' L1 : zk_L} (h : zk_sub L L') {i : Nat} {v : Value} (hs : zk_st2 L i v = some L1) : ∃ L2, zk_st2 L' i v = some L2 ∧ zk_sub L1 L2 := by
  unfold zk_st2 at hs ⊢
  rw [h.wide, ← h.1]
  cases hb : Nat.blt (i + 1) L.length && !(zk_wide L i) with
  | false => rw [hb] at hs; cases hs
  | true =>
    rw [hb] at hs
    cases hs
    exact ⟨_, rfl, (h.set i _).set _ _⟩
theorem zk_sub_lr {L L' : zk_L} (h : zk_sub L L') {i : Nat} {k k' : Value → Prop} (m : ∀ v, k v → k' v) (hyp : zk_lr (zk_gl L i) k) : zk_lr (zk_gl L' i) k' := by
  cases hg : zk_gl L i with
  | none => rw [hg] at hyp; exact hyp.elim
  | some v => rw [(h.2 i).1 v hg]; rw [hg] at hyp; exact zk_lr_m m hyp
theorem zk_sub_li {L L' : zk_L} (h : zk_sub L L') {i : Nat} {k k' : Int32 → Prop} (m : ∀ v, k v → k' v) (hyp : zk_li (zk_gl L i) k) : zk_li (zk_gl L' i) k' := by
  cases hg : zk_gl L i with
  | none => rw [hg] at hyp; exact hyp.elim
  | some v => rw [(h.2 i).1 v hg]; rw [hg] at hyp; exact zk_li_m m hyp
theorem zk_sub_ll {L L' : zk_L} (h : zk_sub L L') {i : Nat} {k k' : Int64 → Prop} (m : ∀ v, k v → k' v) (hyp : zk_ll (zk_gl L i) k) : zk_ll (zk_gl L' i) k' := by
  cases hg : zk_gl L i with
  | none => rw [hg] at hyp; exact hyp.elim
  | some v => rw [(h.2 i).1 v hg]; rw [hg] at hyp; exact zk_ll_m m hyp
theorem zk_sub_s1 {L L' : zk_L} (h : zk_sub L L') {i : Nat} {v : Value} {f g : zk_L → Prop} (m : ∀ L1 L2, zk_sub L1 L2 → f L1 → g L2) (hyp : zk_on (zk_st1 L i v) f) : zk_on (zk_st1 L' i v) g := by
  obtain ⟨L1, e, hf⟩ := zk_on_s hyp
  obtain ⟨L2, e2, hs⟩ := h.st1 e
  rw [e2]
  exact m _ _ hs hf
theorem zk_sub_s2 {L L' : zk_L} (h : zk_sub L L') {i : Nat} {v : Value} {f g : zk_L → Prop} (m : ∀ L1 L2, zk_sub L1 L2 → f L1 → g L2) (hyp : zk_on (zk_st2 L i v) f) : zk_on (zk_st2 L' i v) g := by
  obtain ⟨L1, e, hf⟩ := zk_on_s hyp
  obtain ⟨L2, e2, hs⟩ := h.st2 e
  rw [e2]
  exact m _ _ hs hf
section ZKF
variable {w : zk_Wd} {lk : Nat → zk_Ln} {mt : zk_Mt} {cx : Nat → zk_P} {rt : Option FieldType} {Q : zk_Q} {cd : Nat → Option (Instr × Nat)}
theorem zk_S_sub (hcx : ∀ a, zk_Mono (cx a)) {k k' : zk_K} {L L' : zk_L} (hL : zk_sub L L') (hk : ∀ pc L L' st h, zk_sub L L' → k pc L st h → k' pc L' st h) {ins : Instr} {md pc : Nat} {st : List Value} {h : zk_H} (hyp : zk_S w lk mt cx rt Q k ins md pc L st h) : zk_S w lk mt cx rt Q k' ins md pc L' st h := by
  by_cases hst : (∃ i, ins = .aload_n i) ∨ (∃ i, ins = .aload i) ∨ (∃ i, ins = .iload_n i) ∨ (∃ i, ins = .iload i) ∨ (∃ i, ins = .lload_n i) ∨ (∃ i, ins = .lload i) ∨ (∃ i, ins = .istore_n i) ∨ (∃ i, ins = .istore i) ∨ (∃ i, ins = .astore_n i) ∨ (∃ i, ins = .astore i) ∨ (∃ i, ins = .lstore_n i) ∨ (∃ i, ins = .lstore i) ∨ (∃ i n, ins = .iinc i n)
  · rcases hst with ⟨i, rfl⟩ | ⟨i, rfl⟩ | ⟨i, rfl⟩ | ⟨i, rfl⟩ | ⟨i, rfl⟩ | ⟨i, rfl⟩ | ⟨i, rfl⟩ | ⟨i, rfl⟩ | ⟨i, rfl⟩ | ⟨i, rfl⟩ | ⟨i, rfl⟩ | ⟨i, rfl⟩ | ⟨i, n, rfl⟩ <;> simp only [zk_S] at hyp ⊢
    · exact zk_sub_lr hL (fun _ => hk _ _ _ _ _ hL) hyp
    · exact zk_sub_lr hL (fun _ => hk _ _ _ _ _ hL) hyp
    · exact zk_sub_li hL (fun _ => hk _ _ _ _ _ hL) hyp
    · exact zk_sub_li hL (fun _ => hk _ _ _ _ _ hL) hyp
    · exact zk_sub_ll hL (fun _ => hk _ _ _ _ _ hL) hyp
    · exact zk_sub_ll hL (fun _ => hk _ _ _ _ _ hL) hyp
    · exact zk_p1i_m (fun _ _ => zk_sub_s1 hL fun _ _ hs => hk _ _ _ _ _ hs) hyp
    · exact zk_p1i_m (fun _ _ => zk_sub_s1 hL fun _ _ hs => hk _ _ _ _ _ hs) hyp
    · exact zk_pr_m (fun _ _ => zk_sub_s1 hL fun _ _ hs => hk _ _ _ _ _ hs) hyp
    · exact zk_pr_m (fun _ _ => zk_sub_s1 hL fun _ _ hs => hk _ _ _ _ _ hs) hyp
    · exact zk_p1l_m (fun _ _ => zk_sub_s2 hL fun _ _ hs => hk _ _ _ _ _ hs) hyp
    · exact zk_p1l_m (fun _ _ => zk_sub_s2 hL fun _ _ hs => hk _ _ _ _ _ hs) hyp
    · exact zk_sub_li hL (fun _ => zk_sub_s1 hL fun _ _ hs => hk _ _ _ _ _ hs) hyp
  · have key : zk_S w lk mt cx rt Q (fun pc _ st h => k pc L st h) ins md pc L st h → zk_S w lk mt cx rt Q (fun pc _ st h => k pc L st h) ins md pc L' st h := by
      intro hyp
      cases ins <;> first | exact hyp | exact absurd (by simp) hst
    have step : zk_S w lk mt cx rt Q (fun pc _ st h => k pc L st h) ins md pc L st h := by
      cases ins <;> first | exact hyp | exact absurd (by simp) hst
    have h3 := zk_S_mono hcx (k' := fun pc _ st h => k' pc L' st h) (fun pc _ st h q => hk pc L L' st h hL q) (key step)
    cases ins <;> first | exact h3 | exact absurd (by simp) hst
theorem zk_X_sub (hcx : ∀ a, zk_Mono (cx a)) {pc : Nat} {L L' : zk_L} {st : List Value} {h : zk_H} (hL : zk_sub L L') (hyp : zk_X w lk mt cx rt cd Q pc L st h) : zk_X w lk mt cx rt cd Q pc L' st h := fun Z hZ =>
  hyp (fun pc L st h => ∀ L', zk_sub L L' → Z pc L' st h) (fun pc L st h hs L' hL => hZ pc L' st h (by
    unfold zk_Sp at hs ⊢
    split at hs
    · exact zk_S_sub hcx hL (fun _ _ _ _ _ hs hq => hq _ hs) hs
    · exact hs.elim)) L' hL
end ZKF
/-- forget locals -/
theorem zk_fg {w : zk_Wd} {lk : Nat → zk_Ln} {rt : Option FieldType} {cd : Nat → Option (Instr × Nat)} {Q : zk_Q} {d : Nat} {l : List (Nat × zk_P)} (hl : ∀ q ∈ l, zk_OK w d q.1 q.2) {pc : Nat} {L L' : zk_L} {st : List Value} {h : zk_H} (hL : zk_subb L L') (H : zk_X w lk zk_mt (zk_cxl l) rt cd Q pc L st h) : zk_X w lk zk_mt (zk_cxl l) rt cd Q pc L' st h := zk_X_sub (fun a => (zk_cxl_ct hl a).2) (zk_subb_s hL) H
/-! the worlds: written by wip/whole/ex.py -/
def zk_Cr : List (List (Option Nat)) := [[some 1, some 19, some 24, some 28, some 31, some 36, some 38, some 40, some 42, some 45], [some 2], [some 3, some 4, some 5, some 6, some 7, some 8, some 9, some 10, some 11, some 12, some 13, some 14, some 15, some 16, some 17, some 18], [], [], [], [], [], [], [], [], [], [], [], [], [], [], [], [], [some 1, some 20, some 21, some 22, some 23], [], [], [], [], [some 25, none, some 26, none, some 27], [], [], [], [some 29, none, some 30], [], [], [some 1, some 28, some 32, some 33, some 34, some 35], [], [], [], [], [some 1, some 31, some 37], [], [some 1, some 31, some 39], [], [some 1, none, none, none, none, none, none, none, none, none, some 41], [], [some 43, none, some 44], [], [], [some 46, some 48, some 50, some 52, some 54, some 56], [none, none, none, none, some 47], [], [none, none, none, none, some 49], [], [none, none, none, none, some 51], [], [none, none, none, none, some 53], [], [none, none, none, none, some 55], [], [none, none, none, none, some 57], []]
def zk_Cs : List (Nat × Nat) := [(15, 10), (8, 3), (3, 16), (0, 8), (0, 8), (0, 8), (0, 8), (0, 8), (0, 8), (0, 8), (0, 8), (0, 8), (0, 8), (0, 8), (0, 8), (0, 8), (0, 8), (0, 8), (0, 8), (5, 7), (0, 40), (0, 40), (0, 40), (0, 40), (9, 12), (0, 120), (0, 121), (0, 121), (7, 3), (0, 121), (0, 121), (14, 6), (0, 6), (0, 8), (0, 6), (0, 256), (10, 6), (0, 8), (11, 3), (0, 8), (6, 11), (0, 6), (4, 5), (0, 50), (0, 24), (2, 6), (12, 5), (1, 60), (12, 5), (1, 60), (12, 5), (1, 60), (12, 5), (1, 60), (12, 5), (1, 60), (12, 5), (1, 60)]
def zk_C : zk_Wd := (zk_Cs, fun k j => (zk_Cr.getD k []).getD j none)
def zk_Dr : List (List (Option Nat)) := [[none, some 1, some 2, some 3, some 4, some 5, some 6, none, some 7, some 8, some 9, some 10, some 11, some 12, some 13, some 14, none, none, some 15, none, none, some 16, some 17, some 18, some 19, none, none, none, none, some 20, some 21, some 22, some 23, some 24, some 25, some 26, none, none, none, some 27, some 28, none, none, some 29, none, some 30, none, some 31, some 32, some 33, some 34, some 35, some 36], [], [], [], [], [], [], [], [], [], [], [], [], [], [], [], [], [], [], [], [], [], [], [], [], [], [], [], [], [], [], [], [], [], [], [], []]
def zk_Ds : List (Nat × Nat) := [(16, 56), (0, 8), (0, 8), (0, 8), (0, 8), (0, 8), (0, 8), (0, 7), (0, 7), (0, 7), (0, 7), (0, 7), (0, 7), (0, 7), (0, 3), (0, 120), (0, 60), (0, 60), (0, 60), (0, 200), (0, 61), (0, 61), (0, 61), (0, 200), (0, 200), (0, 6), (0, 4), (0, 7), (0, 4), (0, 160), (0, 50), (0, 24), (0, 6), (0, 6), (1, 360), (0, 10), (0, 8)]
def zk_D : zk_Wd := (zk_Ds, fun k j => (zk_Dr.getD k []).getD j none)
def zk_rm0 : List Int32 := (zk_rom.getD 0 (.int, [])).2
def zk_rm1 : List Int32 := (zk_rom.getD 1 (.int, [])).2
def zk_rm2 : List Int32 := (zk_rom.getD 2 (.int, [])).2
def zk_rm3 : List Int32 := (zk_rom.getD 3 (.int, [])).2
