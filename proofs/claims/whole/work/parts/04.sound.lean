/-! WHAT THE SMALL MACHINE SAYS HOLDS OF THE MACHINE -/
def zk_cv (E : zk_E) (v : Value) : Value := match v with
  | .ref a => .ref (E.2.2 a)
  | .retAddr a => .ref (E.2.2 a)
  | v => v
def zk_isr : FieldType → Bool
  | .object _ => true
  | .array _ => true
  | _ => false
def zk_fv (E : zk_E) (w : zk_Wd) (h : zk_H) (k : Nat) (ty : Nat → FieldType) (j : Nat) : Value := if zk_isr (ty j) = true then va_rf ((w.2 k j).map E.2.2) else .int (h.1 k j)
def zk_cell (E : zk_E) (w : zk_Wd) (h : zk_H) (k : Nat) (s : Nat × Nat) : va_E := match s.1 with
  | 0 => .inl (E.2.1 0, s.2, .inl (h.1 k))
  | 1 => .inl (E.2.1 1, s.2, .inr (.inl (h.2 k)))
  | 2 => .inl (E.2.1 2, s.2, .inr (.inr (.inr (.inr (fun j => (w.2 k j).map E.2.2)))))
  | 3 => .inl (E.2.1 3, s.2, .inr (.inr (.inr (.inr (fun j => (w.2 k j).map E.2.2)))))
  | c + 4 => .inr (c, (List.range s.2).map (zk_fv E w h k (zk_ty c)))
def zk_w (E : zk_E) (w : zk_Wd) (h : zk_H) : va_W := (List.range w.1.length).map (fun k => (E.2.2 k, zk_cell E w h k (w.1.getD k (0, 0))))
def zk_tys (E : zk_E) : List (ClassId × FieldType) := [(E.2.1 0, .int), (E.2.1 1, .long), (E.2.1 2, .object RX8), (E.2.1 3, .array .int)]
def zk_A (E : zk_E) (n sz : Nat) : Nat → Prop := fun q => (∃ k, k < n ∧ q = E.2.2 k) ∨ sz ≤ q
def zk_Bg (E : zk_E) (A : Nat → Prop) (U : State) : Prop :=
  (∀ t q, zk_rom[t]? = some q → va_T q.1 (E.2.2 (1000 + t)) q.2.length (fun j => .int (q.2.getD j 0)) A U U.heap) ∧ (∀ q ∈ zk_sta, va_Z q.1 q.2.1 q.2.2.1 (zk_cv E q.2.2.2) A U U.heap) ∧
  va_O "java/lang/String" (E.2.2 2000) A U U.heap ∧ va_OF "java/lang/String" "coder" "B" (.int 0) (E.2.2 2000) A U U.heap ∧ va_OF "java/lang/String" "value" "[B" (.ref (E.2.2 1004)) (E.2.2 2000) A U U.heap ∧ vk_R RX5 77 "lhskmc" (E.2.2 2000) U ∧ vk_R RX10 11 "lhskmc" (E.2.2 2000) U
theorem zk_Bg.moved {E : zk_E} {A B : Nat → Prop} {s U : State} (h : zk_Bg E A s) (hW : s.WarmedH U.vm) (hq : ∀ a : Nat, a < s.heap.size → ¬ A a → U.heap[a]? = s.heap[a]?) (hAB : ∀ q, B q → A q) : zk_Bg E B U := by
  obtain ⟨h1, h2, h3, h4, h5, h6, h7⟩ := h
  exact ⟨fun t q hq' => ((va_T.moved hW.alike (h1 t q hq')).kept hq).narrow hAB, fun q hq' => ((va_Z.moved hW.alike (h2 q hq')).kept hq).narrow hAB, ((va_O.moved hW.alike h3).kept hq).narrow hAB, ((va_OF.moved hW.alike h4).kept hq).narrow hAB, ((va_OF.moved hW.alike h5).kept hq).narrow hAB, h6.warm hW, h7.warm hW⟩
theorem zk_w_get {E : zk_E} {w : zk_Wd} {h : zk_H} {k : Nat} {s : Nat × Nat} (hs : w.1[k]? = some s) : (zk_w E w h)[k]? = some (E.2.2 k, zk_cell E w h k s) := by
  have hk : k < w.1.length := (List.getElem?_eq_some_iff.mp hs).1
  simp [zk_w, List.getElem?_map, List.getElem?_range hk, hs]
theorem zk_w_set {E : zk_E} {w : zk_Wd} {h h' : zk_H} {k : Nat} {s : Nat × Nat} (hs : w.1[k]? = some s) (ho : ∀ a, a ≠ k → h'.1 a = h.1 a ∧ h'.2 a = h.2 a) : (zk_w E w h).set k (E.2.2 k, zk_cell E w h' k s) = zk_w E w h' := by
  have hk : k < w.1.length := (List.getElem?_eq_some_iff.mp hs).1
  apply List.ext_getElem?
  intro i
  rw [List.getElem?_set]
  by_cases hi : k = i
  · subst hi
    rw [if_pos rfl, if_pos (by simp [zk_w, hk]), zk_w_get hs]
  · rw [if_neg hi]
    by_cases hl : i < w.1.length
    · obtain ⟨t, ht⟩ : ∃ t, w.1[i]? = some t := ⟨_, List.getElem?_eq_getElem hl⟩
      rw [zk_w_get ht, zk_w_get ht]
      obtain ⟨e1, e2⟩ := ho i (fun e => hi e.symm)
      have : zk_cell E w h i t = zk_cell E w h' i t := by
        unfold zk_cell zk_fv
        rw [e1, e2]
      rw [this]
    · simp [zk_w, hl]
theorem zk_A_D {E : zk_E} {w : zk_Wd} {h : zk_H} {n sz : Nat} {B : Nat → Prop} (hn : w.1.length = n) (hD : va_D B (zk_w E w h)) : va_D (zk_A E n sz) (zk_w E w h) := by
  refine ⟨hD.1, fun k q hq => Or.inl ?_⟩
  have hk : k < (zk_w E w h).length := (List.getElem?_eq_some_iff.mp hq).1
  have hk2 : k < w.1.length := by simpa [zk_w] using hk
  obtain ⟨t, ht⟩ : ∃ t, w.1[k]? = some t := ⟨_, List.getElem?_eq_getElem hk2⟩
  rw [zk_w_get ht] at hq
  cases hq
  exact ⟨k, by omega, rfl⟩
theorem zk_D_h {E : zk_E} {w : zk_Wd} {h h' : zk_H} {A : Nat → Prop} (hD : va_D A (zk_w E w h)) : va_D A (zk_w E w h') := by
  have key : ∀ (k : Nat) (q : Nat × va_E), (zk_w E w h')[k]? = some q → ∃ q', (zk_w E w h)[k]? = some q' ∧ q'.1 = q.1 := by
    intro k q hq
    have hk : k < (zk_w E w h').length := (List.getElem?_eq_some_iff.mp hq).1
    have hk2 : k < w.1.length := by simpa [zk_w] using hk
    obtain ⟨t, ht⟩ : ∃ t, w.1[k]? = some t := ⟨_, List.getElem?_eq_getElem hk2⟩
    rw [zk_w_get ht] at hq
    cases hq
    exact ⟨_, zk_w_get ht, rfl⟩
  refine ⟨fun i j p q hi hj e => ?_, fun k q hk => ?_⟩
  · obtain ⟨p', h1, e1⟩ := key i p hi
    obtain ⟨q', h2, e2⟩ := key j q hj
    exact hD.1 i j p' q' h1 h2 (by rw [e1, e2, e])
  · obtain ⟨q', h1, e1⟩ := key k q hk
    rw [← e1]
    exact hD.2 k q' h1
-- what a step asks for, told
theorem zk_on_s {α : Type} {o : Option α} {f : α → Prop} (h : zk_on o f) : ∃ a, o = some a ∧ f a := by
  cases o with
  | none => exact h.elim
  | some a => exact ⟨a, rfl, h⟩
theorem zk_p1i_s {st : List Value} {k : Int32 → List Value → Prop} (h : zk_p1i st k) : ∃ x r, st = .int x :: r ∧ k x r := by
  unfold zk_p1i at h
  split at h
  · exact ⟨_, _, rfl, h⟩
  · exact h.elim
theorem zk_p2i_s {st : List Value} {k : Int32 → Int32 → List Value → Prop} (h : zk_p2i st k) : ∃ x y r, st = .int y :: .int x :: r ∧ k x y r := by
  unfold zk_p2i at h
  split at h
  · exact ⟨_, _, _, rfl, h⟩
  · exact h.elim
theorem zk_p1l_s {st : List Value} {k : Int64 → List Value → Prop} (h : zk_p1l st k) : ∃ x r, st = .long x :: r ∧ k x r := by
  unfold zk_p1l at h
  split at h
  · exact ⟨_, _, rfl, h⟩
  · exact h.elim
theorem zk_p2l_s {st : List Value} {k : Int64 → Int64 → List Value → Prop} (h : zk_p2l st k) : ∃ x y r, st = .long y :: .long x :: r ∧ k x y r := by
  unfold zk_p2l at h
  split at h
  · exact ⟨_, _, _, rfl, h⟩
  · exact h.elim
theorem zk_pli_s {st : List Value} {k : Int64 → Int32 → List Value → Prop} (h : zk_pli st k) : ∃ x y r, st = .int y :: .long x :: r ∧ k x y r := by
  unfold zk_pli at h
  split at h
  · exact ⟨_, _, _, rfl, h⟩
  · exact h.elim
theorem zk_pia_s {st : List Value} {k : Int32 → Value → List Value → Prop} (h : zk_pia st k) : ∃ i a r, st = .int i :: a :: r ∧ k i a r := by
  unfold zk_pia at h
  split at h
  · exact ⟨_, _, _, rfl, h⟩
  · exact h.elim
theorem zk_piia_s {st : List Value} {k : Int32 → Int32 → Value → List Value → Prop} (h : zk_piia st k) : ∃ x i a r, st = .int x :: .int i :: a :: r ∧ k x i a r := by
  unfold zk_piia at h
  split at h
  · exact ⟨_, _, _, _, rfl, h⟩
  · exact h.elim
theorem zk_plia_s {st : List Value} {k : Int64 → Int32 → Value → List Value → Prop} (h : zk_plia st k) : ∃ x i a r, st = .long x :: .int i :: a :: r ∧ k x i a r := by
  unfold zk_plia at h
  split at h
  · exact ⟨_, _, _, _, rfl, h⟩
  · exact h.elim
theorem zk_pv_s {st : List Value} {k : Value → List Value → Prop} (h : zk_pv st k) : ∃ v r, st = v :: r ∧ k v r := by
  unfold zk_pv at h
  split at h
  · exact ⟨_, _, rfl, h⟩
  · exact h.elim
theorem zk_piv_s {st : List Value} {k : Int32 → Value → List Value → Prop} (h : zk_piv st k) : ∃ x v r, st = .int x :: v :: r ∧ k x v r := by
  unfold zk_piv at h
  split at h
  · exact ⟨_, _, _, rfl, h⟩
  · exact h.elim
theorem zk_pr_s {E : zk_E} {st : List Value} {k : Value → List Value → Prop} (h : zk_pr st k) : ∃ v r, st = v :: r ∧ k v r ∧ (zk_cv E v = .null ∨ ∃ a, zk_cv E v = .ref a) ∧ v.category = 1 := by
  unfold zk_pr at h
  split at h
  · exact ⟨_, _, rfl, h, Or.inr ⟨_, rfl⟩, rfl⟩
  · exact ⟨_, _, rfl, h, Or.inr ⟨_, rfl⟩, rfl⟩
  · exact ⟨_, _, rfl, h, Or.inl rfl, rfl⟩
  · exact h.elim
theorem zk_lr_s {E : zk_E} {o : Option Value} {k : Value → Prop} (h : zk_lr o k) : ∃ v, o = some v ∧ k v ∧ (zk_cv E v = .null ∨ ∃ a, zk_cv E v = .ref a) := by
  unfold zk_lr at h
  split at h
  · exact ⟨_, rfl, h, Or.inr ⟨_, rfl⟩⟩
  · exact ⟨_, rfl, h, Or.inr ⟨_, rfl⟩⟩
  · exact ⟨_, rfl, h, Or.inl rfl⟩
  · exact h.elim
theorem zk_li_s {o : Option Value} {k : Int32 → Prop} (h : zk_li o k) : ∃ x, o = some (.int x) ∧ k x := by
  unfold zk_li at h
  split at h
  · exact ⟨_, rfl, h⟩
  · exact h.elim
theorem zk_ll_s {o : Option Value} {k : Int64 → Prop} (h : zk_ll o k) : ∃ x, o = some (.long x) ∧ k x := by
  unfold zk_ll at h
  split at h
  · exact ⟨_, rfl, h⟩
  · exact h.elim
theorem zk_j_s {pc : Nat} {o : Int} {f : Nat → Prop} (h : zk_j pc o f) : ∃ t : Nat, (pc : Int) + o = (t : Int) ∧ f t := by
  unfold zk_j at h
  split at h
  next t e => exact ⟨t, e, h⟩
  · exact h.elim
theorem zk_bif {b : Bool} {P : Prop} (h : bif b then P else False) : b = true ∧ P := by
  cases b with
  | true => exact ⟨rfl, h⟩
  | false => exact h.elim
theorem zk_iso_s {E : zk_E} {w : zk_Wd} {v : Value} {c : Nat} {k : Nat → Prop} (h : zk_iso w v c k) : ∃ a, zk_cv E v = .ref (E.2.2 a) ∧ w.1[a]? = some (c + 4, zk_N c) ∧ k a := by
  unfold zk_iso at h
  split at h
  next a =>
    split at h
    next s hs =>
      obtain ⟨h1, h2⟩ := zk_bif h
      simp only [Bool.and_eq_true, Nat.beq_eq] at h1
      exact ⟨a, rfl, by rw [hs]; exact congrArg some (Prod.ext h1.1 h1.2), h2⟩
    · exact h.elim
  next a => exact ⟨a, rfl, h⟩
  · exact h.elim
theorem zk_isa_s {E : zk_E} {w : zk_Wd} {v : Value} {kd : Nat} {k : Nat → Nat → Prop} (h : zk_isa w v kd k) : ∃ a n, zk_cv E v = .ref (E.2.2 a) ∧ w.1[a]? = some (kd, n) ∧ k a n := by
  unfold zk_isa at h
  split at h
  next a =>
    split at h
    next s hs =>
      obtain ⟨h1, h2⟩ := zk_bif h
      simp only [Nat.beq_eq] at h1
      exact ⟨a, s.2, rfl, by rw [hs]; exact congrArg some (Prod.ext h1 rfl), h2⟩
    · exact h.elim
  next a =>
    obtain ⟨n, h1, h2⟩ := h
    exact ⟨a, n, rfl, h1, h2⟩
  · exact h.elim
theorem zk_cv_rf (E : zk_E) (o : Option Nat) : zk_cv E (va_rf o) = va_rf (o.map E.2.2) := by cases o <;> rfl
theorem zk_cv_cat (E : zk_E) (v : Value) : (zk_cv E v).category = v.category := by cases v <;> rfl
theorem zk_cats_cv (E : zk_E) (r : List Value) : ((r.map (zk_cv E)).map fun v => v.category).sum = zk_cats r := by
  unfold zk_cats
  rw [List.map_map]
  congr 1
  exact List.map_congr_left fun v _ => zk_cv_cat E v
-- locals
def zk_loc (E : zk_E) (L : zk_L) : List (Nat × Value) := (List.range L.length).filterMap (fun i => (zk_gl L i).map fun v => (i, zk_cv E v))
theorem zk_loc_mem {E : zk_E} {L : zk_L} {i : Nat} {u : Value} : (i, u) ∈ zk_loc E L ↔ ∃ v, zk_gl L i = some v ∧ u = zk_cv E v := by
  unfold zk_loc
  rw [List.mem_filterMap]
  constructor
  · rintro ⟨j, -, h⟩
    cases hg : zk_gl L j with
    | none => rw [hg] at h; cases h
    | some v => rw [hg] at h; cases h; exact ⟨v, hg, rfl⟩
  · rintro ⟨v, h, rfl⟩
    refine ⟨i, ?_, by rw [h]; rfl⟩
    rw [List.mem_range]
    unfold zk_gl at h
    split at h
    next o ho => exact (List.getElem?_eq_some_iff.mp ho).1
    · cases h
theorem zk_has_sub {ls : Array Slot} {nL : Nat} {l l' : List (Nat × Value)} (h : lv_has ls nL l) (hs : ∀ q ∈ l', q ∈ l) : lv_has ls nL l' := ⟨h.1, h.2.1, fun q hq => h.2.2 q (hs q hq)⟩
theorem zk_loc_get {E : zk_E} {ls : Array Slot} {nL : Nat} {L : zk_L} (h : lv_has ls nL (zk_loc E L)) {i : Nat} {v : Value} (hg : zk_gl L i = some v) : ls[i]? = some (.val (zk_cv E v)) := h.2.2 (i, zk_cv E v) (zk_loc_mem.mpr ⟨v, hg, rfl⟩)
theorem zk_gl_set {L : zk_L} {i j : Nat} {o : Option Value} {v : Value} (h : zk_gl (L.set i o) j = some v) : (j = i ∧ o = some v) ∨ (j ≠ i ∧ zk_gl L j = some v) := by
  unfold zk_gl at h
  rw [List.getElem?_set] at h
  by_cases e : i = j
  · subst e
    rw [if_pos rfl] at h
    split at h
    next o' ho =>
      split at ho
      · cases ho; exact Or.inl ⟨rfl, h⟩
      · cases ho
    · cases h
  · rw [if_neg e] at h
    exact Or.inr ⟨fun q => e q.symm, h⟩
theorem zk_notwide {L : zk_L} {i j : Nat} {v : Value} (hw : zk_wide L i = false) (hg : zk_gl L j = some v) (hj : j + 1 = i) : v.category ≠ 2 := by
  subst hj
  unfold zk_wide at hw
  dsimp only at hw
  rw [hg] at hw
  cases v <;> simp_all [Value.category]
theorem zk_st1_s {E : zk_E} {L L' : zk_L} {i : Nat} {v : Value} (h : zk_st1 L i v = some L') : i < L.length ∧ L'.length = L.length ∧ ∀ q ∈ zk_loc E L', q ∈ (i, zk_cv E v) :: (zk_loc E L).filter (fun q => !(q.1 == i) && !(q.1 + 1 == i && q.2.category == 2)) := by
  unfold zk_st1 at h
  cases hb : Nat.blt i L.length && !(zk_wide L i) with
  | false => rw [hb] at h; cases h
  | true =>
    rw [hb] at h
    cases h
    simp only [Bool.and_eq_true, Nat.blt_eq, Bool.not_eq_true'] at hb
    refine ⟨hb.1, by simp, fun q hq => ?_⟩
    obtain ⟨j, u⟩ := q
    obtain ⟨x, hx, rfl⟩ := zk_loc_mem.mp hq
    rcases zk_gl_set hx with ⟨rfl, e⟩ | ⟨hne, hx⟩
    · cases e; exact List.mem_cons_self
    · refine List.mem_cons_of_mem _ (List.mem_filter.mpr ⟨zk_loc_mem.mpr ⟨x, hx, rfl⟩, ?_⟩)
      have h2 : j + 1 = i → x.category ≠ 2 := zk_notwide hb.2 hx
      simp only [Bool.and_eq_true, Bool.not_eq_true', beq_eq_false_iff_ne, Bool.and_eq_false_iff, zk_cv_cat]
      exact ⟨hne, by by_cases e : j + 1 = i; exact Or.inr (h2 e); exact Or.inl e⟩
theorem zk_st2_s {E : zk_E} {L L' : zk_L} {i : Nat} {v : Value} (h : zk_st2 L i v = some L') : i + 1 < L.length ∧ L'.length = L.length ∧ ∀ q ∈ zk_loc E L', q ∈ (i, zk_cv E v) :: (zk_loc E L).filter (fun q => !(q.1 == i) && (!(q.1 == i + 1) && !(q.1 + 1 == i && q.2.category == 2))) := by
  unfold zk_st2 at h
  cases hb : Nat.blt (i + 1) L.length && !(zk_wide L i) with
  | false => rw [hb] at h; cases h
  | true =>
    rw [hb] at h
    cases h
    simp only [Bool.and_eq_true, Nat.blt_eq, Bool.not_eq_true'] at hb
    refine ⟨hb.1, by simp, fun q hq => ?_⟩
    obtain ⟨j, u⟩ := q
    obtain ⟨x, hx, rfl⟩ := zk_loc_mem.mp hq
    rcases zk_gl_set hx with ⟨-, e⟩ | ⟨hne1, hx⟩
    · cases e
    rcases zk_gl_set hx with ⟨rfl, e⟩ | ⟨hne, hx⟩
    · cases e; exact List.mem_cons_self
    · refine List.mem_cons_of_mem _ (List.mem_filter.mpr ⟨zk_loc_mem.mpr ⟨x, hx, rfl⟩, ?_⟩)
      have h2 : j + 1 = i → x.category ≠ 2 := zk_notwide hb.2 hx
      simp only [Bool.and_eq_true, Bool.not_eq_true', beq_eq_false_iff_ne, Bool.and_eq_false_iff, zk_cv_cat]
      exact ⟨hne, hne1, by by_cases e : j + 1 = i; exact Or.inr (h2 e); exact Or.inl e⟩
/-- the locals with which a method begins -/
def zk_L0 : List Value → Nat → zk_L
  | [], n => List.replicate n none
  | v :: vs, n => match v with
    | .long x => some (.long x) :: none :: zk_L0 vs (n - 2)
    | v => some v :: zk_L0 vs (n - 1)
def zk_wds : List Value → Nat
  | [] => 0
  | v :: vs => match v with
    | .long _ => 2 + zk_wds vs
    | _ => 1 + zk_wds vs
def zk_nod (v : Value) : Bool := match v with
  | .double _ => false
  | _ => true
theorem zk_L0_len : ∀ (vs : List Value) (n : Nat), zk_wds vs ≤ n → (zk_L0 vs n).length = n
  | [], n, _ => by simp [zk_L0]
  | v :: vs, n, h => by
    cases v <;> simp only [zk_wds] at h <;> simp only [zk_L0, List.length_cons] <;> (rw [zk_L0_len vs _ (by omega)]; omega)
theorem zk_L0_in {E : zk_E} : ∀ (vs : List Value) (n b : Nat), (∀ v ∈ vs, zk_nod v = true) → ∀ i v, zk_gl (zk_L0 vs n) i = some v → (b + i, zk_cv E v) ∈ lv_args b (vs.map (zk_cv E))
  | [], n, b, _, i, v, h => by
    unfold zk_gl zk_L0 at h
    rw [List.getElem?_replicate] at h
    split at h
    next o ho =>
      split at ho
      · cases ho; cases h
      · cases ho
    · cases h
  | u :: vs, n, b, hn, i, v, h => by
    have hn' : ∀ v ∈ vs, zk_nod v = true := fun v hv => hn v (List.mem_cons_of_mem _ hv)
    have hu := hn u List.mem_cons_self
    cases u with
    | double => simp [zk_nod] at hu
    | long x =>
      simp only [zk_L0] at h
      match i, h with
      | 0, h => cases (show some (Value.long x) = some v from h); exact List.mem_cons_self
      | 1, h => cases (show (none : Option Value) = some v from h)
      | i + 2, h =>
        have := zk_L0_in (E := E) vs (n - 2) (b + 2) hn' i v h
        refine List.mem_cons_of_mem _ ?_
        rw [show b + (i + 2) = b + 2 + i by omega]
        exact this
    | _ =>
      simp only [zk_L0] at h
      match i, h with
      | 0, h => cases (show some _ = some v from h); exact List.mem_cons_self
      | i + 1, h =>
        have := zk_L0_in (E := E) vs (n - 1) (b + 1) hn' i v h
        refine List.mem_cons_of_mem _ ?_
        rw [show b + (i + 1) = b + 1 + i by omega]
        exact this
theorem zk_wds_sl {E : zk_E} : ∀ (vs : List Value), (∀ v ∈ vs, zk_nod v = true) → (lg_sl (vs.map (zk_cv E))).length = zk_wds vs
  | [], _ => rfl
  | u :: vs, hn => by
    have ih := zk_wds_sl (E := E) vs fun v hv => hn v (List.mem_cons_of_mem _ hv)
    have hu := hn u List.mem_cons_self
    simp only [lg_sl, List.map_cons, List.flatMap_cons, List.length_append] at ih ⊢
    rw [ih]
    cases u <;> simp_all [zk_wds, zk_nod, zk_cv, Value.category]
