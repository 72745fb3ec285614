/-! EACH STEP of the small machine is a step of the machine -/
theorem zk_fo_s {own : String} {i c j : Nat} {P : u_T → Prop} (h : zk_fo own i c j P) : ∃ q, zk_cl[c]? = some q ∧ j < zk_N c ∧ Cond.fieldLink own i (q.2.1 j).1 (q.2.1 j).2.1 (q.2.1 j).2.2.1 ∈ zk_uw ∧ P q.2.1 := by
  unfold zk_fo at h
  split at h
  next q hq => exact ⟨q, hq, h⟩
  · exact h.elim
section ZKS
variable {p : Program} {l : Launch} {e : Env} {s : State} {m : MethodId} {args : Array Value} {below : List Frame} {meth : Method} {c : Code} {H : Heap} {locs : List Loc} {Q' : State → Prop}
variable {pc : Nat} {ls : Array Slot} {own : String} {j0 : zk_M} {w : zk_Wd} {E : zk_E} {d d0 nL : Nat} {Q : zk_Q} {mt : zk_Mt} {cx : Nat → zk_P} {L : zk_L} {st : List Value} {h : zk_H} {a i j ci n : Nat} {rest : List Value} {q : vw_C} {R : Room} {cells slots : Nat}
theorem zk_obj (hw : w.1[a]? = some (ci + 4, n)) : (zk_w E w h)[a]? = some (E.2.2 a, .inr (ci, (List.range n).map (zk_fv E w h a (zk_ty ci)))) := zk_w_get hw
theorem zk_getf (Fx : zk_Fx p s m args meth c own j0 (zk_A E w.1.length s.heap.size) E) (hcl : zk_clOk) (hq : zk_cl[ci]? = some q) (hj : j < zk_N ci) (hlink : Cond.fieldLink own i (q.2.1 j).1 (q.2.1 j).2.1 (q.2.1 j).2.2.1 ∈ zk_uw) (hP : va_P E.1 zk_cl (zk_w E w h) H) (hw : w.1[a]? = some (ci + 4, zk_N ci)) (hdg : decode j0.2.1 pc = .ok (.getfield i, 3))
    (kk : W p l e R s m args below meth c H locs cells slots Q' (F0 m (pc + 3) ls (zk_fv E w h a (zk_ty ci) j :: rest))) : W p l e R s m args below meth c H locs cells slots Q' (F0 m pc ls (.ref (E.2.2 a) :: rest)) := by
  obtain ⟨hx, hb, hml, hr, hlocks, hown, hts, hA, hK, hBg⟩ := Fx
  obtain ⟨k1, k2, k3, k4⟩ := hcl ci q hq
  exact va_get (D := E.1) (ci := ci) (C := q.1) (T := q.2.1) (N := q.2.2) (Ts := zk_ws j0) hx hb hts (fun w hw => List.mem_cons_of_mem _ (k1 w hw)) hown hK hP a (zk_obj hw) hq j (by rw [k4]; exact hj) (hts _ (List.mem_cons_of_mem _ hlink)) (fun _ h9 => h9) (by simp [List.getElem?_map, List.getElem?_range hj]) hdg kk
theorem zk_putf (Fx : zk_Fx p s m args meth c own j0 (zk_A E w.1.length s.heap.size) E) (hcl : zk_clOk) (hq : zk_cl[ci]? = some q) (hj : j < zk_N ci) (hlink : Cond.fieldLink own i (q.2.1 j).1 (q.2.1 j).2.1 (q.2.1 j).2.2.1 ∈ zk_uw) (hfin : (q.2.1 j).2.2.2 = false) {x : Int32} (hr : zk_isr (zk_ty ci j) = false) (hn : narrow (zk_ty ci j) (.int x) = .int x) (hfit : fits (zk_ty ci j) (.int x) = true)
    (hP : va_P E.1 zk_cl (zk_w E w h) H) (hD : va_D (zk_A E w.1.length s.heap.size) (zk_w E w h)) (hS : va_S (zk_A E w.1.length s.heap.size) s.heap H locs) (hw : w.1[a]? = some (ci + 4, zk_N ci)) (hdg : decode j0.2.1 pc = .ok (.putfield i, 3))
    (kk : ∀ (H1 : Heap) (locs1 : List Loc), va_P E.1 zk_cl (zk_w E w (zk_si h a j x)) H1 → va_D (zk_A E w.1.length s.heap.size) (zk_w E w (zk_si h a j x)) → va_S (zk_A E w.1.length s.heap.size) s.heap H1 locs1 → W p l e R s m args below meth c H1 locs1 cells slots Q' (F0 m (pc + 3) ls rest)) : W p l e R s m args below meth c H locs cells slots Q' (F0 m pc ls (.int x :: .ref (E.2.2 a) :: rest)) := by
  obtain ⟨hx, hb, hml, hrt, hlocks, hown, hts, hA, hK, hBg⟩ := Fx
  obtain ⟨k1, k2, k3, k4⟩ := hcl ci q hq
  refine va_put (D := E.1) (ci := ci) (C := q.1) (T := q.2.1) (N := q.2.2) (Ts := zk_ws j0) (v := .int x) (ty := zk_ty ci j) hx hb hts (fun w hw => List.mem_cons_of_mem _ (k1 w hw)) (zk_ty ci) k2 k3 hown hK hP hD hS a (zk_obj hw) hq j (by rw [k4]; exact hj) (hts _ (List.mem_cons_of_mem _ hlink)) (fun _ h9 => h9) hfin (k2 j (by rw [k4]; exact hj)) hn hfit (by simpa using hj) hdg (fun H1 locs1 hP1 hD1 hS1 => ?_)
  have e1 : (zk_w E w h).set a (E.2.2 a, .inr (ci, ((List.range (zk_N ci)).map (zk_fv E w h a (zk_ty ci))).set j (.int x))) = zk_w E w (zk_si h a j x) := by
    rw [← zk_w_set (h := h) (h' := zk_si h a j x) hw (fun b hb => ⟨funext fun z => by simp [zk_si, hb], rfl⟩)]
    suffices e0 : ((List.range (zk_N ci)).map (zk_fv E w h a (zk_ty ci))).set j (.int x) = (List.range (zk_N ci)).map (zk_fv E w (zk_si h a j x) a (zk_ty ci)) by
      rw [e0]
      rfl
    apply List.ext_getElem?
    intro k
    rw [List.getElem?_set, List.getElem?_map, List.getElem?_map]
    by_cases ek : j = k
    · subst ek
      simp [hj, zk_fv, hr, zk_si]
    · rw [if_neg ek]
      cases hk : (List.range (zk_N ci))[k]? with
      | none => rfl
      | some z =>
        have : z = k := by
          have := (List.getElem?_eq_some_iff.mp hk)
          obtain ⟨h1, h2⟩ := this
          simp at h2
          exact h2.symm
        subst this
        simp only [Option.map_some, zk_fv, zk_si]
        split
        · rfl
        · simp [show ¬ z = j from fun q => ek q.symm]
  rw [e1] at hP1 hD1
  exact kk H1 locs1 hP1 hD1 hS1
theorem zk_arri (hw : w.1[a]? = some (0, n)) : (zk_w E w h)[a]? = some (E.2.2 a, .inl (E.2.1 0, n, .inl (h.1 a))) := zk_w_get hw
theorem zk_arrl (hw : w.1[a]? = some (1, n)) : (zk_w E w h)[a]? = some (E.2.2 a, .inl (E.2.1 1, n, .inr (.inl (h.2 a)))) := zk_w_get hw
theorem zk_seti {f : Nat → Int32} {h' : zk_H} (hw : w.1[a]? = some (0, n)) (h1 : h'.1 a = f) (ho : ∀ b, b ≠ a → h'.1 b = h.1 b ∧ h'.2 b = h.2 b) : (zk_w E w h).set a (E.2.2 a, .inl (E.2.1 0, n, .inl f)) = zk_w E w h' := by
  rw [← zk_w_set hw ho, ← h1]
  rfl
theorem zk_setl {f : Nat → Int64} {h' : zk_H} (hw : w.1[a]? = some (1, n)) (h1 : h'.2 a = f) (ho : ∀ b, b ≠ a → h'.1 b = h.1 b ∧ h'.2 b = h.2 b) : (zk_w E w h).set a (E.2.2 a, .inl (E.2.1 1, n, .inr (.inl f))) = zk_w E w h' := by
  rw [← zk_w_set hw ho, ← h1]
  rfl
theorem zk_inI {v : Int} {x : Int32} (h1 : -2147483648 ≤ v) (h2 : v ≤ 2147483647) : x = Int32.ofInt v ↔ x.toInt = v := by
  constructor
  · rintro rfl
    rw [Int32.toInt_ofInt_of_le (by simpa using h1) (by simp; omega)]
  · intro h
    rw [← Int32.toInt_inj, Int32.toInt_ofInt_of_le (by simpa using h1) (by simp; omega)]
    exact h
theorem zk_sw_s {x : Int32} {jump : Int → Prop} {D : Prop} : ∀ (os : List Int) (lo : Int), -2147483648 ≤ lo → lo + os.length ≤ 2147483647 → zk_sw x jump D lo os → (∃ o, ¬ x.toInt < lo ∧ os[(x.toInt - lo).toNat]? = some o ∧ jump o) ∨ ((x.toInt < lo ∨ lo + os.length ≤ x.toInt) ∧ D)
  | [], lo, h1, h2, h => Or.inr ⟨by simp; omega, h⟩
  | o :: os, lo, h1, h2, h => by
    simp only [List.length_cons, Int.natCast_add, Int.natCast_one] at h2
    by_cases e : x = Int32.ofInt lo
    · refine Or.inl ⟨o, ?_, ?_, h.1 e⟩
      · rw [(zk_inI h1 (by omega)).mp e]; omega
      · rw [(zk_inI h1 (by omega)).mp e]; simp
    · have ne : x.toInt ≠ lo := fun q => e ((zk_inI h1 (by omega)).mpr q)
      rcases zk_sw_s os (lo + 1) (by omega) (by omega) (h.2 e) with ⟨o', g1, g2, g3⟩ | ⟨g1, g2⟩
      · refine Or.inl ⟨o', by omega, ?_, g3⟩
        rw [show (x.toInt - lo).toNat = (x.toInt - (lo + 1)).toNat + 1 by omega]
        exact g2
      · refine Or.inr ⟨?_, g2⟩
        simp only [List.length_cons, Int.natCast_add, Int.natCast_one]
        omega
theorem zk_lsw_s {x : Int32} {jump : Int → Prop} {dflt : Int} : ∀ (ps : List (Int × Int)), (∀ q ∈ ps, -2147483648 ≤ q.1 ∧ q.1 ≤ 2147483647) → zk_lsw x jump (jump dflt) ps → jump (Op.lookupswitch.offset ps dflt x.toInt)
  | [], _, h => h
  | q :: ps, hq, h => by
    obtain ⟨h1, h2⟩ := hq q List.mem_cons_self
    rw [Op.lookupswitch.offset_cons]
    split
    next e => exact h.1 ((zk_inI h1 h2).mpr e.symm)
    next e => exact zk_lsw_s ps (fun q hq' => hq q (List.mem_cons_of_mem _ hq')) (h.2 (fun z => e ((zk_inI h1 h2).mp z).symm))
theorem zk_S_sound {lk : Nat → zk_Ln} {ins : Instr} {md : Nat} (Fx : zk_Fx p s m args meth c own j0 (zk_A E w.1.length s.heap.size) E) (hn0 : j0.2.2.1 = nL) (hcl : zk_clOk) (hjdk : zk_jdk) (hmt : ∀ a, zk_mtOk (mt a) ∨ ∀ as h Q, ¬ cx a as h Q) (hlk : ∀ i, zk_lk1 own mt i (lk i)) (hcx : ∀ a, zk_CT w d0 (mt a).1 (cx a)) (hd : d0 ≤ d)
    (hdg : decode j0.2.1 pc = .ok (ins, zk_len ins md)) (hyp : zk_S w lk mt cx j0.2.2.2 Q (zk_Z p l e d s m args below meth c w E nL Q) ins md pc L st h) : zk_Z p l e d s m args below meth c w E nL Q pc L st h := by
  intro H locs ls hP hD hS hl hL
  obtain ⟨hx, hb, hml, hr, hlocks, hown, hts, hA, hK, hBg⟩ := id Fx
  have hlsz : c.maxLocals = ls.size := by rw [hml, hn0]; exact hl.1.symm
  have hw' : ∀ {w : Cond}, w ∈ zk_uw → w.before args s = true := fun h => hts _ (List.mem_cons_of_mem _ h)
  cases ins
  case aload_n i =>
    simp only [zk_S] at hyp
    obtain ⟨v, hg, hk, ev⟩ := zk_lr_s (E := E) hyp
    have hg := zk_loc_get hl hg
    have hk := hk H locs ls hP hD hS hl hL
    rw [List.map_cons] at hk
    rcases ev with ev | ⟨b, ev⟩ <;> rw [ev] at hg hk
    · exact lv_aload_nN hx hb hdg rfl hg hk
    · exact lv_aload_n hx hb hdg rfl hg hk
  case aload i =>
    simp only [zk_S] at hyp
    obtain ⟨v, hg, hk, ev⟩ := zk_lr_s (E := E) hyp
    have hg := zk_loc_get hl hg
    have hk := hk H locs ls hP hD hS hl hL
    rw [List.map_cons] at hk
    rcases ev with ev | ⟨b, ev⟩ <;> rw [ev] at hg hk
    · exact lv_aloadN hx hb hdg hg hk
    · exact lv_aload hx hb hdg hg hk
  case iload_n i =>
    obtain ⟨x, hg, hk⟩ := zk_li_s hyp
    exact lv_iload_n hx hb hdg rfl (zk_loc_get hl hg) (hk H locs ls hP hD hS hl hL)
  case iload i =>
    obtain ⟨x, hg, hk⟩ := zk_li_s hyp
    exact lv_iload hx hb hdg (zk_loc_get hl hg) (hk H locs ls hP hD hS hl hL)
  case lload_n i =>
    obtain ⟨x, hg, hk⟩ := zk_ll_s hyp
    exact lv_lload_n hx hb hdg rfl (zk_loc_get hl hg) (hk H locs ls hP hD hS hl hL)
  case lload i =>
    obtain ⟨x, hg, hk⟩ := zk_ll_s hyp
    exact lv_lload hx hb hdg (zk_loc_get hl hg) (hk H locs ls hP hD hS hl hL)
  case istore_n i =>
    obtain ⟨x, r, rfl, h2⟩ := zk_p1i_s hyp
    obtain ⟨L', hst, hk⟩ := zk_on_s h2
    obtain ⟨g1, g2, g3⟩ := zk_st1_s (E := E) hst
    exact lv_istore_n hx hb hdg rfl hl (by omega) rfl (fun ls' hl' => hk H locs ls' hP hD hS (zk_has_sub hl' g3) (by omega))
  case istore i =>
    obtain ⟨x, r, rfl, h2⟩ := zk_p1i_s hyp
    obtain ⟨L', hst, hk⟩ := zk_on_s h2
    obtain ⟨g1, g2, g3⟩ := zk_st1_s (E := E) hst
    exact lv_istore hx hb hdg hl (by omega) rfl (fun ls' hl' => hk H locs ls' hP hD hS (zk_has_sub hl' g3) (by omega))
  case astore_n i =>
    simp only [zk_S] at hyp
    obtain ⟨v, r, rfl, h2, ev, -⟩ := zk_pr_s (E := E) hyp
    obtain ⟨L', hst, hk⟩ := zk_on_s h2
    obtain ⟨g1, g2, g3⟩ := zk_st1_s (E := E) hst
    rw [List.map_cons]
    rcases ev with ev | ⟨b, ev⟩ <;> rw [ev] at g3 ⊢
    · exact lv_astore_nN hx hb hdg rfl hl (by omega) rfl (fun ls' hl' => hk H locs ls' hP hD hS (zk_has_sub hl' g3) (by omega))
    · exact lv_astore_n hx hb hdg rfl hl (by omega) rfl (fun ls' hl' => hk H locs ls' hP hD hS (zk_has_sub hl' g3) (by omega))
  case astore i =>
    simp only [zk_S] at hyp
    obtain ⟨v, r, rfl, h2, ev, -⟩ := zk_pr_s (E := E) hyp
    obtain ⟨L', hst, hk⟩ := zk_on_s h2
    obtain ⟨g1, g2, g3⟩ := zk_st1_s (E := E) hst
    rw [List.map_cons]
    rcases ev with ev | ⟨b, ev⟩ <;> rw [ev] at g3 ⊢
    · exact lv_astoreN hx hb hdg hl (by omega) rfl (fun ls' hl' => hk H locs ls' hP hD hS (zk_has_sub hl' g3) (by omega))
    · exact lv_astore hx hb hdg hl (by omega) rfl (fun ls' hl' => hk H locs ls' hP hD hS (zk_has_sub hl' g3) (by omega))
  case lstore_n i =>
    obtain ⟨x, r, rfl, h2⟩ := zk_p1l_s hyp
    obtain ⟨L', hst, hk⟩ := zk_on_s h2
    obtain ⟨g1, g2, g3⟩ := zk_st2_s (E := E) hst
    exact lv_lstore_n hx hb hdg rfl hl (by omega) rfl (fun ls' hl' => hk H locs ls' hP hD hS (zk_has_sub hl' g3) (by omega))
  case lstore i =>
    obtain ⟨x, r, rfl, h2⟩ := zk_p1l_s hyp
    obtain ⟨L', hst, hk⟩ := zk_on_s h2
    obtain ⟨g1, g2, g3⟩ := zk_st2_s (E := E) hst
    exact lv_lstore hx hb hdg hl (by omega) rfl (fun ls' hl' => hk H locs ls' hP hD hS (zk_has_sub hl' g3) (by omega))
  case iinc i n =>
    obtain ⟨x, hg, h2⟩ := zk_li_s hyp
    obtain ⟨L', hst, hk⟩ := zk_on_s h2
    obtain ⟨g1, g2, g3⟩ := zk_st1_s (E := E) hst
    obtain ⟨k0, hk0⟩ := List.getElem?_of_mem (zk_loc_mem.mpr ⟨_, hg, rfl⟩ : (i, zk_cv E (.int x)) ∈ zk_loc E L)
    exact lv_iinc hx hb hdg hl (k := k0) hk0 rfl (by omega) rfl (fun ls' hl' => hk H locs ls' hP hD hS (zk_has_sub hl' g3) (by omega))
  case iconst n => exact lv_iconst hx hb hdg rfl (hyp H locs ls hP hD hS hl hL)
  case bipush n => exact lv_bipush hx hb hdg rfl (hyp H locs ls hP hD hS hl hL)
  case sipush n => exact lv_sipush hx hb hdg rfl (hyp H locs ls hP hD hS hl hL)
  case lconst n => exact lv_lconst hx hb hdg rfl (hyp H locs ls hP hD hS hl hL)
  case aconst_null => exact lv_null hx hb hdg (hyp H locs ls hP hD hS hl hL)
  case ldc i =>
    have hq := hlk i
    simp only [zk_S] at hyp
    split at hyp
    next z e =>
      rw [e] at hq
      exact lv_ldc hx hb hown (hw' hq) hdg (hyp H locs ls hP hD hS hl hL)
    next e =>
      rw [e] at hq
      have hq : (own = RX5 ∧ i = 77) ∨ (own = RX10 ∧ i = 11) := hq
      rcases hq with ⟨rfl, rfl⟩ | ⟨rfl, rfl⟩
      · exact va_ldcS hx hb hown hBg.2.2.2.2.2.1 hdg (hyp H locs ls hP hD hS hl hL)
      · exact va_ldcS hx hb hown hBg.2.2.2.2.2.2 hdg (hyp H locs ls hP hD hS hl hL)
    · exact hyp.elim
  case ldc_w i =>
    have hq := hlk i
    simp only [zk_S] at hyp
    split at hyp
    next z e =>
      rw [e] at hq
      exact lv_ldcw hx hb hown (hw' hq) hdg (hyp H locs ls hP hD hS hl hL)
    · exact hyp.elim
  case ldc2_w i =>
    have hq := hlk i
    simp only [zk_S] at hyp
    split at hyp
    next z e =>
      rw [e] at hq
      exact lv_ldc2 hx hb hown (hw' hq) hdg (hyp H locs ls hP hD hS hl hL)
    · exact hyp.elim
  case iadd => obtain ⟨x, y, r, rfl, hk⟩ := zk_p2i_s hyp; exact lv_iadd hx hb hdg (hk H locs ls hP hD hS hl hL)
  case isub => obtain ⟨x, y, r, rfl, hk⟩ := zk_p2i_s hyp; exact lv_isub hx hb hdg (hk H locs ls hP hD hS hl hL)
  case imul => obtain ⟨x, y, r, rfl, hk⟩ := zk_p2i_s hyp; exact lv_imul hx hb hdg (hk H locs ls hP hD hS hl hL)
  case iand => obtain ⟨x, y, r, rfl, hk⟩ := zk_p2i_s hyp; exact lv_iand hx hb hdg (hk H locs ls hP hD hS hl hL)
  case ior => obtain ⟨x, y, r, rfl, hk⟩ := zk_p2i_s hyp; exact lv_ior hx hb hdg (hk H locs ls hP hD hS hl hL)
  case ixor => obtain ⟨x, y, r, rfl, hk⟩ := zk_p2i_s hyp; exact lv_ixor hx hb hdg (hk H locs ls hP hD hS hl hL)
  case ishl => obtain ⟨x, y, r, rfl, hk⟩ := zk_p2i_s hyp; exact lv_ishl hx hb hdg (hk H locs ls hP hD hS hl hL)
  case ishr => obtain ⟨x, y, r, rfl, hk⟩ := zk_p2i_s hyp; exact lv_ishr hx hb hdg (hk H locs ls hP hD hS hl hL)
  case iushr => obtain ⟨x, y, r, rfl, hk⟩ := zk_p2i_s hyp; exact lv_iushr hx hb hdg rfl (hk H locs ls hP hD hS hl hL)
  case ineg => obtain ⟨x, r, rfl, hk⟩ := zk_p1i_s hyp; exact lv_ineg hx hb hdg (hk H locs ls hP hD hS hl hL)
  case idiv => obtain ⟨x, y, r, rfl, hy, hk⟩ := zk_p2i_s hyp; exact lv_idiv hx hb hdg hy (hk H locs ls hP hD hS hl hL)
  case irem => obtain ⟨x, y, r, rfl, hy, hk⟩ := zk_p2i_s hyp; exact lv_irem hx hb hdg hy (hk H locs ls hP hD hS hl hL)
  case ladd => obtain ⟨x, y, r, rfl, hk⟩ := zk_p2l_s hyp; exact lv_ladd hx hb hdg (hk H locs ls hP hD hS hl hL)
  case lmul => obtain ⟨x, y, r, rfl, hk⟩ := zk_p2l_s hyp; exact lv_lmul hx hb hdg (hk H locs ls hP hD hS hl hL)
  case land => obtain ⟨x, y, r, rfl, hk⟩ := zk_p2l_s hyp; exact lv_land hx hb hdg (hk H locs ls hP hD hS hl hL)
  case lor => obtain ⟨x, y, r, rfl, hk⟩ := zk_p2l_s hyp; exact lv_lor hx hb hdg (hk H locs ls hP hD hS hl hL)
  case lshl => obtain ⟨x, y, r, rfl, hk⟩ := zk_pli_s hyp; exact lv_lshl hx hb hdg rfl (hk H locs ls hP hD hS hl hL)
  case lcmp => obtain ⟨x, y, r, rfl, hk⟩ := zk_p2l_s hyp; exact W.lcmp hx hb hdg (hk H locs ls hP hD hS hl hL)
  case i2l => obtain ⟨x, r, rfl, hk⟩ := zk_p1i_s hyp; exact lv_i2l hx hb hdg rfl (hk H locs ls hP hD hS hl hL)
  case l2i => obtain ⟨x, r, rfl, hk⟩ := zk_p1l_s hyp; exact lv_l2i hx hb hdg rfl (hk H locs ls hP hD hS hl hL)
  case i2b => obtain ⟨x, r, rfl, hk⟩ := zk_p1i_s hyp; exact lv_i2b hx hb hdg rfl (hk H locs ls hP hD hS hl hL)
  case i2s => obtain ⟨x, r, rfl, hk⟩ := zk_p1i_s hyp; exact lv_i2s hx hb hdg rfl (hk H locs ls hP hD hS hl hL)
  case i2c => obtain ⟨x, r, rfl, hk⟩ := zk_p1i_s hyp; exact lv_i2c hx hb hdg rfl (hk H locs ls hP hD hS hl hL)
  case dup =>
    obtain ⟨v, r, rfl, hk⟩ := zk_pv_s hyp
    obtain ⟨hv, hk⟩ := zk_bif hk
    exact lv_dup hx hb hdg (by rw [zk_cv_cat]; exact Nat.eq_of_beq_eq_true hv) (hk H locs ls hP hD hS hl hL)
  case pop =>
    obtain ⟨v, r, rfl, hk⟩ := zk_pv_s hyp
    obtain ⟨hv, hk⟩ := zk_bif hk
    exact lv_pop hx hb hdg (by rw [zk_cv_cat]; exact Nat.eq_of_beq_eq_true hv) (hk H locs ls hP hD hS hl hL)
  case dup_x1 =>
    obtain ⟨v, r, rfl, hk⟩ := zk_pv_s hyp
    obtain ⟨u, r, rfl, hk⟩ := zk_pv_s hk
    obtain ⟨hv, hk⟩ := zk_bif hk
    simp only [Bool.and_eq_true, Nat.beq_eq] at hv
    exact lv_dup_x1 hx hb hdg (by rw [zk_cv_cat]; exact hv.1) (by rw [zk_cv_cat]; exact hv.2) (hk H locs ls hP hD hS hl hL)
  case dup2 =>
    obtain ⟨v, r, rfl, hk⟩ := zk_pv_s hyp
    obtain ⟨u, r, rfl, hk⟩ := zk_pv_s hk
    obtain ⟨hv, hk⟩ := zk_bif hk
    simp only [Bool.and_eq_true, Nat.beq_eq] at hv
    exact lv_dup2_11 hx hb hdg (by rw [zk_cv_cat]; exact hv.1) (by rw [zk_cv_cat]; exact hv.2) (hk H locs ls hP hD hS hl hL)
  case goto o =>
    obtain ⟨t, ht, hk⟩ := zk_j_s hyp
    exact lv_goto hx hb hdg ht (hk H locs ls hP hD hS hl hL)
  case ifCond cd o =>
    obtain ⟨x, r, rfl, hk⟩ := zk_p1i_s hyp
    obtain ⟨t, ht, hk⟩ := zk_j_s hk
    cases cd
    · exact lv_if_eq hx hb hdg ht (fun q => hk.1 q H locs ls hP hD hS hl hL) (fun q => hk.2 q H locs ls hP hD hS hl hL)
    · exact lv_if_ne hx hb hdg ht (fun q => hk.1 q H locs ls hP hD hS hl hL) (fun q => hk.2 q H locs ls hP hD hS hl hL)
    · exact lv_if_lt hx hb hdg ht (fun q => hk.1 q H locs ls hP hD hS hl hL) (fun q => hk.2 q H locs ls hP hD hS hl hL)
    · exact lv_if_ge hx hb hdg ht (fun q => hk.1 q H locs ls hP hD hS hl hL) (fun q => hk.2 q H locs ls hP hD hS hl hL)
    · exact lv_if_gt hx hb hdg ht (fun q => hk.1 q H locs ls hP hD hS hl hL) (fun q => hk.2 q H locs ls hP hD hS hl hL)
    · exact lv_if_le hx hb hdg ht (fun q => hk.1 q H locs ls hP hD hS hl hL) (fun q => hk.2 q H locs ls hP hD hS hl hL)
  case if_icmp cd o =>
    obtain ⟨x, y, r, rfl, hk⟩ := zk_p2i_s hyp
    obtain ⟨t, ht, hk⟩ := zk_j_s hk
    cases cd
    · exact lv_icmp_eq hx hb hdg ht (fun q => hk.1 q H locs ls hP hD hS hl hL) (fun q => hk.2 q H locs ls hP hD hS hl hL)
    · exact lv_icmp_ne hx hb hdg ht (fun q => hk.1 q H locs ls hP hD hS hl hL) (fun q => hk.2 q H locs ls hP hD hS hl hL)
    · exact lv_icmp_lt hx hb hdg ht (fun q => hk.1 q H locs ls hP hD hS hl hL) (fun q => hk.2 q H locs ls hP hD hS hl hL)
    · exact lv_icmp_ge hx hb hdg ht (fun q => hk.1 q H locs ls hP hD hS hl hL) (fun q => hk.2 q H locs ls hP hD hS hl hL)
    · exact lv_icmp_gt hx hb hdg ht (fun q => hk.1 q H locs ls hP hD hS hl hL) (fun q => hk.2 q H locs ls hP hD hS hl hL)
    · exact lv_icmp_le hx hb hdg ht (fun q => hk.1 q H locs ls hP hD hS hl hL) (fun q => hk.2 q H locs ls hP hD hS hl hL)
  case ifnull o =>
    obtain ⟨t, ht, hk⟩ := zk_j_s hyp
    split at hk
    · exact lv_ifnullN hx hb hdg ht (hk H locs ls hP hD hS hl hL)
    · exact lv_ifnull hx hb hdg (hk H locs ls hP hD hS hl hL)
    · exact lv_ifnull hx hb hdg (hk H locs ls hP hD hS hl hL)
    · exact hk.elim
  case ifnonnull o =>
    obtain ⟨t, ht, hk⟩ := zk_j_s hyp
    split at hk
    · exact lv_ifnonnullN hx hb hdg (hk H locs ls hP hD hS hl hL)
    · exact lv_ifnonnull hx hb hdg ht (hk H locs ls hP hD hS hl hL)
    · exact lv_ifnonnull hx hb hdg ht (hk H locs ls hP hD hS hl hL)
    · exact hk.elim
  case tableswitch dd lo hi os =>
    obtain ⟨x, r, rfl, hk⟩ := zk_p1i_s hyp
    obtain ⟨hv, hk⟩ := zk_bif hk
    simp only [Bool.and_eq_true, decide_eq_true_eq] at hv
    rcases zk_sw_s os.toList lo hv.1.1 hv.1.2 hk with ⟨o, g1, g2, g3⟩ | ⟨g1, g2⟩
    · obtain ⟨t, ht, hk⟩ := zk_j_s g3
      have hlt := (List.getElem?_eq_some_iff.mp g2).1
      exact lv_tableIn hx hb hdg g1 (by omega) (by rw [← Array.getElem?_toList]; exact g2) ht (hk H locs ls hP hD hS hl hL)
    · obtain ⟨t, ht, hk⟩ := zk_j_s g2
      exact lv_tableOut hx hb hdg (by omega) ht (hk H locs ls hP hD hS hl hL)
  case lookupswitch dd ps =>
    obtain ⟨x, r, rfl, hk⟩ := zk_p1i_s hyp
    obtain ⟨hv, hk⟩ := zk_bif hk
    simp only [Bool.and_eq_true] at hv
    have hk := zk_lsw_s ps.toList (fun q hq => by simpa using List.all_eq_true.mp hv.2 q hq) hk
    obtain ⟨t, ht, hk⟩ := zk_j_s hk
    exact lv_lookup hx hb hdg hv.1 rfl ht (hk H locs ls hP hD hS hl hL)
  case getfield i =>
    obtain ⟨v, r, rfl, hk⟩ := zk_pv_s hyp
    have hq := hlk i
    rw [List.map_cons]
    split at hk
    next cc jj z e1 =>
      rw [e1] at hq
      simp only [zk_lk1] at hq
      obtain ⟨a, g1, g2, g3⟩ := zk_iso_s (E := E) hk
      obtain ⟨q, q1, q2, q3, q4, q5⟩ := zk_fo_s hq
      rw [g1]
      refine zk_getf Fx hcl q1 q2 q3 hP g2 hdg ?_
      rw [show zk_fv E w h a (zk_ty cc) jj = .int (h.1 a jj) by simp [zk_fv, q4, zk_isr]]
      exact g3 H locs ls hP hD hS hl hL
    next cc jj z e1 =>
      rw [e1] at hq
      simp only [zk_lk1] at hq
      obtain ⟨a, g1, g2, g3⟩ := zk_iso_s (E := E) hk
      obtain ⟨q, q1, q2, q3, q4, q5⟩ := zk_fo_s hq
      rw [g1]
      refine zk_getf Fx hcl q1 q2 q3 hP g2 hdg ?_
      rw [show zk_fv E w h a (zk_ty cc) jj = .int (h.1 a jj) by simp [zk_fv, q4, zk_isr]]
      exact g3 H locs ls hP hD hS hl hL
    next cc jj z e1 =>
      rw [e1] at hq
      simp only [zk_lk1] at hq
      obtain ⟨a, g1, g2, g3⟩ := zk_iso_s (E := E) hk
      obtain ⟨q, q1, q2, q3, q4⟩ := zk_fo_s hq
      rw [g1]
      refine zk_getf Fx hcl q1 q2 q3 hP g2 hdg ?_
      rw [show zk_fv E w h a (zk_ty cc) jj = va_rf ((w.2 a jj).map E.2.2) by simp [zk_fv, q4]]
      split at g3
      · have g3 := g3 H locs ls hP hD hS hl hL
        rw [List.map_cons, zk_cv_rf] at g3
        exact g3
      · obtain ⟨b, eb, g3⟩ := g3
        rw [eb]
        exact g3 H locs ls hP hD hS hl hL
    next e1 =>
      rw [e1] at hq
      simp only [zk_lk1] at hq
      split at hk
      next a =>
        obtain ⟨g1, g2⟩ := zk_bif hk
        simp only [Nat.beq_eq] at g1
        subst g1
        exact vk_getf hx hb hBg.2.2.2.2.1 hS hown (hw' hq) (fun _ h9 => h9) hdg (g2 H locs ls hP hD hS hl hL)
      · exact hk.elim
    next e1 =>
      rw [e1] at hq
      simp only [zk_lk1] at hq
      split at hk
      next a =>
        obtain ⟨g1, g2⟩ := zk_bif hk
        simp only [Nat.beq_eq] at g1
        subst g1
        exact vk_getf hx hb hBg.2.2.2.1 hS hown (hw' hq) (fun _ h9 => h9) hdg (g2 H locs ls hP hD hS hl hL)
      · exact hk.elim
    · exact hk.elim
  case putfield i =>
    obtain ⟨x, v, r, rfl, hk⟩ := zk_piv_s hyp
    have hq := hlk i
    rw [List.map_cons, List.map_cons]
    split at hk
    next cc jj z e1 =>
      rw [e1] at hq
      simp only [zk_lk1] at hq
      obtain ⟨a, g1, g2, g3⟩ := zk_iso_s (E := E) hk
      obtain ⟨q, q1, q2, q3, q4, q5⟩ := zk_fo_s hq
      rw [g1]
      exact zk_putf Fx hcl q1 q2 q3 q5 (by rw [q4]; rfl) (by rw [q4]; rfl) (by rw [q4]; rfl) hP hD hS g2 hdg (fun H1 locs1 hP1 hD1 hS1 => g3 H1 locs1 ls hP1 hD1 hS1 hl hL)
    next cc jj z e1 =>
      rw [e1] at hq
      simp only [zk_lk1] at hq
      obtain ⟨a, g1, g2, g4, g3⟩ := zk_iso_s (E := E) hk
      obtain ⟨q, q1, q2, q3, q4, q5⟩ := zk_fo_s hq
      rw [g1]
      exact zk_putf Fx hcl q1 q2 q3 q5 (by rw [q4]; rfl) (by rw [q4]; rcases g4 with rfl | rfl <;> rfl) (by rw [q4]; rcases g4 with rfl | rfl <;> rfl) hP hD hS g2 hdg (fun H1 locs1 hP1 hD1 hS1 => g3 H1 locs1 ls hP1 hD1 hS1 hl hL)
    · exact hk.elim
  case getstatic i =>
    have hq := hlk i
    simp only [zk_S] at hyp
    split at hyp
    next a1 z1 z2 e1 =>
      rw [e1] at hq
      simp only [zk_lk1] at hq
      obtain ⟨q, q1, hk⟩ := zk_on_s hyp
      rw [q1] at hq
      exact va_gets hx hb (hBg.2.1 q (List.mem_of_getElem? q1)) hS hown (hw' hq) (fun _ h9 => h9) hdg (hk H locs ls hP hD hS hl hL)
    · exact hyp.elim
  case iaload =>
    obtain ⟨i, v, r, rfl, hk⟩ := zk_pia_s hyp
    have key : ∀ {v : Value}, zk_isa w v 0 (fun a n => vp_in i n ∧ zk_Z p l e d s m args below meth c w E nL Q (pc + 1) L (.int (h.1 a i.toNatClampNeg) :: r) h) → W p l e (zk_rm (d + 1)) s m args below meth c H locs 0 0 (MQ below (zk_QX w E Q (zk_A E w.1.length s.heap.size)) args s 0 0 (zk_A E w.1.length s.heap.size)) (F0 m pc ls ((.int i :: v :: r).map (zk_cv E))) := by
      intro v hk
      obtain ⟨a, n, g1, g2, g3, g4⟩ := zk_isa_s (E := E) hk
      rw [List.map_cons, List.map_cons, g1]
      exact va_iald hx hb hK hP a 0 (zk_arri g2) rfl g3 hdg (g4 H locs ls hP hD hS hl hL)
    split at hk
    next a =>
      cases hb2 : Nat.blt a 1000 with
      | true =>
        rw [hb2] at hk
        exact key hk
      | false =>
        rw [hb2, cond_false] at hk
        generalize hro : zk_rom[a - 1000]? = o at hk
        obtain ⟨q, q1, hk⟩ := zk_on_s hk
        rw [q1] at hro
        obtain ⟨q2, q3, q4⟩ := zk_bif hk
        have q2 : q.1 = .int := of_decide_eq_true q2
        have ha : 1000 ≤ a := by
          rcases Nat.lt_or_ge a 1000 with z | z
          · rw [Nat.blt_eq.mpr z] at hb2; cases hb2
          · exact z
        have hT := hBg.1 (a - 1000) q hro
        rw [show 1000 + (a - 1000) = a from Nat.add_sub_of_le ha, q2] at hT
        exact va_ti hx hb hT hS q3 rfl hdg (q4 H locs ls hP hD hS hl hL)
    next => exact key hk
  case baload =>
    obtain ⟨i, v, r, rfl, hk⟩ := zk_pia_s hyp
    split at hk
    next a =>
      obtain ⟨g1, g2, g3⟩ := zk_bif hk
      simp only [Nat.beq_eq] at g1
      subst g1
      exact va_tb hx hb (hBg.1 4 _ rfl) hS g2 rfl hdg (g3 H locs ls hP hD hS hl hL)
    · exact hk.elim
  case laload =>
    obtain ⟨i, v, r, rfl, hk⟩ := zk_pia_s hyp
    obtain ⟨a, n, g1, g2, g3, g4⟩ := zk_isa_s (E := E) hk
    rw [List.map_cons, List.map_cons, g1]
    exact va_lald hx hb hK hP a 1 (zk_arrl g2) rfl g3 hdg (g4 H locs ls hP hD hS hl hL)
  case aaload =>
    obtain ⟨i, v, r, rfl, hk⟩ := zk_pia_s hyp
    rw [List.map_cons, List.map_cons]
    split at hk
    · obtain ⟨a, n, g1, g2, g3, g4⟩ := zk_isa_s (E := E) hk
      rw [g1]
      refine zk_aald hx hb hK hP a 3 (zk_w_get g2) rfl rfl g3 hdg ?_
      have g4 := g4 H locs ls hP hD hS hl hL
      rw [List.map_cons, zk_cv_rf] at g4
      exact g4
    · obtain ⟨a, n, g1, g2, g3, b, eb, g4⟩ := zk_isa_s (E := E) hk
      rw [g1]
      refine zk_aald hx hb hK hP a 3 (zk_w_get g2) rfl rfl g3 hdg ?_
      rw [eb]
      exact g4 H locs ls hP hD hS hl hL
    · obtain ⟨a, n, g1, g2, g3, b, eb, g4⟩ := zk_isa_s (E := E) hk
      rw [g1]
      refine zk_aald hx hb hK hP a 2 (zk_w_get g2) rfl rfl g3 hdg ?_
      rw [eb]
      exact g4 H locs ls hP hD hS hl hL
  case iastore =>
    obtain ⟨x, i, v, r, rfl, hk⟩ := zk_piia_s hyp
    obtain ⟨a, n, g1, g2, g3, g4⟩ := zk_isa_s (E := E) hk
    rw [List.map_cons, List.map_cons, List.map_cons, g1]
    refine va_iast hx hb hK hP hD hS a 0 (zk_arri g2) rfl g3 hdg (fun H1 locs1 hP1 hD1 hS1 => ?_)
    rw [zk_seti (E := E) (h := h) (f := upd (h.1 a) i.toNatClampNeg x) (h' := zk_si h a i.toNatClampNeg x) g2 (funext fun z => by simp [zk_si, upd]) (fun b hb => ⟨funext fun z => by simp [zk_si, hb], rfl⟩)] at hP1 hD1
    exact g4 H1 locs1 ls hP1 hD1 hS1 hl hL
  case lastore =>
    obtain ⟨x, i, v, r, rfl, hk⟩ := zk_plia_s hyp
    obtain ⟨a, n, g1, g2, g3, g4⟩ := zk_isa_s (E := E) hk
    rw [List.map_cons, List.map_cons, List.map_cons, g1]
    refine va_last hx hb hK hP hD hS a 1 (zk_arrl g2) rfl g3 hdg (fun H1 locs1 hP1 hD1 hS1 => ?_)
    rw [zk_setl (E := E) (h := h) (f := vp_updL (h.2 a) i.toNatClampNeg x) (h' := zk_sl h a i.toNatClampNeg x) g2 (funext fun z => by simp [zk_sl, vp_updL]) (fun b hb => ⟨rfl, funext fun z => by simp [zk_sl, hb]⟩)] at hP1 hD1
    exact g4 H1 locs1 ls hP1 hD1 hS1 hl hL
  case arraylength =>
    obtain ⟨v, r, rfl, hk⟩ := zk_pv_s hyp
    have key : ∀ {a kd n : Nat}, kd < 2 → w.1[a]? = some (kd, n) → zk_Z p l e d s m args below meth c w E nL Q (pc + 1) L (.int (Int32.ofNat n) :: r) h → W p l e (zk_rm (d + 1)) s m args below meth c H locs 0 0 (MQ below (zk_QX w E Q (zk_A E w.1.length s.heap.size)) args s 0 0 (zk_A E w.1.length s.heap.size)) (F0 m pc ls (.ref (E.2.2 a) :: r.map (zk_cv E))) := by
      intro a kd n h1 h2 h3
      match kd, h1, h2 with
      | 0, _, h2 => exact va_alen hx hb hK hP a 0 (zk_arri h2) rfl rfl hdg (h3 H locs ls hP hD hS hl hL)
      | 1, _, h2 => exact va_alen hx hb hK hP a 1 (zk_arrl h2) rfl rfl hdg (h3 H locs ls hP hD hS hl hL)
      | k + 2, h1, _ => omega
    split at hk
    next a =>
      split at hk
      next s1 es =>
        obtain ⟨g1, g2⟩ := zk_bif hk
        exact key (Nat.blt_eq.mp g1) es g2
      · obtain ⟨g1, g2⟩ := zk_bif hk
        simp only [Nat.beq_eq] at g1
        subst g1
        exact va_tlen hx hb (hBg.1 4 _ rfl) hS rfl hdg (g2 H locs ls hP hD hS hl hL)
    next a =>
      obtain ⟨kd, n, g1, g2, g3⟩ := hk
      exact key g1 g2 g3
    · exact hk.elim
  case ireturn =>
    simp only [zk_S] at hyp
    split at hyp
    next v =>
      have fin : Q.1 v h → ∀ t : State, t.heap = H → s.WarmedH t.vm → zk_QX w E Q (zk_A E w.1.length s.heap.size) args s (.returned (some (.int v))) t := fun hq t ht _ => ⟨⟨some (.int v), h, rfl, hq, by rw [ht]; exact hP, hD⟩, hS.F ht⟩
      split at hyp
      next e1 => exact W.iret hx hb (by rw [hr]; exact e1) (fin hyp) hS.2.2 hdg
      next e1 => exact W.zret hx hb (by rw [hr]; exact e1) (by rcases hyp.1 with rfl | rfl <;> rfl) (fin hyp.2) hS.2.2 hdg
      next e1 => exact W.zret hx hb (by rw [hr]; exact e1) (by show Value.int _ = _; rw [hyp.1]) (fin hyp.2) hS.2.2 hdg
      · exact hyp.elim
    · exact hyp.elim
  case lreturn =>
    simp only [zk_S] at hyp
    split at hyp
    next v =>
      split at hyp
      next e1 => exact W.lret hx hb (by rw [hr]; exact e1) (fun t ht _ => ⟨⟨some (.long v), h, rfl, hyp, by rw [ht]; exact hP, hD⟩, hS.F ht⟩) hS.2.2 hdg
      · exact hyp.elim
    · exact hyp.elim
  case return_ =>
    simp only [zk_S] at hyp
    split at hyp
    next =>
      split at hyp
      next e1 => exact W.vret hx hb (by rw [hr]; exact e1) (fun t ht _ => ⟨⟨none, h, rfl, hyp, by rw [ht]; exact hP, hD⟩, hS.F ht⟩) hS.2.2 hdg
      · exact hyp.elim
    · exact hyp.elim
  case areturn =>
    simp only [zk_S] at hyp
    split at hyp
    next v =>
      split at hyp
      next e1 =>
        obtain ⟨v', r', ev, hq, hv, hcat⟩ := zk_pr_s (E := E) hyp
        cases ev
        refine W.aret hx hb (by rw [hr]; exact e1) (Or.inl ⟨_, rfl⟩) hv (fun t ht _ => ⟨⟨some v, h, rfl, ?_, by rw [ht]; exact hP, hD⟩, hS.F ht⟩) hS.2.2 hdg
        cases v
        case int => rcases hv with hv | ⟨_, hv⟩ <;> cases hv
        case long => rcases hv with hv | ⟨_, hv⟩ <;> cases hv
        all_goals exact hq
      · exact hyp.elim
    · exact hyp.elim
  case invokestatic i =>
    have hq := hlk i
    simp only [zk_S] at hyp
    split at hyp
    next a1 z1 z2 e1 =>
      rw [e1] at hq
      simp only [zk_lk1] at hq
      rcases hmt a1 with hm | hm
      · exact zk_goS Fx hn0 hm hq (hcx a1) hd hdg hyp H locs ls hP hD hS hl hL
      · exact (hm _ _ _ (zk_bif hyp).2).elim
    next e1 =>
      rw [e1] at hq
      simp only [zk_lk1] at hq
      obtain ⟨x, y, r, rfl, hk⟩ := zk_p2i_s hyp
      obtain ⟨g1, g2⟩ := zk_bif hk
      have g1 := Nat.le_of_ble_eq_true g1
      exact va_mmax hx hb hlsz hown (hw' hq) (hw' hjdk.1.1) (hw' hjdk.1.2.2.2.2) (hw' hjdk.1.2.1) (Nat.le_add_left 1 d) (by rw [zk_cats_cv]; show _ ≤ 40 * (d + 1); omega) (Nat.le_refl _) (Nat.le_refl _) hdg (g2 H locs ls hP hD hS hl hL)
    next e1 =>
      rw [e1] at hq
      simp only [zk_lk1] at hq
      obtain ⟨x, y, r, rfl, hk⟩ := zk_p2i_s hyp
      obtain ⟨g1, g2⟩ := zk_bif hk
      have g1 := Nat.le_of_ble_eq_true g1
      exact va_mmin hx hb hlsz hown (hw' hq) (hw' hjdk.1.2.2.1) (hw' hjdk.1.2.2.2.2) (hw' hjdk.1.2.2.2.1) (Nat.le_add_left 1 d) (by rw [zk_cats_cv]; show _ ≤ 40 * (d + 1); omega) (Nat.le_refl _) (Nat.le_refl _) hdg (g2 H locs ls hP hD hS hl hL)
    next e1 =>
      rw [e1] at hq
      simp only [zk_lk1] at hq
      split at hyp
      next n dp v sp u =>
        split at hyp
        · obtain ⟨a0, n0, f1, f2, f3⟩ := zk_isa_s (E := E) hyp
          obtain ⟨a, n1, g1, g2, ⟨k1, k2, k3, k4, k5⟩, g4⟩ := zk_isa_s (E := E) f3
          rw [List.map_cons, List.map_cons, List.map_cons, List.map_cons, List.map_cons, f1, g1]
          refine va_copyi hx hb hlsz hown (hw' hq) (hw' hjdk.2.1) (hw' hjdk.2.2.1) (hw' hjdk.2.2.2) hK hP hD hS a0 a 0 0 (ty := .int) (zk_arri f2) (zk_arri g2) rfl rfl rfl k1 k2 k3 k4 k5 (fun _ _ => rfl) (Nat.le_add_left 1 d) (by show 0 + (nativeFrameWords "java/lang/System" "arraycopy" 5 + 11) ≤ 40 * (d + 1); exact Nat.le_trans (show _ ≤ 40 by decide +kernel) (by omega)) hdg (fun H1 locs1 hP1 hD1 hS1 => ?_)
          rw [zk_seti (E := E) (h := h) (f := va_cpy (h.1 a0) (h.1 a) sp.toNatClampNeg dp.toNatClampNeg n.toNatClampNeg) (h' := zk_wi h a (va_cpy (h.1 a0) (h.1 a) sp.toNatClampNeg dp.toNatClampNeg n.toNatClampNeg)) g2 (funext fun z => by simp [zk_wi]) (fun b hb => ⟨funext fun z => by simp [zk_wi, hb], rfl⟩)] at hP1 hD1
          exact g4 H1 locs1 ls hP1 hD1 hS1 hl hL
        · obtain ⟨a0, n0, f1, f2, f3⟩ := zk_isa_s (E := E) hyp
          obtain ⟨a, n1, g1, g2, ⟨k1, k2, k3, k4, k5⟩, g4⟩ := zk_isa_s (E := E) f3
          rw [List.map_cons, List.map_cons, List.map_cons, List.map_cons, List.map_cons, f1, g1]
          refine va_copyl hx hb hlsz hown (hw' hq) (hw' hjdk.2.1) (hw' hjdk.2.2.1) (hw' hjdk.2.2.2) hK hP hD hS a0 a 1 1 (ty := .long) (zk_arrl f2) (zk_arrl g2) rfl rfl rfl k1 k2 k3 k4 k5 (fun _ _ => rfl) (Nat.le_add_left 1 d) (by show 0 + (nativeFrameWords "java/lang/System" "arraycopy" 5 + 11) ≤ 40 * (d + 1); exact Nat.le_trans (show _ ≤ 40 by decide +kernel) (by omega)) hdg (fun H1 locs1 hP1 hD1 hS1 => ?_)
          rw [zk_setl (E := E) (h := h) (f := va_cpy (h.2 a0) (h.2 a) sp.toNatClampNeg dp.toNatClampNeg n.toNatClampNeg) (h' := zk_wl h a (va_cpy (h.2 a0) (h.2 a) sp.toNatClampNeg dp.toNatClampNeg n.toNatClampNeg)) g2 (funext fun z => by simp [zk_wl]) (fun b hb => ⟨rfl, funext fun z => by simp [zk_wl, hb]⟩)] at hP1 hD1
          exact g4 H1 locs1 ls hP1 hD1 hS1 hl hL
      · exact hyp.elim
    · exact hyp.elim
  case invokevirtual i =>
    have hq := hlk i
    simp only [zk_S] at hyp
    split at hyp
    next a1 z1 z2 e1 =>
      rw [e1] at hq
      simp only [zk_lk1] at hq
      rcases hmt a1 with hm | hm
      · exact zk_goV Fx hn0 hm hq (hcx a1) hd hdg hyp H locs ls hP hD hS hl hL
      · obtain ⟨-, hyp⟩ := zk_bif hyp
        unfold zk_recv at hyp
        split at hyp
        next v vs ev =>
          cases hb3 : Nat.blt (mt a1).2.2 100 with
          | true =>
            rw [hb3] at hyp
            obtain ⟨-, -, -, hyp⟩ := zk_iso_s (E := E) (show zk_iso w v _ _ from hyp)
            exact (hm _ _ _ hyp).elim
          | false =>
            rw [hb3] at hyp
            simp only [cond_false] at hyp
            split at hyp
            · exact (hm _ _ _ (zk_bif hyp).2).elim
            · exact hyp.elim
        · exact hyp.elim
    · exact hyp.elim
  all_goals exact (hyp : False).elim
end ZKS
