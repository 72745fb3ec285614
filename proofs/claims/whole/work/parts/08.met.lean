/-! FROM THE SMALL MACHINE TO CONTRACTS -/
def zk_le (Q Q' : zk_Q) : Prop := (∀ x h, Q.1 x h → Q'.1 x h) ∧ (∀ x h, Q.2.1 x h → Q'.2.1 x h) ∧ (∀ x h, Q.2.2.1 x h → Q'.2.2.1 x h) ∧ (∀ x h, Q.2.2.2 x h → Q'.2.2.2 x h)
def zk_Mono (P : zk_P) : Prop := ∀ as h Q Q', zk_le Q Q' → P as h Q → P as h Q'
theorem zk_on_m {α : Type} {o : Option α} {f g : α → Prop} (m : ∀ a, f a → g a) (h : zk_on o f) : zk_on o g := by
  cases o with
  | none => exact h
  | some a => exact m a h
theorem zk_p1i_m {st : List Value} {k k' : Int32 → List Value → Prop} (m : ∀ x r, k x r → k' x r) (h : zk_p1i st k) : zk_p1i st k' := by
  obtain ⟨x, r, rfl, h⟩ := zk_p1i_s h; exact m _ _ h
theorem zk_p2i_m {st : List Value} {k k' : Int32 → Int32 → List Value → Prop} (m : ∀ x y r, k x y r → k' x y r) (h : zk_p2i st k) : zk_p2i st k' := by
  obtain ⟨x, y, r, rfl, h⟩ := zk_p2i_s h; exact m _ _ _ h
theorem zk_p1l_m {st : List Value} {k k' : Int64 → List Value → Prop} (m : ∀ x r, k x r → k' x r) (h : zk_p1l st k) : zk_p1l st k' := by
  obtain ⟨x, r, rfl, h⟩ := zk_p1l_s h; exact m _ _ h
theorem zk_p2l_m {st : List Value} {k k' : Int64 → Int64 → List Value → Prop} (m : ∀ x y r, k x y r → k' x y r) (h : zk_p2l st k) : zk_p2l st k' := by
  obtain ⟨x, y, r, rfl, h⟩ := zk_p2l_s h; exact m _ _ _ h
theorem zk_pli_m {st : List Value} {k k' : Int64 → Int32 → List Value → Prop} (m : ∀ x y r, k x y r → k' x y r) (h : zk_pli st k) : zk_pli st k' := by
  obtain ⟨x, y, r, rfl, h⟩ := zk_pli_s h; exact m _ _ _ h
theorem zk_pia_m {st : List Value} {k k' : Int32 → Value → List Value → Prop} (m : ∀ x y r, k x y r → k' x y r) (h : zk_pia st k) : zk_pia st k' := by
  obtain ⟨x, y, r, rfl, h⟩ := zk_pia_s h; exact m _ _ _ h
theorem zk_piia_m {st : List Value} {k k' : Int32 → Int32 → Value → List Value → Prop} (m : ∀ x y z r, k x y z r → k' x y z r) (h : zk_piia st k) : zk_piia st k' := by
  obtain ⟨x, y, z, r, rfl, h⟩ := zk_piia_s h; exact m _ _ _ _ h
theorem zk_plia_m {st : List Value} {k k' : Int64 → Int32 → Value → List Value → Prop} (m : ∀ x y z r, k x y z r → k' x y z r) (h : zk_plia st k) : zk_plia st k' := by
  obtain ⟨x, y, z, r, rfl, h⟩ := zk_plia_s h; exact m _ _ _ _ h
theorem zk_pv_m {st : List Value} {k k' : Value → List Value → Prop} (m : ∀ x r, k x r → k' x r) (h : zk_pv st k) : zk_pv st k' := by
  obtain ⟨x, r, rfl, h⟩ := zk_pv_s h; exact m _ _ h
theorem zk_piv_m {st : List Value} {k k' : Int32 → Value → List Value → Prop} (m : ∀ x y r, k x y r → k' x y r) (h : zk_piv st k) : zk_piv st k' := by
  obtain ⟨x, y, r, rfl, h⟩ := zk_piv_s h; exact m _ _ _ h
theorem zk_pr_m {st : List Value} {k k' : Value → List Value → Prop} (m : ∀ x r, k x r → k' x r) (h : zk_pr st k) : zk_pr st k' := by
  unfold zk_pr at h ⊢
  split at h
  · exact m _ _ h
  · exact m _ _ h
  · exact m _ _ h
  · exact h.elim
theorem zk_lr_m {o : Option Value} {k k' : Value → Prop} (m : ∀ x, k x → k' x) (h : zk_lr o k) : zk_lr o k' := by
  unfold zk_lr at h ⊢
  split at h
  · exact m _ h
  · exact m _ h
  · exact m _ h
  · exact h.elim
theorem zk_li_m {o : Option Value} {k k' : Int32 → Prop} (m : ∀ x, k x → k' x) (h : zk_li o k) : zk_li o k' := by
  obtain ⟨x, rfl, h⟩ := zk_li_s h; exact m _ h
theorem zk_ll_m {o : Option Value} {k k' : Int64 → Prop} (m : ∀ x, k x → k' x) (h : zk_ll o k) : zk_ll o k' := by
  obtain ⟨x, rfl, h⟩ := zk_ll_s h; exact m _ h
theorem zk_j_m {pc : Nat} {o : Int} {k k' : Nat → Prop} (m : ∀ x, k x → k' x) (h : zk_j pc o k) : zk_j pc o k' := by
  unfold zk_j at h ⊢
  split at h
  · exact m _ h
  · exact h.elim
theorem zk_bif_m {b : Bool} {P P' : Prop} (m : P → P') (h : bif b then P else False) : bif b then P' else False := by
  cases b with
  | true => exact m h
  | false => exact h
theorem zk_iso_m {w : zk_Wd} {v : Value} {c : Nat} {k k' : Nat → Prop} (m : ∀ x, k x → k' x) (h : zk_iso w v c k) : zk_iso w v c k' := by
  unfold zk_iso at h ⊢
  split at h
  · split at h
    · exact zk_bif_m (m _) h
    · exact h.elim
  · exact ⟨h.1, m _ h.2⟩
  · exact h.elim
theorem zk_isa_m {w : zk_Wd} {v : Value} {c : Nat} {k k' : Nat → Nat → Prop} (m : ∀ x n, k x n → k' x n) (h : zk_isa w v c k) : zk_isa w v c k' := by
  unfold zk_isa at h ⊢
  split at h
  · split at h
    · exact zk_bif_m (m _ _) h
    · exact h.elim
  · obtain ⟨n, h1, h2⟩ := h
    exact ⟨n, h1, m _ _ h2⟩
  · exact h.elim
theorem zk_sw_m {x : Int32} {jump jump' : Int → Prop} {D D' : Prop} (m : ∀ o, jump o → jump' o) (mD : D → D') : ∀ (os : List Int) (v : Int), zk_sw x jump D v os → zk_sw x jump' D' v os
  | [], _, h => mD h
  | _ :: os, v, h => ⟨fun e => m _ (h.1 e), fun e => zk_sw_m m mD os (v + 1) (h.2 e)⟩
theorem zk_lsw_m {x : Int32} {jump jump' : Int → Prop} {D D' : Prop} (m : ∀ o, jump o → jump' o) (mD : D → D') : ∀ (os : List (Int × Int)), zk_lsw x jump D os → zk_lsw x jump' D' os
  | [], h => mD h
  | _ :: os, h => ⟨fun e => m _ (h.1 e), fun e => zk_lsw_m m mD os (h.2 e)⟩
theorem zk_if_m {c A B A' B' : Prop} (f : A → A') (g : B → B') (h : (c → A) ∧ (¬ c → B)) : (c → A') ∧ (¬ c → B') := ⟨fun q => f (h.1 q), fun q => g (h.2 q)⟩
theorem zk_if_n {c A B A' B' : Prop} (f : A → A') (g : B → B') (h : (¬ c → A) ∧ (c → B)) : (¬ c → A') ∧ (c → B') := ⟨fun q => f (h.1 q), fun q => g (h.2 q)⟩
theorem zk_cont_le {k k' : zk_K} (hk : ∀ pc L st h, k pc L st h → k' pc L st h) {pc : Nat} {L : zk_L} {r : List Value} : zk_le (zk_cont k pc L r) (zk_cont k' pc L r) := ⟨fun _ _ => hk _ _ _ _, fun _ _ => hk _ _ _ _, fun _ _ => hk _ _ _ _, fun _ _ => hk _ _ _ _⟩
section ZKM
variable {w : zk_Wd} {lk : Nat → zk_Ln} {mt : zk_Mt} {cx : Nat → zk_P} {rt : Option FieldType} {Q : zk_Q} {cd : Nat → Option (Instr × Nat)}
theorem zk_S_mono (hcx : ∀ a, zk_Mono (cx a)) {k k' : zk_K} (hk : ∀ pc L st h, k pc L st h → k' pc L st h) {ins : Instr} {md pc : Nat} {L : zk_L} {st : List Value} {h : zk_H} (hyp : zk_S w lk mt cx rt Q k ins md pc L st h) : zk_S w lk mt cx rt Q k' ins md pc L st h := by
  cases ins <;> simp only [zk_S] at hyp ⊢
  case aload_n i => exact zk_lr_m (fun _ => hk _ _ _ _) hyp
  case aload i => exact zk_lr_m (fun _ => hk _ _ _ _) hyp
  case iload_n i => exact zk_li_m (fun _ => hk _ _ _ _) hyp
  case iload i => exact zk_li_m (fun _ => hk _ _ _ _) hyp
  case lload_n i => exact zk_ll_m (fun _ => hk _ _ _ _) hyp
  case lload i => exact zk_ll_m (fun _ => hk _ _ _ _) hyp
  case istore_n i => exact zk_p1i_m (fun _ _ => zk_on_m fun _ => hk _ _ _ _) hyp
  case istore i => exact zk_p1i_m (fun _ _ => zk_on_m fun _ => hk _ _ _ _) hyp
  case astore_n i => exact zk_pr_m (fun _ _ => zk_on_m fun _ => hk _ _ _ _) hyp
  case astore i => exact zk_pr_m (fun _ _ => zk_on_m fun _ => hk _ _ _ _) hyp
  case lstore_n i => exact zk_p1l_m (fun _ _ => zk_on_m fun _ => hk _ _ _ _) hyp
  case lstore i => exact zk_p1l_m (fun _ _ => zk_on_m fun _ => hk _ _ _ _) hyp
  case iinc i n => exact zk_li_m (fun _ => zk_on_m fun _ => hk _ _ _ _) hyp
  case iconst n => exact hk _ _ _ _ hyp
  case bipush n => exact hk _ _ _ _ hyp
  case sipush n => exact hk _ _ _ _ hyp
  case lconst n => exact hk _ _ _ _ hyp
  case aconst_null => exact hk _ _ _ _ hyp
  case ldc i => split at hyp <;> first | exact hk _ _ _ _ hyp | exact hyp
  case ldc_w i => split at hyp <;> first | exact hk _ _ _ _ hyp | exact hyp
  case ldc2_w i => split at hyp <;> first | exact hk _ _ _ _ hyp | exact hyp
  case iadd => exact zk_p2i_m (fun _ _ _ => hk _ _ _ _) hyp
  case isub => exact zk_p2i_m (fun _ _ _ => hk _ _ _ _) hyp
  case imul => exact zk_p2i_m (fun _ _ _ => hk _ _ _ _) hyp
  case iand => exact zk_p2i_m (fun _ _ _ => hk _ _ _ _) hyp
  case ior => exact zk_p2i_m (fun _ _ _ => hk _ _ _ _) hyp
  case ixor => exact zk_p2i_m (fun _ _ _ => hk _ _ _ _) hyp
  case ishl => exact zk_p2i_m (fun _ _ _ => hk _ _ _ _) hyp
  case ishr => exact zk_p2i_m (fun _ _ _ => hk _ _ _ _) hyp
  case iushr => exact zk_p2i_m (fun _ _ _ => hk _ _ _ _) hyp
  case ineg => exact zk_p1i_m (fun _ _ => hk _ _ _ _) hyp
  case idiv => exact zk_p2i_m (fun _ _ _ => And.imp_right (hk _ _ _ _)) hyp
  case irem => exact zk_p2i_m (fun _ _ _ => And.imp_right (hk _ _ _ _)) hyp
  case ladd => exact zk_p2l_m (fun _ _ _ => hk _ _ _ _) hyp
  case lmul => exact zk_p2l_m (fun _ _ _ => hk _ _ _ _) hyp
  case land => exact zk_p2l_m (fun _ _ _ => hk _ _ _ _) hyp
  case lor => exact zk_p2l_m (fun _ _ _ => hk _ _ _ _) hyp
  case lshl => exact zk_pli_m (fun _ _ _ => hk _ _ _ _) hyp
  case lcmp => exact zk_p2l_m (fun _ _ _ => hk _ _ _ _) hyp
  case i2l => exact zk_p1i_m (fun _ _ => hk _ _ _ _) hyp
  case l2i => exact zk_p1l_m (fun _ _ => hk _ _ _ _) hyp
  case i2b => exact zk_p1i_m (fun _ _ => hk _ _ _ _) hyp
  case i2s => exact zk_p1i_m (fun _ _ => hk _ _ _ _) hyp
  case i2c => exact zk_p1i_m (fun _ _ => hk _ _ _ _) hyp
  case dup => exact zk_pv_m (fun _ _ => zk_bif_m (hk _ _ _ _)) hyp
  case pop => exact zk_pv_m (fun _ _ => zk_bif_m (hk _ _ _ _)) hyp
  case dup_x1 => exact zk_pv_m (fun _ _ => zk_pv_m fun _ _ => zk_bif_m (hk _ _ _ _)) hyp
  case dup2 => exact zk_pv_m (fun _ _ => zk_pv_m fun _ _ => zk_bif_m (hk _ _ _ _)) hyp
  case goto o => exact zk_j_m (fun _ => hk _ _ _ _) hyp
  case ifCond cd o =>
    refine zk_p1i_m (fun _ _ => zk_j_m fun _ => ?_) hyp
    cases cd <;> first | exact zk_if_m (hk _ _ _ _) (hk _ _ _ _) | exact zk_if_n (hk _ _ _ _) (hk _ _ _ _)
  case if_icmp cd o =>
    refine zk_p2i_m (fun _ _ _ => zk_j_m fun _ => ?_) hyp
    cases cd <;> first | exact zk_if_m (hk _ _ _ _) (hk _ _ _ _) | exact zk_if_n (hk _ _ _ _) (hk _ _ _ _)
  case ifnull o =>
    refine zk_j_m (fun _ hyp => ?_) hyp
    split at hyp <;> first | exact hk _ _ _ _ hyp | exact hyp.elim
  case ifnonnull o =>
    refine zk_j_m (fun _ hyp => ?_) hyp
    split at hyp <;> first | exact hk _ _ _ _ hyp | exact hyp.elim
  case tableswitch dd lo hi os => exact zk_p1i_m (fun _ _ => zk_bif_m (zk_sw_m (fun _ => zk_j_m fun _ => hk _ _ _ _) (zk_j_m fun _ => hk _ _ _ _) _ _)) hyp
  case lookupswitch dd ps => exact zk_p1i_m (fun _ _ => zk_bif_m (zk_lsw_m (fun _ => zk_j_m fun _ => hk _ _ _ _) (zk_j_m fun _ => hk _ _ _ _) _)) hyp
  case getfield i =>
    refine zk_pv_m (fun v _ hyp => ?_) hyp
    split at hyp
    · exact zk_iso_m (fun _ => hk _ _ _ _) hyp
    · exact zk_iso_m (fun _ => hk _ _ _ _) hyp
    · refine zk_iso_m (fun _ hyp => ?_) hyp
      split at hyp
      · exact hk _ _ _ _ hyp
      · obtain ⟨b, h1, h2⟩ := hyp
        exact ⟨b, h1, hk _ _ _ _ h2⟩
    · split at hyp
      · exact zk_bif_m (hk _ _ _ _) hyp
      · exact hyp.elim
    · split at hyp
      · exact zk_bif_m (hk _ _ _ _) hyp
      · exact hyp.elim
    · exact hyp.elim
  case putfield i =>
    refine zk_piv_m (fun _ v _ hyp => ?_) hyp
    split at hyp
    · exact zk_iso_m (fun _ => hk _ _ _ _) hyp
    · exact zk_iso_m (fun _ => And.imp_right (hk _ _ _ _)) hyp
    · exact hyp.elim
  case getstatic i =>
    split at hyp
    · exact zk_on_m (fun _ => hk _ _ _ _) hyp
    · exact hyp.elim
  case iaload =>
    refine zk_pia_m (fun _ v _ hyp => ?_) hyp
    split at hyp
    next a =>
      cases hb : Nat.blt a 1000 with
      | true =>
        rw [hb, cond_true] at hyp
        rw [cond_true]
        exact zk_isa_m (fun _ _ => And.imp_right (hk _ _ _ _)) hyp
      | false =>
        rw [hb, cond_false] at hyp
        rw [cond_false]
        generalize zk_rom[a - 1000]? = o at hyp ⊢
        exact zk_on_m (fun _ => zk_bif_m (And.imp_right (hk _ _ _ _))) hyp
    · exact zk_isa_m (fun _ _ => And.imp_right (hk _ _ _ _)) hyp
  case baload =>
    refine zk_pia_m (fun _ v _ hyp => ?_) hyp
    split at hyp
    · exact zk_bif_m (And.imp_right (hk _ _ _ _)) hyp
    · exact hyp.elim
  case laload => exact zk_pia_m (fun _ _ _ => zk_isa_m (fun _ _ => And.imp_right (hk _ _ _ _))) hyp
  case aaload =>
    refine zk_pia_m (fun _ v _ hyp => ?_) hyp
    split at hyp
    · exact zk_isa_m (fun _ _ => And.imp_right (hk _ _ _ _)) hyp
    · exact zk_isa_m (fun _ _ => And.imp_right fun ⟨b, h1, h2⟩ => ⟨b, h1, hk _ _ _ _ h2⟩) hyp
    · exact zk_isa_m (fun _ _ => And.imp_right fun ⟨b, h1, h2⟩ => ⟨b, h1, hk _ _ _ _ h2⟩) hyp
  case iastore => exact zk_piia_m (fun _ _ _ _ => zk_isa_m (fun _ _ => And.imp_right (hk _ _ _ _))) hyp
  case lastore => exact zk_plia_m (fun _ _ _ _ => zk_isa_m (fun _ _ => And.imp_right (hk _ _ _ _))) hyp
  case arraylength =>
    refine zk_pv_m (fun v _ hyp => ?_) hyp
    split at hyp
    · split at hyp
      · exact zk_bif_m (hk _ _ _ _) hyp
      · exact zk_bif_m (hk _ _ _ _) hyp
    · obtain ⟨kd, n, h1, h2, h3⟩ := hyp
      exact ⟨kd, n, h1, h2, hk _ _ _ _ h3⟩
    · exact hyp.elim
  case invokestatic i =>
    split at hyp
    · exact zk_bif_m (hcx _ _ _ _ _ (zk_cont_le hk)) hyp
    · exact zk_p2i_m (fun _ _ _ => zk_bif_m (hk _ _ _ _)) hyp
    · exact zk_p2i_m (fun _ _ _ => zk_bif_m (hk _ _ _ _)) hyp
    · split at hyp
      · split at hyp
        · exact zk_isa_m (fun _ _ => zk_isa_m fun _ _ => And.imp_right (hk _ _ _ _)) hyp
        · exact zk_isa_m (fun _ _ => zk_isa_m fun _ _ => And.imp_right (hk _ _ _ _)) hyp
      · exact hyp.elim
    · exact hyp.elim
  case invokevirtual i =>
    split at hyp
    · refine zk_bif_m (fun hyp => ?_) hyp
      unfold zk_recv at hyp ⊢
      split at hyp
      next v vs ev =>
        cases hb : Nat.blt (mt _).2.2 100 with
        | true =>
          rw [hb] at hyp
          exact zk_iso_m (fun _ => hcx _ _ _ _ _ (zk_cont_le hk)) (show zk_iso w v _ _ from hyp)
        | false =>
          rw [hb] at hyp
          simp only [cond_false] at hyp ⊢
          split at hyp
          · exact zk_bif_m (hcx _ _ _ _ _ (zk_cont_le hk)) hyp
          · exact hyp.elim
      · exact hyp.elim
    · exact hyp.elim
  all_goals exact hyp
theorem zk_Sp_mono (hcx : ∀ a, zk_Mono (cx a)) {k k' : zk_K} (hk : ∀ pc L st h, k pc L st h → k' pc L st h) {pc : Nat} {L : zk_L} {st : List Value} {h : zk_H} (hyp : zk_Sp w lk mt cx rt cd Q k pc L st h) : zk_Sp w lk mt cx rt cd Q k' pc L st h := by
  unfold zk_Sp at hyp ⊢
  split at hyp
  · exact zk_S_mono hcx hk hyp
  · exact hyp.elim
theorem zk_X_step (hcx : ∀ a, zk_Mono (cx a)) {pc : Nat} {L : zk_L} {st : List Value} {h : zk_H} (hyp : zk_Sp w lk mt cx rt cd Q (zk_X w lk mt cx rt cd Q) pc L st h) : zk_X w lk mt cx rt cd Q pc L st h := fun Z hZ => hZ pc L st h (zk_Sp_mono hcx (fun _ _ _ _ hx => hx Z hZ) hyp)
theorem zk_go (hcx : ∀ a, zk_Mono (cx a)) {stops : List Nat} : ∀ (n : Nat) {pc : Nat} {L : zk_L} {st : List Value} {h : zk_H}, zk_R w lk mt cx rt cd Q stops (zk_X w lk mt cx rt cd Q) n pc L st h → zk_X w lk mt cx rt cd Q pc L st h
  | 0, _, _, _, _, hyp => hyp.elim
  | n + 1, pc, L, st, h, hyp => zk_X_step hcx (zk_Sp_mono hcx (fun pc L st h hx => by
      cases hb : stops.any (Nat.beq pc) with
      | true => rw [hb] at hx; exact hx
      | false => rw [hb] at hx; exact zk_go hcx n hx) hyp)
end ZKM
/-- A METHOD'S CONTRACT, out of the small machine's run of its code -/
theorem zk_met {w : zk_Wd} {lk : Nat → zk_Ln} {mt : zk_Mt} {cx : Nat → zk_P} {cd : Nat → Option (Instr × Nat)} {j0 : zk_M} {d0 : Nat} {P : zk_P} (hcl : zk_clOk) (hjdk : zk_jdk) (hmt : ∀ a, zk_mtOk (mt a) ∨ ∀ as h Q, ¬ cx a as h Q) (hlk : ∀ i, zk_lk1 j0.1.cls mt i (lk i)) (hpl : plainName j0.1.cls = true)
    (hcd : ∀ pc q, cd pc = some q → decode j0.2.1 pc = .ok (q.1, zk_len q.1 q.2)) (hcx : ∀ a, zk_CT w d0 (mt a).1 (cx a)) (hbody : ∀ as h Q, P as h Q → ((∀ v ∈ as, zk_nod v = true) ∧ zk_wds as ≤ j0.2.2.1) ∧ zk_X w lk mt cx j0.2.2.2 cd Q 0 (zk_L0 as j0.2.2.1) [] h) : zk_CT w (d0 + 1) j0 P := by
  intro d hd l E sz as h Q hP
  obtain ⟨d, rfl⟩ : ∃ d', d = d' + 1 := ⟨d - 1, by omega⟩
  obtain ⟨⟨hnod, hwds⟩, hX⟩ := hbody as h Q hP
  refine Met.ofW (cc := j0.2.1) (maxL := j0.2.2.1) (ret := j0.2.2.2) hpl rfl ?_
  intro p e s m args below meth c s₁ B hml hv
  obtain ⟨rfl, hsz, hP, hK, hD, hBg⟩ := hv
  subst hsz
  have hD := zk_A_D (sz := s.heap.size) rfl hD
  have hl := lv_entry (as.map (zk_cv E)) (n := j0.2.2.1) (by rw [zk_wds_sl as hnod]; exact hwds)
  have hl2 : lv_has _ j0.2.2.1 (zk_loc E (zk_L0 as j0.2.2.1)) := zk_has_sub hl (fun q hq => by
    obtain ⟨i, u⟩ := q
    obtain ⟨v, hv, rfl⟩ := zk_loc_mem.mp hq
    have := zk_L0_in (E := E) as j0.2.2.1 0 hnod i v hv
    rwa [Nat.zero_add] at this)
  rw [lg_entry_eq]
  have Fx : zk_Fx p s m (as.map (zk_cv E)).toArray meth c j0.1.cls j0 (zk_A E w.1.length s.heap.size) E := ⟨B.exec, B.bytes, hml, B.returns, B.notSynchronized, findClass_of_methodNamed B.named, atoms_spec (ws := zk_ws j0) B.pre, fun q hq => Or.inr hq, hK, hBg⟩
  exact hX (zk_Z p l e d s m (as.map (zk_cv E)).toArray below meth c w E j0.2.2.1 Q) (fun pc L st h hs => by
    unfold zk_Sp at hs
    split at hs
    next q hq => exact zk_S_sound Fx rfl hcl hjdk hmt hlk hcx (by omega) (hcd pc q hq) hs
    · exact hs.elim) s.heap [] _ hP hD va_S.rf hl2 (zk_L0_len as _ hwds)
