/-! what the tables say of a method's number, of a pool's entry -/
def zk_ws (j : zk_M) : List Cond := .code j.1 j.2.1 j.2.2.1 j.2.2.2 :: zk_uw
def zk_rm (d : Nat) : Room := { frames := d, cells := 0, slots := 0, locals := 40 * d }
def zk_clOk : Prop := ∀ c q, zk_cl[c]? = some q → (∀ w ∈ u_ws q.1 q.2.1 q.2.2, w ∈ zk_uw) ∧ (∀ k, k < q.2.2 → parseFieldDescriptor (q.2.1 k).2.2.1 = some (zk_ty c k)) ∧ (∀ a, a < q.2.2 → ∀ b, b < q.2.2 → a ≠ b → (q.2.1 a).2.1 ≠ (q.2.1 b).2.1) ∧ q.2.2 = zk_N c
def zk_mtOk (q : zk_M × Nat × Nat) : Prop := Cond.code q.1.1 q.1.2.1 q.1.2.2.1 q.1.2.2.2 ∈ zk_uw ∧ Cond.initialized q.1.1.cls ∈ zk_uw ∧ (plainName q.1.1.cls = true ∧ q.1.1.cls ≠ "java/lang/invoke/MethodHandle" ∧ q.1.1.cls ≠ "java/lang/invoke/VarHandle" ∧ (parseMethodDescriptor q.1.1.desc).map (fun d => d.parameters.length) = some q.2.1 ∧ q.1.2.2.1 ≤ 20) ∧ ((q.2.2 = 200 ∧ Cond.static q.1.1 ∈ zk_uw) ∨ (q.2.2 = 100 ∧ (Cond.instanceMethod q.1.1 ∈ zk_uw ∧ Cond.selects q.1.1.cls q.1.1 q.1.1 ∈ zk_uw) ∧ q.1.1.cls = "java/lang/String") ∨ (q.2.2 < 100 ∧ (Cond.instanceMethod q.1.1 ∈ zk_uw ∧ Cond.selects q.1.1.cls q.1.1 q.1.1 ∈ zk_uw) ∧ ∃ r, zk_cl[q.2.2]? = some r ∧ r.1 = q.1.1.cls))
def zk_fo (own : String) (i c j : Nat) (P : u_T → Prop) : Prop := match zk_cl[c]? with
  | some q => j < zk_N c ∧ Cond.fieldLink own i (q.2.1 j).1 (q.2.1 j).2.1 (q.2.1 j).2.2.1 ∈ zk_uw ∧ P q.2.1
  | none => False
def zk_lk1 (own : String) (mt : zk_Mt) (i : Nat) (e : zk_Ln) : Prop := match e with
  | (0, c, j, _) => zk_fo own i c j (fun T => zk_ty c j = .int ∧ (T j).2.2.2 = false)
  | (12, c, j, _) => zk_fo own i c j (fun T => zk_ty c j = .boolean ∧ (T j).2.2.2 = false)
  | (1, c, j, _) => zk_fo own i c j (fun _ => zk_isr (zk_ty c j) = true)
  | (2, a, _, _) => match zk_sta[a]? with
    | some q => Cond.fieldLink own i q.1 q.2.1 q.2.2.1 ∈ zk_uw
    | none => True
  | (3, a, _, _) => Cond.methodLink own i (mt a).1.1 ∈ zk_uw
  | (4, _, _, _) => Cond.methodLink own i Lib.Math.max.name ∈ zk_uw
  | (5, _, _, _) => Cond.methodLink own i Lib.Math.min.name ∈ zk_uw
  | (6, _, _, _) => Cond.methodLink own i arraycopyName ∈ zk_uw
  | (7, _, _, z) => Cond.constant own i (Int32.ofInt z) ∈ zk_uw
  | (8, _, _, z) => Cond.constantLong own i (Int64.ofInt z) ∈ zk_uw
  | (9, _, _, _) => (own = RX5 ∧ i = 77) ∨ (own = RX10 ∧ i = 11)
  | (10, _, _, _) => Cond.fieldLink own i "java/lang/String" "value" "[B" ∈ zk_uw
  | (11, _, _, _) => Cond.fieldLink own i "java/lang/String" "coder" "B" ∈ zk_uw
  | _ => True
def zk_jdk : Prop := (Cond.static Lib.Math.max.name ∈ zk_uw ∧ Cond.code Lib.Math.max.name Lib.Math.max.code 2 (some .int) ∈ zk_uw ∧ Cond.static Lib.Math.min.name ∈ zk_uw ∧ Cond.code Lib.Math.min.name Lib.Math.min.code 2 (some .int) ∈ zk_uw ∧ Cond.initialized "java/lang/Math" ∈ zk_uw) ∧ (Cond.native arraycopyName ∈ zk_uw ∧ Cond.static arraycopyName ∈ zk_uw ∧ Cond.initialized "java/lang/System" ∈ zk_uw)
theorem zk_goodw {w : Cond} (h : w ∈ zk_uw) : (w.onTables && w.keeps) = true ∨ ∃ ty, w = .arrayClass ty := good_of_word (List.mem_filter.mp h).2
theorem zk_goodIn {j0 : zk_M} {ws : List Cond} (h : ∀ w ∈ ws, w ∈ zk_uw) : GoodIn (zk_ws j0) ws := fun w hw => ⟨List.mem_cons_of_mem _ (h w hw), zk_goodw (h w hw)⟩
theorem zk_ws_uw {j : zk_M} (h : Cond.code j.1 j.2.1 j.2.2.1 j.2.2.2 ∈ zk_uw) : ∀ w ∈ zk_ws j, w ∈ zk_uw := fun w hw => (List.mem_cons.mp hw).elim (fun e => e ▸ h) id
/-- a method's start -/
def zk_B (w : zk_Wd) (E : zk_E) (h : zk_H) (sz : Nat) (U : State) : Prop := U.heap.size = sz ∧ va_P E.1 zk_cl (zk_w E w h) U.heap ∧ va_K E.1 zk_cl (zk_tys E) U ∧ va_D (fun _ => True) (zk_w E w h) ∧ zk_Bg E (zk_A E w.1.length sz) U
def zk_Qr (Q : zk_Q) (r : Option Value) (h : zk_H) : Prop := match r with
  | none => Q.2.2.1 () h
  | some (.int v) => Q.1 v h
  | some (.long v) => Q.2.1 v h
  | some v => Q.2.2.2 v h
/-- a method's end -/
def zk_QX (w : zk_Wd) (E : zk_E) (Q : zk_Q) (A : Nat → Prop) : Array Value → State → Outcome → State → Prop := fun _ st oc t => (∃ r h, oc = .returned (r.map (zk_cv E)) ∧ zk_Qr Q r h ∧ va_P E.1 zk_cl (zk_w E w h) t.heap ∧ va_D A (zk_w E w h)) ∧ va_F A st t
/-- A CONTRACT: where P says that a call with these arguments, over these cells, ends in Q, it does, with room for d calls below -/
def zk_CT (w : zk_Wd) (d0 : Nat) (j : zk_M) (P : zk_P) : Prop := ∀ d, d0 ≤ d → ∀ (l : Launch) (E : zk_E) (sz : Nat) (as : List Value) (h : zk_H) (Q : zk_Q), P as h Q → Met l j.1 (zk_ws j) (zk_rm d) (va_Pc (as.map (zk_cv E)) (zk_B w E h sz)) (zk_QX w E Q (zk_A E w.1.length sz)) 0 0 (zk_A E w.1.length sz)
theorem zk_CT.mono {w : zk_Wd} {d0 d1 : Nat} {j : zk_M} {P : zk_P} (h : zk_CT w d0 j P) (hd : d0 ≤ d1) : zk_CT w d1 j P := fun d h1 => h d (Nat.le_trans hd h1)
theorem zk_CT.none {w : zk_Wd} {d0 : Nat} {j : zk_M} : zk_CT w d0 j (fun _ _ _ => False) := fun _ _ _ _ _ _ _ _ h => h.elim
theorem zk_CT.of {w : zk_Wd} {d0 : Nat} {j : zk_M} {P P' : zk_P} (h : zk_CT w d0 j P) (hP : ∀ as x Q, P' as x Q → P as x Q) : zk_CT w d0 j P' := fun d hd l E sz as x Q q => h d hd l E sz as x Q (hP as x Q q)
theorem zk_blind {w : zk_Wd} {E : zk_E} {h : zk_H} {sz : Nat} {av : List Value} : FrameBlind (va_Pc av (zk_B w E h sz)) := by
  intro a U g mk q
  obtain ⟨q0, q1, qP, qK, qD, b1, b2, b3, b4, b5, b6, b7⟩ := q
  exact ⟨q0, q1, qP, va_K.moved (u := U) (U := U.calling g mk a) (Vm.Alike.refl U.vm) qK, qD, fun t q hq => va_T.moved (u := U) (U := U.calling g mk a) (Vm.Alike.refl U.vm) (b1 t q hq), fun q hq => va_Z.moved (u := U) (U := U.calling g mk a) (Vm.Alike.refl U.vm) (b2 q hq), va_O.moved (u := U) (U := U.calling g mk a) (Vm.Alike.refl U.vm) b3, va_OF.moved (u := U) (U := U.calling g mk a) (Vm.Alike.refl U.vm) b4, va_OF.moved (u := U) (U := U.calling g mk a) (Vm.Alike.refl U.vm) b5, vk_R.same (u := U) (U := U.calling g mk a) rfl b6, vk_R.same (u := U) (U := U.calling g mk a) rfl b7⟩
section ZKA
variable {p : Program} {l : Launch} {e : Env} {R : Room} {s : State} {m : MethodId} {args : Array Value} {below : List Frame} {meth : Method} {c : Code} {H : Heap} {locs : List Loc} {cells slots : Nat} {Q' : State → Prop}
variable {pc : Nat} {ls : Array Slot} {rest st0 : List Value} {a : Array Value} {A0 A1 : Nat → Prop} {H0 : Heap} {mc ms : Nat} {free : Addr → Prop} {w : zk_Wd} {E : zk_E} {Q : zk_Q}
/-- behind a call -/
theorem zk_back (hr : va_Run p l e R s m args below meth c H locs cells slots mc ms (F0 m pc ls st0) rest (zk_QX w E Q A1 a) free) (hS : va_S A0 H0 H locs) (hA : ∀ q, A1 q → A0 q) (hf : ∀ q, free q → A0 q)
    (kk : ∀ (r : Option Value) (h : zk_H) (H1 : Heap) (locs1 : List Loc), zk_Qr Q r h → va_P E.1 zk_cl (zk_w E w h) H1 → va_D A0 (zk_w E w h) → va_S A0 H0 H1 locs1 → W p l e R s m args below meth c H1 locs1 (cells + mc) (slots + ms) Q' (F0 m (pc + 3) ls ((r.map (zk_cv E)).toList ++ rest))) : W p l e R s m args below meth c H locs cells slots Q' (F0 m pc ls st0) := by
  intro T hT X
  obtain ⟨v, st₀, t, T', L, h0, X', hL, e1, e2, ⟨⟨r, h, hv, hp, hP, hD⟩, hz, hk⟩, st⟩ := hr T hT X
  cases hv
  rw [h0] at hz hk
  obtain ⟨t2, a1, b1⟩ := kk r h T'.heap (locs ++ L) hp (by rw [e1]; exact hP) (hD.weaken fun _ _ _ hx => hA _ hx)
    ⟨Nat.le_trans hS.1 (by rw [e1]; exact hz), fun q h1 h2 => by rw [e1, hk q (Nat.lt_of_lt_of_le h1 hS.1) (fun z => h2 (hA q z))]; exact hS.2.1 q h1 h2, fun q hq => by
      rcases List.mem_append.mp hq with h | h
      · exact hS.2.2 q h
      · exact hf _ (hL q h)⟩ T' rfl X'
  exact ⟨t2, st t2 a1, b1⟩
theorem zk_aald {cc : ByteArray} {D : va_G} {cl : List vw_C} {tys : List (ClassId × FieldType)} {ws : va_W} {ad : Nat} (hexec : p.tables.exec = Jvm.exec) (hb : c.code = cc) (hK : va_K D cl tys s) (hP : va_P D cl ws H) (q0 t0 : Nat) {cA : ClassId} {ty : FieldType} {n : Nat} {f : Nat → Option Nat} (ha : ws[q0]? = some (ad, .inl (cA, n, .inr (.inr (.inr (.inr f)))))) (ht : tys[t0]? = some (cA, ty)) (hty : ty.isReference = true) {i : Int32} (hin : vp_in i n) (hdg : decode cc pc = .ok (.aaload, 1))
    (kk : W p l e R s m args below meth c H locs cells slots Q' (F0 m (pc + 1) ls (va_rf (f i.toNatClampNeg) :: rest))) : W p l e R s m args below meth c H locs cells slots Q' (F0 m pc ls (.int i :: .ref ad :: rest)) := by
  have hlt : i.toNatClampNeg < n := Nat.not_le.mp fun q => hin (Or.inr q)
  exact W.aald (v := va_rf (f i.toNatClampNeg)) (ty := ty) hexec hb (hP q0 _ ha) ((hK.2 t0 _ ht).1 n (fun j => va_rf (f j))) hty (fun q => by cases q) (by show ¬ (i < 0 ∨ (arrV _ _ _).slots.size ≤ _); rw [arrV_size]; exact hin) (by show (arrV _ _ _).slots[_]? = _; rw [arrV_read _ _ hlt]) rfl rfl hdg kk
end ZKA
/-- what stays, through a method -/
def zk_Fx (p : Program) (s : State) (m : MethodId) (args : Array Value) (meth : Method) (c : Code) (own : String) (j0 : zk_M) (A : Nat → Prop) (E : zk_E) : Prop := p.tables.exec = Jvm.exec ∧ c.code = j0.2.1 ∧ c.maxLocals = j0.2.2.1 ∧ meth.sig.returnType = j0.2.2.2 ∧ meth.locks = false ∧ s.vm.findClass own = some m.cls ∧ (∀ w ∈ zk_ws j0, w.before args s = true) ∧ (∀ q, s.heap.size ≤ q → A q) ∧ va_K E.1 zk_cl (zk_tys E) s ∧ zk_Bg E A s
def zk_Z (p : Program) (l : Launch) (e : Env) (d : Nat) (s : State) (m : MethodId) (args : Array Value) (below : List Frame) (meth : Method) (c : Code) (w : zk_Wd) (E : zk_E) (nL : Nat) (Q : zk_Q) : zk_K := fun pc L st h => ∀ (H : Heap) (locs : List Loc) (ls : Array Slot), va_P E.1 zk_cl (zk_w E w h) H → va_D (zk_A E w.1.length s.heap.size) (zk_w E w h) → va_S (zk_A E w.1.length s.heap.size) s.heap H locs → lv_has ls nL (zk_loc E L) → L.length = nL → W p l e (zk_rm (d + 1)) s m args below meth c H locs 0 0 (MQ below (zk_QX w E Q (zk_A E w.1.length s.heap.size)) args s 0 0 (zk_A E w.1.length s.heap.size)) (F0 m pc ls (st.map (zk_cv E)))
