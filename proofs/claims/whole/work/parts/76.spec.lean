/-! THE LAW read: by recursive descent over letters, what is left and the codes -/
abbrev zk_Rs : Type := Bool × List Nat × List Nat
def zk_dgt (c : Nat) : Bool := decide (48 ≤ c) && decide (c ≤ 57)
def zk_num : Nat → Nat → List Nat → Nat × List Nat
  | 0, v, t => (v, t)
  | _ + 1, v, [] => (v, [])
  | k + 1, v, c :: r => if zk_dgt c then zk_num k (10 * v + (c - 48)) r else (v, c :: r)
def zk_nam (c : Nat) : Option Nat := if c = 108 then some 0 else if c = 104 then some 1 else if c = 115 then some 2 else if c = 107 then some 3 else if c = 109 then some 4 else if c = 99 then some 5 else none
def zk_o5 (c : Nat) : Option Nat := if c = 42 then some 13 else if c = 47 then some 14 else if c = 37 then some 15 else none
def zk_o4 (c : Nat) : Option Nat := if c = 43 then some 11 else if c = 45 then some 12 else none
def zk_o3 (c : Nat) : Option Nat := if c = 60 then some 8 else if c = 61 then some 9 else if c = 62 then some 10 else none
def zk_o2 (c : Nat) : Option Nat := if c = 38 then some 7 else none
def zk_o1 (c : Nat) : Option Nat := if c = 124 then some 6 else none
/-- X, then any number of op X -/
def zk_lo (op : Nat → Option Nat) (X : List Nat → zk_Rs) : Nat → List Nat → List Nat → zk_Rs
  | 0, t, cs => (true, t, cs)
  | n + 1, t, cs => match t with
    | [] => (true, [], cs)
    | c :: r => match op c with
      | none => (true, c :: r, cs)
      | some k => if (X r).1 then zk_lo op X n (X r).2.1 (cs ++ (X r).2.2 ++ [k]) else (false, (X r).2.1, cs ++ (X r).2.2)
def zk_chn (op : Nat → Option Nat) (X : List Nat → zk_Rs) (t : List Nat) : zk_Rs := if (X t).1 then zk_lo op X t.length (X t).2.1 (X t).2.2 else X t
/-- X, or X op X -/
def zk_two (op : Nat → Option Nat) (X : List Nat → zk_Rs) (t : List Nat) : zk_Rs := if (X t).1 then (match (X t).2.1 with
    | [] => X t
    | c :: r => match op c with
      | none => X t
      | some k => if (X r).1 then (true, (X r).2.1, (X t).2.2 ++ (X r).2.2 ++ [k]) else (false, (X r).2.1, (X t).2.2 ++ (X r).2.2)) else X t
def zk_xP (X : List Nat → zk_Rs) : List Nat → zk_Rs := zk_chn zk_o5 X
def zk_xS (X : List Nat → zk_Rs) : List Nat → zk_Rs := zk_chn zk_o4 (zk_xP X)
def zk_xB (X : List Nat → zk_Rs) : List Nat → zk_Rs := zk_two zk_o3 (zk_xS X)
def zk_xA (X : List Nat → zk_Rs) : List Nat → zk_Rs := zk_chn zk_o2 (zk_xB X)
def zk_xE (X : List Nat → zk_Rs) : List Nat → zk_Rs := zk_chn zk_o1 (zk_xA X)
def zk_sfx (k : Nat) (q : zk_Rs) : zk_Rs := if q.1 then (true, q.2.1, q.2.2 ++ [k]) else q
def zk_par (q : zk_Rs) : zk_Rs := if q.1 then (match q.2.1 with
    | [] => (false, [], q.2.2)
    | c :: r => if c = 41 then (true, r, q.2.2) else (false, c :: r, q.2.2)) else q
def zk_xob (nest : Nat → List Nat → zk_Rs) : List Nat → zk_Rs
  | [] => (false, [], [])
  | c :: r => if zk_dgt c then (true, (zk_num 4 0 (c :: r)).2, [18 + (zk_num 4 0 (c :: r)).1]) else match zk_nam c with
    | some k => (true, r, [k])
    | none => nest c r
def zk_nst (X : List Nat → zk_Rs) (c : Nat) (r : List Nat) : zk_Rs := if c = 33 then zk_sfx 16 (X r) else if c = 45 then zk_sfx 17 (X r) else if c = 40 then zk_par (zk_xE X r) else (false, c :: r, [])
/-- an O, where d more of ( ! - may be open -/
def zk_xO : Nat → List Nat → zk_Rs
  | 0 => zk_xob (fun c r => (false, c :: r, []))
  | d + 1 => zk_xob (zk_nst (zk_xO d))
def zk_xL (t : List Nat) : Bool × List Nat × (List Nat × List Nat) := if (zk_xE (zk_xO 6) t).1 then (match (zk_xE (zk_xO 6) t).2.1 with
    | [] => (true, [], [], (zk_xE (zk_xO 6) t).2.2)
    | c :: r => if c = 63 then ((zk_xE (zk_xO 6) r).1, (zk_xE (zk_xO 6) r).2.1, (zk_xE (zk_xO 6) t).2.2, (zk_xE (zk_xO 6) r).2.2) else (true, c :: r, [], (zk_xE (zk_xO 6) t).2.2)) else (false, (zk_xE (zk_xO 6) t).2.1, [], [])
/-- lines; n: more than are left -/
def zk_xT : Nat → List Nat → zk_lns → Bool × List Nat × zk_lns
  | 0, t, L => (false, t, L)
  | n + 1, t, L => if (zk_xL t).1 then (match (zk_xL t).2.1 with
    | [] => (true, [], L ++ [(zk_xL t).2.2])
    | c :: r => if c = 59 then zk_xT n r (L ++ [(zk_xL t).2.2]) else (false, c :: r, L)) else (false, (zk_xL t).2.1, L)
/-! what is left is less, the codes are not more than the letters, and work -/
def zk_gQ (t : List Nat) (q : zk_Rs) : Prop := q.2.2.length + q.2.1.length ≤ t.length ∧ (q.1 = true → q.2.1.length < t.length ∧ ∀ n, zk_wf q.2.2 n (n + 1))
def zk_gX (X : List Nat → zk_Rs) : Prop := ∀ t, zk_gQ t (X t)
theorem zk_wf_app : ∀ {a b : List Nat} {n e f : Nat}, zk_wf a n e → zk_wf b e f → zk_wf (a ++ b) n f
  | [], b, n, e, f, h, g => by have : n = e := h; subst this; exact g
  | c :: r, b, n, e, f, h, g => by
    obtain ⟨h1, h2⟩ := h
    refine ⟨h1, ?_⟩
    split at h2
    next q => rw [if_pos q]; exact zk_wf_app h2 g
    next q =>
      rw [if_neg q]
      split at h2
      next z => rw [if_pos z]; exact ⟨h2.1, zk_wf_app h2.2 g⟩
      next z => rw [if_neg z]; exact ⟨h2.1, zk_wf_app h2.2 g⟩
theorem zk_wf_op {k n : Nat} (h1 : 6 ≤ k) (h2 : k ≤ 15) : zk_wf [k] (n + 2) (n + 1) := by
  refine ⟨by omega, ?_⟩
  rw [if_neg (by omega), if_neg (by omega)]
  exact ⟨by omega, rfl⟩
theorem zk_wf_un {k n : Nat} (h1 : k = 16 ∨ k = 17) : zk_wf [k] (n + 1) (n + 1) := by
  refine ⟨by omega, ?_⟩
  rw [if_neg (by omega), if_pos (by omega)]
  exact ⟨by omega, rfl⟩
def zk_opk (op : Nat → Option Nat) : Prop := ∀ c k, op c = some k → 6 ≤ k ∧ k ≤ 15
theorem zk_o5k : zk_opk zk_o5 := fun c k h => by
  unfold zk_o5 at h
  repeat' split at h
  all_goals (first | (cases h; omega) | cases h)
theorem zk_o4k : zk_opk zk_o4 := fun c k h => by
  unfold zk_o4 at h
  repeat' split at h
  all_goals (first | (cases h; omega) | cases h)
theorem zk_o3k : zk_opk zk_o3 := fun c k h => by
  unfold zk_o3 at h
  repeat' split at h
  all_goals (first | (cases h; omega) | cases h)
theorem zk_o2k : zk_opk zk_o2 := fun c k h => by
  unfold zk_o2 at h
  repeat' split at h
  all_goals (first | (cases h; omega) | cases h)
theorem zk_o1k : zk_opk zk_o1 := fun c k h => by
  unfold zk_o1 at h
  repeat' split at h
  all_goals (first | (cases h; omega) | cases h)
theorem zk_lo_0 {op : Nat → Option Nat} {X : List Nat → zk_Rs} {n : Nat} {cs : List Nat} : zk_lo op X n [] cs = (true, [], cs) := by cases n <;> rfl
theorem zk_lo_n {op : Nat → Option Nat} {X : List Nat → zk_Rs} {n c : Nat} {r cs : List Nat} (h : op c = none) : zk_lo op X (n + 1) (c :: r) cs = (true, c :: r, cs) := by
  unfold zk_lo
  dsimp only
  rw [h]
theorem zk_lo_t {op : Nat → Option Nat} {X : List Nat → zk_Rs} {n c k : Nat} {r cs : List Nat} (h : op c = some k) (q : (X r).1 = true) : zk_lo op X (n + 1) (c :: r) cs = zk_lo op X n (X r).2.1 (cs ++ (X r).2.2 ++ [k]) := by
  rw [show zk_lo op X (n + 1) (c :: r) cs = (match op c with
      | none => (true, c :: r, cs)
      | some k => if (X r).1 then zk_lo op X n (X r).2.1 (cs ++ (X r).2.2 ++ [k]) else (false, (X r).2.1, cs ++ (X r).2.2)) from rfl, h]
  exact if_pos q
theorem zk_lo_f {op : Nat → Option Nat} {X : List Nat → zk_Rs} {n c k : Nat} {r cs : List Nat} (h : op c = some k) (q : (X r).1 = false) : zk_lo op X (n + 1) (c :: r) cs = (false, (X r).2.1, cs ++ (X r).2.2) := by
  rw [show zk_lo op X (n + 1) (c :: r) cs = (match op c with
      | none => (true, c :: r, cs)
      | some k => if (X r).1 then zk_lo op X n (X r).2.1 (cs ++ (X r).2.2 ++ [k]) else (false, (X r).2.1, cs ++ (X r).2.2)) from rfl, h]
  exact if_neg (by rw [q]; decide)
theorem zk_lo_g {op : Nat → Option Nat} {X : List Nat → zk_Rs} (ho : zk_opk op) (hX : zk_gX X) {N : Nat} : ∀ (n : Nat) (t cs : List Nat), t.length ≤ n → cs.length + t.length ≤ N → (∀ j, zk_wf cs j (j + 1)) → ((zk_lo op X n t cs).2.2.length + (zk_lo op X n t cs).2.1.length ≤ N ∧ (zk_lo op X n t cs).2.1.length ≤ t.length ∧ ((zk_lo op X n t cs).1 = true → ∀ j, zk_wf (zk_lo op X n t cs).2.2 j (j + 1)))
  | n, [], cs, _, h1, h2 => by
    rw [zk_lo_0]
    exact ⟨h1, Nat.le_refl _, fun _ => h2⟩
  | n + 1, c :: r, cs, hn, h1, h2 => by
    cases hc : op c with
    | none =>
      rw [zk_lo_n hc]
      exact ⟨h1, Nat.le_refl _, fun _ => h2⟩
    | some k =>
      obtain ⟨g1, g2⟩ := hX r
      rw [List.length_cons] at h1 hn
      cases hq : (X r).1
      · rw [zk_lo_f hc hq]
        refine ⟨?_, ?_, fun z => by cases z⟩
        · rw [List.length_append]; dsimp only; omega
        · rw [List.length_cons]; dsimp only; omega
      · rw [zk_lo_t hc hq]
        obtain ⟨g3, g4⟩ := g2 hq
        obtain ⟨i1, i2, i3⟩ := zk_lo_g ho hX (N := N) n (X r).2.1 (cs ++ (X r).2.2 ++ [k]) (by omega) (by simp only [List.length_append, List.length_cons, List.length_nil]; omega) (fun j => zk_wf_app (zk_wf_app (h2 j) (g4 (j + 1))) (zk_wf_op (ho c k hc).1 (ho c k hc).2))
        exact ⟨i1, by rw [List.length_cons]; omega, i3⟩
theorem zk_chn_g {op : Nat → Option Nat} {X : List Nat → zk_Rs} (ho : zk_opk op) (hX : zk_gX X) : zk_gX (zk_chn op X) := fun t => by
  obtain ⟨g1, g2⟩ := hX t
  unfold zk_gQ zk_chn
  cases hq : (X t).1
  · rw [if_neg (by decide)]
    exact ⟨g1, fun z => by rw [hq] at z; cases z⟩
  · rw [if_pos rfl]
    obtain ⟨g3, g4⟩ := g2 hq
    obtain ⟨i1, i2, i3⟩ := zk_lo_g ho hX (N := t.length) t.length (X t).2.1 (X t).2.2 (by omega) g1 g4
    exact ⟨i1, fun z => ⟨by omega, i3 z⟩⟩
theorem zk_two_g {op : Nat → Option Nat} {X : List Nat → zk_Rs} (ho : zk_opk op) (hX : zk_gX X) : zk_gX (zk_two op X) := fun t => by
  obtain ⟨g1, g2⟩ := hX t
  unfold zk_gQ zk_two
  cases hq : (X t).1
  · rw [if_neg (by decide)]
    exact ⟨g1, fun z => by rw [hq] at z; cases z⟩
  · rw [if_pos rfl]
    obtain ⟨g3, g4⟩ := g2 hq
    cases hr : (X t).2.1 with
    | nil => exact ⟨g1, fun _ => ⟨g3, g4⟩⟩
    | cons c r =>
      dsimp only
      cases hc : op c with
      | none => exact ⟨g1, fun _ => ⟨g3, g4⟩⟩
      | some k =>
        obtain ⟨k1, k2⟩ := hX r
        rw [hr, List.length_cons] at g1 g3
        dsimp only
        cases hq2 : (X r).1
        · rw [if_neg (by decide)]
          refine ⟨?_, fun z => by cases z⟩
          rw [List.length_append]; dsimp only; omega
        · rw [if_pos rfl]
          obtain ⟨k3, k4⟩ := k2 hq2
          refine ⟨?_, fun _ => ⟨by dsimp only; omega, fun j => zk_wf_app (zk_wf_app (g4 j) (k4 (j + 1))) (zk_wf_op (ho c k hc).1 (ho c k hc).2)⟩⟩
          simp only [List.length_append, List.length_cons, List.length_nil]; omega
theorem zk_xE_g {X : List Nat → zk_Rs} (hX : zk_gX X) : zk_gX (zk_xE X) := zk_chn_g zk_o1k (zk_chn_g zk_o2k (zk_two_g zk_o3k (zk_chn_g zk_o4k (zk_chn_g zk_o5k hX))))
theorem zk_num_g : ∀ (k v : Nat) (t : List Nat), (zk_num k v t).2.length ≤ t.length ∧ (zk_num k v t).1 < (v + 1) * 10 ^ k
  | 0, v, t => ⟨Nat.le_refl _, by show v < (v + 1) * 1; omega⟩
  | k + 1, v, [] => ⟨Nat.le_refl _, by
    show v < (v + 1) * 10 ^ (k + 1)
    have := Nat.pow_pos (n := k + 1) (show 0 < 10 by decide)
    exact Nat.lt_of_lt_of_le (Nat.lt_succ_self v) (Nat.le_mul_of_pos_right _ this)⟩
  | k + 1, v, c :: r => by
    have hp := Nat.pow_pos (n := k + 1) (show 0 < 10 by decide)
    unfold zk_num
    cases hc : zk_dgt c
    · rw [if_neg (by decide)]
      exact ⟨Nat.le_refl _, Nat.lt_of_lt_of_le (Nat.lt_succ_self v) (Nat.le_mul_of_pos_right _ hp)⟩
    · rw [if_pos rfl]
      have hd : 48 ≤ c ∧ c ≤ 57 := by
        unfold zk_dgt at hc
        rw [Bool.and_eq_true] at hc
        exact ⟨of_decide_eq_true hc.1, of_decide_eq_true hc.2⟩
      obtain ⟨i1, i2⟩ := zk_num_g k (10 * v + (c - 48)) r
      refine ⟨by rw [List.length_cons]; omega, Nat.lt_of_lt_of_le i2 ?_⟩
      rw [Nat.pow_succ, Nat.mul_comm (10 ^ k) 10, ← Nat.mul_assoc]
      exact Nat.mul_le_mul_right _ (by omega)
theorem zk_nam_k {c k : Nat} (h : zk_nam c = some k) : k ≤ 5 := by
  unfold zk_nam at h
  repeat' split at h
  all_goals (first | (cases h; omega) | cases h)
theorem zk_xob_d {nest : Nat → List Nat → zk_Rs} {c : Nat} {r : List Nat} (h : zk_dgt c = true) : zk_xob nest (c :: r) = (true, (zk_num 4 0 (c :: r)).2, [18 + (zk_num 4 0 (c :: r)).1]) := if_pos h
theorem zk_xob_k {nest : Nat → List Nat → zk_Rs} {c k : Nat} {r : List Nat} (h : zk_dgt c = false) (hk : zk_nam c = some k) : zk_xob nest (c :: r) = (true, r, [k]) := by
  show (if zk_dgt c then _ else match zk_nam c with
    | some k => (true, r, [k])
    | none => nest c r) = _
  rw [h, hk]
  rfl
theorem zk_xob_n {nest : Nat → List Nat → zk_Rs} {c : Nat} {r : List Nat} (h : zk_dgt c = false) (hk : zk_nam c = none) : zk_xob nest (c :: r) = nest c r := by
  show (if zk_dgt c then _ else match zk_nam c with
    | some k => (true, r, [k])
    | none => nest c r) = _
  rw [h, hk]
  rfl
theorem zk_num_d {c : Nat} {r : List Nat} (h : zk_dgt c = true) : zk_num 4 0 (c :: r) = zk_num 3 (c - 48) r := by
  show (if zk_dgt c then zk_num 3 (10 * 0 + (c - 48)) r else _) = _
  rw [if_pos h, show 10 * 0 + (c - 48) = c - 48 by omega]
theorem zk_xob_g {nest : Nat → List Nat → zk_Rs} (hn : ∀ c r, zk_gQ (c :: r) (nest c r)) : zk_gX (zk_xob nest) := fun t => by
  cases t with
  | nil => exact ⟨Nat.le_refl _, fun z => by cases z⟩
  | cons c r =>
    cases hc : zk_dgt c
    · cases hk : zk_nam c with
      | none => rw [zk_xob_n hc hk]; exact hn c r
      | some k =>
        have := zk_nam_k hk
        rw [zk_xob_k hc hk]
        refine ⟨by simp only [List.length_cons, List.length_nil]; omega, fun _ => ⟨by simp, fun n => ⟨by omega, ?_⟩⟩⟩
        rw [if_pos (Or.inl this)]
        rfl
    · obtain ⟨i1, -⟩ := zk_num_g 3 (c - 48) r
      obtain ⟨-, i2⟩ := zk_num_g 4 0 (c :: r)
      rw [zk_xob_d hc]
      rw [zk_num_d hc] at i2 ⊢
      refine ⟨?_, fun _ => ⟨?_, fun n => ⟨by omega, ?_⟩⟩⟩
      · simp only [List.length_cons, List.length_nil]; omega
      · simp only [List.length_cons]; omega
      · rw [if_pos (Or.inr (by omega))]
        rfl
theorem zk_xO_g : ∀ d, zk_gX (zk_xO d)
  | 0 => zk_xob_g fun c r => ⟨by simp, fun z => by cases z⟩
  | d + 1 => zk_xob_g fun c r => by
    have hX := zk_xO_g d
    have sx : ∀ k, (k = 16 ∨ k = 17) → zk_gQ (c :: r) (zk_sfx k (zk_xO d r)) := by
      intro k hk
      obtain ⟨g1, g2⟩ := hX r
      unfold zk_gQ zk_sfx
      cases hq : (zk_xO d r).1
      · rw [if_neg (by decide)]
        refine ⟨by rw [List.length_cons]; omega, fun z => by rw [hq] at z; cases z⟩
      · rw [if_pos rfl]
        obtain ⟨g3, g4⟩ := g2 hq
        refine ⟨by simp only [List.length_append, List.length_cons, List.length_nil]; omega, fun _ => ⟨by rw [List.length_cons]; dsimp only; omega, fun n => zk_wf_app (g4 n) (zk_wf_un hk)⟩⟩
    unfold zk_nst
    by_cases h1 : c = 33
    · rw [if_pos h1]; exact sx 16 (Or.inl rfl)
    · rw [if_neg h1]
      by_cases h2 : c = 45
      · rw [if_pos h2]; exact sx 17 (Or.inr rfl)
      · rw [if_neg h2]
        by_cases h3 : c = 40
        · rw [if_pos h3]
          obtain ⟨g1, g2⟩ := zk_xE_g hX r
          unfold zk_gQ zk_par
          cases hq : (zk_xE (zk_xO d) r).1
          · rw [if_neg (by decide)]
            refine ⟨by rw [List.length_cons]; omega, fun z => by rw [hq] at z; cases z⟩
          · rw [if_pos rfl]
            obtain ⟨g3, g4⟩ := g2 hq
            cases hr : (zk_xE (zk_xO d) r).2.1 with
            | nil => rw [hr] at g1; exact ⟨by simp only [List.length_cons, List.length_nil] at g1 ⊢; omega, fun z => by cases z⟩
            | cons b s =>
              rw [hr, List.length_cons] at g1 g3
              dsimp only
              by_cases hb : b = 41
              · rw [if_pos hb]
                exact ⟨by rw [List.length_cons]; dsimp only; omega, fun _ => ⟨by rw [List.length_cons]; dsimp only; omega, g4⟩⟩
              · rw [if_neg hb]
                exact ⟨by simp only [List.length_cons]; omega, fun z => by cases z⟩
        · rw [if_neg h3]
          exact ⟨by simp, fun z => by cases z⟩
