/-! THE LAW told: lines of codes (as the reference numbers them), and what they come to -/
def zk_un (c : Nat) (x : Int32) : Int32 := if c = 17 then -x else if x = 0 then 1 else 0
def zk_bi (c : Nat) (x y : Int32) : Int32 :=
  if c = 6 then (if x = 0 ∧ y = 0 then 0 else 1) else if c = 7 then (if x = 0 ∨ y = 0 then 0 else 1) else if c = 8 then (if y ≤ x then 0 else 1) else
  if c = 9 then (if x = y then 1 else 0) else if c = 10 then (if x ≤ y then 0 else 1) else if c = 11 then x + y else if c = 12 then x - y else
  if c = 13 then x * y else if c = 14 then (if y = 0 then 0 else x / y) else (if y = 0 then 0 else x - x / y * y)
def zk_sgn (c : Nat) : Nat := [124, 38, 60, 61, 62, 43, 45, 42, 47, 37, 33, 126].getD (c - 6) 0
/-- a code as the class' step -/
def zk_cs (c : Nat) : Int32 := nI (if c ≤ 5 then 10000 + c else if c ≤ 17 then 20000 + zk_sgn c else c - 18)
def zk_up (s : Nat → Int32) (n : Nat) (v : Int32) : Nat → Int32 := fun k => if k = n then v else s k
abbrev zk_sk : Type := (Nat → Int32) × Nat
def zk_stp (nm : Nat → Int32) (c : Nat) (q : zk_sk) : zk_sk :=
  if c ≤ 5 then (zk_up q.1 q.2 (nm c), q.2 + 1) else if 18 ≤ c then (zk_up q.1 q.2 (nI (c - 18)), q.2 + 1) else
  if 16 ≤ c then (zk_up q.1 (q.2 - 1) (zk_un c (q.1 (q.2 - 1))), q.2) else (zk_up q.1 (q.2 - 2) (zk_bi c (q.1 (q.2 - 2)) (q.1 (q.2 - 1))), q.2 - 1)
def zk_run (nm : Nat → Int32) : List Nat → zk_sk → zk_sk
  | [], q => q
  | c :: r, q => zk_run nm r (zk_stp nm c q)
/-- codes that work from n values on to e -/
def zk_wf : List Nat → Nat → Nat → Prop
  | [], n, e => n = e
  | c :: r, n, e => c < 10018 ∧ (if c ≤ 5 ∨ 18 ≤ c then zk_wf r (n + 1) e else if 16 ≤ c then 1 ≤ n ∧ zk_wf r n e else 2 ≤ n ∧ zk_wf r (n - 1) e)
def zk_vE (nm : Nat → Int32) (l : List Nat) : Int32 := (zk_run nm l (fun _ => 0, 0)).1 0
abbrev zk_lns : Type := List (List Nat × List Nat)
def zk_vL (nm : Nat → Int32) : zk_lns → Int32
  | [] => 0
  | q :: r => if q.1 ≠ [] ∧ zk_vE nm q.1 = 0 then zk_vL nm r else zk_vE nm q.2
def zk_okL (L : zk_lns) : Prop := ∀ q ∈ L, (q.1 = [] ∨ zk_wf q.1 0 1) ∧ zk_wf q.2 0 1
def zk_flat : zk_lns → List Int32
  | [] => []
  | q :: r => (if q.1 = [] then [] else q.1.map zk_cs ++ [20063]) ++ (q.2.map zk_cs ++ [20059]) ++ zk_flat r
/-- a list lies in a row of cells -/
def zk_sg (f : Nat → Int32) : Nat → List Int32 → Prop
  | _, [] => True
  | p, v :: r => f p = v ∧ zk_sg f (p + 1) r
def zk_lay (asks says ends code : Nat → Int32) : Nat → Nat → zk_lns → Prop
  | _, _, [] => True
  | j, a, q :: r => asks j = nI a ∧ says j = nI (a + q.1.length) ∧ ends j = nI (a + q.1.length + q.2.length) ∧ zk_sg code a (q.1.map nI) ∧ zk_sg code (a + q.1.length) (q.2.map nI) ∧ zk_lay asks says ends code (j + 1) (a + q.1.length + q.2.length) r
/-- both keep the same law -/
def zk_lpd (lw : Option zk_lns) : zk_lp := fun sz st told ln asks says ends code => match lw with
  | none => sz = 0 ∧ told = 0
  | some L => L ≠ [] ∧ zk_okL L ∧ told = 1 ∧ (zk_flat L).length ≤ 121 ∧ sz = nI (zk_flat L).length ∧ zk_sg st 0 (zk_flat L) ∧ ln = nI L.length ∧ L.length ≤ 60 ∧ zk_lay asks says ends code 0 0 L
def zk_lpe : zk_lp := fun sz st told ln asks says ends code => ∃ lw, zk_lpd lw sz st told ln asks says ends code
theorem zk_sg_app {f : Nat → Int32} : ∀ {a b : List Int32} {p : Nat}, zk_sg f p (a ++ b) ↔ zk_sg f p a ∧ zk_sg f (p + a.length) b
  | [], b, p => by simp [zk_sg]
  | v :: a, b, p => by
    show f p = v ∧ zk_sg f (p + 1) (a ++ b) ↔ (f p = v ∧ zk_sg f (p + 1) a) ∧ zk_sg f (p + (a.length + 1)) b
    rw [zk_sg_app, show p + 1 + a.length = p + (a.length + 1) by omega, and_assoc]
theorem zk_wf_run {nm : Nat → Int32} : ∀ {l : List Nat} {n e : Nat} {s : Nat → Int32}, zk_wf l n e → (zk_run nm l (s, n)).2 = e
  | [], n, e, s, h => h
  | c :: r, n, e, s, h => by
    obtain ⟨h1, h2⟩ := h
    unfold zk_run zk_stp
    by_cases a : c ≤ 5
    · rw [if_pos (Or.inl a)] at h2
      rw [if_pos a]
      exact zk_wf_run h2
    · rw [if_neg a]
      by_cases b : 18 ≤ c
      · rw [if_pos (Or.inr b)] at h2
        rw [if_pos b]
        exact zk_wf_run h2
      · rw [if_neg b]
        rw [if_neg (by omega)] at h2
        by_cases d : 16 ≤ c
        · rw [if_pos d] at h2
          rw [if_pos d]
          exact zk_wf_run h2.2
        · rw [if_neg d] at h2
          rw [if_neg d]
          exact zk_wf_run h2.2
/-- what lies at places that count decides -/
theorem zk_run_c {nm nm' : Nat → Int32} (hn : ∀ c, c ≤ 5 → nm c = nm' c) : ∀ (l : List Nat) (q : zk_sk), zk_run nm l q = zk_run nm' l q
  | [], _ => rfl
  | c :: r, q => by
    unfold zk_run
    have e : zk_stp nm c q = zk_stp nm' c q := by
      unfold zk_stp
      by_cases a : c ≤ 5
      · rw [if_pos a, if_pos a, hn c a]
      · rw [if_neg a, if_neg a]
    rw [e]
    exact zk_run_c hn r _
theorem zk_vL_c {nm nm' : Nat → Int32} (hn : ∀ c, c ≤ 5 → nm c = nm' c) : ∀ (L : zk_lns), zk_vL nm L = zk_vL nm' L
  | [] => rfl
  | q :: r => by
    unfold zk_vL zk_vE
    rw [zk_run_c hn, zk_run_c hn, zk_vL_c hn r]
theorem zk_wf_len : ∀ {l : List Nat} {n e : Nat}, zk_wf l n e → e ≤ n + l.length
  | [], n, e, h => by have : n = e := h; subst this; simp
  | c :: r, n, e, h => by
    obtain ⟨-, h2⟩ := h
    rw [List.length_cons]
    split at h2
    · have := zk_wf_len h2; omega
    · split at h2
      · have := zk_wf_len h2.2; omega
      · have := zk_wf_len h2.2; omega
theorem zk_wf_c {l : List Nat} {n e : Nat} (h : zk_wf l n e) : ∀ c ∈ l, c < 10018 := by
  induction l generalizing n with
  | nil => intro c hc; cases hc
  | cons d r ih =>
    intro c hc
    obtain ⟨h1, h2⟩ := h
    rcases List.mem_cons.mp hc with rfl | hc
    · exact h1
    · split at h2
      · exact ih h2 c hc
      · split at h2
        · exact ih h2.2 c hc
        · exact ih h2.2 c hc
theorem zk_cs_v {c : Nat} (h : c < 10018) : ∃ n, zk_cs c = nI n ∧ n < 20200 ∧ n ≠ 20059 ∧ n ≠ 20063 := by
  unfold zk_cs
  refine ⟨_, rfl, ?_⟩
  by_cases a : c ≤ 5
  · rw [if_pos a]; omega
  · rw [if_neg a]
    by_cases b : c ≤ 17
    · rw [if_pos b]
      have : ∀ d, d < 18 → 20000 + zk_sgn d < 20200 ∧ 20000 + zk_sgn d ≠ 20059 ∧ 20000 + zk_sgn d ≠ 20063 := by decide +kernel
      exact this c (by omega)
    · rw [if_neg b]; omega
