/-! Evenings -/
theorem zk_dist (a b d : Int32) : (a ||| b) &&& d = (a &&& d) ||| (b &&& d) := by
  apply Int32.toBitVec_inj.mp
  rw [Int32.toBitVec_and, Int32.toBitVec_or, Int32.toBitVec_or, Int32.toBitVec_and, Int32.toBitVec_and]
  apply BitVec.eq_of_getLsbD_eq
  intro i hi
  rw [BitVec.getLsbD_and, BitVec.getLsbD_or, BitVec.getLsbD_or, BitVec.getLsbD_and, BitVec.getLsbD_and]
  cases a.toBitVec.getLsbD i <;> cases b.toBitVec.getLsbD i <;> cases d.toBitVec.getLsbD i <;> rfl
/-- told on, by who stands in M -/
def zk_tf (L : Nat → Int32) (all M : Int32) : Nat → Int32
  | 0 => M
  | i + 1 => if (M >>> (nI i &&& 31)) &&& 1 = 1 then zk_tf L all M i ||| (L i &&& all) else zk_tf L all M i
def zk_tg (L : Nat → Int32) (M : Int32) : Nat → Int32
  | 0 => M
  | i + 1 => if (M >>> (nI i &&& 31)) &&& 1 = 1 then zk_tg L M i ||| L i else zk_tg L M i
theorem zk_tgf {L : Nat → Int32} {all M : Int32} (h : M &&& all = M) : ∀ n, zk_tg L M n &&& all = zk_tf L all M n
  | 0 => h
  | i + 1 => by
    unfold zk_tg zk_tf
    by_cases q : (M >>> (nI i &&& 31)) &&& 1 = 1
    · rw [if_pos q, if_pos q, zk_dist, zk_tgf h i]
    · rw [if_neg q, if_neg q, zk_tgf h i]
theorem zk_tf_in {L : Nat → Int32} {all M : Int32} (h : M &&& all = M) (n : Nat) : zk_tf L all M n &&& all = zk_tf L all M n := by
  rw [← zk_tgf h n, Int32.and_assoc, Int32.and_self]
def zk_ev (L : Nat → Int32) (all M : Int32) (P : Nat) : Nat → Int32
  | 0 => M
  | t + 1 => zk_tf L all (zk_ev L all M P t) P
theorem zk_ev_in {L : Nat → Int32} {all M : Int32} {P : Nat} (h : M &&& all = M) : ∀ t, zk_ev L all M P t &&& all = zk_ev L all M P t
  | 0 => h
  | t + 1 => zk_tf_in (zk_ev_in h t) P
section ZKW
variable {K : Int32 → zk_H → Prop} {h : zk_H} {x y M : Int32} {P : Nat}
theorem l_toldOn_4 (hP : P ≤ 8) (e : h.1 1 1 = nI P) (hM : M &&& nI (zk_mask (fun _ => true) P) = M) (H : K (zk_tf (h.1 7) (nI (zk_mask (fun _ => true) P)) M P) h) :
    ∀ (n i : Nat), i + n = P → (zk_X zk_C (zk_lkl lkX4) zk_mt (zk_cxl [(43, zk_iP pX4_everybody)]) (some .int) (zk_at cdX4_toldOn) (zk_qi K)) 4 [some (.ref 1), some (.int M), some (.int (zk_tg (h.1 7) M i)), some (.int (nI i))] [] h := by
  intro n
  induction n with
  | zero =>
    intro i hi
    have hiN : i = P := by omega
    subst hiN
    refine zk_bk hX4_toldOn (bX4_toldOn_4 ?_)
    rw [e]
    refine ⟨fun _ => jX4_everybody hP e ?_, fun q => absurd ((nI_leI (by omega) (by omega)).mpr (Nat.le_refl _)) q⟩
    rw [zk_tgf hM]
    exact H
  | succ n ih =>
    intro i hi
    have I := ih (i + 1) (by omega)
    refine zk_bk hX4_toldOn (bX4_toldOn_4 ?_)
    rw [e]
    refine ⟨fun q => absurd q (nI_ge (by omega) (by omega)), fun _ => ⟨fun q => ?_, fun q => ⟨(by unfold vp_in; decide), vp_in_nI (by omega) (by decide), ?_⟩⟩⟩
    · rw [zk_tg, if_neg (by rw [q]; decide)] at I
      rw [nI_1]
      exact I
    · rw [zk_tg, if_pos (zk_bitn.mp q)] at I
      rw [nI_1, nI_clamp (n := i) (by omega)]
      exact I
theorem jX4_toldOn (hP : P ≤ 8) (e : h.1 1 1 = nI P) (hM : M &&& nI (zk_mask (fun _ => true) P) = M) (H : K (zk_tf (h.1 7) (nI (zk_mask (fun _ => true) P)) M P) h) : pX4_toldOn [.ref 1, .int M] h K := by
  refine ⟨rfl, zk_bk hX4_toldOn (bX4_toldOn_0 ?_)⟩
  exact l_toldOn_4 hP e hM H P 0 (by omega)
end ZKW
