/-! THE SMALL MACHINE: cells at fixed places, a step an instruction, as a transformer of propositions. What it says of a method is carried over to the machine once, by zk_met at the end of part 04. -/
abbrev zk_M : Type := MethodName × ByteArray × Nat × Option FieldType
/-- a world: its cells' kinds and lengths (0 ints, 1 longs, 2 shelves, 3 rows of ints, c + 4 an object of class c), where its references lead -/
abbrev zk_Wd : Type := List (Nat × Nat) × (Nat → Nat → Option Nat)
/-- what its cells hold: ints, longs -/
abbrev zk_H : Type := (Nat → Nat → Int32) × (Nat → Nat → Int64)
/-- the classes and slots, the array classes, the addresses -/
abbrev zk_E : Type := va_G × (Nat → ClassId) × (Nat → Nat)
abbrev zk_Q : Type := (Int32 → zk_H → Prop) × (Int64 → zk_H → Prop) × (Unit → zk_H → Prop) × (Value → zk_H → Prop)
abbrev zk_P : Type := List Value → zk_H → zk_Q → Prop
abbrev zk_L : Type := List (Option Value)
abbrev zk_K : Type := Nat → zk_L → List Value → zk_H → Prop
def zk_si (h : zk_H) (k j : Nat) (v : Int32) : zk_H := (fun a b => if a = k then (if b = j then v else h.1 a b) else h.1 a b, h.2)
def zk_sl (h : zk_H) (k j : Nat) (v : Int64) : zk_H := (h.1, fun a b => if a = k then (if b = j then v else h.2 a b) else h.2 a b)
def zk_wi (h : zk_H) (k : Nat) (f : Nat → Int32) : zk_H := (fun a b => if a = k then f b else h.1 a b, h.2)
def zk_wl (h : zk_H) (k : Nat) (f : Nat → Int64) : zk_H := (h.1, fun a b => if a = k then f b else h.2 a b)
def zk_gl (L : zk_L) (i : Nat) : Option Value := match L[i]? with
  | some o => o
  | none => none
def zk_wide (L : zk_L) (i : Nat) : Bool := match i with
  | 0 => false
  | k + 1 => match zk_gl L k with
    | some (.long _) => true
    | some (.double _) => true
    | _ => false
def zk_st1 (L : zk_L) (i : Nat) (v : Value) : Option zk_L := bif Nat.blt i L.length && !(zk_wide L i) then some (L.set i (some v)) else none
def zk_st2 (L : zk_L) (i : Nat) (v : Value) : Option zk_L := bif Nat.blt (i + 1) L.length && !(zk_wide L i) then some ((L.set i (some v)).set (i + 1) none) else none
def zk_on {α : Type} (o : Option α) (f : α → Prop) : Prop := match o with
  | some a => f a
  | none => False
def zk_p1i (st : List Value) (k : Int32 → List Value → Prop) : Prop := match st with
  | .int x :: r => k x r
  | _ => False
def zk_p2i (st : List Value) (k : Int32 → Int32 → List Value → Prop) : Prop := match st with
  | .int y :: .int x :: r => k x y r
  | _ => False
def zk_p1l (st : List Value) (k : Int64 → List Value → Prop) : Prop := match st with
  | .long x :: r => k x r
  | _ => False
def zk_p2l (st : List Value) (k : Int64 → Int64 → List Value → Prop) : Prop := match st with
  | .long y :: .long x :: r => k x y r
  | _ => False
def zk_pli (st : List Value) (k : Int64 → Int32 → List Value → Prop) : Prop := match st with
  | .int y :: .long x :: r => k x y r
  | _ => False
/-- index and array -/
def zk_pia (st : List Value) (k : Int32 → Value → List Value → Prop) : Prop := match st with
  | .int i :: a :: r => k i a r
  | _ => False
def zk_piia (st : List Value) (k : Int32 → Int32 → Value → List Value → Prop) : Prop := match st with
  | .int x :: .int i :: a :: r => k x i a r
  | _ => False
def zk_plia (st : List Value) (k : Int64 → Int32 → Value → List Value → Prop) : Prop := match st with
  | .long x :: .int i :: a :: r => k x i a r
  | _ => False
def zk_pv (st : List Value) (k : Value → List Value → Prop) : Prop := match st with
  | v :: r => k v r
  | _ => False
/-- an int under a reference to an object (putfield) -/
def zk_piv (st : List Value) (k : Int32 → Value → List Value → Prop) : Prop := match st with
  | .int x :: v :: r => k x v r
  | _ => False
/-- a value that is a reference or null -/
def zk_pr (st : List Value) (k : Value → List Value → Prop) : Prop := match st with
  | .ref a :: r => k (.ref a) r
  | .retAddr a :: r => k (.retAddr a) r
  | .null :: r => k .null r
  | _ => False
def zk_lr (o : Option Value) (k : Value → Prop) : Prop := match o with
  | some (.ref a) => k (.ref a)
  | some (.retAddr a) => k (.retAddr a)
  | some .null => k .null
  | _ => False
def zk_li (o : Option Value) (k : Int32 → Prop) : Prop := match o with
  | some (.int x) => k x
  | _ => False
def zk_ll (o : Option Value) (k : Int64 → Prop) : Prop := match o with
  | some (.long x) => k x
  | _ => False
/-- a jump -/
def zk_j (pc : Nat) (o : Int) (f : Nat → Prop) : Prop := match (pc : Int) + o with
  | .ofNat t => f t
  | .negSucc _ => False
/-- an object of class c; an array of a kind. A cell's place that is not a written number is told as .retAddr -/
def zk_iso (w : zk_Wd) (v : Value) (c : Nat) (k : Nat → Prop) : Prop := match v with
  | .ref a => match w.1[a]? with
    | some s => bif Nat.beq s.1 (c + 4) && Nat.beq s.2 (zk_N c) then k a else False
    | none => False
  | .retAddr a => w.1[a]? = some (c + 4, zk_N c) ∧ k a
  | _ => False
def zk_isa (w : zk_Wd) (v : Value) (kd : Nat) (k : Nat → Nat → Prop) : Prop := match v with
  | .ref a => match w.1[a]? with
    | some s => bif Nat.beq s.1 kd then k a s.2 else False
    | none => False
  | .retAddr a => ∃ n, w.1[a]? = some (kd, n) ∧ k a n
  | _ => False
/-- constant arrays: of the places 1000 .. -/
def zk_rom : List (FieldType × List Int32) := [(.int, [0, 0, 0, 0, 0, 0, 0, -1, -1, 0, 0, 0, 0]), (.int, [99, 99, 3, 9, 255, 255, 99, 3, 7, 1, 12, 99, 99]), (.int, [-1, 0, 0, 2, 1, 3, 0, 4]), (.int, [1, 10, 11, 2, 20, 0, 0, 0, 0, 30, 0, 0, 0, 41, 40, 0, 0, 0, 50, 0, 0, 0, 0, 60, 70, 0, 0, 0, 0, 80, 0, 81]), (.byte, [108, 104, 115, 107, 109, 99])]
def zk_sta : List (String × String × String × Value) := [(RX4, "LEAST", "[I", .ref 1000), (RX4, "MOST", "[I", .ref 1001), (RX0, "ABOVE", "[I", .ref 1002), (RX0, "OWN", "[I", .ref 1003), ("java/lang/String", "COMPACT_STRINGS", "Z", .int 1)]
def zk_sw (x : Int32) (jump : Int → Prop) (D : Prop) : Int → List Int → Prop
  | _, [] => D
  | v, o :: os => (x = Int32.ofInt v → jump o) ∧ (¬ x = Int32.ofInt v → zk_sw x jump D (v + 1) os)
def zk_lsw (x : Int32) (jump : Int → Prop) (D : Prop) : List (Int × Int) → Prop
  | [] => D
  | q :: qs => (x = Int32.ofInt q.1 → jump q.2) ∧ (¬ x = Int32.ofInt q.1 → zk_lsw x jump D qs)
/-- what an entry of a class' pool is: kind, two numbers, an int -/
abbrev zk_Ln : Type := Nat × Nat × Nat × Int
/-- a method's number leads to: its words, how many arguments it takes (receiver apart), its receiver's class (200: it has none; 100: the constant text) -/
abbrev zk_Mt : Type := Nat → zk_M × Nat × Nat
def zk_cats (r : List Value) : Nat := (r.map fun v => v.category).sum
def zk_cont (k : zk_K) (pc : Nat) (L : zk_L) (r : List Value) : zk_Q := (fun x h => k (pc + 3) L (.int x :: r) h, fun x h => k (pc + 3) L (.long x :: r) h, fun _ h => k (pc + 3) L r h, fun v h => k (pc + 3) L (v :: r) h)
def zk_recv (w : zk_Wd) (rc : Nat) (as : List Value) (f : Prop) : Prop := match as with
  | v :: _ => bif Nat.blt rc 100 then zk_iso w v rc (fun _ => f) else (match v with
    | .ref a => bif Nat.beq a 2000 then f else False
    | _ => False)
  | [] => False
def zk_callS (mt : zk_Mt) (cx : Nat → zk_P) (k : zk_K) (a pc : Nat) (L : zk_L) (st : List Value) (h : zk_H) : Prop :=
  bif Nat.ble (mt a).2.1 st.length && Nat.ble (zk_cats (st.drop (mt a).2.1)) 8 && Nat.beq (mt a).2.2 200 then cx a (st.take (mt a).2.1).reverse h (zk_cont k pc L (st.drop (mt a).2.1)) else False
def zk_callV (w : zk_Wd) (mt : zk_Mt) (cx : Nat → zk_P) (k : zk_K) (a pc : Nat) (L : zk_L) (st : List Value) (h : zk_H) : Prop :=
  bif Nat.ble ((mt a).2.1 + 1) st.length && Nat.ble (zk_cats (st.drop ((mt a).2.1 + 1))) 8 && Nat.ble (mt a).2.2 100 then zk_recv w (mt a).2.2 (st.take ((mt a).2.1 + 1)).reverse (cx a (st.take ((mt a).2.1 + 1)).reverse h (zk_cont k pc L (st.drop ((mt a).2.1 + 1)))) else False
def zk_len (ins : Instr) (l : Nat) : Nat := match ins with
  | .tableswitch .. => l
  | .lookupswitch .. => l
  | .aload _ | .iload _ | .lload _ | .astore _ | .istore _ | .lstore _ | .bipush _ | .ldc _ => 2
  | .sipush _ | .iinc .. | .ifCond .. | .if_icmp .. | .ifnull _ | .ifnonnull _ | .goto _ | .getfield _ | .putfield _ | .getstatic _ | .invokevirtual _ | .invokestatic _ | .ldc_w _ | .ldc2_w _ => 3
  | _ => 1
/-- a step. md: 1 where a place that is read is not a written number; a switch's length -/
def zk_S (w : zk_Wd) (lk : Nat → zk_Ln) (mt : zk_Mt) (cx : Nat → zk_P) (rt : Option FieldType) (Q : zk_Q) (k : zk_K) (ins : Instr) (md pc : Nat) (L : zk_L) (st : List Value) (h : zk_H) : Prop :=
  match ins with
  | .aload_n i => zk_lr (zk_gl L i) fun v => k (pc + 1) L (v :: st) h
  | .aload i => zk_lr (zk_gl L i) fun v => k (pc + 2) L (v :: st) h
  | .iload_n i => zk_li (zk_gl L i) fun x => k (pc + 1) L (.int x :: st) h
  | .iload i => zk_li (zk_gl L i) fun x => k (pc + 2) L (.int x :: st) h
  | .lload_n i => zk_ll (zk_gl L i) fun x => k (pc + 1) L (.long x :: st) h
  | .lload i => zk_ll (zk_gl L i) fun x => k (pc + 2) L (.long x :: st) h
  | .istore_n i => zk_p1i st fun x r => zk_on (zk_st1 L i (.int x)) fun L' => k (pc + 1) L' r h
  | .istore i => zk_p1i st fun x r => zk_on (zk_st1 L i (.int x)) fun L' => k (pc + 2) L' r h
  | .astore_n i => zk_pr st fun v r => zk_on (zk_st1 L i v) fun L' => k (pc + 1) L' r h
  | .astore i => zk_pr st fun v r => zk_on (zk_st1 L i v) fun L' => k (pc + 2) L' r h
  | .lstore_n i => zk_p1l st fun x r => zk_on (zk_st2 L i (.long x)) fun L' => k (pc + 1) L' r h
  | .lstore i => zk_p1l st fun x r => zk_on (zk_st2 L i (.long x)) fun L' => k (pc + 2) L' r h
  | .iinc i n => zk_li (zk_gl L i) fun x => zk_on (zk_st1 L i (.int (x + Int32.ofInt n))) fun L' => k (pc + 3) L' st h
  | .iconst n => k (pc + 1) L (.int (Int32.ofInt n) :: st) h
  | .bipush n => k (pc + 2) L (.int (Int8.ofInt n).toInt32 :: st) h
  | .sipush n => k (pc + 3) L (.int (Int16.ofInt n).toInt32 :: st) h
  | .lconst n => k (pc + 1) L (.long (Int64.ofNat n) :: st) h
  | .aconst_null => k (pc + 1) L (.null :: st) h
  | .ldc i => match lk i with
    | (7, _, _, z) => k (pc + 2) L (.int (Int32.ofInt z) :: st) h
    | (9, _, _, _) => k (pc + 2) L (.ref 2000 :: st) h
    | _ => False
  | .ldc_w i => match lk i with
    | (7, _, _, z) => k (pc + 3) L (.int (Int32.ofInt z) :: st) h
    | _ => False
  | .ldc2_w i => match lk i with
    | (8, _, _, z) => k (pc + 3) L (.long (Int64.ofInt z) :: st) h
    | _ => False
  | .iadd => zk_p2i st fun x y r => k (pc + 1) L (.int (x + y) :: r) h
  | .isub => zk_p2i st fun x y r => k (pc + 1) L (.int (x - y) :: r) h
  | .imul => zk_p2i st fun x y r => k (pc + 1) L (.int (x * y) :: r) h
  | .iand => zk_p2i st fun x y r => k (pc + 1) L (.int (x &&& y) :: r) h
  | .ior => zk_p2i st fun x y r => k (pc + 1) L (.int (x ||| y) :: r) h
  | .ixor => zk_p2i st fun x y r => k (pc + 1) L (.int (x ^^^ y) :: r) h
  | .ishl => zk_p2i st fun x y r => k (pc + 1) L (.int (x <<< (y &&& 31)) :: r) h
  | .ishr => zk_p2i st fun x y r => k (pc + 1) L (.int (x >>> (y &&& 31)) :: r) h
  | .iushr => zk_p2i st fun x y r => k (pc + 1) L (.int (x.toUInt32 >>> (y.toUInt32 &&& Int32.toUInt32 31)).toInt32 :: r) h
  | .ineg => zk_p1i st fun x r => k (pc + 1) L (.int (-x) :: r) h
  | .idiv => zk_p2i st fun x y r => ¬ y = 0 ∧ k (pc + 1) L (.int (x / y) :: r) h
  | .irem => zk_p2i st fun x y r => ¬ y = 0 ∧ k (pc + 1) L (.int (x - x / y * y) :: r) h
  | .ladd => zk_p2l st fun x y r => k (pc + 1) L (.long (x + y) :: r) h
  | .lmul => zk_p2l st fun x y r => k (pc + 1) L (.long (x * y) :: r) h
  | .land => zk_p2l st fun x y r => k (pc + 1) L (.long (x &&& y) :: r) h
  | .lor => zk_p2l st fun x y r => k (pc + 1) L (.long (x ||| y) :: r) h
  | .lshl => zk_pli st fun x y r => k (pc + 1) L (.long (x <<< (y.toInt64 &&& 63)) :: r) h
  | .lcmp => zk_p2l st fun x y r => k (pc + 1) L (.int (lg_cmp x y) :: r) h
  | .i2l => zk_p1i st fun x r => k (pc + 1) L (.long x.toInt64 :: r) h
  | .l2i => zk_p1l st fun x r => k (pc + 1) L (.int x.toInt32 :: r) h
  | .i2b => zk_p1i st fun x r => k (pc + 1) L (.int x.toInt8.toInt32 :: r) h
  | .i2s => zk_p1i st fun x r => k (pc + 1) L (.int x.toInt16.toInt32 :: r) h
  | .i2c => zk_p1i st fun x r => k (pc + 1) L (.int (x.toUInt32 % 65536).toInt32 :: r) h
  | .dup => zk_pv st fun v r => bif Nat.beq v.category 1 then k (pc + 1) L (v :: v :: r) h else False
  | .pop => zk_pv st fun v r => bif Nat.beq v.category 1 then k (pc + 1) L r h else False
  | .dup_x1 => zk_pv st fun v r => zk_pv r fun u r => bif Nat.beq v.category 1 && Nat.beq u.category 1 then k (pc + 1) L (v :: u :: v :: r) h else False
  | .dup2 => zk_pv st fun v r => zk_pv r fun u r => bif Nat.beq v.category 1 && Nat.beq u.category 1 then k (pc + 1) L (v :: u :: v :: u :: r) h else False
  | .goto o => zk_j pc o fun t => k t L st h
  | .ifCond c o => zk_p1i st fun x r => zk_j pc o fun t => match c with
    | .eq => (x = 0 → k t L r h) ∧ (¬ x = 0 → k (pc + 3) L r h)
    | .ne => (¬ x = 0 → k t L r h) ∧ (x = 0 → k (pc + 3) L r h)
    | .lt => (x < 0 → k t L r h) ∧ (¬ x < 0 → k (pc + 3) L r h)
    | .ge => (0 ≤ x → k t L r h) ∧ (¬ 0 ≤ x → k (pc + 3) L r h)
    | .gt => (0 < x → k t L r h) ∧ (¬ 0 < x → k (pc + 3) L r h)
    | .le => (x ≤ 0 → k t L r h) ∧ (¬ x ≤ 0 → k (pc + 3) L r h)
  | .if_icmp c o => zk_p2i st fun x y r => zk_j pc o fun t => match c with
    | .eq => (x = y → k t L r h) ∧ (¬ x = y → k (pc + 3) L r h)
    | .ne => (¬ x = y → k t L r h) ∧ (x = y → k (pc + 3) L r h)
    | .lt => (x < y → k t L r h) ∧ (¬ x < y → k (pc + 3) L r h)
    | .ge => (y ≤ x → k t L r h) ∧ (¬ y ≤ x → k (pc + 3) L r h)
    | .gt => (y < x → k t L r h) ∧ (¬ y < x → k (pc + 3) L r h)
    | .le => (x ≤ y → k t L r h) ∧ (¬ x ≤ y → k (pc + 3) L r h)
  | .ifnull o => zk_j pc o fun t => match st with
    | .null :: r => k t L r h
    | .ref _ :: r => k (pc + 3) L r h
    | .retAddr _ :: r => k (pc + 3) L r h
    | _ => False
  | .ifnonnull o => zk_j pc o fun t => match st with
    | .null :: r => k (pc + 3) L r h
    | .ref _ :: r => k t L r h
    | .retAddr _ :: r => k t L r h
    | _ => False
  | .tableswitch d lo hi os => zk_p1i st fun x r => bif decide (-2147483648 ≤ lo) && decide (lo + os.toList.length ≤ 2147483647) && decide (hi + 1 = lo + os.toList.length) then zk_sw x (fun o => zk_j pc o fun t => k t L r h) (zk_j pc d fun t => k t L r h) lo os.toList else False
  | .lookupswitch d ps => zk_p1i st fun x r => bif (ps.toList.zip (ps.toList.drop 1)).all (fun (a, next) => a.1 < next.1) && ps.toList.all (fun q => decide (-2147483648 ≤ q.1) && decide (q.1 ≤ 2147483647)) then zk_lsw x (fun o => zk_j pc o fun t => k t L r h) (zk_j pc d fun t => k t L r h) ps.toList else False
  | .getfield i => zk_pv st fun v r => match lk i with
    | (0, c, j, _) => zk_iso w v c fun a => k (pc + 3) L (.int (h.1 a j) :: r) h
    | (12, c, j, _) => zk_iso w v c fun a => k (pc + 3) L (.int (h.1 a j) :: r) h
    | (1, c, j, _) => zk_iso w v c fun a => match md with
      | 0 => k (pc + 3) L (va_rf (w.2 a j) :: r) h
      | _ => ∃ b, w.2 a j = some b ∧ k (pc + 3) L (.retAddr b :: r) h
    | (10, _, _, _) => match v with
      | .ref a => bif Nat.beq a 2000 then k (pc + 3) L (.ref 1004 :: r) h else False
      | _ => False
    | (11, _, _, _) => match v with
      | .ref a => bif Nat.beq a 2000 then k (pc + 3) L (.int 0 :: r) h else False
      | _ => False
    | _ => False
  | .putfield i => zk_piv st fun x v r => match lk i with
    | (0, c, j, _) => zk_iso w v c fun a => k (pc + 3) L r (zk_si h a j x)
    | (12, c, j, _) => zk_iso w v c fun a => (x = 0 ∨ x = 1) ∧ k (pc + 3) L r (zk_si h a j x)
    | _ => False
  | .getstatic i => match lk i with
    | (2, a, _, _) => zk_on zk_sta[a]? fun q => k (pc + 3) L (q.2.2.2 :: st) h
    | _ => False
  | .iaload => zk_pia st fun i v r => match v with
    | .ref a => bif Nat.blt a 1000 then zk_isa w (.ref a) 0 (fun a n => vp_in i n ∧ k (pc + 1) L (.int (h.1 a i.toNatClampNeg) :: r) h) else zk_on zk_rom[a - 1000]? fun q => bif decide (q.1 = .int) then vp_in i q.2.length ∧ k (pc + 1) L (.int (q.2.getD i.toNatClampNeg 0) :: r) h else False
    | v => zk_isa w v 0 fun a n => vp_in i n ∧ k (pc + 1) L (.int (h.1 a i.toNatClampNeg) :: r) h
  | .baload => zk_pia st fun i v r => match v with
    | .ref a => bif Nat.beq a 1004 then vp_in i 6 ∧ k (pc + 1) L (.int (([108, 104, 115, 107, 109, 99] : List Int32).getD i.toNatClampNeg 0) :: r) h else False
    | _ => False
  | .laload => zk_pia st fun i v r => zk_isa w v 1 fun a n => vp_in i n ∧ k (pc + 1) L (.long (h.2 a i.toNatClampNeg) :: r) h
  | .aaload => zk_pia st fun i v r => match md with
    | 0 => zk_isa w v 3 fun a n => vp_in i n ∧ k (pc + 1) L (va_rf (w.2 a i.toNatClampNeg) :: r) h
    | 1 => zk_isa w v 3 fun a n => vp_in i n ∧ ∃ b, w.2 a i.toNatClampNeg = some b ∧ k (pc + 1) L (.retAddr b :: r) h
    | _ => zk_isa w v 2 fun a n => vp_in i n ∧ ∃ b, w.2 a i.toNatClampNeg = some b ∧ k (pc + 1) L (.retAddr b :: r) h
  | .iastore => zk_piia st fun x i v r => zk_isa w v 0 fun a n => vp_in i n ∧ k (pc + 1) L r (zk_si h a i.toNatClampNeg x)
  | .lastore => zk_plia st fun x i v r => zk_isa w v 1 fun a n => vp_in i n ∧ k (pc + 1) L r (zk_sl h a i.toNatClampNeg x)
  | .arraylength => zk_pv st fun v r => match v with
    | .ref a => match w.1[a]? with
      | some s => bif Nat.blt s.1 2 then k (pc + 1) L (.int (Int32.ofNat s.2) :: r) h else False
      | none => bif Nat.beq a 1004 then k (pc + 1) L (.int 6 :: r) h else False
    | .retAddr a => ∃ kd n, kd < 2 ∧ w.1[a]? = some (kd, n) ∧ k (pc + 1) L (.int (Int32.ofNat n) :: r) h
    | _ => False
  | .invokestatic i => match lk i with
    | (3, a, _, _) => zk_callS mt cx k a pc L st h
    | (4, _, _, _) => zk_p2i st fun x y r => bif Nat.ble (zk_cats r) 8 then k (pc + 3) L (.int (if x < y then y else x) :: r) h else False
    | (5, _, _, _) => zk_p2i st fun x y r => bif Nat.ble (zk_cats r) 8 then k (pc + 3) L (.int (if y < x then y else x) :: r) h else False
    | (6, _, _, _) => match st with
      | [.int n, .int dp, v, .int sp, u] => match md with
        | 0 => zk_isa w u 0 fun a0 n0 => zk_isa w v 0 fun a n1 => (¬ sp < 0 ∧ ¬ dp < 0 ∧ ¬ n < 0 ∧ sp.toNatClampNeg + n.toNatClampNeg ≤ n0 ∧ dp.toNatClampNeg + n.toNatClampNeg ≤ n1) ∧ k (pc + 3) L [] (zk_wi h a (va_cpy (h.1 a0) (h.1 a) sp.toNatClampNeg dp.toNatClampNeg n.toNatClampNeg))
        | _ => zk_isa w u 1 fun a0 n0 => zk_isa w v 1 fun a n1 => (¬ sp < 0 ∧ ¬ dp < 0 ∧ ¬ n < 0 ∧ sp.toNatClampNeg + n.toNatClampNeg ≤ n0 ∧ dp.toNatClampNeg + n.toNatClampNeg ≤ n1) ∧ k (pc + 3) L [] (zk_wl h a (va_cpy (h.2 a0) (h.2 a) sp.toNatClampNeg dp.toNatClampNeg n.toNatClampNeg))
      | _ => False
    | _ => False
  | .invokevirtual i => match lk i with
    | (3, a, _, _) => zk_callV w mt cx k a pc L st h
    | _ => False
  | .ireturn => match st with
    | [.int v] => match rt with
      | some .int => Q.1 v h
      | some .boolean => (v = 0 ∨ v = 1) ∧ Q.1 v h
      | some .byte => v.toInt8.toInt32 = v ∧ Q.1 v h
      | _ => False
    | _ => False
  | .lreturn => match st with
    | [.long v] => match rt with
      | some .long => Q.2.1 v h
      | _ => False
    | _ => False
  | .return_ => match st with
    | [] => match rt with
      | none => Q.2.2.1 () h
      | _ => False
    | _ => False
  | .areturn => match st with
    | [v] => match rt with
      | some (.object _) => zk_pr [v] fun v _ => Q.2.2.2 v h
      | _ => False
    | _ => False
  | _ => False
/-- a step at a place of a method's code -/
def zk_Sp (w : zk_Wd) (lk : Nat → zk_Ln) (mt : zk_Mt) (cx : Nat → zk_P) (rt : Option FieldType) (cd : Nat → Option (Instr × Nat)) (Q : zk_Q) (k : zk_K) : zk_K := fun pc L st h => match cd pc with
  | some q => zk_S w lk mt cx rt Q k q.1 q.2 pc L st h
  | none => False
/-- from here the method comes to an end where Q holds: the least such -/
def zk_X (w : zk_Wd) (lk : Nat → zk_Ln) (mt : zk_Mt) (cx : Nat → zk_P) (rt : Option FieldType) (cd : Nat → Option (Instr × Nat)) (Q : zk_Q) : zk_K := fun pc L st h => ∀ Z : zk_K, (∀ pc L st h, zk_Sp w lk mt cx rt cd Q Z pc L st h → Z pc L st h) → Z pc L st h
/-- some steps, up to a place of stops -/
def zk_R (w : zk_Wd) (lk : Nat → zk_Ln) (mt : zk_Mt) (cx : Nat → zk_P) (rt : Option FieldType) (cd : Nat → Option (Instr × Nat)) (Q : zk_Q) (stops : List Nat) (k : zk_K) : Nat → zk_K
  | 0 => fun _ _ _ _ => False
  | n + 1 => zk_Sp w lk mt cx rt cd Q (fun pc L st h => bif stops.any (Nat.beq pc) then k pc L st h else zk_R w lk mt cx rt cd Q stops k n pc L st h)
