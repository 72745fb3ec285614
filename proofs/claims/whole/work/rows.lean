section
-- ===== PART A: goes FIRST, ahead of the names: the tables' words, and 'selects' of the private methods out of them =====
/-- a private method of a class that the tables say can be made, by its rows of tables_1 -/
def lw_okq (q : MethodName × Nat) : Prop := (q.1.cls ≠ "java/lang/invoke/MethodHandle" ∧ q.1.cls ≠ "java/lang/invoke/VarHandle") ∧ Cond.instantiable q.1.cls q.2 ∈ tables_1 ∧ Cond.privateMethod q.1 ∈ tables_1 ∧ Cond.instanceMethod q.1 ∈ tables_1
theorem lw_p0 : lw_okq (⟨"CardUnsigned", "shelfAt", "(I)LCardUnsigned$Shelf;"⟩, 10) := ⟨⟨by decide +kernel, by decide +kernel⟩, List.mem_of_getElem? (i := 23) (by decide +kernel), List.mem_of_getElem? (i := 394) (by decide +kernel), List.mem_of_getElem? (i := 395) (by decide +kernel)⟩
theorem lw_p1 : lw_okq (⟨"CardUnsigned$Rows", "comesFrom", "(LCardUnsigned$Shelf;I)Z"⟩, 3) := ⟨⟨by decide +kernel, by decide +kernel⟩, List.mem_of_getElem? (i := 225) (by decide +kernel), List.mem_of_getElem? (i := 406) (by decide +kernel), List.mem_of_getElem? (i := 407) (by decide +kernel)⟩
theorem lw_p2 : lw_okq (⟨"CardUnsigned$Changes", "dropOldest", "()V"⟩, 7) := ⟨⟨by decide +kernel, by decide +kernel⟩, List.mem_of_getElem? (i := 65) (by decide +kernel), List.mem_of_getElem? (i := 450) (by decide +kernel), List.mem_of_getElem? (i := 451) (by decide +kernel)⟩
theorem lw_p3 : lw_okq (⟨"CardUnsigned$Parser", "begin", "()V"⟩, 12) := ⟨⟨by decide +kernel, by decide +kernel⟩, List.mem_of_getElem? (i := 95) (by decide +kernel), List.mem_of_getElem? (i := 477) (by decide +kernel), List.mem_of_getElem? (i := 478) (by decide +kernel)⟩
theorem lw_p4 : lw_okq (⟨"CardUnsigned$Parser", "takes", "(I)Z"⟩, 12) := ⟨⟨by decide +kernel, by decide +kernel⟩, List.mem_of_getElem? (i := 95) (by decide +kernel), List.mem_of_getElem? (i := 481) (by decide +kernel), List.mem_of_getElem? (i := 482) (by decide +kernel)⟩
theorem lw_p5 : lw_okq (⟨"CardUnsigned$Parser", "takesBehindOperand", "(I)Z"⟩, 12) := ⟨⟨by decide +kernel, by decide +kernel⟩, List.mem_of_getElem? (i := 95) (by decide +kernel), List.mem_of_getElem? (i := 485) (by decide +kernel), List.mem_of_getElem? (i := 486) (by decide +kernel)⟩
theorem lw_p6 : lw_okq (⟨"CardUnsigned$Parser", "closesBracket", "()Z"⟩, 12) := ⟨⟨by decide +kernel, by decide +kernel⟩, List.mem_of_getElem? (i := 95) (by decide +kernel), List.mem_of_getElem? (i := 489) (by decide +kernel), List.mem_of_getElem? (i := 490) (by decide +kernel)⟩
theorem lw_p7 : lw_okq (⟨"CardUnsigned$Parser", "emitWaiting", "(I)V"⟩, 12) := ⟨⟨by decide +kernel, by decide +kernel⟩, List.mem_of_getElem? (i := 95) (by decide +kernel), List.mem_of_getElem? (i := 493) (by decide +kernel), List.mem_of_getElem? (i := 494) (by decide +kernel)⟩
theorem lw_p8 : lw_okq (⟨"CardUnsigned$Parser", "rankOf", "(I)I"⟩, 12) := ⟨⟨by decide +kernel, by decide +kernel⟩, List.mem_of_getElem? (i := 95) (by decide +kernel), List.mem_of_getElem? (i := 497) (by decide +kernel), List.mem_of_getElem? (i := 498) (by decide +kernel)⟩
theorem lw_p9 : lw_okq (⟨"CardUnsigned$Parser", "emit", "(I)V"⟩, 12) := ⟨⟨by decide +kernel, by decide +kernel⟩, List.mem_of_getElem? (i := 95) (by decide +kernel), List.mem_of_getElem? (i := 501) (by decide +kernel), List.mem_of_getElem? (i := 502) (by decide +kernel)⟩
theorem lw_p10 : lw_okq (⟨"CardUnsigned$Parser", "endOperand", "()V"⟩, 12) := ⟨⟨by decide +kernel, by decide +kernel⟩, List.mem_of_getElem? (i := 95) (by decide +kernel), List.mem_of_getElem? (i := 505) (by decide +kernel), List.mem_of_getElem? (i := 506) (by decide +kernel)⟩
theorem lw_p11 : lw_okq (⟨"CardUnsigned$Parser", "endsExpression", "(IZ)Z"⟩, 12) := ⟨⟨by decide +kernel, by decide +kernel⟩, List.mem_of_getElem? (i := 95) (by decide +kernel), List.mem_of_getElem? (i := 509) (by decide +kernel), List.mem_of_getElem? (i := 510) (by decide +kernel)⟩
theorem lw_p12 : lw_okq (⟨"CardUnsigned$Parser", "takesBetween", "(I)Z"⟩, 12) := ⟨⟨by decide +kernel, by decide +kernel⟩, List.mem_of_getElem? (i := 95) (by decide +kernel), List.mem_of_getElem? (i := 513) (by decide +kernel), List.mem_of_getElem? (i := 514) (by decide +kernel)⟩
theorem lw_p13 : lw_okq (⟨"CardUnsigned$Parser", "await", "(I)V"⟩, 12) := ⟨⟨by decide +kernel, by decide +kernel⟩, List.mem_of_getElem? (i := 95) (by decide +kernel), List.mem_of_getElem? (i := 517) (by decide +kernel), List.mem_of_getElem? (i := 518) (by decide +kernel)⟩
theorem lw_p14 : lw_okq (⟨"CardUnsigned$Parser", "beginsNumber", "(I)Z"⟩, 12) := ⟨⟨by decide +kernel, by decide +kernel⟩, List.mem_of_getElem? (i := 95) (by decide +kernel), List.mem_of_getElem? (i := 521) (by decide +kernel), List.mem_of_getElem? (i := 522) (by decide +kernel)⟩
theorem lw_p15 : lw_okq (⟨"CardUnsigned$Parser", "takesAsOperand", "(I)Z"⟩, 12) := ⟨⟨by decide +kernel, by decide +kernel⟩, List.mem_of_getElem? (i := 95) (by decide +kernel), List.mem_of_getElem? (i := 525) (by decide +kernel), List.mem_of_getElem? (i := 526) (by decide +kernel)⟩
def lw_privs_1 : List (MethodName × Nat) := [(⟨"CardUnsigned", "shelfAt", "(I)LCardUnsigned$Shelf;"⟩, 10), (⟨"CardUnsigned$Rows", "comesFrom", "(LCardUnsigned$Shelf;I)Z"⟩, 3), (⟨"CardUnsigned$Changes", "dropOldest", "()V"⟩, 7), (⟨"CardUnsigned$Parser", "begin", "()V"⟩, 12), (⟨"CardUnsigned$Parser", "takes", "(I)Z"⟩, 12), (⟨"CardUnsigned$Parser", "takesBehindOperand", "(I)Z"⟩, 12), (⟨"CardUnsigned$Parser", "closesBracket", "()Z"⟩, 12), (⟨"CardUnsigned$Parser", "emitWaiting", "(I)V"⟩, 12), (⟨"CardUnsigned$Parser", "rankOf", "(I)I"⟩, 12), (⟨"CardUnsigned$Parser", "emit", "(I)V"⟩, 12), (⟨"CardUnsigned$Parser", "endOperand", "()V"⟩, 12), (⟨"CardUnsigned$Parser", "endsExpression", "(IZ)Z"⟩, 12), (⟨"CardUnsigned$Parser", "takesBetween", "(I)Z"⟩, 12), (⟨"CardUnsigned$Parser", "await", "(I)V"⟩, 12), (⟨"CardUnsigned$Parser", "beginsNumber", "(I)Z"⟩, 12), (⟨"CardUnsigned$Parser", "takesAsOperand", "(I)Z"⟩, 12)]
theorem lw_r1 : ∀ q ∈ lw_privs_1, lw_okq q := List.forall_mem_cons.mpr ⟨lw_p0, List.forall_mem_cons.mpr ⟨lw_p1, List.forall_mem_cons.mpr ⟨lw_p2, List.forall_mem_cons.mpr ⟨lw_p3, List.forall_mem_cons.mpr ⟨lw_p4, List.forall_mem_cons.mpr ⟨lw_p5, List.forall_mem_cons.mpr ⟨lw_p6, List.forall_mem_cons.mpr ⟨lw_p7, List.forall_mem_cons.mpr ⟨lw_p8, List.forall_mem_cons.mpr ⟨lw_p9, List.forall_mem_cons.mpr ⟨lw_p10, List.forall_mem_cons.mpr ⟨lw_p11, List.forall_mem_cons.mpr ⟨lw_p12, List.forall_mem_cons.mpr ⟨lw_p13, List.forall_mem_cons.mpr ⟨lw_p14, List.forall_mem_cons.mpr ⟨lw_p15, fun _ h => absurd h List.not_mem_nil⟩⟩⟩⟩⟩⟩⟩⟩⟩⟩⟩⟩⟩⟩⟩⟩
theorem lw_p16 : lw_okq (⟨"CardUnsigned$Office", "whoIsIn", "(I)I"⟩, 3) := ⟨⟨by decide +kernel, by decide +kernel⟩, List.mem_of_getElem? (i := 31) (by decide +kernel), List.mem_of_getElem? (i := 637) (by decide +kernel), List.mem_of_getElem? (i := 638) (by decide +kernel)⟩
theorem lw_p17 : lw_okq (⟨"CardUnsigned$Thought", "countFor", "(II)I"⟩, 6) := ⟨⟨by decide +kernel, by decide +kernel⟩, List.mem_of_getElem? (i := 157) (by decide +kernel), List.mem_of_getElem? (i := 665) (by decide +kernel), List.mem_of_getElem? (i := 666) (by decide +kernel)⟩
theorem lw_p18 : lw_okq (⟨"CardUnsigned$Thought", "likenessOfHand", "(II)I"⟩, 6) := ⟨⟨by decide +kernel, by decide +kernel⟩, List.mem_of_getElem? (i := 157) (by decide +kernel), List.mem_of_getElem? (i := 673) (by decide +kernel), List.mem_of_getElem? (i := 674) (by decide +kernel)⟩
theorem lw_p19 : lw_okq (⟨"CardUnsigned$Law", "operandsOf", "(I)I"⟩, 3) := ⟨⟨by decide +kernel, by decide +kernel⟩, List.mem_of_getElem? (i := 141) (by decide +kernel), List.mem_of_getElem? (i := 685) (by decide +kernel), List.mem_of_getElem? (i := 686) (by decide +kernel)⟩
theorem lw_p20 : lw_okq (⟨"CardUnsigned$Law", "worked", "(III)I"⟩, 3) := ⟨⟨by decide +kernel, by decide +kernel⟩, List.mem_of_getElem? (i := 141) (by decide +kernel), List.mem_of_getElem? (i := 690) (by decide +kernel), List.mem_of_getElem? (i := 691) (by decide +kernel)⟩
theorem lw_p21 : lw_okq (⟨"CardUnsigned$Thought", "valueWithoutLaw", "()I"⟩, 6) := ⟨⟨by decide +kernel, by decide +kernel⟩, List.mem_of_getElem? (i := 157) (by decide +kernel), List.mem_of_getElem? (i := 694) (by decide +kernel), List.mem_of_getElem? (i := 695) (by decide +kernel)⟩
theorem lw_p22 : lw_okq (⟨"CardUnsigned$Thought", "greatestDivisor", "(II)I"⟩, 6) := ⟨⟨by decide +kernel, by decide +kernel⟩, List.mem_of_getElem? (i := 157) (by decide +kernel), List.mem_of_getElem? (i := 712) (by decide +kernel), List.mem_of_getElem? (i := 713) (by decide +kernel)⟩
theorem lw_p23 : lw_okq (⟨"CardUnsigned$Thought", "couldAllBeBy", "(II)Z"⟩, 6) := ⟨⟨by decide +kernel, by decide +kernel⟩, List.mem_of_getElem? (i := 157) (by decide +kernel), List.mem_of_getElem? (i := 753) (by decide +kernel), List.mem_of_getElem? (i := 754) (by decide +kernel)⟩
theorem lw_p24 : lw_okq (⟨"CardUnsigned$Thought", "addWriter", "(I)I"⟩, 6) := ⟨⟨by decide +kernel, by decide +kernel⟩, List.mem_of_getElem? (i := 157) (by decide +kernel), List.mem_of_getElem? (i := 767) (by decide +kernel), List.mem_of_getElem? (i := 768) (by decide +kernel)⟩
theorem lw_p25 : lw_okq (⟨"CardUnsigned$Office", "toldOn", "(I)I"⟩, 3) := ⟨⟨by decide +kernel, by decide +kernel⟩, List.mem_of_getElem? (i := 31) (by decide +kernel), List.mem_of_getElem? (i := 783) (by decide +kernel), List.mem_of_getElem? (i := 784) (by decide +kernel)⟩
theorem lw_p26 : lw_okq (⟨"CardUnsigned$Plans", "sumOfYes", "(II)I"⟩, 6) := ⟨⟨by decide +kernel, by decide +kernel⟩, List.mem_of_getElem? (i := 197) (by decide +kernel), List.mem_of_getElem? (i := 804) (by decide +kernel), List.mem_of_getElem? (i := 805) (by decide +kernel)⟩
theorem lw_p27 : lw_okq (⟨"CardUnsigned$Plans", "saysYes", "(III)Z"⟩, 6) := ⟨⟨by decide +kernel, by decide +kernel⟩, List.mem_of_getElem? (i := 197) (by decide +kernel), List.mem_of_getElem? (i := 808) (by decide +kernel), List.mem_of_getElem? (i := 809) (by decide +kernel)⟩
theorem lw_p28 : lw_okq (⟨"CardUnsigned$Plans", "weighWay", "(III)V"⟩, 6) := ⟨⟨by decide +kernel, by decide +kernel⟩, List.mem_of_getElem? (i := 197) (by decide +kernel), List.mem_of_getElem? (i := 859) (by decide +kernel), List.mem_of_getElem? (i := 860) (by decide +kernel)⟩
theorem lw_p29 : lw_okq (⟨"CardUnsigned$Rows", "canBe", "(II)Z"⟩, 3) := ⟨⟨by decide +kernel, by decide +kernel⟩, List.mem_of_getElem? (i := 225) (by decide +kernel), List.mem_of_getElem? (i := 903) (by decide +kernel), List.mem_of_getElem? (i := 904) (by decide +kernel)⟩
theorem lw_p30 : lw_okq (⟨"CardUnsigned$Rows", "waysToFill", "(II)I"⟩, 3) := ⟨⟨by decide +kernel, by decide +kernel⟩, List.mem_of_getElem? (i := 225) (by decide +kernel), List.mem_of_getElem? (i := 917) (by decide +kernel), List.mem_of_getElem? (i := 918) (by decide +kernel)⟩
theorem lw_p31 : lw_okq (⟨"CardUnsigned$Rows", "countsTogether", "(II)I"⟩, 3) := ⟨⟨by decide +kernel, by decide +kernel⟩, List.mem_of_getElem? (i := 225) (by decide +kernel), List.mem_of_getElem? (i := 922) (by decide +kernel), List.mem_of_getElem? (i := 923) (by decide +kernel)⟩
def lw_privs_2 : List (MethodName × Nat) := [(⟨"CardUnsigned$Office", "whoIsIn", "(I)I"⟩, 3), (⟨"CardUnsigned$Thought", "countFor", "(II)I"⟩, 6), (⟨"CardUnsigned$Thought", "likenessOfHand", "(II)I"⟩, 6), (⟨"CardUnsigned$Law", "operandsOf", "(I)I"⟩, 3), (⟨"CardUnsigned$Law", "worked", "(III)I"⟩, 3), (⟨"CardUnsigned$Thought", "valueWithoutLaw", "()I"⟩, 6), (⟨"CardUnsigned$Thought", "greatestDivisor", "(II)I"⟩, 6), (⟨"CardUnsigned$Thought", "couldAllBeBy", "(II)Z"⟩, 6), (⟨"CardUnsigned$Thought", "addWriter", "(I)I"⟩, 6), (⟨"CardUnsigned$Office", "toldOn", "(I)I"⟩, 3), (⟨"CardUnsigned$Plans", "sumOfYes", "(II)I"⟩, 6), (⟨"CardUnsigned$Plans", "saysYes", "(III)Z"⟩, 6), (⟨"CardUnsigned$Plans", "weighWay", "(III)V"⟩, 6), (⟨"CardUnsigned$Rows", "canBe", "(II)Z"⟩, 3), (⟨"CardUnsigned$Rows", "waysToFill", "(II)I"⟩, 3), (⟨"CardUnsigned$Rows", "countsTogether", "(II)I"⟩, 3)]
theorem lw_r2 : ∀ q ∈ lw_privs_2, lw_okq q := List.forall_mem_cons.mpr ⟨lw_p16, List.forall_mem_cons.mpr ⟨lw_p17, List.forall_mem_cons.mpr ⟨lw_p18, List.forall_mem_cons.mpr ⟨lw_p19, List.forall_mem_cons.mpr ⟨lw_p20, List.forall_mem_cons.mpr ⟨lw_p21, List.forall_mem_cons.mpr ⟨lw_p22, List.forall_mem_cons.mpr ⟨lw_p23, List.forall_mem_cons.mpr ⟨lw_p24, List.forall_mem_cons.mpr ⟨lw_p25, List.forall_mem_cons.mpr ⟨lw_p26, List.forall_mem_cons.mpr ⟨lw_p27, List.forall_mem_cons.mpr ⟨lw_p28, List.forall_mem_cons.mpr ⟨lw_p29, List.forall_mem_cons.mpr ⟨lw_p30, List.forall_mem_cons.mpr ⟨lw_p31, fun _ h => absurd h List.not_mem_nil⟩⟩⟩⟩⟩⟩⟩⟩⟩⟩⟩⟩⟩⟩⟩⟩
theorem lw_p32 : lw_okq (⟨"CardUnsigned$Plans", "whoIsAt", "(I)I"⟩, 6) := ⟨⟨by decide +kernel, by decide +kernel⟩, List.mem_of_getElem? (i := 197) (by decide +kernel), List.mem_of_getElem? (i := 948) (by decide +kernel), List.mem_of_getElem? (i := 949) (by decide +kernel)⟩
theorem lw_p33 : lw_okq (⟨"CardUnsigned$Bodies", "own", "(III)I"⟩, 5) := ⟨⟨by decide +kernel, by decide +kernel⟩, List.mem_of_getElem? (i := 287) (by decide +kernel), List.mem_of_getElem? (i := 1043) (by decide +kernel), List.mem_of_getElem? (i := 1044) (by decide +kernel)⟩
theorem lw_p34 : lw_okq (⟨"CardUnsigned$Bodies", "bodyFrom", "(II)I"⟩, 5) := ⟨⟨by decide +kernel, by decide +kernel⟩, List.mem_of_getElem? (i := 287) (by decide +kernel), List.mem_of_getElem? (i := 1047) (by decide +kernel), List.mem_of_getElem? (i := 1048) (by decide +kernel)⟩
theorem lw_p35 : lw_okq (⟨"CardUnsigned$Bodies", "run", "(III)I"⟩, 5) := ⟨⟨by decide +kernel, by decide +kernel⟩, List.mem_of_getElem? (i := 287) (by decide +kernel), List.mem_of_getElem? (i := 1055) (by decide +kernel), List.mem_of_getElem? (i := 1056) (by decide +kernel)⟩
theorem lw_p36 : lw_okq (⟨"CardUnsigned$Bodies", "above", "(IIII)I"⟩, 5) := ⟨⟨by decide +kernel, by decide +kernel⟩, List.mem_of_getElem? (i := 287) (by decide +kernel), List.mem_of_getElem? (i := 1059) (by decide +kernel), List.mem_of_getElem? (i := 1060) (by decide +kernel)⟩
theorem lw_p37 : lw_okq (⟨"CardUnsignedModel", "newPerson", "(III)I"⟩, 56) := ⟨⟨by decide +kernel, by decide +kernel⟩, List.mem_of_getElem? (i := 1129) (by decide +kernel), List.mem_of_getElem? (i := 1311) (by decide +kernel), List.mem_of_getElem? (i := 1312) (by decide +kernel)⟩
theorem lw_p38 : lw_okq (⟨"CardUnsignedModel", "isOne", "(I)Z"⟩, 56) := ⟨⟨by decide +kernel, by decide +kernel⟩, List.mem_of_getElem? (i := 1129) (by decide +kernel), List.mem_of_getElem? (i := 1327) (by decide +kernel), List.mem_of_getElem? (i := 1328) (by decide +kernel)⟩
theorem lw_p39 : lw_okq (⟨"CardUnsignedModel", "newCard", "(III)I"⟩, 56) := ⟨⟨by decide +kernel, by decide +kernel⟩, List.mem_of_getElem? (i := 1129) (by decide +kernel), List.mem_of_getElem? (i := 1334) (by decide +kernel), List.mem_of_getElem? (i := 1335) (by decide +kernel)⟩
theorem lw_p40 : lw_okq (⟨"CardUnsignedModel", "tells", "(II)V"⟩, 56) := ⟨⟨by decide +kernel, by decide +kernel⟩, List.mem_of_getElem? (i := 1129) (by decide +kernel), List.mem_of_getElem? (i := 1338) (by decide +kernel), List.mem_of_getElem? (i := 1339) (by decide +kernel)⟩
theorem lw_p41 : lw_okq (⟨"CardUnsignedModel", "isOf", "(II)Z"⟩, 56) := ⟨⟨by decide +kernel, by decide +kernel⟩, List.mem_of_getElem? (i := 1129) (by decide +kernel), List.mem_of_getElem? (i := 1346) (by decide +kernel), List.mem_of_getElem? (i := 1347) (by decide +kernel)⟩
theorem lw_p42 : lw_okq (⟨"CardUnsignedModel", "isCard", "(I)Z"⟩, 56) := ⟨⟨by decide +kernel, by decide +kernel⟩, List.mem_of_getElem? (i := 1129) (by decide +kernel), List.mem_of_getElem? (i := 1350) (by decide +kernel), List.mem_of_getElem? (i := 1351) (by decide +kernel)⟩
theorem lw_p43 : lw_okq (⟨"CardUnsignedModel", "get", "(II)I"⟩, 56) := ⟨⟨by decide +kernel, by decide +kernel⟩, List.mem_of_getElem? (i := 1129) (by decide +kernel), List.mem_of_getElem? (i := 1361) (by decide +kernel), List.mem_of_getElem? (i := 1362) (by decide +kernel)⟩
theorem lw_p44 : lw_okq (⟨"CardUnsignedModel", "becomes", "(III)V"⟩, 56) := ⟨⟨by decide +kernel, by decide +kernel⟩, List.mem_of_getElem? (i := 1129) (by decide +kernel), List.mem_of_getElem? (i := 1365) (by decide +kernel), List.mem_of_getElem? (i := 1366) (by decide +kernel)⟩
theorem lw_p45 : lw_okq (⟨"CardUnsignedModel", "isLine", "()Z"⟩, 56) := ⟨⟨by decide +kernel, by decide +kernel⟩, List.mem_of_getElem? (i := 1129) (by decide +kernel), List.mem_of_getElem? (i := 1389) (by decide +kernel), List.mem_of_getElem? (i := 1390) (by decide +kernel)⟩
theorem lw_p46 : lw_okq (⟨"CardUnsignedModel", "isE", "()Z"⟩, 56) := ⟨⟨by decide +kernel, by decide +kernel⟩, List.mem_of_getElem? (i := 1129) (by decide +kernel), List.mem_of_getElem? (i := 1393) (by decide +kernel), List.mem_of_getElem? (i := 1394) (by decide +kernel)⟩
theorem lw_p47 : lw_okq (⟨"CardUnsignedModel", "isA", "()Z"⟩, 56) := ⟨⟨by decide +kernel, by decide +kernel⟩, List.mem_of_getElem? (i := 1129) (by decide +kernel), List.mem_of_getElem? (i := 1397) (by decide +kernel), List.mem_of_getElem? (i := 1398) (by decide +kernel)⟩
def lw_privs_3 : List (MethodName × Nat) := [(⟨"CardUnsigned$Plans", "whoIsAt", "(I)I"⟩, 6), (⟨"CardUnsigned$Bodies", "own", "(III)I"⟩, 5), (⟨"CardUnsigned$Bodies", "bodyFrom", "(II)I"⟩, 5), (⟨"CardUnsigned$Bodies", "run", "(III)I"⟩, 5), (⟨"CardUnsigned$Bodies", "above", "(IIII)I"⟩, 5), (⟨"CardUnsignedModel", "newPerson", "(III)I"⟩, 56), (⟨"CardUnsignedModel", "isOne", "(I)Z"⟩, 56), (⟨"CardUnsignedModel", "newCard", "(III)I"⟩, 56), (⟨"CardUnsignedModel", "tells", "(II)V"⟩, 56), (⟨"CardUnsignedModel", "isOf", "(II)Z"⟩, 56), (⟨"CardUnsignedModel", "isCard", "(I)Z"⟩, 56), (⟨"CardUnsignedModel", "get", "(II)I"⟩, 56), (⟨"CardUnsignedModel", "becomes", "(III)V"⟩, 56), (⟨"CardUnsignedModel", "isLine", "()Z"⟩, 56), (⟨"CardUnsignedModel", "isE", "()Z"⟩, 56), (⟨"CardUnsignedModel", "isA", "()Z"⟩, 56)]
theorem lw_r3 : ∀ q ∈ lw_privs_3, lw_okq q := List.forall_mem_cons.mpr ⟨lw_p32, List.forall_mem_cons.mpr ⟨lw_p33, List.forall_mem_cons.mpr ⟨lw_p34, List.forall_mem_cons.mpr ⟨lw_p35, List.forall_mem_cons.mpr ⟨lw_p36, List.forall_mem_cons.mpr ⟨lw_p37, List.forall_mem_cons.mpr ⟨lw_p38, List.forall_mem_cons.mpr ⟨lw_p39, List.forall_mem_cons.mpr ⟨lw_p40, List.forall_mem_cons.mpr ⟨lw_p41, List.forall_mem_cons.mpr ⟨lw_p42, List.forall_mem_cons.mpr ⟨lw_p43, List.forall_mem_cons.mpr ⟨lw_p44, List.forall_mem_cons.mpr ⟨lw_p45, List.forall_mem_cons.mpr ⟨lw_p46, List.forall_mem_cons.mpr ⟨lw_p47, fun _ h => absurd h List.not_mem_nil⟩⟩⟩⟩⟩⟩⟩⟩⟩⟩⟩⟩⟩⟩⟩⟩
theorem lw_p48 : lw_okq (⟨"CardUnsignedModel", "isB", "()Z"⟩, 56) := ⟨⟨by decide +kernel, by decide +kernel⟩, List.mem_of_getElem? (i := 1129) (by decide +kernel), List.mem_of_getElem? (i := 1401) (by decide +kernel), List.mem_of_getElem? (i := 1402) (by decide +kernel)⟩
theorem lw_p49 : lw_okq (⟨"CardUnsignedModel", "isS", "()Z"⟩, 56) := ⟨⟨by decide +kernel, by decide +kernel⟩, List.mem_of_getElem? (i := 1129) (by decide +kernel), List.mem_of_getElem? (i := 1405) (by decide +kernel), List.mem_of_getElem? (i := 1406) (by decide +kernel)⟩
theorem lw_p50 : lw_okq (⟨"CardUnsignedModel", "isP", "()Z"⟩, 56) := ⟨⟨by decide +kernel, by decide +kernel⟩, List.mem_of_getElem? (i := 1129) (by decide +kernel), List.mem_of_getElem? (i := 1409) (by decide +kernel), List.mem_of_getElem? (i := 1410) (by decide +kernel)⟩
theorem lw_p51 : lw_okq (⟨"CardUnsignedModel", "isO", "()Z"⟩, 56) := ⟨⟨by decide +kernel, by decide +kernel⟩, List.mem_of_getElem? (i := 1129) (by decide +kernel), List.mem_of_getElem? (i := 1413) (by decide +kernel), List.mem_of_getElem? (i := 1414) (by decide +kernel)⟩
theorem lw_p52 : lw_okq (⟨"CardUnsignedModel", "isDigit", "()Z"⟩, 56) := ⟨⟨by decide +kernel, by decide +kernel⟩, List.mem_of_getElem? (i := 1129) (by decide +kernel), List.mem_of_getElem? (i := 1417) (by decide +kernel), List.mem_of_getElem? (i := 1418) (by decide +kernel)⟩
theorem lw_p53 : lw_okq (⟨"CardUnsignedModel", "sign", "()I"⟩, 56) := ⟨⟨by decide +kernel, by decide +kernel⟩, List.mem_of_getElem? (i := 1129) (by decide +kernel), List.mem_of_getElem? (i := 1421) (by decide +kernel), List.mem_of_getElem? (i := 1422) (by decide +kernel)⟩
theorem lw_p54 : lw_okq (⟨"CardUnsignedModel", "codes", "(I)Z"⟩, 56) := ⟨⟨by decide +kernel, by decide +kernel⟩, List.mem_of_getElem? (i := 1129) (by decide +kernel), List.mem_of_getElem? (i := 1425) (by decide +kernel), List.mem_of_getElem? (i := 1426) (by decide +kernel)⟩
theorem lw_p55 : lw_okq (⟨"CardUnsignedModel", "is", "(I)Z"⟩, 56) := ⟨⟨by decide +kernel, by decide +kernel⟩, List.mem_of_getElem? (i := 1129) (by decide +kernel), List.mem_of_getElem? (i := 1432) (by decide +kernel), List.mem_of_getElem? (i := 1433) (by decide +kernel)⟩
theorem lw_p56 : lw_okq (⟨"CardUnsignedModel", "couldAll", "(I)I"⟩, 56) := ⟨⟨by decide +kernel, by decide +kernel⟩, List.mem_of_getElem? (i := 1129) (by decide +kernel), List.mem_of_getElem? (i := 1440) (by decide +kernel), List.mem_of_getElem? (i := 1441) (by decide +kernel)⟩
theorem lw_p57 : lw_okq (⟨"CardUnsignedModel", "could", "(II)Z"⟩, 56) := ⟨⟨by decide +kernel, by decide +kernel⟩, List.mem_of_getElem? (i := 1129) (by decide +kernel), List.mem_of_getElem? (i := 1444) (by decide +kernel), List.mem_of_getElem? (i := 1445) (by decide +kernel)⟩
theorem lw_p58 : lw_okq (⟨"CardUnsignedModel", "isIn", "(II)Z"⟩, 56) := ⟨⟨by decide +kernel, by decide +kernel⟩, List.mem_of_getElem? (i := 1129) (by decide +kernel), List.mem_of_getElem? (i := 1451) (by decide +kernel), List.mem_of_getElem? (i := 1452) (by decide +kernel)⟩
theorem lw_p59 : lw_okq (⟨"CardUnsignedModel", "isCardOf", "(I)Z"⟩, 56) := ⟨⟨by decide +kernel, by decide +kernel⟩, List.mem_of_getElem? (i := 1129) (by decide +kernel), List.mem_of_getElem? (i := 1459) (by decide +kernel), List.mem_of_getElem? (i := 1460) (by decide +kernel)⟩
theorem lw_p60 : lw_okq (⟨"CardUnsignedModel", "counted", "(II)I"⟩, 56) := ⟨⟨by decide +kernel, by decide +kernel⟩, List.mem_of_getElem? (i := 1129) (by decide +kernel), List.mem_of_getElem? (i := 1463) (by decide +kernel), List.mem_of_getElem? (i := 1464) (by decide +kernel)⟩
theorem lw_p61 : lw_okq (⟨"CardUnsignedModel", "knowers", "(I)I"⟩, 56) := ⟨⟨by decide +kernel, by decide +kernel⟩, List.mem_of_getElem? (i := 1129) (by decide +kernel), List.mem_of_getElem? (i := 1467) (by decide +kernel), List.mem_of_getElem? (i := 1468) (by decide +kernel)⟩
theorem lw_p62 : lw_okq (⟨"CardUnsignedModel", "worked", "(II)I"⟩, 56) := ⟨⟨by decide +kernel, by decide +kernel⟩, List.mem_of_getElem? (i := 1129) (by decide +kernel), List.mem_of_getElem? (i := 1472) (by decide +kernel), List.mem_of_getElem? (i := 1473) (by decide +kernel)⟩
theorem lw_p63 : lw_okq (⟨"CardUnsignedModel", "countedAll", "(I)I"⟩, 56) := ⟨⟨by decide +kernel, by decide +kernel⟩, List.mem_of_getElem? (i := 1129) (by decide +kernel), List.mem_of_getElem? (i := 1484) (by decide +kernel), List.mem_of_getElem? (i := 1485) (by decide +kernel)⟩
def lw_privs_4 : List (MethodName × Nat) := [(⟨"CardUnsignedModel", "isB", "()Z"⟩, 56), (⟨"CardUnsignedModel", "isS", "()Z"⟩, 56), (⟨"CardUnsignedModel", "isP", "()Z"⟩, 56), (⟨"CardUnsignedModel", "isO", "()Z"⟩, 56), (⟨"CardUnsignedModel", "isDigit", "()Z"⟩, 56), (⟨"CardUnsignedModel", "sign", "()I"⟩, 56), (⟨"CardUnsignedModel", "codes", "(I)Z"⟩, 56), (⟨"CardUnsignedModel", "is", "(I)Z"⟩, 56), (⟨"CardUnsignedModel", "couldAll", "(I)I"⟩, 56), (⟨"CardUnsignedModel", "could", "(II)Z"⟩, 56), (⟨"CardUnsignedModel", "isIn", "(II)Z"⟩, 56), (⟨"CardUnsignedModel", "isCardOf", "(I)Z"⟩, 56), (⟨"CardUnsignedModel", "counted", "(II)I"⟩, 56), (⟨"CardUnsignedModel", "knowers", "(I)I"⟩, 56), (⟨"CardUnsignedModel", "worked", "(II)I"⟩, 56), (⟨"CardUnsignedModel", "countedAll", "(I)I"⟩, 56)]
theorem lw_r4 : ∀ q ∈ lw_privs_4, lw_okq q := List.forall_mem_cons.mpr ⟨lw_p48, List.forall_mem_cons.mpr ⟨lw_p49, List.forall_mem_cons.mpr ⟨lw_p50, List.forall_mem_cons.mpr ⟨lw_p51, List.forall_mem_cons.mpr ⟨lw_p52, List.forall_mem_cons.mpr ⟨lw_p53, List.forall_mem_cons.mpr ⟨lw_p54, List.forall_mem_cons.mpr ⟨lw_p55, List.forall_mem_cons.mpr ⟨lw_p56, List.forall_mem_cons.mpr ⟨lw_p57, List.forall_mem_cons.mpr ⟨lw_p58, List.forall_mem_cons.mpr ⟨lw_p59, List.forall_mem_cons.mpr ⟨lw_p60, List.forall_mem_cons.mpr ⟨lw_p61, List.forall_mem_cons.mpr ⟨lw_p62, List.forall_mem_cons.mpr ⟨lw_p63, fun _ h => absurd h List.not_mem_nil⟩⟩⟩⟩⟩⟩⟩⟩⟩⟩⟩⟩⟩⟩⟩⟩
theorem lw_p64 : lw_okq (⟨"CardUnsignedModel", "likeliest", "(I)I"⟩, 56) := ⟨⟨by decide +kernel, by decide +kernel⟩, List.mem_of_getElem? (i := 1129) (by decide +kernel), List.mem_of_getElem? (i := 1496) (by decide +kernel), List.mem_of_getElem? (i := 1497) (by decide +kernel)⟩
theorem lw_p65 : lw_okq (⟨"CardUnsignedModel", "sure", "(I)I"⟩, 56) := ⟨⟨by decide +kernel, by decide +kernel⟩, List.mem_of_getElem? (i := 1129) (by decide +kernel), List.mem_of_getElem? (i := 1500) (by decide +kernel), List.mem_of_getElem? (i := 1501) (by decide +kernel)⟩
theorem lw_p66 : lw_okq (⟨"CardUnsignedModel", "areCards", "(I)Z"⟩, 56) := ⟨⟨by decide +kernel, by decide +kernel⟩, List.mem_of_getElem? (i := 1129) (by decide +kernel), List.mem_of_getElem? (i := 1508) (by decide +kernel), List.mem_of_getElem? (i := 1509) (by decide +kernel)⟩
theorem lw_p67 : lw_okq (⟨"CardUnsignedModel", "areHands", "(II)Z"⟩, 56) := ⟨⟨by decide +kernel, by decide +kernel⟩, List.mem_of_getElem? (i := 1129) (by decide +kernel), List.mem_of_getElem? (i := 1517) (by decide +kernel), List.mem_of_getElem? (i := 1518) (by decide +kernel)⟩
theorem lw_p68 : lw_okq (⟨"CardUnsignedModel", "unlikes", "(III)I"⟩, 56) := ⟨⟨by decide +kernel, by decide +kernel⟩, List.mem_of_getElem? (i := 1129) (by decide +kernel), List.mem_of_getElem? (i := 1525) (by decide +kernel), List.mem_of_getElem? (i := 1526) (by decide +kernel)⟩
theorem lw_p69 : lw_okq (⟨"CardUnsignedModel", "tellsOn", "(I)V"⟩, 56) := ⟨⟨by decide +kernel, by decide +kernel⟩, List.mem_of_getElem? (i := 1129) (by decide +kernel), List.mem_of_getElem? (i := 1536) (by decide +kernel), List.mem_of_getElem? (i := 1537) (by decide +kernel)⟩
theorem lw_p70 : lw_okq (⟨"CardUnsignedModel", "greater", "(II)I"⟩, 56) := ⟨⟨by decide +kernel, by decide +kernel⟩, List.mem_of_getElem? (i := 1129) (by decide +kernel), List.mem_of_getElem? (i := 1548) (by decide +kernel), List.mem_of_getElem? (i := 1549) (by decide +kernel)⟩
theorem lw_p71 : lw_okq (⟨"CardUnsignedModel", "saysYes", "(III)Z"⟩, 56) := ⟨⟨by decide +kernel, by decide +kernel⟩, List.mem_of_getElem? (i := 1129) (by decide +kernel), List.mem_of_getElem? (i := 1552) (by decide +kernel), List.mem_of_getElem? (i := 1553) (by decide +kernel)⟩
theorem lw_p72 : lw_okq (⟨"CardUnsignedModel", "worthOf", "(II)I"⟩, 56) := ⟨⟨by decide +kernel, by decide +kernel⟩, List.mem_of_getElem? (i := 1129) (by decide +kernel), List.mem_of_getElem? (i := 1560) (by decide +kernel), List.mem_of_getElem? (i := 1561) (by decide +kernel)⟩
theorem lw_p73 : lw_okq (⟨"CardUnsignedModel", "areTwo", "(I)Z"⟩, 56) := ⟨⟨by decide +kernel, by decide +kernel⟩, List.mem_of_getElem? (i := 1129) (by decide +kernel), List.mem_of_getElem? (i := 1576) (by decide +kernel), List.mem_of_getElem? (i := 1577) (by decide +kernel)⟩
theorem lw_p74 : lw_okq (⟨"CardUnsignedModel", "writes", "(IIII)V"⟩, 56) := ⟨⟨by decide +kernel, by decide +kernel⟩, List.mem_of_getElem? (i := 1129) (by decide +kernel), List.mem_of_getElem? (i := 1580) (by decide +kernel), List.mem_of_getElem? (i := 1581) (by decide +kernel)⟩
theorem lw_p75 : lw_okq (⟨"CardUnsignedModel", "noRow", "(II)I"⟩, 56) := ⟨⟨by decide +kernel, by decide +kernel⟩, List.mem_of_getElem? (i := 1129) (by decide +kernel), List.mem_of_getElem? (i := 1592) (by decide +kernel), List.mem_of_getElem? (i := 1593) (by decide +kernel)⟩
theorem lw_p76 : lw_okq (⟨"CardUnsignedModel", "lookedFrom", "(II)V"⟩, 56) := ⟨⟨by decide +kernel, by decide +kernel⟩, List.mem_of_getElem? (i := 1129) (by decide +kernel), List.mem_of_getElem? (i := 1596) (by decide +kernel), List.mem_of_getElem? (i := 1597) (by decide +kernel)⟩
theorem lw_p77 : lw_okq (⟨"CardUnsignedModel", "toldAt", "(II)I"⟩, 56) := ⟨⟨by decide +kernel, by decide +kernel⟩, List.mem_of_getElem? (i := 1129) (by decide +kernel), List.mem_of_getElem? (i := 1600) (by decide +kernel), List.mem_of_getElem? (i := 1601) (by decide +kernel)⟩
theorem lw_p78 : lw_okq (⟨"CardUnsignedModel", "most", "()I"⟩, 56) := ⟨⟨by decide +kernel, by decide +kernel⟩, List.mem_of_getElem? (i := 1129) (by decide +kernel), List.mem_of_getElem? (i := 1604) (by decide +kernel), List.mem_of_getElem? (i := 1605) (by decide +kernel)⟩
theorem lw_p79 : lw_okq (⟨"CardUnsignedModel", "strange", "(I)I"⟩, 56) := ⟨⟨by decide +kernel, by decide +kernel⟩, List.mem_of_getElem? (i := 1129) (by decide +kernel), List.mem_of_getElem? (i := 1608) (by decide +kernel), List.mem_of_getElem? (i := 1609) (by decide +kernel)⟩
def lw_privs_5 : List (MethodName × Nat) := [(⟨"CardUnsignedModel", "likeliest", "(I)I"⟩, 56), (⟨"CardUnsignedModel", "sure", "(I)I"⟩, 56), (⟨"CardUnsignedModel", "areCards", "(I)Z"⟩, 56), (⟨"CardUnsignedModel", "areHands", "(II)Z"⟩, 56), (⟨"CardUnsignedModel", "unlikes", "(III)I"⟩, 56), (⟨"CardUnsignedModel", "tellsOn", "(I)V"⟩, 56), (⟨"CardUnsignedModel", "greater", "(II)I"⟩, 56), (⟨"CardUnsignedModel", "saysYes", "(III)Z"⟩, 56), (⟨"CardUnsignedModel", "worthOf", "(II)I"⟩, 56), (⟨"CardUnsignedModel", "areTwo", "(I)Z"⟩, 56), (⟨"CardUnsignedModel", "writes", "(IIII)V"⟩, 56), (⟨"CardUnsignedModel", "noRow", "(II)I"⟩, 56), (⟨"CardUnsignedModel", "lookedFrom", "(II)V"⟩, 56), (⟨"CardUnsignedModel", "toldAt", "(II)I"⟩, 56), (⟨"CardUnsignedModel", "most", "()I"⟩, 56), (⟨"CardUnsignedModel", "strange", "(I)I"⟩, 56)]
theorem lw_r5 : ∀ q ∈ lw_privs_5, lw_okq q := List.forall_mem_cons.mpr ⟨lw_p64, List.forall_mem_cons.mpr ⟨lw_p65, List.forall_mem_cons.mpr ⟨lw_p66, List.forall_mem_cons.mpr ⟨lw_p67, List.forall_mem_cons.mpr ⟨lw_p68, List.forall_mem_cons.mpr ⟨lw_p69, List.forall_mem_cons.mpr ⟨lw_p70, List.forall_mem_cons.mpr ⟨lw_p71, List.forall_mem_cons.mpr ⟨lw_p72, List.forall_mem_cons.mpr ⟨lw_p73, List.forall_mem_cons.mpr ⟨lw_p74, List.forall_mem_cons.mpr ⟨lw_p75, List.forall_mem_cons.mpr ⟨lw_p76, List.forall_mem_cons.mpr ⟨lw_p77, List.forall_mem_cons.mpr ⟨lw_p78, List.forall_mem_cons.mpr ⟨lw_p79, fun _ h => absurd h List.not_mem_nil⟩⟩⟩⟩⟩⟩⟩⟩⟩⟩⟩⟩⟩⟩⟩⟩
theorem lw_p80 : lw_okq (⟨"CardUnsignedModel", "wrong", "(I)I"⟩, 56) := ⟨⟨by decide +kernel, by decide +kernel⟩, List.mem_of_getElem? (i := 1129) (by decide +kernel), List.mem_of_getElem? (i := 1620) (by decide +kernel), List.mem_of_getElem? (i := 1621) (by decide +kernel)⟩
theorem lw_p81 : lw_okq (⟨"CardUnsignedModel", "canBe", "(II)Z"⟩, 56) := ⟨⟨by decide +kernel, by decide +kernel⟩, List.mem_of_getElem? (i := 1129) (by decide +kernel), List.mem_of_getElem? (i := 1624) (by decide +kernel), List.mem_of_getElem? (i := 1625) (by decide +kernel)⟩
theorem lw_p82 : lw_okq (⟨"CardUnsignedModel", "looksBy", "(III)I"⟩, 56) := ⟨⟨by decide +kernel, by decide +kernel⟩, List.mem_of_getElem? (i := 1129) (by decide +kernel), List.mem_of_getElem? (i := 1674) (by decide +kernel), List.mem_of_getElem? (i := 1675) (by decide +kernel)⟩
theorem lw_p83 : lw_okq (⟨"CardUnsignedModel", "ran", "(I)V"⟩, 56) := ⟨⟨by decide +kernel, by decide +kernel⟩, List.mem_of_getElem? (i := 1129) (by decide +kernel), List.mem_of_getElem? (i := 1678) (by decide +kernel), List.mem_of_getElem? (i := 1679) (by decide +kernel)⟩
theorem lw_p84 : lw_okq (⟨"CardUnsignedModel", "writesBy", "(III)I"⟩, 56) := ⟨⟨by decide +kernel, by decide +kernel⟩, List.mem_of_getElem? (i := 1129) (by decide +kernel), List.mem_of_getElem? (i := 1685) (by decide +kernel), List.mem_of_getElem? (i := 1686) (by decide +kernel)⟩
theorem lw_p85 : lw_okq (⟨"CardUnsignedModel", "hidesBy", "(III)I"⟩, 56) := ⟨⟨by decide +kernel, by decide +kernel⟩, List.mem_of_getElem? (i := 1129) (by decide +kernel), List.mem_of_getElem? (i := 1689) (by decide +kernel), List.mem_of_getElem? (i := 1690) (by decide +kernel)⟩
theorem lw_p86 : lw_okq (⟨"CardUnsignedModel", "tells", "(III)I"⟩, 56) := ⟨⟨by decide +kernel, by decide +kernel⟩, List.mem_of_getElem? (i := 1129) (by decide +kernel), List.mem_of_getElem? (i := 1693) (by decide +kernel), List.mem_of_getElem? (i := 1694) (by decide +kernel)⟩
theorem lw_p87 : lw_okq (⟨"CardUnsignedModel", "isRow", "(I)Z"⟩, 56) := ⟨⟨by decide +kernel, by decide +kernel⟩, List.mem_of_getElem? (i := 1129) (by decide +kernel), List.mem_of_getElem? (i := 1713) (by decide +kernel), List.mem_of_getElem? (i := 1714) (by decide +kernel)⟩
def lw_privs_6 : List (MethodName × Nat) := [(⟨"CardUnsignedModel", "wrong", "(I)I"⟩, 56), (⟨"CardUnsignedModel", "canBe", "(II)Z"⟩, 56), (⟨"CardUnsignedModel", "looksBy", "(III)I"⟩, 56), (⟨"CardUnsignedModel", "ran", "(I)V"⟩, 56), (⟨"CardUnsignedModel", "writesBy", "(III)I"⟩, 56), (⟨"CardUnsignedModel", "hidesBy", "(III)I"⟩, 56), (⟨"CardUnsignedModel", "tells", "(III)I"⟩, 56), (⟨"CardUnsignedModel", "isRow", "(I)Z"⟩, 56)]
theorem lw_r6 : ∀ q ∈ lw_privs_6, lw_okq q := List.forall_mem_cons.mpr ⟨lw_p80, List.forall_mem_cons.mpr ⟨lw_p81, List.forall_mem_cons.mpr ⟨lw_p82, List.forall_mem_cons.mpr ⟨lw_p83, List.forall_mem_cons.mpr ⟨lw_p84, List.forall_mem_cons.mpr ⟨lw_p85, List.forall_mem_cons.mpr ⟨lw_p86, List.forall_mem_cons.mpr ⟨lw_p87, fun _ h => absurd h List.not_mem_nil⟩⟩⟩⟩⟩⟩⟩⟩
def lw_privs : List (MethodName × Nat) := lw_privs_1 ++ (lw_privs_2 ++ (lw_privs_3 ++ (lw_privs_4 ++ (lw_privs_5 ++ (lw_privs_6)))))
def lw_tbl : List Cond := k2_sels lw_privs ++ tables_1
theorem lw_privs_ok : ∀ q ∈ lw_privs, lw_okq q := by
  show ∀ q ∈ lw_privs_1 ++ (lw_privs_2 ++ (lw_privs_3 ++ (lw_privs_4 ++ (lw_privs_5 ++ (lw_privs_6))))), lw_okq q
  exact List.forall_mem_append.mpr ⟨lw_r1, List.forall_mem_append.mpr ⟨lw_r2, List.forall_mem_append.mpr ⟨lw_r3, List.forall_mem_append.mpr ⟨lw_r4, List.forall_mem_append.mpr ⟨lw_r5, lw_r6⟩⟩⟩⟩⟩
-- ===== end of PART A; then your names; then what follows =====
end
section
/-! THE CLASSES: names, fields in the order of the slots, types (begun from the printed names) -/
def RX0 : String := "CardUnsigned$Bodies"
def TX0 : u_T := fun k => match k with
  | 0 => ("CardUnsigned$Bodies", "kinds", "[I", true)
  | 1 => ("CardUnsigned$Bodies", "size", "I", false)
  | 2 => ("CardUnsigned$Bodies", "trace", "[I", true)
  | 3 => ("CardUnsigned$Bodies", "ran", "I", false)
  | _ => ("CardUnsigned$Bodies", "number", "I", false)
def tyX0 : Nat → FieldType := fun k => match k with
  | 0 => .array .int
  | 1 => .int
  | 2 => .array .int
  | 3 => .int
  | _ => .int
abbrev wsX00 : List Cond := u_ws RX0 TX0 5
theorem nmX0 : ∀ a, a < 5 → ∀ b, b < 5 → a ≠ b → (TX0 a).2.1 ≠ (TX0 b).2.1 := by decide +kernel
theorem tyX0_ok : ∀ k, k < 5 → parseFieldDescriptor (TX0 k).2.2.1 = some (tyX0 k) := by decide +kernel
def RX1 : String := "CardUnsigned$Changes"
def TX1 : u_T := fun k => match k with
  | 0 => ("CardUnsigned$Changes", "office", "LCardUnsigned$Office;", true)
  | 1 => ("CardUnsigned$Changes", "number", "[I", true)
  | 2 => ("CardUnsigned$Changes", "what", "[I", true)
  | 3 => ("CardUnsigned$Changes", "before", "[I", true)
  | 4 => ("CardUnsigned$Changes", "behind", "[I", true)
  | 5 => ("CardUnsigned$Changes", "done", "I", false)
  | _ => ("CardUnsigned$Changes", "undone", "I", false)
def tyX1 : Nat → FieldType := fun k => match k with
  | 0 => .object "CardUnsigned$Office"
  | 1 => .array .int
  | 2 => .array .int
  | 3 => .array .int
  | 4 => .array .int
  | 5 => .int
  | _ => .int
abbrev wsX10 : List Cond := u_ws RX1 TX1 7
theorem nmX1 : ∀ a, a < 7 → ∀ b, b < 7 → a ≠ b → (TX1 a).2.1 ≠ (TX1 b).2.1 := by decide +kernel
theorem tyX1_ok : ∀ k, k < 7 → parseFieldDescriptor (TX1 k).2.2.1 = some (tyX1 k) := by decide +kernel
def RX2 : String := "CardUnsigned$Deeds"
def TX2 : u_T := fun k => match k with
  | 0 => ("CardUnsigned$Deeds", "office", "LCardUnsigned$Office;", true)
  | 1 => ("CardUnsigned$Deeds", "now", "I", false)
  | 2 => ("CardUnsigned$Deeds", "sent", "I", false)
  | 3 => ("CardUnsigned$Deeds", "right", "I", false)
  | 4 => ("CardUnsigned$Deeds", "wrong", "I", false)
  | 5 => ("CardUnsigned$Deeds", "imageKept", "Z", false)
  | 6 => ("CardUnsigned$Deeds", "nowThen", "I", false)
  | 7 => ("CardUnsigned$Deeds", "sentThen", "I", false)
  | 8 => ("CardUnsigned$Deeds", "rightThen", "I", false)
  | 9 => ("CardUnsigned$Deeds", "wrongThen", "I", false)
  | _ => ("CardUnsigned$Deeds", "thankedThen", "[I", true)
def tyX2 : Nat → FieldType := fun k => match k with
  | 0 => .object "CardUnsigned$Office"
  | 1 => .int
  | 2 => .int
  | 3 => .int
  | 4 => .int
  | 5 => .boolean
  | 6 => .int
  | 7 => .int
  | 8 => .int
  | 9 => .int
  | _ => .array .int
abbrev wsX20 : List Cond := u_ws RX2 TX2 11
theorem nmX2 : ∀ a, a < 11 → ∀ b, b < 11 → a ≠ b → (TX2 a).2.1 ≠ (TX2 b).2.1 := by decide +kernel
theorem tyX2_ok : ∀ k, k < 11 → parseFieldDescriptor (TX2 k).2.2.1 = some (tyX2 k) := by decide +kernel
def RX3 : String := "CardUnsigned$Law"
def TX3 : u_T := fun k => match k with
  | 0 => ("CardUnsigned$Law", "steps", "[I", true)
  | 1 => ("CardUnsigned$Law", "size", "I", false)
  | _ => ("CardUnsigned$Law", "stack", "[I", true)
def tyX3 : Nat → FieldType := fun k => match k with
  | 0 => .array .int
  | 1 => .int
  | _ => .array .int
abbrev wsX30 : List Cond := u_ws RX3 TX3 3
theorem nmX3 : ∀ a, a < 3 → ∀ b, b < 3 → a ≠ b → (TX3 a).2.1 ≠ (TX3 b).2.1 := by decide +kernel
theorem tyX3_ok : ∀ k, k < 3 → parseFieldDescriptor (TX3 k).2.2.1 = some (tyX3 k) := by decide +kernel
def RX4 : String := "CardUnsigned$Office"
def TX4 : u_T := fun k => match k with
  | 0 => ("CardUnsigned$Office", "numbers", "[[I", true)
  | 1 => ("CardUnsigned$Office", "people", "I", false)
  | _ => ("CardUnsigned$Office", "cards", "I", false)
def tyX4 : Nat → FieldType := fun k => match k with
  | 0 => .array (.array .int)
  | 1 => .int
  | _ => .int
abbrev wsX40 : List Cond := u_ws RX4 TX4 3
theorem nmX4 : ∀ a, a < 3 → ∀ b, b < 3 → a ≠ b → (TX4 a).2.1 ≠ (TX4 b).2.1 := by decide +kernel
theorem tyX4_ok : ∀ k, k < 3 → parseFieldDescriptor (TX4 k).2.2.1 = some (tyX4 k) := by decide +kernel
def RX5 : String := "CardUnsigned$Parser"
def TX5 : u_T := fun k => match k with
  | 0 => ("CardUnsigned$Parser", "tape", "[I", true)
  | 1 => ("CardUnsigned$Parser", "tapeSize", "I", false)
  | 2 => ("CardUnsigned$Parser", "steps", "[I", true)
  | 3 => ("CardUnsigned$Parser", "size", "I", false)
  | 4 => ("CardUnsigned$Parser", "waiting", "[I", true)
  | 5 => ("CardUnsigned$Parser", "waits", "I", false)
  | 6 => ("CardUnsigned$Parser", "open", "I", false)
  | 7 => ("CardUnsigned$Parser", "brackets", "I", false)
  | 8 => ("CardUnsigned$Parser", "wantsOperand", "Z", false)
  | 9 => ("CardUnsigned$Parser", "guarded", "Z", false)
  | 10 => ("CardUnsigned$Parser", "digits", "I", false)
  | _ => ("CardUnsigned$Parser", "numberStep", "I", false)
def tyX5 : Nat → FieldType := fun k => match k with
  | 0 => .array .int
  | 1 => .int
  | 2 => .array .int
  | 3 => .int
  | 4 => .array .int
  | 5 => .int
  | 6 => .int
  | 7 => .int
  | 8 => .boolean
  | 9 => .boolean
  | 10 => .int
  | _ => .int
abbrev wsX50 : List Cond := u_ws RX5 TX5 12
theorem nmX5 : ∀ a, a < 12 → ∀ b, b < 12 → a ≠ b → (TX5 a).2.1 ≠ (TX5 b).2.1 := by decide +kernel
theorem tyX5_ok : ∀ k, k < 12 → parseFieldDescriptor (TX5 k).2.2.1 = some (tyX5 k) := by decide +kernel
def RX6 : String := "CardUnsigned$Plans"
def TX6 : u_T := fun k => match k with
  | 0 => ("CardUnsigned$Plans", "office", "LCardUnsigned$Office;", true)
  | 1 => ("CardUnsigned$Plans", "thought", "LCardUnsigned$Thought;", true)
  | 2 => ("CardUnsigned$Plans", "times", "[I", true)
  | 3 => ("CardUnsigned$Plans", "way", "I", false)
  | 4 => ("CardUnsigned$Plans", "wayTop", "I", false)
  | _ => ("CardUnsigned$Plans", "wayBelow", "I", false)
def tyX6 : Nat → FieldType := fun k => match k with
  | 0 => .object "CardUnsigned$Office"
  | 1 => .object "CardUnsigned$Thought"
  | 2 => .array .int
  | 3 => .int
  | 4 => .int
  | _ => .int
abbrev wsX60 : List Cond := u_ws RX6 TX6 6
theorem nmX6 : ∀ a, a < 6 → ∀ b, b < 6 → a ≠ b → (TX6 a).2.1 ≠ (TX6 b).2.1 := by decide +kernel
theorem tyX6_ok : ∀ k, k < 6 → parseFieldDescriptor (TX6 k).2.2.1 = some (tyX6 k) := by decide +kernel
def RX7 : String := "CardUnsigned$Rows"
def TX7 : u_T := fun k => match k with
  | 0 => ("CardUnsigned$Rows", "office", "LCardUnsigned$Office;", true)
  | 1 => ("CardUnsigned$Rows", "thought", "LCardUnsigned$Thought;", true)
  | _ => ("CardUnsigned$Rows", "tally", "[I", true)
def tyX7 : Nat → FieldType := fun k => match k with
  | 0 => .object "CardUnsigned$Office"
  | 1 => .object "CardUnsigned$Thought"
  | _ => .array .int
abbrev wsX70 : List Cond := u_ws RX7 TX7 3
theorem nmX7 : ∀ a, a < 3 → ∀ b, b < 3 → a ≠ b → (TX7 a).2.1 ≠ (TX7 b).2.1 := by decide +kernel
theorem tyX7_ok : ∀ k, k < 3 → parseFieldDescriptor (TX7 k).2.2.1 = some (tyX7 k) := by decide +kernel
def RX8 : String := "CardUnsigned$Shelf"
def TX8 : u_T := fun k => match k with
  | 0 => ("CardUnsigned$Shelf", "holds", "I", false)
  | 1 => ("CardUnsigned$Shelf", "body", "I", false)
  | 2 => ("CardUnsigned$Shelf", "sort", "I", false)
  | 3 => ("CardUnsigned$Shelf", "size", "I", false)
  | _ => ("CardUnsigned$Shelf", "row", "[J", true)
def tyX8 : Nat → FieldType := fun k => match k with
  | 0 => .int
  | 1 => .int
  | 2 => .int
  | 3 => .int
  | _ => .array .long
abbrev wsX80 : List Cond := u_ws RX8 TX8 5
theorem nmX8 : ∀ a, a < 5 → ∀ b, b < 5 → a ≠ b → (TX8 a).2.1 ≠ (TX8 b).2.1 := by decide +kernel
theorem tyX8_ok : ∀ k, k < 5 → parseFieldDescriptor (TX8 k).2.2.1 = some (tyX8 k) := by decide +kernel
def RX9 : String := "CardUnsigned$Steps"
def TX9 : u_T := fun k => match k with
  | _ => ("", "", "", false)
def tyX9 : Nat → FieldType := fun k => match k with
  | _ => .int
abbrev wsX90 : List Cond := u_ws RX9 TX9 0
theorem nmX9 : ∀ a, a < 0 → ∀ b, b < 0 → a ≠ b → (TX9 a).2.1 ≠ (TX9 b).2.1 := by decide +kernel
theorem tyX9_ok : ∀ k, k < 0 → parseFieldDescriptor (TX9 k).2.2.1 = some (tyX9 k) := by decide +kernel
def RX10 : String := "CardUnsigned$Thought"
def TX10 : u_T := fun k => match k with
  | 0 => ("CardUnsigned$Thought", "office", "LCardUnsigned$Office;", true)
  | 1 => ("CardUnsigned$Thought", "law", "LCardUnsigned$Law;", true)
  | 2 => ("CardUnsigned$Thought", "names", "[I", true)
  | 3 => ("CardUnsigned$Thought", "weights", "[I", true)
  | 4 => ("CardUnsigned$Thought", "could", "[I", true)
  | _ => ("CardUnsigned$Thought", "ways", "[I", true)
def tyX10 : Nat → FieldType := fun k => match k with
  | 0 => .object "CardUnsigned$Office"
  | 1 => .object "CardUnsigned$Law"
  | 2 => .array .int
  | 3 => .array .int
  | 4 => .array .int
  | _ => .array .int
abbrev wsX100 : List Cond := u_ws RX10 TX10 6
theorem nmX10 : ∀ a, a < 6 → ∀ b, b < 6 → a ≠ b → (TX10 a).2.1 ≠ (TX10 b).2.1 := by decide +kernel
theorem tyX10_ok : ∀ k, k < 6 → parseFieldDescriptor (TX10 k).2.2.1 = some (tyX10 k) := by decide +kernel
def RX11 : String := "CardUnsigned"
def TX11 : u_T := fun k => match k with
  | 0 => ("CardUnsigned", "office", "LCardUnsigned$Office;", true)
  | 1 => ("CardUnsigned", "changes", "LCardUnsigned$Changes;", true)
  | 2 => ("CardUnsigned", "parser", "LCardUnsigned$Parser;", true)
  | 3 => ("CardUnsigned", "law", "LCardUnsigned$Law;", true)
  | 4 => ("CardUnsigned", "thought", "LCardUnsigned$Thought;", true)
  | 5 => ("CardUnsigned", "plans", "LCardUnsigned$Plans;", true)
  | 6 => ("CardUnsigned", "rows", "LCardUnsigned$Rows;", true)
  | 7 => ("CardUnsigned", "deeds", "LCardUnsigned$Deeds;", true)
  | 8 => ("CardUnsigned", "bodies", "LCardUnsigned$Bodies;", true)
  | _ => ("CardUnsigned", "shelves", "[LCardUnsigned$Shelf;", true)
def tyX11 : Nat → FieldType := fun k => match k with
  | 0 => .object "CardUnsigned$Office"
  | 1 => .object "CardUnsigned$Changes"
  | 2 => .object "CardUnsigned$Parser"
  | 3 => .object "CardUnsigned$Law"
  | 4 => .object "CardUnsigned$Thought"
  | 5 => .object "CardUnsigned$Plans"
  | 6 => .object "CardUnsigned$Rows"
  | 7 => .object "CardUnsigned$Deeds"
  | 8 => .object "CardUnsigned$Bodies"
  | _ => .array (.object "CardUnsigned$Shelf")
abbrev wsX110 : List Cond := u_ws RX11 TX11 10
theorem nmX11 : ∀ a, a < 10 → ∀ b, b < 10 → a ≠ b → (TX11 a).2.1 ≠ (TX11 b).2.1 := by decide +kernel
theorem tyX11_ok : ∀ k, k < 10 → parseFieldDescriptor (TX11 k).2.2.1 = some (tyX11 k) := by decide +kernel
def RX12 : String := "CardUnsignedModel"
def TX12 : u_T := fun k => match k with
  | 0 => ("CardUnsignedModel", "many", "I", false)
  | 1 => ("CardUnsignedModel", "from", "[I", true)
  | 2 => ("CardUnsignedModel", "till", "[I", true)
  | 3 => ("CardUnsignedModel", "hand", "[I", true)
  | 4 => ("CardUnsignedModel", "shy", "[I", true)
  | 5 => ("CardUnsignedModel", "liked", "[I", true)
  | 6 => ("CardUnsignedModel", "knows", "[I", true)
  | 7 => ("CardUnsignedModel", "cards", "I", false)
  | 8 => ("CardUnsignedModel", "whom", "[I", true)
  | 9 => ("CardUnsignedModel", "minute", "[I", true)
  | 10 => ("CardUnsignedModel", "shown", "[I", true)
  | 11 => ("CardUnsignedModel", "secret", "[I", true)
  | 12 => ("CardUnsignedModel", "stamp", "[I", true)
  | 13 => ("CardUnsignedModel", "sender", "[I", true)
  | 14 => ("CardUnsignedModel", "thanks", "[I", true)
  | 15 => ("CardUnsignedModel", "ways", "[I", true)
  | 16 => ("CardUnsignedModel", "now", "I", false)
  | 17 => ("CardUnsignedModel", "taped", "I", false)
  | 18 => ("CardUnsignedModel", "tape", "[I", true)
  | 19 => ("CardUnsignedModel", "isTold", "Z", false)
  | 20 => ("CardUnsignedModel", "lines", "I", false)
  | 21 => ("CardUnsignedModel", "asks", "[I", true)
  | 22 => ("CardUnsignedModel", "says", "[I", true)
  | 23 => ("CardUnsignedModel", "ends", "[I", true)
  | 24 => ("CardUnsignedModel", "code", "[I", true)
  | 25 => ("CardUnsignedModel", "at", "I", false)
  | 26 => ("CardUnsignedModel", "open", "I", false)
  | 27 => ("CardUnsignedModel", "coded", "I", false)
  | 28 => ("CardUnsignedModel", "newLines", "I", false)
  | 29 => ("CardUnsignedModel", "newAsks", "[I", true)
  | 30 => ("CardUnsignedModel", "newSays", "[I", true)
  | 31 => ("CardUnsignedModel", "newEnds", "[I", true)
  | 32 => ("CardUnsignedModel", "newCode", "[I", true)
  | 33 => ("CardUnsignedModel", "stack", "[I", true)
  | 34 => ("CardUnsignedModel", "names", "[I", true)
  | 35 => ("CardUnsignedModel", "led", "[I", true)
  | 36 => ("CardUnsignedModel", "imaged", "Z", false)
  | 37 => ("CardUnsignedModel", "oldCards", "I", false)
  | 38 => ("CardUnsignedModel", "oldNow", "I", false)
  | 39 => ("CardUnsignedModel", "oldThanks", "[I", true)
  | 40 => ("CardUnsignedModel", "oldLed", "[I", true)
  | 41 => ("CardUnsignedModel", "changes", "I", false)
  | 42 => ("CardUnsignedModel", "done", "I", false)
  | 43 => ("CardUnsignedModel", "changed", "[I", true)
  | 44 => ("CardUnsignedModel", "bodies", "I", false)
  | 45 => ("CardUnsignedModel", "kind", "[I", true)
  | 46 => ("CardUnsignedModel", "traced", "I", false)
  | 47 => ("CardUnsignedModel", "traces", "[I", true)
  | 48 => ("CardUnsignedModel", "holding", "[I", true)
  | 49 => ("CardUnsignedModel", "rowLength", "[I", true)
  | 50 => ("CardUnsignedModel", "rowOf", "[J", true)
  | 51 => ("CardUnsignedModel", "told", "[I", true)
  | 52 => ("CardUnsignedModel", "often", "[I", true)
  | 53 => ("CardUnsignedModel", "bestWay", "I", false)
  | 54 => ("CardUnsignedModel", "bestAbove", "I", false)
  | _ => ("CardUnsignedModel", "bestBelow", "I", false)
def tyX12 : Nat → FieldType := fun k => match k with
  | 0 => .int
  | 1 => .array .int
  | 2 => .array .int
  | 3 => .array .int
  | 4 => .array .int
  | 5 => .array .int
  | 6 => .array .int
  | 7 => .int
  | 8 => .array .int
  | 9 => .array .int
  | 10 => .array .int
  | 11 => .array .int
  | 12 => .array .int
  | 13 => .array .int
  | 14 => .array .int
  | 15 => .array .int
  | 16 => .int
  | 17 => .int
  | 18 => .array .int
  | 19 => .boolean
  | 20 => .int
  | 21 => .array .int
  | 22 => .array .int
  | 23 => .array .int
  | 24 => .array .int
  | 25 => .int
  | 26 => .int
  | 27 => .int
  | 28 => .int
  | 29 => .array .int
  | 30 => .array .int
  | 31 => .array .int
  | 32 => .array .int
  | 33 => .array .int
  | 34 => .array .int
  | 35 => .array .int
  | 36 => .boolean
  | 37 => .int
  | 38 => .int
  | 39 => .array .int
  | 40 => .array .int
  | 41 => .int
  | 42 => .int
  | 43 => .array .int
  | 44 => .int
  | 45 => .array .int
  | 46 => .int
  | 47 => .array .int
  | 48 => .array .int
  | 49 => .array .int
  | 50 => .array .long
  | 51 => .array .int
  | 52 => .array .int
  | 53 => .int
  | 54 => .int
  | _ => .int
abbrev wsX120 : List Cond := u_ws RX12 TX12 56
theorem nmX12 : ∀ a, a < 56 → ∀ b, b < 56 → a ≠ b → (TX12 a).2.1 ≠ (TX12 b).2.1 := by decide +kernel
theorem tyX12_ok : ∀ k, k < 56 → parseFieldDescriptor (TX12 k).2.2.1 = some (tyX12 k) := by decide +kernel
def zk_uw : List Cond := lw_tbl.filter goodWord
theorem zk_uw_in {w : Cond} (h : w ∈ lw_tbl) (hg : goodWord w = true) : w ∈ zk_uw := List.mem_filter.mpr ⟨h, hg⟩
abbrev zk_cl : List vw_C := [(RX0, TX0, 5), (RX1, TX1, 7), (RX2, TX2, 11), (RX3, TX3, 3), (RX4, TX4, 3), (RX5, TX5, 12), (RX6, TX6, 6), (RX7, TX7, 3), (RX8, TX8, 5), (RX9, TX9, 0), (RX10, TX10, 6), (RX11, TX11, 10), (RX12, TX12, 56)]
def zk_ty (c : Nat) : Nat → FieldType := match c with
  | 0 => tyX0
  | 1 => tyX1
  | 2 => tyX2
  | 3 => tyX3
  | 4 => tyX4
  | 5 => tyX5
  | 6 => tyX6
  | 7 => tyX7
  | 8 => tyX8
  | 9 => tyX9
  | 10 => tyX10
  | 11 => tyX11
  | _ => tyX12
def zk_N (c : Nat) : Nat := match c with
  | 0 => 5
  | 1 => 7
  | 2 => 11
  | 3 => 3
  | 4 => 3
  | 5 => 12
  | 6 => 6
  | 7 => 3
  | 8 => 5
  | 9 => 0
  | 10 => 6
  | 11 => 10
  | _ => 56
end
section
/-! THE SMALL MACHINE: cells at fixed places, a step an instruction, as a transformer of propositions. What it says of a method is carried over to the machine once, by zk_met at the end of part 04. -/
abbrev zk_M : Type := MethodName × ByteArray × Nat × Option FieldType
/-- a world: its cells' kinds and lengths (0 ints, 1 longs, 2 shelves, 3 rows of ints, c + 4 an object of class c), where its references lead -/
abbrev zk_Wd : Type := List (Nat × Nat) × (Nat → Nat → Option Nat)
/-- what its cells hold: ints, longs -/
abbrev zk_H : Type := (Nat → Nat → Int32) × (Nat → Nat → Int64)
/-- the classes and slots, the array classes, the addresses -/
abbrev zk_E : Type := va_G × (Nat → ClassId) × (Nat → Nat)
abbrev zk_Q : Type := (Int32 → zk_H → Prop) × (Int64 → zk_H → Prop) × (Unit → zk_H → Prop) × (Value → zk_H → Prop)
abbrev zk_P : Type := List Value → zk_H → zk_Q → Prop
abbrev zk_L : Type := List (Option Value)
abbrev zk_K : Type := Nat → zk_L → List Value → zk_H → Prop
def zk_si (h : zk_H) (k j : Nat) (v : Int32) : zk_H := (fun a b => if a = k then (if b = j then v else h.1 a b) else h.1 a b, h.2)
def zk_sl (h : zk_H) (k j : Nat) (v : Int64) : zk_H := (h.1, fun a b => if a = k then (if b = j then v else h.2 a b) else h.2 a b)
def zk_wi (h : zk_H) (k : Nat) (f : Nat → Int32) : zk_H := (fun a b => if a = k then f b else h.1 a b, h.2)
def zk_wl (h : zk_H) (k : Nat) (f : Nat → Int64) : zk_H := (h.1, fun a b => if a = k then f b else h.2 a b)
def zk_gl (L : zk_L) (i : Nat) : Option Value := match L[i]? with
  | some o => o
  | none => none
def zk_wide (L : zk_L) (i : Nat) : Bool := match i with
  | 0 => false
  | k + 1 => match zk_gl L k with
    | some (.long _) => true
    | some (.double _) => true
    | _ => false
def zk_st1 (L : zk_L) (i : Nat) (v : Value) : Option zk_L := bif Nat.blt i L.length && !(zk_wide L i) then some (L.set i (some v)) else none
def zk_st2 (L : zk_L) (i : Nat) (v : Value) : Option zk_L := bif Nat.blt (i + 1) L.length && !(zk_wide L i) then some ((L.set i (some v)).set (i + 1) none) else none
def zk_on {α : Type} (o : Option α) (f : α → Prop) : Prop := match o with
  | some a => f a
  | none => False
def zk_p1i (st : List Value) (k : Int32 → List Value → Prop) : Prop := match st with
  | .int x :: r => k x r
  | _ => False
def zk_p2i (st : List Value) (k : Int32 → Int32 → List Value → Prop) : Prop := match st with
  | .int y :: .int x :: r => k x y r
  | _ => False
def zk_p1l (st : List Value) (k : Int64 → List Value → Prop) : Prop := match st with
  | .long x :: r => k x r
  | _ => False
def zk_p2l (st : List Value) (k : Int64 → Int64 → List Value → Prop) : Prop := match st with
  | .long y :: .long x :: r => k x y r
  | _ => False
def zk_pli (st : List Value) (k : Int64 → Int32 → List Value → Prop) : Prop := match st with
  | .int y :: .long x :: r => k x y r
  | _ => False
/-- index and array -/
def zk_pia (st : List Value) (k : Int32 → Value → List Value → Prop) : Prop := match st with
  | .int i :: a :: r => k i a r
  | _ => False
def zk_piia (st : List Value) (k : Int32 → Int32 → Value → List Value → Prop) : Prop := match st with
  | .int x :: .int i :: a :: r => k x i a r
  | _ => False
def zk_plia (st : List Value) (k : Int64 → Int32 → Value → List Value → Prop) : Prop := match st with
  | .long x :: .int i :: a :: r => k x i a r
  | _ => False
def zk_pv (st : List Value) (k : Value → List Value → Prop) : Prop := match st with
  | v :: r => k v r
  | _ => False
/-- an int under a reference to an object (putfield) -/
def zk_piv (st : List Value) (k : Int32 → Value → List Value → Prop) : Prop := match st with
  | .int x :: v :: r => k x v r
  | _ => False
/-- a value that is a reference or null -/
def zk_pr (st : List Value) (k : Value → List Value → Prop) : Prop := match st with
  | .ref a :: r => k (.ref a) r
  | .retAddr a :: r => k (.retAddr a) r
  | .null :: r => k .null r
  | _ => False
def zk_lr (o : Option Value) (k : Value → Prop) : Prop := match o with
  | some (.ref a) => k (.ref a)
  | some (.retAddr a) => k (.retAddr a)
  | some .null => k .null
  | _ => False
def zk_li (o : Option Value) (k : Int32 → Prop) : Prop := match o with
  | some (.int x) => k x
  | _ => False
def zk_ll (o : Option Value) (k : Int64 → Prop) : Prop := match o with
  | some (.long x) => k x
  | _ => False
/-- a jump -/
def zk_j (pc : Nat) (o : Int) (f : Nat → Prop) : Prop := match (pc : Int) + o with
  | .ofNat t => f t
  | .negSucc _ => False
/-- an object of class c; an array of a kind. A cell's place that is not a written number is told as .retAddr -/
def zk_iso (w : zk_Wd) (v : Value) (c : Nat) (k : Nat → Prop) : Prop := match v with
  | .ref a => match w.1[a]? with
    | some s => bif Nat.beq s.1 (c + 4) && Nat.beq s.2 (zk_N c) then k a else False
    | none => False
  | .retAddr a => w.1[a]? = some (c + 4, zk_N c) ∧ k a
  | _ => False
def zk_isa (w : zk_Wd) (v : Value) (kd : Nat) (k : Nat → Nat → Prop) : Prop := match v with
  | .ref a => match w.1[a]? with
    | some s => bif Nat.beq s.1 kd then k a s.2 else False
    | none => False
  | .retAddr a => ∃ n, w.1[a]? = some (kd, n) ∧ k a n
  | _ => False
/-- constant arrays: of the places 1000 .. -/
def zk_rom : List (FieldType × List Int32) := [(.int, [0, 0, 0, 0, 0, 0, 0, -1, -1, 0, 0, 0, 0]), (.int, [99, 99, 3, 9, 255, 255, 99, 3, 7, 1, 12, 99, 99]), (.int, [-1, 0, 0, 2, 1, 3, 0, 4]), (.int, [1, 10, 11, 2, 20, 0, 0, 0, 0, 30, 0, 0, 0, 41, 40, 0, 0, 0, 50, 0, 0, 0, 0, 60, 70, 0, 0, 0, 0, 80, 0, 81]), (.byte, [108, 104, 115, 107, 109, 99])]
def zk_sta : List (String × String × String × Value) := [(RX4, "LEAST", "[I", .ref 1000), (RX4, "MOST", "[I", .ref 1001), (RX0, "ABOVE", "[I", .ref 1002), (RX0, "OWN", "[I", .ref 1003), ("java/lang/String", "COMPACT_STRINGS", "Z", .int 1)]
def zk_sw (x : Int32) (jump : Int → Prop) (D : Prop) : Int → List Int → Prop
  | _, [] => D
  | v, o :: os => (x = Int32.ofInt v → jump o) ∧ (¬ x = Int32.ofInt v → zk_sw x jump D (v + 1) os)
def zk_lsw (x : Int32) (jump : Int → Prop) (D : Prop) : List (Int × Int) → Prop
  | [] => D
  | q :: qs => (x = Int32.ofInt q.1 → jump q.2) ∧ (¬ x = Int32.ofInt q.1 → zk_lsw x jump D qs)
/-- what an entry of a class' pool is: kind, two numbers, an int -/
abbrev zk_Ln : Type := Nat × Nat × Nat × Int
/-- a method's number leads to: its words, how many arguments it takes (receiver apart), its receiver's class (200: it has none; 100: the constant text) -/
abbrev zk_Mt : Type := Nat → zk_M × Nat × Nat
def zk_cats (r : List Value) : Nat := (r.map fun v => v.category).sum
def zk_cont (k : zk_K) (pc : Nat) (L : zk_L) (r : List Value) : zk_Q := (fun x h => k (pc + 3) L (.int x :: r) h, fun x h => k (pc + 3) L (.long x :: r) h, fun _ h => k (pc + 3) L r h, fun v h => k (pc + 3) L (v :: r) h)
def zk_recv (w : zk_Wd) (rc : Nat) (as : List Value) (f : Prop) : Prop := match as with
  | v :: _ => bif Nat.blt rc 100 then zk_iso w v rc (fun _ => f) else (match v with
    | .ref a => bif Nat.beq a 2000 then f else False
    | _ => False)
  | [] => False
def zk_callS (mt : zk_Mt) (cx : Nat → zk_P) (k : zk_K) (a pc : Nat) (L : zk_L) (st : List Value) (h : zk_H) : Prop :=
  bif Nat.ble (mt a).2.1 st.length && Nat.ble (zk_cats (st.drop (mt a).2.1)) 8 && Nat.beq (mt a).2.2 200 then cx a (st.take (mt a).2.1).reverse h (zk_cont k pc L (st.drop (mt a).2.1)) else False
def zk_callV (w : zk_Wd) (mt : zk_Mt) (cx : Nat → zk_P) (k : zk_K) (a pc : Nat) (L : zk_L) (st : List Value) (h : zk_H) : Prop :=
  bif Nat.ble ((mt a).2.1 + 1) st.length && Nat.ble (zk_cats (st.drop ((mt a).2.1 + 1))) 8 && Nat.ble (mt a).2.2 100 then zk_recv w (mt a).2.2 (st.take ((mt a).2.1 + 1)).reverse (cx a (st.take ((mt a).2.1 + 1)).reverse h (zk_cont k pc L (st.drop ((mt a).2.1 + 1)))) else False
def zk_len (ins : Instr) (l : Nat) : Nat := match ins with
  | .tableswitch .. => l
  | .lookupswitch .. => l
  | .aload _ | .iload _ | .lload _ | .astore _ | .istore _ | .lstore _ | .bipush _ | .ldc _ => 2
  | .sipush _ | .iinc .. | .ifCond .. | .if_icmp .. | .ifnull _ | .ifnonnull _ | .goto _ | .getfield _ | .putfield _ | .getstatic _ | .invokevirtual _ | .invokestatic _ | .ldc_w _ | .ldc2_w _ => 3
  | _ => 1
/-- a step. md: 1 where a place that is read is not a written number; a switch's length -/
def zk_S (w : zk_Wd) (lk : Nat → zk_Ln) (mt : zk_Mt) (cx : Nat → zk_P) (rt : Option FieldType) (Q : zk_Q) (k : zk_K) (ins : Instr) (md pc : Nat) (L : zk_L) (st : List Value) (h : zk_H) : Prop :=
  match ins with
  | .aload_n i => zk_lr (zk_gl L i) fun v => k (pc + 1) L (v :: st) h
  | .aload i => zk_lr (zk_gl L i) fun v => k (pc + 2) L (v :: st) h
  | .iload_n i => zk_li (zk_gl L i) fun x => k (pc + 1) L (.int x :: st) h
  | .iload i => zk_li (zk_gl L i) fun x => k (pc + 2) L (.int x :: st) h
  | .lload_n i => zk_ll (zk_gl L i) fun x => k (pc + 1) L (.long x :: st) h
  | .lload i => zk_ll (zk_gl L i) fun x => k (pc + 2) L (.long x :: st) h
  | .istore_n i => zk_p1i st fun x r => zk_on (zk_st1 L i (.int x)) fun L' => k (pc + 1) L' r h
  | .istore i => zk_p1i st fun x r => zk_on (zk_st1 L i (.int x)) fun L' => k (pc + 2) L' r h
  | .astore_n i => zk_pr st fun v r => zk_on (zk_st1 L i v) fun L' => k (pc + 1) L' r h
  | .astore i => zk_pr st fun v r => zk_on (zk_st1 L i v) fun L' => k (pc + 2) L' r h
  | .lstore_n i => zk_p1l st fun x r => zk_on (zk_st2 L i (.long x)) fun L' => k (pc + 1) L' r h
  | .lstore i => zk_p1l st fun x r => zk_on (zk_st2 L i (.long x)) fun L' => k (pc + 2) L' r h
  | .iinc i n => zk_li (zk_gl L i) fun x => zk_on (zk_st1 L i (.int (x + Int32.ofInt n))) fun L' => k (pc + 3) L' st h
  | .iconst n => k (pc + 1) L (.int (Int32.ofInt n) :: st) h
  | .bipush n => k (pc + 2) L (.int (Int8.ofInt n).toInt32 :: st) h
  | .sipush n => k (pc + 3) L (.int (Int16.ofInt n).toInt32 :: st) h
  | .lconst n => k (pc + 1) L (.long (Int64.ofNat n) :: st) h
  | .aconst_null => k (pc + 1) L (.null :: st) h
  | .ldc i => match lk i with
    | (7, _, _, z) => k (pc + 2) L (.int (Int32.ofInt z) :: st) h
    | (9, _, _, _) => k (pc + 2) L (.ref 2000 :: st) h
    | _ => False
  | .ldc_w i => match lk i with
    | (7, _, _, z) => k (pc + 3) L (.int (Int32.ofInt z) :: st) h
    | _ => False
  | .ldc2_w i => match lk i with
    | (8, _, _, z) => k (pc + 3) L (.long (Int64.ofInt z) :: st) h
    | _ => False
  | .iadd => zk_p2i st fun x y r => k (pc + 1) L (.int (x + y) :: r) h
  | .isub => zk_p2i st fun x y r => k (pc + 1) L (.int (x - y) :: r) h
  | .imul => zk_p2i st fun x y r => k (pc + 1) L (.int (x * y) :: r) h
  | .iand => zk_p2i st fun x y r => k (pc + 1) L (.int (x &&& y) :: r) h
  | .ior => zk_p2i st fun x y r => k (pc + 1) L (.int (x ||| y) :: r) h
  | .ixor => zk_p2i st fun x y r => k (pc + 1) L (.int (x ^^^ y) :: r) h
  | .ishl => zk_p2i st fun x y r => k (pc + 1) L (.int (x <<< (y &&& 31)) :: r) h
  | .ishr => zk_p2i st fun x y r => k (pc + 1) L (.int (x >>> (y &&& 31)) :: r) h
  | .iushr => zk_p2i st fun x y r => k (pc + 1) L (.int (x.toUInt32 >>> (y.toUInt32 &&& Int32.toUInt32 31)).toInt32 :: r) h
  | .ineg => zk_p1i st fun x r => k (pc + 1) L (.int (-x) :: r) h
  | .idiv => zk_p2i st fun x y r => ¬ y = 0 ∧ k (pc + 1) L (.int (x / y) :: r) h
  | .irem => zk_p2i st fun x y r => ¬ y = 0 ∧ k (pc + 1) L (.int (x - x / y * y) :: r) h
  | .ladd => zk_p2l st fun x y r => k (pc + 1) L (.long (x + y) :: r) h
  | .lmul => zk_p2l st fun x y r => k (pc + 1) L (.long (x * y) :: r) h
  | .land => zk_p2l st fun x y r => k (pc + 1) L (.long (x &&& y) :: r) h
  | .lor => zk_p2l st fun x y r => k (pc + 1) L (.long (x ||| y) :: r) h
  | .lshl => zk_pli st fun x y r => k (pc + 1) L (.long (x <<< (y.toInt64 &&& 63)) :: r) h
  | .lcmp => zk_p2l st fun x y r => k (pc + 1) L (.int (lg_cmp x y) :: r) h
  | .i2l => zk_p1i st fun x r => k (pc + 1) L (.long x.toInt64 :: r) h
  | .l2i => zk_p1l st fun x r => k (pc + 1) L (.int x.toInt32 :: r) h
  | .i2b => zk_p1i st fun x r => k (pc + 1) L (.int x.toInt8.toInt32 :: r) h
  | .i2s => zk_p1i st fun x r => k (pc + 1) L (.int x.toInt16.toInt32 :: r) h
  | .i2c => zk_p1i st fun x r => k (pc + 1) L (.int (x.toUInt32 % 65536).toInt32 :: r) h
  | .dup => zk_pv st fun v r => bif Nat.beq v.category 1 then k (pc + 1) L (v :: v :: r) h else False
  | .pop => zk_pv st fun v r => bif Nat.beq v.category 1 then k (pc + 1) L r h else False
  | .dup_x1 => zk_pv st fun v r => zk_pv r fun u r => bif Nat.beq v.category 1 && Nat.beq u.category 1 then k (pc + 1) L (v :: u :: v :: r) h else False
  | .dup2 => zk_pv st fun v r => zk_pv r fun u r => bif Nat.beq v.category 1 && Nat.beq u.category 1 then k (pc + 1) L (v :: u :: v :: u :: r) h else False
  | .goto o => zk_j pc o fun t => k t L st h
  | .ifCond c o => zk_p1i st fun x r => zk_j pc o fun t => match c with
    | .eq => (x = 0 → k t L r h) ∧ (¬ x = 0 → k (pc + 3) L r h)
    | .ne => (¬ x = 0 → k t L r h) ∧ (x = 0 → k (pc + 3) L r h)
    | .lt => (x < 0 → k t L r h) ∧ (¬ x < 0 → k (pc + 3) L r h)
    | .ge => (0 ≤ x → k t L r h) ∧ (¬ 0 ≤ x → k (pc + 3) L r h)
    | .gt => (0 < x → k t L r h) ∧ (¬ 0 < x → k (pc + 3) L r h)
    | .le => (x ≤ 0 → k t L r h) ∧ (¬ x ≤ 0 → k (pc + 3) L r h)
  | .if_icmp c o => zk_p2i st fun x y r => zk_j pc o fun t => match c with
    | .eq => (x = y → k t L r h) ∧ (¬ x = y → k (pc + 3) L r h)
    | .ne => (¬ x = y → k t L r h) ∧ (x = y → k (pc + 3) L r h)
    | .lt => (x < y → k t L r h) ∧ (¬ x < y → k (pc + 3) L r h)
    | .ge => (y ≤ x → k t L r h) ∧ (¬ y ≤ x → k (pc + 3) L r h)
    | .gt => (y < x → k t L r h) ∧ (¬ y < x → k (pc + 3) L r h)
    | .le => (x ≤ y → k t L r h) ∧ (¬ x ≤ y → k (pc + 3) L r h)
  | .ifnull o => zk_j pc o fun t => match st with
    | .null :: r => k t L r h
    | .ref _ :: r => k (pc + 3) L r h
    | .retAddr _ :: r => k (pc + 3) L r h
    | _ => False
  | .ifnonnull o => zk_j pc o fun t => match st with
    | .null :: r => k (pc + 3) L r h
    | .ref _ :: r => k t L r h
    | .retAddr _ :: r => k t L r h
    | _ => False
  | .tableswitch d lo hi os => zk_p1i st fun x r => bif decide (-2147483648 ≤ lo) && decide (lo + os.toList.length ≤ 2147483647) && decide (hi + 1 = lo + os.toList.length) then zk_sw x (fun o => zk_j pc o fun t => k t L r h) (zk_j pc d fun t => k t L r h) lo os.toList else False
  | .lookupswitch d ps => zk_p1i st fun x r => bif (ps.toList.zip (ps.toList.drop 1)).all (fun (a, next) => a.1 < next.1) && ps.toList.all (fun q => decide (-2147483648 ≤ q.1) && decide (q.1 ≤ 2147483647)) then zk_lsw x (fun o => zk_j pc o fun t => k t L r h) (zk_j pc d fun t => k t L r h) ps.toList else False
  | .getfield i => zk_pv st fun v r => match lk i with
    | (0, c, j, _) => zk_iso w v c fun a => k (pc + 3) L (.int (h.1 a j) :: r) h
    | (12, c, j, _) => zk_iso w v c fun a => k (pc + 3) L (.int (h.1 a j) :: r) h
    | (1, c, j, _) => zk_iso w v c fun a => match md with
      | 0 => k (pc + 3) L (va_rf (w.2 a j) :: r) h
      | _ => ∃ b, w.2 a j = some b ∧ k (pc + 3) L (.retAddr b :: r) h
    | (10, _, _, _) => match v with
      | .ref a => bif Nat.beq a 2000 then k (pc + 3) L (.ref 1004 :: r) h else False
      | _ => False
    | (11, _, _, _) => match v with
      | .ref a => bif Nat.beq a 2000 then k (pc + 3) L (.int 0 :: r) h else False
      | _ => False
    | _ => False
  | .putfield i => zk_piv st fun x v r => match lk i with
    | (0, c, j, _) => zk_iso w v c fun a => k (pc + 3) L r (zk_si h a j x)
    | (12, c, j, _) => zk_iso w v c fun a => (x = 0 ∨ x = 1) ∧ k (pc + 3) L r (zk_si h a j x)
    | _ => False
  | .getstatic i => match lk i with
    | (2, a, _, _) => zk_on zk_sta[a]? fun q => k (pc + 3) L (q.2.2.2 :: st) h
    | _ => False
  | .iaload => zk_pia st fun i v r => match v with
    | .ref a => bif Nat.blt a 1000 then zk_isa w (.ref a) 0 (fun a n => vp_in i n ∧ k (pc + 1) L (.int (h.1 a i.toNatClampNeg) :: r) h) else zk_on zk_rom[a - 1000]? fun q => bif decide (q.1 = .int) then vp_in i q.2.length ∧ k (pc + 1) L (.int (q.2.getD i.toNatClampNeg 0) :: r) h else False
    | v => zk_isa w v 0 fun a n => vp_in i n ∧ k (pc + 1) L (.int (h.1 a i.toNatClampNeg) :: r) h
  | .baload => zk_pia st fun i v r => match v with
    | .ref a => bif Nat.beq a 1004 then vp_in i 6 ∧ k (pc + 1) L (.int (([108, 104, 115, 107, 109, 99] : List Int32).getD i.toNatClampNeg 0) :: r) h else False
    | _ => False
  | .laload => zk_pia st fun i v r => zk_isa w v 1 fun a n => vp_in i n ∧ k (pc + 1) L (.long (h.2 a i.toNatClampNeg) :: r) h
  | .aaload => zk_pia st fun i v r => match md with
    | 0 => zk_isa w v 3 fun a n => vp_in i n ∧ k (pc + 1) L (va_rf (w.2 a i.toNatClampNeg) :: r) h
    | 1 => zk_isa w v 3 fun a n => vp_in i n ∧ ∃ b, w.2 a i.toNatClampNeg = some b ∧ k (pc + 1) L (.retAddr b :: r) h
    | _ => zk_isa w v 2 fun a n => vp_in i n ∧ ∃ b, w.2 a i.toNatClampNeg = some b ∧ k (pc + 1) L (.retAddr b :: r) h
  | .iastore => zk_piia st fun x i v r => zk_isa w v 0 fun a n => vp_in i n ∧ k (pc + 1) L r (zk_si h a i.toNatClampNeg x)
  | .lastore => zk_plia st fun x i v r => zk_isa w v 1 fun a n => vp_in i n ∧ k (pc + 1) L r (zk_sl h a i.toNatClampNeg x)
  | .arraylength => zk_pv st fun v r => match v with
    | .ref a => match w.1[a]? with
      | some s => bif Nat.blt s.1 2 then k (pc + 1) L (.int (Int32.ofNat s.2) :: r) h else False
      | none => bif Nat.beq a 1004 then k (pc + 1) L (.int 6 :: r) h else False
    | .retAddr a => ∃ kd n, kd < 2 ∧ w.1[a]? = some (kd, n) ∧ k (pc + 1) L (.int (Int32.ofNat n) :: r) h
    | _ => False
  | .invokestatic i => match lk i with
    | (3, a, _, _) => zk_callS mt cx k a pc L st h
    | (4, _, _, _) => zk_p2i st fun x y r => bif Nat.ble (zk_cats r) 8 then k (pc + 3) L (.int (if x < y then y else x) :: r) h else False
    | (5, _, _, _) => zk_p2i st fun x y r => bif Nat.ble (zk_cats r) 8 then k (pc + 3) L (.int (if y < x then y else x) :: r) h else False
    | (6, _, _, _) => match st with
      | [.int n, .int dp, v, .int sp, u] => match md with
        | 0 => zk_isa w u 0 fun a0 n0 => zk_isa w v 0 fun a n1 => (¬ sp < 0 ∧ ¬ dp < 0 ∧ ¬ n < 0 ∧ sp.toNatClampNeg + n.toNatClampNeg ≤ n0 ∧ dp.toNatClampNeg + n.toNatClampNeg ≤ n1) ∧ k (pc + 3) L [] (zk_wi h a (va_cpy (h.1 a0) (h.1 a) sp.toNatClampNeg dp.toNatClampNeg n.toNatClampNeg))
        | _ => zk_isa w u 1 fun a0 n0 => zk_isa w v 1 fun a n1 => (¬ sp < 0 ∧ ¬ dp < 0 ∧ ¬ n < 0 ∧ sp.toNatClampNeg + n.toNatClampNeg ≤ n0 ∧ dp.toNatClampNeg + n.toNatClampNeg ≤ n1) ∧ k (pc + 3) L [] (zk_wl h a (va_cpy (h.2 a0) (h.2 a) sp.toNatClampNeg dp.toNatClampNeg n.toNatClampNeg))
      | _ => False
    | _ => False
  | .invokevirtual i => match lk i with
    | (3, a, _, _) => zk_callV w mt cx k a pc L st h
    | _ => False
  | .ireturn => match st with
    | [.int v] => match rt with
      | some .int => Q.1 v h
      | some .boolean => (v = 0 ∨ v = 1) ∧ Q.1 v h
      | some .byte => v.toInt8.toInt32 = v ∧ Q.1 v h
      | _ => False
    | _ => False
  | .lreturn => match st with
    | [.long v] => match rt with
      | some .long => Q.2.1 v h
      | _ => False
    | _ => False
  | .return_ => match st with
    | [] => match rt with
      | none => Q.2.2.1 () h
      | _ => False
    | _ => False
  | .areturn => match st with
    | [v] => match rt with
      | some (.object _) => zk_pr [v] fun v _ => Q.2.2.2 v h
      | _ => False
    | _ => False
  | _ => False
/-- a step at a place of a method's code -/
def zk_Sp (w : zk_Wd) (lk : Nat → zk_Ln) (mt : zk_Mt) (cx : Nat → zk_P) (rt : Option FieldType) (cd : Nat → Option (Instr × Nat)) (Q : zk_Q) (k : zk_K) : zk_K := fun pc L st h => match cd pc with
  | some q => zk_S w lk mt cx rt Q k q.1 q.2 pc L st h
  | none => False
/-- from here the method comes to an end where Q holds: the least such -/
def zk_X (w : zk_Wd) (lk : Nat → zk_Ln) (mt : zk_Mt) (cx : Nat → zk_P) (rt : Option FieldType) (cd : Nat → Option (Instr × Nat)) (Q : zk_Q) : zk_K := fun pc L st h => ∀ Z : zk_K, (∀ pc L st h, zk_Sp w lk mt cx rt cd Q Z pc L st h → Z pc L st h) → Z pc L st h
/-- some steps, up to a place of stops -/
def zk_R (w : zk_Wd) (lk : Nat → zk_Ln) (mt : zk_Mt) (cx : Nat → zk_P) (rt : Option FieldType) (cd : Nat → Option (Instr × Nat)) (Q : zk_Q) (stops : List Nat) (k : zk_K) : Nat → zk_K
  | 0 => fun _ _ _ _ => False
  | n + 1 => zk_Sp w lk mt cx rt cd Q (fun pc L st h => bif stops.any (Nat.beq pc) then k pc L st h else zk_R w lk mt cx rt cd Q stops k n pc L st h)
end
section
/-! WHAT THE SMALL MACHINE SAYS HOLDS OF THE MACHINE -/
def zk_cv (E : zk_E) (v : Value) : Value := match v with
  | .ref a => .ref (E.2.2 a)
  | .retAddr a => .ref (E.2.2 a)
  | v => v
def zk_isr : FieldType → Bool
  | .object _ => true
  | .array _ => true
  | _ => false
def zk_fv (E : zk_E) (w : zk_Wd) (h : zk_H) (k : Nat) (ty : Nat → FieldType) (j : Nat) : Value := if zk_isr (ty j) = true then va_rf ((w.2 k j).map E.2.2) else .int (h.1 k j)
def zk_cell (E : zk_E) (w : zk_Wd) (h : zk_H) (k : Nat) (s : Nat × Nat) : va_E := match s.1 with
  | 0 => .inl (E.2.1 0, s.2, .inl (h.1 k))
  | 1 => .inl (E.2.1 1, s.2, .inr (.inl (h.2 k)))
  | 2 => .inl (E.2.1 2, s.2, .inr (.inr (.inr (.inr (fun j => (w.2 k j).map E.2.2)))))
  | 3 => .inl (E.2.1 3, s.2, .inr (.inr (.inr (.inr (fun j => (w.2 k j).map E.2.2)))))
  | c + 4 => .inr (c, (List.range s.2).map (zk_fv E w h k (zk_ty c)))
def zk_w (E : zk_E) (w : zk_Wd) (h : zk_H) : va_W := (List.range w.1.length).map (fun k => (E.2.2 k, zk_cell E w h k (w.1.getD k (0, 0))))
def zk_tys (E : zk_E) : List (ClassId × FieldType) := [(E.2.1 0, .int), (E.2.1 1, .long), (E.2.1 2, .object RX8), (E.2.1 3, .array .int)]
def zk_A (E : zk_E) (n sz : Nat) : Nat → Prop := fun q => (∃ k, k < n ∧ q = E.2.2 k) ∨ sz ≤ q
def zk_Bg (E : zk_E) (A : Nat → Prop) (U : State) : Prop :=
  (∀ t q, zk_rom[t]? = some q → va_T q.1 (E.2.2 (1000 + t)) q.2.length (fun j => .int (q.2.getD j 0)) A U U.heap) ∧ (∀ q ∈ zk_sta, va_Z q.1 q.2.1 q.2.2.1 (zk_cv E q.2.2.2) A U U.heap) ∧
  va_O "java/lang/String" (E.2.2 2000) A U U.heap ∧ va_OF "java/lang/String" "coder" "B" (.int 0) (E.2.2 2000) A U U.heap ∧ va_OF "java/lang/String" "value" "[B" (.ref (E.2.2 1004)) (E.2.2 2000) A U U.heap ∧ vk_R RX5 77 "lhskmc" (E.2.2 2000) U ∧ vk_R RX10 11 "lhskmc" (E.2.2 2000) U
theorem zk_Bg.moved {E : zk_E} {A B : Nat → Prop} {s U : State} (h : zk_Bg E A s) (hW : s.WarmedH U.vm) (hq : ∀ a : Nat, a < s.heap.size → ¬ A a → U.heap[a]? = s.heap[a]?) (hAB : ∀ q, B q → A q) : zk_Bg E B U := by
  obtain ⟨h1, h2, h3, h4, h5, h6, h7⟩ := h
  exact ⟨fun t q hq' => ((va_T.moved hW.alike (h1 t q hq')).kept hq).narrow hAB, fun q hq' => ((va_Z.moved hW.alike (h2 q hq')).kept hq).narrow hAB, ((va_O.moved hW.alike h3).kept hq).narrow hAB, ((va_OF.moved hW.alike h4).kept hq).narrow hAB, ((va_OF.moved hW.alike h5).kept hq).narrow hAB, h6.warm hW, h7.warm hW⟩
theorem zk_w_get {E : zk_E} {w : zk_Wd} {h : zk_H} {k : Nat} {s : Nat × Nat} (hs : w.1[k]? = some s) : (zk_w E w h)[k]? = some (E.2.2 k, zk_cell E w h k s) := by
  have hk : k < w.1.length := (List.getElem?_eq_some_iff.mp hs).1
  simp [zk_w, List.getElem?_map, List.getElem?_range hk, hs]
theorem zk_w_set {E : zk_E} {w : zk_Wd} {h h' : zk_H} {k : Nat} {s : Nat × Nat} (hs : w.1[k]? = some s) (ho : ∀ a, a ≠ k → h'.1 a = h.1 a ∧ h'.2 a = h.2 a) : (zk_w E w h).set k (E.2.2 k, zk_cell E w h' k s) = zk_w E w h' := by
  have hk : k < w.1.length := (List.getElem?_eq_some_iff.mp hs).1
  apply List.ext_getElem?
  intro i
  rw [List.getElem?_set]
  by_cases hi : k = i
  · subst hi
    rw [if_pos rfl, if_pos (by simp [zk_w, hk]), zk_w_get hs]
  · rw [if_neg hi]
    by_cases hl : i < w.1.length
    · obtain ⟨t, ht⟩ : ∃ t, w.1[i]? = some t := ⟨_, List.getElem?_eq_getElem hl⟩
      rw [zk_w_get ht, zk_w_get ht]
      obtain ⟨e1, e2⟩ := ho i (fun e => hi e.symm)
      have : zk_cell E w h i t = zk_cell E w h' i t := by
        unfold zk_cell zk_fv
        rw [e1, e2]
      rw [this]
    · simp [zk_w, hl]
theorem zk_A_D {E : zk_E} {w : zk_Wd} {h : zk_H} {n sz : Nat} {B : Nat → Prop} (hn : w.1.length = n) (hD : va_D B (zk_w E w h)) : va_D (zk_A E n sz) (zk_w E w h) := by
  refine ⟨hD.1, fun k q hq => Or.inl ?_⟩
  have hk : k < (zk_w E w h).length := (List.getElem?_eq_some_iff.mp hq).1
  have hk2 : k < w.1.length := by simpa [zk_w] using hk
  obtain ⟨t, ht⟩ : ∃ t, w.1[k]? = some t := ⟨_, List.getElem?_eq_getElem hk2⟩
  rw [zk_w_get ht] at hq
  cases hq
  exact ⟨k, by omega, rfl⟩
theorem zk_D_h {E : zk_E} {w : zk_Wd} {h h' : zk_H} {A : Nat → Prop} (hD : va_D A (zk_w E w h)) : va_D A (zk_w E w h') := by
  have key : ∀ (k : Nat) (q : Nat × va_E), (zk_w E w h')[k]? = some q → ∃ q', (zk_w E w h)[k]? = some q' ∧ q'.1 = q.1 := by
    intro k q hq
    have hk : k < (zk_w E w h').length := (List.getElem?_eq_some_iff.mp hq).1
    have hk2 : k < w.1.length := by simpa [zk_w] using hk
    obtain ⟨t, ht⟩ : ∃ t, w.1[k]? = some t := ⟨_, List.getElem?_eq_getElem hk2⟩
    rw [zk_w_get ht] at hq
    cases hq
    exact ⟨_, zk_w_get ht, rfl⟩
  refine ⟨fun i j p q hi hj e => ?_, fun k q hk => ?_⟩
  · obtain ⟨p', h1, e1⟩ := key i p hi
    obtain ⟨q', h2, e2⟩ := key j q hj
    exact hD.1 i j p' q' h1 h2 (by rw [e1, e2, e])
  · obtain ⟨q', h1, e1⟩ := key k q hk
    rw [← e1]
    exact hD.2 k q' h1
-- what a step asks for, told
theorem zk_on_s {α : Type} {o : Option α} {f : α → Prop} (h : zk_on o f) : ∃ a, o = some a ∧ f a := by
  cases o with
  | none => exact h.elim
  | some a => exact ⟨a, rfl, h⟩
theorem zk_p1i_s {st : List Value} {k : Int32 → List Value → Prop} (h : zk_p1i st k) : ∃ x r, st = .int x :: r ∧ k x r := by
  unfold zk_p1i at h
  split at h
  · exact ⟨_, _, rfl, h⟩
  · exact h.elim
theorem zk_p2i_s {st : List Value} {k : Int32 → Int32 → List Value → Prop} (h : zk_p2i st k) : ∃ x y r, st = .int y :: .int x :: r ∧ k x y r := by
  unfold zk_p2i at h
  split at h
  · exact ⟨_, _, _, rfl, h⟩
  · exact h.elim
theorem zk_p1l_s {st : List Value} {k : Int64 → List Value → Prop} (h : zk_p1l st k) : ∃ x r, st = .long x :: r ∧ k x r := by
  unfold zk_p1l at h
  split at h
  · exact ⟨_, _, rfl, h⟩
  · exact h.elim
theorem zk_p2l_s {st : List Value} {k : Int64 → Int64 → List Value → Prop} (h : zk_p2l st k) : ∃ x y r, st = .long y :: .long x :: r ∧ k x y r := by
  unfold zk_p2l at h
  split at h
  · exact ⟨_, _, _, rfl, h⟩
  · exact h.elim
theorem zk_pli_s {st : List Value} {k : Int64 → Int32 → List Value → Prop} (h : zk_pli st k) : ∃ x y r, st = .int y :: .long x :: r ∧ k x y r := by
  unfold zk_pli at h
  split at h
  · exact ⟨_, _, _, rfl, h⟩
  · exact h.elim
theorem zk_pia_s {st : List Value} {k : Int32 → Value → List Value → Prop} (h : zk_pia st k) : ∃ i a r, st = .int i :: a :: r ∧ k i a r := by
  unfold zk_pia at h
  split at h
  · exact ⟨_, _, _, rfl, h⟩
  · exact h.elim
theorem zk_piia_s {st : List Value} {k : Int32 → Int32 → Value → List Value → Prop} (h : zk_piia st k) : ∃ x i a r, st = .int x :: .int i :: a :: r ∧ k x i a r := by
  unfold zk_piia at h
  split at h
  · exact ⟨_, _, _, _, rfl, h⟩
  · exact h.elim
theorem zk_plia_s {st : List Value} {k : Int64 → Int32 → Value → List Value → Prop} (h : zk_plia st k) : ∃ x i a r, st = .long x :: .int i :: a :: r ∧ k x i a r := by
  unfold zk_plia at h
  split at h
  · exact ⟨_, _, _, _, rfl, h⟩
  · exact h.elim
theorem zk_pv_s {st : List Value} {k : Value → List Value → Prop} (h : zk_pv st k) : ∃ v r, st = v :: r ∧ k v r := by
  unfold zk_pv at h
  split at h
  · exact ⟨_, _, rfl, h⟩
  · exact h.elim
theorem zk_piv_s {st : List Value} {k : Int32 → Value → List Value → Prop} (h : zk_piv st k) : ∃ x v r, st = .int x :: v :: r ∧ k x v r := by
  unfold zk_piv at h
  split at h
  · exact ⟨_, _, _, rfl, h⟩
  · exact h.elim
theorem zk_pr_s {E : zk_E} {st : List Value} {k : Value → List Value → Prop} (h : zk_pr st k) : ∃ v r, st = v :: r ∧ k v r ∧ (zk_cv E v = .null ∨ ∃ a, zk_cv E v = .ref a) ∧ v.category = 1 := by
  unfold zk_pr at h
  split at h
  · exact ⟨_, _, rfl, h, Or.inr ⟨_, rfl⟩, rfl⟩
  · exact ⟨_, _, rfl, h, Or.inr ⟨_, rfl⟩, rfl⟩
  · exact ⟨_, _, rfl, h, Or.inl rfl, rfl⟩
  · exact h.elim
theorem zk_lr_s {E : zk_E} {o : Option Value} {k : Value → Prop} (h : zk_lr o k) : ∃ v, o = some v ∧ k v ∧ (zk_cv E v = .null ∨ ∃ a, zk_cv E v = .ref a) := by
  unfold zk_lr at h
  split at h
  · exact ⟨_, rfl, h, Or.inr ⟨_, rfl⟩⟩
  · exact ⟨_, rfl, h, Or.inr ⟨_, rfl⟩⟩
  · exact ⟨_, rfl, h, Or.inl rfl⟩
  · exact h.elim
theorem zk_li_s {o : Option Value} {k : Int32 → Prop} (h : zk_li o k) : ∃ x, o = some (.int x) ∧ k x := by
  unfold zk_li at h
  split at h
  · exact ⟨_, rfl, h⟩
  · exact h.elim
theorem zk_ll_s {o : Option Value} {k : Int64 → Prop} (h : zk_ll o k) : ∃ x, o = some (.long x) ∧ k x := by
  unfold zk_ll at h
  split at h
  · exact ⟨_, rfl, h⟩
  · exact h.elim
theorem zk_j_s {pc : Nat} {o : Int} {f : Nat → Prop} (h : zk_j pc o f) : ∃ t : Nat, (pc : Int) + o = (t : Int) ∧ f t := by
  unfold zk_j at h
  split at h
  next t e => exact ⟨t, e, h⟩
  · exact h.elim
theorem zk_bif {b : Bool} {P : Prop} (h : bif b then P else False) : b = true ∧ P := by
  cases b with
  | true => exact ⟨rfl, h⟩
  | false => exact h.elim
theorem zk_iso_s {E : zk_E} {w : zk_Wd} {v : Value} {c : Nat} {k : Nat → Prop} (h : zk_iso w v c k) : ∃ a, zk_cv E v = .ref (E.2.2 a) ∧ w.1[a]? = some (c + 4, zk_N c) ∧ k a := by
  unfold zk_iso at h
  split at h
  next a =>
    split at h
    next s hs =>
      obtain ⟨h1, h2⟩ := zk_bif h
      simp only [Bool.and_eq_true, Nat.beq_eq] at h1
      exact ⟨a, rfl, by rw [hs]; exact congrArg some (Prod.ext h1.1 h1.2), h2⟩
    · exact h.elim
  next a => exact ⟨a, rfl, h⟩
  · exact h.elim
theorem zk_isa_s {E : zk_E} {w : zk_Wd} {v : Value} {kd : Nat} {k : Nat → Nat → Prop} (h : zk_isa w v kd k) : ∃ a n, zk_cv E v = .ref (E.2.2 a) ∧ w.1[a]? = some (kd, n) ∧ k a n := by
  unfold zk_isa at h
  split at h
  next a =>
    split at h
    next s hs =>
      obtain ⟨h1, h2⟩ := zk_bif h
      simp only [Nat.beq_eq] at h1
      exact ⟨a, s.2, rfl, by rw [hs]; exact congrArg some (Prod.ext h1 rfl), h2⟩
    · exact h.elim
  next a =>
    obtain ⟨n, h1, h2⟩ := h
    exact ⟨a, n, rfl, h1, h2⟩
  · exact h.elim
theorem zk_cv_rf (E : zk_E) (o : Option Nat) : zk_cv E (va_rf o) = va_rf (o.map E.2.2) := by cases o <;> rfl
theorem zk_cv_cat (E : zk_E) (v : Value) : (zk_cv E v).category = v.category := by cases v <;> rfl
theorem zk_cats_cv (E : zk_E) (r : List Value) : ((r.map (zk_cv E)).map fun v => v.category).sum = zk_cats r := by
  unfold zk_cats
  rw [List.map_map]
  congr 1
  exact List.map_congr_left fun v _ => zk_cv_cat E v
-- locals
def zk_loc (E : zk_E) (L : zk_L) : List (Nat × Value) := (List.range L.length).filterMap (fun i => (zk_gl L i).map fun v => (i, zk_cv E v))
theorem zk_loc_mem {E : zk_E} {L : zk_L} {i : Nat} {u : Value} : (i, u) ∈ zk_loc E L ↔ ∃ v, zk_gl L i = some v ∧ u = zk_cv E v := by
  unfold zk_loc
  rw [List.mem_filterMap]
  constructor
  · rintro ⟨j, -, h⟩
    cases hg : zk_gl L j with
    | none => rw [hg] at h; cases h
    | some v => rw [hg] at h; cases h; exact ⟨v, hg, rfl⟩
  · rintro ⟨v, h, rfl⟩
    refine ⟨i, ?_, by rw [h]; rfl⟩
    rw [List.mem_range]
    unfold zk_gl at h
    split at h
    next o ho => exact (List.getElem?_eq_some_iff.mp ho).1
    · cases h
theorem zk_has_sub {ls : Array Slot} {nL : Nat} {l l' : List (Nat × Value)} (h : lv_has ls nL l) (hs : ∀ q ∈ l', q ∈ l) : lv_has ls nL l' := ⟨h.1, h.2.1, fun q hq => h.2.2 q (hs q hq)⟩
theorem zk_loc_get {E : zk_E} {ls : Array Slot} {nL : Nat} {L : zk_L} (h : lv_has ls nL (zk_loc E L)) {i : Nat} {v : Value} (hg : zk_gl L i = some v) : ls[i]? = some (.val (zk_cv E v)) := h.2.2 (i, zk_cv E v) (zk_loc_mem.mpr ⟨v, hg, rfl⟩)
theorem zk_gl_set {L : zk_L} {i j : Nat} {o : Option Value} {v : Value} (h : zk_gl (L.set i o) j = some v) : (j = i ∧ o = some v) ∨ (j ≠ i ∧ zk_gl L j = some v) := by
  unfold zk_gl at h
  rw [List.getElem?_set] at h
  by_cases e : i = j
  · subst e
    rw [if_pos rfl] at h
    split at h
    next o' ho =>
      split at ho
      · cases ho; exact Or.inl ⟨rfl, h⟩
      · cases ho
    · cases h
  · rw [if_neg e] at h
    exact Or.inr ⟨fun q => e q.symm, h⟩
theorem zk_notwide {L : zk_L} {i j : Nat} {v : Value} (hw : zk_wide L i = false) (hg : zk_gl L j = some v) (hj : j + 1 = i) : v.category ≠ 2 := by
  subst hj
  unfold zk_wide at hw
  dsimp only at hw
  rw [hg] at hw
  cases v <;> simp_all [Value.category]
theorem zk_st1_s {E : zk_E} {L L' : zk_L} {i : Nat} {v : Value} (h : zk_st1 L i v = some L') : i < L.length ∧ L'.length = L.length ∧ ∀ q ∈ zk_loc E L', q ∈ (i, zk_cv E v) :: (zk_loc E L).filter (fun q => !(q.1 == i) && !(q.1 + 1 == i && q.2.category == 2)) := by
  unfold zk_st1 at h
  cases hb : Nat.blt i L.length && !(zk_wide L i) with
  | false => rw [hb] at h; cases h
  | true =>
    rw [hb] at h
    cases h
    simp only [Bool.and_eq_true, Nat.blt_eq, Bool.not_eq_true'] at hb
    refine ⟨hb.1, by simp, fun q hq => ?_⟩
    obtain ⟨j, u⟩ := q
    obtain ⟨x, hx, rfl⟩ := zk_loc_mem.mp hq
    rcases zk_gl_set hx with ⟨rfl, e⟩ | ⟨hne, hx⟩
    · cases e; exact List.mem_cons_self
    · refine List.mem_cons_of_mem _ (List.mem_filter.mpr ⟨zk_loc_mem.mpr ⟨x, hx, rfl⟩, ?_⟩)
      have h2 : j + 1 = i → x.category ≠ 2 := zk_notwide hb.2 hx
      simp only [Bool.and_eq_true, Bool.not_eq_true', beq_eq_false_iff_ne, Bool.and_eq_false_iff, zk_cv_cat]
      exact ⟨hne, by by_cases e : j + 1 = i; exact Or.inr (h2 e); exact Or.inl e⟩
theorem zk_st2_s {E : zk_E} {L L' : zk_L} {i : Nat} {v : Value} (h : zk_st2 L i v = some L') : i + 1 < L.length ∧ L'.length = L.length ∧ ∀ q ∈ zk_loc E L', q ∈ (i, zk_cv E v) :: (zk_loc E L).filter (fun q => !(q.1 == i) && (!(q.1 == i + 1) && !(q.1 + 1 == i && q.2.category == 2))) := by
  unfold zk_st2 at h
  cases hb : Nat.blt (i + 1) L.length && !(zk_wide L i) with
  | false => rw [hb] at h; cases h
  | true =>
    rw [hb] at h
    cases h
    simp only [Bool.and_eq_true, Nat.blt_eq, Bool.not_eq_true'] at hb
    refine ⟨hb.1, by simp, fun q hq => ?_⟩
    obtain ⟨j, u⟩ := q
    obtain ⟨x, hx, rfl⟩ := zk_loc_mem.mp hq
    rcases zk_gl_set hx with ⟨-, e⟩ | ⟨hne1, hx⟩
    · cases e
    rcases zk_gl_set hx with ⟨rfl, e⟩ | ⟨hne, hx⟩
    · cases e; exact List.mem_cons_self
    · refine List.mem_cons_of_mem _ (List.mem_filter.mpr ⟨zk_loc_mem.mpr ⟨x, hx, rfl⟩, ?_⟩)
      have h2 : j + 1 = i → x.category ≠ 2 := zk_notwide hb.2 hx
      simp only [Bool.and_eq_true, Bool.not_eq_true', beq_eq_false_iff_ne, Bool.and_eq_false_iff, zk_cv_cat]
      exact ⟨hne, hne1, by by_cases e : j + 1 = i; exact Or.inr (h2 e); exact Or.inl e⟩
/-- the locals with which a method begins -/
def zk_L0 : List Value → Nat → zk_L
  | [], n => List.replicate n none
  | v :: vs, n => match v with
    | .long x => some (.long x) :: none :: zk_L0 vs (n - 2)
    | v => some v :: zk_L0 vs (n - 1)
def zk_wds : List Value → Nat
  | [] => 0
  | v :: vs => match v with
    | .long _ => 2 + zk_wds vs
    | _ => 1 + zk_wds vs
def zk_nod (v : Value) : Bool := match v with
  | .double _ => false
  | _ => true
theorem zk_L0_len : ∀ (vs : List Value) (n : Nat), zk_wds vs ≤ n → (zk_L0 vs n).length = n
  | [], n, _ => by simp [zk_L0]
  | v :: vs, n, h => by
    cases v <;> simp only [zk_wds] at h <;> simp only [zk_L0, List.length_cons] <;> (rw [zk_L0_len vs _ (by omega)]; omega)
theorem zk_L0_in {E : zk_E} : ∀ (vs : List Value) (n b : Nat), (∀ v ∈ vs, zk_nod v = true) → ∀ i v, zk_gl (zk_L0 vs n) i = some v → (b + i, zk_cv E v) ∈ lv_args b (vs.map (zk_cv E))
  | [], n, b, _, i, v, h => by
    unfold zk_gl zk_L0 at h
    rw [List.getElem?_replicate] at h
    split at h
    next o ho =>
      split at ho
      · cases ho; cases h
      · cases ho
    · cases h
  | u :: vs, n, b, hn, i, v, h => by
    have hn' : ∀ v ∈ vs, zk_nod v = true := fun v hv => hn v (List.mem_cons_of_mem _ hv)
    have hu := hn u List.mem_cons_self
    cases u with
    | double => simp [zk_nod] at hu
    | long x =>
      simp only [zk_L0] at h
      match i, h with
      | 0, h => cases (show some (Value.long x) = some v from h); exact List.mem_cons_self
      | 1, h => cases (show (none : Option Value) = some v from h)
      | i + 2, h =>
        have := zk_L0_in (E := E) vs (n - 2) (b + 2) hn' i v h
        refine List.mem_cons_of_mem _ ?_
        rw [show b + (i + 2) = b + 2 + i by omega]
        exact this
    | _ =>
      simp only [zk_L0] at h
      match i, h with
      | 0, h => cases (show some _ = some v from h); exact List.mem_cons_self
      | i + 1, h =>
        have := zk_L0_in (E := E) vs (n - 1) (b + 1) hn' i v h
        refine List.mem_cons_of_mem _ ?_
        rw [show b + (i + 1) = b + 1 + i by omega]
        exact this
theorem zk_wds_sl {E : zk_E} : ∀ (vs : List Value), (∀ v ∈ vs, zk_nod v = true) → (lg_sl (vs.map (zk_cv E))).length = zk_wds vs
  | [], _ => rfl
  | u :: vs, hn => by
    have ih := zk_wds_sl (E := E) vs fun v hv => hn v (List.mem_cons_of_mem _ hv)
    have hu := hn u List.mem_cons_self
    simp only [lg_sl, List.map_cons, List.flatMap_cons, List.length_append] at ih ⊢
    rw [ih]
    cases u <;> simp_all [zk_wds, zk_nod, zk_cv, Value.category]
end
section
/-! what the tables say of a method's number, of a pool's entry -/
def zk_ws (j : zk_M) : List Cond := .code j.1 j.2.1 j.2.2.1 j.2.2.2 :: zk_uw
def zk_rm (d : Nat) : Room := { frames := d, cells := 0, slots := 0, locals := 40 * d }
def zk_clOk : Prop := ∀ c q, zk_cl[c]? = some q → (∀ w ∈ u_ws q.1 q.2.1 q.2.2, w ∈ zk_uw) ∧ (∀ k, k < q.2.2 → parseFieldDescriptor (q.2.1 k).2.2.1 = some (zk_ty c k)) ∧ (∀ a, a < q.2.2 → ∀ b, b < q.2.2 → a ≠ b → (q.2.1 a).2.1 ≠ (q.2.1 b).2.1) ∧ q.2.2 = zk_N c
def zk_mtOk (q : zk_M × Nat × Nat) : Prop := Cond.code q.1.1 q.1.2.1 q.1.2.2.1 q.1.2.2.2 ∈ zk_uw ∧ Cond.initialized q.1.1.cls ∈ zk_uw ∧ (plainName q.1.1.cls = true ∧ q.1.1.cls ≠ "java/lang/invoke/MethodHandle" ∧ q.1.1.cls ≠ "java/lang/invoke/VarHandle" ∧ (parseMethodDescriptor q.1.1.desc).map (fun d => d.parameters.length) = some q.2.1 ∧ q.1.2.2.1 ≤ 20) ∧ ((q.2.2 = 200 ∧ Cond.static q.1.1 ∈ zk_uw) ∨ (q.2.2 = 100 ∧ (Cond.instanceMethod q.1.1 ∈ zk_uw ∧ Cond.selects q.1.1.cls q.1.1 q.1.1 ∈ zk_uw) ∧ q.1.1.cls = "java/lang/String") ∨ (q.2.2 < 100 ∧ (Cond.instanceMethod q.1.1 ∈ zk_uw ∧ Cond.selects q.1.1.cls q.1.1 q.1.1 ∈ zk_uw) ∧ ∃ r, zk_cl[q.2.2]? = some r ∧ r.1 = q.1.1.cls))
def zk_fo (own : String) (i c j : Nat) (P : u_T → Prop) : Prop := match zk_cl[c]? with
  | some q => j < zk_N c ∧ Cond.fieldLink own i (q.2.1 j).1 (q.2.1 j).2.1 (q.2.1 j).2.2.1 ∈ zk_uw ∧ P q.2.1
  | none => False
def zk_lk1 (own : String) (mt : zk_Mt) (i : Nat) (e : zk_Ln) : Prop := match e with
  | (0, c, j, _) => zk_fo own i c j (fun T => zk_ty c j = .int ∧ (T j).2.2.2 = false)
  | (12, c, j, _) => zk_fo own i c j (fun T => zk_ty c j = .boolean ∧ (T j).2.2.2 = false)
  | (1, c, j, _) => zk_fo own i c j (fun _ => zk_isr (zk_ty c j) = true)
  | (2, a, _, _) => match zk_sta[a]? with
    | some q => Cond.fieldLink own i q.1 q.2.1 q.2.2.1 ∈ zk_uw
    | none => True
  | (3, a, _, _) => Cond.methodLink own i (mt a).1.1 ∈ zk_uw
  | (4, _, _, _) => Cond.methodLink own i Lib.Math.max.name ∈ zk_uw
  | (5, _, _, _) => Cond.methodLink own i Lib.Math.min.name ∈ zk_uw
  | (6, _, _, _) => Cond.methodLink own i arraycopyName ∈ zk_uw
  | (7, _, _, z) => Cond.constant own i (Int32.ofInt z) ∈ zk_uw
  | (8, _, _, z) => Cond.constantLong own i (Int64.ofInt z) ∈ zk_uw
  | (9, _, _, _) => (own = RX5 ∧ i = 77) ∨ (own = RX10 ∧ i = 11)
  | (10, _, _, _) => Cond.fieldLink own i "java/lang/String" "value" "[B" ∈ zk_uw
  | (11, _, _, _) => Cond.fieldLink own i "java/lang/String" "coder" "B" ∈ zk_uw
  | _ => True
def zk_jdk : Prop := (Cond.static Lib.Math.max.name ∈ zk_uw ∧ Cond.code Lib.Math.max.name Lib.Math.max.code 2 (some .int) ∈ zk_uw ∧ Cond.static Lib.Math.min.name ∈ zk_uw ∧ Cond.code Lib.Math.min.name Lib.Math.min.code 2 (some .int) ∈ zk_uw ∧ Cond.initialized "java/lang/Math" ∈ zk_uw) ∧ (Cond.native arraycopyName ∈ zk_uw ∧ Cond.static arraycopyName ∈ zk_uw ∧ Cond.initialized "java/lang/System" ∈ zk_uw)
theorem zk_goodw {w : Cond} (h : w ∈ zk_uw) : (w.onTables && w.keeps) = true ∨ ∃ ty, w = .arrayClass ty := good_of_word (List.mem_filter.mp h).2
theorem zk_goodIn {j0 : zk_M} {ws : List Cond} (h : ∀ w ∈ ws, w ∈ zk_uw) : GoodIn (zk_ws j0) ws := fun w hw => ⟨List.mem_cons_of_mem _ (h w hw), zk_goodw (h w hw)⟩
theorem zk_ws_uw {j : zk_M} (h : Cond.code j.1 j.2.1 j.2.2.1 j.2.2.2 ∈ zk_uw) : ∀ w ∈ zk_ws j, w ∈ zk_uw := fun w hw => (List.mem_cons.mp hw).elim (fun e => e ▸ h) id
/-- a method's start -/
def zk_B (w : zk_Wd) (E : zk_E) (h : zk_H) (sz : Nat) (U : State) : Prop := U.heap.size = sz ∧ va_P E.1 zk_cl (zk_w E w h) U.heap ∧ va_K E.1 zk_cl (zk_tys E) U ∧ va_D (fun _ => True) (zk_w E w h) ∧ zk_Bg E (zk_A E w.1.length sz) U
def zk_Qr (Q : zk_Q) (r : Option Value) (h : zk_H) : Prop := match r with
  | none => Q.2.2.1 () h
  | some (.int v) => Q.1 v h
  | some (.long v) => Q.2.1 v h
  | some v => Q.2.2.2 v h
/-- a method's end -/
def zk_QX (w : zk_Wd) (E : zk_E) (Q : zk_Q) (A : Nat → Prop) : Array Value → State → Outcome → State → Prop := fun _ st oc t => (∃ r h, oc = .returned (r.map (zk_cv E)) ∧ zk_Qr Q r h ∧ va_P E.1 zk_cl (zk_w E w h) t.heap ∧ va_D A (zk_w E w h)) ∧ va_F A st t
/-- A CONTRACT: where P says that a call with these arguments, over these cells, ends in Q, it does, with room for d calls below -/
def zk_CT (w : zk_Wd) (d0 : Nat) (j : zk_M) (P : zk_P) : Prop := ∀ d, d0 ≤ d → ∀ (l : Launch) (E : zk_E) (sz : Nat) (as : List Value) (h : zk_H) (Q : zk_Q), P as h Q → Met l j.1 (zk_ws j) (zk_rm d) (va_Pc (as.map (zk_cv E)) (zk_B w E h sz)) (zk_QX w E Q (zk_A E w.1.length sz)) 0 0 (zk_A E w.1.length sz)
theorem zk_CT.mono {w : zk_Wd} {d0 d1 : Nat} {j : zk_M} {P : zk_P} (h : zk_CT w d0 j P) (hd : d0 ≤ d1) : zk_CT w d1 j P := fun d h1 => h d (Nat.le_trans hd h1)
theorem zk_CT.none {w : zk_Wd} {d0 : Nat} {j : zk_M} : zk_CT w d0 j (fun _ _ _ => False) := fun _ _ _ _ _ _ _ _ h => h.elim
theorem zk_CT.of {w : zk_Wd} {d0 : Nat} {j : zk_M} {P P' : zk_P} (h : zk_CT w d0 j P) (hP : ∀ as x Q, P' as x Q → P as x Q) : zk_CT w d0 j P' := fun d hd l E sz as x Q q => h d hd l E sz as x Q (hP as x Q q)
theorem zk_blind {w : zk_Wd} {E : zk_E} {h : zk_H} {sz : Nat} {av : List Value} : FrameBlind (va_Pc av (zk_B w E h sz)) := by
  intro a U g mk q
  obtain ⟨q0, q1, qP, qK, qD, b1, b2, b3, b4, b5, b6, b7⟩ := q
  exact ⟨q0, q1, qP, va_K.moved (u := U) (U := U.calling g mk a) (Vm.Alike.refl U.vm) qK, qD, fun t q hq => va_T.moved (u := U) (U := U.calling g mk a) (Vm.Alike.refl U.vm) (b1 t q hq), fun q hq => va_Z.moved (u := U) (U := U.calling g mk a) (Vm.Alike.refl U.vm) (b2 q hq), va_O.moved (u := U) (U := U.calling g mk a) (Vm.Alike.refl U.vm) b3, va_OF.moved (u := U) (U := U.calling g mk a) (Vm.Alike.refl U.vm) b4, va_OF.moved (u := U) (U := U.calling g mk a) (Vm.Alike.refl U.vm) b5, vk_R.same (u := U) (U := U.calling g mk a) rfl b6, vk_R.same (u := U) (U := U.calling g mk a) rfl b7⟩
section ZKA
variable {p : Program} {l : Launch} {e : Env} {R : Room} {s : State} {m : MethodId} {args : Array Value} {below : List Frame} {meth : Method} {c : Code} {H : Heap} {locs : List Loc} {cells slots : Nat} {Q' : State → Prop}
variable {pc : Nat} {ls : Array Slot} {rest st0 : List Value} {a : Array Value} {A0 A1 : Nat → Prop} {H0 : Heap} {mc ms : Nat} {free : Addr → Prop} {w : zk_Wd} {E : zk_E} {Q : zk_Q}
/-- behind a call -/
theorem zk_back (hr : va_Run p l e R s m args below meth c H locs cells slots mc ms (F0 m pc ls st0) rest (zk_QX w E Q A1 a) free) (hS : va_S A0 H0 H locs) (hA : ∀ q, A1 q → A0 q) (hf : ∀ q, free q → A0 q)
    (kk : ∀ (r : Option Value) (h : zk_H) (H1 : Heap) (locs1 : List Loc), zk_Qr Q r h → va_P E.1 zk_cl (zk_w E w h) H1 → va_D A0 (zk_w E w h) → va_S A0 H0 H1 locs1 → W p l e R s m args below meth c H1 locs1 (cells + mc) (slots + ms) Q' (F0 m (pc + 3) ls ((r.map (zk_cv E)).toList ++ rest))) : W p l e R s m args below meth c H locs cells slots Q' (F0 m pc ls st0) := by
  intro T hT X
  obtain ⟨v, st₀, t, T', L, h0, X', hL, e1, e2, ⟨⟨r, h, hv, hp, hP, hD⟩, hz, hk⟩, st⟩ := hr T hT X
  cases hv
  rw [h0] at hz hk
  obtain ⟨t2, a1, b1⟩ := kk r h T'.heap (locs ++ L) hp (by rw [e1]; exact hP) (hD.weaken fun _ _ _ hx => hA _ hx)
    ⟨Nat.le_trans hS.1 (by rw [e1]; exact hz), fun q h1 h2 => by rw [e1, hk q (Nat.lt_of_lt_of_le h1 hS.1) (fun z => h2 (hA q z))]; exact hS.2.1 q h1 h2, fun q hq => by
      rcases List.mem_append.mp hq with h | h
      · exact hS.2.2 q h
      · exact hf _ (hL q h)⟩ T' rfl X'
  exact ⟨t2, st t2 a1, b1⟩
theorem zk_aald {cc : ByteArray} {D : va_G} {cl : List vw_C} {tys : List (ClassId × FieldType)} {ws : va_W} {ad : Nat} (hexec : p.tables.exec = Jvm.exec) (hb : c.code = cc) (hK : va_K D cl tys s) (hP : va_P D cl ws H) (q0 t0 : Nat) {cA : ClassId} {ty : FieldType} {n : Nat} {f : Nat → Option Nat} (ha : ws[q0]? = some (ad, .inl (cA, n, .inr (.inr (.inr (.inr f)))))) (ht : tys[t0]? = some (cA, ty)) (hty : ty.isReference = true) {i : Int32} (hin : vp_in i n) (hdg : decode cc pc = .ok (.aaload, 1))
    (kk : W p l e R s m args below meth c H locs cells slots Q' (F0 m (pc + 1) ls (va_rf (f i.toNatClampNeg) :: rest))) : W p l e R s m args below meth c H locs cells slots Q' (F0 m pc ls (.int i :: .ref ad :: rest)) := by
  have hlt : i.toNatClampNeg < n := Nat.not_le.mp fun q => hin (Or.inr q)
  exact W.aald (v := va_rf (f i.toNatClampNeg)) (ty := ty) hexec hb (hP q0 _ ha) ((hK.2 t0 _ ht).1 n (fun j => va_rf (f j))) hty (fun q => by cases q) (by show ¬ (i < 0 ∨ (arrV _ _ _).slots.size ≤ _); rw [arrV_size]; exact hin) (by show (arrV _ _ _).slots[_]? = _; rw [arrV_read _ _ hlt]) rfl rfl hdg kk
end ZKA
/-- what stays, through a method -/
def zk_Fx (p : Program) (s : State) (m : MethodId) (args : Array Value) (meth : Method) (c : Code) (own : String) (j0 : zk_M) (A : Nat → Prop) (E : zk_E) : Prop := p.tables.exec = Jvm.exec ∧ c.code = j0.2.1 ∧ c.maxLocals = j0.2.2.1 ∧ meth.sig.returnType = j0.2.2.2 ∧ meth.locks = false ∧ s.vm.findClass own = some m.cls ∧ (∀ w ∈ zk_ws j0, w.before args s = true) ∧ (∀ q, s.heap.size ≤ q → A q) ∧ va_K E.1 zk_cl (zk_tys E) s ∧ zk_Bg E A s
def zk_Z (p : Program) (l : Launch) (e : Env) (d : Nat) (s : State) (m : MethodId) (args : Array Value) (below : List Frame) (meth : Method) (c : Code) (w : zk_Wd) (E : zk_E) (nL : Nat) (Q : zk_Q) : zk_K := fun pc L st h => ∀ (H : Heap) (locs : List Loc) (ls : Array Slot), va_P E.1 zk_cl (zk_w E w h) H → va_D (zk_A E w.1.length s.heap.size) (zk_w E w h) → va_S (zk_A E w.1.length s.heap.size) s.heap H locs → lv_has ls nL (zk_loc E L) → L.length = nL → W p l e (zk_rm (d + 1)) s m args below meth c H locs 0 0 (MQ below (zk_QX w E Q (zk_A E w.1.length s.heap.size)) args s 0 0 (zk_A E w.1.length s.heap.size)) (F0 m pc ls (st.map (zk_cv E)))
end
section
/-! CALLS of the small machine are calls of the machine -/
theorem zk_gapp {big a b : List Cond} (ha : GoodIn big a) (hb : GoodIn big b) : GoodIn big (a ++ b) := fun w h => (List.mem_append.mp h).elim (ha w) (hb w)
theorem zk_A_sub {E : zk_E} {n : Nat} {A : Nat → Prop} {H0 H : Heap} {locs : List Loc} (hS : va_S A H0 H locs) : ∀ q, zk_A E n H.size q → zk_A E n H0.size q := fun q h => h.elim Or.inl (fun h => Or.inr (Nat.le_trans hS.1 h))
section ZKC
variable {p : Program} {l : Launch} {e : Env} {s : State} {m : MethodId} {args : Array Value} {below : List Frame} {meth : Method} {c : Code} {H : Heap} {locs : List Loc} {Q' : State → Prop}
variable {pc : Nat} {ls : Array Slot} {own : String} {j0 : zk_M} {w : zk_Wd} {E : zk_E} {d d0 nL : Nat} {Q : zk_Q} {mt : zk_Mt} {cx : Nat → zk_P} {L : zk_L} {st : List Value} {h : zk_H} {a i : Nat}
theorem zk_pre (Fx : zk_Fx p s m args meth c own j0 (zk_A E w.1.length s.heap.size) E) (hP : va_P E.1 zk_cl (zk_w E w h) H) (hD : va_D (zk_A E w.1.length s.heap.size) (zk_w E w h)) (hS : va_S (zk_A E w.1.length s.heap.size) s.heap H locs) (U : State) (hU : U.heap = H) (hW : s.WarmedH U.vm) : zk_B w E h H.size U := by
  obtain ⟨hx, hb, hml, hr, hlk, hown, hts, hA, hK, hBg⟩ := Fx
  exact ⟨by rw [hU], by rw [hU]; exact hP, va_K.moved hW.alike hK, hD.weaken (fun _ _ _ _ => trivial), hBg.moved hW (fun q h1 h2 => by rw [hU]; exact hS.2.1 q h1 h2) (zk_A_sub hS)⟩
theorem zk_next {r : Option Value} {st' : List Value} (hQ : zk_Qr (zk_cont (zk_Z p l e d s m args below meth c w E nL Q) pc L st') r h) (hP : va_P E.1 zk_cl (zk_w E w h) H) (hD : va_D (zk_A E w.1.length s.heap.size) (zk_w E w h)) (hS : va_S (zk_A E w.1.length s.heap.size) s.heap H locs) (hl : lv_has ls nL (zk_loc E L)) (hL : L.length = nL) :
    W p l e (zk_rm (d + 1)) s m args below meth c H locs 0 0 (MQ below (zk_QX w E Q (zk_A E w.1.length s.heap.size)) args s 0 0 (zk_A E w.1.length s.heap.size)) (F0 m (pc + 3) ls ((r.map (zk_cv E)).toList ++ st'.map (zk_cv E))) := by
  cases r with
  | none => exact hQ H locs ls hP hD hS hl hL
  | some v => cases v <;> exact hQ H locs ls hP hD hS hl hL
theorem zk_goS (Fx : zk_Fx p s m args meth c own j0 (zk_A E w.1.length s.heap.size) E) (hn0 : j0.2.2.1 = nL) (hm : zk_mtOk (mt a)) (hlk : Cond.methodLink own i (mt a).1.1 ∈ zk_uw) (hc : zk_CT w d0 (mt a).1 (cx a)) (hd : d0 ≤ d) (hdg : decode j0.2.1 pc = .ok (.invokestatic i, 3))
    (hyp : zk_callS mt cx (zk_Z p l e d s m args below meth c w E nL Q) a pc L st h) : zk_Z p l e d s m args below meth c w E nL Q pc L st h := by
  intro H locs ls hP hD hS hl hL
  obtain ⟨hb1, hyp⟩ := zk_bif hyp
  simp only [Bool.and_eq_true, Nat.ble_eq, Nat.beq_eq] at hb1
  obtain ⟨⟨hlen, hcat⟩, hrc⟩ := hb1
  obtain ⟨m1, m2, ⟨m3, m4, m5, m6, m7⟩, m8⟩ := hm
  have m8 : Cond.static (mt a).1.1 ∈ zk_uw := by
    rcases m8 with h | h | h
    · exact h.2
    · omega
    · omega
  obtain ⟨hx, hb, hml, hr, hlocks, hown, hts, hA, hK, hBg⟩ := id Fx
  refine zk_back (rest := (st.drop (mt a).2.1).map (zk_cv E)) (va_runS (As := ((st.take (mt a).2.1).reverse).map (zk_cv E)) (ws := zk_ws (mt a).1) (rm := zk_rm d) (maxL := (mt a).1.2.2.1) (bytes := (mt a).1.2.1) (ret := (mt a).1.2.2.2) (n := (mt a).2.1) ⟨hx, hb, hml, hown, hts⟩ (hc d hd l E H.size _ h _ hyp)
    (va_cwS (mt a).2.1 hts (zk_gapp (zk_goodIn (by intro w hw; simp only [List.mem_cons, List.not_mem_nil, or_false] at hw; rcases hw with rfl | rfl | rfl; exact hlk; exact m8; exact m2)) (zk_goodIn (zk_ws_uw m1))) rfl rfl rfl ⟨m4, m5, m6⟩ ⟨Nat.le_refl _, by show 8 + ((mt a).1.2.2.1 + 11) + 40 * d ≤ 40 * (d + 1); omega⟩)
    ⟨zk_blind, fun U hU hW => ⟨rfl, zk_pre Fx hP hD hS U hU hW⟩⟩ rfl (by simp; omega) (hl.1.trans hn0.symm) (by
      show st.map (zk_cv E) = _
      rw [← List.map_reverse, List.reverse_reverse, ← List.map_append, List.take_append_drop]) (lv_room (by rw [zk_cats_cv]; exact hcat)) hdg ⟨Nat.le_refl _, Nat.le_refl _⟩) hS (zk_A_sub hS) (zk_A_sub hS) (fun r h1 H1 locs1 hQ hP1 hD1 hS1 => ?_)
  exact zk_next hQ hP1 hD1 hS1 hl hL
theorem zk_recv_s {rc : Nat} {as : List Value} {f : Prop} {H : Heap} {locs : List Loc} (hyp : zk_recv w rc as f) (hK : va_K E.1 zk_cl (zk_tys E) s) (hBg : zk_Bg E (zk_A E w.1.length s.heap.size) s) (hP : va_P E.1 zk_cl (zk_w E w h) H) (hS : va_S (zk_A E w.1.length s.heap.size) s.heap H locs) {C : String}
    (hC : (rc = 100 ∧ C = "java/lang/String") ∨ (rc < 100 ∧ ∃ r, zk_cl[rc]? = some r ∧ r.1 = C)) : ∃ v vs b, as = v :: vs ∧ zk_cv E v = .ref b ∧ (∃ cell : Cell, H[b]? = some cell ∧ cell.vm.isStatics = false ∧ s.vm.findClass C = some cell.cls) ∧ f := by
  unfold zk_recv at hyp
  split at hyp
  next v vs =>
    rcases hC with ⟨rfl, rfl⟩ | ⟨hrc, r, hq, hC2⟩
    · rw [show Nat.blt 100 100 = false from rfl] at hyp
      simp only [cond_false] at hyp
      split at hyp
      next b =>
        obtain ⟨h1, h2⟩ := zk_bif hyp
        simp only [Nat.beq_eq] at h1
        subst h1
        obtain ⟨cell, g1, g2, g3, -⟩ := hBg.2.2.1.kept hS.2.1
        exact ⟨_, vs, _, rfl, rfl, ⟨cell, g1, g2, g3⟩, h2⟩
      · exact hyp.elim
    · rw [show Nat.blt rc 100 = true from Nat.blt_eq.mpr hrc] at hyp
      have hyp : zk_iso w v rc (fun _ => f) := hyp
      obtain ⟨b, e1, e2, e3⟩ := zk_iso_s (E := E) hyp
      obtain ⟨cell, g1, g2, g3⟩ := va_recv hK hP hq (zk_w_get e2)
      exact ⟨v, vs, _, rfl, e1, ⟨cell, g1, g2, by rw [← hC2]; exact g3⟩, e3⟩
  · exact hyp.elim
theorem zk_goV (Fx : zk_Fx p s m args meth c own j0 (zk_A E w.1.length s.heap.size) E) (hn0 : j0.2.2.1 = nL) (hm : zk_mtOk (mt a)) (hlk : Cond.methodLink own i (mt a).1.1 ∈ zk_uw) (hc : zk_CT w d0 (mt a).1 (cx a)) (hd : d0 ≤ d) (hdg : decode j0.2.1 pc = .ok (.invokevirtual i, 3))
    (hyp : zk_callV w mt cx (zk_Z p l e d s m args below meth c w E nL Q) a pc L st h) : zk_Z p l e d s m args below meth c w E nL Q pc L st h := by
  intro H locs ls hP hD hS hl hL
  obtain ⟨hb1, hyp⟩ := zk_bif hyp
  simp only [Bool.and_eq_true, Nat.ble_eq] at hb1
  obtain ⟨⟨hlen, hcat⟩, hrc⟩ := hb1
  obtain ⟨m1, m2, ⟨m3, m4, m5, m6, m7⟩, m8⟩ := hm
  obtain ⟨hx, hb, hml, hr, hlocks, hown, hts, hA, hK, hBg⟩ := id Fx
  obtain ⟨hC, m9, m10⟩ : (((mt a).2.2 = 100 ∧ (mt a).1.1.cls = "java/lang/String") ∨ ((mt a).2.2 < 100 ∧ ∃ r, zk_cl[(mt a).2.2]? = some r ∧ r.1 = (mt a).1.1.cls)) ∧ Cond.instanceMethod (mt a).1.1 ∈ zk_uw ∧ Cond.selects (mt a).1.1.cls (mt a).1.1 (mt a).1.1 ∈ zk_uw := by
    rcases m8 with h | h | h
    · omega
    · exact ⟨Or.inl ⟨h.1, h.2.2⟩, h.2.1⟩
    · exact ⟨Or.inr ⟨h.1, h.2.2⟩, h.2.1⟩
  obtain ⟨v, vs, b, eas, ev, hcell, hcall⟩ := zk_recv_s hyp hK hBg hP hS hC
  rw [eas] at hcall
  have hM := hc d hd l E H.size _ h _ hcall
  rw [List.map_cons, ev] at hM
  have hvl : vs.length = (mt a).2.1 := by
    have h1 := congrArg List.length eas
    simp only [List.length_reverse, List.length_take, List.length_cons] at h1
    omega
  have est : st = vs.reverse ++ v :: st.drop ((mt a).2.1 + 1) := by
    have h1 : st.take ((mt a).2.1 + 1) = vs.reverse ++ [v] := by rw [← List.reverse_reverse (st.take _), eas, List.reverse_cons]
    have h2 := List.take_append_drop ((mt a).2.1 + 1) st
    rw [h1, List.append_assoc, List.singleton_append] at h2
    exact h2.symm
  refine zk_back (rest := (st.drop ((mt a).2.1 + 1)).map (zk_cv E)) (va_runV (C := (mt a).1.1.cls) (b := b) (As := vs.map (zk_cv E)) (ws := zk_ws (mt a).1) (rm := zk_rm d) (maxL := (mt a).1.2.2.1) (bytes := (mt a).1.2.1) (ret := (mt a).1.2.2.2) (n := (mt a).2.1) ⟨hx, hb, hml, hown, hts⟩ hM
    (cwV (mt a).2.1 hts (zk_gapp (zk_goodIn (by intro w hw; simp only [List.mem_cons, List.not_mem_nil, or_false] at hw; rcases hw with rfl | rfl | rfl | rfl; exact hlk; exact m9; exact m10; exact m2)) (zk_goodIn (zk_ws_uw m1))) rfl rfl rfl ⟨rfl, m4, m5, m6⟩ ⟨Nat.le_refl _, by show 8 + ((mt a).1.2.2.1 + 11) + 40 * d ≤ 40 * (d + 1); omega⟩)
    ⟨zk_blind, hcell, fun U hU hW => ⟨rfl, zk_pre Fx hP hD hS U hU hW⟩⟩ rfl (by rw [List.length_map]; exact hvl) (hl.1.trans hn0.symm) (by
      show st.map (zk_cv E) = _
      rw [← List.map_reverse, ← ev, ← List.map_cons, ← List.map_append, ← est]) (lv_room (by rw [zk_cats_cv]; exact hcat)) hdg ⟨Nat.le_refl _, Nat.le_refl _⟩) hS (zk_A_sub hS) (zk_A_sub hS) (fun r h1 H1 locs1 hQ hP1 hD1 hS1 => ?_)
  exact zk_next hQ hP1 hD1 hS1 hl hL
end ZKC
end
section
/-! EACH STEP of the small machine is a step of the machine -/
theorem zk_fo_s {own : String} {i c j : Nat} {P : u_T → Prop} (h : zk_fo own i c j P) : ∃ q, zk_cl[c]? = some q ∧ j < zk_N c ∧ Cond.fieldLink own i (q.2.1 j).1 (q.2.1 j).2.1 (q.2.1 j).2.2.1 ∈ zk_uw ∧ P q.2.1 := by
  unfold zk_fo at h
  split at h
  next q hq => exact ⟨q, hq, h⟩
  · exact h.elim
section ZKS
variable {p : Program} {l : Launch} {e : Env} {s : State} {m : MethodId} {args : Array Value} {below : List Frame} {meth : Method} {c : Code} {H : Heap} {locs : List Loc} {Q' : State → Prop}
variable {pc : Nat} {ls : Array Slot} {own : String} {j0 : zk_M} {w : zk_Wd} {E : zk_E} {d d0 nL : Nat} {Q : zk_Q} {mt : zk_Mt} {cx : Nat → zk_P} {L : zk_L} {st : List Value} {h : zk_H} {a i j ci n : Nat} {rest : List Value} {q : vw_C} {R : Room} {cells slots : Nat}
theorem zk_obj (hw : w.1[a]? = some (ci + 4, n)) : (zk_w E w h)[a]? = some (E.2.2 a, .inr (ci, (List.range n).map (zk_fv E w h a (zk_ty ci)))) := zk_w_get hw
theorem zk_getf (Fx : zk_Fx p s m args meth c own j0 (zk_A E w.1.length s.heap.size) E) (hcl : zk_clOk) (hq : zk_cl[ci]? = some q) (hj : j < zk_N ci) (hlink : Cond.fieldLink own i (q.2.1 j).1 (q.2.1 j).2.1 (q.2.1 j).2.2.1 ∈ zk_uw) (hP : va_P E.1 zk_cl (zk_w E w h) H) (hw : w.1[a]? = some (ci + 4, zk_N ci)) (hdg : decode j0.2.1 pc = .ok (.getfield i, 3))
    (kk : W p l e R s m args below meth c H locs cells slots Q' (F0 m (pc + 3) ls (zk_fv E w h a (zk_ty ci) j :: rest))) : W p l e R s m args below meth c H locs cells slots Q' (F0 m pc ls (.ref (E.2.2 a) :: rest)) := by
  obtain ⟨hx, hb, hml, hr, hlocks, hown, hts, hA, hK, hBg⟩ := Fx
  obtain ⟨k1, k2, k3, k4⟩ := hcl ci q hq
  exact va_get (D := E.1) (ci := ci) (C := q.1) (T := q.2.1) (N := q.2.2) (Ts := zk_ws j0) hx hb hts (fun w hw => List.mem_cons_of_mem _ (k1 w hw)) hown hK hP a (zk_obj hw) hq j (by rw [k4]; exact hj) (hts _ (List.mem_cons_of_mem _ hlink)) (fun _ h9 => h9) (by simp [List.getElem?_map, List.getElem?_range hj]) hdg kk
theorem zk_putf (Fx : zk_Fx p s m args meth c own j0 (zk_A E w.1.length s.heap.size) E) (hcl : zk_clOk) (hq : zk_cl[ci]? = some q) (hj : j < zk_N ci) (hlink : Cond.fieldLink own i (q.2.1 j).1 (q.2.1 j).2.1 (q.2.1 j).2.2.1 ∈ zk_uw) (hfin : (q.2.1 j).2.2.2 = false) {x : Int32} (hr : zk_isr (zk_ty ci j) = false) (hn : narrow (zk_ty ci j) (.int x) = .int x) (hfit : fits (zk_ty ci j) (.int x) = true)
    (hP : va_P E.1 zk_cl (zk_w E w h) H) (hD : va_D (zk_A E w.1.length s.heap.size) (zk_w E w h)) (hS : va_S (zk_A E w.1.length s.heap.size) s.heap H locs) (hw : w.1[a]? = some (ci + 4, zk_N ci)) (hdg : decode j0.2.1 pc = .ok (.putfield i, 3))
    (kk : ∀ (H1 : Heap) (locs1 : List Loc), va_P E.1 zk_cl (zk_w E w (zk_si h a j x)) H1 → va_D (zk_A E w.1.length s.heap.size) (zk_w E w (zk_si h a j x)) → va_S (zk_A E w.1.length s.heap.size) s.heap H1 locs1 → W p l e R s m args below meth c H1 locs1 cells slots Q' (F0 m (pc + 3) ls rest)) : W p l e R s m args below meth c H locs cells slots Q' (F0 m pc ls (.int x :: .ref (E.2.2 a) :: rest)) := by
  obtain ⟨hx, hb, hml, hrt, hlocks, hown, hts, hA, hK, hBg⟩ := Fx
  obtain ⟨k1, k2, k3, k4⟩ := hcl ci q hq
  refine va_put (D := E.1) (ci := ci) (C := q.1) (T := q.2.1) (N := q.2.2) (Ts := zk_ws j0) (v := .int x) (ty := zk_ty ci j) hx hb hts (fun w hw => List.mem_cons_of_mem _ (k1 w hw)) (zk_ty ci) k2 k3 hown hK hP hD hS a (zk_obj hw) hq j (by rw [k4]; exact hj) (hts _ (List.mem_cons_of_mem _ hlink)) (fun _ h9 => h9) hfin (k2 j (by rw [k4]; exact hj)) hn hfit (by simpa using hj) hdg (fun H1 locs1 hP1 hD1 hS1 => ?_)
  have e1 : (zk_w E w h).set a (E.2.2 a, .inr (ci, ((List.range (zk_N ci)).map (zk_fv E w h a (zk_ty ci))).set j (.int x))) = zk_w E w (zk_si h a j x) := by
    rw [← zk_w_set (h := h) (h' := zk_si h a j x) hw (fun b hb => ⟨funext fun z => by simp [zk_si, hb], rfl⟩)]
    suffices e0 : ((List.range (zk_N ci)).map (zk_fv E w h a (zk_ty ci))).set j (.int x) = (List.range (zk_N ci)).map (zk_fv E w (zk_si h a j x) a (zk_ty ci)) by
      rw [e0]
      rfl
    apply List.ext_getElem?
    intro k
    rw [List.getElem?_set, List.getElem?_map, List.getElem?_map]
    by_cases ek : j = k
    · subst ek
      simp [hj, zk_fv, hr, zk_si]
    · rw [if_neg ek]
      cases hk : (List.range (zk_N ci))[k]? with
      | none => rfl
      | some z =>
        have : z = k := by
          have := (List.getElem?_eq_some_iff.mp hk)
          obtain ⟨h1, h2⟩ := this
          simp at h2
          exact h2.symm
        subst this
        simp only [Option.map_some, zk_fv, zk_si]
        split
        · rfl
        · simp [show ¬ z = j from fun q => ek q.symm]
  rw [e1] at hP1 hD1
  exact kk H1 locs1 hP1 hD1 hS1
theorem zk_arri (hw : w.1[a]? = some (0, n)) : (zk_w E w h)[a]? = some (E.2.2 a, .inl (E.2.1 0, n, .inl (h.1 a))) := zk_w_get hw
theorem zk_arrl (hw : w.1[a]? = some (1, n)) : (zk_w E w h)[a]? = some (E.2.2 a, .inl (E.2.1 1, n, .inr (.inl (h.2 a)))) := zk_w_get hw
theorem zk_seti {f : Nat → Int32} {h' : zk_H} (hw : w.1[a]? = some (0, n)) (h1 : h'.1 a = f) (ho : ∀ b, b ≠ a → h'.1 b = h.1 b ∧ h'.2 b = h.2 b) : (zk_w E w h).set a (E.2.2 a, .inl (E.2.1 0, n, .inl f)) = zk_w E w h' := by
  rw [← zk_w_set hw ho, ← h1]
  rfl
theorem zk_setl {f : Nat → Int64} {h' : zk_H} (hw : w.1[a]? = some (1, n)) (h1 : h'.2 a = f) (ho : ∀ b, b ≠ a → h'.1 b = h.1 b ∧ h'.2 b = h.2 b) : (zk_w E w h).set a (E.2.2 a, .inl (E.2.1 1, n, .inr (.inl f))) = zk_w E w h' := by
  rw [← zk_w_set hw ho, ← h1]
  rfl
theorem zk_inI {v : Int} {x : Int32} (h1 : -2147483648 ≤ v) (h2 : v ≤ 2147483647) : x = Int32.ofInt v ↔ x.toInt = v := by
  constructor
  · rintro rfl
    rw [Int32.toInt_ofInt_of_le (by simpa using h1) (by simp; omega)]
  · intro h
    rw [← Int32.toInt_inj, Int32.toInt_ofInt_of_le (by simpa using h1) (by simp; omega)]
    exact h
theorem zk_sw_s {x : Int32} {jump : Int → Prop} {D : Prop} : ∀ (os : List Int) (lo : Int), -2147483648 ≤ lo → lo + os.length ≤ 2147483647 → zk_sw x jump D lo os → (∃ o, ¬ x.toInt < lo ∧ os[(x.toInt - lo).toNat]? = some o ∧ jump o) ∨ ((x.toInt < lo ∨ lo + os.length ≤ x.toInt) ∧ D)
  | [], lo, h1, h2, h => Or.inr ⟨by simp; omega, h⟩
  | o :: os, lo, h1, h2, h => by
    simp only [List.length_cons, Int.natCast_add, Int.natCast_one] at h2
    by_cases e : x = Int32.ofInt lo
    · refine Or.inl ⟨o, ?_, ?_, h.1 e⟩
      · rw [(zk_inI h1 (by omega)).mp e]; omega
      · rw [(zk_inI h1 (by omega)).mp e]; simp
    · have ne : x.toInt ≠ lo := fun q => e ((zk_inI h1 (by omega)).mpr q)
      rcases zk_sw_s os (lo + 1) (by omega) (by omega) (h.2 e) with ⟨o', g1, g2, g3⟩ | ⟨g1, g2⟩
      · refine Or.inl ⟨o', by omega, ?_, g3⟩
        rw [show (x.toInt - lo).toNat = (x.toInt - (lo + 1)).toNat + 1 by omega]
        exact g2
      · refine Or.inr ⟨?_, g2⟩
        simp only [List.length_cons, Int.natCast_add, Int.natCast_one]
        omega
theorem zk_lsw_s {x : Int32} {jump : Int → Prop} {dflt : Int} : ∀ (ps : List (Int × Int)), (∀ q ∈ ps, -2147483648 ≤ q.1 ∧ q.1 ≤ 2147483647) → zk_lsw x jump (jump dflt) ps → jump (Op.lookupswitch.offset ps dflt x.toInt)
  | [], _, h => h
  | q :: ps, hq, h => by
    obtain ⟨h1, h2⟩ := hq q List.mem_cons_self
    rw [Op.lookupswitch.offset_cons]
    split
    next e => exact h.1 ((zk_inI h1 h2).mpr e.symm)
    next e => exact zk_lsw_s ps (fun q hq' => hq q (List.mem_cons_of_mem _ hq')) (h.2 (fun z => e ((zk_inI h1 h2).mp z).symm))
theorem zk_S_sound {lk : Nat → zk_Ln} {ins : Instr} {md : Nat} (Fx : zk_Fx p s m args meth c own j0 (zk_A E w.1.length s.heap.size) E) (hn0 : j0.2.2.1 = nL) (hcl : zk_clOk) (hjdk : zk_jdk) (hmt : ∀ a, zk_mtOk (mt a) ∨ ∀ as h Q, ¬ cx a as h Q) (hlk : ∀ i, zk_lk1 own mt i (lk i)) (hcx : ∀ a, zk_CT w d0 (mt a).1 (cx a)) (hd : d0 ≤ d)
    (hdg : decode j0.2.1 pc = .ok (ins, zk_len ins md)) (hyp : zk_S w lk mt cx j0.2.2.2 Q (zk_Z p l e d s m args below meth c w E nL Q) ins md pc L st h) : zk_Z p l e d s m args below meth c w E nL Q pc L st h := by
  intro H locs ls hP hD hS hl hL
  obtain ⟨hx, hb, hml, hr, hlocks, hown, hts, hA, hK, hBg⟩ := id Fx
  have hlsz : c.maxLocals = ls.size := by rw [hml, hn0]; exact hl.1.symm
  have hw' : ∀ {w : Cond}, w ∈ zk_uw → w.before args s = true := fun h => hts _ (List.mem_cons_of_mem _ h)
  cases ins
  case aload_n i =>
    simp only [zk_S] at hyp
    obtain ⟨v, hg, hk, ev⟩ := zk_lr_s (E := E) hyp
    have hg := zk_loc_get hl hg
    have hk := hk H locs ls hP hD hS hl hL
    rw [List.map_cons] at hk
    rcases ev with ev | ⟨b, ev⟩ <;> rw [ev] at hg hk
    · exact lv_aload_nN hx hb hdg rfl hg hk
    · exact lv_aload_n hx hb hdg rfl hg hk
  case aload i =>
    simp only [zk_S] at hyp
    obtain ⟨v, hg, hk, ev⟩ := zk_lr_s (E := E) hyp
    have hg := zk_loc_get hl hg
    have hk := hk H locs ls hP hD hS hl hL
    rw [List.map_cons] at hk
    rcases ev with ev | ⟨b, ev⟩ <;> rw [ev] at hg hk
    · exact lv_aloadN hx hb hdg hg hk
    · exact lv_aload hx hb hdg hg hk
  case iload_n i =>
    obtain ⟨x, hg, hk⟩ := zk_li_s hyp
    exact lv_iload_n hx hb hdg rfl (zk_loc_get hl hg) (hk H locs ls hP hD hS hl hL)
  case iload i =>
    obtain ⟨x, hg, hk⟩ := zk_li_s hyp
    exact lv_iload hx hb hdg (zk_loc_get hl hg) (hk H locs ls hP hD hS hl hL)
  case lload_n i =>
    obtain ⟨x, hg, hk⟩ := zk_ll_s hyp
    exact lv_lload_n hx hb hdg rfl (zk_loc_get hl hg) (hk H locs ls hP hD hS hl hL)
  case lload i =>
    obtain ⟨x, hg, hk⟩ := zk_ll_s hyp
    exact lv_lload hx hb hdg (zk_loc_get hl hg) (hk H locs ls hP hD hS hl hL)
  case istore_n i =>
    obtain ⟨x, r, rfl, h2⟩ := zk_p1i_s hyp
    obtain ⟨L', hst, hk⟩ := zk_on_s h2
    obtain ⟨g1, g2, g3⟩ := zk_st1_s (E := E) hst
    exact lv_istore_n hx hb hdg rfl hl (by omega) rfl (fun ls' hl' => hk H locs ls' hP hD hS (zk_has_sub hl' g3) (by omega))
  case istore i =>
    obtain ⟨x, r, rfl, h2⟩ := zk_p1i_s hyp
    obtain ⟨L', hst, hk⟩ := zk_on_s h2
    obtain ⟨g1, g2, g3⟩ := zk_st1_s (E := E) hst
    exact lv_istore hx hb hdg hl (by omega) rfl (fun ls' hl' => hk H locs ls' hP hD hS (zk_has_sub hl' g3) (by omega))
  case astore_n i =>
    simp only [zk_S] at hyp
    obtain ⟨v, r, rfl, h2, ev, -⟩ := zk_pr_s (E := E) hyp
    obtain ⟨L', hst, hk⟩ := zk_on_s h2
    obtain ⟨g1, g2, g3⟩ := zk_st1_s (E := E) hst
    rw [List.map_cons]
    rcases ev with ev | ⟨b, ev⟩ <;> rw [ev] at g3 ⊢
    · exact lv_astore_nN hx hb hdg rfl hl (by omega) rfl (fun ls' hl' => hk H locs ls' hP hD hS (zk_has_sub hl' g3) (by omega))
    · exact lv_astore_n hx hb hdg rfl hl (by omega) rfl (fun ls' hl' => hk H locs ls' hP hD hS (zk_has_sub hl' g3) (by omega))
  case astore i =>
    simp only [zk_S] at hyp
    obtain ⟨v, r, rfl, h2, ev, -⟩ := zk_pr_s (E := E) hyp
    obtain ⟨L', hst, hk⟩ := zk_on_s h2
    obtain ⟨g1, g2, g3⟩ := zk_st1_s (E := E) hst
    rw [List.map_cons]
    rcases ev with ev | ⟨b, ev⟩ <;> rw [ev] at g3 ⊢
    · exact lv_astoreN hx hb hdg hl (by omega) rfl (fun ls' hl' => hk H locs ls' hP hD hS (zk_has_sub hl' g3) (by omega))
    · exact lv_astore hx hb hdg hl (by omega) rfl (fun ls' hl' => hk H locs ls' hP hD hS (zk_has_sub hl' g3) (by omega))
  case lstore_n i =>
    obtain ⟨x, r, rfl, h2⟩ := zk_p1l_s hyp
    obtain ⟨L', hst, hk⟩ := zk_on_s h2
    obtain ⟨g1, g2, g3⟩ := zk_st2_s (E := E) hst
    exact lv_lstore_n hx hb hdg rfl hl (by omega) rfl (fun ls' hl' => hk H locs ls' hP hD hS (zk_has_sub hl' g3) (by omega))
  case lstore i =>
    obtain ⟨x, r, rfl, h2⟩ := zk_p1l_s hyp
    obtain ⟨L', hst, hk⟩ := zk_on_s h2
    obtain ⟨g1, g2, g3⟩ := zk_st2_s (E := E) hst
    exact lv_lstore hx hb hdg hl (by omega) rfl (fun ls' hl' => hk H locs ls' hP hD hS (zk_has_sub hl' g3) (by omega))
  case iinc i n =>
    obtain ⟨x, hg, h2⟩ := zk_li_s hyp
    obtain ⟨L', hst, hk⟩ := zk_on_s h2
    obtain ⟨g1, g2, g3⟩ := zk_st1_s (E := E) hst
    obtain ⟨k0, hk0⟩ := List.getElem?_of_mem (zk_loc_mem.mpr ⟨_, hg, rfl⟩ : (i, zk_cv E (.int x)) ∈ zk_loc E L)
    exact lv_iinc hx hb hdg hl (k := k0) hk0 rfl (by omega) rfl (fun ls' hl' => hk H locs ls' hP hD hS (zk_has_sub hl' g3) (by omega))
  case iconst n => exact lv_iconst hx hb hdg rfl (hyp H locs ls hP hD hS hl hL)
  case bipush n => exact lv_bipush hx hb hdg rfl (hyp H locs ls hP hD hS hl hL)
  case sipush n => exact lv_sipush hx hb hdg rfl (hyp H locs ls hP hD hS hl hL)
  case lconst n => exact lv_lconst hx hb hdg rfl (hyp H locs ls hP hD hS hl hL)
  case aconst_null => exact lv_null hx hb hdg (hyp H locs ls hP hD hS hl hL)
  case ldc i =>
    have hq := hlk i
    simp only [zk_S] at hyp
    split at hyp
    next z e =>
      rw [e] at hq
      exact lv_ldc hx hb hown (hw' hq) hdg (hyp H locs ls hP hD hS hl hL)
    next e =>
      rw [e] at hq
      have hq : (own = RX5 ∧ i = 77) ∨ (own = RX10 ∧ i = 11) := hq
      rcases hq with ⟨rfl, rfl⟩ | ⟨rfl, rfl⟩
      · exact va_ldcS hx hb hown hBg.2.2.2.2.2.1 hdg (hyp H locs ls hP hD hS hl hL)
      · exact va_ldcS hx hb hown hBg.2.2.2.2.2.2 hdg (hyp H locs ls hP hD hS hl hL)
    · exact hyp.elim
  case ldc_w i =>
    have hq := hlk i
    simp only [zk_S] at hyp
    split at hyp
    next z e =>
      rw [e] at hq
      exact lv_ldcw hx hb hown (hw' hq) hdg (hyp H locs ls hP hD hS hl hL)
    · exact hyp.elim
  case ldc2_w i =>
    have hq := hlk i
    simp only [zk_S] at hyp
    split at hyp
    next z e =>
      rw [e] at hq
      exact lv_ldc2 hx hb hown (hw' hq) hdg (hyp H locs ls hP hD hS hl hL)
    · exact hyp.elim
  case iadd => obtain ⟨x, y, r, rfl, hk⟩ := zk_p2i_s hyp; exact lv_iadd hx hb hdg (hk H locs ls hP hD hS hl hL)
  case isub => obtain ⟨x, y, r, rfl, hk⟩ := zk_p2i_s hyp; exact lv_isub hx hb hdg (hk H locs ls hP hD hS hl hL)
  case imul => obtain ⟨x, y, r, rfl, hk⟩ := zk_p2i_s hyp; exact lv_imul hx hb hdg (hk H locs ls hP hD hS hl hL)
  case iand => obtain ⟨x, y, r, rfl, hk⟩ := zk_p2i_s hyp; exact lv_iand hx hb hdg (hk H locs ls hP hD hS hl hL)
  case ior => obtain ⟨x, y, r, rfl, hk⟩ := zk_p2i_s hyp; exact lv_ior hx hb hdg (hk H locs ls hP hD hS hl hL)
  case ixor => obtain ⟨x, y, r, rfl, hk⟩ := zk_p2i_s hyp; exact lv_ixor hx hb hdg (hk H locs ls hP hD hS hl hL)
  case ishl => obtain ⟨x, y, r, rfl, hk⟩ := zk_p2i_s hyp; exact lv_ishl hx hb hdg (hk H locs ls hP hD hS hl hL)
  case ishr => obtain ⟨x, y, r, rfl, hk⟩ := zk_p2i_s hyp; exact lv_ishr hx hb hdg (hk H locs ls hP hD hS hl hL)
  case iushr => obtain ⟨x, y, r, rfl, hk⟩ := zk_p2i_s hyp; exact lv_iushr hx hb hdg rfl (hk H locs ls hP hD hS hl hL)
  case ineg => obtain ⟨x, r, rfl, hk⟩ := zk_p1i_s hyp; exact lv_ineg hx hb hdg (hk H locs ls hP hD hS hl hL)
  case idiv => obtain ⟨x, y, r, rfl, hy, hk⟩ := zk_p2i_s hyp; exact lv_idiv hx hb hdg hy (hk H locs ls hP hD hS hl hL)
  case irem => obtain ⟨x, y, r, rfl, hy, hk⟩ := zk_p2i_s hyp; exact lv_irem hx hb hdg hy (hk H locs ls hP hD hS hl hL)
  case ladd => obtain ⟨x, y, r, rfl, hk⟩ := zk_p2l_s hyp; exact lv_ladd hx hb hdg (hk H locs ls hP hD hS hl hL)
  case lmul => obtain ⟨x, y, r, rfl, hk⟩ := zk_p2l_s hyp; exact lv_lmul hx hb hdg (hk H locs ls hP hD hS hl hL)
  case land => obtain ⟨x, y, r, rfl, hk⟩ := zk_p2l_s hyp; exact lv_land hx hb hdg (hk H locs ls hP hD hS hl hL)
  case lor => obtain ⟨x, y, r, rfl, hk⟩ := zk_p2l_s hyp; exact lv_lor hx hb hdg (hk H locs ls hP hD hS hl hL)
  case lshl => obtain ⟨x, y, r, rfl, hk⟩ := zk_pli_s hyp; exact lv_lshl hx hb hdg rfl (hk H locs ls hP hD hS hl hL)
  case lcmp => obtain ⟨x, y, r, rfl, hk⟩ := zk_p2l_s hyp; exact W.lcmp hx hb hdg (hk H locs ls hP hD hS hl hL)
  case i2l => obtain ⟨x, r, rfl, hk⟩ := zk_p1i_s hyp; exact lv_i2l hx hb hdg rfl (hk H locs ls hP hD hS hl hL)
  case l2i => obtain ⟨x, r, rfl, hk⟩ := zk_p1l_s hyp; exact lv_l2i hx hb hdg rfl (hk H locs ls hP hD hS hl hL)
  case i2b => obtain ⟨x, r, rfl, hk⟩ := zk_p1i_s hyp; exact lv_i2b hx hb hdg rfl (hk H locs ls hP hD hS hl hL)
  case i2s => obtain ⟨x, r, rfl, hk⟩ := zk_p1i_s hyp; exact lv_i2s hx hb hdg rfl (hk H locs ls hP hD hS hl hL)
  case i2c => obtain ⟨x, r, rfl, hk⟩ := zk_p1i_s hyp; exact lv_i2c hx hb hdg rfl (hk H locs ls hP hD hS hl hL)
  case dup =>
    obtain ⟨v, r, rfl, hk⟩ := zk_pv_s hyp
    obtain ⟨hv, hk⟩ := zk_bif hk
    exact lv_dup hx hb hdg (by rw [zk_cv_cat]; exact Nat.eq_of_beq_eq_true hv) (hk H locs ls hP hD hS hl hL)
  case pop =>
    obtain ⟨v, r, rfl, hk⟩ := zk_pv_s hyp
    obtain ⟨hv, hk⟩ := zk_bif hk
    exact lv_pop hx hb hdg (by rw [zk_cv_cat]; exact Nat.eq_of_beq_eq_true hv) (hk H locs ls hP hD hS hl hL)
  case dup_x1 =>
    obtain ⟨v, r, rfl, hk⟩ := zk_pv_s hyp
    obtain ⟨u, r, rfl, hk⟩ := zk_pv_s hk
    obtain ⟨hv, hk⟩ := zk_bif hk
    simp only [Bool.and_eq_true, Nat.beq_eq] at hv
    exact lv_dup_x1 hx hb hdg (by rw [zk_cv_cat]; exact hv.1) (by rw [zk_cv_cat]; exact hv.2) (hk H locs ls hP hD hS hl hL)
  case dup2 =>
    obtain ⟨v, r, rfl, hk⟩ := zk_pv_s hyp
    obtain ⟨u, r, rfl, hk⟩ := zk_pv_s hk
    obtain ⟨hv, hk⟩ := zk_bif hk
    simp only [Bool.and_eq_true, Nat.beq_eq] at hv
    exact lv_dup2_11 hx hb hdg (by rw [zk_cv_cat]; exact hv.1) (by rw [zk_cv_cat]; exact hv.2) (hk H locs ls hP hD hS hl hL)
  case goto o =>
    obtain ⟨t, ht, hk⟩ := zk_j_s hyp
    exact lv_goto hx hb hdg ht (hk H locs ls hP hD hS hl hL)
  case ifCond cd o =>
    obtain ⟨x, r, rfl, hk⟩ := zk_p1i_s hyp
    obtain ⟨t, ht, hk⟩ := zk_j_s hk
    cases cd
    · exact lv_if_eq hx hb hdg ht (fun q => hk.1 q H locs ls hP hD hS hl hL) (fun q => hk.2 q H locs ls hP hD hS hl hL)
    · exact lv_if_ne hx hb hdg ht (fun q => hk.1 q H locs ls hP hD hS hl hL) (fun q => hk.2 q H locs ls hP hD hS hl hL)
    · exact lv_if_lt hx hb hdg ht (fun q => hk.1 q H locs ls hP hD hS hl hL) (fun q => hk.2 q H locs ls hP hD hS hl hL)
    · exact lv_if_ge hx hb hdg ht (fun q => hk.1 q H locs ls hP hD hS hl hL) (fun q => hk.2 q H locs ls hP hD hS hl hL)
    · exact lv_if_gt hx hb hdg ht (fun q => hk.1 q H locs ls hP hD hS hl hL) (fun q => hk.2 q H locs ls hP hD hS hl hL)
    · exact lv_if_le hx hb hdg ht (fun q => hk.1 q H locs ls hP hD hS hl hL) (fun q => hk.2 q H locs ls hP hD hS hl hL)
  case if_icmp cd o =>
    obtain ⟨x, y, r, rfl, hk⟩ := zk_p2i_s hyp
    obtain ⟨t, ht, hk⟩ := zk_j_s hk
    cases cd
    · exact lv_icmp_eq hx hb hdg ht (fun q => hk.1 q H locs ls hP hD hS hl hL) (fun q => hk.2 q H locs ls hP hD hS hl hL)
    · exact lv_icmp_ne hx hb hdg ht (fun q => hk.1 q H locs ls hP hD hS hl hL) (fun q => hk.2 q H locs ls hP hD hS hl hL)
    · exact lv_icmp_lt hx hb hdg ht (fun q => hk.1 q H locs ls hP hD hS hl hL) (fun q => hk.2 q H locs ls hP hD hS hl hL)
    · exact lv_icmp_ge hx hb hdg ht (fun q => hk.1 q H locs ls hP hD hS hl hL) (fun q => hk.2 q H locs ls hP hD hS hl hL)
    · exact lv_icmp_gt hx hb hdg ht (fun q => hk.1 q H locs ls hP hD hS hl hL) (fun q => hk.2 q H locs ls hP hD hS hl hL)
    · exact lv_icmp_le hx hb hdg ht (fun q => hk.1 q H locs ls hP hD hS hl hL) (fun q => hk.2 q H locs ls hP hD hS hl hL)
  case ifnull o =>
    obtain ⟨t, ht, hk⟩ := zk_j_s hyp
    split at hk
    · exact lv_ifnullN hx hb hdg ht (hk H locs ls hP hD hS hl hL)
    · exact lv_ifnull hx hb hdg (hk H locs ls hP hD hS hl hL)
    · exact lv_ifnull hx hb hdg (hk H locs ls hP hD hS hl hL)
    · exact hk.elim
  case ifnonnull o =>
    obtain ⟨t, ht, hk⟩ := zk_j_s hyp
    split at hk
    · exact lv_ifnonnullN hx hb hdg (hk H locs ls hP hD hS hl hL)
    · exact lv_ifnonnull hx hb hdg ht (hk H locs ls hP hD hS hl hL)
    · exact lv_ifnonnull hx hb hdg ht (hk H locs ls hP hD hS hl hL)
    · exact hk.elim
  case tableswitch dd lo hi os =>
    obtain ⟨x, r, rfl, hk⟩ := zk_p1i_s hyp
    obtain ⟨hv, hk⟩ := zk_bif hk
    simp only [Bool.and_eq_true, decide_eq_true_eq] at hv
    rcases zk_sw_s os.toList lo hv.1.1 hv.1.2 hk with ⟨o, g1, g2, g3⟩ | ⟨g1, g2⟩
    · obtain ⟨t, ht, hk⟩ := zk_j_s g3
      have hlt := (List.getElem?_eq_some_iff.mp g2).1
      exact lv_tableIn hx hb hdg g1 (by omega) (by rw [← Array.getElem?_toList]; exact g2) ht (hk H locs ls hP hD hS hl hL)
    · obtain ⟨t, ht, hk⟩ := zk_j_s g2
      exact lv_tableOut hx hb hdg (by omega) ht (hk H locs ls hP hD hS hl hL)
  case lookupswitch dd ps =>
    obtain ⟨x, r, rfl, hk⟩ := zk_p1i_s hyp
    obtain ⟨hv, hk⟩ := zk_bif hk
    simp only [Bool.and_eq_true] at hv
    have hk := zk_lsw_s ps.toList (fun q hq => by simpa using List.all_eq_true.mp hv.2 q hq) hk
    obtain ⟨t, ht, hk⟩ := zk_j_s hk
    exact lv_lookup hx hb hdg hv.1 rfl ht (hk H locs ls hP hD hS hl hL)
  case getfield i =>
    obtain ⟨v, r, rfl, hk⟩ := zk_pv_s hyp
    have hq := hlk i
    rw [List.map_cons]
    split at hk
    next cc jj z e1 =>
      rw [e1] at hq
      simp only [zk_lk1] at hq
      obtain ⟨a, g1, g2, g3⟩ := zk_iso_s (E := E) hk
      obtain ⟨q, q1, q2, q3, q4, q5⟩ := zk_fo_s hq
      rw [g1]
      refine zk_getf Fx hcl q1 q2 q3 hP g2 hdg ?_
      rw [show zk_fv E w h a (zk_ty cc) jj = .int (h.1 a jj) by simp [zk_fv, q4, zk_isr]]
      exact g3 H locs ls hP hD hS hl hL
    next cc jj z e1 =>
      rw [e1] at hq
      simp only [zk_lk1] at hq
      obtain ⟨a, g1, g2, g3⟩ := zk_iso_s (E := E) hk
      obtain ⟨q, q1, q2, q3, q4, q5⟩ := zk_fo_s hq
      rw [g1]
      refine zk_getf Fx hcl q1 q2 q3 hP g2 hdg ?_
      rw [show zk_fv E w h a (zk_ty cc) jj = .int (h.1 a jj) by simp [zk_fv, q4, zk_isr]]
      exact g3 H locs ls hP hD hS hl hL
    next cc jj z e1 =>
      rw [e1] at hq
      simp only [zk_lk1] at hq
      obtain ⟨a, g1, g2, g3⟩ := zk_iso_s (E := E) hk
      obtain ⟨q, q1, q2, q3, q4⟩ := zk_fo_s hq
      rw [g1]
      refine zk_getf Fx hcl q1 q2 q3 hP g2 hdg ?_
      rw [show zk_fv E w h a (zk_ty cc) jj = va_rf ((w.2 a jj).map E.2.2) by simp [zk_fv, q4]]
      split at g3
      · have g3 := g3 H locs ls hP hD hS hl hL
        rw [List.map_cons, zk_cv_rf] at g3
        exact g3
      · obtain ⟨b, eb, g3⟩ := g3
        rw [eb]
        exact g3 H locs ls hP hD hS hl hL
    next e1 =>
      rw [e1] at hq
      simp only [zk_lk1] at hq
      split at hk
      next a =>
        obtain ⟨g1, g2⟩ := zk_bif hk
        simp only [Nat.beq_eq] at g1
        subst g1
        exact vk_getf hx hb hBg.2.2.2.2.1 hS hown (hw' hq) (fun _ h9 => h9) hdg (g2 H locs ls hP hD hS hl hL)
      · exact hk.elim
    next e1 =>
      rw [e1] at hq
      simp only [zk_lk1] at hq
      split at hk
      next a =>
        obtain ⟨g1, g2⟩ := zk_bif hk
        simp only [Nat.beq_eq] at g1
        subst g1
        exact vk_getf hx hb hBg.2.2.2.1 hS hown (hw' hq) (fun _ h9 => h9) hdg (g2 H locs ls hP hD hS hl hL)
      · exact hk.elim
    · exact hk.elim
  case putfield i =>
    obtain ⟨x, v, r, rfl, hk⟩ := zk_piv_s hyp
    have hq := hlk i
    rw [List.map_cons, List.map_cons]
    split at hk
    next cc jj z e1 =>
      rw [e1] at hq
      simp only [zk_lk1] at hq
      obtain ⟨a, g1, g2, g3⟩ := zk_iso_s (E := E) hk
      obtain ⟨q, q1, q2, q3, q4, q5⟩ := zk_fo_s hq
      rw [g1]
      exact zk_putf Fx hcl q1 q2 q3 q5 (by rw [q4]; rfl) (by rw [q4]; rfl) (by rw [q4]; rfl) hP hD hS g2 hdg (fun H1 locs1 hP1 hD1 hS1 => g3 H1 locs1 ls hP1 hD1 hS1 hl hL)
    next cc jj z e1 =>
      rw [e1] at hq
      simp only [zk_lk1] at hq
      obtain ⟨a, g1, g2, g4, g3⟩ := zk_iso_s (E := E) hk
      obtain ⟨q, q1, q2, q3, q4, q5⟩ := zk_fo_s hq
      rw [g1]
      exact zk_putf Fx hcl q1 q2 q3 q5 (by rw [q4]; rfl) (by rw [q4]; rcases g4 with rfl | rfl <;> rfl) (by rw [q4]; rcases g4 with rfl | rfl <;> rfl) hP hD hS g2 hdg (fun H1 locs1 hP1 hD1 hS1 => g3 H1 locs1 ls hP1 hD1 hS1 hl hL)
    · exact hk.elim
  case getstatic i =>
    have hq := hlk i
    simp only [zk_S] at hyp
    split at hyp
    next a1 z1 z2 e1 =>
      rw [e1] at hq
      simp only [zk_lk1] at hq
      obtain ⟨q, q1, hk⟩ := zk_on_s hyp
      rw [q1] at hq
      exact va_gets hx hb (hBg.2.1 q (List.mem_of_getElem? q1)) hS hown (hw' hq) (fun _ h9 => h9) hdg (hk H locs ls hP hD hS hl hL)
    · exact hyp.elim
  case iaload =>
    obtain ⟨i, v, r, rfl, hk⟩ := zk_pia_s hyp
    have key : ∀ {v : Value}, zk_isa w v 0 (fun a n => vp_in i n ∧ zk_Z p l e d s m args below meth c w E nL Q (pc + 1) L (.int (h.1 a i.toNatClampNeg) :: r) h) → W p l e (zk_rm (d + 1)) s m args below meth c H locs 0 0 (MQ below (zk_QX w E Q (zk_A E w.1.length s.heap.size)) args s 0 0 (zk_A E w.1.length s.heap.size)) (F0 m pc ls ((.int i :: v :: r).map (zk_cv E))) := by
      intro v hk
      obtain ⟨a, n, g1, g2, g3, g4⟩ := zk_isa_s (E := E) hk
      rw [List.map_cons, List.map_cons, g1]
      exact va_iald hx hb hK hP a 0 (zk_arri g2) rfl g3 hdg (g4 H locs ls hP hD hS hl hL)
    split at hk
    next a =>
      cases hb2 : Nat.blt a 1000 with
      | true =>
        rw [hb2] at hk
        exact key hk
      | false =>
        rw [hb2, cond_false] at hk
        generalize hro : zk_rom[a - 1000]? = o at hk
        obtain ⟨q, q1, hk⟩ := zk_on_s hk
        rw [q1] at hro
        obtain ⟨q2, q3, q4⟩ := zk_bif hk
        have q2 : q.1 = .int := of_decide_eq_true q2
        have ha : 1000 ≤ a := by
          rcases Nat.lt_or_ge a 1000 with z | z
          · rw [Nat.blt_eq.mpr z] at hb2; cases hb2
          · exact z
        have hT := hBg.1 (a - 1000) q hro
        rw [show 1000 + (a - 1000) = a from Nat.add_sub_of_le ha, q2] at hT
        exact va_ti hx hb hT hS q3 rfl hdg (q4 H locs ls hP hD hS hl hL)
    next => exact key hk
  case baload =>
    obtain ⟨i, v, r, rfl, hk⟩ := zk_pia_s hyp
    split at hk
    next a =>
      obtain ⟨g1, g2, g3⟩ := zk_bif hk
      simp only [Nat.beq_eq] at g1
      subst g1
      exact va_tb hx hb (hBg.1 4 _ rfl) hS g2 rfl hdg (g3 H locs ls hP hD hS hl hL)
    · exact hk.elim
  case laload =>
    obtain ⟨i, v, r, rfl, hk⟩ := zk_pia_s hyp
    obtain ⟨a, n, g1, g2, g3, g4⟩ := zk_isa_s (E := E) hk
    rw [List.map_cons, List.map_cons, g1]
    exact va_lald hx hb hK hP a 1 (zk_arrl g2) rfl g3 hdg (g4 H locs ls hP hD hS hl hL)
  case aaload =>
    obtain ⟨i, v, r, rfl, hk⟩ := zk_pia_s hyp
    rw [List.map_cons, List.map_cons]
    split at hk
    · obtain ⟨a, n, g1, g2, g3, g4⟩ := zk_isa_s (E := E) hk
      rw [g1]
      refine zk_aald hx hb hK hP a 3 (zk_w_get g2) rfl rfl g3 hdg ?_
      have g4 := g4 H locs ls hP hD hS hl hL
      rw [List.map_cons, zk_cv_rf] at g4
      exact g4
    · obtain ⟨a, n, g1, g2, g3, b, eb, g4⟩ := zk_isa_s (E := E) hk
      rw [g1]
      refine zk_aald hx hb hK hP a 3 (zk_w_get g2) rfl rfl g3 hdg ?_
      rw [eb]
      exact g4 H locs ls hP hD hS hl hL
    · obtain ⟨a, n, g1, g2, g3, b, eb, g4⟩ := zk_isa_s (E := E) hk
      rw [g1]
      refine zk_aald hx hb hK hP a 2 (zk_w_get g2) rfl rfl g3 hdg ?_
      rw [eb]
      exact g4 H locs ls hP hD hS hl hL
  case iastore =>
    obtain ⟨x, i, v, r, rfl, hk⟩ := zk_piia_s hyp
    obtain ⟨a, n, g1, g2, g3, g4⟩ := zk_isa_s (E := E) hk
    rw [List.map_cons, List.map_cons, List.map_cons, g1]
    refine va_iast hx hb hK hP hD hS a 0 (zk_arri g2) rfl g3 hdg (fun H1 locs1 hP1 hD1 hS1 => ?_)
    rw [zk_seti (E := E) (h := h) (f := upd (h.1 a) i.toNatClampNeg x) (h' := zk_si h a i.toNatClampNeg x) g2 (funext fun z => by simp [zk_si, upd]) (fun b hb => ⟨funext fun z => by simp [zk_si, hb], rfl⟩)] at hP1 hD1
    exact g4 H1 locs1 ls hP1 hD1 hS1 hl hL
  case lastore =>
    obtain ⟨x, i, v, r, rfl, hk⟩ := zk_plia_s hyp
    obtain ⟨a, n, g1, g2, g3, g4⟩ := zk_isa_s (E := E) hk
    rw [List.map_cons, List.map_cons, List.map_cons, g1]
    refine va_last hx hb hK hP hD hS a 1 (zk_arrl g2) rfl g3 hdg (fun H1 locs1 hP1 hD1 hS1 => ?_)
    rw [zk_setl (E := E) (h := h) (f := vp_updL (h.2 a) i.toNatClampNeg x) (h' := zk_sl h a i.toNatClampNeg x) g2 (funext fun z => by simp [zk_sl, vp_updL]) (fun b hb => ⟨rfl, funext fun z => by simp [zk_sl, hb]⟩)] at hP1 hD1
    exact g4 H1 locs1 ls hP1 hD1 hS1 hl hL
  case arraylength =>
    obtain ⟨v, r, rfl, hk⟩ := zk_pv_s hyp
    have key : ∀ {a kd n : Nat}, kd < 2 → w.1[a]? = some (kd, n) → zk_Z p l e d s m args below meth c w E nL Q (pc + 1) L (.int (Int32.ofNat n) :: r) h → W p l e (zk_rm (d + 1)) s m args below meth c H locs 0 0 (MQ below (zk_QX w E Q (zk_A E w.1.length s.heap.size)) args s 0 0 (zk_A E w.1.length s.heap.size)) (F0 m pc ls (.ref (E.2.2 a) :: r.map (zk_cv E))) := by
      intro a kd n h1 h2 h3
      match kd, h1, h2 with
      | 0, _, h2 => exact va_alen hx hb hK hP a 0 (zk_arri h2) rfl rfl hdg (h3 H locs ls hP hD hS hl hL)
      | 1, _, h2 => exact va_alen hx hb hK hP a 1 (zk_arrl h2) rfl rfl hdg (h3 H locs ls hP hD hS hl hL)
      | k + 2, h1, _ => omega
    split at hk
    next a =>
      split at hk
      next s1 es =>
        obtain ⟨g1, g2⟩ := zk_bif hk
        exact key (Nat.blt_eq.mp g1) es g2
      · obtain ⟨g1, g2⟩ := zk_bif hk
        simp only [Nat.beq_eq] at g1
        subst g1
        exact va_tlen hx hb (hBg.1 4 _ rfl) hS rfl hdg (g2 H locs ls hP hD hS hl hL)
    next a =>
      obtain ⟨kd, n, g1, g2, g3⟩ := hk
      exact key g1 g2 g3
    · exact hk.elim
  case ireturn =>
    simp only [zk_S] at hyp
    split at hyp
    next v =>
      have fin : Q.1 v h → ∀ t : State, t.heap = H → s.WarmedH t.vm → zk_QX w E Q (zk_A E w.1.length s.heap.size) args s (.returned (some (.int v))) t := fun hq t ht _ => ⟨⟨some (.int v), h, rfl, hq, by rw [ht]; exact hP, hD⟩, hS.F ht⟩
      split at hyp
      next e1 => exact W.iret hx hb (by rw [hr]; exact e1) (fin hyp) hS.2.2 hdg
      next e1 => exact W.zret hx hb (by rw [hr]; exact e1) (by rcases hyp.1 with rfl | rfl <;> rfl) (fin hyp.2) hS.2.2 hdg
      next e1 => exact W.zret hx hb (by rw [hr]; exact e1) (by show Value.int _ = _; rw [hyp.1]) (fin hyp.2) hS.2.2 hdg
      · exact hyp.elim
    · exact hyp.elim
  case lreturn =>
    simp only [zk_S] at hyp
    split at hyp
    next v =>
      split at hyp
      next e1 => exact W.lret hx hb (by rw [hr]; exact e1) (fun t ht _ => ⟨⟨some (.long v), h, rfl, hyp, by rw [ht]; exact hP, hD⟩, hS.F ht⟩) hS.2.2 hdg
      · exact hyp.elim
    · exact hyp.elim
  case return_ =>
    simp only [zk_S] at hyp
    split at hyp
    next =>
      split at hyp
      next e1 => exact W.vret hx hb (by rw [hr]; exact e1) (fun t ht _ => ⟨⟨none, h, rfl, hyp, by rw [ht]; exact hP, hD⟩, hS.F ht⟩) hS.2.2 hdg
      · exact hyp.elim
    · exact hyp.elim
  case areturn =>
    simp only [zk_S] at hyp
    split at hyp
    next v =>
      split at hyp
      next e1 =>
        obtain ⟨v', r', ev, hq, hv, hcat⟩ := zk_pr_s (E := E) hyp
        cases ev
        refine W.aret hx hb (by rw [hr]; exact e1) (Or.inl ⟨_, rfl⟩) hv (fun t ht _ => ⟨⟨some v, h, rfl, ?_, by rw [ht]; exact hP, hD⟩, hS.F ht⟩) hS.2.2 hdg
        cases v
        case int => rcases hv with hv | ⟨_, hv⟩ <;> cases hv
        case long => rcases hv with hv | ⟨_, hv⟩ <;> cases hv
        all_goals exact hq
      · exact hyp.elim
    · exact hyp.elim
  case invokestatic i =>
    have hq := hlk i
    simp only [zk_S] at hyp
    split at hyp
    next a1 z1 z2 e1 =>
      rw [e1] at hq
      simp only [zk_lk1] at hq
      rcases hmt a1 with hm | hm
      · exact zk_goS Fx hn0 hm hq (hcx a1) hd hdg hyp H locs ls hP hD hS hl hL
      · exact (hm _ _ _ (zk_bif hyp).2).elim
    next e1 =>
      rw [e1] at hq
      simp only [zk_lk1] at hq
      obtain ⟨x, y, r, rfl, hk⟩ := zk_p2i_s hyp
      obtain ⟨g1, g2⟩ := zk_bif hk
      have g1 := Nat.le_of_ble_eq_true g1
      exact va_mmax hx hb hlsz hown (hw' hq) (hw' hjdk.1.1) (hw' hjdk.1.2.2.2.2) (hw' hjdk.1.2.1) (Nat.le_add_left 1 d) (by rw [zk_cats_cv]; show _ ≤ 40 * (d + 1); omega) (Nat.le_refl _) (Nat.le_refl _) hdg (g2 H locs ls hP hD hS hl hL)
    next e1 =>
      rw [e1] at hq
      simp only [zk_lk1] at hq
      obtain ⟨x, y, r, rfl, hk⟩ := zk_p2i_s hyp
      obtain ⟨g1, g2⟩ := zk_bif hk
      have g1 := Nat.le_of_ble_eq_true g1
      exact va_mmin hx hb hlsz hown (hw' hq) (hw' hjdk.1.2.2.1) (hw' hjdk.1.2.2.2.2) (hw' hjdk.1.2.2.2.1) (Nat.le_add_left 1 d) (by rw [zk_cats_cv]; show _ ≤ 40 * (d + 1); omega) (Nat.le_refl _) (Nat.le_refl _) hdg (g2 H locs ls hP hD hS hl hL)
    next e1 =>
      rw [e1] at hq
      simp only [zk_lk1] at hq
      split at hyp
      next n dp v sp u =>
        split at hyp
        · obtain ⟨a0, n0, f1, f2, f3⟩ := zk_isa_s (E := E) hyp
          obtain ⟨a, n1, g1, g2, ⟨k1, k2, k3, k4, k5⟩, g4⟩ := zk_isa_s (E := E) f3
          rw [List.map_cons, List.map_cons, List.map_cons, List.map_cons, List.map_cons, f1, g1]
          refine va_copyi hx hb hlsz hown (hw' hq) (hw' hjdk.2.1) (hw' hjdk.2.2.1) (hw' hjdk.2.2.2) hK hP hD hS a0 a 0 0 (ty := .int) (zk_arri f2) (zk_arri g2) rfl rfl rfl k1 k2 k3 k4 k5 (fun _ _ => rfl) (Nat.le_add_left 1 d) (by show 0 + (nativeFrameWords "java/lang/System" "arraycopy" 5 + 11) ≤ 40 * (d + 1); exact Nat.le_trans (show _ ≤ 40 by decide +kernel) (by omega)) hdg (fun H1 locs1 hP1 hD1 hS1 => ?_)
          rw [zk_seti (E := E) (h := h) (f := va_cpy (h.1 a0) (h.1 a) sp.toNatClampNeg dp.toNatClampNeg n.toNatClampNeg) (h' := zk_wi h a (va_cpy (h.1 a0) (h.1 a) sp.toNatClampNeg dp.toNatClampNeg n.toNatClampNeg)) g2 (funext fun z => by simp [zk_wi]) (fun b hb => ⟨funext fun z => by simp [zk_wi, hb], rfl⟩)] at hP1 hD1
          exact g4 H1 locs1 ls hP1 hD1 hS1 hl hL
        · obtain ⟨a0, n0, f1, f2, f3⟩ := zk_isa_s (E := E) hyp
          obtain ⟨a, n1, g1, g2, ⟨k1, k2, k3, k4, k5⟩, g4⟩ := zk_isa_s (E := E) f3
          rw [List.map_cons, List.map_cons, List.map_cons, List.map_cons, List.map_cons, f1, g1]
          refine va_copyl hx hb hlsz hown (hw' hq) (hw' hjdk.2.1) (hw' hjdk.2.2.1) (hw' hjdk.2.2.2) hK hP hD hS a0 a 1 1 (ty := .long) (zk_arrl f2) (zk_arrl g2) rfl rfl rfl k1 k2 k3 k4 k5 (fun _ _ => rfl) (Nat.le_add_left 1 d) (by show 0 + (nativeFrameWords "java/lang/System" "arraycopy" 5 + 11) ≤ 40 * (d + 1); exact Nat.le_trans (show _ ≤ 40 by decide +kernel) (by omega)) hdg (fun H1 locs1 hP1 hD1 hS1 => ?_)
          rw [zk_setl (E := E) (h := h) (f := va_cpy (h.2 a0) (h.2 a) sp.toNatClampNeg dp.toNatClampNeg n.toNatClampNeg) (h' := zk_wl h a (va_cpy (h.2 a0) (h.2 a) sp.toNatClampNeg dp.toNatClampNeg n.toNatClampNeg)) g2 (funext fun z => by simp [zk_wl]) (fun b hb => ⟨rfl, funext fun z => by simp [zk_wl, hb]⟩)] at hP1 hD1
          exact g4 H1 locs1 ls hP1 hD1 hS1 hl hL
      · exact hyp.elim
    · exact hyp.elim
  case invokevirtual i =>
    have hq := hlk i
    simp only [zk_S] at hyp
    split at hyp
    next a1 z1 z2 e1 =>
      rw [e1] at hq
      simp only [zk_lk1] at hq
      rcases hmt a1 with hm | hm
      · exact zk_goV Fx hn0 hm hq (hcx a1) hd hdg hyp H locs ls hP hD hS hl hL
      · obtain ⟨-, hyp⟩ := zk_bif hyp
        unfold zk_recv at hyp
        split at hyp
        next v vs ev =>
          cases hb3 : Nat.blt (mt a1).2.2 100 with
          | true =>
            rw [hb3] at hyp
            obtain ⟨-, -, -, hyp⟩ := zk_iso_s (E := E) (show zk_iso w v _ _ from hyp)
            exact (hm _ _ _ hyp).elim
          | false =>
            rw [hb3] at hyp
            simp only [cond_false] at hyp
            split at hyp
            · exact (hm _ _ _ (zk_bif hyp).2).elim
            · exact hyp.elim
        · exact hyp.elim
    · exact hyp.elim
  all_goals exact (hyp : False).elim
end ZKS
end
section
/-! FROM THE SMALL MACHINE TO CONTRACTS -/
def zk_le (Q Q' : zk_Q) : Prop := (∀ x h, Q.1 x h → Q'.1 x h) ∧ (∀ x h, Q.2.1 x h → Q'.2.1 x h) ∧ (∀ x h, Q.2.2.1 x h → Q'.2.2.1 x h) ∧ (∀ x h, Q.2.2.2 x h → Q'.2.2.2 x h)
def zk_Mono (P : zk_P) : Prop := ∀ as h Q Q', zk_le Q Q' → P as h Q → P as h Q'
theorem zk_on_m {α : Type} {o : Option α} {f g : α → Prop} (m : ∀ a, f a → g a) (h : zk_on o f) : zk_on o g := by
  cases o with
  | none => exact h
  | some a => exact m a h
theorem zk_p1i_m {st : List Value} {k k' : Int32 → List Value → Prop} (m : ∀ x r, k x r → k' x r) (h : zk_p1i st k) : zk_p1i st k' := by
  obtain ⟨x, r, rfl, h⟩ := zk_p1i_s h; exact m _ _ h
theorem zk_p2i_m {st : List Value} {k k' : Int32 → Int32 → List Value → Prop} (m : ∀ x y r, k x y r → k' x y r) (h : zk_p2i st k) : zk_p2i st k' := by
  obtain ⟨x, y, r, rfl, h⟩ := zk_p2i_s h; exact m _ _ _ h
theorem zk_p1l_m {st : List Value} {k k' : Int64 → List Value → Prop} (m : ∀ x r, k x r → k' x r) (h : zk_p1l st k) : zk_p1l st k' := by
  obtain ⟨x, r, rfl, h⟩ := zk_p1l_s h; exact m _ _ h
theorem zk_p2l_m {st : List Value} {k k' : Int64 → Int64 → List Value → Prop} (m : ∀ x y r, k x y r → k' x y r) (h : zk_p2l st k) : zk_p2l st k' := by
  obtain ⟨x, y, r, rfl, h⟩ := zk_p2l_s h; exact m _ _ _ h
theorem zk_pli_m {st : List Value} {k k' : Int64 → Int32 → List Value → Prop} (m : ∀ x y r, k x y r → k' x y r) (h : zk_pli st k) : zk_pli st k' := by
  obtain ⟨x, y, r, rfl, h⟩ := zk_pli_s h; exact m _ _ _ h
theorem zk_pia_m {st : List Value} {k k' : Int32 → Value → List Value → Prop} (m : ∀ x y r, k x y r → k' x y r) (h : zk_pia st k) : zk_pia st k' := by
  obtain ⟨x, y, r, rfl, h⟩ := zk_pia_s h; exact m _ _ _ h
theorem zk_piia_m {st : List Value} {k k' : Int32 → Int32 → Value → List Value → Prop} (m : ∀ x y z r, k x y z r → k' x y z r) (h : zk_piia st k) : zk_piia st k' := by
  obtain ⟨x, y, z, r, rfl, h⟩ := zk_piia_s h; exact m _ _ _ _ h
theorem zk_plia_m {st : List Value} {k k' : Int64 → Int32 → Value → List Value → Prop} (m : ∀ x y z r, k x y z r → k' x y z r) (h : zk_plia st k) : zk_plia st k' := by
  obtain ⟨x, y, z, r, rfl, h⟩ := zk_plia_s h; exact m _ _ _ _ h
theorem zk_pv_m {st : List Value} {k k' : Value → List Value → Prop} (m : ∀ x r, k x r → k' x r) (h : zk_pv st k) : zk_pv st k' := by
  obtain ⟨x, r, rfl, h⟩ := zk_pv_s h; exact m _ _ h
theorem zk_piv_m {st : List Value} {k k' : Int32 → Value → List Value → Prop} (m : ∀ x y r, k x y r → k' x y r) (h : zk_piv st k) : zk_piv st k' := by
  obtain ⟨x, y, r, rfl, h⟩ := zk_piv_s h; exact m _ _ _ h
theorem zk_pr_m {st : List Value} {k k' : Value → List Value → Prop} (m : ∀ x r, k x r → k' x r) (h : zk_pr st k) : zk_pr st k' := by
  unfold zk_pr at h ⊢
  split at h
  · exact m _ _ h
  · exact m _ _ h
  · exact m _ _ h
  · exact h.elim
theorem zk_lr_m {o : Option Value} {k k' : Value → Prop} (m : ∀ x, k x → k' x) (h : zk_lr o k) : zk_lr o k' := by
  unfold zk_lr at h ⊢
  split at h
  · exact m _ h
  · exact m _ h
  · exact m _ h
  · exact h.elim
theorem zk_li_m {o : Option Value} {k k' : Int32 → Prop} (m : ∀ x, k x → k' x) (h : zk_li o k) : zk_li o k' := by
  obtain ⟨x, rfl, h⟩ := zk_li_s h; exact m _ h
theorem zk_ll_m {o : Option Value} {k k' : Int64 → Prop} (m : ∀ x, k x → k' x) (h : zk_ll o k) : zk_ll o k' := by
  obtain ⟨x, rfl, h⟩ := zk_ll_s h; exact m _ h
theorem zk_j_m {pc : Nat} {o : Int} {k k' : Nat → Prop} (m : ∀ x, k x → k' x) (h : zk_j pc o k) : zk_j pc o k' := by
  unfold zk_j at h ⊢
  split at h
  · exact m _ h
  · exact h.elim
theorem zk_bif_m {b : Bool} {P P' : Prop} (m : P → P') (h : bif b then P else False) : bif b then P' else False := by
  cases b with
  | true => exact m h
  | false => exact h
theorem zk_iso_m {w : zk_Wd} {v : Value} {c : Nat} {k k' : Nat → Prop} (m : ∀ x, k x → k' x) (h : zk_iso w v c k) : zk_iso w v c k' := by
  unfold zk_iso at h ⊢
  split at h
  · split at h
    · exact zk_bif_m (m _) h
    · exact h.elim
  · exact ⟨h.1, m _ h.2⟩
  · exact h.elim
theorem zk_isa_m {w : zk_Wd} {v : Value} {c : Nat} {k k' : Nat → Nat → Prop} (m : ∀ x n, k x n → k' x n) (h : zk_isa w v c k) : zk_isa w v c k' := by
  unfold zk_isa at h ⊢
  split at h
  · split at h
    · exact zk_bif_m (m _ _) h
    · exact h.elim
  · obtain ⟨n, h1, h2⟩ := h
    exact ⟨n, h1, m _ _ h2⟩
  · exact h.elim
theorem zk_sw_m {x : Int32} {jump jump' : Int → Prop} {D D' : Prop} (m : ∀ o, jump o → jump' o) (mD : D → D') : ∀ (os : List Int) (v : Int), zk_sw x jump D v os → zk_sw x jump' D' v os
  | [], _, h => mD h
  | _ :: os, v, h => ⟨fun e => m _ (h.1 e), fun e => zk_sw_m m mD os (v + 1) (h.2 e)⟩
theorem zk_lsw_m {x : Int32} {jump jump' : Int → Prop} {D D' : Prop} (m : ∀ o, jump o → jump' o) (mD : D → D') : ∀ (os : List (Int × Int)), zk_lsw x jump D os → zk_lsw x jump' D' os
  | [], h => mD h
  | _ :: os, h => ⟨fun e => m _ (h.1 e), fun e => zk_lsw_m m mD os (h.2 e)⟩
theorem zk_if_m {c A B A' B' : Prop} (f : A → A') (g : B → B') (h : (c → A) ∧ (¬ c → B)) : (c → A') ∧ (¬ c → B') := ⟨fun q => f (h.1 q), fun q => g (h.2 q)⟩
theorem zk_if_n {c A B A' B' : Prop} (f : A → A') (g : B → B') (h : (¬ c → A) ∧ (c → B)) : (¬ c → A') ∧ (c → B') := ⟨fun q => f (h.1 q), fun q => g (h.2 q)⟩
theorem zk_cont_le {k k' : zk_K} (hk : ∀ pc L st h, k pc L st h → k' pc L st h) {pc : Nat} {L : zk_L} {r : List Value} : zk_le (zk_cont k pc L r) (zk_cont k' pc L r) := ⟨fun _ _ => hk _ _ _ _, fun _ _ => hk _ _ _ _, fun _ _ => hk _ _ _ _, fun _ _ => hk _ _ _ _⟩
section ZKM
variable {w : zk_Wd} {lk : Nat → zk_Ln} {mt : zk_Mt} {cx : Nat → zk_P} {rt : Option FieldType} {Q : zk_Q} {cd : Nat → Option (Instr × Nat)}
theorem zk_S_mono (hcx : ∀ a, zk_Mono (cx a)) {k k' : zk_K} (hk : ∀ pc L st h, k pc L st h → k' pc L st h) {ins : Instr} {md pc : Nat} {L : zk_L} {st : List Value} {h : zk_H} (hyp : zk_S w lk mt cx rt Q k ins md pc L st h) : zk_S w lk mt cx rt Q k' ins md pc L st h := by
  cases ins <;> simp only [zk_S] at hyp ⊢
  case aload_n i => exact zk_lr_m (fun _ => hk _ _ _ _) hyp
  case aload i => exact zk_lr_m (fun _ => hk _ _ _ _) hyp
  case iload_n i => exact zk_li_m (fun _ => hk _ _ _ _) hyp
  case iload i => exact zk_li_m (fun _ => hk _ _ _ _) hyp
  case lload_n i => exact zk_ll_m (fun _ => hk _ _ _ _) hyp
  case lload i => exact zk_ll_m (fun _ => hk _ _ _ _) hyp
  case istore_n i => exact zk_p1i_m (fun _ _ => zk_on_m fun _ => hk _ _ _ _) hyp
  case istore i => exact zk_p1i_m (fun _ _ => zk_on_m fun _ => hk _ _ _ _) hyp
  case astore_n i => exact zk_pr_m (fun _ _ => zk_on_m fun _ => hk _ _ _ _) hyp
  case astore i => exact zk_pr_m (fun _ _ => zk_on_m fun _ => hk _ _ _ _) hyp
  case lstore_n i => exact zk_p1l_m (fun _ _ => zk_on_m fun _ => hk _ _ _ _) hyp
  case lstore i => exact zk_p1l_m (fun _ _ => zk_on_m fun _ => hk _ _ _ _) hyp
  case iinc i n => exact zk_li_m (fun _ => zk_on_m fun _ => hk _ _ _ _) hyp
  case iconst n => exact hk _ _ _ _ hyp
  case bipush n => exact hk _ _ _ _ hyp
  case sipush n => exact hk _ _ _ _ hyp
  case lconst n => exact hk _ _ _ _ hyp
  case aconst_null => exact hk _ _ _ _ hyp
  case ldc i => split at hyp <;> first | exact hk _ _ _ _ hyp | exact hyp
  case ldc_w i => split at hyp <;> first | exact hk _ _ _ _ hyp | exact hyp
  case ldc2_w i => split at hyp <;> first | exact hk _ _ _ _ hyp | exact hyp
  case iadd => exact zk_p2i_m (fun _ _ _ => hk _ _ _ _) hyp
  case isub => exact zk_p2i_m (fun _ _ _ => hk _ _ _ _) hyp
  case imul => exact zk_p2i_m (fun _ _ _ => hk _ _ _ _) hyp
  case iand => exact zk_p2i_m (fun _ _ _ => hk _ _ _ _) hyp
  case ior => exact zk_p2i_m (fun _ _ _ => hk _ _ _ _) hyp
  case ixor => exact zk_p2i_m (fun _ _ _ => hk _ _ _ _) hyp
  case ishl => exact zk_p2i_m (fun _ _ _ => hk _ _ _ _) hyp
  case ishr => exact zk_p2i_m (fun _ _ _ => hk _ _ _ _) hyp
  case iushr => exact zk_p2i_m (fun _ _ _ => hk _ _ _ _) hyp
  case ineg => exact zk_p1i_m (fun _ _ => hk _ _ _ _) hyp
  case idiv => exact zk_p2i_m (fun _ _ _ => And.imp_right (hk _ _ _ _)) hyp
  case irem => exact zk_p2i_m (fun _ _ _ => And.imp_right (hk _ _ _ _)) hyp
  case ladd => exact zk_p2l_m (fun _ _ _ => hk _ _ _ _) hyp
  case lmul => exact zk_p2l_m (fun _ _ _ => hk _ _ _ _) hyp
  case land => exact zk_p2l_m (fun _ _ _ => hk _ _ _ _) hyp
  case lor => exact zk_p2l_m (fun _ _ _ => hk _ _ _ _) hyp
  case lshl => exact zk_pli_m (fun _ _ _ => hk _ _ _ _) hyp
  case lcmp => exact zk_p2l_m (fun _ _ _ => hk _ _ _ _) hyp
  case i2l => exact zk_p1i_m (fun _ _ => hk _ _ _ _) hyp
  case l2i => exact zk_p1l_m (fun _ _ => hk _ _ _ _) hyp
  case i2b => exact zk_p1i_m (fun _ _ => hk _ _ _ _) hyp
  case i2s => exact zk_p1i_m (fun _ _ => hk _ _ _ _) hyp
  case i2c => exact zk_p1i_m (fun _ _ => hk _ _ _ _) hyp
  case dup => exact zk_pv_m (fun _ _ => zk_bif_m (hk _ _ _ _)) hyp
  case pop => exact zk_pv_m (fun _ _ => zk_bif_m (hk _ _ _ _)) hyp
  case dup_x1 => exact zk_pv_m (fun _ _ => zk_pv_m fun _ _ => zk_bif_m (hk _ _ _ _)) hyp
  case dup2 => exact zk_pv_m (fun _ _ => zk_pv_m fun _ _ => zk_bif_m (hk _ _ _ _)) hyp
  case goto o => exact zk_j_m (fun _ => hk _ _ _ _) hyp
  case ifCond cd o =>
    refine zk_p1i_m (fun _ _ => zk_j_m fun _ => ?_) hyp
    cases cd <;> first | exact zk_if_m (hk _ _ _ _) (hk _ _ _ _) | exact zk_if_n (hk _ _ _ _) (hk _ _ _ _)
  case if_icmp cd o =>
    refine zk_p2i_m (fun _ _ _ => zk_j_m fun _ => ?_) hyp
    cases cd <;> first | exact zk_if_m (hk _ _ _ _) (hk _ _ _ _) | exact zk_if_n (hk _ _ _ _) (hk _ _ _ _)
  case ifnull o =>
    refine zk_j_m (fun _ hyp => ?_) hyp
    split at hyp <;> first | exact hk _ _ _ _ hyp | exact hyp.elim
  case ifnonnull o =>
    refine zk_j_m (fun _ hyp => ?_) hyp
    split at hyp <;> first | exact hk _ _ _ _ hyp | exact hyp.elim
  case tableswitch dd lo hi os => exact zk_p1i_m (fun _ _ => zk_bif_m (zk_sw_m (fun _ => zk_j_m fun _ => hk _ _ _ _) (zk_j_m fun _ => hk _ _ _ _) _ _)) hyp
  case lookupswitch dd ps => exact zk_p1i_m (fun _ _ => zk_bif_m (zk_lsw_m (fun _ => zk_j_m fun _ => hk _ _ _ _) (zk_j_m fun _ => hk _ _ _ _) _)) hyp
  case getfield i =>
    refine zk_pv_m (fun v _ hyp => ?_) hyp
    split at hyp
    · exact zk_iso_m (fun _ => hk _ _ _ _) hyp
    · exact zk_iso_m (fun _ => hk _ _ _ _) hyp
    · refine zk_iso_m (fun _ hyp => ?_) hyp
      split at hyp
      · exact hk _ _ _ _ hyp
      · obtain ⟨b, h1, h2⟩ := hyp
        exact ⟨b, h1, hk _ _ _ _ h2⟩
    · split at hyp
      · exact zk_bif_m (hk _ _ _ _) hyp
      · exact hyp.elim
    · split at hyp
      · exact zk_bif_m (hk _ _ _ _) hyp
      · exact hyp.elim
    · exact hyp.elim
  case putfield i =>
    refine zk_piv_m (fun _ v _ hyp => ?_) hyp
    split at hyp
    · exact zk_iso_m (fun _ => hk _ _ _ _) hyp
    · exact zk_iso_m (fun _ => And.imp_right (hk _ _ _ _)) hyp
    · exact hyp.elim
  case getstatic i =>
    split at hyp
    · exact zk_on_m (fun _ => hk _ _ _ _) hyp
    · exact hyp.elim
  case iaload =>
    refine zk_pia_m (fun _ v _ hyp => ?_) hyp
    split at hyp
    next a =>
      cases hb : Nat.blt a 1000 with
      | true =>
        rw [hb, cond_true] at hyp
        rw [cond_true]
        exact zk_isa_m (fun _ _ => And.imp_right (hk _ _ _ _)) hyp
      | false =>
        rw [hb, cond_false] at hyp
        rw [cond_false]
        generalize zk_rom[a - 1000]? = o at hyp ⊢
        exact zk_on_m (fun _ => zk_bif_m (And.imp_right (hk _ _ _ _))) hyp
    · exact zk_isa_m (fun _ _ => And.imp_right (hk _ _ _ _)) hyp
  case baload =>
    refine zk_pia_m (fun _ v _ hyp => ?_) hyp
    split at hyp
    · exact zk_bif_m (And.imp_right (hk _ _ _ _)) hyp
    · exact hyp.elim
  case laload => exact zk_pia_m (fun _ _ _ => zk_isa_m (fun _ _ => And.imp_right (hk _ _ _ _))) hyp
  case aaload =>
    refine zk_pia_m (fun _ v _ hyp => ?_) hyp
    split at hyp
    · exact zk_isa_m (fun _ _ => And.imp_right (hk _ _ _ _)) hyp
    · exact zk_isa_m (fun _ _ => And.imp_right fun ⟨b, h1, h2⟩ => ⟨b, h1, hk _ _ _ _ h2⟩) hyp
    · exact zk_isa_m (fun _ _ => And.imp_right fun ⟨b, h1, h2⟩ => ⟨b, h1, hk _ _ _ _ h2⟩) hyp
  case iastore => exact zk_piia_m (fun _ _ _ _ => zk_isa_m (fun _ _ => And.imp_right (hk _ _ _ _))) hyp
  case lastore => exact zk_plia_m (fun _ _ _ _ => zk_isa_m (fun _ _ => And.imp_right (hk _ _ _ _))) hyp
  case arraylength =>
    refine zk_pv_m (fun v _ hyp => ?_) hyp
    split at hyp
    · split at hyp
      · exact zk_bif_m (hk _ _ _ _) hyp
      · exact zk_bif_m (hk _ _ _ _) hyp
    · obtain ⟨kd, n, h1, h2, h3⟩ := hyp
      exact ⟨kd, n, h1, h2, hk _ _ _ _ h3⟩
    · exact hyp.elim
  case invokestatic i =>
    split at hyp
    · exact zk_bif_m (hcx _ _ _ _ _ (zk_cont_le hk)) hyp
    · exact zk_p2i_m (fun _ _ _ => zk_bif_m (hk _ _ _ _)) hyp
    · exact zk_p2i_m (fun _ _ _ => zk_bif_m (hk _ _ _ _)) hyp
    · split at hyp
      · split at hyp
        · exact zk_isa_m (fun _ _ => zk_isa_m fun _ _ => And.imp_right (hk _ _ _ _)) hyp
        · exact zk_isa_m (fun _ _ => zk_isa_m fun _ _ => And.imp_right (hk _ _ _ _)) hyp
      · exact hyp.elim
    · exact hyp.elim
  case invokevirtual i =>
    split at hyp
    · refine zk_bif_m (fun hyp => ?_) hyp
      unfold zk_recv at hyp ⊢
      split at hyp
      next v vs ev =>
        cases hb : Nat.blt (mt _).2.2 100 with
        | true =>
          rw [hb] at hyp
          exact zk_iso_m (fun _ => hcx _ _ _ _ _ (zk_cont_le hk)) (show zk_iso w v _ _ from hyp)
        | false =>
          rw [hb] at hyp
          simp only [cond_false] at hyp ⊢
          split at hyp
          · exact zk_bif_m (hcx _ _ _ _ _ (zk_cont_le hk)) hyp
          · exact hyp.elim
      · exact hyp.elim
    · exact hyp.elim
  all_goals exact hyp
theorem zk_Sp_mono (hcx : ∀ a, zk_Mono (cx a)) {k k' : zk_K} (hk : ∀ pc L st h, k pc L st h → k' pc L st h) {pc : Nat} {L : zk_L} {st : List Value} {h : zk_H} (hyp : zk_Sp w lk mt cx rt cd Q k pc L st h) : zk_Sp w lk mt cx rt cd Q k' pc L st h := by
  unfold zk_Sp at hyp ⊢
  split at hyp
  · exact zk_S_mono hcx hk hyp
  · exact hyp.elim
theorem zk_X_step (hcx : ∀ a, zk_Mono (cx a)) {pc : Nat} {L : zk_L} {st : List Value} {h : zk_H} (hyp : zk_Sp w lk mt cx rt cd Q (zk_X w lk mt cx rt cd Q) pc L st h) : zk_X w lk mt cx rt cd Q pc L st h := fun Z hZ => hZ pc L st h (zk_Sp_mono hcx (fun _ _ _ _ hx => hx Z hZ) hyp)
theorem zk_go (hcx : ∀ a, zk_Mono (cx a)) {stops : List Nat} : ∀ (n : Nat) {pc : Nat} {L : zk_L} {st : List Value} {h : zk_H}, zk_R w lk mt cx rt cd Q stops (zk_X w lk mt cx rt cd Q) n pc L st h → zk_X w lk mt cx rt cd Q pc L st h
  | 0, _, _, _, _, hyp => hyp.elim
  | n + 1, pc, L, st, h, hyp => zk_X_step hcx (zk_Sp_mono hcx (fun pc L st h hx => by
      cases hb : stops.any (Nat.beq pc) with
      | true => rw [hb] at hx; exact hx
      | false => rw [hb] at hx; exact zk_go hcx n hx) hyp)
end ZKM
/-- A METHOD'S CONTRACT, out of the small machine's run of its code -/
theorem zk_met {w : zk_Wd} {lk : Nat → zk_Ln} {mt : zk_Mt} {cx : Nat → zk_P} {cd : Nat → Option (Instr × Nat)} {j0 : zk_M} {d0 : Nat} {P : zk_P} (hcl : zk_clOk) (hjdk : zk_jdk) (hmt : ∀ a, zk_mtOk (mt a) ∨ ∀ as h Q, ¬ cx a as h Q) (hlk : ∀ i, zk_lk1 j0.1.cls mt i (lk i)) (hpl : plainName j0.1.cls = true)
    (hcd : ∀ pc q, cd pc = some q → decode j0.2.1 pc = .ok (q.1, zk_len q.1 q.2)) (hcx : ∀ a, zk_CT w d0 (mt a).1 (cx a)) (hbody : ∀ as h Q, P as h Q → ((∀ v ∈ as, zk_nod v = true) ∧ zk_wds as ≤ j0.2.2.1) ∧ zk_X w lk mt cx j0.2.2.2 cd Q 0 (zk_L0 as j0.2.2.1) [] h) : zk_CT w (d0 + 1) j0 P := by
  intro d hd l E sz as h Q hP
  obtain ⟨d, rfl⟩ : ∃ d', d = d' + 1 := ⟨d - 1, by omega⟩
  obtain ⟨⟨hnod, hwds⟩, hX⟩ := hbody as h Q hP
  refine Met.ofW (cc := j0.2.1) (maxL := j0.2.2.1) (ret := j0.2.2.2) hpl rfl ?_
  intro p e s m args below meth c s₁ B hml hv
  obtain ⟨rfl, hsz, hP, hK, hD, hBg⟩ := hv
  subst hsz
  have hD := zk_A_D (sz := s.heap.size) rfl hD
  have hl := lv_entry (as.map (zk_cv E)) (n := j0.2.2.1) (by rw [zk_wds_sl as hnod]; exact hwds)
  have hl2 : lv_has _ j0.2.2.1 (zk_loc E (zk_L0 as j0.2.2.1)) := zk_has_sub hl (fun q hq => by
    obtain ⟨i, u⟩ := q
    obtain ⟨v, hv, rfl⟩ := zk_loc_mem.mp hq
    have := zk_L0_in (E := E) as j0.2.2.1 0 hnod i v hv
    rwa [Nat.zero_add] at this)
  rw [lg_entry_eq]
  have Fx : zk_Fx p s m (as.map (zk_cv E)).toArray meth c j0.1.cls j0 (zk_A E w.1.length s.heap.size) E := ⟨B.exec, B.bytes, hml, B.returns, B.notSynchronized, findClass_of_methodNamed B.named, atoms_spec (ws := zk_ws j0) B.pre, fun q hq => Or.inr hq, hK, hBg⟩
  exact hX (zk_Z p l e d s m (as.map (zk_cv E)).toArray below meth c w E j0.2.2.1 Q) (fun pc L st h hs => by
    unfold zk_Sp at hs
    split at hs
    next q hq => exact zk_S_sound Fx rfl hcl hjdk hmt hlk hcx (by omega) (hcd pc q hq) hs
    · exact hs.elim) s.heap [] _ hP hD va_S.rf hl2 (zk_L0_len as _ hwds)
end
section
/-! THE METHODS, numbered: words, arguments, receiver. Written by wip/whole/gen.py out of the printed names and tables -/
def RJ0 : String := "java/lang/String"
def RJ1 : String := "java/lang/StringLatin1"
def RJ6 : String := "java/lang/Integer"
def RJ7 : String := "java/util/Arrays"
abbrev cX0_isKind : ByteArray := prog_2_method_2_code
def yX0_isKind : MethodName := ⟨RX0, "isKind", "(I)Z"⟩
def mX0_isKind : zk_M := (yX0_isKind, cX0_isKind, 2, (some .boolean))
abbrev cX0_isBody : ByteArray := prog_2_method_3_code
def yX0_isBody : MethodName := ⟨RX0, "isBody", "(I)Z"⟩
def mX0_isBody : zk_M := (yX0_isBody, cX0_isBody, 2, (some .boolean))
abbrev cX0_add : ByteArray := prog_2_method_4_code
def yX0_add : MethodName := ⟨RX0, "add", "(I)I"⟩
def mX0_add : zk_M := (yX0_add, cX0_add, 3, (some .int))
abbrev cX0_isUnder : ByteArray := prog_2_method_5_code
def yX0_isUnder : MethodName := ⟨RX0, "isUnder", "(II)Z"⟩
def mX0_isUnder : zk_M := (yX0_isUnder, cX0_isUnder, 5, (some .boolean))
abbrev cX0_traced : ByteArray := prog_2_method_6_code
def yX0_traced : MethodName := ⟨RX0, "traced", "()I"⟩
def mX0_traced : zk_M := (yX0_traced, cX0_traced, 1, (some .int))
abbrev cX0_perform : ByteArray := prog_2_method_7_code
def yX0_perform : MethodName := ⟨RX0, "perform", "(III)I"⟩
def mX0_perform : zk_M := (yX0_perform, cX0_perform, 4, (some .int))
abbrev cX0_own : ByteArray := prog_2_method_8_code
def yX0_own : MethodName := ⟨RX0, "own", "(III)I"⟩
def mX0_own : zk_M := (yX0_own, cX0_own, 4, (some .int))
abbrev cX0_above : ByteArray := prog_2_method_9_code
def yX0_above : MethodName := ⟨RX0, "above", "(IIII)I"⟩
def mX0_above : zk_M := (yX0_above, cX0_above, 5, (some .int))
abbrev cX0_bodyFrom : ByteArray := prog_2_method_10_code
def yX0_bodyFrom : MethodName := ⟨RX0, "bodyFrom", "(II)I"⟩
def mX0_bodyFrom : zk_M := (yX0_bodyFrom, cX0_bodyFrom, 6, (some .int))
abbrev cX0_run : ByteArray := prog_2_method_11_code
def yX0_run : MethodName := ⟨RX0, "run", "(III)I"⟩
def mX0_run : zk_M := (yX0_run, cX0_run, 4, (some .int))
abbrev cX1_make : ByteArray := prog_3_method_2_code
def yX1_make : MethodName := ⟨RX1, "make", "(III)V"⟩
def mX1_make : zk_M := (yX1_make, cX1_make, 4, none)
abbrev cX1_takeBack : ByteArray := prog_3_method_3_code
def yX1_takeBack : MethodName := ⟨RX1, "takeBack", "()I"⟩
def mX1_takeBack : zk_M := (yX1_takeBack, cX1_takeBack, 1, (some .int))
abbrev cX1_makeAgain : ByteArray := prog_3_method_4_code
def yX1_makeAgain : MethodName := ⟨RX1, "makeAgain", "()I"⟩
def mX1_makeAgain : zk_M := (yX1_makeAgain, cX1_makeAgain, 1, (some .int))
abbrev cX1_dropOldest : ByteArray := prog_3_method_5_code
def yX1_dropOldest : MethodName := ⟨RX1, "dropOldest", "()V"⟩
def mX1_dropOldest : zk_M := (yX1_dropOldest, cX1_dropOldest, 1, none)
abbrev cX2_letMinutesPass : ByteArray := prog_4_method_2_code
def yX2_letMinutesPass : MethodName := ⟨RX2, "letMinutesPass", "(I)I"⟩
def mX2_letMinutesPass : zk_M := (yX2_letMinutesPass, cX2_letMinutesPass, 2, (some .int))
abbrev cX2_sendCard : ByteArray := prog_4_method_3_code
def yX2_sendCard : MethodName := ⟨RX2, "sendCard", "(III)I"⟩
def mX2_sendCard : zk_M := (yX2_sendCard, cX2_sendCard, 5, (some .int))
abbrev cX2_mayBeThanked : ByteArray := prog_4_method_4_code
def yX2_mayBeThanked : MethodName := ⟨RX2, "mayBeThanked", "(I)Z"⟩
def mX2_mayBeThanked : zk_M := (yX2_mayBeThanked, cX2_mayBeThanked, 2, (some .boolean))
abbrev cX2_thankOne : ByteArray := prog_4_method_5_code
def yX2_thankOne : MethodName := ⟨RX2, "thankOne", "(II)I"⟩
def mX2_thankOne : zk_M := (yX2_thankOne, cX2_thankOne, 3, (some .int))
abbrev cX2_keepImage : ByteArray := prog_4_method_6_code
def yX2_keepImage : MethodName := ⟨RX2, "keepImage", "()I"⟩
def mX2_keepImage : zk_M := (yX2_keepImage, cX2_keepImage, 1, (some .int))
abbrev cX2_layImageBack : ByteArray := prog_4_method_7_code
def yX2_layImageBack : MethodName := ⟨RX2, "layImageBack", "()I"⟩
def mX2_layImageBack : zk_M := (yX2_layImageBack, cX2_layImageBack, 1, (some .int))
abbrev cX3_adopt : ByteArray := prog_5_method_2_code
def yX3_adopt : MethodName := ⟨RX3, "adopt", "([II)V"⟩
def mX3_adopt : zk_M := (yX3_adopt, cX3_adopt, 3, none)
abbrev cX3_isTold : ByteArray := prog_5_method_3_code
def yX3_isTold : MethodName := ⟨RX3, "isTold", "()Z"⟩
def mX3_isTold : zk_M := (yX3_isTold, cX3_isTold, 1, (some .boolean))
abbrev cX3_valueFor : ByteArray := prog_5_method_4_code
def yX3_valueFor : MethodName := ⟨RX3, "valueFor", "([I)I"⟩
def mX3_valueFor : zk_M := (yX3_valueFor, cX3_valueFor, 7, (some .int))
abbrev cX3_operandsOf : ByteArray := prog_5_method_5_code
def yX3_operandsOf : MethodName := ⟨RX3, "operandsOf", "(I)I"⟩
def mX3_operandsOf : zk_M := (yX3_operandsOf, cX3_operandsOf, 2, (some .int))
abbrev cX3_worked : ByteArray := prog_5_method_6_code
def yX3_worked : MethodName := ⟨RX3, "worked", "(III)I"⟩
def mX3_worked : zk_M := (yX3_worked, cX3_worked, 4, (some .int))
abbrev cX4_isPerson : ByteArray := prog_6_method_2_code
def yX4_isPerson : MethodName := ⟨RX4, "isPerson", "(I)Z"⟩
def mX4_isPerson : zk_M := (yX4_isPerson, cX4_isPerson, 2, (some .boolean))
abbrev cX4_isCard : ByteArray := prog_6_method_3_code
def yX4_isCard : MethodName := ⟨RX4, "isCard", "(I)Z"⟩
def mX4_isCard : zk_M := (yX4_isCard, cX4_isCard, 2, (some .boolean))
abbrev cX4_isSecret : ByteArray := prog_6_method_4_code
def yX4_isSecret : MethodName := ⟨RX4, "isSecret", "(I)Z"⟩
def mX4_isSecret : zk_M := (yX4_isSecret, cX4_isSecret, 2, (some .boolean))
abbrev cX4_isSet : ByteArray := prog_6_method_5_code
def yX4_isSet : MethodName := ⟨RX4, "isSet", "(I)Z"⟩
def mX4_isSet : zk_M := (yX4_isSet, cX4_isSet, 2, (some .boolean))
abbrev cX4_isCardAndPerson : ByteArray := prog_6_method_6_code
def yX4_isCardAndPerson : MethodName := ⟨RX4, "isCardAndPerson", "(I)Z"⟩
def mX4_isCardAndPerson : zk_M := (yX4_isCardAndPerson, cX4_isCardAndPerson, 2, (some .boolean))
abbrev cX4_isTwoPeople : ByteArray := prog_6_method_7_code
def yX4_isTwoPeople : MethodName := ⟨RX4, "isTwoPeople", "(I)Z"⟩
def mX4_isTwoPeople : zk_M := (yX4_isTwoPeople, cX4_isTwoPeople, 2, (some .boolean))
abbrev cX4_isWay : ByteArray := prog_6_method_8_code
def yX4_isWay : MethodName := ⟨RX4, "isWay", "(I)Z"⟩
def mX4_isWay : zk_M := (yX4_isWay, cX4_isWay, 2, (some .boolean))
abbrev cX4_has : ByteArray := prog_6_method_9_code
def yX4_has : MethodName := ⟨RX4, "has", "(II)Z"⟩
def mX4_has : zk_M := (yX4_has, cX4_has, 3, (some .boolean))
abbrev cX4_fits : ByteArray := prog_6_method_10_code
def yX4_fits : MethodName := ⟨RX4, "fits", "(II)Z"⟩
def mX4_fits : zk_M := (yX4_fits, cX4_fits, 3, (some .boolean))
abbrev cX4_addPerson : ByteArray := prog_6_method_11_code
def yX4_addPerson : MethodName := ⟨RX4, "addPerson", "(III)I"⟩
def mX4_addPerson : zk_M := (yX4_addPerson, cX4_addPerson, 5, (some .int))
abbrev cX4_addCard : ByteArray := prog_6_method_12_code
def yX4_addCard : MethodName := ⟨RX4, "addCard", "(III)I"⟩
def mX4_addCard : zk_M := (yX4_addCard, cX4_addCard, 5, (some .int))
abbrev cX4_layCard : ByteArray := prog_6_method_13_code
def yX4_layCard : MethodName := ⟨RX4, "layCard", "(III)V"⟩
def mX4_layCard : zk_M := (yX4_layCard, cX4_layCard, 5, none)
abbrev cX4_likes : ByteArray := prog_6_method_14_code
def yX4_likes : MethodName := ⟨RX4, "likes", "(II)Z"⟩
def mX4_likes : zk_M := (yX4_likes, cX4_likes, 3, (some .boolean))
abbrev cX4_knows : ByteArray := prog_6_method_15_code
def yX4_knows : MethodName := ⟨RX4, "knows", "(II)Z"⟩
def mX4_knows : zk_M := (yX4_knows, cX4_knows, 3, (some .boolean))
abbrev cX4_isIn : ByteArray := prog_6_method_16_code
def yX4_isIn : MethodName := ⟨RX4, "isIn", "(II)Z"⟩
def mX4_isIn : zk_M := (yX4_isIn, cX4_isIn, 3, (some .boolean))
abbrev cX4_canWriteSo : ByteArray := prog_6_method_17_code
def yX4_canWriteSo : MethodName := ⟨RX4, "canWriteSo", "(III)Z"⟩
def mX4_canWriteSo : zk_M := (yX4_canWriteSo, cX4_canWriteSo, 5, (some .boolean))
abbrev cX4_whoCould : ByteArray := prog_6_method_18_code
def yX4_whoCould : MethodName := ⟨RX4, "whoCould", "(I)I"⟩
def mX4_whoCould : zk_M := (yX4_whoCould, cX4_whoCould, 2, (some .int))
abbrev cX4_whoCouldWithSecret : ByteArray := prog_6_method_19_code
def yX4_whoCouldWithSecret : MethodName := ⟨RX4, "whoCouldWithSecret", "(II)I"⟩
def mX4_whoCouldWithSecret : zk_M := (yX4_whoCouldWithSecret, cX4_whoCouldWithSecret, 4, (some .int))
abbrev cX4_everybody : ByteArray := prog_6_method_20_code
def yX4_everybody : MethodName := ⟨RX4, "everybody", "()I"⟩
def mX4_everybody : zk_M := (yX4_everybody, cX4_everybody, 1, (some .int))
abbrev cX4_whoIsIn : ByteArray := prog_6_method_21_code
def yX4_whoIsIn : MethodName := ⟨RX4, "whoIsIn", "(I)I"⟩
def mX4_whoIsIn : zk_M := (yX4_whoIsIn, cX4_whoIsIn, 4, (some .int))
abbrev cX4_whoKnows : ByteArray := prog_6_method_22_code
def yX4_whoKnows : MethodName := ⟨RX4, "whoKnows", "(I)I"⟩
def mX4_whoKnows : zk_M := (yX4_whoKnows, cX4_whoKnows, 4, (some .int))
abbrev cX4_whoKnowsAfter : ByteArray := prog_6_method_23_code
def yX4_whoKnowsAfter : MethodName := ⟨RX4, "whoKnowsAfter", "(II)I"⟩
def mX4_whoKnowsAfter : zk_M := (yX4_whoKnowsAfter, cX4_whoKnowsAfter, 5, (some .int))
abbrev cX4_eveningOfHearing : ByteArray := prog_6_method_24_code
def yX4_eveningOfHearing : MethodName := ⟨RX4, "eveningOfHearing", "(II)I"⟩
def mX4_eveningOfHearing : zk_M := (yX4_eveningOfHearing, cX4_eveningOfHearing, 5, (some .int))
abbrev cX4_toldOn : ByteArray := prog_6_method_25_code
def yX4_toldOn : MethodName := ⟨RX4, "toldOn", "(I)I"⟩
def mX4_toldOn : zk_M := (yX4_toldOn, cX4_toldOn, 4, (some .int))
abbrev cX5_takeLetter : ByteArray := prog_7_method_2_code
def yX5_takeLetter : MethodName := ⟨RX5, "takeLetter", "(I)I"⟩
def mX5_takeLetter : zk_M := (yX5_takeLetter, cX5_takeLetter, 2, (some .int))
abbrev cX5_parseTape : ByteArray := prog_7_method_3_code
def yX5_parseTape : MethodName := ⟨RX5, "parseTape", "()I"⟩
def mX5_parseTape : zk_M := (yX5_parseTape, cX5_parseTape, 3, (some .int))
abbrev cX5_begin : ByteArray := prog_7_method_4_code
def yX5_begin : MethodName := ⟨RX5, "begin", "()V"⟩
def mX5_begin : zk_M := (yX5_begin, cX5_begin, 1, none)
abbrev cX5_takes : ByteArray := prog_7_method_5_code
def yX5_takes : MethodName := ⟨RX5, "takes", "(I)Z"⟩
def mX5_takes : zk_M := (yX5_takes, cX5_takes, 3, (some .boolean))
abbrev cX5_beginsNumber : ByteArray := prog_7_method_6_code
def yX5_beginsNumber : MethodName := ⟨RX5, "beginsNumber", "(I)Z"⟩
def mX5_beginsNumber : zk_M := (yX5_beginsNumber, cX5_beginsNumber, 2, (some .boolean))
abbrev cX5_takesAsOperand : ByteArray := prog_7_method_7_code
def yX5_takesAsOperand : MethodName := ⟨RX5, "takesAsOperand", "(I)Z"⟩
def mX5_takesAsOperand : zk_M := (yX5_takesAsOperand, cX5_takesAsOperand, 3, (some .boolean))
abbrev cX5_takesBehindOperand : ByteArray := prog_7_method_8_code
def yX5_takesBehindOperand : MethodName := ⟨RX5, "takesBehindOperand", "(I)Z"⟩
def mX5_takesBehindOperand : zk_M := (yX5_takesBehindOperand, cX5_takesBehindOperand, 2, (some .boolean))
abbrev cX5_closesBracket : ByteArray := prog_7_method_9_code
def yX5_closesBracket : MethodName := ⟨RX5, "closesBracket", "()Z"⟩
def mX5_closesBracket : zk_M := (yX5_closesBracket, cX5_closesBracket, 1, (some .boolean))
abbrev cX5_endsExpression : ByteArray := prog_7_method_10_code
def yX5_endsExpression : MethodName := ⟨RX5, "endsExpression", "(IZ)Z"⟩
def mX5_endsExpression : zk_M := (yX5_endsExpression, cX5_endsExpression, 3, (some .boolean))
abbrev cX5_takesBetween : ByteArray := prog_7_method_11_code
def yX5_takesBetween : MethodName := ⟨RX5, "takesBetween", "(I)Z"⟩
def mX5_takesBetween : zk_M := (yX5_takesBetween, cX5_takesBetween, 3, (some .boolean))
abbrev cX5_endOperand : ByteArray := prog_7_method_12_code
def yX5_endOperand : MethodName := ⟨RX5, "endOperand", "()V"⟩
def mX5_endOperand : zk_M := (yX5_endOperand, cX5_endOperand, 1, none)
abbrev cX5_emitWaiting : ByteArray := prog_7_method_13_code
def yX5_emitWaiting : MethodName := ⟨RX5, "emitWaiting", "(I)V"⟩
def mX5_emitWaiting : zk_M := (yX5_emitWaiting, cX5_emitWaiting, 2, none)
abbrev cX5_rankOf : ByteArray := prog_7_method_14_code
def yX5_rankOf : MethodName := ⟨RX5, "rankOf", "(I)I"⟩
def mX5_rankOf : zk_M := (yX5_rankOf, cX5_rankOf, 2, (some .int))
abbrev cX5_await : ByteArray := prog_7_method_15_code
def yX5_await : MethodName := ⟨RX5, "await", "(I)V"⟩
def mX5_await : zk_M := (yX5_await, cX5_await, 2, none)
abbrev cX5_emit : ByteArray := prog_7_method_16_code
def yX5_emit : MethodName := ⟨RX5, "emit", "(I)V"⟩
def mX5_emit : zk_M := (yX5_emit, cX5_emit, 2, none)
abbrev cX6_bestQuestion : ByteArray := prog_8_method_2_code
def yX6_bestQuestion : MethodName := ⟨RX6, "bestQuestion", "(II)I"⟩
def mX6_bestQuestion : zk_M := (yX6_bestQuestion, cX6_bestQuestion, 9, (some .int))
abbrev cX6_sumOfYes : ByteArray := prog_8_method_3_code
def yX6_sumOfYes : MethodName := ⟨RX6, "sumOfYes", "(II)I"⟩
def mX6_sumOfYes : zk_M := (yX6_sumOfYes, cX6_sumOfYes, 5, (some .int))
abbrev cX6_saysYes : ByteArray := prog_8_method_4_code
def yX6_saysYes : MethodName := ⟨RX6, "saysYes", "(III)Z"⟩
def mX6_saysYes : zk_M := (yX6_saysYes, cX6_saysYes, 4, (some .boolean))
abbrev cX6_worthOfThanking : ByteArray := prog_8_method_5_code
def yX6_worthOfThanking : MethodName := ⟨RX6, "worthOfThanking", "(II)I"⟩
def mX6_worthOfThanking : zk_M := (yX6_worthOfThanking, cX6_worthOfThanking, 6, (some .int))
abbrev cX6_whomToThank : ByteArray := prog_8_method_6_code
def yX6_whomToThank : MethodName := ⟨RX6, "whomToThank", "(I)I"⟩
def mX6_whomToThank : zk_M := (yX6_whomToThank, cX6_whomToThank, 7, (some .int))
abbrev cX6_tellingSecret : ByteArray := prog_8_method_7_code
def yX6_tellingSecret : MethodName := ⟨RX6, "tellingSecret", "(II)I"⟩
def mX6_tellingSecret : zk_M := (yX6_tellingSecret, cX6_tellingSecret, 7, (some .int))
abbrev cX6_seekWay : ByteArray := prog_8_method_8_code
def yX6_seekWay : MethodName := ⟨RX6, "seekWay", "(IIII)V"⟩
def mX6_seekWay : zk_M := (yX6_seekWay, cX6_seekWay, 9, none)
abbrev cX6_weighWay : ByteArray := prog_8_method_9_code
def yX6_weighWay : MethodName := ⟨RX6, "weighWay", "(III)V"⟩
def mX6_weighWay : zk_M := (yX6_weighWay, cX6_weighWay, 7, none)
abbrev cX6_hopeOfReceiver : ByteArray := prog_8_method_10_code
def yX6_hopeOfReceiver : MethodName := ⟨RX6, "hopeOfReceiver", "(II)I"⟩
def mX6_hopeOfReceiver : zk_M := (yX6_hopeOfReceiver, cX6_hopeOfReceiver, 7, (some .int))
abbrev cX6_timesDrawn : ByteArray := prog_8_method_11_code
def yX6_timesDrawn : MethodName := ⟨RX6, "timesDrawn", "(IIII)I"⟩
def mX6_timesDrawn : zk_M := (yX6_timesDrawn, cX6_timesDrawn, 10, (some .int))
abbrev cX6_whoIsAt : ByteArray := prog_8_method_12_code
def yX6_whoIsAt : MethodName := ⟨RX6, "whoIsAt", "(I)I"⟩
def mX6_whoIsAt : zk_M := (yX6_whoIsAt, cX6_whoIsAt, 4, (some .int))
abbrev cX7_peopleCome : ByteArray := prog_9_method_2_code
def yX7_peopleCome : MethodName := ⟨RX7, "peopleCome", "(LCardUnsigned$Shelf;II)I"⟩
def mX7_peopleCome : zk_M := (yX7_peopleCome, cX7_peopleCome, 6, (some .int))
abbrev cX7_comesFrom : ByteArray := prog_9_method_3_code
def yX7_comesFrom : MethodName := ⟨RX7, "comesFrom", "(LCardUnsigned$Shelf;I)Z"⟩
def mX7_comesFrom : zk_M := (yX7_comesFrom, cX7_comesFrom, 7, (some .boolean))
abbrev cX7_firstLookFromOutside : ByteArray := prog_9_method_4_code
def yX7_firstLookFromOutside : MethodName := ⟨RX7, "firstLookFromOutside", "(LCardUnsigned$Shelf;)I"⟩
def mX7_firstLookFromOutside : zk_M := (yX7_firstLookFromOutside, cX7_firstLookFromOutside, 4, (some .int))
abbrev cX7_tallyLooks : ByteArray := prog_9_method_5_code
def yX7_tallyLooks : MethodName := ⟨RX7, "tallyLooks", "(LCardUnsigned$Shelf;I)V"⟩
def mX7_tallyLooks : zk_M := (yX7_tallyLooks, cX7_tallyLooks, 5, none)
abbrev cX7_mostTallied : ByteArray := prog_9_method_6_code
def yX7_mostTallied : MethodName := ⟨RX7, "mostTallied", "()I"⟩
def mX7_mostTallied : zk_M := (yX7_mostTallied, cX7_mostTallied, 4, (some .int))
abbrev cX7_firstWrongLetter : ByteArray := prog_9_method_7_code
def yX7_firstWrongLetter : MethodName := ⟨RX7, "firstWrongLetter", "(LCardUnsigned$Shelf;)I"⟩
def mX7_firstWrongLetter : zk_M := (yX7_firstWrongLetter, cX7_firstWrongLetter, 3, (some .int))
abbrev cX7_canBe : ByteArray := prog_9_method_8_code
def yX7_canBe : MethodName := ⟨RX7, "canBe", "(II)Z"⟩
def mX7_canBe : zk_M := (yX7_canBe, cX7_canBe, 3, (some .boolean))
abbrev cX7_lettersFilled : ByteArray := prog_9_method_9_code
def yX7_lettersFilled : MethodName := ⟨RX7, "lettersFilled", "(LCardUnsigned$Shelf;I)J"⟩
def mX7_lettersFilled : zk_M := (yX7_lettersFilled, cX7_lettersFilled, 8, (some .long))
abbrev cX7_waysToFill : ByteArray := prog_9_method_10_code
def yX7_waysToFill : MethodName := ⟨RX7, "waysToFill", "(II)I"⟩
def mX7_waysToFill : zk_M := (yX7_waysToFill, cX7_waysToFill, 3, (some .int))
abbrev cX7_countsTogether : ByteArray := prog_9_method_11_code
def yX7_countsTogether : MethodName := ⟨RX7, "countsTogether", "(II)I"⟩
def mX7_countsTogether : zk_M := (yX7_countsTogether, cX7_countsTogether, 4, (some .int))
abbrev cX8_holdLook : ByteArray := prog_10_method_2_code
def yX8_holdLook : MethodName := ⟨RX8, "holdLook", "(I)V"⟩
def mX8_holdLook : zk_M := (yX8_holdLook, cX8_holdLook, 2, none)
abbrev cX8_holdRow : ByteArray := prog_10_method_3_code
def yX8_holdRow : MethodName := ⟨RX8, "holdRow", "(II)V"⟩
def mX8_holdRow : zk_M := (yX8_holdRow, cX8_holdRow, 3, none)
abbrev cX8_isRowOf : ByteArray := prog_10_method_4_code
def yX8_isRowOf : MethodName := ⟨RX8, "isRowOf", "(I)Z"⟩
def mX8_isRowOf : zk_M := (yX8_isRowOf, cX8_isRowOf, 2, (some .boolean))
abbrev cX8_refusalOfRow : ByteArray := prog_10_method_5_code
def yX8_refusalOfRow : MethodName := ⟨RX8, "refusalOfRow", "(I)I"⟩
def mX8_refusalOfRow : zk_M := (yX8_refusalOfRow, cX8_refusalOfRow, 2, (some .int))
abbrev cX8_refusalOfPlace : ByteArray := prog_10_method_6_code
def yX8_refusalOfPlace : MethodName := ⟨RX8, "refusalOfPlace", "(I)I"⟩
def mX8_refusalOfPlace : zk_M := (yX8_refusalOfPlace, cX8_refusalOfPlace, 2, (some .int))
abbrev cX8_hasPlaces : ByteArray := prog_10_method_7_code
def yX8_hasPlaces : MethodName := ⟨RX8, "hasPlaces", "(II)Z"⟩
def mX8_hasPlaces : zk_M := (yX8_hasPlaces, cX8_hasPlaces, 3, (some .boolean))
abbrev cX8_lowestBits : ByteArray := prog_10_method_8_code
def yX8_lowestBits : MethodName := ⟨RX8, "lowestBits", "(J)J"⟩
def mX8_lowestBits : zk_M := (yX8_lowestBits, cX8_lowestBits, 3, (some .long))
abbrev cX10_weigh : ByteArray := prog_12_method_2_code
def yX10_weigh : MethodName := ⟨RX10, "weigh", "(I)I"⟩
def mX10_weigh : zk_M := (yX10_weigh, cX10_weigh, 6, (some .int))
abbrev cX10_countFor : ByteArray := prog_12_method_3_code
def yX10_countFor : MethodName := ⟨RX10, "countFor", "(II)I"⟩
def mX10_countFor : zk_M := (yX10_countFor, cX10_countFor, 4, (some .int))
abbrev cX10_likenessOfHand : ByteArray := prog_12_method_4_code
def yX10_likenessOfHand : MethodName := ⟨RX10, "likenessOfHand", "(II)I"⟩
def mX10_likenessOfHand : zk_M := (yX10_likenessOfHand, cX10_likenessOfHand, 4, (some .int))
abbrev cX10_valueWithoutLaw : ByteArray := prog_12_method_5_code
def yX10_valueWithoutLaw : MethodName := ⟨RX10, "valueWithoutLaw", "()I"⟩
def mX10_valueWithoutLaw : zk_M := (yX10_valueWithoutLaw, cX10_valueWithoutLaw, 3, (some .int))
abbrev cX10_likeliestOf : ByteArray := prog_12_method_6_code
def yX10_likeliestOf : MethodName := ⟨RX10, "likeliestOf", "(II)I"⟩
def mX10_likeliestOf : zk_M := (yX10_likeliestOf, cX10_likeliestOf, 6, (some .int))
abbrev cX10_onlyOne : ByteArray := prog_12_method_7_code
def yX10_onlyOne : MethodName := ⟨RX10, "onlyOne", "(I)I"⟩
def mX10_onlyOne : zk_M := (yX10_onlyOne, cX10_onlyOne, 4, (some .int))
abbrev cX10_whoCouldAll : ByteArray := prog_12_method_8_code
def yX10_whoCouldAll : MethodName := ⟨RX10, "whoCouldAll", "(I)I"⟩
def mX10_whoCouldAll : zk_M := (yX10_whoCouldAll, cX10_whoCouldAll, 4, (some .int))
abbrev cX10_fewestHands : ByteArray := prog_12_method_9_code
def yX10_fewestHands : MethodName := ⟨RX10, "fewestHands", "(I)I"⟩
def mX10_fewestHands : zk_M := (yX10_fewestHands, cX10_fewestHands, 5, (some .int))
abbrev cX10_couldAllBeBy : ByteArray := prog_12_method_10_code
def yX10_couldAllBeBy : MethodName := ⟨RX10, "couldAllBeBy", "(II)Z"⟩
def mX10_couldAllBeBy : zk_M := (yX10_couldAllBeBy, cX10_couldAllBeBy, 4, (some .boolean))
abbrev cX10_waysByUnlike : ByteArray := prog_12_method_11_code
def yX10_waysByUnlike : MethodName := ⟨RX10, "waysByUnlike", "(I)I"⟩
def mX10_waysByUnlike : zk_M := (yX10_waysByUnlike, cX10_waysByUnlike, 4, (some .int))
abbrev cX10_addWriter : ByteArray := prog_12_method_12_code
def yX10_addWriter : MethodName := ⟨RX10, "addWriter", "(I)I"⟩
def mX10_addWriter : zk_M := (yX10_addWriter, cX10_addWriter, 6, (some .int))
abbrev cX10_lowestTerms : ByteArray := prog_12_method_13_code
def yX10_lowestTerms : MethodName := ⟨RX10, "lowestTerms", "(III)I"⟩
def mX10_lowestTerms : zk_M := (yX10_lowestTerms, cX10_lowestTerms, 5, (some .int))
abbrev cX10_greatestDivisor : ByteArray := prog_12_method_14_code
def yX10_greatestDivisor : MethodName := ⟨RX10, "greatestDivisor", "(II)I"⟩
def mX10_greatestDivisor : zk_M := (yX10_greatestDivisor, cX10_greatestDivisor, 7, (some .int))
abbrev cX11_person : ByteArray := prog_1_method_2_code
def yX11_person : MethodName := ⟨RX11, "person", "(I)I"⟩
def mX11_person : zk_M := (yX11_person, cX11_person, 2, (some .int))
abbrev cX11_people : ByteArray := prog_1_method_3_code
def yX11_people : MethodName := ⟨RX11, "people", "(III)I"⟩
def mX11_people : zk_M := (yX11_people, cX11_people, 5, (some .int))
abbrev cX11_card : ByteArray := prog_1_method_4_code
def yX11_card : MethodName := ⟨RX11, "card", "(II)I"⟩
def mX11_card : zk_M := (yX11_card, cX11_card, 3, (some .int))
abbrev cX11_mend : ByteArray := prog_1_method_5_code
def yX11_mend : MethodName := ⟨RX11, "mend", "(III)I"⟩
def mX11_mend : zk_M := (yX11_mend, cX11_mend, 5, (some .int))
abbrev cX11_of : ByteArray := prog_1_method_6_code
def yX11_of : MethodName := ⟨RX11, "of", "(II)I"⟩
def mX11_of : zk_M := (yX11_of, cX11_of, 3, (some .int))
abbrev cX11_feed : ByteArray := prog_1_method_7_code
def yX11_feed : MethodName := ⟨RX11, "feed", "(I)I"⟩
def mX11_feed : zk_M := (yX11_feed, cX11_feed, 2, (some .int))
abbrev cX11_law : ByteArray := prog_1_method_8_code
def yX11_law : MethodName := ⟨RX11, "law", "()I"⟩
def mX11_law : zk_M := (yX11_law, cX11_law, 2, (some .int))
abbrev cX11_could : ByteArray := prog_1_method_9_code
def yX11_could : MethodName := ⟨RX11, "could", "(I)I"⟩
def mX11_could : zk_M := (yX11_could, cX11_could, 2, (some .int))
abbrev cX11_counts : ByteArray := prog_1_method_10_code
def yX11_counts : MethodName := ⟨RX11, "counts", "(I)I"⟩
def mX11_counts : zk_M := (yX11_counts, cX11_counts, 2, (some .int))
abbrev cX11_likely : ByteArray := prog_1_method_11_code
def yX11_likely : MethodName := ⟨RX11, "likely", "(II)J"⟩
def mX11_likely : zk_M := (yX11_likely, cX11_likely, 4, (some .long))
abbrev cX11_likeliest : ByteArray := prog_1_method_12_code
def yX11_likeliest : MethodName := ⟨RX11, "likeliest", "(II)I"⟩
def mX11_likeliest : zk_M := (yX11_likeliest, cX11_likeliest, 3, (some .int))
abbrev cX11_allByOne : ByteArray := prog_1_method_13_code
def yX11_allByOne : MethodName := ⟨RX11, "allByOne", "(I)I"⟩
def mX11_allByOne : zk_M := (yX11_allByOne, cX11_allByOne, 2, (some .int))
abbrev cX11_hands : ByteArray := prog_1_method_14_code
def yX11_hands : MethodName := ⟨RX11, "hands", "(II)I"⟩
def mX11_hands : zk_M := (yX11_hands, cX11_hands, 4, (some .int))
abbrev cX11_unlike : ByteArray := prog_1_method_15_code
def yX11_unlike : MethodName := ⟨RX11, "unlike", "(I)I"⟩
def mX11_unlike : zk_M := (yX11_unlike, cX11_unlike, 2, (some .int))
abbrev cX11_evenings : ByteArray := prog_1_method_16_code
def yX11_evenings : MethodName := ⟨RX11, "evenings", "(II)I"⟩
def mX11_evenings : zk_M := (yX11_evenings, cX11_evenings, 3, (some .int))
abbrev cX11_hears : ByteArray := prog_1_method_17_code
def yX11_hears : MethodName := ⟨RX11, "hears", "(II)I"⟩
def mX11_hears : zk_M := (yX11_hears, cX11_hears, 3, (some .int))
abbrev cX11_ask : ByteArray := prog_1_method_18_code
def yX11_ask : MethodName := ⟨RX11, "ask", "(II)I"⟩
def mX11_ask : zk_M := (yX11_ask, cX11_ask, 3, (some .int))
abbrev cX11_worth : ByteArray := prog_1_method_19_code
def yX11_worth : MethodName := ⟨RX11, "worth", "(I)I"⟩
def mX11_worth : zk_M := (yX11_worth, cX11_worth, 3, (some .int))
abbrev cX11_thank : ByteArray := prog_1_method_20_code
def yX11_thank : MethodName := ⟨RX11, "thank", "(I)I"⟩
def mX11_thank : zk_M := (yX11_thank, cX11_thank, 2, (some .int))
abbrev cX11_next : ByteArray := prog_1_method_21_code
def yX11_next : MethodName := ⟨RX11, "next", "(II)I"⟩
def mX11_next : zk_M := (yX11_next, cX11_next, 3, (some .int))
abbrev cX11_write : ByteArray := prog_1_method_22_code
def yX11_write : MethodName := ⟨RX11, "write", "(III)I"⟩
def mX11_write : zk_M := (yX11_write, cX11_write, 4, (some .int))
abbrev cX11_written : ByteArray := prog_1_method_23_code
def yX11_written : MethodName := ⟨RX11, "written", "(III)J"⟩
def mX11_written : zk_M := (yX11_written, cX11_written, 5, (some .long))
abbrev cX11_looks : ByteArray := prog_1_method_24_code
def yX11_looks : MethodName := ⟨RX11, "looks", "(II)I"⟩
def mX11_looks : zk_M := (yX11_looks, cX11_looks, 5, (some .int))
abbrev cX11_since : ByteArray := prog_1_method_25_code
def yX11_since : MethodName := ⟨RX11, "since", "(II)I"⟩
def mX11_since : zk_M := (yX11_since, cX11_since, 5, (some .int))
abbrev cX11_judge : ByteArray := prog_1_method_26_code
def yX11_judge : MethodName := ⟨RX11, "judge", "(I)I"⟩
def mX11_judge : zk_M := (yX11_judge, cX11_judge, 4, (some .int))
abbrev cX11_filled : ByteArray := prog_1_method_27_code
def yX11_filled : MethodName := ⟨RX11, "filled", "(II)J"⟩
def mX11_filled : zk_M := (yX11_filled, cX11_filled, 4, (some .long))
abbrev cX11_hope : ByteArray := prog_1_method_28_code
def yX11_hope : MethodName := ⟨RX11, "hope", "(II)I"⟩
def mX11_hope : zk_M := (yX11_hope, cX11_hope, 3, (some .int))
abbrev cX11_drawn : ByteArray := prog_1_method_29_code
def yX11_drawn : MethodName := ⟨RX11, "drawn", "(IIII)I"⟩
def mX11_drawn : zk_M := (yX11_drawn, cX11_drawn, 5, (some .int))
abbrev cX11_pass : ByteArray := prog_1_method_30_code
def yX11_pass : MethodName := ⟨RX11, "pass", "(I)I"⟩
def mX11_pass : zk_M := (yX11_pass, cX11_pass, 2, (some .int))
abbrev cX11_send : ByteArray := prog_1_method_31_code
def yX11_send : MethodName := ⟨RX11, "send", "(II)I"⟩
def mX11_send : zk_M := (yX11_send, cX11_send, 3, (some .int))
abbrev cX11_thanked : ByteArray := prog_1_method_32_code
def yX11_thanked : MethodName := ⟨RX11, "thanked", "(I)I"⟩
def mX11_thanked : zk_M := (yX11_thanked, cX11_thanked, 2, (some .int))
abbrev cX11_led : ByteArray := prog_1_method_33_code
def yX11_led : MethodName := ⟨RX11, "led", "(I)I"⟩
def mX11_led : zk_M := (yX11_led, cX11_led, 2, (some .int))
abbrev cX11_image : ByteArray := prog_1_method_34_code
def yX11_image : MethodName := ⟨RX11, "image", "()I"⟩
def mX11_image : zk_M := (yX11_image, cX11_image, 1, (some .int))
abbrev cX11_back : ByteArray := prog_1_method_35_code
def yX11_back : MethodName := ⟨RX11, "back", "()I"⟩
def mX11_back : zk_M := (yX11_back, cX11_back, 1, (some .int))
abbrev cX11_undo : ByteArray := prog_1_method_36_code
def yX11_undo : MethodName := ⟨RX11, "undo", "()I"⟩
def mX11_undo : zk_M := (yX11_undo, cX11_undo, 1, (some .int))
abbrev cX11_redo : ByteArray := prog_1_method_37_code
def yX11_redo : MethodName := ⟨RX11, "redo", "()I"⟩
def mX11_redo : zk_M := (yX11_redo, cX11_redo, 1, (some .int))
abbrev cX11_body : ByteArray := prog_1_method_38_code
def yX11_body : MethodName := ⟨RX11, "body", "(I)I"⟩
def mX11_body : zk_M := (yX11_body, cX11_body, 2, (some .int))
abbrev cX11_act : ByteArray := prog_1_method_39_code
def yX11_act : MethodName := ⟨RX11, "act", "(III)I"⟩
def mX11_act : zk_M := (yX11_act, cX11_act, 4, (some .int))
abbrev cX11_trace : ByteArray := prog_1_method_40_code
def yX11_trace : MethodName := ⟨RX11, "trace", "(I)I"⟩
def mX11_trace : zk_M := (yX11_trace, cX11_trace, 2, (some .int))
abbrev cX11_keep : ByteArray := prog_1_method_41_code
def yX11_keep : MethodName := ⟨RX11, "keep", "(II)I"⟩
def mX11_keep : zk_M := (yX11_keep, cX11_keep, 4, (some .int))
abbrev cX11_row : ByteArray := prog_1_method_42_code
def yX11_row : MethodName := ⟨RX11, "row", "(III)I"⟩
def mX11_row : zk_M := (yX11_row, cX11_row, 5, (some .int))
abbrev cX11_put : ByteArray := prog_1_method_43_code
def yX11_put : MethodName := ⟨RX11, "put", "(IIJ)I"⟩
def mX11_put : zk_M := (yX11_put, cX11_put, 7, (some .int))
abbrev cX11_element : ByteArray := prog_1_method_44_code
def yX11_element : MethodName := ⟨RX11, "element", "(II)J"⟩
def mX11_element : zk_M := (yX11_element, cX11_element, 4, (some .long))
abbrev cX11_shift : ByteArray := prog_1_method_45_code
def yX11_shift : MethodName := ⟨RX11, "shift", "(IIIII)I"⟩
def mX11_shift : zk_M := (yX11_shift, cX11_shift, 8, (some .int))
abbrev cX11_taken : ByteArray := prog_1_method_46_code
def yX11_taken : MethodName := ⟨RX11, "taken", "(II)I"⟩
def mX11_taken : zk_M := (yX11_taken, cX11_taken, 5, (some .int))
abbrev cX11_count : ByteArray := prog_1_method_47_code
def yX11_count : MethodName := ⟨RX11, "count", "(I)I"⟩
def mX11_count : zk_M := (yX11_count, cX11_count, 2, (some .int))
abbrev cX11_shelfAt : ByteArray := prog_1_method_48_code
def yX11_shelfAt : MethodName := ⟨RX11, "shelfAt", "(I)LCardUnsigned$Shelf;"⟩
def mX11_shelfAt : zk_M := (yX11_shelfAt, cX11_shelfAt, 2, (some (.object "CardUnsigned$Shelf")))
abbrev cX11_isZeroOrOne : ByteArray := prog_1_method_49_code
def yX11_isZeroOrOne : MethodName := ⟨RX11, "isZeroOrOne", "(I)Z"⟩
def mX11_isZeroOrOne : zk_M := (yX11_isZeroOrOne, cX11_isZeroOrOne, 1, (some .boolean))
abbrev cX12_within : ByteArray := prog_14_method_2_code
def yX12_within : MethodName := ⟨RX12, "within", "(III)Z"⟩
def mX12_within : zk_M := (yX12_within, cX12_within, 3, (some .boolean))
abbrev cX12_isOne : ByteArray := prog_14_method_3_code
def yX12_isOne : MethodName := ⟨RX12, "isOne", "(I)Z"⟩
def mX12_isOne : zk_M := (yX12_isOne, cX12_isOne, 2, (some .boolean))
abbrev cX12_isCard : ByteArray := prog_14_method_4_code
def yX12_isCard : MethodName := ⟨RX12, "isCard", "(I)Z"⟩
def mX12_isCard : zk_M := (yX12_isCard, cX12_isCard, 2, (some .boolean))
abbrev cX12_isCardOf : ByteArray := prog_14_method_5_code
def yX12_isCardOf : MethodName := ⟨RX12, "isCardOf", "(I)Z"⟩
def mX12_isCardOf : zk_M := (yX12_isCardOf, cX12_isCardOf, 2, (some .boolean))
abbrev cX12_areTwo : ByteArray := prog_14_method_6_code
def yX12_areTwo : MethodName := ⟨RX12, "areTwo", "(I)Z"⟩
def mX12_areTwo : zk_M := (yX12_areTwo, cX12_areTwo, 2, (some .boolean))
abbrev cX12_areCards : ByteArray := prog_14_method_7_code
def yX12_areCards : MethodName := ⟨RX12, "areCards", "(I)Z"⟩
def mX12_areCards : zk_M := (yX12_areCards, cX12_areCards, 2, (some .boolean))
abbrev cX12_isMinute : ByteArray := prog_14_method_8_code
def yX12_isMinute : MethodName := ⟨RX12, "isMinute", "(I)Z"⟩
def mX12_isMinute : zk_M := (yX12_isMinute, cX12_isMinute, 1, (some .boolean))
abbrev cX12_isWay : ByteArray := prog_14_method_9_code
def yX12_isWay : MethodName := ⟨RX12, "isWay", "(I)Z"⟩
def mX12_isWay : zk_M := (yX12_isWay, cX12_isWay, 1, (some .boolean))
abbrev cX12_isSecret : ByteArray := prog_14_method_10_code
def yX12_isSecret : MethodName := ⟨RX12, "isSecret", "(I)Z"⟩
def mX12_isSecret : zk_M := (yX12_isSecret, cX12_isSecret, 1, (some .boolean))
abbrev cX12_isShelf : ByteArray := prog_14_method_11_code
def yX12_isShelf : MethodName := ⟨RX12, "isShelf", "(I)Z"⟩
def mX12_isShelf : zk_M := (yX12_isShelf, cX12_isShelf, 1, (some .boolean))
abbrev cX12_has : ByteArray := prog_14_method_12_code
def yX12_has : MethodName := ⟨RX12, "has", "(II)Z"⟩
def mX12_has : zk_M := (yX12_has, cX12_has, 2, (some .boolean))
abbrev cX12_newPerson : ByteArray := prog_14_method_13_code
def yX12_newPerson : MethodName := ⟨RX12, "newPerson", "(III)I"⟩
def mX12_newPerson : zk_M := (yX12_newPerson, cX12_newPerson, 4, (some .int))
abbrev cX12_person : ByteArray := prog_14_method_14_code
def yX12_person : MethodName := ⟨RX12, "person", "(I)I"⟩
def mX12_person : zk_M := (yX12_person, cX12_person, 2, (some .int))
abbrev cX12_people : ByteArray := prog_14_method_15_code
def yX12_people : MethodName := ⟨RX12, "people", "(III)I"⟩
def mX12_people : zk_M := (yX12_people, cX12_people, 9, (some .int))
abbrev cX12_newCard : ByteArray := prog_14_method_16_code
def yX12_newCard : MethodName := ⟨RX12, "newCard", "(III)I"⟩
def mX12_newCard : zk_M := (yX12_newCard, cX12_newCard, 4, (some .int))
abbrev cX12_tells : ByteArray := prog_14_method_17_code
def yX12_tells : MethodName := ⟨RX12, "tells", "(II)V"⟩
def mX12_tells : zk_M := (yX12_tells, cX12_tells, 3, none)
abbrev cX12_card : ByteArray := prog_14_method_18_code
def yX12_card : MethodName := ⟨RX12, "card", "(II)I"⟩
def mX12_card : zk_M := (yX12_card, cX12_card, 3, (some .int))
abbrev cX12_isOf : ByteArray := prog_14_method_19_code
def yX12_isOf : MethodName := ⟨RX12, "isOf", "(II)Z"⟩
def mX12_isOf : zk_M := (yX12_isOf, cX12_isOf, 3, (some .boolean))
abbrev cX12_isFit : ByteArray := prog_14_method_20_code
def yX12_isFit : MethodName := ⟨RX12, "isFit", "(II)Z"⟩
def mX12_isFit : zk_M := (yX12_isFit, cX12_isFit, 2, (some .boolean))
abbrev cX12_get : ByteArray := prog_14_method_21_code
def yX12_get : MethodName := ⟨RX12, "get", "(II)I"⟩
def mX12_get : zk_M := (yX12_get, cX12_get, 3, (some .int))
abbrev cX12_becomes : ByteArray := prog_14_method_22_code
def yX12_becomes : MethodName := ⟨RX12, "becomes", "(III)V"⟩
def mX12_becomes : zk_M := (yX12_becomes, cX12_becomes, 4, none)
abbrev cX12_mend : ByteArray := prog_14_method_23_code
def yX12_mend : MethodName := ⟨RX12, "mend", "(III)I"⟩
def mX12_mend : zk_M := (yX12_mend, cX12_mend, 6, (some .int))
abbrev cX12_of : ByteArray := prog_14_method_24_code
def yX12_of : MethodName := ⟨RX12, "of", "(II)I"⟩
def mX12_of : zk_M := (yX12_of, cX12_of, 3, (some .int))
abbrev cX12_undo : ByteArray := prog_14_method_25_code
def yX12_undo : MethodName := ⟨RX12, "undo", "()I"⟩
def mX12_undo : zk_M := (yX12_undo, cX12_undo, 1, (some .int))
abbrev cX12_redo : ByteArray := prog_14_method_26_code
def yX12_redo : MethodName := ⟨RX12, "redo", "()I"⟩
def mX12_redo : zk_M := (yX12_redo, cX12_redo, 1, (some .int))
abbrev cX12_feed : ByteArray := prog_14_method_27_code
def yX12_feed : MethodName := ⟨RX12, "feed", "(I)I"⟩
def mX12_feed : zk_M := (yX12_feed, cX12_feed, 2, (some .int))
abbrev cX12_sign : ByteArray := prog_14_method_28_code
def yX12_sign : MethodName := ⟨RX12, "sign", "()I"⟩
def mX12_sign : zk_M := (yX12_sign, cX12_sign, 1, (some .int))
abbrev cX12_is : ByteArray := prog_14_method_29_code
def yX12_is : MethodName := ⟨RX12, "is", "(I)Z"⟩
def mX12_is : zk_M := (yX12_is, cX12_is, 2, (some .boolean))
abbrev cX12_codes : ByteArray := prog_14_method_30_code
def yX12_codes : MethodName := ⟨RX12, "codes", "(I)Z"⟩
def mX12_codes : zk_M := (yX12_codes, cX12_codes, 2, (some .boolean))
abbrev cX12_isDigit : ByteArray := prog_14_method_31_code
def yX12_isDigit : MethodName := ⟨RX12, "isDigit", "()Z"⟩
def mX12_isDigit : zk_M := (yX12_isDigit, cX12_isDigit, 1, (some .boolean))
abbrev cX12_nameOf : ByteArray := prog_14_method_32_code
def yX12_nameOf : MethodName := ⟨RX12, "nameOf", "(I)I"⟩
def mX12_nameOf : zk_M := (yX12_nameOf, cX12_nameOf, 1, (some .int))
abbrev cX12_isO : ByteArray := prog_14_method_33_code
def yX12_isO : MethodName := ⟨RX12, "isO", "()Z"⟩
def mX12_isO : zk_M := (yX12_isO, cX12_isO, 3, (some .boolean))
abbrev cX12_isP : ByteArray := prog_14_method_34_code
def yX12_isP : MethodName := ⟨RX12, "isP", "()Z"⟩
def mX12_isP : zk_M := (yX12_isP, cX12_isP, 2, (some .boolean))
abbrev cX12_isS : ByteArray := prog_14_method_35_code
def yX12_isS : MethodName := ⟨RX12, "isS", "()Z"⟩
def mX12_isS : zk_M := (yX12_isS, cX12_isS, 2, (some .boolean))
abbrev cX12_isB : ByteArray := prog_14_method_36_code
def yX12_isB : MethodName := ⟨RX12, "isB", "()Z"⟩
def mX12_isB : zk_M := (yX12_isB, cX12_isB, 2, (some .boolean))
abbrev cX12_isA : ByteArray := prog_14_method_37_code
def yX12_isA : MethodName := ⟨RX12, "isA", "()Z"⟩
def mX12_isA : zk_M := (yX12_isA, cX12_isA, 1, (some .boolean))
abbrev cX12_isE : ByteArray := prog_14_method_38_code
def yX12_isE : MethodName := ⟨RX12, "isE", "()Z"⟩
def mX12_isE : zk_M := (yX12_isE, cX12_isE, 1, (some .boolean))
abbrev cX12_isLine : ByteArray := prog_14_method_39_code
def yX12_isLine : MethodName := ⟨RX12, "isLine", "()Z"⟩
def mX12_isLine : zk_M := (yX12_isLine, cX12_isLine, 1, (some .boolean))
abbrev cX12_law : ByteArray := prog_14_method_40_code
def yX12_law : MethodName := ⟨RX12, "law", "()I"⟩
def mX12_law : zk_M := (yX12_law, cX12_law, 4, (some .int))
abbrev cX12_both : ByteArray := prog_14_method_41_code
def yX12_both : MethodName := ⟨RX12, "both", "(III)I"⟩
def mX12_both : zk_M := (yX12_both, cX12_both, 3, (some .int))
abbrev cX12_worked : ByteArray := prog_14_method_42_code
def yX12_worked : MethodName := ⟨RX12, "worked", "(II)I"⟩
def mX12_worked : zk_M := (yX12_worked, cX12_worked, 6, (some .int))
abbrev cX12_isIn : ByteArray := prog_14_method_43_code
def yX12_isIn : MethodName := ⟨RX12, "isIn", "(II)Z"⟩
def mX12_isIn : zk_M := (yX12_isIn, cX12_isIn, 3, (some .boolean))
abbrev cX12_could : ByteArray := prog_14_method_44_code
def yX12_could : MethodName := ⟨RX12, "could", "(II)Z"⟩
def mX12_could : zk_M := (yX12_could, cX12_could, 3, (some .boolean))
abbrev cX12_knowers : ByteArray := prog_14_method_45_code
def yX12_knowers : MethodName := ⟨RX12, "knowers", "(I)I"⟩
def mX12_knowers : zk_M := (yX12_knowers, cX12_knowers, 4, (some .int))
abbrev cX12_counted : ByteArray := prog_14_method_46_code
def yX12_counted : MethodName := ⟨RX12, "counted", "(II)I"⟩
def mX12_counted : zk_M := (yX12_counted, cX12_counted, 4, (some .int))
abbrev cX12_countedAll : ByteArray := prog_14_method_47_code
def yX12_countedAll : MethodName := ⟨RX12, "countedAll", "(I)I"⟩
def mX12_countedAll : zk_M := (yX12_countedAll, cX12_countedAll, 4, (some .int))
abbrev cX12_couldAll : ByteArray := prog_14_method_48_code
def yX12_couldAll : MethodName := ⟨RX12, "couldAll", "(I)I"⟩
def mX12_couldAll : zk_M := (yX12_couldAll, cX12_couldAll, 4, (some .int))
abbrev cX12_could_ : ByteArray := prog_14_method_49_code
def yX12_could_ : MethodName := ⟨RX12, "could", "(I)I"⟩
def mX12_could_ : zk_M := (yX12_could_, cX12_could_, 2, (some .int))
abbrev cX12_counts : ByteArray := prog_14_method_50_code
def yX12_counts : MethodName := ⟨RX12, "counts", "(I)I"⟩
def mX12_counts : zk_M := (yX12_counts, cX12_counts, 2, (some .int))
abbrev cX12_part : ByteArray := prog_14_method_51_code
def yX12_part : MethodName := ⟨RX12, "part", "(III)J"⟩
def mX12_part : zk_M := (yX12_part, cX12_part, 6, (some .long))
abbrev cX12_likely : ByteArray := prog_14_method_52_code
def yX12_likely : MethodName := ⟨RX12, "likely", "(II)J"⟩
def mX12_likely : zk_M := (yX12_likely, cX12_likely, 3, (some .long))
abbrev cX12_likeliest : ByteArray := prog_14_method_53_code
def yX12_likeliest : MethodName := ⟨RX12, "likeliest", "(I)I"⟩
def mX12_likeliest : zk_M := (yX12_likeliest, cX12_likeliest, 5, (some .int))
abbrev cX12_sure : ByteArray := prog_14_method_54_code
def yX12_sure : MethodName := ⟨RX12, "sure", "(I)I"⟩
def mX12_sure : zk_M := (yX12_sure, cX12_sure, 4, (some .int))
abbrev cX12_likeliest_ : ByteArray := prog_14_method_55_code
def yX12_likeliest_ : MethodName := ⟨RX12, "likeliest", "(II)I"⟩
def mX12_likeliest_ : zk_M := (yX12_likeliest_, cX12_likeliest_, 3, (some .int))
abbrev cX12_allByOne : ByteArray := prog_14_method_56_code
def yX12_allByOne : MethodName := ⟨RX12, "allByOne", "(I)I"⟩
def mX12_allByOne : zk_M := (yX12_allByOne, cX12_allByOne, 4, (some .int))
abbrev cX12_areHands : ByteArray := prog_14_method_57_code
def yX12_areHands : MethodName := ⟨RX12, "areHands", "(II)Z"⟩
def mX12_areHands : zk_M := (yX12_areHands, cX12_areHands, 4, (some .boolean))
abbrev cX12_hands : ByteArray := prog_14_method_58_code
def yX12_hands : MethodName := ⟨RX12, "hands", "(II)I"⟩
def mX12_hands : zk_M := (yX12_hands, cX12_hands, 5, (some .int))
abbrev cX12_unlikes : ByteArray := prog_14_method_59_code
def yX12_unlikes : MethodName := ⟨RX12, "unlikes", "(III)I"⟩
def mX12_unlikes : zk_M := (yX12_unlikes, cX12_unlikes, 6, (some .int))
abbrev cX12_unlike : ByteArray := prog_14_method_60_code
def yX12_unlike : MethodName := ⟨RX12, "unlike", "(I)I"⟩
def mX12_unlike : zk_M := (yX12_unlike, cX12_unlike, 2, (some .int))
abbrev cX12_tellsOn : ByteArray := prog_14_method_61_code
def yX12_tellsOn : MethodName := ⟨RX12, "tellsOn", "(I)V"⟩
def mX12_tellsOn : zk_M := (yX12_tellsOn, cX12_tellsOn, 4, none)
abbrev cX12_evenings : ByteArray := prog_14_method_62_code
def yX12_evenings : MethodName := ⟨RX12, "evenings", "(II)I"⟩
def mX12_evenings : zk_M := (yX12_evenings, cX12_evenings, 3, (some .int))
abbrev cX12_hears : ByteArray := prog_14_method_63_code
def yX12_hears : MethodName := ⟨RX12, "hears", "(II)I"⟩
def mX12_hears : zk_M := (yX12_hears, cX12_hears, 4, (some .int))
abbrev cX12_saysYes : ByteArray := prog_14_method_64_code
def yX12_saysYes : MethodName := ⟨RX12, "saysYes", "(III)Z"⟩
def mX12_saysYes : zk_M := (yX12_saysYes, cX12_saysYes, 4, (some .boolean))
abbrev cX12_greater : ByteArray := prog_14_method_65_code
def yX12_greater : MethodName := ⟨RX12, "greater", "(II)I"⟩
def mX12_greater : zk_M := (yX12_greater, cX12_greater, 5, (some .int))
abbrev cX12_ask : ByteArray := prog_14_method_66_code
def yX12_ask : MethodName := ⟨RX12, "ask", "(II)I"⟩
def mX12_ask : zk_M := (yX12_ask, cX12_ask, 5, (some .int))
abbrev cX12_worthOf : ByteArray := prog_14_method_67_code
def yX12_worthOf : MethodName := ⟨RX12, "worthOf", "(II)I"⟩
def mX12_worthOf : zk_M := (yX12_worthOf, cX12_worthOf, 5, (some .int))
abbrev cX12_worth : ByteArray := prog_14_method_68_code
def yX12_worth : MethodName := ⟨RX12, "worth", "(I)I"⟩
def mX12_worth : zk_M := (yX12_worth, cX12_worth, 2, (some .int))
abbrev cX12_thank : ByteArray := prog_14_method_69_code
def yX12_thank : MethodName := ⟨RX12, "thank", "(I)I"⟩
def mX12_thank : zk_M := (yX12_thank, cX12_thank, 5, (some .int))
abbrev cX12_next : ByteArray := prog_14_method_70_code
def yX12_next : MethodName := ⟨RX12, "next", "(II)I"⟩
def mX12_next : zk_M := (yX12_next, cX12_next, 8, (some .int))
abbrev cX12_writes : ByteArray := prog_14_method_71_code
def yX12_writes : MethodName := ⟨RX12, "writes", "(IIII)V"⟩
def mX12_writes : zk_M := (yX12_writes, cX12_writes, 9, none)
abbrev cX12_write : ByteArray := prog_14_method_72_code
def yX12_write : MethodName := ⟨RX12, "write", "(III)I"⟩
def mX12_write : zk_M := (yX12_write, cX12_write, 4, (some .int))
abbrev cX12_written : ByteArray := prog_14_method_73_code
def yX12_written : MethodName := ⟨RX12, "written", "(III)J"⟩
def mX12_written : zk_M := (yX12_written, cX12_written, 4, (some .long))
abbrev cX12_noRow : ByteArray := prog_14_method_74_code
def yX12_noRow : MethodName := ⟨RX12, "noRow", "(II)I"⟩
def mX12_noRow : zk_M := (yX12_noRow, cX12_noRow, 3, (some .int))
abbrev cX12_toldAt : ByteArray := prog_14_method_75_code
def yX12_toldAt : MethodName := ⟨RX12, "toldAt", "(II)I"⟩
def mX12_toldAt : zk_M := (yX12_toldAt, cX12_toldAt, 3, (some .int))
abbrev cX12_most : ByteArray := prog_14_method_76_code
def yX12_most : MethodName := ⟨RX12, "most", "()I"⟩
def mX12_most : zk_M := (yX12_most, cX12_most, 3, (some .int))
abbrev cX12_lookedFrom : ByteArray := prog_14_method_77_code
def yX12_lookedFrom : MethodName := ⟨RX12, "lookedFrom", "(II)V"⟩
def mX12_lookedFrom : zk_M := (yX12_lookedFrom, cX12_lookedFrom, 4, none)
abbrev cX12_strange : ByteArray := prog_14_method_78_code
def yX12_strange : MethodName := ⟨RX12, "strange", "(I)I"⟩
def mX12_strange : zk_M := (yX12_strange, cX12_strange, 3, (some .int))
abbrev cX12_looks : ByteArray := prog_14_method_79_code
def yX12_looks : MethodName := ⟨RX12, "looks", "(II)I"⟩
def mX12_looks : zk_M := (yX12_looks, cX12_looks, 4, (some .int))
abbrev cX12_since : ByteArray := prog_14_method_80_code
def yX12_since : MethodName := ⟨RX12, "since", "(II)I"⟩
def mX12_since : zk_M := (yX12_since, cX12_since, 4, (some .int))
abbrev cX12_canBe : ByteArray := prog_14_method_81_code
def yX12_canBe : MethodName := ⟨RX12, "canBe", "(II)Z"⟩
def mX12_canBe : zk_M := (yX12_canBe, cX12_canBe, 5, (some .boolean))
abbrev cX12_wrong : ByteArray := prog_14_method_82_code
def yX12_wrong : MethodName := ⟨RX12, "wrong", "(I)I"⟩
def mX12_wrong : zk_M := (yX12_wrong, cX12_wrong, 3, (some .int))
abbrev cX12_judge : ByteArray := prog_14_method_83_code
def yX12_judge : MethodName := ⟨RX12, "judge", "(I)I"⟩
def mX12_judge : zk_M := (yX12_judge, cX12_judge, 3, (some .int))
abbrev cX12_filled : ByteArray := prog_14_method_84_code
def yX12_filled : MethodName := ⟨RX12, "filled", "(II)J"⟩
def mX12_filled : zk_M := (yX12_filled, cX12_filled, 8, (some .long))
abbrev cX12_hope : ByteArray := prog_14_method_85_code
def yX12_hope : MethodName := ⟨RX12, "hope", "(II)I"⟩
def mX12_hope : zk_M := (yX12_hope, cX12_hope, 6, (some .int))
abbrev cX12_drawn : ByteArray := prog_14_method_86_code
def yX12_drawn : MethodName := ⟨RX12, "drawn", "(IIII)I"⟩
def mX12_drawn : zk_M := (yX12_drawn, cX12_drawn, 10, (some .int))
abbrev cX12_pass : ByteArray := prog_14_method_87_code
def yX12_pass : MethodName := ⟨RX12, "pass", "(I)I"⟩
def mX12_pass : zk_M := (yX12_pass, cX12_pass, 2, (some .int))
abbrev cX12_send : ByteArray := prog_14_method_88_code
def yX12_send : MethodName := ⟨RX12, "send", "(II)I"⟩
def mX12_send : zk_M := (yX12_send, cX12_send, 5, (some .int))
abbrev cX12_thanked : ByteArray := prog_14_method_89_code
def yX12_thanked : MethodName := ⟨RX12, "thanked", "(I)I"⟩
def mX12_thanked : zk_M := (yX12_thanked, cX12_thanked, 4, (some .int))
abbrev cX12_led : ByteArray := prog_14_method_90_code
def yX12_led : MethodName := ⟨RX12, "led", "(I)I"⟩
def mX12_led : zk_M := (yX12_led, cX12_led, 2, (some .int))
abbrev cX12_image : ByteArray := prog_14_method_91_code
def yX12_image : MethodName := ⟨RX12, "image", "()I"⟩
def mX12_image : zk_M := (yX12_image, cX12_image, 2, (some .int))
abbrev cX12_back : ByteArray := prog_14_method_92_code
def yX12_back : MethodName := ⟨RX12, "back", "()I"⟩
def mX12_back : zk_M := (yX12_back, cX12_back, 2, (some .int))
abbrev cX12_above : ByteArray := prog_14_method_93_code
def yX12_above : MethodName := ⟨RX12, "above", "(I)I"⟩
def mX12_above : zk_M := (yX12_above, cX12_above, 1, (some .int))
abbrev cX12_ran : ByteArray := prog_14_method_94_code
def yX12_ran : MethodName := ⟨RX12, "ran", "(I)V"⟩
def mX12_ran : zk_M := (yX12_ran, cX12_ran, 2, none)
abbrev cX12_looksBy : ByteArray := prog_14_method_95_code
def yX12_looksBy : MethodName := ⟨RX12, "looksBy", "(III)I"⟩
def mX12_looksBy : zk_M := (yX12_looksBy, cX12_looksBy, 4, (some .int))
abbrev cX12_writesBy : ByteArray := prog_14_method_96_code
def yX12_writesBy : MethodName := ⟨RX12, "writesBy", "(III)I"⟩
def mX12_writesBy : zk_M := (yX12_writesBy, cX12_writesBy, 5, (some .int))
abbrev cX12_hidesBy : ByteArray := prog_14_method_97_code
def yX12_hidesBy : MethodName := ⟨RX12, "hidesBy", "(III)I"⟩
def mX12_hidesBy : zk_M := (yX12_hidesBy, cX12_hidesBy, 5, (some .int))
abbrev cX12_tells_ : ByteArray := prog_14_method_98_code
def yX12_tells_ : MethodName := ⟨RX12, "tells", "(III)I"⟩
def mX12_tells_ : zk_M := (yX12_tells_, cX12_tells_, 5, (some .int))
abbrev cX12_body : ByteArray := prog_14_method_99_code
def yX12_body : MethodName := ⟨RX12, "body", "(I)I"⟩
def mX12_body : zk_M := (yX12_body, cX12_body, 2, (some .int))
abbrev cX12_act : ByteArray := prog_14_method_100_code
def yX12_act : MethodName := ⟨RX12, "act", "(III)I"⟩
def mX12_act : zk_M := (yX12_act, cX12_act, 5, (some .int))
abbrev cX12_trace : ByteArray := prog_14_method_101_code
def yX12_trace : MethodName := ⟨RX12, "trace", "(I)I"⟩
def mX12_trace : zk_M := (yX12_trace, cX12_trace, 2, (some .int))
abbrev cX12_keep : ByteArray := prog_14_method_102_code
def yX12_keep : MethodName := ⟨RX12, "keep", "(II)I"⟩
def mX12_keep : zk_M := (yX12_keep, cX12_keep, 3, (some .int))
abbrev cX12_row : ByteArray := prog_14_method_103_code
def yX12_row : MethodName := ⟨RX12, "row", "(III)I"⟩
def mX12_row : zk_M := (yX12_row, cX12_row, 5, (some .int))
abbrev cX12_isRow : ByteArray := prog_14_method_104_code
def yX12_isRow : MethodName := ⟨RX12, "isRow", "(I)Z"⟩
def mX12_isRow : zk_M := (yX12_isRow, cX12_isRow, 2, (some .boolean))
abbrev cX12_kept : ByteArray := prog_14_method_105_code
def yX12_kept : MethodName := ⟨RX12, "kept", "(IJ)J"⟩
def mX12_kept : zk_M := (yX12_kept, cX12_kept, 3, (some .long))
abbrev cX12_put : ByteArray := prog_14_method_106_code
def yX12_put : MethodName := ⟨RX12, "put", "(IIJ)I"⟩
def mX12_put : zk_M := (yX12_put, cX12_put, 5, (some .int))
abbrev cX12_element : ByteArray := prog_14_method_107_code
def yX12_element : MethodName := ⟨RX12, "element", "(II)J"⟩
def mX12_element : zk_M := (yX12_element, cX12_element, 3, (some .long))
abbrev cX12_shift : ByteArray := prog_14_method_108_code
def yX12_shift : MethodName := ⟨RX12, "shift", "(IIIII)I"⟩
def mX12_shift : zk_M := (yX12_shift, cX12_shift, 7, (some .int))
abbrev cX12_taken : ByteArray := prog_14_method_109_code
def yX12_taken : MethodName := ⟨RX12, "taken", "(II)I"⟩
def mX12_taken : zk_M := (yX12_taken, cX12_taken, 5, (some .int))
abbrev cX12_count : ByteArray := prog_14_method_110_code
def yX12_count : MethodName := ⟨RX12, "count", "(I)I"⟩
def mX12_count : zk_M := (yX12_count, cX12_count, 2, (some .int))
abbrev cJ6_bitCount_0f7a4 : ByteArray := prog_16_method_49_code
def yJ6_bitCount_0f7a4 : MethodName := ⟨RJ6, "bitCount", "(I)I"⟩
def mJ6_bitCount_0f7a4 : zk_M := (yJ6_bitCount_0f7a4, cJ6_bitCount_0f7a4, 1, (some .int))
abbrev cJ0_length_8abf5 : ByteArray := prog_18_method_54_code
def yJ0_length_8abf5 : MethodName := ⟨RJ0, "length", "()I"⟩
def mJ0_length_8abf5 : zk_M := (yJ0_length_8abf5, cJ0_length_8abf5, 1, (some .int))
abbrev cJ0_indexOf_0f7a4 : ByteArray := prog_18_method_79_code
def yJ0_indexOf_0f7a4 : MethodName := ⟨RJ0, "indexOf", "(I)I"⟩
def mJ0_indexOf_0f7a4 : zk_M := (yJ0_indexOf_0f7a4, cJ0_indexOf_0f7a4, 2, (some .int))
abbrev cJ0_indexOf_7cf53 : ByteArray := prog_18_method_80_code
def yJ0_indexOf_7cf53 : MethodName := ⟨RJ0, "indexOf", "(II)I"⟩
def mJ0_indexOf_7cf53 : zk_M := (yJ0_indexOf_7cf53, cJ0_indexOf_7cf53, 3, (some .int))
abbrev cJ0_coder_7d493 : ByteArray := prog_18_method_152_code
def yJ0_coder_7d493 : MethodName := ⟨RJ0, "coder", "()B"⟩
def mJ0_coder_7d493 : zk_M := (yJ0_coder_7d493, cJ0_coder_7d493, 1, (some .byte))
abbrev cJ0_isLatin1_aae02 : ByteArray := prog_18_method_154_code
def yJ0_isLatin1_aae02 : MethodName := ⟨RJ0, "isLatin1", "()Z"⟩
def mJ0_isLatin1_aae02 : zk_M := (yJ0_isLatin1_aae02, cJ0_isLatin1_aae02, 1, (some .boolean))
abbrev cJ1_canEncode_9a6ad : ByteArray := prog_19_method_4_code
def yJ1_canEncode_9a6ad : MethodName := ⟨RJ1, "canEncode", "(I)Z"⟩
def mJ1_canEncode_9a6ad : zk_M := (yJ1_canEncode_9a6ad, cJ1_canEncode_9a6ad, 1, (some .boolean))
abbrev cJ1_indexOf_4cfef : ByteArray := prog_19_method_22_code
def yJ1_indexOf_4cfef : MethodName := ⟨RJ1, "indexOf", "([BIII)I"⟩
def mJ1_indexOf_4cfef : zk_M := (yJ1_indexOf_4cfef, cJ1_indexOf_4cfef, 4, (some .int))
abbrev cJ1_indexOfChar_4cfef : ByteArray := prog_19_method_23_code
def yJ1_indexOfChar_4cfef : MethodName := ⟨RJ1, "indexOfChar", "([BIII)I"⟩
def mJ1_indexOfChar_4cfef : zk_M := (yJ1_indexOfChar_4cfef, cJ1_indexOfChar_4cfef, 6, (some .int))
abbrev cJ7_fill_d0a16 : ByteArray := prog_22_method_101_code
def yJ7_fill_d0a16 : MethodName := ⟨RJ7, "fill", "([JJ)V"⟩
def mJ7_fill_d0a16 : zk_M := (yJ7_fill_d0a16, cJ7_fill_d0a16, 5, none)
abbrev cJ7_fill_53178 : ByteArray := prog_22_method_103_code
def yJ7_fill_53178 : MethodName := ⟨RJ7, "fill", "([II)V"⟩
def mJ7_fill_53178 : zk_M := (yJ7_fill_53178, cJ7_fill_53178, 4, none)
theorem zk_in_r (ws : List Cond) (ps : List Nat) (hp : ws = ps.filterMap (fun i => lw_tbl[i]?)) (h : ws.all goodWord = true) : ∀ w ∈ ws, w ∈ zk_uw := fun w hw => by
  have h1 := List.all_eq_true.mp h w hw
  rw [hp] at hw
  obtain ⟨i, -, hi⟩ := List.mem_filterMap.mp hw
  exact zk_uw_in (List.mem_of_getElem? hi) h1
theorem zk_mtV {q : zk_M × Nat × Nat} (ps : List Nat) (h : ([.code q.1.1 q.1.2.1 q.1.2.2.1 q.1.2.2.2, .initialized q.1.1.cls, .instanceMethod q.1.1, .selects q.1.1.cls q.1.1 q.1.1] : List Cond) = ps.filterMap (fun i => lw_tbl[i]?)) (hg : ([.code q.1.1 q.1.2.1 q.1.2.2.1 q.1.2.2.2, .initialized q.1.1.cls, .instanceMethod q.1.1, .selects q.1.1.cls q.1.1 q.1.1] : List Cond).all goodWord = true) (hd : plainName q.1.1.cls = true ∧ q.1.1.cls ≠ "java/lang/invoke/MethodHandle" ∧ q.1.1.cls ≠ "java/lang/invoke/VarHandle" ∧ (parseMethodDescriptor q.1.1.desc).map (fun d => d.parameters.length) = some q.2.1 ∧ q.1.2.2.1 ≤ 20) (hr : (q.2.2 = 100 ∧ q.1.1.cls = "java/lang/String") ∨ (q.2.2 < 100 ∧ ∃ r, zk_cl[q.2.2]? = some r ∧ r.1 = q.1.1.cls)) : zk_mtOk q := by
  have hw := zk_in_r _ ps h hg
  refine ⟨hw _ (by simp), hw _ (by simp), hd, ?_⟩
  rcases hr with hr | hr
  · exact Or.inr (Or.inl ⟨hr.1, ⟨hw _ (by simp), hw _ (by simp)⟩, hr.2⟩)
  · exact Or.inr (Or.inr ⟨hr.1, ⟨hw _ (by simp), hw _ (by simp)⟩, hr.2⟩)
theorem zk_mtS {q : zk_M × Nat × Nat} (ps : List Nat) (h : ([.code q.1.1 q.1.2.1 q.1.2.2.1 q.1.2.2.2, .initialized q.1.1.cls, .static q.1.1] : List Cond) = ps.filterMap (fun i => lw_tbl[i]?)) (hg : ([.code q.1.1 q.1.2.1 q.1.2.2.1 q.1.2.2.2, .initialized q.1.1.cls, .static q.1.1] : List Cond).all goodWord = true) (hd : plainName q.1.1.cls = true ∧ q.1.1.cls ≠ "java/lang/invoke/MethodHandle" ∧ q.1.1.cls ≠ "java/lang/invoke/VarHandle" ∧ (parseMethodDescriptor q.1.1.desc).map (fun d => d.parameters.length) = some q.2.1 ∧ q.1.2.2.1 ≤ 20) (hr : q.2.2 = 200) : zk_mtOk q := by
  have hw := zk_in_r _ ps h hg
  exact ⟨hw _ (by simp), hw _ (by simp), hd, Or.inl ⟨hr, hw _ (by simp)⟩⟩
theorem oX0_isKind : zk_mtOk (mX0_isKind, 1, 0) := zk_mtV [1113, 100, 1111, 1112] (by decide +kernel) (by decide +kernel) (by decide +kernel) (Or.inr ⟨by decide, _, rfl, rfl⟩)
theorem oX0_isBody : zk_mtOk (mX0_isBody, 1, 0) := zk_mtV [1129, 100, 1127, 1128] (by decide +kernel) (by decide +kernel) (by decide +kernel) (Or.inr ⟨by decide, _, rfl, rfl⟩)
theorem oX0_add : zk_mtOk (mX0_add, 1, 0) := zk_mtV [1117, 100, 1115, 1116] (by decide +kernel) (by decide +kernel) (by decide +kernel) (Or.inr ⟨by decide, _, rfl, rfl⟩)
theorem oX0_isUnder : zk_mtOk (mX0_isUnder, 2, 0) := zk_mtV [1211, 100, 1209, 1210] (by decide +kernel) (by decide +kernel) (by decide +kernel) (Or.inr ⟨by decide, _, rfl, rfl⟩)
theorem oX0_traced : zk_mtOk (mX0_traced, 0, 0) := zk_mtV [1157, 100, 1155, 1156] (by decide +kernel) (by decide +kernel) (by decide +kernel) (Or.inr ⟨by decide, _, rfl, rfl⟩)
theorem oX0_perform : zk_mtOk (mX0_perform, 3, 0) := zk_mtV [1125, 100, 1123, 1124] (by decide +kernel) (by decide +kernel) (by decide +kernel) (Or.inr ⟨by decide, _, rfl, rfl⟩)
theorem oX0_own : zk_mtOk (mX0_own, 3, 0) := zk_mtV [1133, 100, 1132, 33] (by decide +kernel) (by decide +kernel) (by decide +kernel) (Or.inr ⟨by decide, _, rfl, rfl⟩)
theorem oX0_above : zk_mtOk (mX0_above, 4, 0) := zk_mtV [1149, 100, 1148, 36] (by decide +kernel) (by decide +kernel) (by decide +kernel) (Or.inr ⟨by decide, _, rfl, rfl⟩)
theorem oX0_bodyFrom : zk_mtOk (mX0_bodyFrom, 2, 0) := zk_mtV [1137, 100, 1136, 34] (by decide +kernel) (by decide +kernel) (by decide +kernel) (Or.inr ⟨by decide, _, rfl, rfl⟩)
theorem oX0_run : zk_mtOk (mX0_run, 3, 0) := zk_mtV [1145, 100, 1144, 35] (by decide +kernel) (by decide +kernel) (by decide +kernel) (Or.inr ⟨by decide, _, rfl, rfl⟩)
theorem oX1_make : zk_mtOk (mX1_make, 3, 1) := zk_mtV [536, 92, 534, 535] (by decide +kernel) (by decide +kernel) (by decide +kernel) (Or.inr ⟨by decide, _, rfl, rfl⟩)
theorem oX1_takeBack : zk_mtOk (mX1_takeBack, 0, 1) := zk_mtV [1097, 92, 1095, 1096] (by decide +kernel) (by decide +kernel) (by decide +kernel) (Or.inr ⟨by decide, _, rfl, rfl⟩)
theorem oX1_makeAgain : zk_mtOk (mX1_makeAgain, 0, 1) := zk_mtV [1105, 92, 1103, 1104] (by decide +kernel) (by decide +kernel) (by decide +kernel) (Or.inr ⟨by decide, _, rfl, rfl⟩)
theorem oX1_dropOldest : zk_mtOk (mX1_dropOldest, 0, 1) := zk_mtV [540, 92, 539, 2] (by decide +kernel) (by decide +kernel) (by decide +kernel) (Or.inr ⟨by decide, _, rfl, rfl⟩)
theorem oX2_letMinutesPass : zk_mtOk (mX2_letMinutesPass, 1, 2) := zk_mtV [1046, 99, 1044, 1045] (by decide +kernel) (by decide +kernel) (by decide +kernel) (Or.inr ⟨by decide, _, rfl, rfl⟩)
theorem oX2_sendCard : zk_mtOk (mX2_sendCard, 3, 2) := zk_mtV [1055, 99, 1053, 1054] (by decide +kernel) (by decide +kernel) (by decide +kernel) (Or.inr ⟨by decide, _, rfl, rfl⟩)
theorem oX2_mayBeThanked : zk_mtOk (mX2_mayBeThanked, 1, 2) := zk_mtV [1064, 99, 1062, 1063] (by decide +kernel) (by decide +kernel) (by decide +kernel) (Or.inr ⟨by decide, _, rfl, rfl⟩)
theorem oX2_thankOne : zk_mtOk (mX2_thankOne, 2, 2) := zk_mtV [1068, 99, 1066, 1067] (by decide +kernel) (by decide +kernel) (by decide +kernel) (Or.inr ⟨by decide, _, rfl, rfl⟩)
theorem oX2_keepImage : zk_mtOk (mX2_keepImage, 0, 2) := zk_mtV [1080, 99, 1078, 1079] (by decide +kernel) (by decide +kernel) (by decide +kernel) (Or.inr ⟨by decide, _, rfl, rfl⟩)
theorem oX2_layImageBack : zk_mtOk (mX2_layImageBack, 0, 2) := zk_mtV [1089, 99, 1087, 1088] (by decide +kernel) (by decide +kernel) (by decide +kernel) (Or.inr ⟨by decide, _, rfl, rfl⟩)
theorem oX3_adopt : zk_mtOk (mX3_adopt, 2, 3) := zk_mtV [697, 94, 695, 696] (by decide +kernel) (by decide +kernel) (by decide +kernel) (Or.inr ⟨by decide, _, rfl, rfl⟩)
theorem oX3_isTold : zk_mtOk (mX3_isTold, 0, 3) := zk_mtV [767, 94, 765, 766] (by decide +kernel) (by decide +kernel) (by decide +kernel) (Or.inr ⟨by decide, _, rfl, rfl⟩)
theorem oX3_valueFor : zk_mtOk (mX3_valueFor, 1, 3) := zk_mtV [771, 94, 769, 770] (by decide +kernel) (by decide +kernel) (by decide +kernel) (Or.inr ⟨by decide, _, rfl, rfl⟩)
theorem oX3_operandsOf : zk_mtOk (mX3_operandsOf, 1, 3) := zk_mtV [775, 94, 774, 19] (by decide +kernel) (by decide +kernel) (by decide +kernel) (Or.inr ⟨by decide, _, rfl, rfl⟩)
theorem oX3_worked : zk_mtOk (mX3_worked, 3, 3) := zk_mtV [780, 94, 779, 20] (by decide +kernel) (by decide +kernel) (by decide +kernel) (Or.inr ⟨by decide, _, rfl, rfl⟩)
theorem oX4_isPerson : zk_mtOk (mX4_isPerson, 1, 4) := zk_mtV [506, 90, 504, 505] (by decide +kernel) (by decide +kernel) (by decide +kernel) (Or.inr ⟨by decide, _, rfl, rfl⟩)
theorem oX4_isCard : zk_mtOk (mX4_isCard, 1, 4) := zk_mtV [531, 90, 529, 530] (by decide +kernel) (by decide +kernel) (by decide +kernel) (Or.inr ⟨by decide, _, rfl, rfl⟩)
theorem oX4_isSecret : zk_mtOk (mX4_isSecret, 1, 4) := zk_mtV [865, 90, 863, 864] (by decide +kernel) (by decide +kernel) (by decide +kernel) (Or.inr ⟨by decide, _, rfl, rfl⟩)
theorem oX4_isSet : zk_mtOk (mX4_isSet, 1, 4) := zk_mtV [826, 90, 824, 825] (by decide +kernel) (by decide +kernel) (by decide +kernel) (Or.inr ⟨by decide, _, rfl, rfl⟩)
theorem oX4_isCardAndPerson : zk_mtOk (mX4_isCardAndPerson, 1, 4) := zk_mtV [739, 90, 737, 738] (by decide +kernel) (by decide +kernel) (by decide +kernel) (Or.inr ⟨by decide, _, rfl, rfl⟩)
theorem oX4_isTwoPeople : zk_mtOk (mX4_isTwoPeople, 1, 4) := zk_mtV [936, 90, 934, 935] (by decide +kernel) (by decide +kernel) (by decide +kernel) (Or.inr ⟨by decide, _, rfl, rfl⟩)
theorem oX4_isWay : zk_mtOk (mX4_isWay, 1, 4) := zk_mtV [510, 90, 508, 509] (by decide +kernel) (by decide +kernel) (by decide +kernel) (Or.inr ⟨by decide, _, rfl, rfl⟩)
theorem oX4_has : zk_mtOk (mX4_has, 2, 4) := zk_mtV [526, 90, 524, 525] (by decide +kernel) (by decide +kernel) (by decide +kernel) (Or.inr ⟨by decide, _, rfl, rfl⟩)
theorem oX4_fits : zk_mtOk (mX4_fits, 2, 4) := zk_mtV [468, 90, 466, 467] (by decide +kernel) (by decide +kernel) (by decide +kernel) (Or.inr ⟨by decide, _, rfl, rfl⟩)
theorem oX4_addPerson : zk_mtOk (mX4_addPerson, 3, 4) := zk_mtV [476, 90, 474, 475] (by decide +kernel) (by decide +kernel) (by decide +kernel) (Or.inr ⟨by decide, _, rfl, rfl⟩)
theorem oX4_addCard : zk_mtOk (mX4_addCard, 3, 4) := zk_mtV [514, 90, 512, 513] (by decide +kernel) (by decide +kernel) (by decide +kernel) (Or.inr ⟨by decide, _, rfl, rfl⟩)
theorem oX4_layCard : zk_mtOk (mX4_layCard, 3, 4) := zk_mtV [518, 90, 516, 517] (by decide +kernel) (by decide +kernel) (by decide +kernel) (Or.inr ⟨by decide, _, rfl, rfl⟩)
theorem oX4_likes : zk_mtOk (mX4_likes, 2, 4) := zk_mtV [759, 90, 757, 758] (by decide +kernel) (by decide +kernel) (by decide +kernel) (Or.inr ⟨by decide, _, rfl, rfl⟩)
theorem oX4_knows : zk_mtOk (mX4_knows, 2, 4) := zk_mtV [723, 90, 721, 722] (by decide +kernel) (by decide +kernel) (by decide +kernel) (Or.inr ⟨by decide, _, rfl, rfl⟩)
theorem oX4_isIn : zk_mtOk (mX4_isIn, 2, 4) := zk_mtV [731, 90, 729, 730] (by decide +kernel) (by decide +kernel) (by decide +kernel) (Or.inr ⟨by decide, _, rfl, rfl⟩)
theorem oX4_canWriteSo : zk_mtOk (mX4_canWriteSo, 3, 4) := zk_mtV [944, 90, 942, 943] (by decide +kernel) (by decide +kernel) (by decide +kernel) (Or.inr ⟨by decide, _, rfl, rfl⟩)
theorem oX4_whoCould : zk_mtOk (mX4_whoCould, 1, 4) := zk_mtV [707, 90, 705, 706] (by decide +kernel) (by decide +kernel) (by decide +kernel) (Or.inr ⟨by decide, _, rfl, rfl⟩)
theorem oX4_whoCouldWithSecret : zk_mtOk (mX4_whoCouldWithSecret, 2, 4) := zk_mtV [711, 90, 709, 710] (by decide +kernel) (by decide +kernel) (by decide +kernel) (Or.inr ⟨by decide, _, rfl, rfl⟩)
theorem oX4_everybody : zk_mtOk (mX4_everybody, 0, 4) := zk_mtV [715, 90, 713, 714] (by decide +kernel) (by decide +kernel) (by decide +kernel) (Or.inr ⟨by decide, _, rfl, rfl⟩)
theorem oX4_whoIsIn : zk_mtOk (mX4_whoIsIn, 1, 4) := zk_mtV [727, 90, 726, 16] (by decide +kernel) (by decide +kernel) (by decide +kernel) (Or.inr ⟨by decide, _, rfl, rfl⟩)
theorem oX4_whoKnows : zk_mtOk (mX4_whoKnows, 1, 4) := zk_mtV [719, 90, 717, 718] (by decide +kernel) (by decide +kernel) (by decide +kernel) (Or.inr ⟨by decide, _, rfl, rfl⟩)
theorem oX4_whoKnowsAfter : zk_mtOk (mX4_whoKnowsAfter, 2, 4) := zk_mtV [869, 90, 867, 868] (by decide +kernel) (by decide +kernel) (by decide +kernel) (Or.inr ⟨by decide, _, rfl, rfl⟩)
theorem oX4_eveningOfHearing : zk_mtOk (mX4_eveningOfHearing, 2, 4) := zk_mtV [881, 90, 879, 880] (by decide +kernel) (by decide +kernel) (by decide +kernel) (Or.inr ⟨by decide, _, rfl, rfl⟩)
theorem oX4_toldOn : zk_mtOk (mX4_toldOn, 1, 4) := zk_mtV [873, 90, 872, 25] (by decide +kernel) (by decide +kernel) (by decide +kernel) (Or.inr ⟨by decide, _, rfl, rfl⟩)
theorem oX5_takeLetter : zk_mtOk (mX5_takeLetter, 1, 5) := zk_mtV [555, 93, 553, 554] (by decide +kernel) (by decide +kernel) (by decide +kernel) (Or.inr ⟨by decide, _, rfl, rfl⟩)
theorem oX5_parseTape : zk_mtOk (mX5_parseTape, 0, 5) := zk_mtV [563, 93, 561, 562] (by decide +kernel) (by decide +kernel) (by decide +kernel) (Or.inr ⟨by decide, _, rfl, rfl⟩)
theorem oX5_begin : zk_mtOk (mX5_begin, 0, 5) := zk_mtV [567, 93, 566, 3] (by decide +kernel) (by decide +kernel) (by decide +kernel) (Or.inr ⟨by decide, _, rfl, rfl⟩)
theorem oX5_takes : zk_mtOk (mX5_takes, 1, 5) := zk_mtV [571, 93, 570, 4] (by decide +kernel) (by decide +kernel) (by decide +kernel) (Or.inr ⟨by decide, _, rfl, rfl⟩)
theorem oX5_beginsNumber : zk_mtOk (mX5_beginsNumber, 1, 5) := zk_mtV [611, 93, 610, 14] (by decide +kernel) (by decide +kernel) (by decide +kernel) (Or.inr ⟨by decide, _, rfl, rfl⟩)
theorem oX5_takesAsOperand : zk_mtOk (mX5_takesAsOperand, 1, 5) := zk_mtV [615, 93, 614, 15] (by decide +kernel) (by decide +kernel) (by decide +kernel) (Or.inr ⟨by decide, _, rfl, rfl⟩)
theorem oX5_takesBehindOperand : zk_mtOk (mX5_takesBehindOperand, 1, 5) := zk_mtV [575, 93, 574, 5] (by decide +kernel) (by decide +kernel) (by decide +kernel) (Or.inr ⟨by decide, _, rfl, rfl⟩)
theorem oX5_closesBracket : zk_mtOk (mX5_closesBracket, 0, 5) := zk_mtV [579, 93, 578, 6] (by decide +kernel) (by decide +kernel) (by decide +kernel) (Or.inr ⟨by decide, _, rfl, rfl⟩)
theorem oX5_endsExpression : zk_mtOk (mX5_endsExpression, 2, 5) := zk_mtV [599, 93, 598, 11] (by decide +kernel) (by decide +kernel) (by decide +kernel) (Or.inr ⟨by decide, _, rfl, rfl⟩)
theorem oX5_takesBetween : zk_mtOk (mX5_takesBetween, 1, 5) := zk_mtV [603, 93, 602, 12] (by decide +kernel) (by decide +kernel) (by decide +kernel) (Or.inr ⟨by decide, _, rfl, rfl⟩)
theorem oX5_endOperand : zk_mtOk (mX5_endOperand, 0, 5) := zk_mtV [595, 93, 594, 10] (by decide +kernel) (by decide +kernel) (by decide +kernel) (Or.inr ⟨by decide, _, rfl, rfl⟩)
theorem oX5_emitWaiting : zk_mtOk (mX5_emitWaiting, 1, 5) := zk_mtV [583, 93, 582, 7] (by decide +kernel) (by decide +kernel) (by decide +kernel) (Or.inr ⟨by decide, _, rfl, rfl⟩)
theorem oX5_rankOf : zk_mtOk (mX5_rankOf, 1, 5) := zk_mtV [587, 93, 586, 8] (by decide +kernel) (by decide +kernel) (by decide +kernel) (Or.inr ⟨by decide, _, rfl, rfl⟩)
theorem oX5_await : zk_mtOk (mX5_await, 1, 5) := zk_mtV [607, 93, 606, 13] (by decide +kernel) (by decide +kernel) (by decide +kernel) (Or.inr ⟨by decide, _, rfl, rfl⟩)
theorem oX5_emit : zk_mtOk (mX5_emit, 1, 5) := zk_mtV [591, 93, 590, 9] (by decide +kernel) (by decide +kernel) (by decide +kernel) (Or.inr ⟨by decide, _, rfl, rfl⟩)
theorem oX6_bestQuestion : zk_mtOk (mX6_bestQuestion, 2, 6) := zk_mtV [889, 97, 887, 888] (by decide +kernel) (by decide +kernel) (by decide +kernel) (Or.inr ⟨by decide, _, rfl, rfl⟩)
theorem oX6_sumOfYes : zk_mtOk (mX6_sumOfYes, 2, 6) := zk_mtV [894, 97, 893, 26] (by decide +kernel) (by decide +kernel) (by decide +kernel) (Or.inr ⟨by decide, _, rfl, rfl⟩)
theorem oX6_saysYes : zk_mtOk (mX6_saysYes, 3, 6) := zk_mtV [898, 97, 897, 27] (by decide +kernel) (by decide +kernel) (by decide +kernel) (Or.inr ⟨by decide, _, rfl, rfl⟩)
theorem oX6_worthOfThanking : zk_mtOk (mX6_worthOfThanking, 2, 6) := zk_mtV [909, 97, 907, 908] (by decide +kernel) (by decide +kernel) (by decide +kernel) (Or.inr ⟨by decide, _, rfl, rfl⟩)
theorem oX6_whomToThank : zk_mtOk (mX6_whomToThank, 1, 6) := zk_mtV [917, 97, 915, 916] (by decide +kernel) (by decide +kernel) (by decide +kernel) (Or.inr ⟨by decide, _, rfl, rfl⟩)
theorem oX6_tellingSecret : zk_mtOk (mX6_tellingSecret, 2, 6) := zk_mtV [926, 97, 924, 925] (by decide +kernel) (by decide +kernel) (by decide +kernel) (Or.inr ⟨by decide, _, rfl, rfl⟩)
theorem oX6_seekWay : zk_mtOk (mX6_seekWay, 4, 6) := zk_mtV [940, 97, 938, 939] (by decide +kernel) (by decide +kernel) (by decide +kernel) (Or.inr ⟨by decide, _, rfl, rfl⟩)
theorem oX6_weighWay : zk_mtOk (mX6_weighWay, 3, 6) := zk_mtV [949, 97, 948, 28] (by decide +kernel) (by decide +kernel) (by decide +kernel) (Or.inr ⟨by decide, _, rfl, rfl⟩)
theorem oX6_hopeOfReceiver : zk_mtOk (mX6_hopeOfReceiver, 2, 6) := zk_mtV [1021, 97, 1019, 1020] (by decide +kernel) (by decide +kernel) (by decide +kernel) (Or.inr ⟨by decide, _, rfl, rfl⟩)
theorem oX6_timesDrawn : zk_mtOk (mX6_timesDrawn, 4, 6) := zk_mtV [1032, 97, 1030, 1031] (by decide +kernel) (by decide +kernel) (by decide +kernel) (Or.inr ⟨by decide, _, rfl, rfl⟩)
theorem oX6_whoIsAt : zk_mtOk (mX6_whoIsAt, 1, 6) := zk_mtV [1038, 97, 1037, 32] (by decide +kernel) (by decide +kernel) (by decide +kernel) (Or.inr ⟨by decide, _, rfl, rfl⟩)
theorem oX7_peopleCome : zk_mtOk (mX7_peopleCome, 3, 7) := zk_mtV [492, 98, 490, 491] (by decide +kernel) (by decide +kernel) (by decide +kernel) (Or.inr ⟨by decide, _, rfl, rfl⟩)
theorem oX7_comesFrom : zk_mtOk (mX7_comesFrom, 2, 7) := zk_mtV [496, 98, 495, 1] (by decide +kernel) (by decide +kernel) (by decide +kernel) (Or.inr ⟨by decide, _, rfl, rfl⟩)
theorem oX7_firstLookFromOutside : zk_mtOk (mX7_firstLookFromOutside, 1, 7) := zk_mtV [966, 98, 964, 965] (by decide +kernel) (by decide +kernel) (by decide +kernel) (Or.inr ⟨by decide, _, rfl, rfl⟩)
theorem oX7_tallyLooks : zk_mtOk (mX7_tallyLooks, 2, 7) := zk_mtV [972, 98, 970, 971] (by decide +kernel) (by decide +kernel) (by decide +kernel) (Or.inr ⟨by decide, _, rfl, rfl⟩)
theorem oX7_mostTallied : zk_mtOk (mX7_mostTallied, 0, 7) := zk_mtV [977, 98, 975, 976] (by decide +kernel) (by decide +kernel) (by decide +kernel) (Or.inr ⟨by decide, _, rfl, rfl⟩)
theorem oX7_firstWrongLetter : zk_mtOk (mX7_firstWrongLetter, 1, 7) := zk_mtV [989, 98, 987, 988] (by decide +kernel) (by decide +kernel) (by decide +kernel) (Or.inr ⟨by decide, _, rfl, rfl⟩)
theorem oX7_canBe : zk_mtOk (mX7_canBe, 2, 7) := zk_mtV [993, 98, 992, 29] (by decide +kernel) (by decide +kernel) (by decide +kernel) (Or.inr ⟨by decide, _, rfl, rfl⟩)
theorem oX7_lettersFilled : zk_mtOk (mX7_lettersFilled, 2, 7) := zk_mtV [1003, 98, 1001, 1002] (by decide +kernel) (by decide +kernel) (by decide +kernel) (Or.inr ⟨by decide, _, rfl, rfl⟩)
theorem oX7_waysToFill : zk_mtOk (mX7_waysToFill, 2, 7) := zk_mtV [1007, 98, 1006, 30] (by decide +kernel) (by decide +kernel) (by decide +kernel) (Or.inr ⟨by decide, _, rfl, rfl⟩)
theorem oX7_countsTogether : zk_mtOk (mX7_countsTogether, 2, 7) := zk_mtV [1012, 98, 1011, 31] (by decide +kernel) (by decide +kernel) (by decide +kernel) (Or.inr ⟨by decide, _, rfl, rfl⟩)
theorem oX8_holdLook : zk_mtOk (mX8_holdLook, 1, 8) := zk_mtV [1167, 101, 1165, 1166] (by decide +kernel) (by decide +kernel) (by decide +kernel) (Or.inr ⟨by decide, _, rfl, rfl⟩)
theorem oX8_holdRow : zk_mtOk (mX8_holdRow, 2, 8) := zk_mtV [1175, 101, 1173, 1174] (by decide +kernel) (by decide +kernel) (by decide +kernel) (Or.inr ⟨by decide, _, rfl, rfl⟩)
theorem oX8_isRowOf : zk_mtOk (mX8_isRowOf, 1, 8) := zk_mtV [488, 101, 486, 487] (by decide +kernel) (by decide +kernel) (by decide +kernel) (Or.inr ⟨by decide, _, rfl, rfl⟩)
theorem oX8_refusalOfRow : zk_mtOk (mX8_refusalOfRow, 1, 8) := zk_mtV [961, 101, 959, 960] (by decide +kernel) (by decide +kernel) (by decide +kernel) (Or.inr ⟨by decide, _, rfl, rfl⟩)
theorem oX8_refusalOfPlace : zk_mtOk (mX8_refusalOfPlace, 1, 8) := zk_mtV [1186, 101, 1184, 1185] (by decide +kernel) (by decide +kernel) (by decide +kernel) (Or.inr ⟨by decide, _, rfl, rfl⟩)
theorem oX8_hasPlaces : zk_mtOk (mX8_hasPlaces, 2, 8) := zk_mtV [1202, 101, 1200, 1201] (by decide +kernel) (by decide +kernel) (by decide +kernel) (Or.inr ⟨by decide, _, rfl, rfl⟩)
theorem oX8_lowestBits : zk_mtOk (mX8_lowestBits, 1, 8) := zk_mtV [1190, 101, 1188, 1189] (by decide +kernel) (by decide +kernel) (by decide +kernel) (Or.inr ⟨by decide, _, rfl, rfl⟩)
theorem oX10_weigh : zk_mtOk (mX10_weigh, 1, 10) := zk_mtV [743, 95, 741, 742] (by decide +kernel) (by decide +kernel) (by decide +kernel) (Or.inr ⟨by decide, _, rfl, rfl⟩)
theorem oX10_countFor : zk_mtOk (mX10_countFor, 2, 10) := zk_mtV [755, 95, 754, 17] (by decide +kernel) (by decide +kernel) (by decide +kernel) (Or.inr ⟨by decide, _, rfl, rfl⟩)
theorem oX10_likenessOfHand : zk_mtOk (mX10_likenessOfHand, 2, 10) := zk_mtV [763, 95, 762, 18] (by decide +kernel) (by decide +kernel) (by decide +kernel) (Or.inr ⟨by decide, _, rfl, rfl⟩)
theorem oX10_valueWithoutLaw : zk_mtOk (mX10_valueWithoutLaw, 0, 10) := zk_mtV [784, 95, 783, 21] (by decide +kernel) (by decide +kernel) (by decide +kernel) (Or.inr ⟨by decide, _, rfl, rfl⟩)
theorem oX10_likeliestOf : zk_mtOk (mX10_likeliestOf, 2, 10) := zk_mtV [811, 95, 809, 810] (by decide +kernel) (by decide +kernel) (by decide +kernel) (Or.inr ⟨by decide, _, rfl, rfl⟩)
theorem oX10_onlyOne : zk_mtOk (mX10_onlyOne, 1, 10) := zk_mtV [816, 95, 814, 815] (by decide +kernel) (by decide +kernel) (by decide +kernel) (Or.inr ⟨by decide, _, rfl, rfl⟩)
theorem oX10_whoCouldAll : zk_mtOk (mX10_whoCouldAll, 1, 10) := zk_mtV [830, 95, 828, 829] (by decide +kernel) (by decide +kernel) (by decide +kernel) (Or.inr ⟨by decide, _, rfl, rfl⟩)
theorem oX10_fewestHands : zk_mtOk (mX10_fewestHands, 1, 10) := zk_mtV [839, 95, 837, 838] (by decide +kernel) (by decide +kernel) (by decide +kernel) (Or.inr ⟨by decide, _, rfl, rfl⟩)
theorem oX10_couldAllBeBy : zk_mtOk (mX10_couldAllBeBy, 2, 10) := zk_mtV [843, 95, 842, 23] (by decide +kernel) (by decide +kernel) (by decide +kernel) (Or.inr ⟨by decide, _, rfl, rfl⟩)
theorem oX10_waysByUnlike : zk_mtOk (mX10_waysByUnlike, 1, 10) := zk_mtV [852, 95, 850, 851] (by decide +kernel) (by decide +kernel) (by decide +kernel) (Or.inr ⟨by decide, _, rfl, rfl⟩)
theorem oX10_addWriter : zk_mtOk (mX10_addWriter, 1, 10) := zk_mtV [857, 95, 856, 24] (by decide +kernel) (by decide +kernel) (by decide +kernel) (Or.inr ⟨by decide, _, rfl, rfl⟩)
theorem oX10_lowestTerms : zk_mtOk (mX10_lowestTerms, 3, 10) := zk_mtV [798, 95, 796, 797] (by decide +kernel) (by decide +kernel) (by decide +kernel) (Or.inr ⟨by decide, _, rfl, rfl⟩)
theorem oX10_greatestDivisor : zk_mtOk (mX10_greatestDivisor, 2, 10) := zk_mtV [802, 95, 801, 22] (by decide +kernel) (by decide +kernel) (by decide +kernel) (Or.inr ⟨by decide, _, rfl, rfl⟩)
theorem oX11_person : zk_mtOk (mX11_person, 1, 11) := zk_mtV [464, 89, 462, 463] (by decide +kernel) (by decide +kernel) (by decide +kernel) (Or.inr ⟨by decide, _, rfl, rfl⟩)
theorem oX11_people : zk_mtOk (mX11_people, 3, 11) := zk_mtV [480, 89, 478, 479] (by decide +kernel) (by decide +kernel) (by decide +kernel) (Or.inr ⟨by decide, _, rfl, rfl⟩)
theorem oX11_card : zk_mtOk (mX11_card, 2, 11) := zk_mtV [502, 89, 500, 501] (by decide +kernel) (by decide +kernel) (by decide +kernel) (Or.inr ⟨by decide, _, rfl, rfl⟩)
theorem oX11_mend : zk_mtOk (mX11_mend, 3, 11) := zk_mtV [522, 89, 520, 521] (by decide +kernel) (by decide +kernel) (by decide +kernel) (Or.inr ⟨by decide, _, rfl, rfl⟩)
theorem oX11_of : zk_mtOk (mX11_of, 2, 11) := zk_mtV [547, 89, 545, 546] (by decide +kernel) (by decide +kernel) (by decide +kernel) (Or.inr ⟨by decide, _, rfl, rfl⟩)
theorem oX11_feed : zk_mtOk (mX11_feed, 1, 11) := zk_mtV [551, 89, 549, 550] (by decide +kernel) (by decide +kernel) (by decide +kernel) (Or.inr ⟨by decide, _, rfl, rfl⟩)
theorem oX11_law : zk_mtOk (mX11_law, 0, 11) := zk_mtV [559, 89, 557, 558] (by decide +kernel) (by decide +kernel) (by decide +kernel) (Or.inr ⟨by decide, _, rfl, rfl⟩)
theorem oX11_could : zk_mtOk (mX11_could, 1, 11) := zk_mtV [702, 89, 700, 701] (by decide +kernel) (by decide +kernel) (by decide +kernel) (Or.inr ⟨by decide, _, rfl, rfl⟩)
theorem oX11_counts : zk_mtOk (mX11_counts, 1, 11) := zk_mtV [735, 89, 733, 734] (by decide +kernel) (by decide +kernel) (by decide +kernel) (Or.inr ⟨by decide, _, rfl, rfl⟩)
theorem oX11_likely : zk_mtOk (mX11_likely, 2, 11) := zk_mtV [790, 89, 788, 789] (by decide +kernel) (by decide +kernel) (by decide +kernel) (Or.inr ⟨by decide, _, rfl, rfl⟩)
theorem oX11_likeliest : zk_mtOk (mX11_likeliest, 2, 11) := zk_mtV [806, 89, 804, 805] (by decide +kernel) (by decide +kernel) (by decide +kernel) (Or.inr ⟨by decide, _, rfl, rfl⟩)
theorem oX11_allByOne : zk_mtOk (mX11_allByOne, 1, 11) := zk_mtV [822, 89, 820, 821] (by decide +kernel) (by decide +kernel) (by decide +kernel) (Or.inr ⟨by decide, _, rfl, rfl⟩)
theorem oX11_hands : zk_mtOk (mX11_hands, 2, 11) := zk_mtV [835, 89, 833, 834] (by decide +kernel) (by decide +kernel) (by decide +kernel) (Or.inr ⟨by decide, _, rfl, rfl⟩)
theorem oX11_unlike : zk_mtOk (mX11_unlike, 1, 11) := zk_mtV [848, 89, 846, 847] (by decide +kernel) (by decide +kernel) (by decide +kernel) (Or.inr ⟨by decide, _, rfl, rfl⟩)
theorem oX11_evenings : zk_mtOk (mX11_evenings, 2, 11) := zk_mtV [861, 89, 859, 860] (by decide +kernel) (by decide +kernel) (by decide +kernel) (Or.inr ⟨by decide, _, rfl, rfl⟩)
theorem oX11_hears : zk_mtOk (mX11_hears, 2, 11) := zk_mtV [877, 89, 875, 876] (by decide +kernel) (by decide +kernel) (by decide +kernel) (Or.inr ⟨by decide, _, rfl, rfl⟩)
theorem oX11_ask : zk_mtOk (mX11_ask, 2, 11) := zk_mtV [885, 89, 883, 884] (by decide +kernel) (by decide +kernel) (by decide +kernel) (Or.inr ⟨by decide, _, rfl, rfl⟩)
theorem oX11_worth : zk_mtOk (mX11_worth, 1, 11) := zk_mtV [905, 89, 903, 904] (by decide +kernel) (by decide +kernel) (by decide +kernel) (Or.inr ⟨by decide, _, rfl, rfl⟩)
theorem oX11_thank : zk_mtOk (mX11_thank, 1, 11) := zk_mtV [913, 89, 911, 912] (by decide +kernel) (by decide +kernel) (by decide +kernel) (Or.inr ⟨by decide, _, rfl, rfl⟩)
theorem oX11_next : zk_mtOk (mX11_next, 2, 11) := zk_mtV [922, 89, 920, 921] (by decide +kernel) (by decide +kernel) (by decide +kernel) (Or.inr ⟨by decide, _, rfl, rfl⟩)
theorem oX11_write : zk_mtOk (mX11_write, 3, 11) := zk_mtV [932, 89, 930, 931] (by decide +kernel) (by decide +kernel) (by decide +kernel) (Or.inr ⟨by decide, _, rfl, rfl⟩)
theorem oX11_written : zk_mtOk (mX11_written, 3, 11) := zk_mtV [953, 89, 951, 952] (by decide +kernel) (by decide +kernel) (by decide +kernel) (Or.inr ⟨by decide, _, rfl, rfl⟩)
theorem oX11_looks : zk_mtOk (mX11_looks, 2, 11) := zk_mtV [957, 89, 955, 956] (by decide +kernel) (by decide +kernel) (by decide +kernel) (Or.inr ⟨by decide, _, rfl, rfl⟩)
theorem oX11_since : zk_mtOk (mX11_since, 2, 11) := zk_mtV [981, 89, 979, 980] (by decide +kernel) (by decide +kernel) (by decide +kernel) (Or.inr ⟨by decide, _, rfl, rfl⟩)
theorem oX11_judge : zk_mtOk (mX11_judge, 1, 11) := zk_mtV [985, 89, 983, 984] (by decide +kernel) (by decide +kernel) (by decide +kernel) (Or.inr ⟨by decide, _, rfl, rfl⟩)
theorem oX11_filled : zk_mtOk (mX11_filled, 2, 11) := zk_mtV [999, 89, 997, 998] (by decide +kernel) (by decide +kernel) (by decide +kernel) (Or.inr ⟨by decide, _, rfl, rfl⟩)
theorem oX11_hope : zk_mtOk (mX11_hope, 2, 11) := zk_mtV [1017, 89, 1015, 1016] (by decide +kernel) (by decide +kernel) (by decide +kernel) (Or.inr ⟨by decide, _, rfl, rfl⟩)
theorem oX11_drawn : zk_mtOk (mX11_drawn, 4, 11) := zk_mtV [1028, 89, 1026, 1027] (by decide +kernel) (by decide +kernel) (by decide +kernel) (Or.inr ⟨by decide, _, rfl, rfl⟩)
theorem oX11_pass : zk_mtOk (mX11_pass, 1, 11) := zk_mtV [1042, 89, 1040, 1041] (by decide +kernel) (by decide +kernel) (by decide +kernel) (Or.inr ⟨by decide, _, rfl, rfl⟩)
theorem oX11_send : zk_mtOk (mX11_send, 2, 11) := zk_mtV [1050, 89, 1048, 1049] (by decide +kernel) (by decide +kernel) (by decide +kernel) (Or.inr ⟨by decide, _, rfl, rfl⟩)
theorem oX11_thanked : zk_mtOk (mX11_thanked, 1, 11) := zk_mtV [1060, 89, 1058, 1059] (by decide +kernel) (by decide +kernel) (by decide +kernel) (Or.inr ⟨by decide, _, rfl, rfl⟩)
theorem oX11_led : zk_mtOk (mX11_led, 1, 11) := zk_mtV [1072, 89, 1070, 1071] (by decide +kernel) (by decide +kernel) (by decide +kernel) (Or.inr ⟨by decide, _, rfl, rfl⟩)
theorem oX11_image : zk_mtOk (mX11_image, 0, 11) := zk_mtV [1076, 89, 1074, 1075] (by decide +kernel) (by decide +kernel) (by decide +kernel) (Or.inr ⟨by decide, _, rfl, rfl⟩)
theorem oX11_back : zk_mtOk (mX11_back, 0, 11) := zk_mtV [1085, 89, 1083, 1084] (by decide +kernel) (by decide +kernel) (by decide +kernel) (Or.inr ⟨by decide, _, rfl, rfl⟩)
theorem oX11_undo : zk_mtOk (mX11_undo, 0, 11) := zk_mtV [1093, 89, 1091, 1092] (by decide +kernel) (by decide +kernel) (by decide +kernel) (Or.inr ⟨by decide, _, rfl, rfl⟩)
theorem oX11_redo : zk_mtOk (mX11_redo, 0, 11) := zk_mtV [1101, 89, 1099, 1100] (by decide +kernel) (by decide +kernel) (by decide +kernel) (Or.inr ⟨by decide, _, rfl, rfl⟩)
theorem oX11_body : zk_mtOk (mX11_body, 1, 11) := zk_mtV [1109, 89, 1107, 1108] (by decide +kernel) (by decide +kernel) (by decide +kernel) (Or.inr ⟨by decide, _, rfl, rfl⟩)
theorem oX11_act : zk_mtOk (mX11_act, 3, 11) := zk_mtV [1121, 89, 1119, 1120] (by decide +kernel) (by decide +kernel) (by decide +kernel) (Or.inr ⟨by decide, _, rfl, rfl⟩)
theorem oX11_trace : zk_mtOk (mX11_trace, 1, 11) := zk_mtV [1153, 89, 1151, 1152] (by decide +kernel) (by decide +kernel) (by decide +kernel) (Or.inr ⟨by decide, _, rfl, rfl⟩)
theorem oX11_keep : zk_mtOk (mX11_keep, 2, 11) := zk_mtV [1162, 89, 1160, 1161] (by decide +kernel) (by decide +kernel) (by decide +kernel) (Or.inr ⟨by decide, _, rfl, rfl⟩)
theorem oX11_row : zk_mtOk (mX11_row, 3, 11) := zk_mtV [1171, 89, 1169, 1170] (by decide +kernel) (by decide +kernel) (by decide +kernel) (Or.inr ⟨by decide, _, rfl, rfl⟩)
theorem oX11_put : zk_mtOk (mX11_put, 3, 11) := zk_mtV [1182, 89, 1180, 1181] (by decide +kernel) (by decide +kernel) (by decide +kernel) (Or.inr ⟨by decide, _, rfl, rfl⟩)
theorem oX11_element : zk_mtOk (mX11_element, 2, 11) := zk_mtV [1194, 89, 1192, 1193] (by decide +kernel) (by decide +kernel) (by decide +kernel) (Or.inr ⟨by decide, _, rfl, rfl⟩)
theorem oX11_shift : zk_mtOk (mX11_shift, 5, 11) := zk_mtV [1198, 89, 1196, 1197] (by decide +kernel) (by decide +kernel) (by decide +kernel) (Or.inr ⟨by decide, _, rfl, rfl⟩)
theorem oX11_taken : zk_mtOk (mX11_taken, 2, 11) := zk_mtV [1207, 89, 1205, 1206] (by decide +kernel) (by decide +kernel) (by decide +kernel) (Or.inr ⟨by decide, _, rfl, rfl⟩)
theorem oX11_count : zk_mtOk (mX11_count, 1, 11) := zk_mtV [1215, 89, 1213, 1214] (by decide +kernel) (by decide +kernel) (by decide +kernel) (Or.inr ⟨by decide, _, rfl, rfl⟩)
theorem oX11_shelfAt : zk_mtOk (mX11_shelfAt, 1, 11) := zk_mtV [484, 89, 483, 0] (by decide +kernel) (by decide +kernel) (by decide +kernel) (Or.inr ⟨by decide, _, rfl, rfl⟩)
theorem oX11_isZeroOrOne : zk_mtOk (mX11_isZeroOrOne, 1, 200) := zk_mtS [793, 89, 792] (by decide +kernel) (by decide +kernel) (by decide +kernel) rfl
theorem oX12_within : zk_mtOk (mX12_within, 3, 200) := zk_mtS [1397, 102, 1396] (by decide +kernel) (by decide +kernel) (by decide +kernel) rfl
theorem oX12_isOne : zk_mtOk (mX12_isOne, 1, 12) := zk_mtV [1417, 102, 1416, 38] (by decide +kernel) (by decide +kernel) (by decide +kernel) (Or.inr ⟨by decide, _, rfl, rfl⟩)
theorem oX12_isCard : zk_mtOk (mX12_isCard, 1, 12) := zk_mtV [1440, 102, 1439, 42] (by decide +kernel) (by decide +kernel) (by decide +kernel) (Or.inr ⟨by decide, _, rfl, rfl⟩)
theorem oX12_isCardOf : zk_mtOk (mX12_isCardOf, 1, 12) := zk_mtV [1549, 102, 1548, 59] (by decide +kernel) (by decide +kernel) (by decide +kernel) (Or.inr ⟨by decide, _, rfl, rfl⟩)
theorem oX12_areTwo : zk_mtOk (mX12_areTwo, 1, 12) := zk_mtV [1666, 102, 1665, 73] (by decide +kernel) (by decide +kernel) (by decide +kernel) (Or.inr ⟨by decide, _, rfl, rfl⟩)
theorem oX12_areCards : zk_mtOk (mX12_areCards, 1, 12) := zk_mtV [1598, 102, 1597, 66] (by decide +kernel) (by decide +kernel) (by decide +kernel) (Or.inr ⟨by decide, _, rfl, rfl⟩)
theorem oX12_isMinute : zk_mtOk (mX12_isMinute, 1, 200) := zk_mtS [1446, 102, 1445] (by decide +kernel) (by decide +kernel) (by decide +kernel) rfl
theorem oX12_isWay : zk_mtOk (mX12_isWay, 1, 200) := zk_mtS [1420, 102, 1419] (by decide +kernel) (by decide +kernel) (by decide +kernel) rfl
theorem oX12_isSecret : zk_mtOk (mX12_isSecret, 1, 200) := zk_mtS [1622, 102, 1621] (by decide +kernel) (by decide +kernel) (by decide +kernel) rfl
theorem oX12_isShelf : zk_mtOk (mX12_isShelf, 1, 200) := zk_mtS [1408, 102, 1407] (by decide +kernel) (by decide +kernel) (by decide +kernel) rfl
theorem oX12_has : zk_mtOk (mX12_has, 2, 200) := zk_mtS [1537, 102, 1536] (by decide +kernel) (by decide +kernel) (by decide +kernel) rfl
theorem oX12_newPerson : zk_mtOk (mX12_newPerson, 3, 12) := zk_mtV [1401, 102, 1400, 37] (by decide +kernel) (by decide +kernel) (by decide +kernel) (Or.inr ⟨by decide, _, rfl, rfl⟩)
theorem oX12_person : zk_mtOk (mX12_person, 1, 12) := zk_mtV [1394, 102, 1392, 1393] (by decide +kernel) (by decide +kernel) (by decide +kernel) (Or.inr ⟨by decide, _, rfl, rfl⟩)
theorem oX12_people : zk_mtOk (mX12_people, 3, 12) := zk_mtV [1405, 102, 1403, 1404] (by decide +kernel) (by decide +kernel) (by decide +kernel) (Or.inr ⟨by decide, _, rfl, rfl⟩)
theorem oX12_newCard : zk_mtOk (mX12_newCard, 3, 12) := zk_mtV [1424, 102, 1423, 39] (by decide +kernel) (by decide +kernel) (by decide +kernel) (Or.inr ⟨by decide, _, rfl, rfl⟩)
theorem oX12_tells : zk_mtOk (mX12_tells, 2, 12) := zk_mtV [1428, 102, 1427, 40] (by decide +kernel) (by decide +kernel) (by decide +kernel) (Or.inr ⟨by decide, _, rfl, rfl⟩)
theorem oX12_card : zk_mtOk (mX12_card, 2, 12) := zk_mtV [1413, 102, 1411, 1412] (by decide +kernel) (by decide +kernel) (by decide +kernel) (Or.inr ⟨by decide, _, rfl, rfl⟩)
theorem oX12_isOf : zk_mtOk (mX12_isOf, 2, 12) := zk_mtV [1436, 102, 1435, 41] (by decide +kernel) (by decide +kernel) (by decide +kernel) (Or.inr ⟨by decide, _, rfl, rfl⟩)
theorem oX12_isFit : zk_mtOk (mX12_isFit, 2, 200) := zk_mtS [1443, 102, 1442] (by decide +kernel) (by decide +kernel) (by decide +kernel) rfl
theorem oX12_get : zk_mtOk (mX12_get, 2, 12) := zk_mtV [1451, 102, 1450, 43] (by decide +kernel) (by decide +kernel) (by decide +kernel) (Or.inr ⟨by decide, _, rfl, rfl⟩)
theorem oX12_becomes : zk_mtOk (mX12_becomes, 3, 12) := zk_mtV [1455, 102, 1454, 44] (by decide +kernel) (by decide +kernel) (by decide +kernel) (Or.inr ⟨by decide, _, rfl, rfl⟩)
theorem oX12_mend : zk_mtOk (mX12_mend, 3, 12) := zk_mtV [1432, 102, 1430, 1431] (by decide +kernel) (by decide +kernel) (by decide +kernel) (Or.inr ⟨by decide, _, rfl, rfl⟩)
theorem oX12_of : zk_mtOk (mX12_of, 2, 12) := zk_mtV [1459, 102, 1457, 1458] (by decide +kernel) (by decide +kernel) (by decide +kernel) (Or.inr ⟨by decide, _, rfl, rfl⟩)
theorem oX12_undo : zk_mtOk (mX12_undo, 0, 12) := zk_mtV [1463, 102, 1461, 1462] (by decide +kernel) (by decide +kernel) (by decide +kernel) (Or.inr ⟨by decide, _, rfl, rfl⟩)
theorem oX12_redo : zk_mtOk (mX12_redo, 0, 12) := zk_mtV [1467, 102, 1465, 1466] (by decide +kernel) (by decide +kernel) (by decide +kernel) (Or.inr ⟨by decide, _, rfl, rfl⟩)
theorem oX12_feed : zk_mtOk (mX12_feed, 1, 12) := zk_mtV [1471, 102, 1469, 1470] (by decide +kernel) (by decide +kernel) (by decide +kernel) (Or.inr ⟨by decide, _, rfl, rfl⟩)
theorem oX12_sign : zk_mtOk (mX12_sign, 0, 12) := zk_mtV [1511, 102, 1510, 53] (by decide +kernel) (by decide +kernel) (by decide +kernel) (Or.inr ⟨by decide, _, rfl, rfl⟩)
theorem oX12_is : zk_mtOk (mX12_is, 1, 12) := zk_mtV [1522, 102, 1521, 55] (by decide +kernel) (by decide +kernel) (by decide +kernel) (Or.inr ⟨by decide, _, rfl, rfl⟩)
theorem oX12_codes : zk_mtOk (mX12_codes, 1, 12) := zk_mtV [1515, 102, 1514, 54] (by decide +kernel) (by decide +kernel) (by decide +kernel) (Or.inr ⟨by decide, _, rfl, rfl⟩)
theorem oX12_isDigit : zk_mtOk (mX12_isDigit, 0, 12) := zk_mtV [1507, 102, 1506, 52] (by decide +kernel) (by decide +kernel) (by decide +kernel) (Or.inr ⟨by decide, _, rfl, rfl⟩)
theorem oX12_nameOf : zk_mtOk (mX12_nameOf, 1, 200) := zk_mtS [1518, 102, 1517] (by decide +kernel) (by decide +kernel) (by decide +kernel) rfl
theorem oX12_isO : zk_mtOk (mX12_isO, 0, 12) := zk_mtV [1503, 102, 1502, 51] (by decide +kernel) (by decide +kernel) (by decide +kernel) (Or.inr ⟨by decide, _, rfl, rfl⟩)
theorem oX12_isP : zk_mtOk (mX12_isP, 0, 12) := zk_mtV [1499, 102, 1498, 50] (by decide +kernel) (by decide +kernel) (by decide +kernel) (Or.inr ⟨by decide, _, rfl, rfl⟩)
theorem oX12_isS : zk_mtOk (mX12_isS, 0, 12) := zk_mtV [1495, 102, 1494, 49] (by decide +kernel) (by decide +kernel) (by decide +kernel) (Or.inr ⟨by decide, _, rfl, rfl⟩)
theorem oX12_isB : zk_mtOk (mX12_isB, 0, 12) := zk_mtV [1491, 102, 1490, 48] (by decide +kernel) (by decide +kernel) (by decide +kernel) (Or.inr ⟨by decide, _, rfl, rfl⟩)
theorem oX12_isA : zk_mtOk (mX12_isA, 0, 12) := zk_mtV [1487, 102, 1486, 47] (by decide +kernel) (by decide +kernel) (by decide +kernel) (Or.inr ⟨by decide, _, rfl, rfl⟩)
theorem oX12_isE : zk_mtOk (mX12_isE, 0, 12) := zk_mtV [1483, 102, 1482, 46] (by decide +kernel) (by decide +kernel) (by decide +kernel) (Or.inr ⟨by decide, _, rfl, rfl⟩)
theorem oX12_isLine : zk_mtOk (mX12_isLine, 0, 12) := zk_mtV [1479, 102, 1478, 45] (by decide +kernel) (by decide +kernel) (by decide +kernel) (Or.inr ⟨by decide, _, rfl, rfl⟩)
theorem oX12_law : zk_mtOk (mX12_law, 0, 12) := zk_mtV [1475, 102, 1473, 1474] (by decide +kernel) (by decide +kernel) (by decide +kernel) (Or.inr ⟨by decide, _, rfl, rfl⟩)
theorem oX12_both : zk_mtOk (mX12_both, 3, 200) := zk_mtS [1565, 102, 1564] (by decide +kernel) (by decide +kernel) (by decide +kernel) rfl
theorem oX12_worked : zk_mtOk (mX12_worked, 2, 12) := zk_mtV [1562, 102, 1561, 62] (by decide +kernel) (by decide +kernel) (by decide +kernel) (Or.inr ⟨by decide, _, rfl, rfl⟩)
theorem oX12_isIn : zk_mtOk (mX12_isIn, 2, 12) := zk_mtV [1541, 102, 1540, 58] (by decide +kernel) (by decide +kernel) (by decide +kernel) (Or.inr ⟨by decide, _, rfl, rfl⟩)
theorem oX12_could : zk_mtOk (mX12_could, 2, 12) := zk_mtV [1534, 102, 1533, 57] (by decide +kernel) (by decide +kernel) (by decide +kernel) (Or.inr ⟨by decide, _, rfl, rfl⟩)
theorem oX12_knowers : zk_mtOk (mX12_knowers, 1, 12) := zk_mtV [1557, 102, 1556, 61] (by decide +kernel) (by decide +kernel) (by decide +kernel) (Or.inr ⟨by decide, _, rfl, rfl⟩)
theorem oX12_counted : zk_mtOk (mX12_counted, 2, 12) := zk_mtV [1553, 102, 1552, 60] (by decide +kernel) (by decide +kernel) (by decide +kernel) (Or.inr ⟨by decide, _, rfl, rfl⟩)
theorem oX12_countedAll : zk_mtOk (mX12_countedAll, 1, 12) := zk_mtV [1574, 102, 1573, 63] (by decide +kernel) (by decide +kernel) (by decide +kernel) (Or.inr ⟨by decide, _, rfl, rfl⟩)
theorem oX12_couldAll : zk_mtOk (mX12_couldAll, 1, 12) := zk_mtV [1530, 102, 1529, 56] (by decide +kernel) (by decide +kernel) (by decide +kernel) (Or.inr ⟨by decide, _, rfl, rfl⟩)
theorem oX12_could_ : zk_mtOk (mX12_could_, 1, 12) := zk_mtV [1526, 102, 1524, 1525] (by decide +kernel) (by decide +kernel) (by decide +kernel) (Or.inr ⟨by decide, _, rfl, rfl⟩)
theorem oX12_counts : zk_mtOk (mX12_counts, 1, 12) := zk_mtV [1545, 102, 1543, 1544] (by decide +kernel) (by decide +kernel) (by decide +kernel) (Or.inr ⟨by decide, _, rfl, rfl⟩)
theorem oX12_part : zk_mtOk (mX12_part, 3, 200) := zk_mtS [1577, 102, 1576] (by decide +kernel) (by decide +kernel) (by decide +kernel) rfl
theorem oX12_likely : zk_mtOk (mX12_likely, 2, 12) := zk_mtV [1570, 102, 1568, 1569] (by decide +kernel) (by decide +kernel) (by decide +kernel) (Or.inr ⟨by decide, _, rfl, rfl⟩)
theorem oX12_likeliest : zk_mtOk (mX12_likeliest, 1, 12) := zk_mtV [1586, 102, 1585, 64] (by decide +kernel) (by decide +kernel) (by decide +kernel) (Or.inr ⟨by decide, _, rfl, rfl⟩)
theorem oX12_sure : zk_mtOk (mX12_sure, 1, 12) := zk_mtV [1590, 102, 1589, 65] (by decide +kernel) (by decide +kernel) (by decide +kernel) (Or.inr ⟨by decide, _, rfl, rfl⟩)
theorem oX12_likeliest_ : zk_mtOk (mX12_likeliest_, 2, 12) := zk_mtV [1582, 102, 1580, 1581] (by decide +kernel) (by decide +kernel) (by decide +kernel) (Or.inr ⟨by decide, _, rfl, rfl⟩)
theorem oX12_allByOne : zk_mtOk (mX12_allByOne, 1, 12) := zk_mtV [1594, 102, 1592, 1593] (by decide +kernel) (by decide +kernel) (by decide +kernel) (Or.inr ⟨by decide, _, rfl, rfl⟩)
theorem oX12_areHands : zk_mtOk (mX12_areHands, 2, 12) := zk_mtV [1607, 102, 1606, 67] (by decide +kernel) (by decide +kernel) (by decide +kernel) (Or.inr ⟨by decide, _, rfl, rfl⟩)
theorem oX12_hands : zk_mtOk (mX12_hands, 2, 12) := zk_mtV [1602, 102, 1600, 1601] (by decide +kernel) (by decide +kernel) (by decide +kernel) (Or.inr ⟨by decide, _, rfl, rfl⟩)
theorem oX12_unlikes : zk_mtOk (mX12_unlikes, 3, 12) := zk_mtV [1615, 102, 1614, 68] (by decide +kernel) (by decide +kernel) (by decide +kernel) (Or.inr ⟨by decide, _, rfl, rfl⟩)
theorem oX12_unlike : zk_mtOk (mX12_unlike, 1, 12) := zk_mtV [1611, 102, 1609, 1610] (by decide +kernel) (by decide +kernel) (by decide +kernel) (Or.inr ⟨by decide, _, rfl, rfl⟩)
theorem oX12_tellsOn : zk_mtOk (mX12_tellsOn, 1, 12) := zk_mtV [1626, 102, 1625, 69] (by decide +kernel) (by decide +kernel) (by decide +kernel) (Or.inr ⟨by decide, _, rfl, rfl⟩)
theorem oX12_evenings : zk_mtOk (mX12_evenings, 2, 12) := zk_mtV [1619, 102, 1617, 1618] (by decide +kernel) (by decide +kernel) (by decide +kernel) (Or.inr ⟨by decide, _, rfl, rfl⟩)
theorem oX12_hears : zk_mtOk (mX12_hears, 2, 12) := zk_mtV [1630, 102, 1628, 1629] (by decide +kernel) (by decide +kernel) (by decide +kernel) (Or.inr ⟨by decide, _, rfl, rfl⟩)
theorem oX12_saysYes : zk_mtOk (mX12_saysYes, 3, 12) := zk_mtV [1642, 102, 1641, 71] (by decide +kernel) (by decide +kernel) (by decide +kernel) (Or.inr ⟨by decide, _, rfl, rfl⟩)
theorem oX12_greater : zk_mtOk (mX12_greater, 2, 12) := zk_mtV [1638, 102, 1637, 70] (by decide +kernel) (by decide +kernel) (by decide +kernel) (Or.inr ⟨by decide, _, rfl, rfl⟩)
theorem oX12_ask : zk_mtOk (mX12_ask, 2, 12) := zk_mtV [1634, 102, 1632, 1633] (by decide +kernel) (by decide +kernel) (by decide +kernel) (Or.inr ⟨by decide, _, rfl, rfl⟩)
theorem oX12_worthOf : zk_mtOk (mX12_worthOf, 2, 12) := zk_mtV [1650, 102, 1649, 72] (by decide +kernel) (by decide +kernel) (by decide +kernel) (Or.inr ⟨by decide, _, rfl, rfl⟩)
theorem oX12_worth : zk_mtOk (mX12_worth, 1, 12) := zk_mtV [1646, 102, 1644, 1645] (by decide +kernel) (by decide +kernel) (by decide +kernel) (Or.inr ⟨by decide, _, rfl, rfl⟩)
theorem oX12_thank : zk_mtOk (mX12_thank, 1, 12) := zk_mtV [1654, 102, 1652, 1653] (by decide +kernel) (by decide +kernel) (by decide +kernel) (Or.inr ⟨by decide, _, rfl, rfl⟩)
theorem oX12_next : zk_mtOk (mX12_next, 2, 12) := zk_mtV [1658, 102, 1656, 1657] (by decide +kernel) (by decide +kernel) (by decide +kernel) (Or.inr ⟨by decide, _, rfl, rfl⟩)
theorem oX12_writes : zk_mtOk (mX12_writes, 4, 12) := zk_mtV [1670, 102, 1669, 74] (by decide +kernel) (by decide +kernel) (by decide +kernel) (Or.inr ⟨by decide, _, rfl, rfl⟩)
theorem oX12_write : zk_mtOk (mX12_write, 3, 12) := zk_mtV [1662, 102, 1660, 1661] (by decide +kernel) (by decide +kernel) (by decide +kernel) (Or.inr ⟨by decide, _, rfl, rfl⟩)
theorem oX12_written : zk_mtOk (mX12_written, 3, 12) := zk_mtV [1674, 102, 1672, 1673] (by decide +kernel) (by decide +kernel) (by decide +kernel) (Or.inr ⟨by decide, _, rfl, rfl⟩)
theorem oX12_noRow : zk_mtOk (mX12_noRow, 2, 12) := zk_mtV [1682, 102, 1681, 75] (by decide +kernel) (by decide +kernel) (by decide +kernel) (Or.inr ⟨by decide, _, rfl, rfl⟩)
theorem oX12_toldAt : zk_mtOk (mX12_toldAt, 2, 12) := zk_mtV [1690, 102, 1689, 77] (by decide +kernel) (by decide +kernel) (by decide +kernel) (Or.inr ⟨by decide, _, rfl, rfl⟩)
theorem oX12_most : zk_mtOk (mX12_most, 0, 12) := zk_mtV [1694, 102, 1693, 78] (by decide +kernel) (by decide +kernel) (by decide +kernel) (Or.inr ⟨by decide, _, rfl, rfl⟩)
theorem oX12_lookedFrom : zk_mtOk (mX12_lookedFrom, 2, 12) := zk_mtV [1686, 102, 1685, 76] (by decide +kernel) (by decide +kernel) (by decide +kernel) (Or.inr ⟨by decide, _, rfl, rfl⟩)
theorem oX12_strange : zk_mtOk (mX12_strange, 1, 12) := zk_mtV [1698, 102, 1697, 79] (by decide +kernel) (by decide +kernel) (by decide +kernel) (Or.inr ⟨by decide, _, rfl, rfl⟩)
theorem oX12_looks : zk_mtOk (mX12_looks, 2, 12) := zk_mtV [1678, 102, 1676, 1677] (by decide +kernel) (by decide +kernel) (by decide +kernel) (Or.inr ⟨by decide, _, rfl, rfl⟩)
theorem oX12_since : zk_mtOk (mX12_since, 2, 12) := zk_mtV [1702, 102, 1700, 1701] (by decide +kernel) (by decide +kernel) (by decide +kernel) (Or.inr ⟨by decide, _, rfl, rfl⟩)
theorem oX12_canBe : zk_mtOk (mX12_canBe, 2, 12) := zk_mtV [1714, 102, 1713, 81] (by decide +kernel) (by decide +kernel) (by decide +kernel) (Or.inr ⟨by decide, _, rfl, rfl⟩)
theorem oX12_wrong : zk_mtOk (mX12_wrong, 1, 12) := zk_mtV [1710, 102, 1709, 80] (by decide +kernel) (by decide +kernel) (by decide +kernel) (Or.inr ⟨by decide, _, rfl, rfl⟩)
theorem oX12_judge : zk_mtOk (mX12_judge, 1, 12) := zk_mtV [1706, 102, 1704, 1705] (by decide +kernel) (by decide +kernel) (by decide +kernel) (Or.inr ⟨by decide, _, rfl, rfl⟩)
theorem oX12_filled : zk_mtOk (mX12_filled, 2, 12) := zk_mtV [1718, 102, 1716, 1717] (by decide +kernel) (by decide +kernel) (by decide +kernel) (Or.inr ⟨by decide, _, rfl, rfl⟩)
theorem oX12_hope : zk_mtOk (mX12_hope, 2, 12) := zk_mtV [1722, 102, 1720, 1721] (by decide +kernel) (by decide +kernel) (by decide +kernel) (Or.inr ⟨by decide, _, rfl, rfl⟩)
theorem oX12_drawn : zk_mtOk (mX12_drawn, 4, 12) := zk_mtV [1727, 102, 1725, 1726] (by decide +kernel) (by decide +kernel) (by decide +kernel) (Or.inr ⟨by decide, _, rfl, rfl⟩)
theorem oX12_pass : zk_mtOk (mX12_pass, 1, 12) := zk_mtV [1732, 102, 1730, 1731] (by decide +kernel) (by decide +kernel) (by decide +kernel) (Or.inr ⟨by decide, _, rfl, rfl⟩)
theorem oX12_send : zk_mtOk (mX12_send, 2, 12) := zk_mtV [1736, 102, 1734, 1735] (by decide +kernel) (by decide +kernel) (by decide +kernel) (Or.inr ⟨by decide, _, rfl, rfl⟩)
theorem oX12_thanked : zk_mtOk (mX12_thanked, 1, 12) := zk_mtV [1740, 102, 1738, 1739] (by decide +kernel) (by decide +kernel) (by decide +kernel) (Or.inr ⟨by decide, _, rfl, rfl⟩)
theorem oX12_led : zk_mtOk (mX12_led, 1, 12) := zk_mtV [1744, 102, 1742, 1743] (by decide +kernel) (by decide +kernel) (by decide +kernel) (Or.inr ⟨by decide, _, rfl, rfl⟩)
theorem oX12_image : zk_mtOk (mX12_image, 0, 12) := zk_mtV [1748, 102, 1746, 1747] (by decide +kernel) (by decide +kernel) (by decide +kernel) (Or.inr ⟨by decide, _, rfl, rfl⟩)
theorem oX12_back : zk_mtOk (mX12_back, 0, 12) := zk_mtV [1752, 102, 1750, 1751] (by decide +kernel) (by decide +kernel) (by decide +kernel) (Or.inr ⟨by decide, _, rfl, rfl⟩)
theorem oX12_above : zk_mtOk (mX12_above, 1, 200) := zk_mtS [1771, 102, 1770] (by decide +kernel) (by decide +kernel) (by decide +kernel) rfl
theorem oX12_ran : zk_mtOk (mX12_ran, 1, 12) := zk_mtV [1768, 102, 1767, 83] (by decide +kernel) (by decide +kernel) (by decide +kernel) (Or.inr ⟨by decide, _, rfl, rfl⟩)
theorem oX12_looksBy : zk_mtOk (mX12_looksBy, 3, 12) := zk_mtV [1764, 102, 1763, 82] (by decide +kernel) (by decide +kernel) (by decide +kernel) (Or.inr ⟨by decide, _, rfl, rfl⟩)
theorem oX12_writesBy : zk_mtOk (mX12_writesBy, 3, 12) := zk_mtV [1775, 102, 1774, 84] (by decide +kernel) (by decide +kernel) (by decide +kernel) (Or.inr ⟨by decide, _, rfl, rfl⟩)
theorem oX12_hidesBy : zk_mtOk (mX12_hidesBy, 3, 12) := zk_mtV [1779, 102, 1778, 85] (by decide +kernel) (by decide +kernel) (by decide +kernel) (Or.inr ⟨by decide, _, rfl, rfl⟩)
theorem oX12_tells_ : zk_mtOk (mX12_tells_, 3, 12) := zk_mtV [1783, 102, 1782, 86] (by decide +kernel) (by decide +kernel) (by decide +kernel) (Or.inr ⟨by decide, _, rfl, rfl⟩)
theorem oX12_body : zk_mtOk (mX12_body, 1, 12) := zk_mtV [1756, 102, 1754, 1755] (by decide +kernel) (by decide +kernel) (by decide +kernel) (Or.inr ⟨by decide, _, rfl, rfl⟩)
theorem oX12_act : zk_mtOk (mX12_act, 3, 12) := zk_mtV [1760, 102, 1758, 1759] (by decide +kernel) (by decide +kernel) (by decide +kernel) (Or.inr ⟨by decide, _, rfl, rfl⟩)
theorem oX12_trace : zk_mtOk (mX12_trace, 1, 12) := zk_mtV [1787, 102, 1785, 1786] (by decide +kernel) (by decide +kernel) (by decide +kernel) (Or.inr ⟨by decide, _, rfl, rfl⟩)
theorem oX12_keep : zk_mtOk (mX12_keep, 2, 12) := zk_mtV [1791, 102, 1789, 1790] (by decide +kernel) (by decide +kernel) (by decide +kernel) (Or.inr ⟨by decide, _, rfl, rfl⟩)
theorem oX12_row : zk_mtOk (mX12_row, 3, 12) := zk_mtV [1795, 102, 1793, 1794] (by decide +kernel) (by decide +kernel) (by decide +kernel) (Or.inr ⟨by decide, _, rfl, rfl⟩)
theorem oX12_isRow : zk_mtOk (mX12_isRow, 1, 12) := zk_mtV [1803, 102, 1802, 87] (by decide +kernel) (by decide +kernel) (by decide +kernel) (Or.inr ⟨by decide, _, rfl, rfl⟩)
theorem oX12_kept : zk_mtOk (mX12_kept, 2, 200) := zk_mtS [1806, 102, 1805] (by decide +kernel) (by decide +kernel) (by decide +kernel) rfl
theorem oX12_put : zk_mtOk (mX12_put, 3, 12) := zk_mtV [1799, 102, 1797, 1798] (by decide +kernel) (by decide +kernel) (by decide +kernel) (Or.inr ⟨by decide, _, rfl, rfl⟩)
theorem oX12_element : zk_mtOk (mX12_element, 2, 12) := zk_mtV [1810, 102, 1808, 1809] (by decide +kernel) (by decide +kernel) (by decide +kernel) (Or.inr ⟨by decide, _, rfl, rfl⟩)
theorem oX12_shift : zk_mtOk (mX12_shift, 5, 12) := zk_mtV [1814, 102, 1812, 1813] (by decide +kernel) (by decide +kernel) (by decide +kernel) (Or.inr ⟨by decide, _, rfl, rfl⟩)
theorem oX12_taken : zk_mtOk (mX12_taken, 2, 12) := zk_mtV [1818, 102, 1816, 1817] (by decide +kernel) (by decide +kernel) (by decide +kernel) (Or.inr ⟨by decide, _, rfl, rfl⟩)
theorem oX12_count : zk_mtOk (mX12_count, 1, 12) := zk_mtV [1822, 102, 1820, 1821] (by decide +kernel) (by decide +kernel) (by decide +kernel) (Or.inr ⟨by decide, _, rfl, rfl⟩)
theorem oJ6_bitCount_0f7a4 : zk_mtOk (mJ6_bitCount_0f7a4, 1, 200) := zk_mtS [747, 109, 746] (by decide +kernel) (by decide +kernel) (by decide +kernel) rfl
theorem oJ0_length_8abf5 : zk_mtOk (mJ0_length_8abf5, 0, 100) := zk_mtV [254, 96, 252, 253] (by decide +kernel) (by decide +kernel) (by decide +kernel) (Or.inl ⟨rfl, rfl⟩)
theorem oJ0_indexOf_0f7a4 : zk_mtOk (mJ0_indexOf_0f7a4, 1, 100) := zk_mtV [620, 96, 618, 619] (by decide +kernel) (by decide +kernel) (by decide +kernel) (Or.inl ⟨rfl, rfl⟩)
theorem oJ0_indexOf_7cf53 : zk_mtOk (mJ0_indexOf_7cf53, 2, 100) := zk_mtV [624, 96, 622, 623] (by decide +kernel) (by decide +kernel) (by decide +kernel) (Or.inl ⟨rfl, rfl⟩)
theorem oJ0_coder_7d493 : zk_mtOk (mJ0_coder_7d493, 0, 100) := zk_mtV [258, 96, 256, 257] (by decide +kernel) (by decide +kernel) (by decide +kernel) (Or.inl ⟨rfl, rfl⟩)
theorem oJ0_isLatin1_aae02 : zk_mtOk (mJ0_isLatin1_aae02, 0, 100) := zk_mtV [628, 96, 626, 627] (by decide +kernel) (by decide +kernel) (by decide +kernel) (Or.inl ⟨rfl, rfl⟩)
theorem oJ1_canEncode_9a6ad : zk_mtOk (mJ1_canEncode_9a6ad, 1, 200) := zk_mtS [635, 104, 634] (by decide +kernel) (by decide +kernel) (by decide +kernel) rfl
theorem oJ1_indexOf_4cfef : zk_mtOk (mJ1_indexOf_4cfef, 4, 200) := zk_mtS [632, 104, 631] (by decide +kernel) (by decide +kernel) (by decide +kernel) rfl
theorem oJ1_indexOfChar_4cfef : zk_mtOk (mJ1_indexOfChar_4cfef, 4, 200) := zk_mtS [644, 104, 643] (by decide +kernel) (by decide +kernel) (by decide +kernel) rfl
theorem oJ7_fill_d0a16 : zk_mtOk (mJ7_fill_d0a16, 2, 200) := zk_mtS [1178, 91, 1177] (by decide +kernel) (by decide +kernel) (by decide +kernel) rfl
theorem oJ7_fill_53178 : zk_mtOk (mJ7_fill_53178, 2, 200) := zk_mtS [128, 91, 127] (by decide +kernel) (by decide +kernel) (by decide +kernel) rfl
def zk_MT0 : List (zk_M × Nat × Nat) := [(mX0_isKind, 1, 0), (mX0_isBody, 1, 0), (mX0_add, 1, 0), (mX0_isUnder, 2, 0), (mX0_traced, 0, 0), (mX0_perform, 3, 0), (mX0_own, 3, 0), (mX0_above, 4, 0), (mX0_bodyFrom, 2, 0), (mX0_run, 3, 0), (mX1_make, 3, 1), (mX1_takeBack, 0, 1), (mX1_makeAgain, 0, 1), (mX1_dropOldest, 0, 1), (mX2_letMinutesPass, 1, 2), (mX2_sendCard, 3, 2)]
theorem zk_MTo0 : ∀ q ∈ zk_MT0, zk_mtOk q := List.forall_mem_cons.mpr ⟨oX0_isKind, List.forall_mem_cons.mpr ⟨oX0_isBody, List.forall_mem_cons.mpr ⟨oX0_add, List.forall_mem_cons.mpr ⟨oX0_isUnder, List.forall_mem_cons.mpr ⟨oX0_traced, List.forall_mem_cons.mpr ⟨oX0_perform, List.forall_mem_cons.mpr ⟨oX0_own, List.forall_mem_cons.mpr ⟨oX0_above, List.forall_mem_cons.mpr ⟨oX0_bodyFrom, List.forall_mem_cons.mpr ⟨oX0_run, List.forall_mem_cons.mpr ⟨oX1_make, List.forall_mem_cons.mpr ⟨oX1_takeBack, List.forall_mem_cons.mpr ⟨oX1_makeAgain, List.forall_mem_cons.mpr ⟨oX1_dropOldest, List.forall_mem_cons.mpr ⟨oX2_letMinutesPass, List.forall_mem_cons.mpr ⟨oX2_sendCard, fun _ h => absurd h List.not_mem_nil⟩⟩⟩⟩⟩⟩⟩⟩⟩⟩⟩⟩⟩⟩⟩⟩
def zk_MT1 : List (zk_M × Nat × Nat) := [(mX2_mayBeThanked, 1, 2), (mX2_thankOne, 2, 2), (mX2_keepImage, 0, 2), (mX2_layImageBack, 0, 2), (mX3_adopt, 2, 3), (mX3_isTold, 0, 3), (mX3_valueFor, 1, 3), (mX3_operandsOf, 1, 3), (mX3_worked, 3, 3), (mX4_isPerson, 1, 4), (mX4_isCard, 1, 4), (mX4_isSecret, 1, 4), (mX4_isSet, 1, 4), (mX4_isCardAndPerson, 1, 4), (mX4_isTwoPeople, 1, 4), (mX4_isWay, 1, 4)]
theorem zk_MTo1 : ∀ q ∈ zk_MT1, zk_mtOk q := List.forall_mem_cons.mpr ⟨oX2_mayBeThanked, List.forall_mem_cons.mpr ⟨oX2_thankOne, List.forall_mem_cons.mpr ⟨oX2_keepImage, List.forall_mem_cons.mpr ⟨oX2_layImageBack, List.forall_mem_cons.mpr ⟨oX3_adopt, List.forall_mem_cons.mpr ⟨oX3_isTold, List.forall_mem_cons.mpr ⟨oX3_valueFor, List.forall_mem_cons.mpr ⟨oX3_operandsOf, List.forall_mem_cons.mpr ⟨oX3_worked, List.forall_mem_cons.mpr ⟨oX4_isPerson, List.forall_mem_cons.mpr ⟨oX4_isCard, List.forall_mem_cons.mpr ⟨oX4_isSecret, List.forall_mem_cons.mpr ⟨oX4_isSet, List.forall_mem_cons.mpr ⟨oX4_isCardAndPerson, List.forall_mem_cons.mpr ⟨oX4_isTwoPeople, List.forall_mem_cons.mpr ⟨oX4_isWay, fun _ h => absurd h List.not_mem_nil⟩⟩⟩⟩⟩⟩⟩⟩⟩⟩⟩⟩⟩⟩⟩⟩
def zk_MT2 : List (zk_M × Nat × Nat) := [(mX4_has, 2, 4), (mX4_fits, 2, 4), (mX4_addPerson, 3, 4), (mX4_addCard, 3, 4), (mX4_layCard, 3, 4), (mX4_likes, 2, 4), (mX4_knows, 2, 4), (mX4_isIn, 2, 4), (mX4_canWriteSo, 3, 4), (mX4_whoCould, 1, 4), (mX4_whoCouldWithSecret, 2, 4), (mX4_everybody, 0, 4), (mX4_whoIsIn, 1, 4), (mX4_whoKnows, 1, 4), (mX4_whoKnowsAfter, 2, 4), (mX4_eveningOfHearing, 2, 4)]
theorem zk_MTo2 : ∀ q ∈ zk_MT2, zk_mtOk q := List.forall_mem_cons.mpr ⟨oX4_has, List.forall_mem_cons.mpr ⟨oX4_fits, List.forall_mem_cons.mpr ⟨oX4_addPerson, List.forall_mem_cons.mpr ⟨oX4_addCard, List.forall_mem_cons.mpr ⟨oX4_layCard, List.forall_mem_cons.mpr ⟨oX4_likes, List.forall_mem_cons.mpr ⟨oX4_knows, List.forall_mem_cons.mpr ⟨oX4_isIn, List.forall_mem_cons.mpr ⟨oX4_canWriteSo, List.forall_mem_cons.mpr ⟨oX4_whoCould, List.forall_mem_cons.mpr ⟨oX4_whoCouldWithSecret, List.forall_mem_cons.mpr ⟨oX4_everybody, List.forall_mem_cons.mpr ⟨oX4_whoIsIn, List.forall_mem_cons.mpr ⟨oX4_whoKnows, List.forall_mem_cons.mpr ⟨oX4_whoKnowsAfter, List.forall_mem_cons.mpr ⟨oX4_eveningOfHearing, fun _ h => absurd h List.not_mem_nil⟩⟩⟩⟩⟩⟩⟩⟩⟩⟩⟩⟩⟩⟩⟩⟩
def zk_MT3 : List (zk_M × Nat × Nat) := [(mX4_toldOn, 1, 4), (mX5_takeLetter, 1, 5), (mX5_parseTape, 0, 5), (mX5_begin, 0, 5), (mX5_takes, 1, 5), (mX5_beginsNumber, 1, 5), (mX5_takesAsOperand, 1, 5), (mX5_takesBehindOperand, 1, 5), (mX5_closesBracket, 0, 5), (mX5_endsExpression, 2, 5), (mX5_takesBetween, 1, 5), (mX5_endOperand, 0, 5), (mX5_emitWaiting, 1, 5), (mX5_rankOf, 1, 5), (mX5_await, 1, 5), (mX5_emit, 1, 5)]
theorem zk_MTo3 : ∀ q ∈ zk_MT3, zk_mtOk q := List.forall_mem_cons.mpr ⟨oX4_toldOn, List.forall_mem_cons.mpr ⟨oX5_takeLetter, List.forall_mem_cons.mpr ⟨oX5_parseTape, List.forall_mem_cons.mpr ⟨oX5_begin, List.forall_mem_cons.mpr ⟨oX5_takes, List.forall_mem_cons.mpr ⟨oX5_beginsNumber, List.forall_mem_cons.mpr ⟨oX5_takesAsOperand, List.forall_mem_cons.mpr ⟨oX5_takesBehindOperand, List.forall_mem_cons.mpr ⟨oX5_closesBracket, List.forall_mem_cons.mpr ⟨oX5_endsExpression, List.forall_mem_cons.mpr ⟨oX5_takesBetween, List.forall_mem_cons.mpr ⟨oX5_endOperand, List.forall_mem_cons.mpr ⟨oX5_emitWaiting, List.forall_mem_cons.mpr ⟨oX5_rankOf, List.forall_mem_cons.mpr ⟨oX5_await, List.forall_mem_cons.mpr ⟨oX5_emit, fun _ h => absurd h List.not_mem_nil⟩⟩⟩⟩⟩⟩⟩⟩⟩⟩⟩⟩⟩⟩⟩⟩
def zk_MT4 : List (zk_M × Nat × Nat) := [(mX6_bestQuestion, 2, 6), (mX6_sumOfYes, 2, 6), (mX6_saysYes, 3, 6), (mX6_worthOfThanking, 2, 6), (mX6_whomToThank, 1, 6), (mX6_tellingSecret, 2, 6), (mX6_seekWay, 4, 6), (mX6_weighWay, 3, 6), (mX6_hopeOfReceiver, 2, 6), (mX6_timesDrawn, 4, 6), (mX6_whoIsAt, 1, 6), (mX7_peopleCome, 3, 7), (mX7_comesFrom, 2, 7), (mX7_firstLookFromOutside, 1, 7), (mX7_tallyLooks, 2, 7), (mX7_mostTallied, 0, 7)]
theorem zk_MTo4 : ∀ q ∈ zk_MT4, zk_mtOk q := List.forall_mem_cons.mpr ⟨oX6_bestQuestion, List.forall_mem_cons.mpr ⟨oX6_sumOfYes, List.forall_mem_cons.mpr ⟨oX6_saysYes, List.forall_mem_cons.mpr ⟨oX6_worthOfThanking, List.forall_mem_cons.mpr ⟨oX6_whomToThank, List.forall_mem_cons.mpr ⟨oX6_tellingSecret, List.forall_mem_cons.mpr ⟨oX6_seekWay, List.forall_mem_cons.mpr ⟨oX6_weighWay, List.forall_mem_cons.mpr ⟨oX6_hopeOfReceiver, List.forall_mem_cons.mpr ⟨oX6_timesDrawn, List.forall_mem_cons.mpr ⟨oX6_whoIsAt, List.forall_mem_cons.mpr ⟨oX7_peopleCome, List.forall_mem_cons.mpr ⟨oX7_comesFrom, List.forall_mem_cons.mpr ⟨oX7_firstLookFromOutside, List.forall_mem_cons.mpr ⟨oX7_tallyLooks, List.forall_mem_cons.mpr ⟨oX7_mostTallied, fun _ h => absurd h List.not_mem_nil⟩⟩⟩⟩⟩⟩⟩⟩⟩⟩⟩⟩⟩⟩⟩⟩
def zk_MT5 : List (zk_M × Nat × Nat) := [(mX7_firstWrongLetter, 1, 7), (mX7_canBe, 2, 7), (mX7_lettersFilled, 2, 7), (mX7_waysToFill, 2, 7), (mX7_countsTogether, 2, 7), (mX8_holdLook, 1, 8), (mX8_holdRow, 2, 8), (mX8_isRowOf, 1, 8), (mX8_refusalOfRow, 1, 8), (mX8_refusalOfPlace, 1, 8), (mX8_hasPlaces, 2, 8), (mX8_lowestBits, 1, 8), (mX10_weigh, 1, 10), (mX10_countFor, 2, 10), (mX10_likenessOfHand, 2, 10), (mX10_valueWithoutLaw, 0, 10)]
theorem zk_MTo5 : ∀ q ∈ zk_MT5, zk_mtOk q := List.forall_mem_cons.mpr ⟨oX7_firstWrongLetter, List.forall_mem_cons.mpr ⟨oX7_canBe, List.forall_mem_cons.mpr ⟨oX7_lettersFilled, List.forall_mem_cons.mpr ⟨oX7_waysToFill, List.forall_mem_cons.mpr ⟨oX7_countsTogether, List.forall_mem_cons.mpr ⟨oX8_holdLook, List.forall_mem_cons.mpr ⟨oX8_holdRow, List.forall_mem_cons.mpr ⟨oX8_isRowOf, List.forall_mem_cons.mpr ⟨oX8_refusalOfRow, List.forall_mem_cons.mpr ⟨oX8_refusalOfPlace, List.forall_mem_cons.mpr ⟨oX8_hasPlaces, List.forall_mem_cons.mpr ⟨oX8_lowestBits, List.forall_mem_cons.mpr ⟨oX10_weigh, List.forall_mem_cons.mpr ⟨oX10_countFor, List.forall_mem_cons.mpr ⟨oX10_likenessOfHand, List.forall_mem_cons.mpr ⟨oX10_valueWithoutLaw, fun _ h => absurd h List.not_mem_nil⟩⟩⟩⟩⟩⟩⟩⟩⟩⟩⟩⟩⟩⟩⟩⟩
def zk_MT6 : List (zk_M × Nat × Nat) := [(mX10_likeliestOf, 2, 10), (mX10_onlyOne, 1, 10), (mX10_whoCouldAll, 1, 10), (mX10_fewestHands, 1, 10), (mX10_couldAllBeBy, 2, 10), (mX10_waysByUnlike, 1, 10), (mX10_addWriter, 1, 10), (mX10_lowestTerms, 3, 10), (mX10_greatestDivisor, 2, 10), (mX11_person, 1, 11), (mX11_people, 3, 11), (mX11_card, 2, 11), (mX11_mend, 3, 11), (mX11_of, 2, 11), (mX11_feed, 1, 11), (mX11_law, 0, 11)]
theorem zk_MTo6 : ∀ q ∈ zk_MT6, zk_mtOk q := List.forall_mem_cons.mpr ⟨oX10_likeliestOf, List.forall_mem_cons.mpr ⟨oX10_onlyOne, List.forall_mem_cons.mpr ⟨oX10_whoCouldAll, List.forall_mem_cons.mpr ⟨oX10_fewestHands, List.forall_mem_cons.mpr ⟨oX10_couldAllBeBy, List.forall_mem_cons.mpr ⟨oX10_waysByUnlike, List.forall_mem_cons.mpr ⟨oX10_addWriter, List.forall_mem_cons.mpr ⟨oX10_lowestTerms, List.forall_mem_cons.mpr ⟨oX10_greatestDivisor, List.forall_mem_cons.mpr ⟨oX11_person, List.forall_mem_cons.mpr ⟨oX11_people, List.forall_mem_cons.mpr ⟨oX11_card, List.forall_mem_cons.mpr ⟨oX11_mend, List.forall_mem_cons.mpr ⟨oX11_of, List.forall_mem_cons.mpr ⟨oX11_feed, List.forall_mem_cons.mpr ⟨oX11_law, fun _ h => absurd h List.not_mem_nil⟩⟩⟩⟩⟩⟩⟩⟩⟩⟩⟩⟩⟩⟩⟩⟩
def zk_MT7 : List (zk_M × Nat × Nat) := [(mX11_could, 1, 11), (mX11_counts, 1, 11), (mX11_likely, 2, 11), (mX11_likeliest, 2, 11), (mX11_allByOne, 1, 11), (mX11_hands, 2, 11), (mX11_unlike, 1, 11), (mX11_evenings, 2, 11), (mX11_hears, 2, 11), (mX11_ask, 2, 11), (mX11_worth, 1, 11), (mX11_thank, 1, 11), (mX11_next, 2, 11), (mX11_write, 3, 11), (mX11_written, 3, 11), (mX11_looks, 2, 11)]
theorem zk_MTo7 : ∀ q ∈ zk_MT7, zk_mtOk q := List.forall_mem_cons.mpr ⟨oX11_could, List.forall_mem_cons.mpr ⟨oX11_counts, List.forall_mem_cons.mpr ⟨oX11_likely, List.forall_mem_cons.mpr ⟨oX11_likeliest, List.forall_mem_cons.mpr ⟨oX11_allByOne, List.forall_mem_cons.mpr ⟨oX11_hands, List.forall_mem_cons.mpr ⟨oX11_unlike, List.forall_mem_cons.mpr ⟨oX11_evenings, List.forall_mem_cons.mpr ⟨oX11_hears, List.forall_mem_cons.mpr ⟨oX11_ask, List.forall_mem_cons.mpr ⟨oX11_worth, List.forall_mem_cons.mpr ⟨oX11_thank, List.forall_mem_cons.mpr ⟨oX11_next, List.forall_mem_cons.mpr ⟨oX11_write, List.forall_mem_cons.mpr ⟨oX11_written, List.forall_mem_cons.mpr ⟨oX11_looks, fun _ h => absurd h List.not_mem_nil⟩⟩⟩⟩⟩⟩⟩⟩⟩⟩⟩⟩⟩⟩⟩⟩
def zk_MT8 : List (zk_M × Nat × Nat) := [(mX11_since, 2, 11), (mX11_judge, 1, 11), (mX11_filled, 2, 11), (mX11_hope, 2, 11), (mX11_drawn, 4, 11), (mX11_pass, 1, 11), (mX11_send, 2, 11), (mX11_thanked, 1, 11), (mX11_led, 1, 11), (mX11_image, 0, 11), (mX11_back, 0, 11), (mX11_undo, 0, 11), (mX11_redo, 0, 11), (mX11_body, 1, 11), (mX11_act, 3, 11), (mX11_trace, 1, 11)]
theorem zk_MTo8 : ∀ q ∈ zk_MT8, zk_mtOk q := List.forall_mem_cons.mpr ⟨oX11_since, List.forall_mem_cons.mpr ⟨oX11_judge, List.forall_mem_cons.mpr ⟨oX11_filled, List.forall_mem_cons.mpr ⟨oX11_hope, List.forall_mem_cons.mpr ⟨oX11_drawn, List.forall_mem_cons.mpr ⟨oX11_pass, List.forall_mem_cons.mpr ⟨oX11_send, List.forall_mem_cons.mpr ⟨oX11_thanked, List.forall_mem_cons.mpr ⟨oX11_led, List.forall_mem_cons.mpr ⟨oX11_image, List.forall_mem_cons.mpr ⟨oX11_back, List.forall_mem_cons.mpr ⟨oX11_undo, List.forall_mem_cons.mpr ⟨oX11_redo, List.forall_mem_cons.mpr ⟨oX11_body, List.forall_mem_cons.mpr ⟨oX11_act, List.forall_mem_cons.mpr ⟨oX11_trace, fun _ h => absurd h List.not_mem_nil⟩⟩⟩⟩⟩⟩⟩⟩⟩⟩⟩⟩⟩⟩⟩⟩
def zk_MT9 : List (zk_M × Nat × Nat) := [(mX11_keep, 2, 11), (mX11_row, 3, 11), (mX11_put, 3, 11), (mX11_element, 2, 11), (mX11_shift, 5, 11), (mX11_taken, 2, 11), (mX11_count, 1, 11), (mX11_shelfAt, 1, 11), (mX11_isZeroOrOne, 1, 200), (mX12_within, 3, 200), (mX12_isOne, 1, 12), (mX12_isCard, 1, 12), (mX12_isCardOf, 1, 12), (mX12_areTwo, 1, 12), (mX12_areCards, 1, 12), (mX12_isMinute, 1, 200)]
theorem zk_MTo9 : ∀ q ∈ zk_MT9, zk_mtOk q := List.forall_mem_cons.mpr ⟨oX11_keep, List.forall_mem_cons.mpr ⟨oX11_row, List.forall_mem_cons.mpr ⟨oX11_put, List.forall_mem_cons.mpr ⟨oX11_element, List.forall_mem_cons.mpr ⟨oX11_shift, List.forall_mem_cons.mpr ⟨oX11_taken, List.forall_mem_cons.mpr ⟨oX11_count, List.forall_mem_cons.mpr ⟨oX11_shelfAt, List.forall_mem_cons.mpr ⟨oX11_isZeroOrOne, List.forall_mem_cons.mpr ⟨oX12_within, List.forall_mem_cons.mpr ⟨oX12_isOne, List.forall_mem_cons.mpr ⟨oX12_isCard, List.forall_mem_cons.mpr ⟨oX12_isCardOf, List.forall_mem_cons.mpr ⟨oX12_areTwo, List.forall_mem_cons.mpr ⟨oX12_areCards, List.forall_mem_cons.mpr ⟨oX12_isMinute, fun _ h => absurd h List.not_mem_nil⟩⟩⟩⟩⟩⟩⟩⟩⟩⟩⟩⟩⟩⟩⟩⟩
def zk_MT10 : List (zk_M × Nat × Nat) := [(mX12_isWay, 1, 200), (mX12_isSecret, 1, 200), (mX12_isShelf, 1, 200), (mX12_has, 2, 200), (mX12_newPerson, 3, 12), (mX12_person, 1, 12), (mX12_people, 3, 12), (mX12_newCard, 3, 12), (mX12_tells, 2, 12), (mX12_card, 2, 12), (mX12_isOf, 2, 12), (mX12_isFit, 2, 200), (mX12_get, 2, 12), (mX12_becomes, 3, 12), (mX12_mend, 3, 12), (mX12_of, 2, 12)]
theorem zk_MTo10 : ∀ q ∈ zk_MT10, zk_mtOk q := List.forall_mem_cons.mpr ⟨oX12_isWay, List.forall_mem_cons.mpr ⟨oX12_isSecret, List.forall_mem_cons.mpr ⟨oX12_isShelf, List.forall_mem_cons.mpr ⟨oX12_has, List.forall_mem_cons.mpr ⟨oX12_newPerson, List.forall_mem_cons.mpr ⟨oX12_person, List.forall_mem_cons.mpr ⟨oX12_people, List.forall_mem_cons.mpr ⟨oX12_newCard, List.forall_mem_cons.mpr ⟨oX12_tells, List.forall_mem_cons.mpr ⟨oX12_card, List.forall_mem_cons.mpr ⟨oX12_isOf, List.forall_mem_cons.mpr ⟨oX12_isFit, List.forall_mem_cons.mpr ⟨oX12_get, List.forall_mem_cons.mpr ⟨oX12_becomes, List.forall_mem_cons.mpr ⟨oX12_mend, List.forall_mem_cons.mpr ⟨oX12_of, fun _ h => absurd h List.not_mem_nil⟩⟩⟩⟩⟩⟩⟩⟩⟩⟩⟩⟩⟩⟩⟩⟩
def zk_MT11 : List (zk_M × Nat × Nat) := [(mX12_undo, 0, 12), (mX12_redo, 0, 12), (mX12_feed, 1, 12), (mX12_sign, 0, 12), (mX12_is, 1, 12), (mX12_codes, 1, 12), (mX12_isDigit, 0, 12), (mX12_nameOf, 1, 200), (mX12_isO, 0, 12), (mX12_isP, 0, 12), (mX12_isS, 0, 12), (mX12_isB, 0, 12), (mX12_isA, 0, 12), (mX12_isE, 0, 12), (mX12_isLine, 0, 12), (mX12_law, 0, 12)]
theorem zk_MTo11 : ∀ q ∈ zk_MT11, zk_mtOk q := List.forall_mem_cons.mpr ⟨oX12_undo, List.forall_mem_cons.mpr ⟨oX12_redo, List.forall_mem_cons.mpr ⟨oX12_feed, List.forall_mem_cons.mpr ⟨oX12_sign, List.forall_mem_cons.mpr ⟨oX12_is, List.forall_mem_cons.mpr ⟨oX12_codes, List.forall_mem_cons.mpr ⟨oX12_isDigit, List.forall_mem_cons.mpr ⟨oX12_nameOf, List.forall_mem_cons.mpr ⟨oX12_isO, List.forall_mem_cons.mpr ⟨oX12_isP, List.forall_mem_cons.mpr ⟨oX12_isS, List.forall_mem_cons.mpr ⟨oX12_isB, List.forall_mem_cons.mpr ⟨oX12_isA, List.forall_mem_cons.mpr ⟨oX12_isE, List.forall_mem_cons.mpr ⟨oX12_isLine, List.forall_mem_cons.mpr ⟨oX12_law, fun _ h => absurd h List.not_mem_nil⟩⟩⟩⟩⟩⟩⟩⟩⟩⟩⟩⟩⟩⟩⟩⟩
def zk_MT12 : List (zk_M × Nat × Nat) := [(mX12_both, 3, 200), (mX12_worked, 2, 12), (mX12_isIn, 2, 12), (mX12_could, 2, 12), (mX12_knowers, 1, 12), (mX12_counted, 2, 12), (mX12_countedAll, 1, 12), (mX12_couldAll, 1, 12), (mX12_could_, 1, 12), (mX12_counts, 1, 12), (mX12_part, 3, 200), (mX12_likely, 2, 12), (mX12_likeliest, 1, 12), (mX12_sure, 1, 12), (mX12_likeliest_, 2, 12), (mX12_allByOne, 1, 12)]
theorem zk_MTo12 : ∀ q ∈ zk_MT12, zk_mtOk q := List.forall_mem_cons.mpr ⟨oX12_both, List.forall_mem_cons.mpr ⟨oX12_worked, List.forall_mem_cons.mpr ⟨oX12_isIn, List.forall_mem_cons.mpr ⟨oX12_could, List.forall_mem_cons.mpr ⟨oX12_knowers, List.forall_mem_cons.mpr ⟨oX12_counted, List.forall_mem_cons.mpr ⟨oX12_countedAll, List.forall_mem_cons.mpr ⟨oX12_couldAll, List.forall_mem_cons.mpr ⟨oX12_could_, List.forall_mem_cons.mpr ⟨oX12_counts, List.forall_mem_cons.mpr ⟨oX12_part, List.forall_mem_cons.mpr ⟨oX12_likely, List.forall_mem_cons.mpr ⟨oX12_likeliest, List.forall_mem_cons.mpr ⟨oX12_sure, List.forall_mem_cons.mpr ⟨oX12_likeliest_, List.forall_mem_cons.mpr ⟨oX12_allByOne, fun _ h => absurd h List.not_mem_nil⟩⟩⟩⟩⟩⟩⟩⟩⟩⟩⟩⟩⟩⟩⟩⟩
def zk_MT13 : List (zk_M × Nat × Nat) := [(mX12_areHands, 2, 12), (mX12_hands, 2, 12), (mX12_unlikes, 3, 12), (mX12_unlike, 1, 12), (mX12_tellsOn, 1, 12), (mX12_evenings, 2, 12), (mX12_hears, 2, 12), (mX12_saysYes, 3, 12), (mX12_greater, 2, 12), (mX12_ask, 2, 12), (mX12_worthOf, 2, 12), (mX12_worth, 1, 12), (mX12_thank, 1, 12), (mX12_next, 2, 12), (mX12_writes, 4, 12), (mX12_write, 3, 12)]
theorem zk_MTo13 : ∀ q ∈ zk_MT13, zk_mtOk q := List.forall_mem_cons.mpr ⟨oX12_areHands, List.forall_mem_cons.mpr ⟨oX12_hands, List.forall_mem_cons.mpr ⟨oX12_unlikes, List.forall_mem_cons.mpr ⟨oX12_unlike, List.forall_mem_cons.mpr ⟨oX12_tellsOn, List.forall_mem_cons.mpr ⟨oX12_evenings, List.forall_mem_cons.mpr ⟨oX12_hears, List.forall_mem_cons.mpr ⟨oX12_saysYes, List.forall_mem_cons.mpr ⟨oX12_greater, List.forall_mem_cons.mpr ⟨oX12_ask, List.forall_mem_cons.mpr ⟨oX12_worthOf, List.forall_mem_cons.mpr ⟨oX12_worth, List.forall_mem_cons.mpr ⟨oX12_thank, List.forall_mem_cons.mpr ⟨oX12_next, List.forall_mem_cons.mpr ⟨oX12_writes, List.forall_mem_cons.mpr ⟨oX12_write, fun _ h => absurd h List.not_mem_nil⟩⟩⟩⟩⟩⟩⟩⟩⟩⟩⟩⟩⟩⟩⟩⟩
def zk_MT14 : List (zk_M × Nat × Nat) := [(mX12_written, 3, 12), (mX12_noRow, 2, 12), (mX12_toldAt, 2, 12), (mX12_most, 0, 12), (mX12_lookedFrom, 2, 12), (mX12_strange, 1, 12), (mX12_looks, 2, 12), (mX12_since, 2, 12), (mX12_canBe, 2, 12), (mX12_wrong, 1, 12), (mX12_judge, 1, 12), (mX12_filled, 2, 12), (mX12_hope, 2, 12), (mX12_drawn, 4, 12), (mX12_pass, 1, 12), (mX12_send, 2, 12)]
theorem zk_MTo14 : ∀ q ∈ zk_MT14, zk_mtOk q := List.forall_mem_cons.mpr ⟨oX12_written, List.forall_mem_cons.mpr ⟨oX12_noRow, List.forall_mem_cons.mpr ⟨oX12_toldAt, List.forall_mem_cons.mpr ⟨oX12_most, List.forall_mem_cons.mpr ⟨oX12_lookedFrom, List.forall_mem_cons.mpr ⟨oX12_strange, List.forall_mem_cons.mpr ⟨oX12_looks, List.forall_mem_cons.mpr ⟨oX12_since, List.forall_mem_cons.mpr ⟨oX12_canBe, List.forall_mem_cons.mpr ⟨oX12_wrong, List.forall_mem_cons.mpr ⟨oX12_judge, List.forall_mem_cons.mpr ⟨oX12_filled, List.forall_mem_cons.mpr ⟨oX12_hope, List.forall_mem_cons.mpr ⟨oX12_drawn, List.forall_mem_cons.mpr ⟨oX12_pass, List.forall_mem_cons.mpr ⟨oX12_send, fun _ h => absurd h List.not_mem_nil⟩⟩⟩⟩⟩⟩⟩⟩⟩⟩⟩⟩⟩⟩⟩⟩
def zk_MT15 : List (zk_M × Nat × Nat) := [(mX12_thanked, 1, 12), (mX12_led, 1, 12), (mX12_image, 0, 12), (mX12_back, 0, 12), (mX12_above, 1, 200), (mX12_ran, 1, 12), (mX12_looksBy, 3, 12), (mX12_writesBy, 3, 12), (mX12_hidesBy, 3, 12), (mX12_tells_, 3, 12), (mX12_body, 1, 12), (mX12_act, 3, 12), (mX12_trace, 1, 12), (mX12_keep, 2, 12), (mX12_row, 3, 12), (mX12_isRow, 1, 12)]
theorem zk_MTo15 : ∀ q ∈ zk_MT15, zk_mtOk q := List.forall_mem_cons.mpr ⟨oX12_thanked, List.forall_mem_cons.mpr ⟨oX12_led, List.forall_mem_cons.mpr ⟨oX12_image, List.forall_mem_cons.mpr ⟨oX12_back, List.forall_mem_cons.mpr ⟨oX12_above, List.forall_mem_cons.mpr ⟨oX12_ran, List.forall_mem_cons.mpr ⟨oX12_looksBy, List.forall_mem_cons.mpr ⟨oX12_writesBy, List.forall_mem_cons.mpr ⟨oX12_hidesBy, List.forall_mem_cons.mpr ⟨oX12_tells_, List.forall_mem_cons.mpr ⟨oX12_body, List.forall_mem_cons.mpr ⟨oX12_act, List.forall_mem_cons.mpr ⟨oX12_trace, List.forall_mem_cons.mpr ⟨oX12_keep, List.forall_mem_cons.mpr ⟨oX12_row, List.forall_mem_cons.mpr ⟨oX12_isRow, fun _ h => absurd h List.not_mem_nil⟩⟩⟩⟩⟩⟩⟩⟩⟩⟩⟩⟩⟩⟩⟩⟩
def zk_MT16 : List (zk_M × Nat × Nat) := [(mX12_kept, 2, 200), (mX12_put, 3, 12), (mX12_element, 2, 12), (mX12_shift, 5, 12), (mX12_taken, 2, 12), (mX12_count, 1, 12), (mJ6_bitCount_0f7a4, 1, 200), (mJ0_length_8abf5, 0, 100), (mJ0_indexOf_0f7a4, 1, 100), (mJ0_indexOf_7cf53, 2, 100), (mJ0_coder_7d493, 0, 100), (mJ0_isLatin1_aae02, 0, 100), (mJ1_canEncode_9a6ad, 1, 200), (mJ1_indexOf_4cfef, 4, 200), (mJ1_indexOfChar_4cfef, 4, 200), (mJ7_fill_d0a16, 2, 200)]
theorem zk_MTo16 : ∀ q ∈ zk_MT16, zk_mtOk q := List.forall_mem_cons.mpr ⟨oX12_kept, List.forall_mem_cons.mpr ⟨oX12_put, List.forall_mem_cons.mpr ⟨oX12_element, List.forall_mem_cons.mpr ⟨oX12_shift, List.forall_mem_cons.mpr ⟨oX12_taken, List.forall_mem_cons.mpr ⟨oX12_count, List.forall_mem_cons.mpr ⟨oJ6_bitCount_0f7a4, List.forall_mem_cons.mpr ⟨oJ0_length_8abf5, List.forall_mem_cons.mpr ⟨oJ0_indexOf_0f7a4, List.forall_mem_cons.mpr ⟨oJ0_indexOf_7cf53, List.forall_mem_cons.mpr ⟨oJ0_coder_7d493, List.forall_mem_cons.mpr ⟨oJ0_isLatin1_aae02, List.forall_mem_cons.mpr ⟨oJ1_canEncode_9a6ad, List.forall_mem_cons.mpr ⟨oJ1_indexOf_4cfef, List.forall_mem_cons.mpr ⟨oJ1_indexOfChar_4cfef, List.forall_mem_cons.mpr ⟨oJ7_fill_d0a16, fun _ h => absurd h List.not_mem_nil⟩⟩⟩⟩⟩⟩⟩⟩⟩⟩⟩⟩⟩⟩⟩⟩
def zk_MT17 : List (zk_M × Nat × Nat) := [(mJ7_fill_53178, 2, 200)]
theorem zk_MTo17 : ∀ q ∈ zk_MT17, zk_mtOk q := List.forall_mem_cons.mpr ⟨oJ7_fill_53178, fun _ h => absurd h List.not_mem_nil⟩
/-- a method by its number: sixteen to a row -/
def zk_mt (a : Nat) : zk_M × Nat × Nat := (match a / 16 with
  | 0 => zk_MT0
  | 1 => zk_MT1
  | 2 => zk_MT2
  | 3 => zk_MT3
  | 4 => zk_MT4
  | 5 => zk_MT5
  | 6 => zk_MT6
  | 7 => zk_MT7
  | 8 => zk_MT8
  | 9 => zk_MT9
  | 10 => zk_MT10
  | 11 => zk_MT11
  | 12 => zk_MT12
  | 13 => zk_MT13
  | 14 => zk_MT14
  | 15 => zk_MT15
  | 16 => zk_MT16
  | _ => zk_MT17).getD (a % 16) (mX0_isKind, 1, 0)
theorem zk_getD {α : Type} {P : α → Prop} {l : List α} {d : α} (h : ∀ q ∈ l, P q) (hd : P d) (i : Nat) : P (l.getD i d) := by
  rw [List.getD_eq_getElem?_getD]
  cases e : l[i]? with
  | none => exact hd
  | some x => exact h x (List.mem_of_getElem? e)
theorem zk_mt_ok (a : Nat) : zk_mtOk (zk_mt a) := by
  unfold zk_mt
  refine zk_getD ?_ oX0_isKind _
  split
  · exact zk_MTo0
  · exact zk_MTo1
  · exact zk_MTo2
  · exact zk_MTo3
  · exact zk_MTo4
  · exact zk_MTo5
  · exact zk_MTo6
  · exact zk_MTo7
  · exact zk_MTo8
  · exact zk_MTo9
  · exact zk_MTo10
  · exact zk_MTo11
  · exact zk_MTo12
  · exact zk_MTo13
  · exact zk_MTo14
  · exact zk_MTo15
  · exact zk_MTo16
  · exact zk_MTo17
theorem zk_jdk_ok : zk_jdk := by
  have hw := zk_in_r [.static Lib.Math.max.name, .code Lib.Math.max.name Lib.Math.max.code 2 (some .int), .static Lib.Math.min.name, .code Lib.Math.min.name Lib.Math.min.code 2 (some .int), .initialized "java/lang/Math", .native arraycopyName, .static arraycopyName, .initialized "java/lang/System"] [637, 638, 640, 641, 105, 543, 542, 103] (by decide +kernel) (by decide +kernel)
  exact ⟨⟨hw _ (by simp), hw _ (by simp), hw _ (by simp), hw _ (by simp), hw _ (by simp)⟩, hw _ (by simp), hw _ (by simp), hw _ (by simp)⟩
theorem zk_lays0 : ∀ w ∈ wsX00, w ∈ zk_uw := zk_in_r _ [389, 391, 393, 395, 397] (by decide +kernel) (by decide +kernel)
theorem zk_lays1 : ∀ w ∈ wsX10, w ∈ zk_uw := zk_in_r _ [167, 169, 171, 173, 175, 177, 179] (by decide +kernel) (by decide +kernel)
theorem zk_lays2 : ∀ w ∈ wsX20, w ∈ zk_uw := zk_in_r _ [351, 353, 355, 357, 359, 361, 363, 365, 367, 369, 371] (by decide +kernel) (by decide +kernel)
theorem zk_lays3 : ∀ w ∈ wsX30, w ∈ zk_uw := zk_in_r _ [237, 239, 241] (by decide +kernel) (by decide +kernel)
theorem zk_lays4 : ∀ w ∈ wsX40, w ∈ zk_uw := zk_in_r _ [144, 146, 148] (by decide +kernel) (by decide +kernel)
theorem zk_lays5 : ∀ w ∈ wsX50, w ∈ zk_uw := zk_in_r _ [203, 205, 207, 209, 211, 213, 215, 217, 219, 221, 223, 225] (by decide +kernel) (by decide +kernel)
theorem zk_lays6 : ∀ w ∈ wsX60, w ∈ zk_uw := zk_in_r _ [299, 301, 303, 305, 307, 309] (by decide +kernel) (by decide +kernel)
theorem zk_lays7 : ∀ w ∈ wsX70, w ∈ zk_uw := zk_in_r _ [322, 324, 326] (by decide +kernel) (by decide +kernel)
theorem zk_lays8 : ∀ w ∈ wsX80, w ∈ zk_uw := zk_in_r _ [418, 420, 422, 424, 426] (by decide +kernel) (by decide +kernel)
theorem zk_lays9 : ∀ w ∈ wsX90, w ∈ zk_uw := zk_in_r _ [] (by decide +kernel) (by decide +kernel)
theorem zk_lays10 : ∀ w ∈ wsX100, w ∈ zk_uw := zk_in_r _ [270, 272, 274, 276, 278, 280] (by decide +kernel) (by decide +kernel)
theorem zk_lays11 : ∀ w ∈ wsX110, w ∈ zk_uw := zk_in_r _ [440, 442, 444, 446, 448, 450, 452, 454, 456, 458] (by decide +kernel) (by decide +kernel)
theorem zk_lays12 : ∀ w ∈ wsX120, w ∈ zk_uw := zk_in_r _ [1278, 1280, 1282, 1284, 1286, 1288, 1290, 1292, 1294, 1296, 1298, 1300, 1302, 1304, 1306, 1308, 1310, 1312, 1314, 1316, 1318, 1320, 1322, 1324, 1326, 1328, 1330, 1332, 1334, 1336, 1338, 1340, 1342, 1344, 1346, 1348, 1350, 1352, 1354, 1356, 1358, 1360, 1362, 1364, 1366, 1368, 1370, 1372, 1374, 1376, 1378, 1380, 1382, 1384, 1386, 1388] (by decide +kernel) (by decide +kernel)
theorem zk_cl_ok : zk_clOk := by
  intro c q hq
  match c, hq with
  | 0, hq => cases hq; exact ⟨zk_lays0, tyX0_ok, nmX0, rfl⟩
  | 1, hq => cases hq; exact ⟨zk_lays1, tyX1_ok, nmX1, rfl⟩
  | 2, hq => cases hq; exact ⟨zk_lays2, tyX2_ok, nmX2, rfl⟩
  | 3, hq => cases hq; exact ⟨zk_lays3, tyX3_ok, nmX3, rfl⟩
  | 4, hq => cases hq; exact ⟨zk_lays4, tyX4_ok, nmX4, rfl⟩
  | 5, hq => cases hq; exact ⟨zk_lays5, tyX5_ok, nmX5, rfl⟩
  | 6, hq => cases hq; exact ⟨zk_lays6, tyX6_ok, nmX6, rfl⟩
  | 7, hq => cases hq; exact ⟨zk_lays7, tyX7_ok, nmX7, rfl⟩
  | 8, hq => cases hq; exact ⟨zk_lays8, tyX8_ok, nmX8, rfl⟩
  | 9, hq => cases hq; exact ⟨zk_lays9, tyX9_ok, nmX9, rfl⟩
  | 10, hq => cases hq; exact ⟨zk_lays10, tyX10_ok, nmX10, rfl⟩
  | 11, hq => cases hq; exact ⟨zk_lays11, tyX11_ok, nmX11, rfl⟩
  | 12, hq => cases hq; exact ⟨zk_lays12, tyX12_ok, nmX12, rfl⟩
  | c + 13, hq => simp at hq
end
section
/-! THE POOLS: what an entry of a class leads to. Written by wip/whole/gen.py -/
def zk_at {α : Type} : List (Nat × α) → Nat → Option α
  | [], _ => none
  | q :: l, i => bif Nat.beq q.1 i then some q.2 else zk_at l i
theorem zk_at_mem {α : Type} {l : List (Nat × α)} {i : Nat} {x : α} (h : zk_at l i = some x) : (i, x) ∈ l := by
  induction l with
  | nil => cases h
  | cons q l ih =>
    unfold zk_at at h
    cases hb : Nat.beq q.1 i with
    | true =>
      rw [hb] at h
      cases h
      rw [Nat.beq_eq] at hb
      subst hb
      exact List.mem_cons_self
    | false =>
      rw [hb] at h
      exact List.mem_cons_of_mem _ (ih h)
def zk_lkl (l : List (Nat × zk_Ln)) (i : Nat) : zk_Ln := match zk_at l i with
  | some e => e
  | none => (99, 0, 0, 0)
theorem zk_lkl_ok {own : String} {l : List (Nat × zk_Ln)} (h : ∀ q ∈ l, zk_lk1 own zk_mt q.1 q.2) (i : Nat) : zk_lk1 own zk_mt i (zk_lkl l i) := by
  unfold zk_lkl
  cases e : zk_at l i with
  | none => trivial
  | some x => exact h (i, x) (zk_at_mem e)
theorem zk_wi1 (n : Nat) {w : Cond} (h : lw_tbl[n]? = some w ∧ goodWord w = true) : w ∈ zk_uw := zk_uw_in (List.mem_of_getElem? h.1) h.2
theorem lkX0_9 : zk_lk1 RX0 zk_mt 9 (1, 0, 0, 0) := ⟨by decide, zk_wi1 380 (by decide +kernel), rfl⟩
theorem lkX0_13 : zk_lk1 RX0 zk_mt 13 (1, 0, 2, 0) := ⟨by decide, zk_wi1 384 (by decide +kernel), rfl⟩
theorem lkX0_16 : zk_lk1 RX0 zk_mt 16 (0, 0, 1, 0) := ⟨by decide, zk_wi1 382 (by decide +kernel), rfl, rfl⟩
theorem lkX0_20 : zk_lk1 RX0 zk_mt 20 (3, 1, 0, 0) := zk_wi1 1126 (by decide +kernel)
theorem lkX0_24 : zk_lk1 RX0 zk_mt 24 (2, 2, 0, 0) := zk_wi1 1140 (by decide +kernel)
theorem lkX0_27 : zk_lk1 RX0 zk_mt 27 (0, 0, 3, 0) := ⟨by decide, zk_wi1 386 (by decide +kernel), rfl, rfl⟩
theorem lkX0_30 : zk_lk1 RX0 zk_mt 30 (5, 0, 0, 0) := zk_wi1 1158 (by decide +kernel)
theorem lkX0_36 : zk_lk1 RX0 zk_mt 36 (0, 0, 4, 0) := ⟨by decide, zk_wi1 388 (by decide +kernel), rfl, rfl⟩
theorem lkX0_39 : zk_lk1 RX0 zk_mt 39 (3, 6, 0, 0) := zk_wi1 1130 (by decide +kernel)
theorem lkX0_43 : zk_lk1 RX0 zk_mt 43 (3, 8, 0, 0) := zk_wi1 1134 (by decide +kernel)
theorem lkX0_46 : zk_lk1 RX0 zk_mt 46 (3, 9, 0, 0) := zk_wi1 1142 (by decide +kernel)
theorem lkX0_49 : zk_lk1 RX0 zk_mt 49 (2, 3, 0, 0) := zk_wi1 1138 (by decide +kernel)
theorem lkX0_52 : zk_lk1 RX0 zk_mt 52 (3, 7, 0, 0) := zk_wi1 1146 (by decide +kernel)
def lkX0 : List (Nat × zk_Ln) := [(9, 1, 0, 0, 0), (13, 1, 0, 2, 0), (16, 0, 0, 1, 0), (20, 3, 1, 0, 0), (24, 2, 2, 0, 0), (27, 0, 0, 3, 0), (30, 5, 0, 0, 0), (36, 0, 0, 4, 0), (39, 3, 6, 0, 0), (43, 3, 8, 0, 0), (46, 3, 9, 0, 0), (49, 2, 3, 0, 0), (52, 3, 7, 0, 0)]
theorem lkX0_ok : ∀ i, zk_lk1 RX0 zk_mt i (zk_lkl lkX0 i) := zk_lkl_ok (List.forall_mem_cons.mpr ⟨lkX0_9, List.forall_mem_cons.mpr ⟨lkX0_13, List.forall_mem_cons.mpr ⟨lkX0_16, List.forall_mem_cons.mpr ⟨lkX0_20, List.forall_mem_cons.mpr ⟨lkX0_24, List.forall_mem_cons.mpr ⟨lkX0_27, List.forall_mem_cons.mpr ⟨lkX0_30, List.forall_mem_cons.mpr ⟨lkX0_36, List.forall_mem_cons.mpr ⟨lkX0_39, List.forall_mem_cons.mpr ⟨lkX0_43, List.forall_mem_cons.mpr ⟨lkX0_46, List.forall_mem_cons.mpr ⟨lkX0_49, List.forall_mem_cons.mpr ⟨lkX0_52, fun _ h => absurd h List.not_mem_nil⟩⟩⟩⟩⟩⟩⟩⟩⟩⟩⟩⟩⟩)
theorem lkX1_9 : zk_lk1 RX1 zk_mt 9 (1, 1, 1, 0) := ⟨by decide, zk_wi1 159 (by decide +kernel), rfl⟩
theorem lkX1_13 : zk_lk1 RX1 zk_mt 13 (1, 1, 2, 0) := ⟨by decide, zk_wi1 160 (by decide +kernel), rfl⟩
theorem lkX1_16 : zk_lk1 RX1 zk_mt 16 (1, 1, 3, 0) := ⟨by decide, zk_wi1 161 (by decide +kernel), rfl⟩
theorem lkX1_19 : zk_lk1 RX1 zk_mt 19 (1, 1, 4, 0) := ⟨by decide, zk_wi1 162 (by decide +kernel), rfl⟩
theorem lkX1_22 : zk_lk1 RX1 zk_mt 22 (1, 1, 0, 0) := ⟨by decide, zk_wi1 158 (by decide +kernel), rfl⟩
theorem lkX1_26 : zk_lk1 RX1 zk_mt 26 (0, 1, 5, 0) := ⟨by decide, zk_wi1 163 (by decide +kernel), rfl, rfl⟩
theorem lkX1_30 : zk_lk1 RX1 zk_mt 30 (3, 13, 0, 0) := zk_wi1 537 (by decide +kernel)
theorem lkX1_33 : zk_lk1 RX1 zk_mt 33 (1, 4, 0, 0) := ⟨by decide, zk_wi1 131 (by decide +kernel), rfl⟩
theorem lkX1_39 : zk_lk1 RX1 zk_mt 39 (0, 1, 6, 0) := ⟨by decide, zk_wi1 165 (by decide +kernel), rfl, rfl⟩
theorem lkX1_42 : zk_lk1 RX1 zk_mt 42 (6, 0, 0, 0) := zk_wi1 541 (by decide +kernel)
def lkX1 : List (Nat × zk_Ln) := [(9, 1, 1, 1, 0), (13, 1, 1, 2, 0), (16, 1, 1, 3, 0), (19, 1, 1, 4, 0), (22, 1, 1, 0, 0), (26, 0, 1, 5, 0), (30, 3, 13, 0, 0), (33, 1, 4, 0, 0), (39, 0, 1, 6, 0), (42, 6, 0, 0, 0)]
theorem lkX1_ok : ∀ i, zk_lk1 RX1 zk_mt i (zk_lkl lkX1 i) := zk_lkl_ok (List.forall_mem_cons.mpr ⟨lkX1_9, List.forall_mem_cons.mpr ⟨lkX1_13, List.forall_mem_cons.mpr ⟨lkX1_16, List.forall_mem_cons.mpr ⟨lkX1_19, List.forall_mem_cons.mpr ⟨lkX1_22, List.forall_mem_cons.mpr ⟨lkX1_26, List.forall_mem_cons.mpr ⟨lkX1_30, List.forall_mem_cons.mpr ⟨lkX1_33, List.forall_mem_cons.mpr ⟨lkX1_39, List.forall_mem_cons.mpr ⟨lkX1_42, fun _ h => absurd h List.not_mem_nil⟩⟩⟩⟩⟩⟩⟩⟩⟩⟩)
theorem lkX2_11 : zk_lk1 RX2 zk_mt 11 (1, 2, 10, 0) := ⟨by decide, zk_wi1 350 (by decide +kernel), rfl⟩
theorem lkX2_17 : zk_lk1 RX2 zk_mt 17 (1, 2, 0, 0) := ⟨by decide, zk_wi1 335 (by decide +kernel), rfl⟩
theorem lkX2_21 : zk_lk1 RX2 zk_mt 21 (0, 2, 1, 0) := ⟨by decide, zk_wi1 336 (by decide +kernel), rfl, rfl⟩
theorem lkX2_25 : zk_lk1 RX2 zk_mt 25 (3, 35, 0, 0) := zk_wi1 1056 (by decide +kernel)
theorem lkX2_29 : zk_lk1 RX2 zk_mt 29 (1, 4, 0, 0) := ⟨by decide, zk_wi1 132 (by decide +kernel), rfl⟩
theorem lkX2_33 : zk_lk1 RX2 zk_mt 33 (0, 2, 2, 0) := ⟨by decide, zk_wi1 338 (by decide +kernel), rfl, rfl⟩
theorem lkX2_36 : zk_lk1 RX2 zk_mt 36 (0, 2, 3, 0) := ⟨by decide, zk_wi1 340 (by decide +kernel), rfl, rfl⟩
theorem lkX2_39 : zk_lk1 RX2 zk_mt 39 (0, 2, 4, 0) := ⟨by decide, zk_wi1 342 (by decide +kernel), rfl, rfl⟩
theorem lkX2_42 : zk_lk1 RX2 zk_mt 42 (12, 2, 5, 0) := ⟨by decide, zk_wi1 344 (by decide +kernel), rfl, rfl⟩
theorem lkX2_46 : zk_lk1 RX2 zk_mt 46 (0, 2, 6, 0) := ⟨by decide, zk_wi1 346 (by decide +kernel), rfl, rfl⟩
theorem lkX2_49 : zk_lk1 RX2 zk_mt 49 (0, 2, 7, 0) := ⟨by decide, zk_wi1 347 (by decide +kernel), rfl, rfl⟩
theorem lkX2_52 : zk_lk1 RX2 zk_mt 52 (0, 2, 8, 0) := ⟨by decide, zk_wi1 348 (by decide +kernel), rfl, rfl⟩
theorem lkX2_55 : zk_lk1 RX2 zk_mt 55 (0, 2, 9, 0) := ⟨by decide, zk_wi1 349 (by decide +kernel), rfl, rfl⟩
theorem lkX2_58 : zk_lk1 RX2 zk_mt 58 (6, 0, 0, 0) := zk_wi1 1081 (by decide +kernel)
def lkX2 : List (Nat × zk_Ln) := [(11, 1, 2, 10, 0), (17, 1, 2, 0, 0), (21, 0, 2, 1, 0), (25, 3, 35, 0, 0), (29, 1, 4, 0, 0), (33, 0, 2, 2, 0), (36, 0, 2, 3, 0), (39, 0, 2, 4, 0), (42, 12, 2, 5, 0), (46, 0, 2, 6, 0), (49, 0, 2, 7, 0), (52, 0, 2, 8, 0), (55, 0, 2, 9, 0), (58, 6, 0, 0, 0)]
theorem lkX2_ok : ∀ i, zk_lk1 RX2 zk_mt i (zk_lkl lkX2 i) := zk_lkl_ok (List.forall_mem_cons.mpr ⟨lkX2_11, List.forall_mem_cons.mpr ⟨lkX2_17, List.forall_mem_cons.mpr ⟨lkX2_21, List.forall_mem_cons.mpr ⟨lkX2_25, List.forall_mem_cons.mpr ⟨lkX2_29, List.forall_mem_cons.mpr ⟨lkX2_33, List.forall_mem_cons.mpr ⟨lkX2_36, List.forall_mem_cons.mpr ⟨lkX2_39, List.forall_mem_cons.mpr ⟨lkX2_42, List.forall_mem_cons.mpr ⟨lkX2_46, List.forall_mem_cons.mpr ⟨lkX2_49, List.forall_mem_cons.mpr ⟨lkX2_52, List.forall_mem_cons.mpr ⟨lkX2_55, List.forall_mem_cons.mpr ⟨lkX2_58, fun _ h => absurd h List.not_mem_nil⟩⟩⟩⟩⟩⟩⟩⟩⟩⟩⟩⟩⟩⟩)
theorem lkX3_9 : zk_lk1 RX3 zk_mt 9 (1, 3, 0, 0) := ⟨by decide, zk_wi1 234 (by decide +kernel), rfl⟩
theorem lkX3_15 : zk_lk1 RX3 zk_mt 15 (1, 3, 2, 0) := ⟨by decide, zk_wi1 236 (by decide +kernel), rfl⟩
theorem lkX3_18 : zk_lk1 RX3 zk_mt 18 (0, 3, 1, 0) := ⟨by decide, zk_wi1 235 (by decide +kernel), rfl, rfl⟩
theorem lkX3_22 : zk_lk1 RX3 zk_mt 22 (6, 0, 0, 0) := zk_wi1 698 (by decide +kernel)
theorem lkX3_28 : zk_lk1 RX3 zk_mt 28 (3, 23, 0, 0) := zk_wi1 772 (by decide +kernel)
theorem lkX3_32 : zk_lk1 RX3 zk_mt 32 (4, 0, 0, 0) := zk_wi1 776 (by decide +kernel)
theorem lkX3_38 : zk_lk1 RX3 zk_mt 38 (3, 24, 0, 0) := zk_wi1 777 (by decide +kernel)
def lkX3 : List (Nat × zk_Ln) := [(9, 1, 3, 0, 0), (15, 1, 3, 2, 0), (18, 0, 3, 1, 0), (22, 6, 0, 0, 0), (28, 3, 23, 0, 0), (32, 4, 0, 0, 0), (38, 3, 24, 0, 0)]
theorem lkX3_ok : ∀ i, zk_lk1 RX3 zk_mt i (zk_lkl lkX3 i) := zk_lkl_ok (List.forall_mem_cons.mpr ⟨lkX3_9, List.forall_mem_cons.mpr ⟨lkX3_15, List.forall_mem_cons.mpr ⟨lkX3_18, List.forall_mem_cons.mpr ⟨lkX3_22, List.forall_mem_cons.mpr ⟨lkX3_28, List.forall_mem_cons.mpr ⟨lkX3_32, List.forall_mem_cons.mpr ⟨lkX3_38, fun _ h => absurd h List.not_mem_nil⟩⟩⟩⟩⟩⟩⟩)
theorem lkX4_13 : zk_lk1 RX4 zk_mt 13 (1, 4, 0, 0) := ⟨by decide, zk_wi1 129 (by decide +kernel), rfl⟩
theorem lkX4_22 : zk_lk1 RX4 zk_mt 22 (0, 4, 1, 0) := ⟨by decide, zk_wi1 135 (by decide +kernel), rfl, rfl⟩
theorem lkX4_26 : zk_lk1 RX4 zk_mt 26 (0, 4, 2, 0) := ⟨by decide, zk_wi1 140 (by decide +kernel), rfl, rfl⟩
theorem lkX4_29 : zk_lk1 RX4 zk_mt 29 (3, 26, 0, 0) := zk_wi1 528 (by decide +kernel)
theorem lkX4_33 : zk_lk1 RX4 zk_mt 33 (3, 25, 0, 0) := zk_wi1 527 (by decide +kernel)
theorem lkX4_36 : zk_lk1 RX4 zk_mt 36 (2, 0, 0, 0) := zk_wi1 469 (by decide +kernel)
theorem lkX4_40 : zk_lk1 RX4 zk_mt 40 (2, 1, 0, 0) := zk_wi1 471 (by decide +kernel)
theorem lkX4_43 : zk_lk1 RX4 zk_mt 43 (3, 36, 0, 0) := zk_wi1 515 (by decide +kernel)
theorem lkX4_47 : zk_lk1 RX4 zk_mt 47 (3, 38, 0, 0) := zk_wi1 720 (by decide +kernel)
theorem lkX4_51 : zk_lk1 RX4 zk_mt 51 (3, 39, 0, 0) := zk_wi1 728 (by decide +kernel)
theorem lkX4_54 : zk_lk1 RX4 zk_mt 54 (3, 42, 0, 0) := zk_wi1 708 (by decide +kernel)
theorem lkX4_58 : zk_lk1 RX4 zk_mt 58 (3, 43, 0, 0) := zk_wi1 712 (by decide +kernel)
theorem lkX4_62 : zk_lk1 RX4 zk_mt 62 (3, 45, 0, 0) := zk_wi1 716 (by decide +kernel)
theorem lkX4_66 : zk_lk1 RX4 zk_mt 66 (3, 44, 0, 0) := zk_wi1 724 (by decide +kernel)
theorem lkX4_69 : zk_lk1 RX4 zk_mt 69 (3, 48, 0, 0) := zk_wi1 870 (by decide +kernel)
def lkX4 : List (Nat × zk_Ln) := [(13, 1, 4, 0, 0), (22, 0, 4, 1, 0), (26, 0, 4, 2, 0), (29, 3, 26, 0, 0), (33, 3, 25, 0, 0), (36, 2, 0, 0, 0), (40, 2, 1, 0, 0), (43, 3, 36, 0, 0), (47, 3, 38, 0, 0), (51, 3, 39, 0, 0), (54, 3, 42, 0, 0), (58, 3, 43, 0, 0), (62, 3, 45, 0, 0), (66, 3, 44, 0, 0), (69, 3, 48, 0, 0)]
theorem lkX4_ok : ∀ i, zk_lk1 RX4 zk_mt i (zk_lkl lkX4 i) := zk_lkl_ok (List.forall_mem_cons.mpr ⟨lkX4_13, List.forall_mem_cons.mpr ⟨lkX4_22, List.forall_mem_cons.mpr ⟨lkX4_26, List.forall_mem_cons.mpr ⟨lkX4_29, List.forall_mem_cons.mpr ⟨lkX4_33, List.forall_mem_cons.mpr ⟨lkX4_36, List.forall_mem_cons.mpr ⟨lkX4_40, List.forall_mem_cons.mpr ⟨lkX4_43, List.forall_mem_cons.mpr ⟨lkX4_47, List.forall_mem_cons.mpr ⟨lkX4_51, List.forall_mem_cons.mpr ⟨lkX4_54, List.forall_mem_cons.mpr ⟨lkX4_58, List.forall_mem_cons.mpr ⟨lkX4_62, List.forall_mem_cons.mpr ⟨lkX4_66, List.forall_mem_cons.mpr ⟨lkX4_69, fun _ h => absurd h List.not_mem_nil⟩⟩⟩⟩⟩⟩⟩⟩⟩⟩⟩⟩⟩⟩⟩)
theorem lkX5_9 : zk_lk1 RX5 zk_mt 9 (1, 5, 0, 0) := ⟨by decide, zk_wi1 188 (by decide +kernel), rfl⟩
theorem lkX5_15 : zk_lk1 RX5 zk_mt 15 (1, 5, 2, 0) := ⟨by decide, zk_wi1 191 (by decide +kernel), rfl⟩
theorem lkX5_18 : zk_lk1 RX5 zk_mt 18 (1, 5, 4, 0) := ⟨by decide, zk_wi1 195 (by decide +kernel), rfl⟩
theorem lkX5_21 : zk_lk1 RX5 zk_mt 21 (0, 5, 1, 0) := ⟨by decide, zk_wi1 189 (by decide +kernel), rfl, rfl⟩
theorem lkX5_25 : zk_lk1 RX5 zk_mt 25 (3, 51, 0, 0) := zk_wi1 564 (by decide +kernel)
theorem lkX5_28 : zk_lk1 RX5 zk_mt 28 (3, 52, 0, 0) := zk_wi1 568 (by decide +kernel)
theorem lkX5_32 : zk_lk1 RX5 zk_mt 32 (12, 5, 8, 0) := ⟨by decide, zk_wi1 199 (by decide +kernel), rfl, rfl⟩
theorem lkX5_36 : zk_lk1 RX5 zk_mt 36 (0, 5, 7, 0) := ⟨by decide, zk_wi1 198 (by decide +kernel), rfl, rfl⟩
theorem lkX5_39 : zk_lk1 RX5 zk_mt 39 (3, 57, 0, 0) := zk_wi1 596 (by decide +kernel)
theorem lkX5_43 : zk_lk1 RX5 zk_mt 43 (0, 5, 3, 0) := ⟨by decide, zk_wi1 193 (by decide +kernel), rfl, rfl⟩
theorem lkX5_46 : zk_lk1 RX5 zk_mt 46 (0, 5, 5, 0) := ⟨by decide, zk_wi1 196 (by decide +kernel), rfl, rfl⟩
theorem lkX5_49 : zk_lk1 RX5 zk_mt 49 (0, 5, 6, 0) := ⟨by decide, zk_wi1 197 (by decide +kernel), rfl, rfl⟩
theorem lkX5_52 : zk_lk1 RX5 zk_mt 52 (12, 5, 9, 0) := ⟨by decide, zk_wi1 200 (by decide +kernel), rfl, rfl⟩
theorem lkX5_55 : zk_lk1 RX5 zk_mt 55 (0, 5, 10, 0) := ⟨by decide, zk_wi1 201 (by decide +kernel), rfl, rfl⟩
theorem lkX5_58 : zk_lk1 RX5 zk_mt 58 (0, 5, 11, 0) := ⟨by decide, zk_wi1 202 (by decide +kernel), rfl, rfl⟩
theorem lkX5_61 : zk_lk1 RX5 zk_mt 61 (3, 55, 0, 0) := zk_wi1 572 (by decide +kernel)
theorem lkX5_64 : zk_lk1 RX5 zk_mt 64 (3, 53, 0, 0) := zk_wi1 608 (by decide +kernel)
theorem lkX5_67 : zk_lk1 RX5 zk_mt 67 (3, 54, 0, 0) := zk_wi1 612 (by decide +kernel)
theorem lkX5_70 : zk_lk1 RX5 zk_mt 70 (3, 63, 0, 0) := zk_wi1 588 (by decide +kernel)
theorem lkX5_74 : zk_lk1 RX5 zk_mt 74 (3, 59, 0, 0) := zk_wi1 592 (by decide +kernel)
theorem lkX5_77 : zk_lk1 RX5 zk_mt 77 (9, 0, 0, 0) := Or.inl ⟨rfl, rfl⟩
theorem lkX5_79 : zk_lk1 RX5 zk_mt 79 (3, 264, 0, 0) := zk_wi1 617 (by decide +kernel)
theorem lkX5_85 : zk_lk1 RX5 zk_mt 85 (3, 62, 0, 0) := zk_wi1 604 (by decide +kernel)
theorem lkX5_88 : zk_lk1 RX5 zk_mt 88 (3, 56, 0, 0) := zk_wi1 576 (by decide +kernel)
theorem lkX5_92 : zk_lk1 RX5 zk_mt 92 (3, 58, 0, 0) := zk_wi1 600 (by decide +kernel)
theorem lkX5_95 : zk_lk1 RX5 zk_mt 95 (3, 60, 0, 0) := zk_wi1 580 (by decide +kernel)
theorem lkX5_98 : zk_lk1 RX5 zk_mt 98 (3, 61, 0, 0) := zk_wi1 584 (by decide +kernel)
def lkX5 : List (Nat × zk_Ln) := [(9, 1, 5, 0, 0), (15, 1, 5, 2, 0), (18, 1, 5, 4, 0), (21, 0, 5, 1, 0), (25, 3, 51, 0, 0), (28, 3, 52, 0, 0), (32, 12, 5, 8, 0), (36, 0, 5, 7, 0), (39, 3, 57, 0, 0), (43, 0, 5, 3, 0), (46, 0, 5, 5, 0), (49, 0, 5, 6, 0), (52, 12, 5, 9, 0), (55, 0, 5, 10, 0), (58, 0, 5, 11, 0), (61, 3, 55, 0, 0), (64, 3, 53, 0, 0), (67, 3, 54, 0, 0), (70, 3, 63, 0, 0), (74, 3, 59, 0, 0), (77, 9, 0, 0, 0), (79, 3, 264, 0, 0), (85, 3, 62, 0, 0), (88, 3, 56, 0, 0), (92, 3, 58, 0, 0), (95, 3, 60, 0, 0), (98, 3, 61, 0, 0)]
theorem lkX5_ok : ∀ i, zk_lk1 RX5 zk_mt i (zk_lkl lkX5 i) := zk_lkl_ok (List.forall_mem_cons.mpr ⟨lkX5_9, List.forall_mem_cons.mpr ⟨lkX5_15, List.forall_mem_cons.mpr ⟨lkX5_18, List.forall_mem_cons.mpr ⟨lkX5_21, List.forall_mem_cons.mpr ⟨lkX5_25, List.forall_mem_cons.mpr ⟨lkX5_28, List.forall_mem_cons.mpr ⟨lkX5_32, List.forall_mem_cons.mpr ⟨lkX5_36, List.forall_mem_cons.mpr ⟨lkX5_39, List.forall_mem_cons.mpr ⟨lkX5_43, List.forall_mem_cons.mpr ⟨lkX5_46, List.forall_mem_cons.mpr ⟨lkX5_49, List.forall_mem_cons.mpr ⟨lkX5_52, List.forall_mem_cons.mpr ⟨lkX5_55, List.forall_mem_cons.mpr ⟨lkX5_58, List.forall_mem_cons.mpr ⟨lkX5_61, List.forall_mem_cons.mpr ⟨lkX5_64, List.forall_mem_cons.mpr ⟨lkX5_67, List.forall_mem_cons.mpr ⟨lkX5_70, List.forall_mem_cons.mpr ⟨lkX5_74, List.forall_mem_cons.mpr ⟨lkX5_77, List.forall_mem_cons.mpr ⟨lkX5_79, List.forall_mem_cons.mpr ⟨lkX5_85, List.forall_mem_cons.mpr ⟨lkX5_88, List.forall_mem_cons.mpr ⟨lkX5_92, List.forall_mem_cons.mpr ⟨lkX5_95, List.forall_mem_cons.mpr ⟨lkX5_98, fun _ h => absurd h List.not_mem_nil⟩⟩⟩⟩⟩⟩⟩⟩⟩⟩⟩⟩⟩⟩⟩⟩⟩⟩⟩⟩⟩⟩⟩⟩⟩⟩⟩)
theorem lkX6_11 : zk_lk1 RX6 zk_mt 11 (1, 6, 2, 0) := ⟨by decide, zk_wi1 292 (by decide +kernel), rfl⟩
theorem lkX6_17 : zk_lk1 RX6 zk_mt 17 (1, 6, 0, 0) := ⟨by decide, zk_wi1 290 (by decide +kernel), rfl⟩
theorem lkX6_21 : zk_lk1 RX6 zk_mt 21 (1, 6, 1, 0) := ⟨by decide, zk_wi1 291 (by decide +kernel), rfl⟩
theorem lkX6_25 : zk_lk1 RX6 zk_mt 25 (3, 92, 0, 0) := zk_wi1 890 (by decide +kernel)
theorem lkX6_31 : zk_lk1 RX6 zk_mt 31 (3, 65, 0, 0) := zk_wi1 891 (by decide +kernel)
theorem lkX6_35 : zk_lk1 RX6 zk_mt 35 (4, 0, 0, 0) := zk_wi1 901 (by decide +kernel)
theorem lkX6_40 : zk_lk1 RX6 zk_mt 40 (0, 4, 1, 0) := ⟨by decide, zk_wi1 138 (by decide +kernel), rfl, rfl⟩
theorem lkX6_44 : zk_lk1 RX6 zk_mt 44 (3, 66, 0, 0) := zk_wi1 895 (by decide +kernel)
theorem lkX6_48 : zk_lk1 RX6 zk_mt 48 (1, 10, 3, 0) := ⟨by decide, zk_wi1 265 (by decide +kernel), rfl⟩
theorem lkX6_51 : zk_lk1 RX6 zk_mt 51 (3, 38, 0, 0) := zk_wi1 899 (by decide +kernel)
theorem lkX6_55 : zk_lk1 RX6 zk_mt 55 (1, 4, 0, 0) := ⟨by decide, zk_wi1 133 (by decide +kernel), rfl⟩
theorem lkX6_59 : zk_lk1 RX6 zk_mt 59 (3, 37, 0, 0) := zk_wi1 900 (by decide +kernel)
theorem lkX6_62 : zk_lk1 RX6 zk_mt 62 (3, 67, 0, 0) := zk_wi1 918 (by decide +kernel)
theorem lkX6_65 : zk_lk1 RX6 zk_mt 65 (3, 42, 0, 0) := zk_wi1 927 (by decide +kernel)
theorem lkX6_68 : zk_lk1 RX6 zk_mt 68 (3, 262, 0, 0) := zk_wi1 928 (by decide +kernel)
theorem lkX6_73 : zk_lk1 RX6 zk_mt 73 (0, 6, 3, 0) := ⟨by decide, zk_wi1 293 (by decide +kernel), rfl, rfl⟩
theorem lkX6_76 : zk_lk1 RX6 zk_mt 76 (0, 6, 4, 0) := ⟨by decide, zk_wi1 295 (by decide +kernel), rfl, rfl⟩
theorem lkX6_79 : zk_lk1 RX6 zk_mt 79 (0, 6, 5, 0) := ⟨by decide, zk_wi1 297 (by decide +kernel), rfl, rfl⟩
theorem lkX6_82 : zk_lk1 RX6 zk_mt 82 (3, 40, 0, 0) := zk_wi1 941 (by decide +kernel)
theorem lkX6_85 : zk_lk1 RX6 zk_mt 85 (3, 36, 0, 0) := zk_wi1 945 (by decide +kernel)
theorem lkX6_89 : zk_lk1 RX6 zk_mt 89 (3, 71, 0, 0) := zk_wi1 946 (by decide +kernel)
theorem lkX6_92 : zk_lk1 RX6 zk_mt 92 (0, 4, 2, 0) := ⟨by decide, zk_wi1 143 (by decide +kernel), rfl, rfl⟩
theorem lkX6_95 : zk_lk1 RX6 zk_mt 95 (3, 96, 0, 0) := zk_wi1 1022 (by decide +kernel)
theorem lkX6_98 : zk_lk1 RX6 zk_mt 98 (3, 43, 0, 0) := zk_wi1 1023 (by decide +kernel)
theorem lkX6_102 : zk_lk1 RX6 zk_mt 102 (7, 0, 0, 1000000) := zk_wi1 1024 (by decide +kernel)
theorem lkX6_103 : zk_lk1 RX6 zk_mt 103 (3, 272, 0, 0) := zk_wi1 1033 (by decide +kernel)
theorem lkX6_109 : zk_lk1 RX6 zk_mt 109 (7, 0, 0, 1103515245) := zk_wi1 1034 (by decide +kernel)
theorem lkX6_110 : zk_lk1 RX6 zk_mt 110 (3, 74, 0, 0) := zk_wi1 1035 (by decide +kernel)
def lkX6 : List (Nat × zk_Ln) := [(11, 1, 6, 2, 0), (17, 1, 6, 0, 0), (21, 1, 6, 1, 0), (25, 3, 92, 0, 0), (31, 3, 65, 0, 0), (35, 4, 0, 0, 0), (40, 0, 4, 1, 0), (44, 3, 66, 0, 0), (48, 1, 10, 3, 0), (51, 3, 38, 0, 0), (55, 1, 4, 0, 0), (59, 3, 37, 0, 0), (62, 3, 67, 0, 0), (65, 3, 42, 0, 0), (68, 3, 262, 0, 0), (73, 0, 6, 3, 0), (76, 0, 6, 4, 0), (79, 0, 6, 5, 0), (82, 3, 40, 0, 0), (85, 3, 36, 0, 0), (89, 3, 71, 0, 0), (92, 0, 4, 2, 0), (95, 3, 96, 0, 0), (98, 3, 43, 0, 0), (102, 7, 0, 0, 1000000), (103, 3, 272, 0, 0), (109, 7, 0, 0, 1103515245), (110, 3, 74, 0, 0)]
theorem lkX6_ok : ∀ i, zk_lk1 RX6 zk_mt i (zk_lkl lkX6 i) := zk_lkl_ok (List.forall_mem_cons.mpr ⟨lkX6_11, List.forall_mem_cons.mpr ⟨lkX6_17, List.forall_mem_cons.mpr ⟨lkX6_21, List.forall_mem_cons.mpr ⟨lkX6_25, List.forall_mem_cons.mpr ⟨lkX6_31, List.forall_mem_cons.mpr ⟨lkX6_35, List.forall_mem_cons.mpr ⟨lkX6_40, List.forall_mem_cons.mpr ⟨lkX6_44, List.forall_mem_cons.mpr ⟨lkX6_48, List.forall_mem_cons.mpr ⟨lkX6_51, List.forall_mem_cons.mpr ⟨lkX6_55, List.forall_mem_cons.mpr ⟨lkX6_59, List.forall_mem_cons.mpr ⟨lkX6_62, List.forall_mem_cons.mpr ⟨lkX6_65, List.forall_mem_cons.mpr ⟨lkX6_68, List.forall_mem_cons.mpr ⟨lkX6_73, List.forall_mem_cons.mpr ⟨lkX6_76, List.forall_mem_cons.mpr ⟨lkX6_79, List.forall_mem_cons.mpr ⟨lkX6_82, List.forall_mem_cons.mpr ⟨lkX6_85, List.forall_mem_cons.mpr ⟨lkX6_89, List.forall_mem_cons.mpr ⟨lkX6_92, List.forall_mem_cons.mpr ⟨lkX6_95, List.forall_mem_cons.mpr ⟨lkX6_98, List.forall_mem_cons.mpr ⟨lkX6_102, List.forall_mem_cons.mpr ⟨lkX6_103, List.forall_mem_cons.mpr ⟨lkX6_109, List.forall_mem_cons.mpr ⟨lkX6_110, fun _ h => absurd h List.not_mem_nil⟩⟩⟩⟩⟩⟩⟩⟩⟩⟩⟩⟩⟩⟩⟩⟩⟩⟩⟩⟩⟩⟩⟩⟩⟩⟩⟩⟩)
theorem lkX7_11 : zk_lk1 RX7 zk_mt 11 (1, 7, 2, 0) := ⟨by decide, zk_wi1 320 (by decide +kernel), rfl⟩
theorem lkX7_17 : zk_lk1 RX7 zk_mt 17 (1, 7, 0, 0) := ⟨by decide, zk_wi1 318 (by decide +kernel), rfl⟩
theorem lkX7_21 : zk_lk1 RX7 zk_mt 21 (1, 7, 1, 0) := ⟨by decide, zk_wi1 319 (by decide +kernel), rfl⟩
theorem lkX7_25 : zk_lk1 RX7 zk_mt 25 (0, 8, 3, 0) := ⟨by decide, zk_wi1 413 (by decide +kernel), rfl, rfl⟩
theorem lkX7_31 : zk_lk1 RX7 zk_mt 31 (3, 76, 0, 0) := zk_wi1 493 (by decide +kernel)
theorem lkX7_35 : zk_lk1 RX7 zk_mt 35 (1, 8, 4, 0) := ⟨by decide, zk_wi1 416 (by decide +kernel), rfl⟩
theorem lkX7_39 : zk_lk1 RX7 zk_mt 39 (3, 33, 0, 0) := zk_wi1 497 (by decide +kernel)
theorem lkX7_43 : zk_lk1 RX7 zk_mt 43 (0, 4, 1, 0) := ⟨by decide, zk_wi1 139 (by decide +kernel), rfl, rfl⟩
theorem lkX7_46 : zk_lk1 RX7 zk_mt 46 (3, 34, 0, 0) := zk_wi1 498 (by decide +kernel)
theorem lkX7_50 : zk_lk1 RX7 zk_mt 50 (3, 25, 0, 0) := zk_wi1 967 (by decide +kernel)
theorem lkX7_54 : zk_lk1 RX7 zk_mt 54 (3, 39, 0, 0) := zk_wi1 968 (by decide +kernel)
theorem lkX7_57 : zk_lk1 RX7 zk_mt 57 (3, 272, 0, 0) := zk_wi1 973 (by decide +kernel)
theorem lkX7_63 : zk_lk1 RX7 zk_mt 63 (3, 81, 0, 0) := zk_wi1 990 (by decide +kernel)
theorem lkX7_66 : zk_lk1 RX7 zk_mt 66 (3, 26, 0, 0) := zk_wi1 994 (by decide +kernel)
theorem lkX7_69 : zk_lk1 RX7 zk_mt 69 (3, 41, 0, 0) := zk_wi1 995 (by decide +kernel)
theorem lkX7_73 : zk_lk1 RX7 zk_mt 73 (3, 83, 0, 0) := zk_wi1 1004 (by decide +kernel)
theorem lkX7_77 : zk_lk1 RX7 zk_mt 77 (3, 84, 0, 0) := zk_wi1 1009 (by decide +kernel)
theorem lkX7_80 : zk_lk1 RX7 zk_mt 80 (3, 262, 0, 0) := zk_wi1 1008 (by decide +kernel)
theorem lkX7_85 : zk_lk1 RX7 zk_mt 85 (3, 92, 0, 0) := zk_wi1 1013 (by decide +kernel)
theorem lkX7_90 : zk_lk1 RX7 zk_mt 90 (1, 10, 3, 0) := ⟨by decide, zk_wi1 267 (by decide +kernel), rfl⟩
def lkX7 : List (Nat × zk_Ln) := [(11, 1, 7, 2, 0), (17, 1, 7, 0, 0), (21, 1, 7, 1, 0), (25, 0, 8, 3, 0), (31, 3, 76, 0, 0), (35, 1, 8, 4, 0), (39, 3, 33, 0, 0), (43, 0, 4, 1, 0), (46, 3, 34, 0, 0), (50, 3, 25, 0, 0), (54, 3, 39, 0, 0), (57, 3, 272, 0, 0), (63, 3, 81, 0, 0), (66, 3, 26, 0, 0), (69, 3, 41, 0, 0), (73, 3, 83, 0, 0), (77, 3, 84, 0, 0), (80, 3, 262, 0, 0), (85, 3, 92, 0, 0), (90, 1, 10, 3, 0)]
theorem lkX7_ok : ∀ i, zk_lk1 RX7 zk_mt i (zk_lkl lkX7 i) := zk_lkl_ok (List.forall_mem_cons.mpr ⟨lkX7_11, List.forall_mem_cons.mpr ⟨lkX7_17, List.forall_mem_cons.mpr ⟨lkX7_21, List.forall_mem_cons.mpr ⟨lkX7_25, List.forall_mem_cons.mpr ⟨lkX7_31, List.forall_mem_cons.mpr ⟨lkX7_35, List.forall_mem_cons.mpr ⟨lkX7_39, List.forall_mem_cons.mpr ⟨lkX7_43, List.forall_mem_cons.mpr ⟨lkX7_46, List.forall_mem_cons.mpr ⟨lkX7_50, List.forall_mem_cons.mpr ⟨lkX7_54, List.forall_mem_cons.mpr ⟨lkX7_57, List.forall_mem_cons.mpr ⟨lkX7_63, List.forall_mem_cons.mpr ⟨lkX7_66, List.forall_mem_cons.mpr ⟨lkX7_69, List.forall_mem_cons.mpr ⟨lkX7_73, List.forall_mem_cons.mpr ⟨lkX7_77, List.forall_mem_cons.mpr ⟨lkX7_80, List.forall_mem_cons.mpr ⟨lkX7_85, List.forall_mem_cons.mpr ⟨lkX7_90, fun _ h => absurd h List.not_mem_nil⟩⟩⟩⟩⟩⟩⟩⟩⟩⟩⟩⟩⟩⟩⟩⟩⟩⟩⟩⟩)
theorem lkX8_11 : zk_lk1 RX8 zk_mt 11 (1, 8, 4, 0) := ⟨by decide, zk_wi1 415 (by decide +kernel), rfl⟩
theorem lkX8_15 : zk_lk1 RX8 zk_mt 15 (0, 8, 0, 0) := ⟨by decide, zk_wi1 407 (by decide +kernel), rfl, rfl⟩
theorem lkX8_19 : zk_lk1 RX8 zk_mt 19 (0, 8, 1, 0) := ⟨by decide, zk_wi1 409 (by decide +kernel), rfl, rfl⟩
theorem lkX8_22 : zk_lk1 RX8 zk_mt 22 (0, 8, 2, 0) := ⟨by decide, zk_wi1 411 (by decide +kernel), rfl, rfl⟩
theorem lkX8_25 : zk_lk1 RX8 zk_mt 25 (0, 8, 3, 0) := ⟨by decide, zk_wi1 414 (by decide +kernel), rfl, rfl⟩
theorem lkX8_28 : zk_lk1 RX8 zk_mt 28 (3, 271, 0, 0) := zk_wi1 1176 (by decide +kernel)
theorem lkX8_34 : zk_lk1 RX8 zk_mt 34 (3, 87, 0, 0) := zk_wi1 962 (by decide +kernel)
def lkX8 : List (Nat × zk_Ln) := [(11, 1, 8, 4, 0), (15, 0, 8, 0, 0), (19, 0, 8, 1, 0), (22, 0, 8, 2, 0), (25, 0, 8, 3, 0), (28, 3, 271, 0, 0), (34, 3, 87, 0, 0)]
theorem lkX8_ok : ∀ i, zk_lk1 RX8 zk_mt i (zk_lkl lkX8 i) := zk_lkl_ok (List.forall_mem_cons.mpr ⟨lkX8_11, List.forall_mem_cons.mpr ⟨lkX8_15, List.forall_mem_cons.mpr ⟨lkX8_19, List.forall_mem_cons.mpr ⟨lkX8_22, List.forall_mem_cons.mpr ⟨lkX8_25, List.forall_mem_cons.mpr ⟨lkX8_28, List.forall_mem_cons.mpr ⟨lkX8_34, fun _ h => absurd h List.not_mem_nil⟩⟩⟩⟩⟩⟩⟩)
theorem lkX10_19 : zk_lk1 RX10 zk_mt 19 (1, 10, 2, 0) := ⟨by decide, zk_wi1 263 (by decide +kernel), rfl⟩
theorem lkX10_27 : zk_lk1 RX10 zk_mt 27 (1, 10, 3, 0) := ⟨by decide, zk_wi1 264 (by decide +kernel), rfl⟩
theorem lkX10_30 : zk_lk1 RX10 zk_mt 30 (1, 10, 4, 0) := ⟨by decide, zk_wi1 268 (by decide +kernel), rfl⟩
theorem lkX10_33 : zk_lk1 RX10 zk_mt 33 (1, 10, 5, 0) := ⟨by decide, zk_wi1 269 (by decide +kernel), rfl⟩
theorem lkX10_36 : zk_lk1 RX10 zk_mt 36 (1, 10, 0, 0) := ⟨by decide, zk_wi1 261 (by decide +kernel), rfl⟩
theorem lkX10_40 : zk_lk1 RX10 zk_mt 40 (1, 10, 1, 0) := ⟨by decide, zk_wi1 262 (by decide +kernel), rfl⟩
theorem lkX10_44 : zk_lk1 RX10 zk_mt 44 (1, 4, 0, 0) := ⟨by decide, zk_wi1 130 (by decide +kernel), rfl⟩
theorem lkX10_48 : zk_lk1 RX10 zk_mt 48 (3, 45, 0, 0) := zk_wi1 744 (by decide +kernel)
theorem lkX10_52 : zk_lk1 RX10 zk_mt 52 (3, 262, 0, 0) := zk_wi1 745 (by decide +kernel)
theorem lkX10_57 : zk_lk1 RX10 zk_mt 57 (3, 42, 0, 0) := zk_wi1 751 (by decide +kernel)
theorem lkX10_61 : zk_lk1 RX10 zk_mt 61 (0, 4, 1, 0) := ⟨by decide, zk_wi1 137 (by decide +kernel), rfl, rfl⟩
theorem lkX10_65 : zk_lk1 RX10 zk_mt 65 (3, 93, 0, 0) := zk_wi1 752 (by decide +kernel)
theorem lkX10_68 : zk_lk1 RX10 zk_mt 68 (3, 37, 0, 0) := zk_wi1 756 (by decide +kernel)
theorem lkX10_72 : zk_lk1 RX10 zk_mt 72 (3, 94, 0, 0) := zk_wi1 760 (by decide +kernel)
theorem lkX10_75 : zk_lk1 RX10 zk_mt 75 (3, 21, 0, 0) := zk_wi1 764 (by decide +kernel)
theorem lkX10_81 : zk_lk1 RX10 zk_mt 81 (3, 22, 0, 0) := zk_wi1 768 (by decide +kernel)
theorem lkX10_85 : zk_lk1 RX10 zk_mt 85 (3, 95, 0, 0) := zk_wi1 781 (by decide +kernel)
theorem lkX10_88 : zk_lk1 RX10 zk_mt 88 (5, 0, 0, 0) := zk_wi1 785 (by decide +kernel)
theorem lkX10_93 : zk_lk1 RX10 zk_mt 93 (4, 0, 0, 0) := zk_wi1 786 (by decide +kernel)
theorem lkX10_96 : zk_lk1 RX10 zk_mt 96 (3, 92, 0, 0) := zk_wi1 812 (by decide +kernel)
theorem lkX10_99 : zk_lk1 RX10 zk_mt 99 (3, 43, 0, 0) := zk_wi1 817 (by decide +kernel)
theorem lkX10_102 : zk_lk1 RX10 zk_mt 102 (3, 96, 0, 0) := zk_wi1 818 (by decide +kernel)
theorem lkX10_105 : zk_lk1 RX10 zk_mt 105 (0, 4, 2, 0) := ⟨by decide, zk_wi1 142 (by decide +kernel), rfl, rfl⟩
theorem lkX10_108 : zk_lk1 RX10 zk_mt 108 (3, 41, 0, 0) := zk_wi1 831 (by decide +kernel)
theorem lkX10_111 : zk_lk1 RX10 zk_mt 111 (3, 100, 0, 0) := zk_wi1 840 (by decide +kernel)
theorem lkX10_114 : zk_lk1 RX10 zk_mt 114 (3, 272, 0, 0) := zk_wi1 853 (by decide +kernel)
theorem lkX10_120 : zk_lk1 RX10 zk_mt 120 (3, 102, 0, 0) := zk_wi1 854 (by decide +kernel)
theorem lkX10_123 : zk_lk1 RX10 zk_mt 123 (3, 104, 0, 0) := zk_wi1 799 (by decide +kernel)
def lkX10 : List (Nat × zk_Ln) := [(19, 1, 10, 2, 0), (27, 1, 10, 3, 0), (30, 1, 10, 4, 0), (33, 1, 10, 5, 0), (36, 1, 10, 0, 0), (40, 1, 10, 1, 0), (44, 1, 4, 0, 0), (48, 3, 45, 0, 0), (52, 3, 262, 0, 0), (57, 3, 42, 0, 0), (61, 0, 4, 1, 0), (65, 3, 93, 0, 0), (68, 3, 37, 0, 0), (72, 3, 94, 0, 0), (75, 3, 21, 0, 0), (81, 3, 22, 0, 0), (85, 3, 95, 0, 0), (88, 5, 0, 0, 0), (93, 4, 0, 0, 0), (96, 3, 92, 0, 0), (99, 3, 43, 0, 0), (102, 3, 96, 0, 0), (105, 0, 4, 2, 0), (108, 3, 41, 0, 0), (111, 3, 100, 0, 0), (114, 3, 272, 0, 0), (120, 3, 102, 0, 0), (123, 3, 104, 0, 0)]
theorem lkX10_ok : ∀ i, zk_lk1 RX10 zk_mt i (zk_lkl lkX10 i) := zk_lkl_ok (List.forall_mem_cons.mpr ⟨lkX10_19, List.forall_mem_cons.mpr ⟨lkX10_27, List.forall_mem_cons.mpr ⟨lkX10_30, List.forall_mem_cons.mpr ⟨lkX10_33, List.forall_mem_cons.mpr ⟨lkX10_36, List.forall_mem_cons.mpr ⟨lkX10_40, List.forall_mem_cons.mpr ⟨lkX10_44, List.forall_mem_cons.mpr ⟨lkX10_48, List.forall_mem_cons.mpr ⟨lkX10_52, List.forall_mem_cons.mpr ⟨lkX10_57, List.forall_mem_cons.mpr ⟨lkX10_61, List.forall_mem_cons.mpr ⟨lkX10_65, List.forall_mem_cons.mpr ⟨lkX10_68, List.forall_mem_cons.mpr ⟨lkX10_72, List.forall_mem_cons.mpr ⟨lkX10_75, List.forall_mem_cons.mpr ⟨lkX10_81, List.forall_mem_cons.mpr ⟨lkX10_85, List.forall_mem_cons.mpr ⟨lkX10_88, List.forall_mem_cons.mpr ⟨lkX10_93, List.forall_mem_cons.mpr ⟨lkX10_96, List.forall_mem_cons.mpr ⟨lkX10_99, List.forall_mem_cons.mpr ⟨lkX10_102, List.forall_mem_cons.mpr ⟨lkX10_105, List.forall_mem_cons.mpr ⟨lkX10_108, List.forall_mem_cons.mpr ⟨lkX10_111, List.forall_mem_cons.mpr ⟨lkX10_114, List.forall_mem_cons.mpr ⟨lkX10_120, List.forall_mem_cons.mpr ⟨lkX10_123, fun _ h => absurd h List.not_mem_nil⟩⟩⟩⟩⟩⟩⟩⟩⟩⟩⟩⟩⟩⟩⟩⟩⟩⟩⟩⟩⟩⟩⟩⟩⟩⟩⟩⟩)
theorem lkX11_10 : zk_lk1 RX11 zk_mt 10 (1, 11, 0, 0) := ⟨by decide, zk_wi1 430 (by decide +kernel), rfl⟩
theorem lkX11_21 : zk_lk1 RX11 zk_mt 21 (1, 11, 1, 0) := ⟨by decide, zk_wi1 431 (by decide +kernel), rfl⟩
theorem lkX11_28 : zk_lk1 RX11 zk_mt 28 (1, 11, 2, 0) := ⟨by decide, zk_wi1 432 (by decide +kernel), rfl⟩
theorem lkX11_35 : zk_lk1 RX11 zk_mt 35 (1, 11, 3, 0) := ⟨by decide, zk_wi1 433 (by decide +kernel), rfl⟩
theorem lkX11_44 : zk_lk1 RX11 zk_mt 44 (1, 11, 4, 0) := ⟨by decide, zk_wi1 434 (by decide +kernel), rfl⟩
theorem lkX11_53 : zk_lk1 RX11 zk_mt 53 (1, 11, 5, 0) := ⟨by decide, zk_wi1 435 (by decide +kernel), rfl⟩
theorem lkX11_60 : zk_lk1 RX11 zk_mt 60 (1, 11, 6, 0) := ⟨by decide, zk_wi1 436 (by decide +kernel), rfl⟩
theorem lkX11_67 : zk_lk1 RX11 zk_mt 67 (1, 11, 7, 0) := ⟨by decide, zk_wi1 437 (by decide +kernel), rfl⟩
theorem lkX11_74 : zk_lk1 RX11 zk_mt 74 (1, 11, 8, 0) := ⟨by decide, zk_wi1 438 (by decide +kernel), rfl⟩
theorem lkX11_80 : zk_lk1 RX11 zk_mt 80 (1, 11, 9, 0) := ⟨by decide, zk_wi1 439 (by decide +kernel), rfl⟩
theorem lkX11_85 : zk_lk1 RX11 zk_mt 85 (3, 33, 0, 0) := zk_wi1 465 (by decide +kernel)
theorem lkX11_89 : zk_lk1 RX11 zk_mt 89 (0, 4, 1, 0) := ⟨by decide, zk_wi1 136 (by decide +kernel), rfl, rfl⟩
theorem lkX11_93 : zk_lk1 RX11 zk_mt 93 (3, 34, 0, 0) := zk_wi1 473 (by decide +kernel)
theorem lkX11_97 : zk_lk1 RX11 zk_mt 97 (3, 151, 0, 0) := zk_wi1 481 (by decide +kernel)
theorem lkX11_101 : zk_lk1 RX11 zk_mt 101 (0, 8, 0, 0) := ⟨by decide, zk_wi1 408 (by decide +kernel), rfl, rfl⟩
theorem lkX11_104 : zk_lk1 RX11 zk_mt 104 (3, 87, 0, 0) := zk_wi1 485 (by decide +kernel)
theorem lkX11_108 : zk_lk1 RX11 zk_mt 108 (3, 75, 0, 0) := zk_wi1 489 (by decide +kernel)
theorem lkX11_112 : zk_lk1 RX11 zk_mt 112 (3, 25, 0, 0) := zk_wi1 503 (by decide +kernel)
theorem lkX11_115 : zk_lk1 RX11 zk_mt 115 (3, 31, 0, 0) := zk_wi1 507 (by decide +kernel)
theorem lkX11_118 : zk_lk1 RX11 zk_mt 118 (0, 4, 2, 0) := ⟨by decide, zk_wi1 141 (by decide +kernel), rfl, rfl⟩
theorem lkX11_121 : zk_lk1 RX11 zk_mt 121 (3, 35, 0, 0) := zk_wi1 511 (by decide +kernel)
theorem lkX11_124 : zk_lk1 RX11 zk_mt 124 (3, 32, 0, 0) := zk_wi1 523 (by decide +kernel)
theorem lkX11_127 : zk_lk1 RX11 zk_mt 127 (7, 0, 0, -2000000000) := zk_wi1 532 (by decide +kernel)
theorem lkX11_128 : zk_lk1 RX11 zk_mt 128 (1, 4, 0, 0) := ⟨by decide, zk_wi1 134 (by decide +kernel), rfl⟩
theorem lkX11_132 : zk_lk1 RX11 zk_mt 132 (3, 10, 0, 0) := zk_wi1 533 (by decide +kernel)
theorem lkX11_136 : zk_lk1 RX11 zk_mt 136 (0, 5, 1, 0) := ⟨by decide, zk_wi1 190 (by decide +kernel), rfl, rfl⟩
theorem lkX11_139 : zk_lk1 RX11 zk_mt 139 (3, 49, 0, 0) := zk_wi1 552 (by decide +kernel)
theorem lkX11_143 : zk_lk1 RX11 zk_mt 143 (3, 50, 0, 0) := zk_wi1 560 (by decide +kernel)
theorem lkX11_147 : zk_lk1 RX11 zk_mt 147 (1, 5, 2, 0) := ⟨by decide, zk_wi1 192 (by decide +kernel), rfl⟩
theorem lkX11_151 : zk_lk1 RX11 zk_mt 151 (0, 5, 3, 0) := ⟨by decide, zk_wi1 194 (by decide +kernel), rfl, rfl⟩
theorem lkX11_154 : zk_lk1 RX11 zk_mt 154 (3, 20, 0, 0) := zk_wi1 694 (by decide +kernel)
theorem lkX11_158 : zk_lk1 RX11 zk_mt 158 (3, 26, 0, 0) := zk_wi1 703 (by decide +kernel)
theorem lkX11_161 : zk_lk1 RX11 zk_mt 161 (3, 41, 0, 0) := zk_wi1 704 (by decide +kernel)
theorem lkX11_164 : zk_lk1 RX11 zk_mt 164 (3, 29, 0, 0) := zk_wi1 736 (by decide +kernel)
theorem lkX11_167 : zk_lk1 RX11 zk_mt 167 (3, 92, 0, 0) := zk_wi1 740 (by decide +kernel)
theorem lkX11_170 : zk_lk1 RX11 zk_mt 170 (1, 10, 3, 0) := ⟨by decide, zk_wi1 266 (by decide +kernel), rfl⟩
theorem lkX11_173 : zk_lk1 RX11 zk_mt 173 (3, 152, 0, 0) := zk_wi1 791 (by decide +kernel)
theorem lkX11_176 : zk_lk1 RX11 zk_mt 176 (8, 0, 0, -9223372036854775808) := zk_wi1 794 (by decide +kernel)
theorem lkX11_178 : zk_lk1 RX11 zk_mt 178 (3, 103, 0, 0) := zk_wi1 795 (by decide +kernel)
theorem lkX11_181 : zk_lk1 RX11 zk_mt 181 (3, 43, 0, 0) := zk_wi1 807 (by decide +kernel)
theorem lkX11_184 : zk_lk1 RX11 zk_mt 184 (3, 96, 0, 0) := zk_wi1 808 (by decide +kernel)
theorem lkX11_188 : zk_lk1 RX11 zk_mt 188 (3, 97, 0, 0) := zk_wi1 813 (by decide +kernel)
theorem lkX11_191 : zk_lk1 RX11 zk_mt 191 (3, 28, 0, 0) := zk_wi1 823 (by decide +kernel)
theorem lkX11_194 : zk_lk1 RX11 zk_mt 194 (3, 98, 0, 0) := zk_wi1 827 (by decide +kernel)
theorem lkX11_197 : zk_lk1 RX11 zk_mt 197 (3, 99, 0, 0) := zk_wi1 836 (by decide +kernel)
theorem lkX11_200 : zk_lk1 RX11 zk_mt 200 (3, 262, 0, 0) := zk_wi1 844 (by decide +kernel)
theorem lkX11_205 : zk_lk1 RX11 zk_mt 205 (3, 101, 0, 0) := zk_wi1 849 (by decide +kernel)
theorem lkX11_208 : zk_lk1 RX11 zk_mt 208 (3, 27, 0, 0) := zk_wi1 862 (by decide +kernel)
theorem lkX11_211 : zk_lk1 RX11 zk_mt 211 (3, 46, 0, 0) := zk_wi1 866 (by decide +kernel)
theorem lkX11_214 : zk_lk1 RX11 zk_mt 214 (3, 47, 0, 0) := zk_wi1 878 (by decide +kernel)
theorem lkX11_217 : zk_lk1 RX11 zk_mt 217 (3, 64, 0, 0) := zk_wi1 886 (by decide +kernel)
theorem lkX11_220 : zk_lk1 RX11 zk_mt 220 (3, 67, 0, 0) := zk_wi1 906 (by decide +kernel)
theorem lkX11_223 : zk_lk1 RX11 zk_mt 223 (3, 68, 0, 0) := zk_wi1 914 (by decide +kernel)
theorem lkX11_226 : zk_lk1 RX11 zk_mt 226 (3, 69, 0, 0) := zk_wi1 923 (by decide +kernel)
theorem lkX11_229 : zk_lk1 RX11 zk_mt 229 (3, 30, 0, 0) := zk_wi1 933 (by decide +kernel)
theorem lkX11_232 : zk_lk1 RX11 zk_mt 232 (3, 70, 0, 0) := zk_wi1 937 (by decide +kernel)
theorem lkX11_236 : zk_lk1 RX11 zk_mt 236 (0, 6, 3, 0) := ⟨by decide, zk_wi1 294 (by decide +kernel), rfl, rfl⟩
theorem lkX11_239 : zk_lk1 RX11 zk_mt 239 (0, 6, 4, 0) := ⟨by decide, zk_wi1 296 (by decide +kernel), rfl, rfl⟩
theorem lkX11_242 : zk_lk1 RX11 zk_mt 242 (0, 6, 5, 0) := ⟨by decide, zk_wi1 298 (by decide +kernel), rfl, rfl⟩
theorem lkX11_245 : zk_lk1 RX11 zk_mt 245 (3, 88, 0, 0) := zk_wi1 958 (by decide +kernel)
theorem lkX11_248 : zk_lk1 RX11 zk_mt 248 (3, 77, 0, 0) := zk_wi1 963 (by decide +kernel)
theorem lkX11_252 : zk_lk1 RX11 zk_mt 252 (3, 78, 0, 0) := zk_wi1 969 (by decide +kernel)
theorem lkX11_256 : zk_lk1 RX11 zk_mt 256 (3, 79, 0, 0) := zk_wi1 974 (by decide +kernel)
theorem lkX11_259 : zk_lk1 RX11 zk_mt 259 (1, 7, 2, 0) := ⟨by decide, zk_wi1 321 (by decide +kernel), rfl⟩
theorem lkX11_262 : zk_lk1 RX11 zk_mt 262 (3, 80, 0, 0) := zk_wi1 986 (by decide +kernel)
theorem lkX11_265 : zk_lk1 RX11 zk_mt 265 (3, 82, 0, 0) := zk_wi1 1000 (by decide +kernel)
theorem lkX11_269 : zk_lk1 RX11 zk_mt 269 (3, 72, 0, 0) := zk_wi1 1018 (by decide +kernel)
theorem lkX11_272 : zk_lk1 RX11 zk_mt 272 (3, 73, 0, 0) := zk_wi1 1029 (by decide +kernel)
theorem lkX11_276 : zk_lk1 RX11 zk_mt 276 (0, 2, 1, 0) := ⟨by decide, zk_wi1 337 (by decide +kernel), rfl, rfl⟩
theorem lkX11_279 : zk_lk1 RX11 zk_mt 279 (3, 14, 0, 0) := zk_wi1 1043 (by decide +kernel)
theorem lkX11_282 : zk_lk1 RX11 zk_mt 282 (3, 40, 0, 0) := zk_wi1 1051 (by decide +kernel)
theorem lkX11_286 : zk_lk1 RX11 zk_mt 286 (3, 15, 0, 0) := zk_wi1 1052 (by decide +kernel)
theorem lkX11_289 : zk_lk1 RX11 zk_mt 289 (3, 16, 0, 0) := zk_wi1 1061 (by decide +kernel)
theorem lkX11_292 : zk_lk1 RX11 zk_mt 292 (3, 17, 0, 0) := zk_wi1 1065 (by decide +kernel)
theorem lkX11_295 : zk_lk1 RX11 zk_mt 295 (0, 2, 2, 0) := ⟨by decide, zk_wi1 339 (by decide +kernel), rfl, rfl⟩
theorem lkX11_298 : zk_lk1 RX11 zk_mt 298 (0, 2, 3, 0) := ⟨by decide, zk_wi1 341 (by decide +kernel), rfl, rfl⟩
theorem lkX11_301 : zk_lk1 RX11 zk_mt 301 (0, 2, 4, 0) := ⟨by decide, zk_wi1 343 (by decide +kernel), rfl, rfl⟩
theorem lkX11_304 : zk_lk1 RX11 zk_mt 304 (3, 18, 0, 0) := zk_wi1 1077 (by decide +kernel)
theorem lkX11_307 : zk_lk1 RX11 zk_mt 307 (12, 2, 5, 0) := ⟨by decide, zk_wi1 345 (by decide +kernel), rfl, rfl⟩
theorem lkX11_311 : zk_lk1 RX11 zk_mt 311 (3, 19, 0, 0) := zk_wi1 1086 (by decide +kernel)
theorem lkX11_314 : zk_lk1 RX11 zk_mt 314 (0, 1, 5, 0) := ⟨by decide, zk_wi1 164 (by decide +kernel), rfl, rfl⟩
theorem lkX11_317 : zk_lk1 RX11 zk_mt 317 (3, 11, 0, 0) := zk_wi1 1094 (by decide +kernel)
theorem lkX11_320 : zk_lk1 RX11 zk_mt 320 (0, 1, 6, 0) := ⟨by decide, zk_wi1 166 (by decide +kernel), rfl, rfl⟩
theorem lkX11_323 : zk_lk1 RX11 zk_mt 323 (3, 12, 0, 0) := zk_wi1 1102 (by decide +kernel)
theorem lkX11_326 : zk_lk1 RX11 zk_mt 326 (3, 0, 0, 0) := zk_wi1 1110 (by decide +kernel)
theorem lkX11_329 : zk_lk1 RX11 zk_mt 329 (0, 0, 1, 0) := ⟨by decide, zk_wi1 383 (by decide +kernel), rfl, rfl⟩
theorem lkX11_330 : zk_lk1 RX11 zk_mt 330 (3, 2, 0, 0) := zk_wi1 1114 (by decide +kernel)
theorem lkX11_333 : zk_lk1 RX11 zk_mt 333 (3, 5, 0, 0) := zk_wi1 1122 (by decide +kernel)
theorem lkX11_336 : zk_lk1 RX11 zk_mt 336 (3, 4, 0, 0) := zk_wi1 1154 (by decide +kernel)
theorem lkX11_339 : zk_lk1 RX11 zk_mt 339 (1, 0, 2, 0) := ⟨by decide, zk_wi1 385 (by decide +kernel), rfl⟩
theorem lkX11_342 : zk_lk1 RX11 zk_mt 342 (3, 1, 0, 0) := zk_wi1 1163 (by decide +kernel)
theorem lkX11_345 : zk_lk1 RX11 zk_mt 345 (3, 85, 0, 0) := zk_wi1 1164 (by decide +kernel)
theorem lkX11_349 : zk_lk1 RX11 zk_mt 349 (3, 86, 0, 0) := zk_wi1 1172 (by decide +kernel)
theorem lkX11_353 : zk_lk1 RX11 zk_mt 353 (3, 89, 0, 0) := zk_wi1 1183 (by decide +kernel)
theorem lkX11_356 : zk_lk1 RX11 zk_mt 356 (1, 8, 4, 0) := ⟨by decide, zk_wi1 417 (by decide +kernel), rfl⟩
theorem lkX11_360 : zk_lk1 RX11 zk_mt 360 (3, 91, 0, 0) := zk_wi1 1187 (by decide +kernel)
theorem lkX11_364 : zk_lk1 RX11 zk_mt 364 (0, 8, 2, 0) := ⟨by decide, zk_wi1 412 (by decide +kernel), rfl, rfl⟩
theorem lkX11_367 : zk_lk1 RX11 zk_mt 367 (3, 90, 0, 0) := zk_wi1 1199 (by decide +kernel)
theorem lkX11_370 : zk_lk1 RX11 zk_mt 370 (6, 0, 0, 0) := zk_wi1 1203 (by decide +kernel)
theorem lkX11_376 : zk_lk1 RX11 zk_mt 376 (0, 8, 1, 0) := ⟨by decide, zk_wi1 410 (by decide +kernel), rfl, rfl⟩
theorem lkX11_379 : zk_lk1 RX11 zk_mt 379 (3, 3, 0, 0) := zk_wi1 1208 (by decide +kernel)
theorem lkX11_382 : zk_lk1 RX11 zk_mt 382 (1, 0, 0, 0) := ⟨by decide, zk_wi1 381 (by decide +kernel), rfl⟩
theorem lkX11_385 : zk_lk1 RX11 zk_mt 385 (0, 0, 3, 0) := ⟨by decide, zk_wi1 387 (by decide +kernel), rfl, rfl⟩
def lkX11 : List (Nat × zk_Ln) := [(10, 1, 11, 0, 0), (21, 1, 11, 1, 0), (28, 1, 11, 2, 0), (35, 1, 11, 3, 0), (44, 1, 11, 4, 0), (53, 1, 11, 5, 0), (60, 1, 11, 6, 0), (67, 1, 11, 7, 0), (74, 1, 11, 8, 0), (80, 1, 11, 9, 0), (85, 3, 33, 0, 0), (89, 0, 4, 1, 0), (93, 3, 34, 0, 0), (97, 3, 151, 0, 0), (101, 0, 8, 0, 0), (104, 3, 87, 0, 0), (108, 3, 75, 0, 0), (112, 3, 25, 0, 0), (115, 3, 31, 0, 0), (118, 0, 4, 2, 0), (121, 3, 35, 0, 0), (124, 3, 32, 0, 0), (127, 7, 0, 0, -2000000000), (128, 1, 4, 0, 0), (132, 3, 10, 0, 0), (136, 0, 5, 1, 0), (139, 3, 49, 0, 0), (143, 3, 50, 0, 0), (147, 1, 5, 2, 0), (151, 0, 5, 3, 0), (154, 3, 20, 0, 0), (158, 3, 26, 0, 0), (161, 3, 41, 0, 0), (164, 3, 29, 0, 0), (167, 3, 92, 0, 0), (170, 1, 10, 3, 0), (173, 3, 152, 0, 0), (176, 8, 0, 0, -9223372036854775808), (178, 3, 103, 0, 0), (181, 3, 43, 0, 0), (184, 3, 96, 0, 0), (188, 3, 97, 0, 0), (191, 3, 28, 0, 0), (194, 3, 98, 0, 0), (197, 3, 99, 0, 0), (200, 3, 262, 0, 0), (205, 3, 101, 0, 0), (208, 3, 27, 0, 0), (211, 3, 46, 0, 0), (214, 3, 47, 0, 0), (217, 3, 64, 0, 0), (220, 3, 67, 0, 0), (223, 3, 68, 0, 0), (226, 3, 69, 0, 0), (229, 3, 30, 0, 0), (232, 3, 70, 0, 0), (236, 0, 6, 3, 0), (239, 0, 6, 4, 0), (242, 0, 6, 5, 0), (245, 3, 88, 0, 0), (248, 3, 77, 0, 0), (252, 3, 78, 0, 0), (256, 3, 79, 0, 0), (259, 1, 7, 2, 0), (262, 3, 80, 0, 0), (265, 3, 82, 0, 0), (269, 3, 72, 0, 0), (272, 3, 73, 0, 0), (276, 0, 2, 1, 0), (279, 3, 14, 0, 0), (282, 3, 40, 0, 0), (286, 3, 15, 0, 0), (289, 3, 16, 0, 0), (292, 3, 17, 0, 0), (295, 0, 2, 2, 0), (298, 0, 2, 3, 0), (301, 0, 2, 4, 0), (304, 3, 18, 0, 0), (307, 12, 2, 5, 0), (311, 3, 19, 0, 0), (314, 0, 1, 5, 0), (317, 3, 11, 0, 0), (320, 0, 1, 6, 0), (323, 3, 12, 0, 0), (326, 3, 0, 0, 0), (329, 0, 0, 1, 0), (330, 3, 2, 0, 0), (333, 3, 5, 0, 0), (336, 3, 4, 0, 0), (339, 1, 0, 2, 0), (342, 3, 1, 0, 0), (345, 3, 85, 0, 0), (349, 3, 86, 0, 0), (353, 3, 89, 0, 0), (356, 1, 8, 4, 0), (360, 3, 91, 0, 0), (364, 0, 8, 2, 0), (367, 3, 90, 0, 0), (370, 6, 0, 0, 0), (376, 0, 8, 1, 0), (379, 3, 3, 0, 0), (382, 1, 0, 0, 0), (385, 0, 0, 3, 0)]
theorem lkX11_ok : ∀ i, zk_lk1 RX11 zk_mt i (zk_lkl lkX11 i) := zk_lkl_ok (List.forall_mem_cons.mpr ⟨lkX11_10, List.forall_mem_cons.mpr ⟨lkX11_21, List.forall_mem_cons.mpr ⟨lkX11_28, List.forall_mem_cons.mpr ⟨lkX11_35, List.forall_mem_cons.mpr ⟨lkX11_44, List.forall_mem_cons.mpr ⟨lkX11_53, List.forall_mem_cons.mpr ⟨lkX11_60, List.forall_mem_cons.mpr ⟨lkX11_67, List.forall_mem_cons.mpr ⟨lkX11_74, List.forall_mem_cons.mpr ⟨lkX11_80, List.forall_mem_cons.mpr ⟨lkX11_85, List.forall_mem_cons.mpr ⟨lkX11_89, List.forall_mem_cons.mpr ⟨lkX11_93, List.forall_mem_cons.mpr ⟨lkX11_97, List.forall_mem_cons.mpr ⟨lkX11_101, List.forall_mem_cons.mpr ⟨lkX11_104, List.forall_mem_cons.mpr ⟨lkX11_108, List.forall_mem_cons.mpr ⟨lkX11_112, List.forall_mem_cons.mpr ⟨lkX11_115, List.forall_mem_cons.mpr ⟨lkX11_118, List.forall_mem_cons.mpr ⟨lkX11_121, List.forall_mem_cons.mpr ⟨lkX11_124, List.forall_mem_cons.mpr ⟨lkX11_127, List.forall_mem_cons.mpr ⟨lkX11_128, List.forall_mem_cons.mpr ⟨lkX11_132, List.forall_mem_cons.mpr ⟨lkX11_136, List.forall_mem_cons.mpr ⟨lkX11_139, List.forall_mem_cons.mpr ⟨lkX11_143, List.forall_mem_cons.mpr ⟨lkX11_147, List.forall_mem_cons.mpr ⟨lkX11_151, List.forall_mem_cons.mpr ⟨lkX11_154, List.forall_mem_cons.mpr ⟨lkX11_158, List.forall_mem_cons.mpr ⟨lkX11_161, List.forall_mem_cons.mpr ⟨lkX11_164, List.forall_mem_cons.mpr ⟨lkX11_167, List.forall_mem_cons.mpr ⟨lkX11_170, List.forall_mem_cons.mpr ⟨lkX11_173, List.forall_mem_cons.mpr ⟨lkX11_176, List.forall_mem_cons.mpr ⟨lkX11_178, List.forall_mem_cons.mpr ⟨lkX11_181, List.forall_mem_cons.mpr ⟨lkX11_184, List.forall_mem_cons.mpr ⟨lkX11_188, List.forall_mem_cons.mpr ⟨lkX11_191, List.forall_mem_cons.mpr ⟨lkX11_194, List.forall_mem_cons.mpr ⟨lkX11_197, List.forall_mem_cons.mpr ⟨lkX11_200, List.forall_mem_cons.mpr ⟨lkX11_205, List.forall_mem_cons.mpr ⟨lkX11_208, List.forall_mem_cons.mpr ⟨lkX11_211, List.forall_mem_cons.mpr ⟨lkX11_214, List.forall_mem_cons.mpr ⟨lkX11_217, List.forall_mem_cons.mpr ⟨lkX11_220, List.forall_mem_cons.mpr ⟨lkX11_223, List.forall_mem_cons.mpr ⟨lkX11_226, List.forall_mem_cons.mpr ⟨lkX11_229, List.forall_mem_cons.mpr ⟨lkX11_232, List.forall_mem_cons.mpr ⟨lkX11_236, List.forall_mem_cons.mpr ⟨lkX11_239, List.forall_mem_cons.mpr ⟨lkX11_242, List.forall_mem_cons.mpr ⟨lkX11_245, List.forall_mem_cons.mpr ⟨lkX11_248, List.forall_mem_cons.mpr ⟨lkX11_252, List.forall_mem_cons.mpr ⟨lkX11_256, List.forall_mem_cons.mpr ⟨lkX11_259, List.forall_mem_cons.mpr ⟨lkX11_262, List.forall_mem_cons.mpr ⟨lkX11_265, List.forall_mem_cons.mpr ⟨lkX11_269, List.forall_mem_cons.mpr ⟨lkX11_272, List.forall_mem_cons.mpr ⟨lkX11_276, List.forall_mem_cons.mpr ⟨lkX11_279, List.forall_mem_cons.mpr ⟨lkX11_282, List.forall_mem_cons.mpr ⟨lkX11_286, List.forall_mem_cons.mpr ⟨lkX11_289, List.forall_mem_cons.mpr ⟨lkX11_292, List.forall_mem_cons.mpr ⟨lkX11_295, List.forall_mem_cons.mpr ⟨lkX11_298, List.forall_mem_cons.mpr ⟨lkX11_301, List.forall_mem_cons.mpr ⟨lkX11_304, List.forall_mem_cons.mpr ⟨lkX11_307, List.forall_mem_cons.mpr ⟨lkX11_311, List.forall_mem_cons.mpr ⟨lkX11_314, List.forall_mem_cons.mpr ⟨lkX11_317, List.forall_mem_cons.mpr ⟨lkX11_320, List.forall_mem_cons.mpr ⟨lkX11_323, List.forall_mem_cons.mpr ⟨lkX11_326, List.forall_mem_cons.mpr ⟨lkX11_329, List.forall_mem_cons.mpr ⟨lkX11_330, List.forall_mem_cons.mpr ⟨lkX11_333, List.forall_mem_cons.mpr ⟨lkX11_336, List.forall_mem_cons.mpr ⟨lkX11_339, List.forall_mem_cons.mpr ⟨lkX11_342, List.forall_mem_cons.mpr ⟨lkX11_345, List.forall_mem_cons.mpr ⟨lkX11_349, List.forall_mem_cons.mpr ⟨lkX11_353, List.forall_mem_cons.mpr ⟨lkX11_356, List.forall_mem_cons.mpr ⟨lkX11_360, List.forall_mem_cons.mpr ⟨lkX11_364, List.forall_mem_cons.mpr ⟨lkX11_367, List.forall_mem_cons.mpr ⟨lkX11_370, List.forall_mem_cons.mpr ⟨lkX11_376, List.forall_mem_cons.mpr ⟨lkX11_379, List.forall_mem_cons.mpr ⟨lkX11_382, List.forall_mem_cons.mpr ⟨lkX11_385, fun _ h => absurd h List.not_mem_nil⟩⟩⟩⟩⟩⟩⟩⟩⟩⟩⟩⟩⟩⟩⟩⟩⟩⟩⟩⟩⟩⟩⟩⟩⟩⟩⟩⟩⟩⟩⟩⟩⟩⟩⟩⟩⟩⟩⟩⟩⟩⟩⟩⟩⟩⟩⟩⟩⟩⟩⟩⟩⟩⟩⟩⟩⟩⟩⟩⟩⟩⟩⟩⟩⟩⟩⟩⟩⟩⟩⟩⟩⟩⟩⟩⟩⟩⟩⟩⟩⟩⟩⟩⟩⟩⟩⟩⟩⟩⟩⟩⟩⟩⟩⟩⟩⟩⟩⟩⟩⟩⟩⟩)
theorem lkX12_9 : zk_lk1 RX12 zk_mt 9 (1, 12, 1, 0) := ⟨by decide, zk_wi1 1223 (by decide +kernel), rfl⟩
theorem lkX12_15 : zk_lk1 RX12 zk_mt 15 (1, 12, 2, 0) := ⟨by decide, zk_wi1 1224 (by decide +kernel), rfl⟩
theorem lkX12_18 : zk_lk1 RX12 zk_mt 18 (1, 12, 3, 0) := ⟨by decide, zk_wi1 1225 (by decide +kernel), rfl⟩
theorem lkX12_21 : zk_lk1 RX12 zk_mt 21 (1, 12, 4, 0) := ⟨by decide, zk_wi1 1226 (by decide +kernel), rfl⟩
theorem lkX12_24 : zk_lk1 RX12 zk_mt 24 (1, 12, 5, 0) := ⟨by decide, zk_wi1 1227 (by decide +kernel), rfl⟩
theorem lkX12_27 : zk_lk1 RX12 zk_mt 27 (1, 12, 6, 0) := ⟨by decide, zk_wi1 1228 (by decide +kernel), rfl⟩
theorem lkX12_30 : zk_lk1 RX12 zk_mt 30 (1, 12, 8, 0) := ⟨by decide, zk_wi1 1230 (by decide +kernel), rfl⟩
theorem lkX12_33 : zk_lk1 RX12 zk_mt 33 (1, 12, 9, 0) := ⟨by decide, zk_wi1 1231 (by decide +kernel), rfl⟩
theorem lkX12_36 : zk_lk1 RX12 zk_mt 36 (1, 12, 10, 0) := ⟨by decide, zk_wi1 1232 (by decide +kernel), rfl⟩
theorem lkX12_39 : zk_lk1 RX12 zk_mt 39 (1, 12, 11, 0) := ⟨by decide, zk_wi1 1233 (by decide +kernel), rfl⟩
theorem lkX12_42 : zk_lk1 RX12 zk_mt 42 (1, 12, 12, 0) := ⟨by decide, zk_wi1 1234 (by decide +kernel), rfl⟩
theorem lkX12_45 : zk_lk1 RX12 zk_mt 45 (1, 12, 13, 0) := ⟨by decide, zk_wi1 1235 (by decide +kernel), rfl⟩
theorem lkX12_48 : zk_lk1 RX12 zk_mt 48 (1, 12, 14, 0) := ⟨by decide, zk_wi1 1236 (by decide +kernel), rfl⟩
theorem lkX12_51 : zk_lk1 RX12 zk_mt 51 (1, 12, 15, 0) := ⟨by decide, zk_wi1 1237 (by decide +kernel), rfl⟩
theorem lkX12_54 : zk_lk1 RX12 zk_mt 54 (1, 12, 18, 0) := ⟨by decide, zk_wi1 1240 (by decide +kernel), rfl⟩
theorem lkX12_57 : zk_lk1 RX12 zk_mt 57 (1, 12, 21, 0) := ⟨by decide, zk_wi1 1243 (by decide +kernel), rfl⟩
theorem lkX12_60 : zk_lk1 RX12 zk_mt 60 (1, 12, 22, 0) := ⟨by decide, zk_wi1 1244 (by decide +kernel), rfl⟩
theorem lkX12_63 : zk_lk1 RX12 zk_mt 63 (1, 12, 23, 0) := ⟨by decide, zk_wi1 1245 (by decide +kernel), rfl⟩
theorem lkX12_66 : zk_lk1 RX12 zk_mt 66 (1, 12, 24, 0) := ⟨by decide, zk_wi1 1246 (by decide +kernel), rfl⟩
theorem lkX12_69 : zk_lk1 RX12 zk_mt 69 (1, 12, 29, 0) := ⟨by decide, zk_wi1 1251 (by decide +kernel), rfl⟩
theorem lkX12_72 : zk_lk1 RX12 zk_mt 72 (1, 12, 30, 0) := ⟨by decide, zk_wi1 1252 (by decide +kernel), rfl⟩
theorem lkX12_75 : zk_lk1 RX12 zk_mt 75 (1, 12, 31, 0) := ⟨by decide, zk_wi1 1253 (by decide +kernel), rfl⟩
theorem lkX12_78 : zk_lk1 RX12 zk_mt 78 (1, 12, 32, 0) := ⟨by decide, zk_wi1 1254 (by decide +kernel), rfl⟩
theorem lkX12_81 : zk_lk1 RX12 zk_mt 81 (1, 12, 33, 0) := ⟨by decide, zk_wi1 1255 (by decide +kernel), rfl⟩
theorem lkX12_84 : zk_lk1 RX12 zk_mt 84 (1, 12, 34, 0) := ⟨by decide, zk_wi1 1256 (by decide +kernel), rfl⟩
theorem lkX12_87 : zk_lk1 RX12 zk_mt 87 (1, 12, 35, 0) := ⟨by decide, zk_wi1 1257 (by decide +kernel), rfl⟩
theorem lkX12_90 : zk_lk1 RX12 zk_mt 90 (1, 12, 39, 0) := ⟨by decide, zk_wi1 1261 (by decide +kernel), rfl⟩
theorem lkX12_93 : zk_lk1 RX12 zk_mt 93 (1, 12, 40, 0) := ⟨by decide, zk_wi1 1262 (by decide +kernel), rfl⟩
theorem lkX12_96 : zk_lk1 RX12 zk_mt 96 (1, 12, 43, 0) := ⟨by decide, zk_wi1 1265 (by decide +kernel), rfl⟩
theorem lkX12_99 : zk_lk1 RX12 zk_mt 99 (1, 12, 45, 0) := ⟨by decide, zk_wi1 1267 (by decide +kernel), rfl⟩
theorem lkX12_102 : zk_lk1 RX12 zk_mt 102 (1, 12, 47, 0) := ⟨by decide, zk_wi1 1269 (by decide +kernel), rfl⟩
theorem lkX12_105 : zk_lk1 RX12 zk_mt 105 (1, 12, 48, 0) := ⟨by decide, zk_wi1 1270 (by decide +kernel), rfl⟩
theorem lkX12_108 : zk_lk1 RX12 zk_mt 108 (1, 12, 49, 0) := ⟨by decide, zk_wi1 1271 (by decide +kernel), rfl⟩
theorem lkX12_111 : zk_lk1 RX12 zk_mt 111 (1, 12, 50, 0) := ⟨by decide, zk_wi1 1272 (by decide +kernel), rfl⟩
theorem lkX12_115 : zk_lk1 RX12 zk_mt 115 (1, 12, 51, 0) := ⟨by decide, zk_wi1 1273 (by decide +kernel), rfl⟩
theorem lkX12_118 : zk_lk1 RX12 zk_mt 118 (1, 12, 52, 0) := ⟨by decide, zk_wi1 1274 (by decide +kernel), rfl⟩
theorem lkX12_121 : zk_lk1 RX12 zk_mt 121 (0, 12, 0, 0) := ⟨by decide, zk_wi1 1222 (by decide +kernel), rfl, rfl⟩
theorem lkX12_125 : zk_lk1 RX12 zk_mt 125 (3, 153, 0, 0) := zk_wi1 1395 (by decide +kernel)
theorem lkX12_129 : zk_lk1 RX12 zk_mt 129 (0, 12, 7, 0) := ⟨by decide, zk_wi1 1229 (by decide +kernel), rfl, rfl⟩
theorem lkX12_132 : zk_lk1 RX12 zk_mt 132 (3, 155, 0, 0) := zk_wi1 1437 (by decide +kernel)
theorem lkX12_136 : zk_lk1 RX12 zk_mt 136 (3, 154, 0, 0) := zk_wi1 1414 (by decide +kernel)
theorem lkX12_139 : zk_lk1 RX12 zk_mt 139 (3, 164, 0, 0) := zk_wi1 1398 (by decide +kernel)
theorem lkX12_143 : zk_lk1 RX12 zk_mt 143 (3, 162, 0, 0) := zk_wi1 1406 (by decide +kernel)
theorem lkX12_146 : zk_lk1 RX12 zk_mt 146 (8, 0, 0, 3) := zk_wi1 1409 (by decide +kernel)
theorem lkX12_148 : zk_lk1 RX12 zk_mt 148 (3, 168, 0, 0) := zk_wi1 1425 (by decide +kernel)
theorem lkX12_152 : zk_lk1 RX12 zk_mt 152 (3, 160, 0, 0) := zk_wi1 1418 (by decide +kernel)
theorem lkX12_155 : zk_lk1 RX12 zk_mt 155 (3, 167, 0, 0) := zk_wi1 1421 (by decide +kernel)
theorem lkX12_158 : zk_lk1 RX12 zk_mt 158 (3, 159, 0, 0) := zk_wi1 1444 (by decide +kernel)
theorem lkX12_161 : zk_lk1 RX12 zk_mt 161 (3, 170, 0, 0) := zk_wi1 1433 (by decide +kernel)
theorem lkX12_165 : zk_lk1 RX12 zk_mt 165 (3, 171, 0, 0) := zk_wi1 1441 (by decide +kernel)
theorem lkX12_168 : zk_lk1 RX12 zk_mt 168 (7, 0, 0, -2000000000) := zk_wi1 1447 (by decide +kernel)
theorem lkX12_169 : zk_lk1 RX12 zk_mt 169 (3, 172, 0, 0) := zk_wi1 1448 (by decide +kernel)
theorem lkX12_173 : zk_lk1 RX12 zk_mt 173 (3, 173, 0, 0) := zk_wi1 1452 (by decide +kernel)
theorem lkX12_177 : zk_lk1 RX12 zk_mt 177 (0, 12, 42, 0) := ⟨by decide, zk_wi1 1264 (by decide +kernel), rfl, rfl⟩
theorem lkX12_180 : zk_lk1 RX12 zk_mt 180 (0, 12, 41, 0) := ⟨by decide, zk_wi1 1263 (by decide +kernel), rfl, rfl⟩
theorem lkX12_183 : zk_lk1 RX12 zk_mt 183 (0, 12, 17, 0) := ⟨by decide, zk_wi1 1239 (by decide +kernel), rfl, rfl⟩
theorem lkX12_186 : zk_lk1 RX12 zk_mt 186 (0, 12, 25, 0) := ⟨by decide, zk_wi1 1247 (by decide +kernel), rfl, rfl⟩
theorem lkX12_189 : zk_lk1 RX12 zk_mt 189 (3, 179, 0, 0) := zk_wi1 1508 (by decide +kernel)
theorem lkX12_193 : zk_lk1 RX12 zk_mt 193 (0, 12, 27, 0) := ⟨by decide, zk_wi1 1249 (by decide +kernel), rfl, rfl⟩
theorem lkX12_196 : zk_lk1 RX12 zk_mt 196 (3, 182, 0, 0) := zk_wi1 1504 (by decide +kernel)
theorem lkX12_200 : zk_lk1 RX12 zk_mt 200 (3, 181, 0, 0) := zk_wi1 1512 (by decide +kernel)
theorem lkX12_203 : zk_lk1 RX12 zk_mt 203 (3, 183, 0, 0) := zk_wi1 1516 (by decide +kernel)
theorem lkX12_207 : zk_lk1 RX12 zk_mt 207 (0, 12, 26, 0) := ⟨by decide, zk_wi1 1248 (by decide +kernel), rfl, rfl⟩
theorem lkX12_210 : zk_lk1 RX12 zk_mt 210 (3, 180, 0, 0) := zk_wi1 1519 (by decide +kernel)
theorem lkX12_213 : zk_lk1 RX12 zk_mt 213 (3, 184, 0, 0) := zk_wi1 1500 (by decide +kernel)
theorem lkX12_216 : zk_lk1 RX12 zk_mt 216 (3, 189, 0, 0) := zk_wi1 1480 (by decide +kernel)
theorem lkX12_219 : zk_lk1 RX12 zk_mt 219 (3, 185, 0, 0) := zk_wi1 1496 (by decide +kernel)
theorem lkX12_222 : zk_lk1 RX12 zk_mt 222 (3, 186, 0, 0) := zk_wi1 1492 (by decide +kernel)
theorem lkX12_225 : zk_lk1 RX12 zk_mt 225 (3, 187, 0, 0) := zk_wi1 1488 (by decide +kernel)
theorem lkX12_228 : zk_lk1 RX12 zk_mt 228 (3, 188, 0, 0) := zk_wi1 1484 (by decide +kernel)
theorem lkX12_231 : zk_lk1 RX12 zk_mt 231 (0, 12, 28, 0) := ⟨by decide, zk_wi1 1250 (by decide +kernel), rfl, rfl⟩
theorem lkX12_234 : zk_lk1 RX12 zk_mt 234 (3, 190, 0, 0) := zk_wi1 1476 (by decide +kernel)
theorem lkX12_237 : zk_lk1 RX12 zk_mt 237 (12, 12, 19, 0) := ⟨by decide, zk_wi1 1241 (by decide +kernel), rfl, rfl⟩
theorem lkX12_241 : zk_lk1 RX12 zk_mt 241 (0, 12, 20, 0) := ⟨by decide, zk_wi1 1242 (by decide +kernel), rfl, rfl⟩
theorem lkX12_244 : zk_lk1 RX12 zk_mt 244 (3, 192, 0, 0) := zk_wi1 1563 (by decide +kernel)
theorem lkX12_247 : zk_lk1 RX12 zk_mt 247 (3, 163, 0, 0) := zk_wi1 1535 (by decide +kernel)
theorem lkX12_250 : zk_lk1 RX12 zk_mt 250 (3, 194, 0, 0) := zk_wi1 1538 (by decide +kernel)
theorem lkX12_253 : zk_lk1 RX12 zk_mt 253 (3, 195, 0, 0) := zk_wi1 1531 (by decide +kernel)
theorem lkX12_256 : zk_lk1 RX12 zk_mt 256 (3, 196, 0, 0) := zk_wi1 1554 (by decide +kernel)
theorem lkX12_259 : zk_lk1 RX12 zk_mt 259 (5, 0, 0, 0) := zk_wi1 1558 (by decide +kernel)
theorem lkX12_264 : zk_lk1 RX12 zk_mt 264 (3, 193, 0, 0) := zk_wi1 1559 (by decide +kernel)
theorem lkX12_267 : zk_lk1 RX12 zk_mt 267 (4, 0, 0, 0) := zk_wi1 1566 (by decide +kernel)
theorem lkX12_270 : zk_lk1 RX12 zk_mt 270 (3, 197, 0, 0) := zk_wi1 1550 (by decide +kernel)
theorem lkX12_273 : zk_lk1 RX12 zk_mt 273 (3, 199, 0, 0) := zk_wi1 1527 (by decide +kernel)
theorem lkX12_276 : zk_lk1 RX12 zk_mt 276 (3, 156, 0, 0) := zk_wi1 1546 (by decide +kernel)
theorem lkX12_279 : zk_lk1 RX12 zk_mt 279 (3, 198, 0, 0) := zk_wi1 1571 (by decide +kernel)
theorem lkX12_282 : zk_lk1 RX12 zk_mt 282 (3, 202, 0, 0) := zk_wi1 1575 (by decide +kernel)
theorem lkX12_286 : zk_lk1 RX12 zk_mt 286 (8, 0, 0, -9223372036854775808) := zk_wi1 1578 (by decide +kernel)
theorem lkX12_288 : zk_lk1 RX12 zk_mt 288 (3, 204, 0, 0) := zk_wi1 1583 (by decide +kernel)
theorem lkX12_291 : zk_lk1 RX12 zk_mt 291 (3, 205, 0, 0) := zk_wi1 1587 (by decide +kernel)
theorem lkX12_294 : zk_lk1 RX12 zk_mt 294 (3, 158, 0, 0) := zk_wi1 1595 (by decide +kernel)
theorem lkX12_297 : zk_lk1 RX12 zk_mt 297 (3, 262, 0, 0) := zk_wi1 1603 (by decide +kernel)
theorem lkX12_302 : zk_lk1 RX12 zk_mt 302 (3, 208, 0, 0) := zk_wi1 1604 (by decide +kernel)
theorem lkX12_305 : zk_lk1 RX12 zk_mt 305 (3, 210, 0, 0) := zk_wi1 1612 (by decide +kernel)
theorem lkX12_308 : zk_lk1 RX12 zk_mt 308 (3, 161, 0, 0) := zk_wi1 1620 (by decide +kernel)
theorem lkX12_311 : zk_lk1 RX12 zk_mt 311 (3, 212, 0, 0) := zk_wi1 1623 (by decide +kernel)
theorem lkX12_315 : zk_lk1 RX12 zk_mt 315 (3, 215, 0, 0) := zk_wi1 1639 (by decide +kernel)
theorem lkX12_318 : zk_lk1 RX12 zk_mt 318 (3, 216, 0, 0) := zk_wi1 1635 (by decide +kernel)
theorem lkX12_321 : zk_lk1 RX12 zk_mt 321 (3, 218, 0, 0) := zk_wi1 1647 (by decide +kernel)
theorem lkX12_324 : zk_lk1 RX12 zk_mt 324 (0, 12, 53, 0) := ⟨by decide, zk_wi1 1275 (by decide +kernel), rfl, rfl⟩
theorem lkX12_327 : zk_lk1 RX12 zk_mt 327 (0, 12, 54, 0) := ⟨by decide, zk_wi1 1276 (by decide +kernel), rfl, rfl⟩
theorem lkX12_330 : zk_lk1 RX12 zk_mt 330 (0, 12, 55, 0) := ⟨by decide, zk_wi1 1277 (by decide +kernel), rfl, rfl⟩
theorem lkX12_333 : zk_lk1 RX12 zk_mt 333 (3, 157, 0, 0) := zk_wi1 1663 (by decide +kernel)
theorem lkX12_336 : zk_lk1 RX12 zk_mt 336 (3, 222, 0, 0) := zk_wi1 1667 (by decide +kernel)
theorem lkX12_340 : zk_lk1 RX12 zk_mt 340 (3, 226, 0, 0) := zk_wi1 1687 (by decide +kernel)
theorem lkX12_343 : zk_lk1 RX12 zk_mt 343 (3, 225, 0, 0) := zk_wi1 1679 (by decide +kernel)
theorem lkX12_346 : zk_lk1 RX12 zk_mt 346 (3, 228, 0, 0) := zk_wi1 1683 (by decide +kernel)
theorem lkX12_349 : zk_lk1 RX12 zk_mt 349 (3, 227, 0, 0) := zk_wi1 1691 (by decide +kernel)
theorem lkX12_352 : zk_lk1 RX12 zk_mt 352 (3, 229, 0, 0) := zk_wi1 1695 (by decide +kernel)
theorem lkX12_355 : zk_lk1 RX12 zk_mt 355 (3, 232, 0, 0) := zk_wi1 1711 (by decide +kernel)
theorem lkX12_358 : zk_lk1 RX12 zk_mt 358 (3, 233, 0, 0) := zk_wi1 1707 (by decide +kernel)
theorem lkX12_361 : zk_lk1 RX12 zk_mt 361 (7, 0, 0, 1000000) := zk_wi1 1723 (by decide +kernel)
theorem lkX12_362 : zk_lk1 RX12 zk_mt 362 (7, 0, 0, 1103515245) := zk_wi1 1728 (by decide +kernel)
theorem lkX12_363 : zk_lk1 RX12 zk_mt 363 (0, 12, 16, 0) := ⟨by decide, zk_wi1 1238 (by decide +kernel), rfl, rfl⟩
theorem lkX12_366 : zk_lk1 RX12 zk_mt 366 (12, 12, 36, 0) := ⟨by decide, zk_wi1 1258 (by decide +kernel), rfl, rfl⟩
theorem lkX12_369 : zk_lk1 RX12 zk_mt 369 (0, 12, 37, 0) := ⟨by decide, zk_wi1 1259 (by decide +kernel), rfl, rfl⟩
theorem lkX12_372 : zk_lk1 RX12 zk_mt 372 (0, 12, 38, 0) := ⟨by decide, zk_wi1 1260 (by decide +kernel), rfl, rfl⟩
theorem lkX12_375 : zk_lk1 RX12 zk_mt 375 (0, 12, 46, 0) := ⟨by decide, zk_wi1 1268 (by decide +kernel), rfl, rfl⟩
theorem lkX12_378 : zk_lk1 RX12 zk_mt 378 (3, 245, 0, 0) := zk_wi1 1765 (by decide +kernel)
theorem lkX12_381 : zk_lk1 RX12 zk_mt 381 (3, 246, 0, 0) := zk_wi1 1761 (by decide +kernel)
theorem lkX12_384 : zk_lk1 RX12 zk_mt 384 (3, 244, 0, 0) := zk_wi1 1769 (by decide +kernel)
theorem lkX12_387 : zk_lk1 RX12 zk_mt 387 (3, 247, 0, 0) := zk_wi1 1772 (by decide +kernel)
theorem lkX12_390 : zk_lk1 RX12 zk_mt 390 (3, 248, 0, 0) := zk_wi1 1776 (by decide +kernel)
theorem lkX12_393 : zk_lk1 RX12 zk_mt 393 (3, 249, 0, 0) := zk_wi1 1780 (by decide +kernel)
theorem lkX12_395 : zk_lk1 RX12 zk_mt 395 (0, 12, 44, 0) := ⟨by decide, zk_wi1 1266 (by decide +kernel), rfl, rfl⟩
theorem lkX12_398 : zk_lk1 RX12 zk_mt 398 (3, 255, 0, 0) := zk_wi1 1800 (by decide +kernel)
theorem lkX12_401 : zk_lk1 RX12 zk_mt 401 (3, 256, 0, 0) := zk_wi1 1804 (by decide +kernel)
def lkX12 : List (Nat × zk_Ln) := [(9, 1, 12, 1, 0), (15, 1, 12, 2, 0), (18, 1, 12, 3, 0), (21, 1, 12, 4, 0), (24, 1, 12, 5, 0), (27, 1, 12, 6, 0), (30, 1, 12, 8, 0), (33, 1, 12, 9, 0), (36, 1, 12, 10, 0), (39, 1, 12, 11, 0), (42, 1, 12, 12, 0), (45, 1, 12, 13, 0), (48, 1, 12, 14, 0), (51, 1, 12, 15, 0), (54, 1, 12, 18, 0), (57, 1, 12, 21, 0), (60, 1, 12, 22, 0), (63, 1, 12, 23, 0), (66, 1, 12, 24, 0), (69, 1, 12, 29, 0), (72, 1, 12, 30, 0), (75, 1, 12, 31, 0), (78, 1, 12, 32, 0), (81, 1, 12, 33, 0), (84, 1, 12, 34, 0), (87, 1, 12, 35, 0), (90, 1, 12, 39, 0), (93, 1, 12, 40, 0), (96, 1, 12, 43, 0), (99, 1, 12, 45, 0), (102, 1, 12, 47, 0), (105, 1, 12, 48, 0), (108, 1, 12, 49, 0), (111, 1, 12, 50, 0), (115, 1, 12, 51, 0), (118, 1, 12, 52, 0), (121, 0, 12, 0, 0), (125, 3, 153, 0, 0), (129, 0, 12, 7, 0), (132, 3, 155, 0, 0), (136, 3, 154, 0, 0), (139, 3, 164, 0, 0), (143, 3, 162, 0, 0), (146, 8, 0, 0, 3), (148, 3, 168, 0, 0), (152, 3, 160, 0, 0), (155, 3, 167, 0, 0), (158, 3, 159, 0, 0), (161, 3, 170, 0, 0), (165, 3, 171, 0, 0), (168, 7, 0, 0, -2000000000), (169, 3, 172, 0, 0), (173, 3, 173, 0, 0), (177, 0, 12, 42, 0), (180, 0, 12, 41, 0), (183, 0, 12, 17, 0), (186, 0, 12, 25, 0), (189, 3, 179, 0, 0), (193, 0, 12, 27, 0), (196, 3, 182, 0, 0), (200, 3, 181, 0, 0), (203, 3, 183, 0, 0), (207, 0, 12, 26, 0), (210, 3, 180, 0, 0), (213, 3, 184, 0, 0), (216, 3, 189, 0, 0), (219, 3, 185, 0, 0), (222, 3, 186, 0, 0), (225, 3, 187, 0, 0), (228, 3, 188, 0, 0), (231, 0, 12, 28, 0), (234, 3, 190, 0, 0), (237, 12, 12, 19, 0), (241, 0, 12, 20, 0), (244, 3, 192, 0, 0), (247, 3, 163, 0, 0), (250, 3, 194, 0, 0), (253, 3, 195, 0, 0), (256, 3, 196, 0, 0), (259, 5, 0, 0, 0), (264, 3, 193, 0, 0), (267, 4, 0, 0, 0), (270, 3, 197, 0, 0), (273, 3, 199, 0, 0), (276, 3, 156, 0, 0), (279, 3, 198, 0, 0), (282, 3, 202, 0, 0), (286, 8, 0, 0, -9223372036854775808), (288, 3, 204, 0, 0), (291, 3, 205, 0, 0), (294, 3, 158, 0, 0), (297, 3, 262, 0, 0), (302, 3, 208, 0, 0), (305, 3, 210, 0, 0), (308, 3, 161, 0, 0), (311, 3, 212, 0, 0), (315, 3, 215, 0, 0), (318, 3, 216, 0, 0), (321, 3, 218, 0, 0), (324, 0, 12, 53, 0), (327, 0, 12, 54, 0), (330, 0, 12, 55, 0), (333, 3, 157, 0, 0), (336, 3, 222, 0, 0), (340, 3, 226, 0, 0), (343, 3, 225, 0, 0), (346, 3, 228, 0, 0), (349, 3, 227, 0, 0), (352, 3, 229, 0, 0), (355, 3, 232, 0, 0), (358, 3, 233, 0, 0), (361, 7, 0, 0, 1000000), (362, 7, 0, 0, 1103515245), (363, 0, 12, 16, 0), (366, 12, 12, 36, 0), (369, 0, 12, 37, 0), (372, 0, 12, 38, 0), (375, 0, 12, 46, 0), (378, 3, 245, 0, 0), (381, 3, 246, 0, 0), (384, 3, 244, 0, 0), (387, 3, 247, 0, 0), (390, 3, 248, 0, 0), (393, 3, 249, 0, 0), (395, 0, 12, 44, 0), (398, 3, 255, 0, 0), (401, 3, 256, 0, 0)]
theorem lkX12_ok : ∀ i, zk_lk1 RX12 zk_mt i (zk_lkl lkX12 i) := zk_lkl_ok (List.forall_mem_cons.mpr ⟨lkX12_9, List.forall_mem_cons.mpr ⟨lkX12_15, List.forall_mem_cons.mpr ⟨lkX12_18, List.forall_mem_cons.mpr ⟨lkX12_21, List.forall_mem_cons.mpr ⟨lkX12_24, List.forall_mem_cons.mpr ⟨lkX12_27, List.forall_mem_cons.mpr ⟨lkX12_30, List.forall_mem_cons.mpr ⟨lkX12_33, List.forall_mem_cons.mpr ⟨lkX12_36, List.forall_mem_cons.mpr ⟨lkX12_39, List.forall_mem_cons.mpr ⟨lkX12_42, List.forall_mem_cons.mpr ⟨lkX12_45, List.forall_mem_cons.mpr ⟨lkX12_48, List.forall_mem_cons.mpr ⟨lkX12_51, List.forall_mem_cons.mpr ⟨lkX12_54, List.forall_mem_cons.mpr ⟨lkX12_57, List.forall_mem_cons.mpr ⟨lkX12_60, List.forall_mem_cons.mpr ⟨lkX12_63, List.forall_mem_cons.mpr ⟨lkX12_66, List.forall_mem_cons.mpr ⟨lkX12_69, List.forall_mem_cons.mpr ⟨lkX12_72, List.forall_mem_cons.mpr ⟨lkX12_75, List.forall_mem_cons.mpr ⟨lkX12_78, List.forall_mem_cons.mpr ⟨lkX12_81, List.forall_mem_cons.mpr ⟨lkX12_84, List.forall_mem_cons.mpr ⟨lkX12_87, List.forall_mem_cons.mpr ⟨lkX12_90, List.forall_mem_cons.mpr ⟨lkX12_93, List.forall_mem_cons.mpr ⟨lkX12_96, List.forall_mem_cons.mpr ⟨lkX12_99, List.forall_mem_cons.mpr ⟨lkX12_102, List.forall_mem_cons.mpr ⟨lkX12_105, List.forall_mem_cons.mpr ⟨lkX12_108, List.forall_mem_cons.mpr ⟨lkX12_111, List.forall_mem_cons.mpr ⟨lkX12_115, List.forall_mem_cons.mpr ⟨lkX12_118, List.forall_mem_cons.mpr ⟨lkX12_121, List.forall_mem_cons.mpr ⟨lkX12_125, List.forall_mem_cons.mpr ⟨lkX12_129, List.forall_mem_cons.mpr ⟨lkX12_132, List.forall_mem_cons.mpr ⟨lkX12_136, List.forall_mem_cons.mpr ⟨lkX12_139, List.forall_mem_cons.mpr ⟨lkX12_143, List.forall_mem_cons.mpr ⟨lkX12_146, List.forall_mem_cons.mpr ⟨lkX12_148, List.forall_mem_cons.mpr ⟨lkX12_152, List.forall_mem_cons.mpr ⟨lkX12_155, List.forall_mem_cons.mpr ⟨lkX12_158, List.forall_mem_cons.mpr ⟨lkX12_161, List.forall_mem_cons.mpr ⟨lkX12_165, List.forall_mem_cons.mpr ⟨lkX12_168, List.forall_mem_cons.mpr ⟨lkX12_169, List.forall_mem_cons.mpr ⟨lkX12_173, List.forall_mem_cons.mpr ⟨lkX12_177, List.forall_mem_cons.mpr ⟨lkX12_180, List.forall_mem_cons.mpr ⟨lkX12_183, List.forall_mem_cons.mpr ⟨lkX12_186, List.forall_mem_cons.mpr ⟨lkX12_189, List.forall_mem_cons.mpr ⟨lkX12_193, List.forall_mem_cons.mpr ⟨lkX12_196, List.forall_mem_cons.mpr ⟨lkX12_200, List.forall_mem_cons.mpr ⟨lkX12_203, List.forall_mem_cons.mpr ⟨lkX12_207, List.forall_mem_cons.mpr ⟨lkX12_210, List.forall_mem_cons.mpr ⟨lkX12_213, List.forall_mem_cons.mpr ⟨lkX12_216, List.forall_mem_cons.mpr ⟨lkX12_219, List.forall_mem_cons.mpr ⟨lkX12_222, List.forall_mem_cons.mpr ⟨lkX12_225, List.forall_mem_cons.mpr ⟨lkX12_228, List.forall_mem_cons.mpr ⟨lkX12_231, List.forall_mem_cons.mpr ⟨lkX12_234, List.forall_mem_cons.mpr ⟨lkX12_237, List.forall_mem_cons.mpr ⟨lkX12_241, List.forall_mem_cons.mpr ⟨lkX12_244, List.forall_mem_cons.mpr ⟨lkX12_247, List.forall_mem_cons.mpr ⟨lkX12_250, List.forall_mem_cons.mpr ⟨lkX12_253, List.forall_mem_cons.mpr ⟨lkX12_256, List.forall_mem_cons.mpr ⟨lkX12_259, List.forall_mem_cons.mpr ⟨lkX12_264, List.forall_mem_cons.mpr ⟨lkX12_267, List.forall_mem_cons.mpr ⟨lkX12_270, List.forall_mem_cons.mpr ⟨lkX12_273, List.forall_mem_cons.mpr ⟨lkX12_276, List.forall_mem_cons.mpr ⟨lkX12_279, List.forall_mem_cons.mpr ⟨lkX12_282, List.forall_mem_cons.mpr ⟨lkX12_286, List.forall_mem_cons.mpr ⟨lkX12_288, List.forall_mem_cons.mpr ⟨lkX12_291, List.forall_mem_cons.mpr ⟨lkX12_294, List.forall_mem_cons.mpr ⟨lkX12_297, List.forall_mem_cons.mpr ⟨lkX12_302, List.forall_mem_cons.mpr ⟨lkX12_305, List.forall_mem_cons.mpr ⟨lkX12_308, List.forall_mem_cons.mpr ⟨lkX12_311, List.forall_mem_cons.mpr ⟨lkX12_315, List.forall_mem_cons.mpr ⟨lkX12_318, List.forall_mem_cons.mpr ⟨lkX12_321, List.forall_mem_cons.mpr ⟨lkX12_324, List.forall_mem_cons.mpr ⟨lkX12_327, List.forall_mem_cons.mpr ⟨lkX12_330, List.forall_mem_cons.mpr ⟨lkX12_333, List.forall_mem_cons.mpr ⟨lkX12_336, List.forall_mem_cons.mpr ⟨lkX12_340, List.forall_mem_cons.mpr ⟨lkX12_343, List.forall_mem_cons.mpr ⟨lkX12_346, List.forall_mem_cons.mpr ⟨lkX12_349, List.forall_mem_cons.mpr ⟨lkX12_352, List.forall_mem_cons.mpr ⟨lkX12_355, List.forall_mem_cons.mpr ⟨lkX12_358, List.forall_mem_cons.mpr ⟨lkX12_361, List.forall_mem_cons.mpr ⟨lkX12_362, List.forall_mem_cons.mpr ⟨lkX12_363, List.forall_mem_cons.mpr ⟨lkX12_366, List.forall_mem_cons.mpr ⟨lkX12_369, List.forall_mem_cons.mpr ⟨lkX12_372, List.forall_mem_cons.mpr ⟨lkX12_375, List.forall_mem_cons.mpr ⟨lkX12_378, List.forall_mem_cons.mpr ⟨lkX12_381, List.forall_mem_cons.mpr ⟨lkX12_384, List.forall_mem_cons.mpr ⟨lkX12_387, List.forall_mem_cons.mpr ⟨lkX12_390, List.forall_mem_cons.mpr ⟨lkX12_393, List.forall_mem_cons.mpr ⟨lkX12_395, List.forall_mem_cons.mpr ⟨lkX12_398, List.forall_mem_cons.mpr ⟨lkX12_401, fun _ h => absurd h List.not_mem_nil⟩⟩⟩⟩⟩⟩⟩⟩⟩⟩⟩⟩⟩⟩⟩⟩⟩⟩⟩⟩⟩⟩⟩⟩⟩⟩⟩⟩⟩⟩⟩⟩⟩⟩⟩⟩⟩⟩⟩⟩⟩⟩⟩⟩⟩⟩⟩⟩⟩⟩⟩⟩⟩⟩⟩⟩⟩⟩⟩⟩⟩⟩⟩⟩⟩⟩⟩⟩⟩⟩⟩⟩⟩⟩⟩⟩⟩⟩⟩⟩⟩⟩⟩⟩⟩⟩⟩⟩⟩⟩⟩⟩⟩⟩⟩⟩⟩⟩⟩⟩⟩⟩⟩⟩⟩⟩⟩⟩⟩⟩⟩⟩⟩⟩⟩⟩⟩⟩⟩⟩⟩⟩⟩⟩⟩⟩⟩)
theorem lkJ6_265 : zk_lk1 RJ6 zk_mt 265 (7, 0, 0, 1431655765) := zk_wi1 748 (by decide +kernel)
theorem lkJ6_266 : zk_lk1 RJ6 zk_mt 266 (7, 0, 0, 858993459) := zk_wi1 749 (by decide +kernel)
theorem lkJ6_267 : zk_lk1 RJ6 zk_mt 267 (7, 0, 0, 252645135) := zk_wi1 750 (by decide +kernel)
def lkJ6 : List (Nat × zk_Ln) := [(265, 7, 0, 0, 1431655765), (266, 7, 0, 0, 858993459), (267, 7, 0, 0, 252645135)]
theorem lkJ6_ok : ∀ i, zk_lk1 RJ6 zk_mt i (zk_lkl lkJ6 i) := zk_lkl_ok (List.forall_mem_cons.mpr ⟨lkJ6_265, List.forall_mem_cons.mpr ⟨lkJ6_266, List.forall_mem_cons.mpr ⟨lkJ6_267, fun _ h => absurd h List.not_mem_nil⟩⟩⟩)
theorem lkJ0_9 : zk_lk1 RJ0 zk_mt 9 (10, 0, 0, 0) := zk_wi1 1824 (by decide +kernel)
theorem lkJ0_15 : zk_lk1 RJ0 zk_mt 15 (11, 0, 0, 0) := zk_wi1 1825 (by decide +kernel)
theorem lkJ0_38 : zk_lk1 RJ0 zk_mt 38 (2, 4, 0, 0) := zk_wi1 259 (by decide +kernel)
theorem lkJ0_335 : zk_lk1 RJ0 zk_mt 335 (3, 266, 0, 0) := zk_wi1 255 (by decide +kernel)
theorem lkJ0_492 : zk_lk1 RJ0 zk_mt 492 (3, 267, 0, 0) := zk_wi1 625 (by decide +kernel)
theorem lkJ0_505 : zk_lk1 RJ0 zk_mt 505 (3, 263, 0, 0) := zk_wi1 629 (by decide +kernel)
theorem lkJ0_633 : zk_lk1 RJ0 zk_mt 633 (3, 265, 0, 0) := zk_wi1 621 (by decide +kernel)
theorem lkJ0_637 : zk_lk1 RJ0 zk_mt 637 (3, 269, 0, 0) := zk_wi1 630 (by decide +kernel)
def lkJ0 : List (Nat × zk_Ln) := [(9, 10, 0, 0, 0), (15, 11, 0, 0, 0), (38, 2, 4, 0, 0), (335, 3, 266, 0, 0), (492, 3, 267, 0, 0), (505, 3, 263, 0, 0), (633, 3, 265, 0, 0), (637, 3, 269, 0, 0)]
theorem lkJ0_ok : ∀ i, zk_lk1 RJ0 zk_mt i (zk_lkl lkJ0 i) := zk_lkl_ok (List.forall_mem_cons.mpr ⟨lkJ0_9, List.forall_mem_cons.mpr ⟨lkJ0_15, List.forall_mem_cons.mpr ⟨lkJ0_38, List.forall_mem_cons.mpr ⟨lkJ0_335, List.forall_mem_cons.mpr ⟨lkJ0_492, List.forall_mem_cons.mpr ⟨lkJ0_505, List.forall_mem_cons.mpr ⟨lkJ0_633, List.forall_mem_cons.mpr ⟨lkJ0_637, fun _ h => absurd h List.not_mem_nil⟩⟩⟩⟩⟩⟩⟩⟩)
theorem lkJ1_38 : zk_lk1 RJ1 zk_mt 38 (5, 0, 0, 0) := zk_wi1 639 (by decide +kernel)
theorem lkJ1_88 : zk_lk1 RJ1 zk_mt 88 (3, 268, 0, 0) := zk_wi1 633 (by decide +kernel)
theorem lkJ1_92 : zk_lk1 RJ1 zk_mt 92 (4, 0, 0, 0) := zk_wi1 636 (by decide +kernel)
theorem lkJ1_95 : zk_lk1 RJ1 zk_mt 95 (3, 270, 0, 0) := zk_wi1 642 (by decide +kernel)
def lkJ1 : List (Nat × zk_Ln) := [(38, 5, 0, 0, 0), (88, 3, 268, 0, 0), (92, 4, 0, 0, 0), (95, 3, 270, 0, 0)]
theorem lkJ1_ok : ∀ i, zk_lk1 RJ1 zk_mt i (zk_lkl lkJ1 i) := zk_lkl_ok (List.forall_mem_cons.mpr ⟨lkJ1_38, List.forall_mem_cons.mpr ⟨lkJ1_88, List.forall_mem_cons.mpr ⟨lkJ1_92, List.forall_mem_cons.mpr ⟨lkJ1_95, fun _ h => absurd h List.not_mem_nil⟩⟩⟩⟩)
end
section
/-! THE CODES: what stands at each place. Written by wip/whole/gen.py -/
theorem zk_cd_ok {b : ByteArray} {l : List (Nat × Instr × Nat)} (h : ∀ t ∈ l, decode b t.1 = .ok (t.2.1, zk_len t.2.1 t.2.2)) (pc : Nat) (q : Instr × Nat) (hq : zk_at l pc = some q) : decode b pc = .ok (q.1, zk_len q.1 q.2) := h (pc, q) (zk_at_mem hq)
def cdX0_isKind : List (Nat × Instr × Nat) := [(0, .iload_n 1, 0), (1, .ifCond .lt 13, 0), (4, .iload_n 1, 0), (5, .bipush 8, 0), (7, .if_icmp .ge 7, 0), (10, .iconst 1, 0), (11, .goto 4, 0), (14, .iconst 0, 0), (15, .ireturn, 0)]
theorem cdX0_isKind_ok : ∀ pc q, zk_at cdX0_isKind pc = some q → decode cX0_isKind pc = .ok (q.1, zk_len q.1 q.2) := zk_cd_ok (by decide +kernel)
def cdX0_isBody : List (Nat × Instr × Nat) := [(0, .iload_n 1, 0), (1, .ifCond .lt 15, 0), (4, .iload_n 1, 0), (5, .aload_n 0, 0), (6, .getfield 16, 0), (9, .if_icmp .ge 7, 0), (12, .iconst 1, 0), (13, .goto 4, 0), (16, .iconst 0, 0), (17, .ireturn, 0)]
theorem cdX0_isBody_ok : ∀ pc q, zk_at cdX0_isBody pc = some q → decode cX0_isBody pc = .ok (q.1, zk_len q.1 q.2) := zk_cd_ok (by decide +kernel)
def cdX0_add : List (Nat × Instr × Nat) := [(0, .aload_n 0, 0), (1, .getfield 16, 0), (4, .istore_n 2, 0), (5, .aload_n 0, 0), (6, .getfield 9, 0), (9, .iload_n 2, 0), (10, .iload_n 1, 0), (11, .iastore, 0), (12, .aload_n 0, 0), (13, .dup, 0), (14, .getfield 16, 0), (17, .iconst 1, 0), (18, .iadd, 0), (19, .putfield 16, 0), (22, .iload_n 2, 0), (23, .ireturn, 0)]
theorem cdX0_add_ok : ∀ pc q, zk_at cdX0_add pc = some q → decode cX0_add pc = .ok (q.1, zk_len q.1 q.2) := zk_cd_ok (by decide +kernel)
def cdX0_isUnder : List (Nat × Instr × Nat) := [(0, .aload_n 0, 0), (1, .iload_n 1, 0), (2, .invokevirtual 20, 0), (5, .ifCond .eq 12, 0), (8, .aload_n 0, 0), (9, .getfield 9, 0), (12, .iload_n 1, 0), (13, .iaload, 0), (14, .goto 4, 0), (17, .iconst (-1), 0), (18, .istore_n 3, 0), (19, .iconst 0, 0), (20, .istore 4, 0), (22, .iload 4, 0), (24, .bipush 8, 0), (26, .if_icmp .ge 26, 0), (29, .iload_n 3, 0), (30, .ifCond .lt 22, 0), (33, .iload_n 3, 0), (34, .iload_n 2, 0), (35, .if_icmp .ne 5, 0), (38, .iconst 1, 0), (39, .ireturn, 0), (40, .getstatic 24, 0), (43, .iload_n 3, 0), (44, .iaload, 0), (45, .istore_n 3, 0), (46, .iinc 4 1, 0), (49, .goto (-27), 0), (52, .iconst 0, 0), (53, .ireturn, 0)]
theorem cdX0_isUnder_ok : ∀ pc q, zk_at cdX0_isUnder pc = some q → decode cX0_isUnder pc = .ok (q.1, zk_len q.1 q.2) := zk_cd_ok (by decide +kernel)
def cdX0_traced : List (Nat × Instr × Nat) := [(0, .aload_n 0, 0), (1, .getfield 27, 0), (4, .bipush 24, 0), (6, .invokestatic 30, 0), (9, .ireturn, 0)]
theorem cdX0_traced_ok : ∀ pc q, zk_at cdX0_traced pc = some q → decode cX0_traced pc = .ok (q.1, zk_len q.1 q.2) := zk_cd_ok (by decide +kernel)
def cdX0_perform : List (Nat × Instr × Nat) := [(0, .aload_n 0, 0), (1, .iconst 0, 0), (2, .putfield 27, 0), (5, .aload_n 0, 0), (6, .iload_n 1, 0), (7, .invokevirtual 20, 0), (10, .ifCond .eq 12, 0), (13, .iload_n 2, 0), (14, .ifCond .lt 8, 0), (17, .iload_n 2, 0), (18, .iconst 4, 0), (19, .if_icmp .lt 5, 0), (22, .iconst 0, 0), (23, .ireturn, 0), (24, .aload_n 0, 0), (25, .iload_n 1, 0), (26, .putfield 36, 0), (29, .aload_n 0, 0), (30, .iload_n 2, 0), (31, .iload_n 3, 0), (32, .iconst 0, 0), (33, .invokevirtual 39, 0), (36, .ireturn, 0)]
theorem cdX0_perform_ok : ∀ pc q, zk_at cdX0_perform pc = some q → decode cX0_perform pc = .ok (q.1, zk_len q.1 q.2) := zk_cd_ok (by decide +kernel)
def cdX0_own : List (Nat × Instr × Nat) := [(0, .aload_n 0, 0), (1, .aload_n 0, 0), (2, .aload_n 0, 0), (3, .getfield 9, 0), (6, .aload_n 0, 0), (7, .getfield 36, 0), (10, .iaload, 0), (11, .iload_n 1, 0), (12, .invokevirtual 43, 0), (15, .iload_n 2, 0), (16, .iload_n 3, 0), (17, .iconst 1, 0), (18, .iadd, 0), (19, .invokevirtual 46, 0), (22, .ireturn, 0)]
theorem cdX0_own_ok : ∀ pc q, zk_at cdX0_own pc = some q → decode cX0_own pc = .ok (q.1, zk_len q.1 q.2) := zk_cd_ok (by decide +kernel)
def cdX0_above : List (Nat × Instr × Nat) := [(0, .aload_n 0, 0), (1, .aload_n 0, 0), (2, .getstatic 24, 0), (5, .iload_n 1, 0), (6, .iaload, 0), (7, .iload_n 2, 0), (8, .invokevirtual 43, 0), (11, .iload_n 3, 0), (12, .iload 4, 0), (14, .iconst 1, 0), (15, .iadd, 0), (16, .invokevirtual 46, 0), (19, .ireturn, 0)]
theorem cdX0_above_ok : ∀ pc q, zk_at cdX0_above pc = some q → decode cX0_above pc = .ok (q.1, zk_len q.1 q.2) := zk_cd_ok (by decide +kernel)
def cdX0_bodyFrom : List (Nat × Instr × Nat) := [(0, .iload_n 1, 0), (1, .istore_n 3, 0), (2, .iconst 0, 0), (3, .istore 4, 0), (5, .iload 4, 0), (7, .bipush 8, 0), (9, .if_icmp .ge 38, 0), (12, .iload_n 3, 0), (13, .ifCond .lt 34, 0), (16, .getstatic 49, 0), (19, .iload_n 3, 0), (20, .iconst 4, 0), (21, .imul, 0), (22, .iload_n 2, 0), (23, .iadd, 0), (24, .iaload, 0), (25, .istore 5, 0), (27, .iload 5, 0), (29, .ifCond .eq 6, 0), (32, .iload 5, 0), (34, .ireturn, 0), (35, .getstatic 24, 0), (38, .iload_n 3, 0), (39, .iaload, 0), (40, .istore_n 3, 0), (41, .iinc 4 1, 0), (44, .goto (-39), 0), (47, .iconst 0, 0), (48, .ireturn, 0)]
theorem cdX0_bodyFrom_ok : ∀ pc q, zk_at cdX0_bodyFrom pc = some q → decode cX0_bodyFrom pc = .ok (q.1, zk_len q.1 q.2) := zk_cd_ok (by decide +kernel)
def cdX0_run : List (Nat × Instr × Nat) := [(0, .iload_n 3, 0), (1, .bipush 40, 0), (3, .if_icmp .le 5, 0), (6, .iconst 0, 0), (7, .ireturn, 0), (8, .aload_n 0, 0), (9, .getfield 27, 0), (12, .bipush 24, 0), (14, .if_icmp .ge 13, 0), (17, .aload_n 0, 0), (18, .getfield 13, 0), (21, .aload_n 0, 0), (22, .getfield 27, 0), (25, .iload_n 1, 0), (26, .iastore, 0), (27, .aload_n 0, 0), (28, .dup, 0), (29, .getfield 27, 0), (32, .iconst 1, 0), (33, .iadd, 0), (34, .putfield 27, 0), (37, .iload_n 1, 0), (38, .lookupswitch 267 #[(1, 114), (2, 121), (10, 137), (11, 147), (20, 154), (30, 165), (40, 175), (41, 186), (50, 197), (60, 214), (70, 225), (80, 237), (81, 255)], 114), (152, .iload_n 2, 0), (153, .aload_n 0, 0), (154, .getfield 36, 0), (157, .iadd, 0), (158, .ireturn, 0), (159, .aload_n 0, 0), (160, .iconst 1, 0), (161, .iload_n 2, 0), (162, .iload_n 3, 0), (163, .invokevirtual 39, 0), (166, .aload_n 0, 0), (167, .iconst 2, 0), (168, .iconst 1, 0), (169, .iload_n 3, 0), (170, .invokevirtual 39, 0), (173, .isub, 0), (174, .ireturn, 0), (175, .aload_n 0, 0), (176, .iconst 0, 0), (177, .iload_n 2, 0), (178, .iload_n 3, 0), (179, .invokevirtual 39, 0), (182, .iconst 2, 0), (183, .imul, 0), (184, .ireturn, 0), (185, .iload_n 2, 0), (186, .aload_n 0, 0), (187, .getfield 36, 0), (190, .ixor, 0), (191, .ireturn, 0), (192, .aload_n 0, 0), (193, .iconst 1, 0), (194, .iconst 0, 0), (195, .iload_n 2, 0), (196, .iload_n 3, 0), (197, .invokevirtual 52, 0), (200, .iconst 3, 0), (201, .iadd, 0), (202, .ireturn, 0), (203, .aload_n 0, 0), (204, .iconst 2, 0), (205, .iconst 1, 0), (206, .iload_n 2, 0), (207, .iload_n 3, 0), (208, .invokevirtual 52, 0), (211, .ineg, 0), (212, .ireturn, 0), (213, .aload_n 0, 0), (214, .iconst 3, 0), (215, .iconst 2, 0), (216, .iload_n 2, 0), (217, .iload_n 3, 0), (218, .invokevirtual 52, 0), (221, .iconst 3, 0), (222, .imul, 0), (223, .ireturn, 0), (224, .aload_n 0, 0), (225, .iconst 3, 0), (226, .iconst 1, 0), (227, .iload_n 2, 0), (228, .iconst 1, 0), (229, .iadd, 0), (230, .iload_n 3, 0), (231, .invokevirtual 52, 0), (234, .ireturn, 0), (235, .aload_n 0, 0), (236, .iconst 4, 0), (237, .iconst 2, 0), (238, .iload_n 2, 0), (239, .iload_n 3, 0), (240, .invokevirtual 52, 0), (243, .aload_n 0, 0), (244, .iconst 0, 0), (245, .iconst 2, 0), (246, .iload_n 3, 0), (247, .invokevirtual 39, 0), (250, .isub, 0), (251, .ireturn, 0), (252, .aload_n 0, 0), (253, .iconst 5, 0), (254, .iconst 3, 0), (255, .iload_n 2, 0), (256, .iload_n 3, 0), (257, .invokevirtual 52, 0), (260, .iconst 5, 0), (261, .ixor, 0), (262, .ireturn, 0), (263, .aload_n 0, 0), (264, .bipush 6, 0), (266, .iconst 0, 0), (267, .iload_n 2, 0), (268, .iload_n 3, 0), (269, .invokevirtual 52, 0), (272, .iconst 2, 0), (273, .imul, 0), (274, .ireturn, 0), (275, .aload_n 0, 0), (276, .bipush 7, 0), (278, .iconst 1, 0), (279, .iload_n 2, 0), (280, .iload_n 3, 0), (281, .invokevirtual 52, 0), (284, .aload_n 0, 0), (285, .iconst 2, 0), (286, .iconst 2, 0), (287, .iload_n 3, 0), (288, .invokevirtual 39, 0), (291, .iadd, 0), (292, .ireturn, 0), (293, .aload_n 0, 0), (294, .bipush 7, 0), (296, .iconst 3, 0), (297, .iload_n 2, 0), (298, .iload_n 3, 0), (299, .invokevirtual 52, 0), (302, .iconst 1, 0), (303, .isub, 0), (304, .ireturn, 0), (305, .iconst 0, 0), (306, .ireturn, 0)]
theorem cdX0_run_ok : ∀ pc q, zk_at cdX0_run pc = some q → decode cX0_run pc = .ok (q.1, zk_len q.1 q.2) := zk_cd_ok (by decide +kernel)
def cdX1_make : List (Nat × Instr × Nat) := [(0, .aload_n 0, 0), (1, .getfield 26, 0), (4, .bipush 40, 0), (6, .if_icmp .lt 7, 0), (9, .aload_n 0, 0), (10, .invokevirtual 30, 0), (13, .aload_n 0, 0), (14, .getfield 9, 0), (17, .aload_n 0, 0), (18, .getfield 26, 0), (21, .iload_n 1, 0), (22, .iastore, 0), (23, .aload_n 0, 0), (24, .getfield 13, 0), (27, .aload_n 0, 0), (28, .getfield 26, 0), (31, .iload_n 2, 0), (32, .iastore, 0), (33, .aload_n 0, 0), (34, .getfield 16, 0), (37, .aload_n 0, 0), (38, .getfield 26, 0), (41, .aload_n 0, 0), (42, .getfield 22, 0), (45, .getfield 33, 0), (48, .iload_n 2, 0), (49, .aaload, 1), (50, .iload_n 1, 0), (51, .iaload, 0), (52, .iastore, 0), (53, .aload_n 0, 0), (54, .getfield 19, 0), (57, .aload_n 0, 0), (58, .getfield 26, 0), (61, .iload_n 3, 0), (62, .iastore, 0), (63, .aload_n 0, 0), (64, .dup, 0), (65, .getfield 26, 0), (68, .iconst 1, 0), (69, .iadd, 0), (70, .putfield 26, 0), (73, .aload_n 0, 0), (74, .iconst 0, 0), (75, .putfield 39, 0), (78, .aload_n 0, 0), (79, .getfield 22, 0), (82, .getfield 33, 0), (85, .iload_n 2, 0), (86, .aaload, 1), (87, .iload_n 1, 0), (88, .iload_n 3, 0), (89, .iastore, 0), (90, .return_, 0)]
theorem cdX1_make_ok : ∀ pc q, zk_at cdX1_make pc = some q → decode cX1_make pc = .ok (q.1, zk_len q.1 q.2) := zk_cd_ok (by decide +kernel)
def cdX1_takeBack : List (Nat × Instr × Nat) := [(0, .aload_n 0, 0), (1, .dup, 0), (2, .getfield 26, 0), (5, .iconst 1, 0), (6, .isub, 0), (7, .putfield 26, 0), (10, .aload_n 0, 0), (11, .dup, 0), (12, .getfield 39, 0), (15, .iconst 1, 0), (16, .iadd, 0), (17, .putfield 39, 0), (20, .aload_n 0, 0), (21, .getfield 22, 0), (24, .getfield 33, 0), (27, .aload_n 0, 0), (28, .getfield 13, 0), (31, .aload_n 0, 0), (32, .getfield 26, 0), (35, .iaload, 0), (36, .aaload, 1), (37, .aload_n 0, 0), (38, .getfield 9, 0), (41, .aload_n 0, 0), (42, .getfield 26, 0), (45, .iaload, 0), (46, .aload_n 0, 0), (47, .getfield 16, 0), (50, .aload_n 0, 0), (51, .getfield 26, 0), (54, .iaload, 0), (55, .iastore, 0), (56, .aload_n 0, 0), (57, .getfield 26, 0), (60, .ireturn, 0)]
theorem cdX1_takeBack_ok : ∀ pc q, zk_at cdX1_takeBack pc = some q → decode cX1_takeBack pc = .ok (q.1, zk_len q.1 q.2) := zk_cd_ok (by decide +kernel)
def cdX1_makeAgain : List (Nat × Instr × Nat) := [(0, .aload_n 0, 0), (1, .getfield 22, 0), (4, .getfield 33, 0), (7, .aload_n 0, 0), (8, .getfield 13, 0), (11, .aload_n 0, 0), (12, .getfield 26, 0), (15, .iaload, 0), (16, .aaload, 1), (17, .aload_n 0, 0), (18, .getfield 9, 0), (21, .aload_n 0, 0), (22, .getfield 26, 0), (25, .iaload, 0), (26, .aload_n 0, 0), (27, .getfield 19, 0), (30, .aload_n 0, 0), (31, .getfield 26, 0), (34, .iaload, 0), (35, .iastore, 0), (36, .aload_n 0, 0), (37, .dup, 0), (38, .getfield 26, 0), (41, .iconst 1, 0), (42, .iadd, 0), (43, .putfield 26, 0), (46, .aload_n 0, 0), (47, .dup, 0), (48, .getfield 39, 0), (51, .iconst 1, 0), (52, .isub, 0), (53, .putfield 39, 0), (56, .aload_n 0, 0), (57, .getfield 39, 0), (60, .ireturn, 0)]
theorem cdX1_makeAgain_ok : ∀ pc q, zk_at cdX1_makeAgain pc = some q → decode cX1_makeAgain pc = .ok (q.1, zk_len q.1 q.2) := zk_cd_ok (by decide +kernel)
def cdX1_dropOldest : List (Nat × Instr × Nat) := [(0, .aload_n 0, 0), (1, .getfield 9, 0), (4, .iconst 1, 0), (5, .aload_n 0, 0), (6, .getfield 9, 0), (9, .iconst 0, 0), (10, .bipush 39, 0), (12, .invokestatic 42, 0), (15, .aload_n 0, 0), (16, .getfield 13, 0), (19, .iconst 1, 0), (20, .aload_n 0, 0), (21, .getfield 13, 0), (24, .iconst 0, 0), (25, .bipush 39, 0), (27, .invokestatic 42, 0), (30, .aload_n 0, 0), (31, .getfield 16, 0), (34, .iconst 1, 0), (35, .aload_n 0, 0), (36, .getfield 16, 0), (39, .iconst 0, 0), (40, .bipush 39, 0), (42, .invokestatic 42, 0), (45, .aload_n 0, 0), (46, .getfield 19, 0), (49, .iconst 1, 0), (50, .aload_n 0, 0), (51, .getfield 19, 0), (54, .iconst 0, 0), (55, .bipush 39, 0), (57, .invokestatic 42, 0), (60, .aload_n 0, 0), (61, .dup, 0), (62, .getfield 26, 0), (65, .iconst 1, 0), (66, .isub, 0), (67, .putfield 26, 0), (70, .return_, 0)]
theorem cdX1_dropOldest_ok : ∀ pc q, zk_at cdX1_dropOldest pc = some q → decode cX1_dropOldest pc = .ok (q.1, zk_len q.1 q.2) := zk_cd_ok (by decide +kernel)
def cdX2_letMinutesPass : List (Nat × Instr × Nat) := [(0, .aload_n 0, 0), (1, .dup, 0), (2, .getfield 21, 0), (5, .iload_n 1, 0), (6, .iadd, 0), (7, .putfield 21, 0), (10, .aload_n 0, 0), (11, .getfield 21, 0), (14, .ireturn, 0)]
theorem cdX2_letMinutesPass_ok : ∀ pc q, zk_at cdX2_letMinutesPass pc = some q → decode cX2_letMinutesPass pc = .ok (q.1, zk_len q.1 q.2) := zk_cd_ok (by decide +kernel)
def cdX2_sendCard : List (Nat × Instr × Nat) := [(0, .aload_n 0, 0), (1, .getfield 17, 0), (4, .iload_n 2, 0), (5, .aload_n 0, 0), (6, .getfield 21, 0), (9, .iload_n 3, 0), (10, .invokevirtual 25, 0), (13, .istore 4, 0), (15, .aload_n 0, 0), (16, .getfield 17, 0), (19, .getfield 29, 0), (22, .bipush 14, 0), (24, .aaload, 0), (25, .iload 4, 0), (27, .iload_n 1, 0), (28, .iastore, 0), (29, .aload_n 0, 0), (30, .dup, 0), (31, .getfield 33, 0), (34, .iconst 1, 0), (35, .iadd, 0), (36, .putfield 33, 0), (39, .iload 4, 0), (41, .ireturn, 0)]
theorem cdX2_sendCard_ok : ∀ pc q, zk_at cdX2_sendCard pc = some q → decode cX2_sendCard pc = .ok (q.1, zk_len q.1 q.2) := zk_cd_ok (by decide +kernel)
def cdX2_mayBeThanked : List (Nat × Instr × Nat) := [(0, .aload_n 0, 0), (1, .getfield 17, 0), (4, .getfield 29, 0), (7, .bipush 14, 0), (9, .aaload, 0), (10, .iload_n 1, 0), (11, .iaload, 0), (12, .bipush (-2), 0), (14, .if_icmp .eq 24, 0), (17, .aload_n 0, 0), (18, .getfield 17, 0), (21, .getfield 29, 0), (24, .bipush 15, 0), (26, .aaload, 0), (27, .iload_n 1, 0), (28, .iaload, 0), (29, .bipush (-2), 0), (31, .if_icmp .ne 7, 0), (34, .iconst 1, 0), (35, .goto 4, 0), (38, .iconst 0, 0), (39, .ireturn, 0)]
theorem cdX2_mayBeThanked_ok : ∀ pc q, zk_at cdX2_mayBeThanked pc = some q → decode cX2_mayBeThanked pc = .ok (q.1, zk_len q.1 q.2) := zk_cd_ok (by decide +kernel)
def cdX2_thankOne : List (Nat × Instr × Nat) := [(0, .aload_n 0, 0), (1, .getfield 17, 0), (4, .getfield 29, 0), (7, .bipush 15, 0), (9, .aaload, 0), (10, .iload_n 1, 0), (11, .iload_n 2, 0), (12, .iastore, 0), (13, .aload_n 0, 0), (14, .getfield 17, 0), (17, .getfield 29, 0), (20, .bipush 14, 0), (22, .aaload, 0), (23, .iload_n 1, 0), (24, .iaload, 0), (25, .iload_n 2, 0), (26, .if_icmp .ne 15, 0), (29, .aload_n 0, 0), (30, .dup, 0), (31, .getfield 36, 0), (34, .iconst 1, 0), (35, .iadd, 0), (36, .putfield 36, 0), (39, .iconst 1, 0), (40, .ireturn, 0), (41, .aload_n 0, 0), (42, .dup, 0), (43, .getfield 39, 0), (46, .iconst 1, 0), (47, .iadd, 0), (48, .putfield 39, 0), (51, .iconst 0, 0), (52, .ireturn, 0)]
theorem cdX2_thankOne_ok : ∀ pc q, zk_at cdX2_thankOne pc = some q → decode cX2_thankOne pc = .ok (q.1, zk_len q.1 q.2) := zk_cd_ok (by decide +kernel)
def cdX2_keepImage : List (Nat × Instr × Nat) := [(0, .aload_n 0, 0), (1, .iconst 1, 0), (2, .putfield 42, 0), (5, .aload_n 0, 0), (6, .aload_n 0, 0), (7, .getfield 21, 0), (10, .putfield 46, 0), (13, .aload_n 0, 0), (14, .aload_n 0, 0), (15, .getfield 33, 0), (18, .putfield 49, 0), (21, .aload_n 0, 0), (22, .aload_n 0, 0), (23, .getfield 36, 0), (26, .putfield 52, 0), (29, .aload_n 0, 0), (30, .aload_n 0, 0), (31, .getfield 39, 0), (34, .putfield 55, 0), (37, .aload_n 0, 0), (38, .getfield 17, 0), (41, .getfield 29, 0), (44, .bipush 15, 0), (46, .aaload, 0), (47, .iconst 0, 0), (48, .aload_n 0, 0), (49, .getfield 11, 0), (52, .iconst 0, 0), (53, .bipush 6, 0), (55, .invokestatic 58, 0), (58, .aload_n 0, 0), (59, .getfield 21, 0), (62, .ireturn, 0)]
theorem cdX2_keepImage_ok : ∀ pc q, zk_at cdX2_keepImage pc = some q → decode cX2_keepImage pc = .ok (q.1, zk_len q.1 q.2) := zk_cd_ok (by decide +kernel)
def cdX2_layImageBack : List (Nat × Instr × Nat) := [(0, .aload_n 0, 0), (1, .aload_n 0, 0), (2, .getfield 46, 0), (5, .putfield 21, 0), (8, .aload_n 0, 0), (9, .aload_n 0, 0), (10, .getfield 49, 0), (13, .putfield 33, 0), (16, .aload_n 0, 0), (17, .aload_n 0, 0), (18, .getfield 52, 0), (21, .putfield 36, 0), (24, .aload_n 0, 0), (25, .aload_n 0, 0), (26, .getfield 55, 0), (29, .putfield 39, 0), (32, .aload_n 0, 0), (33, .getfield 11, 0), (36, .iconst 0, 0), (37, .aload_n 0, 0), (38, .getfield 17, 0), (41, .getfield 29, 0), (44, .bipush 15, 0), (46, .aaload, 0), (47, .iconst 0, 0), (48, .bipush 6, 0), (50, .invokestatic 58, 0), (53, .aload_n 0, 0), (54, .getfield 21, 0), (57, .ireturn, 0)]
theorem cdX2_layImageBack_ok : ∀ pc q, zk_at cdX2_layImageBack pc = some q → decode cX2_layImageBack pc = .ok (q.1, zk_len q.1 q.2) := zk_cd_ok (by decide +kernel)
def cdX3_adopt : List (Nat × Instr × Nat) := [(0, .aload_n 0, 0), (1, .iload_n 2, 0), (2, .putfield 18, 0), (5, .aload_n 1, 0), (6, .iconst 0, 0), (7, .aload_n 0, 0), (8, .getfield 9, 0), (11, .iconst 0, 0), (12, .iload_n 2, 0), (13, .invokestatic 22, 0), (16, .return_, 0)]
theorem cdX3_adopt_ok : ∀ pc q, zk_at cdX3_adopt pc = some q → decode cX3_adopt pc = .ok (q.1, zk_len q.1 q.2) := zk_cd_ok (by decide +kernel)
def cdX3_isTold : List (Nat × Instr × Nat) := [(0, .aload_n 0, 0), (1, .getfield 18, 0), (4, .ifCond .le 7, 0), (7, .iconst 1, 0), (8, .goto 4, 0), (11, .iconst 0, 0), (12, .ireturn, 0)]
theorem cdX3_isTold_ok : ∀ pc q, zk_at cdX3_isTold pc = some q → decode cX3_isTold pc = .ok (q.1, zk_len q.1 q.2) := zk_cd_ok (by decide +kernel)
def cdX3_valueFor : List (Nat × Instr × Nat) := [(0, .iconst 0, 0), (1, .istore_n 2, 0), (2, .iconst 0, 0), (3, .istore_n 3, 0), (4, .iconst 0, 0), (5, .istore 4, 0), (7, .iload 4, 0), (9, .aload_n 0, 0), (10, .getfield 18, 0), (13, .if_icmp .ge 179, 0), (16, .aload_n 0, 0), (17, .getfield 9, 0), (20, .iload 4, 0), (22, .iaload, 0), (23, .istore 5, 0), (25, .iload_n 3, 0), (26, .ifCond .eq 20, 0), (29, .iload 5, 0), (31, .sipush 20059, 0), (34, .if_icmp .eq 7, 0), (37, .iconst 1, 0), (38, .goto 4, 0), (41, .iconst 0, 0), (42, .istore_n 3, 0), (43, .goto 143, 0), (46, .iload 5, 0), (48, .sipush 20059, 0), (51, .if_icmp .ne 10, 0), (54, .aload_n 0, 0), (55, .getfield 15, 0), (58, .iconst 0, 0), (59, .iaload, 0), (60, .ireturn, 0), (61, .iload 5, 0), (63, .sipush 20063, 0), (66, .if_icmp .ne 23, 0), (69, .aload_n 0, 0), (70, .getfield 15, 0), (73, .iconst 0, 0), (74, .iaload, 0), (75, .ifCond .ne 7, 0), (78, .iconst 1, 0), (79, .goto 4, 0), (82, .iconst 0, 0), (83, .istore_n 3, 0), (84, .iconst 0, 0), (85, .istore_n 2, 0), (86, .goto 100, 0), (89, .iload 5, 0), (91, .sipush 20000, 0), (94, .if_icmp .ge 36, 0), (97, .aload_n 0, 0), (98, .getfield 15, 0), (101, .iload_n 2, 0), (102, .iload 5, 0), (104, .sipush 10000, 0), (107, .if_icmp .ge 8, 0), (110, .iload 5, 0), (112, .goto 11, 0), (115, .aload_n 1, 0), (116, .iload 5, 0), (118, .sipush 10000, 0), (121, .isub, 0), (122, .iaload, 0), (123, .iastore, 0), (124, .iinc 2 1, 0), (127, .goto 59, 0), (130, .iconst 0, 0), (131, .iload_n 2, 0), (132, .aload_n 0, 0), (133, .iload 5, 0), (135, .invokevirtual 28, 0), (138, .isub, 0), (139, .invokestatic 32, 0), (142, .istore 6, 0), (144, .aload_n 0, 0), (145, .getfield 15, 0), (148, .iload 6, 0), (150, .aload_n 0, 0), (151, .iload 5, 0), (153, .sipush 20000, 0), (156, .isub, 0), (157, .aload_n 0, 0), (158, .getfield 15, 0), (161, .iload 6, 0), (163, .iaload, 0), (164, .aload_n 0, 0), (165, .getfield 15, 0), (168, .iload 6, 0), (170, .iload_n 2, 0), (171, .iconst 1, 0), (172, .isub, 0), (173, .invokestatic 32, 0), (176, .iaload, 0), (177, .invokevirtual 38, 0), (180, .iastore, 0), (181, .iload 6, 0), (183, .iconst 1, 0), (184, .iadd, 0), (185, .istore_n 2, 0), (186, .iinc 4 1, 0), (189, .goto (-182), 0), (192, .iconst 0, 0), (193, .ireturn, 0)]
theorem cdX3_valueFor_ok : ∀ pc q, zk_at cdX3_valueFor pc = some q → decode cX3_valueFor pc = .ok (q.1, zk_len q.1 q.2) := zk_cd_ok (by decide +kernel)
def cdX3_operandsOf : List (Nat × Instr × Nat) := [(0, .iload_n 1, 0), (1, .sipush 20033, 0), (4, .if_icmp .eq 10, 0), (7, .iload_n 1, 0), (8, .sipush 20126, 0), (11, .if_icmp .ne 7, 0), (14, .iconst 1, 0), (15, .goto 4, 0), (18, .iconst 2, 0), (19, .ireturn, 0)]
theorem cdX3_operandsOf_ok : ∀ pc q, zk_at cdX3_operandsOf pc = some q → decode cX3_operandsOf pc = .ok (q.1, zk_len q.1 q.2) := zk_cd_ok (by decide +kernel)
def cdX3_worked : List (Nat × Instr × Nat) := [(0, .iload_n 1, 0), (1, .lookupswitch 217 #[(33, 107), (37, 205), (38, 134), (42, 189), (43, 181), (45, 185), (47, 193), (60, 148), (61, 159), (62, 170), (124, 120), (126, 117)], 107), (108, .iload_n 3, 0), (109, .ifCond .ne 7, 0), (112, .iconst 1, 0), (113, .goto 4, 0), (116, .iconst 0, 0), (117, .ireturn, 0), (118, .iload_n 3, 0), (119, .ineg, 0), (120, .ireturn, 0), (121, .iload_n 2, 0), (122, .ifCond .ne 7, 0), (125, .iload_n 3, 0), (126, .ifCond .eq 7, 0), (129, .iconst 1, 0), (130, .goto 4, 0), (133, .iconst 0, 0), (134, .ireturn, 0), (135, .iload_n 2, 0), (136, .ifCond .eq 11, 0), (139, .iload_n 3, 0), (140, .ifCond .eq 7, 0), (143, .iconst 1, 0), (144, .goto 4, 0), (147, .iconst 0, 0), (148, .ireturn, 0), (149, .iload_n 2, 0), (150, .iload_n 3, 0), (151, .if_icmp .ge 7, 0), (154, .iconst 1, 0), (155, .goto 4, 0), (158, .iconst 0, 0), (159, .ireturn, 0), (160, .iload_n 2, 0), (161, .iload_n 3, 0), (162, .if_icmp .ne 7, 0), (165, .iconst 1, 0), (166, .goto 4, 0), (169, .iconst 0, 0), (170, .ireturn, 0), (171, .iload_n 2, 0), (172, .iload_n 3, 0), (173, .if_icmp .le 7, 0), (176, .iconst 1, 0), (177, .goto 4, 0), (180, .iconst 0, 0), (181, .ireturn, 0), (182, .iload_n 2, 0), (183, .iload_n 3, 0), (184, .iadd, 0), (185, .ireturn, 0), (186, .iload_n 2, 0), (187, .iload_n 3, 0), (188, .isub, 0), (189, .ireturn, 0), (190, .iload_n 2, 0), (191, .iload_n 3, 0), (192, .imul, 0), (193, .ireturn, 0), (194, .iload_n 3, 0), (195, .ifCond .ne 7, 0), (198, .iconst 0, 0), (199, .goto 6, 0), (202, .iload_n 2, 0), (203, .iload_n 3, 0), (204, .idiv, 0), (205, .ireturn, 0), (206, .iload_n 3, 0), (207, .ifCond .ne 7, 0), (210, .iconst 0, 0), (211, .goto 6, 0), (214, .iload_n 2, 0), (215, .iload_n 3, 0), (216, .irem, 0), (217, .ireturn, 0), (218, .iconst 0, 0), (219, .ireturn, 0)]
theorem cdX3_worked_ok : ∀ pc q, zk_at cdX3_worked pc = some q → decode cX3_worked pc = .ok (q.1, zk_len q.1 q.2) := zk_cd_ok (by decide +kernel)
def cdX4_isPerson : List (Nat × Instr × Nat) := [(0, .iload_n 1, 0), (1, .ifCond .lt 15, 0), (4, .iload_n 1, 0), (5, .aload_n 0, 0), (6, .getfield 22, 0), (9, .if_icmp .ge 7, 0), (12, .iconst 1, 0), (13, .goto 4, 0), (16, .iconst 0, 0), (17, .ireturn, 0)]
theorem cdX4_isPerson_ok : ∀ pc q, zk_at cdX4_isPerson pc = some q → decode cX4_isPerson pc = .ok (q.1, zk_len q.1 q.2) := zk_cd_ok (by decide +kernel)
def cdX4_isCard : List (Nat × Instr × Nat) := [(0, .iload_n 1, 0), (1, .ifCond .lt 15, 0), (4, .iload_n 1, 0), (5, .aload_n 0, 0), (6, .getfield 26, 0), (9, .if_icmp .ge 7, 0), (12, .iconst 1, 0), (13, .goto 4, 0), (16, .iconst 0, 0), (17, .ireturn, 0)]
theorem cdX4_isCard_ok : ∀ pc q, zk_at cdX4_isCard pc = some q → decode cX4_isCard pc = .ok (q.1, zk_len q.1 q.2) := zk_cd_ok (by decide +kernel)
def cdX4_isSecret : List (Nat × Instr × Nat) := [(0, .iload_n 1, 0), (1, .ifCond .lt 13, 0), (4, .iload_n 1, 0), (5, .bipush 8, 0), (7, .if_icmp .ge 7, 0), (10, .iconst 1, 0), (11, .goto 4, 0), (14, .iconst 0, 0), (15, .ireturn, 0)]
theorem cdX4_isSecret_ok : ∀ pc q, zk_at cdX4_isSecret pc = some q → decode cX4_isSecret pc = .ok (q.1, zk_len q.1 q.2) := zk_cd_ok (by decide +kernel)
def cdX4_isSet : List (Nat × Instr × Nat) := [(0, .iload_n 1, 0), (1, .ifCond .lt 17, 0), (4, .iload_n 1, 0), (5, .iconst 1, 0), (6, .aload_n 0, 0), (7, .getfield 26, 0), (10, .ishl, 0), (11, .if_icmp .ge 7, 0), (14, .iconst 1, 0), (15, .goto 4, 0), (18, .iconst 0, 0), (19, .ireturn, 0)]
theorem cdX4_isSet_ok : ∀ pc q, zk_at cdX4_isSet pc = some q → decode cX4_isSet pc = .ok (q.1, zk_len q.1 q.2) := zk_cd_ok (by decide +kernel)
def cdX4_isCardAndPerson : List (Nat × Instr × Nat) := [(0, .iload_n 1, 0), (1, .ifCond .lt 29, 0), (4, .aload_n 0, 0), (5, .iload_n 1, 0), (6, .bipush 10, 0), (8, .idiv, 0), (9, .invokevirtual 29, 0), (12, .ifCond .eq 18, 0), (15, .aload_n 0, 0), (16, .iload_n 1, 0), (17, .bipush 10, 0), (19, .irem, 0), (20, .invokevirtual 33, 0), (23, .ifCond .eq 7, 0), (26, .iconst 1, 0), (27, .goto 4, 0), (30, .iconst 0, 0), (31, .ireturn, 0)]
theorem cdX4_isCardAndPerson_ok : ∀ pc q, zk_at cdX4_isCardAndPerson pc = some q → decode cX4_isCardAndPerson pc = .ok (q.1, zk_len q.1 q.2) := zk_cd_ok (by decide +kernel)
def cdX4_isTwoPeople : List (Nat × Instr × Nat) := [(0, .iload_n 1, 0), (1, .ifCond .lt 40, 0), (4, .aload_n 0, 0), (5, .iload_n 1, 0), (6, .bipush 10, 0), (8, .idiv, 0), (9, .invokevirtual 33, 0), (12, .ifCond .eq 29, 0), (15, .aload_n 0, 0), (16, .iload_n 1, 0), (17, .bipush 10, 0), (19, .irem, 0), (20, .invokevirtual 33, 0), (23, .ifCond .eq 18, 0), (26, .iload_n 1, 0), (27, .bipush 10, 0), (29, .idiv, 0), (30, .iload_n 1, 0), (31, .bipush 10, 0), (33, .irem, 0), (34, .if_icmp .eq 7, 0), (37, .iconst 1, 0), (38, .goto 4, 0), (41, .iconst 0, 0), (42, .ireturn, 0)]
theorem cdX4_isTwoPeople_ok : ∀ pc q, zk_at cdX4_isTwoPeople pc = some q → decode cX4_isTwoPeople pc = .ok (q.1, zk_len q.1 q.2) := zk_cd_ok (by decide +kernel)
def cdX4_isWay : List (Nat × Instr × Nat) := [(0, .iload_n 1, 0), (1, .ifCond .lt 35, 0), (4, .iload_n 1, 0), (5, .bipush 100, 0), (7, .idiv, 0), (8, .bipush 8, 0), (10, .if_icmp .gt 26, 0), (13, .iload_n 1, 0), (14, .bipush 10, 0), (16, .idiv, 0), (17, .bipush 10, 0), (19, .irem, 0), (20, .iconst 4, 0), (21, .if_icmp .gt 15, 0), (24, .iload_n 1, 0), (25, .bipush 10, 0), (27, .irem, 0), (28, .iconst 1, 0), (29, .if_icmp .gt 7, 0), (32, .iconst 1, 0), (33, .goto 4, 0), (36, .iconst 0, 0), (37, .ireturn, 0)]
theorem cdX4_isWay_ok : ∀ pc q, zk_at cdX4_isWay pc = some q → decode cX4_isWay pc = .ok (q.1, zk_len q.1 q.2) := zk_cd_ok (by decide +kernel)
def cdX4_has : List (Nat × Instr × Nat) := [(0, .iload_n 2, 0), (1, .ifCond .lt 9, 0), (4, .iload_n 2, 0), (5, .bipush 15, 0), (7, .if_icmp .le 5, 0), (10, .iconst 0, 0), (11, .ireturn, 0), (12, .iload_n 2, 0), (13, .iconst 5, 0), (14, .if_icmp .gt 9, 0), (17, .aload_n 0, 0), (18, .iload_n 1, 0), (19, .invokevirtual 33, 0), (22, .ireturn, 0), (23, .iload_n 2, 0), (24, .bipush 10, 0), (26, .if_icmp .lt 21, 0), (29, .iload_n 2, 0), (30, .bipush 12, 0), (32, .if_icmp .gt 15, 0), (35, .iload_n 1, 0), (36, .ifCond .ne 7, 0), (39, .iconst 1, 0), (40, .goto 12, 0), (43, .iconst 0, 0), (44, .goto 8, 0), (47, .aload_n 0, 0), (48, .iload_n 1, 0), (49, .invokevirtual 29, 0), (52, .ireturn, 0)]
theorem cdX4_has_ok : ∀ pc q, zk_at cdX4_has pc = some q → decode cX4_has pc = .ok (q.1, zk_len q.1 q.2) := zk_cd_ok (by decide +kernel)
def cdX4_fits : List (Nat × Instr × Nat) := [(0, .iload_n 1, 0), (1, .ifCond .lt 31, 0), (4, .iload_n 1, 0), (5, .bipush 12, 0), (7, .if_icmp .gt 25, 0), (10, .iload_n 2, 0), (11, .getstatic 36, 0), (14, .iload_n 1, 0), (15, .iaload, 0), (16, .if_icmp .lt 16, 0), (19, .iload_n 2, 0), (20, .getstatic 40, 0), (23, .iload_n 1, 0), (24, .iaload, 0), (25, .if_icmp .gt 7, 0), (28, .iconst 1, 0), (29, .goto 4, 0), (32, .iconst 0, 0), (33, .ireturn, 0)]
theorem cdX4_fits_ok : ∀ pc q, zk_at cdX4_fits pc = some q → decode cX4_fits pc = .ok (q.1, zk_len q.1 q.2) := zk_cd_ok (by decide +kernel)
def cdX4_addPerson : List (Nat × Instr × Nat) := [(0, .aload_n 0, 0), (1, .getfield 22, 0), (4, .istore 4, 0), (6, .aload_n 0, 0), (7, .getfield 13, 0), (10, .iconst 0, 0), (11, .aaload, 0), (12, .iload 4, 0), (14, .iconst 0, 0), (15, .iastore, 0), (16, .aload_n 0, 0), (17, .getfield 13, 0), (20, .iconst 1, 0), (21, .aaload, 0), (22, .iload 4, 0), (24, .bipush 99, 0), (26, .iastore, 0), (27, .aload_n 0, 0), (28, .getfield 13, 0), (31, .iconst 2, 0), (32, .aaload, 0), (33, .iload 4, 0), (35, .iload_n 1, 0), (36, .iastore, 0), (37, .aload_n 0, 0), (38, .getfield 13, 0), (41, .iconst 3, 0), (42, .aaload, 0), (43, .iload 4, 0), (45, .iconst 0, 0), (46, .iastore, 0), (47, .aload_n 0, 0), (48, .getfield 13, 0), (51, .iconst 4, 0), (52, .aaload, 0), (53, .iload 4, 0), (55, .iload_n 2, 0), (56, .iastore, 0), (57, .aload_n 0, 0), (58, .getfield 13, 0), (61, .iconst 5, 0), (62, .aaload, 0), (63, .iload 4, 0), (65, .iload_n 3, 0), (66, .iastore, 0), (67, .aload_n 0, 0), (68, .dup, 0), (69, .getfield 22, 0), (72, .iconst 1, 0), (73, .iadd, 0), (74, .putfield 22, 0), (77, .iload 4, 0), (79, .ireturn, 0)]
theorem cdX4_addPerson_ok : ∀ pc q, zk_at cdX4_addPerson pc = some q → decode cX4_addPerson pc = .ok (q.1, zk_len q.1 q.2) := zk_cd_ok (by decide +kernel)
def cdX4_addCard : List (Nat × Instr × Nat) := [(0, .aload_n 0, 0), (1, .getfield 26, 0), (4, .istore 4, 0), (6, .aload_n 0, 0), (7, .iload_n 1, 0), (8, .iload_n 2, 0), (9, .iload_n 3, 0), (10, .invokevirtual 43, 0), (13, .aload_n 0, 0), (14, .dup, 0), (15, .getfield 26, 0), (18, .iconst 1, 0), (19, .iadd, 0), (20, .putfield 26, 0), (23, .iload 4, 0), (25, .ireturn, 0)]
theorem cdX4_addCard_ok : ∀ pc q, zk_at cdX4_addCard pc = some q → decode cX4_addCard pc = .ok (q.1, zk_len q.1 q.2) := zk_cd_ok (by decide +kernel)
def cdX4_layCard : List (Nat × Instr × Nat) := [(0, .aload_n 0, 0), (1, .getfield 26, 0), (4, .istore 4, 0), (6, .aload_n 0, 0), (7, .getfield 13, 0), (10, .bipush 13, 0), (12, .aaload, 0), (13, .iload 4, 0), (15, .iload_n 1, 0), (16, .iastore, 0), (17, .aload_n 0, 0), (18, .getfield 13, 0), (21, .bipush 6, 0), (23, .aaload, 0), (24, .iload 4, 0), (26, .iload_n 2, 0), (27, .iastore, 0), (28, .aload_n 0, 0), (29, .getfield 13, 0), (32, .bipush 8, 0), (34, .aaload, 0), (35, .iload 4, 0), (37, .iload_n 3, 0), (38, .bipush 100, 0), (40, .idiv, 0), (41, .iconst 1, 0), (42, .isub, 0), (43, .iastore, 0), (44, .aload_n 0, 0), (45, .getfield 13, 0), (48, .bipush 7, 0), (50, .aaload, 0), (51, .iload 4, 0), (53, .iload_n 3, 0), (54, .bipush 10, 0), (56, .idiv, 0), (57, .bipush 10, 0), (59, .irem, 0), (60, .iconst 1, 0), (61, .isub, 0), (62, .iastore, 0), (63, .aload_n 0, 0), (64, .getfield 13, 0), (67, .bipush 9, 0), (69, .aaload, 0), (70, .iload 4, 0), (72, .iload_n 3, 0), (73, .bipush 10, 0), (75, .irem, 0), (76, .iastore, 0), (77, .return_, 0)]
theorem cdX4_layCard_ok : ∀ pc q, zk_at cdX4_layCard pc = some q → decode cX4_layCard pc = .ok (q.1, zk_len q.1 q.2) := zk_cd_ok (by decide +kernel)
def cdX4_likes : List (Nat × Instr × Nat) := [(0, .aload_n 0, 0), (1, .getfield 13, 0), (4, .iconst 4, 0), (5, .aaload, 0), (6, .iload_n 1, 0), (7, .iaload, 0), (8, .iload_n 2, 0), (9, .ishr, 0), (10, .iconst 1, 0), (11, .iand, 0), (12, .ifCond .eq 7, 0), (15, .iconst 1, 0), (16, .goto 4, 0), (19, .iconst 0, 0), (20, .ireturn, 0)]
theorem cdX4_likes_ok : ∀ pc q, zk_at cdX4_likes pc = some q → decode cX4_likes pc = .ok (q.1, zk_len q.1 q.2) := zk_cd_ok (by decide +kernel)
def cdX4_knows : List (Nat × Instr × Nat) := [(0, .aload_n 0, 0), (1, .getfield 13, 0), (4, .iconst 5, 0), (5, .aaload, 0), (6, .iload_n 1, 0), (7, .iaload, 0), (8, .iload_n 2, 0), (9, .ishr, 0), (10, .iconst 1, 0), (11, .iand, 0), (12, .ifCond .eq 7, 0), (15, .iconst 1, 0), (16, .goto 4, 0), (19, .iconst 0, 0), (20, .ireturn, 0)]
theorem cdX4_knows_ok : ∀ pc q, zk_at cdX4_knows pc = some q → decode cX4_knows pc = .ok (q.1, zk_len q.1 q.2) := zk_cd_ok (by decide +kernel)
def cdX4_isIn : List (Nat × Instr × Nat) := [(0, .aload_n 0, 0), (1, .getfield 13, 0), (4, .iconst 0, 0), (5, .aaload, 0), (6, .iload_n 1, 0), (7, .iaload, 0), (8, .iload_n 2, 0), (9, .if_icmp .gt 19, 0), (12, .iload_n 2, 0), (13, .aload_n 0, 0), (14, .getfield 13, 0), (17, .iconst 1, 0), (18, .aaload, 0), (19, .iload_n 1, 0), (20, .iaload, 0), (21, .if_icmp .gt 7, 0), (24, .iconst 1, 0), (25, .goto 4, 0), (28, .iconst 0, 0), (29, .ireturn, 0)]
theorem cdX4_isIn_ok : ∀ pc q, zk_at cdX4_isIn pc = some q → decode cX4_isIn pc = .ok (q.1, zk_len q.1 q.2) := zk_cd_ok (by decide +kernel)
def cdX4_canWriteSo : List (Nat × Instr × Nat) := [(0, .iload_n 2, 0), (1, .bipush 100, 0), (3, .idiv, 0), (4, .iconst 1, 0), (5, .isub, 0), (6, .istore 4, 0), (8, .iload 4, 0), (10, .ifCond .lt 13, 0), (13, .aload_n 0, 0), (14, .iload_n 1, 0), (15, .iload 4, 0), (17, .invokevirtual 47, 0), (20, .ifCond .eq 23, 0), (23, .iload_n 2, 0), (24, .bipush 10, 0), (26, .irem, 0), (27, .ifCond .eq 12, 0), (30, .aload_n 0, 0), (31, .iload_n 1, 0), (32, .iload_n 3, 0), (33, .invokevirtual 51, 0), (36, .ifCond .eq 7, 0), (39, .iconst 1, 0), (40, .goto 4, 0), (43, .iconst 0, 0), (44, .ireturn, 0)]
theorem cdX4_canWriteSo_ok : ∀ pc q, zk_at cdX4_canWriteSo pc = some q → decode cX4_canWriteSo pc = .ok (q.1, zk_len q.1 q.2) := zk_cd_ok (by decide +kernel)
def cdX4_whoCould : List (Nat × Instr × Nat) := [(0, .aload_n 0, 0), (1, .iload_n 1, 0), (2, .aload_n 0, 0), (3, .getfield 13, 0), (6, .bipush 8, 0), (8, .aaload, 0), (9, .iload_n 1, 0), (10, .iaload, 0), (11, .invokevirtual 54, 0), (14, .ireturn, 0)]
theorem cdX4_whoCould_ok : ∀ pc q, zk_at cdX4_whoCould pc = some q → decode cX4_whoCould pc = .ok (q.1, zk_len q.1 q.2) := zk_cd_ok (by decide +kernel)
def cdX4_whoCouldWithSecret : List (Nat × Instr × Nat) := [(0, .aload_n 0, 0), (1, .invokevirtual 58, 0), (4, .iconst 1, 0), (5, .aload_n 0, 0), (6, .getfield 13, 0), (9, .bipush 13, 0), (11, .aaload, 0), (12, .iload_n 1, 0), (13, .iaload, 0), (14, .ishl, 0), (15, .iconst (-1), 0), (16, .ixor, 0), (17, .iand, 0), (18, .istore_n 3, 0), (19, .iload_n 2, 0), (20, .ifCond .lt 11, 0), (23, .iload_n 3, 0), (24, .aload_n 0, 0), (25, .iload_n 2, 0), (26, .invokevirtual 62, 0), (29, .iand, 0), (30, .istore_n 3, 0), (31, .aload_n 0, 0), (32, .getfield 13, 0), (35, .bipush 9, 0), (37, .aaload, 0), (38, .iload_n 1, 0), (39, .iaload, 0), (40, .ifCond .ne 7, 0), (43, .iload_n 3, 0), (44, .goto 18, 0), (47, .iload_n 3, 0), (48, .aload_n 0, 0), (49, .aload_n 0, 0), (50, .getfield 13, 0), (53, .bipush 6, 0), (55, .aaload, 0), (56, .iload_n 1, 0), (57, .iaload, 0), (58, .invokevirtual 66, 0), (61, .iand, 0), (62, .ireturn, 0)]
theorem cdX4_whoCouldWithSecret_ok : ∀ pc q, zk_at cdX4_whoCouldWithSecret pc = some q → decode cX4_whoCouldWithSecret pc = .ok (q.1, zk_len q.1 q.2) := zk_cd_ok (by decide +kernel)
def cdX4_everybody : List (Nat × Instr × Nat) := [(0, .iconst 1, 0), (1, .aload_n 0, 0), (2, .getfield 22, 0), (5, .ishl, 0), (6, .iconst 1, 0), (7, .isub, 0), (8, .ireturn, 0)]
theorem cdX4_everybody_ok : ∀ pc q, zk_at cdX4_everybody pc = some q → decode cX4_everybody pc = .ok (q.1, zk_len q.1 q.2) := zk_cd_ok (by decide +kernel)
def cdX4_whoIsIn : List (Nat × Instr × Nat) := [(0, .iconst 0, 0), (1, .istore_n 2, 0), (2, .iconst 0, 0), (3, .istore_n 3, 0), (4, .iload_n 3, 0), (5, .aload_n 0, 0), (6, .getfield 22, 0), (9, .if_icmp .ge 24, 0), (12, .aload_n 0, 0), (13, .iload_n 3, 0), (14, .iload_n 1, 0), (15, .invokevirtual 51, 0), (18, .ifCond .eq 9, 0), (21, .iload_n 2, 0), (22, .iconst 1, 0), (23, .iload_n 3, 0), (24, .ishl, 0), (25, .ior, 0), (26, .istore_n 2, 0), (27, .iinc 3 1, 0), (30, .goto (-26), 0), (33, .iload_n 2, 0), (34, .ireturn, 0)]
theorem cdX4_whoIsIn_ok : ∀ pc q, zk_at cdX4_whoIsIn pc = some q → decode cX4_whoIsIn pc = .ok (q.1, zk_len q.1 q.2) := zk_cd_ok (by decide +kernel)
def cdX4_whoKnows : List (Nat × Instr × Nat) := [(0, .iconst 0, 0), (1, .istore_n 2, 0), (2, .iconst 0, 0), (3, .istore_n 3, 0), (4, .iload_n 3, 0), (5, .aload_n 0, 0), (6, .getfield 22, 0), (9, .if_icmp .ge 24, 0), (12, .aload_n 0, 0), (13, .iload_n 3, 0), (14, .iload_n 1, 0), (15, .invokevirtual 47, 0), (18, .ifCond .eq 9, 0), (21, .iload_n 2, 0), (22, .iconst 1, 0), (23, .iload_n 3, 0), (24, .ishl, 0), (25, .ior, 0), (26, .istore_n 2, 0), (27, .iinc 3 1, 0), (30, .goto (-26), 0), (33, .iload_n 2, 0), (34, .ireturn, 0)]
theorem cdX4_whoKnows_ok : ∀ pc q, zk_at cdX4_whoKnows pc = some q → decode cX4_whoKnows pc = .ok (q.1, zk_len q.1 q.2) := zk_cd_ok (by decide +kernel)
def cdX4_whoKnowsAfter : List (Nat × Instr × Nat) := [(0, .aload_n 0, 0), (1, .iload_n 1, 0), (2, .invokevirtual 62, 0), (5, .istore_n 3, 0), (6, .iconst 0, 0), (7, .istore 4, 0), (9, .iload 4, 0), (11, .iload_n 2, 0), (12, .if_icmp .ge 15, 0), (15, .aload_n 0, 0), (16, .iload_n 3, 0), (17, .invokevirtual 69, 0), (20, .istore_n 3, 0), (21, .iinc 4 1, 0), (24, .goto (-15), 0), (27, .iload_n 3, 0), (28, .ireturn, 0)]
theorem cdX4_whoKnowsAfter_ok : ∀ pc q, zk_at cdX4_whoKnowsAfter pc = some q → decode cX4_whoKnowsAfter pc = .ok (q.1, zk_len q.1 q.2) := zk_cd_ok (by decide +kernel)
def cdX4_eveningOfHearing : List (Nat × Instr × Nat) := [(0, .aload_n 0, 0), (1, .iload_n 1, 0), (2, .invokevirtual 62, 0), (5, .istore_n 3, 0), (6, .iconst 0, 0), (7, .istore 4, 0), (9, .iload 4, 0), (11, .bipush 9, 0), (13, .if_icmp .gt 26, 0), (16, .iload_n 3, 0), (17, .iload_n 2, 0), (18, .ishr, 0), (19, .iconst 1, 0), (20, .iand, 0), (21, .ifCond .eq 6, 0), (24, .iload 4, 0), (26, .ireturn, 0), (27, .aload_n 0, 0), (28, .iload_n 3, 0), (29, .invokevirtual 69, 0), (32, .istore_n 3, 0), (33, .iinc 4 1, 0), (36, .goto (-27), 0), (39, .bipush (-2), 0), (41, .ireturn, 0)]
theorem cdX4_eveningOfHearing_ok : ∀ pc q, zk_at cdX4_eveningOfHearing pc = some q → decode cX4_eveningOfHearing pc = .ok (q.1, zk_len q.1 q.2) := zk_cd_ok (by decide +kernel)
def cdX4_toldOn : List (Nat × Instr × Nat) := [(0, .iload_n 1, 0), (1, .istore_n 2, 0), (2, .iconst 0, 0), (3, .istore_n 3, 0), (4, .iload_n 3, 0), (5, .aload_n 0, 0), (6, .getfield 22, 0), (9, .if_icmp .ge 28, 0), (12, .iload_n 1, 0), (13, .iload_n 3, 0), (14, .ishr, 0), (15, .iconst 1, 0), (16, .iand, 0), (17, .ifCond .eq 14, 0), (20, .iload_n 2, 0), (21, .aload_n 0, 0), (22, .getfield 13, 0), (25, .iconst 4, 0), (26, .aaload, 0), (27, .iload_n 3, 0), (28, .iaload, 0), (29, .ior, 0), (30, .istore_n 2, 0), (31, .iinc 3 1, 0), (34, .goto (-30), 0), (37, .iload_n 2, 0), (38, .aload_n 0, 0), (39, .invokevirtual 58, 0), (42, .iand, 0), (43, .ireturn, 0)]
theorem cdX4_toldOn_ok : ∀ pc q, zk_at cdX4_toldOn pc = some q → decode cX4_toldOn pc = .ok (q.1, zk_len q.1 q.2) := zk_cd_ok (by decide +kernel)
def cdX5_takeLetter : List (Nat × Instr × Nat) := [(0, .aload_n 0, 0), (1, .getfield 9, 0), (4, .aload_n 0, 0), (5, .getfield 21, 0), (8, .iload_n 1, 0), (9, .iastore, 0), (10, .aload_n 0, 0), (11, .dup, 0), (12, .getfield 21, 0), (15, .iconst 1, 0), (16, .iadd, 0), (17, .putfield 21, 0), (20, .aload_n 0, 0), (21, .getfield 21, 0), (24, .ireturn, 0)]
theorem cdX5_takeLetter_ok : ∀ pc q, zk_at cdX5_takeLetter pc = some q → decode cX5_takeLetter pc = .ok (q.1, zk_len q.1 q.2) := zk_cd_ok (by decide +kernel)
def cdX5_parseTape : List (Nat × Instr × Nat) := [(0, .aload_n 0, 0), (1, .getfield 21, 0), (4, .istore_n 1, 0), (5, .aload_n 0, 0), (6, .iconst 0, 0), (7, .putfield 21, 0), (10, .aload_n 0, 0), (11, .invokevirtual 25, 0), (14, .iconst 0, 0), (15, .istore_n 2, 0), (16, .iload_n 2, 0), (17, .iload_n 1, 0), (18, .if_icmp .ge 24, 0), (21, .aload_n 0, 0), (22, .aload_n 0, 0), (23, .getfield 9, 0), (26, .iload_n 2, 0), (27, .iaload, 0), (28, .invokevirtual 28, 0), (31, .ifCond .ne 5, 0), (34, .iload_n 2, 0), (35, .ireturn, 0), (36, .iinc 2 1, 0), (39, .goto (-23), 0), (42, .aload_n 0, 0), (43, .getfield 32, 0), (46, .ifCond .ne 10, 0), (49, .aload_n 0, 0), (50, .getfield 36, 0), (53, .ifCond .le 5, 0), (56, .iload_n 1, 0), (57, .ireturn, 0), (58, .aload_n 0, 0), (59, .sipush 20059, 0), (62, .iconst 0, 0), (63, .invokevirtual 39, 0), (66, .pop, 0), (67, .iconst (-1), 0), (68, .ireturn, 0)]
theorem cdX5_parseTape_ok : ∀ pc q, zk_at cdX5_parseTape pc = some q → decode cX5_parseTape pc = .ok (q.1, zk_len q.1 q.2) := zk_cd_ok (by decide +kernel)
def cdX5_begin : List (Nat × Instr × Nat) := [(0, .aload_n 0, 0), (1, .iconst 0, 0), (2, .putfield 43, 0), (5, .aload_n 0, 0), (6, .iconst 0, 0), (7, .putfield 46, 0), (10, .aload_n 0, 0), (11, .iconst 0, 0), (12, .putfield 49, 0), (15, .aload_n 0, 0), (16, .iconst 0, 0), (17, .putfield 36, 0), (20, .aload_n 0, 0), (21, .iconst 1, 0), (22, .putfield 32, 0), (25, .aload_n 0, 0), (26, .iconst 0, 0), (27, .putfield 52, 0), (30, .aload_n 0, 0), (31, .iconst 0, 0), (32, .putfield 55, 0), (35, .return_, 0)]
theorem cdX5_begin_ok : ∀ pc q, zk_at cdX5_begin pc = some q → decode cX5_begin pc = .ok (q.1, zk_len q.1 q.2) := zk_cd_ok (by decide +kernel)
def cdX5_takes : List (Nat × Instr × Nat) := [(0, .iload_n 1, 0), (1, .bipush 48, 0), (3, .if_icmp .lt 13, 0), (6, .iload_n 1, 0), (7, .bipush 57, 0), (9, .if_icmp .gt 7, 0), (12, .iconst 1, 0), (13, .goto 4, 0), (16, .iconst 0, 0), (17, .istore_n 2, 0), (18, .iload_n 2, 0), (19, .ifCond .eq 56, 0), (22, .aload_n 0, 0), (23, .getfield 55, 0), (26, .ifCond .le 49, 0), (29, .aload_n 0, 0), (30, .getfield 55, 0), (33, .iconst 4, 0), (34, .if_icmp .ge 41, 0), (37, .aload_n 0, 0), (38, .getfield 15, 0), (41, .aload_n 0, 0), (42, .getfield 58, 0), (45, .aload_n 0, 0), (46, .getfield 15, 0), (49, .aload_n 0, 0), (50, .getfield 58, 0), (53, .iaload, 0), (54, .bipush 10, 0), (56, .imul, 0), (57, .iload_n 1, 0), (58, .iadd, 0), (59, .bipush 48, 0), (61, .isub, 0), (62, .iastore, 0), (63, .aload_n 0, 0), (64, .dup, 0), (65, .getfield 55, 0), (68, .iconst 1, 0), (69, .iadd, 0), (70, .putfield 55, 0), (73, .iconst 1, 0), (74, .ireturn, 0), (75, .aload_n 0, 0), (76, .iconst 0, 0), (77, .putfield 55, 0), (80, .aload_n 0, 0), (81, .getfield 32, 0), (84, .ifCond .ne 9, 0), (87, .aload_n 0, 0), (88, .iload_n 1, 0), (89, .invokevirtual 61, 0), (92, .ireturn, 0), (93, .iload_n 2, 0), (94, .ifCond .eq 11, 0), (97, .aload_n 0, 0), (98, .iload_n 1, 0), (99, .invokevirtual 64, 0), (102, .goto 8, 0), (105, .aload_n 0, 0), (106, .iload_n 1, 0), (107, .invokevirtual 67, 0), (110, .ireturn, 0)]
theorem cdX5_takes_ok : ∀ pc q, zk_at cdX5_takes pc = some q → decode cX5_takes pc = .ok (q.1, zk_len q.1 q.2) := zk_cd_ok (by decide +kernel)
def cdX5_beginsNumber : List (Nat × Instr × Nat) := [(0, .aload_n 0, 0), (1, .aload_n 0, 0), (2, .getfield 43, 0), (5, .putfield 58, 0), (8, .aload_n 0, 0), (9, .iconst 1, 0), (10, .putfield 55, 0), (13, .aload_n 0, 0), (14, .iload_n 1, 0), (15, .bipush 48, 0), (17, .isub, 0), (18, .invokevirtual 70, 0), (21, .aload_n 0, 0), (22, .invokevirtual 74, 0), (25, .iconst 1, 0), (26, .ireturn, 0)]
theorem cdX5_beginsNumber_ok : ∀ pc q, zk_at cdX5_beginsNumber pc = some q → decode cX5_beginsNumber pc = .ok (q.1, zk_len q.1 q.2) := zk_cd_ok (by decide +kernel)
def cdX5_takesAsOperand : List (Nat × Instr × Nat) := [(0, .ldc 77, 0), (2, .iload_n 1, 0), (3, .i2c, 0), (4, .invokevirtual 79, 0), (7, .istore_n 2, 0), (8, .iload_n 2, 0), (9, .ifCond .lt 18, 0), (12, .aload_n 0, 0), (13, .sipush 10000, 0), (16, .iload_n 2, 0), (17, .iadd, 0), (18, .invokevirtual 70, 0), (21, .aload_n 0, 0), (22, .invokevirtual 74, 0), (25, .iconst 1, 0), (26, .ireturn, 0), (27, .aload_n 0, 0), (28, .getfield 49, 0), (31, .bipush 6, 0), (33, .if_icmp .ge 21, 0), (36, .iload_n 1, 0), (37, .bipush 40, 0), (39, .if_icmp .eq 17, 0), (42, .iload_n 1, 0), (43, .bipush 33, 0), (45, .if_icmp .eq 11, 0), (48, .iload_n 1, 0), (49, .bipush 45, 0), (51, .if_icmp .eq 5, 0), (54, .iconst 0, 0), (55, .ireturn, 0), (56, .aload_n 0, 0), (57, .dup, 0), (58, .getfield 49, 0), (61, .iconst 1, 0), (62, .iadd, 0), (63, .putfield 49, 0), (66, .iload_n 1, 0), (67, .bipush 40, 0), (69, .if_icmp .ne 13, 0), (72, .aload_n 0, 0), (73, .dup, 0), (74, .getfield 36, 0), (77, .iconst 1, 0), (78, .iadd, 0), (79, .putfield 36, 0), (82, .aload_n 0, 0), (83, .iload_n 1, 0), (84, .bipush 45, 0), (86, .if_icmp .ne 8, 0), (89, .bipush 126, 0), (91, .goto 4, 0), (94, .iload_n 1, 0), (95, .invokevirtual 85, 0), (98, .iconst 1, 0), (99, .ireturn, 0)]
theorem cdX5_takesAsOperand_ok : ∀ pc q, zk_at cdX5_takesAsOperand pc = some q → decode cX5_takesAsOperand pc = .ok (q.1, zk_len q.1 q.2) := zk_cd_ok (by decide +kernel)
def cdX5_takesBehindOperand : List (Nat × Instr × Nat) := [(0, .iload_n 1, 0), (1, .lookupswitch 73 #[(41, 35), (59, 64), (63, 40)], 35), (36, .aload_n 0, 0), (37, .invokevirtual 88, 0), (40, .ireturn, 0), (41, .aload_n 0, 0), (42, .getfield 52, 0), (45, .ifCond .ne 18, 0), (48, .aload_n 0, 0), (49, .sipush 20063, 0), (52, .iconst 1, 0), (53, .invokevirtual 39, 0), (56, .ifCond .eq 7, 0), (59, .iconst 1, 0), (60, .goto 4, 0), (63, .iconst 0, 0), (64, .ireturn, 0), (65, .aload_n 0, 0), (66, .sipush 20059, 0), (69, .iconst 0, 0), (70, .invokevirtual 39, 0), (73, .ireturn, 0), (74, .aload_n 0, 0), (75, .iload_n 1, 0), (76, .invokevirtual 92, 0), (79, .ireturn, 0)]
theorem cdX5_takesBehindOperand_ok : ∀ pc q, zk_at cdX5_takesBehindOperand pc = some q → decode cX5_takesBehindOperand pc = .ok (q.1, zk_len q.1 q.2) := zk_cd_ok (by decide +kernel)
def cdX5_closesBracket : List (Nat × Instr × Nat) := [(0, .aload_n 0, 0), (1, .getfield 36, 0), (4, .ifCond .ne 5, 0), (7, .iconst 0, 0), (8, .ireturn, 0), (9, .aload_n 0, 0), (10, .iconst 1, 0), (11, .invokevirtual 95, 0), (14, .aload_n 0, 0), (15, .dup, 0), (16, .getfield 46, 0), (19, .iconst 1, 0), (20, .isub, 0), (21, .putfield 46, 0), (24, .aload_n 0, 0), (25, .dup, 0), (26, .getfield 36, 0), (29, .iconst 1, 0), (30, .isub, 0), (31, .putfield 36, 0), (34, .aload_n 0, 0), (35, .dup, 0), (36, .getfield 49, 0), (39, .iconst 1, 0), (40, .isub, 0), (41, .putfield 49, 0), (44, .aload_n 0, 0), (45, .invokevirtual 74, 0), (48, .iconst 1, 0), (49, .ireturn, 0)]
theorem cdX5_closesBracket_ok : ∀ pc q, zk_at cdX5_closesBracket pc = some q → decode cX5_closesBracket pc = .ok (q.1, zk_len q.1 q.2) := zk_cd_ok (by decide +kernel)
def cdX5_endsExpression : List (Nat × Instr × Nat) := [(0, .aload_n 0, 0), (1, .getfield 36, 0), (4, .ifCond .le 5, 0), (7, .iconst 0, 0), (8, .ireturn, 0), (9, .aload_n 0, 0), (10, .iconst 1, 0), (11, .invokevirtual 95, 0), (14, .aload_n 0, 0), (15, .iload_n 1, 0), (16, .invokevirtual 70, 0), (19, .aload_n 0, 0), (20, .iload_n 2, 0), (21, .putfield 52, 0), (24, .aload_n 0, 0), (25, .iconst 1, 0), (26, .putfield 32, 0), (29, .iconst 1, 0), (30, .ireturn, 0)]
theorem cdX5_endsExpression_ok : ∀ pc q, zk_at cdX5_endsExpression pc = some q → decode cX5_endsExpression pc = .ok (q.1, zk_len q.1 q.2) := zk_cd_ok (by decide +kernel)
def cdX5_takesBetween : List (Nat × Instr × Nat) := [(0, .aload_n 0, 0), (1, .iload_n 1, 0), (2, .invokevirtual 98, 0), (5, .istore_n 2, 0), (6, .iload_n 2, 0), (7, .ifCond .ne 5, 0), (10, .iconst 0, 0), (11, .ireturn, 0), (12, .aload_n 0, 0), (13, .iload_n 2, 0), (14, .iconst 3, 0), (15, .if_icmp .ne 9, 0), (18, .iload_n 2, 0), (19, .iconst 1, 0), (20, .iadd, 0), (21, .goto 4, 0), (24, .iload_n 2, 0), (25, .invokevirtual 95, 0), (28, .iload_n 2, 0), (29, .iconst 3, 0), (30, .if_icmp .ne 31, 0), (33, .aload_n 0, 0), (34, .getfield 46, 0), (37, .ifCond .le 24, 0), (40, .aload_n 0, 0), (41, .aload_n 0, 0), (42, .getfield 18, 0), (45, .aload_n 0, 0), (46, .getfield 46, 0), (49, .iconst 1, 0), (50, .isub, 0), (51, .iaload, 0), (52, .invokevirtual 98, 0), (55, .iconst 3, 0), (56, .if_icmp .ne 5, 0), (59, .iconst 0, 0), (60, .ireturn, 0), (61, .aload_n 0, 0), (62, .iload_n 1, 0), (63, .invokevirtual 85, 0), (66, .aload_n 0, 0), (67, .iconst 1, 0), (68, .putfield 32, 0), (71, .iconst 1, 0), (72, .ireturn, 0)]
theorem cdX5_takesBetween_ok : ∀ pc q, zk_at cdX5_takesBetween pc = some q → decode cX5_takesBetween pc = .ok (q.1, zk_len q.1 q.2) := zk_cd_ok (by decide +kernel)
def cdX5_endOperand : List (Nat × Instr × Nat) := [(0, .aload_n 0, 0), (1, .iconst 0, 0), (2, .putfield 32, 0), (5, .aload_n 0, 0), (6, .getfield 46, 0), (9, .ifCond .le 75, 0), (12, .aload_n 0, 0), (13, .getfield 18, 0), (16, .aload_n 0, 0), (17, .getfield 46, 0), (20, .iconst 1, 0), (21, .isub, 0), (22, .iaload, 0), (23, .bipush 33, 0), (25, .if_icmp .eq 19, 0), (28, .aload_n 0, 0), (29, .getfield 18, 0), (32, .aload_n 0, 0), (33, .getfield 46, 0), (36, .iconst 1, 0), (37, .isub, 0), (38, .iaload, 0), (39, .bipush 126, 0), (41, .if_icmp .ne 43, 0), (44, .aload_n 0, 0), (45, .dup, 0), (46, .getfield 46, 0), (49, .iconst 1, 0), (50, .isub, 0), (51, .putfield 46, 0), (54, .aload_n 0, 0), (55, .dup, 0), (56, .getfield 49, 0), (59, .iconst 1, 0), (60, .isub, 0), (61, .putfield 49, 0), (64, .aload_n 0, 0), (65, .sipush 20000, 0), (68, .aload_n 0, 0), (69, .getfield 18, 0), (72, .aload_n 0, 0), (73, .getfield 46, 0), (76, .iaload, 0), (77, .iadd, 0), (78, .invokevirtual 70, 0), (81, .goto (-76), 0), (84, .return_, 0)]
theorem cdX5_endOperand_ok : ∀ pc q, zk_at cdX5_endOperand pc = some q → decode cX5_endOperand pc = .ok (q.1, zk_len q.1 q.2) := zk_cd_ok (by decide +kernel)
def cdX5_emitWaiting : List (Nat × Instr × Nat) := [(0, .aload_n 0, 0), (1, .getfield 46, 0), (4, .ifCond .le 52, 0), (7, .aload_n 0, 0), (8, .aload_n 0, 0), (9, .getfield 18, 0), (12, .aload_n 0, 0), (13, .getfield 46, 0), (16, .iconst 1, 0), (17, .isub, 0), (18, .iaload, 0), (19, .invokevirtual 98, 0), (22, .iload_n 1, 0), (23, .if_icmp .lt 33, 0), (26, .aload_n 0, 0), (27, .dup, 0), (28, .getfield 46, 0), (31, .iconst 1, 0), (32, .isub, 0), (33, .putfield 46, 0), (36, .aload_n 0, 0), (37, .sipush 20000, 0), (40, .aload_n 0, 0), (41, .getfield 18, 0), (44, .aload_n 0, 0), (45, .getfield 46, 0), (48, .iaload, 0), (49, .iadd, 0), (50, .invokevirtual 70, 0), (53, .goto (-53), 0), (56, .return_, 0)]
theorem cdX5_emitWaiting_ok : ∀ pc q, zk_at cdX5_emitWaiting pc = some q → decode cX5_emitWaiting pc = .ok (q.1, zk_len q.1 q.2) := zk_cd_ok (by decide +kernel)
def cdX5_rankOf : List (Nat × Instr × Nat) := [(0, .iload_n 1, 0), (1, .lookupswitch 101 #[(37, 99), (38, 93), (42, 99), (43, 97), (45, 97), (47, 99), (60, 95), (61, 95), (62, 95), (124, 91)], 91), (92, .iconst 1, 0), (93, .ireturn, 0), (94, .iconst 2, 0), (95, .ireturn, 0), (96, .iconst 3, 0), (97, .ireturn, 0), (98, .iconst 4, 0), (99, .ireturn, 0), (100, .iconst 5, 0), (101, .ireturn, 0), (102, .iconst 0, 0), (103, .ireturn, 0)]
theorem cdX5_rankOf_ok : ∀ pc q, zk_at cdX5_rankOf pc = some q → decode cX5_rankOf pc = .ok (q.1, zk_len q.1 q.2) := zk_cd_ok (by decide +kernel)
def cdX5_await : List (Nat × Instr × Nat) := [(0, .aload_n 0, 0), (1, .getfield 46, 0), (4, .aload_n 0, 0), (5, .getfield 18, 0), (8, .arraylength, 0), (9, .if_icmp .ge 23, 0), (12, .aload_n 0, 0), (13, .getfield 18, 0), (16, .aload_n 0, 0), (17, .getfield 46, 0), (20, .iload_n 1, 0), (21, .iastore, 0), (22, .aload_n 0, 0), (23, .dup, 0), (24, .getfield 46, 0), (27, .iconst 1, 0), (28, .iadd, 0), (29, .putfield 46, 0), (32, .return_, 0)]
theorem cdX5_await_ok : ∀ pc q, zk_at cdX5_await pc = some q → decode cX5_await pc = .ok (q.1, zk_len q.1 q.2) := zk_cd_ok (by decide +kernel)
def cdX5_emit : List (Nat × Instr × Nat) := [(0, .aload_n 0, 0), (1, .getfield 43, 0), (4, .aload_n 0, 0), (5, .getfield 15, 0), (8, .arraylength, 0), (9, .if_icmp .ge 23, 0), (12, .aload_n 0, 0), (13, .getfield 15, 0), (16, .aload_n 0, 0), (17, .getfield 43, 0), (20, .iload_n 1, 0), (21, .iastore, 0), (22, .aload_n 0, 0), (23, .dup, 0), (24, .getfield 43, 0), (27, .iconst 1, 0), (28, .iadd, 0), (29, .putfield 43, 0), (32, .return_, 0)]
theorem cdX5_emit_ok : ∀ pc q, zk_at cdX5_emit pc = some q → decode cX5_emit pc = .ok (q.1, zk_len q.1 q.2) := zk_cd_ok (by decide +kernel)
def cdX6_bestQuestion : List (Nat × Instr × Nat) := [(0, .aload_n 0, 0), (1, .getfield 21, 0), (4, .iload_n 1, 0), (5, .invokevirtual 25, 0), (8, .istore_n 3, 0), (9, .iconst 0, 0), (10, .istore 4, 0), (12, .iload_n 3, 0), (13, .iconst 1, 0), (14, .iadd, 0), (15, .istore 5, 0), (17, .iconst 0, 0), (18, .istore 6, 0), (20, .iload 6, 0), (22, .bipush 13, 0), (24, .if_icmp .ge 44, 0), (27, .aload_n 0, 0), (28, .iload 6, 0), (30, .iload_n 1, 0), (31, .invokevirtual 31, 0), (34, .istore 7, 0), (36, .iload 7, 0), (38, .iload_n 3, 0), (39, .iload 7, 0), (41, .isub, 0), (42, .invokestatic 35, 0), (45, .istore 8, 0), (47, .iload 8, 0), (49, .iload 5, 0), (51, .if_icmp .ge 11, 0), (54, .iload 8, 0), (56, .istore 5, 0), (58, .iload 6, 0), (60, .istore 4, 0), (62, .iinc 6 1, 0), (65, .goto (-45), 0), (68, .iload_n 2, 0), (69, .ifCond .ne 8, 0), (72, .iload 4, 0), (74, .goto 5, 0), (77, .iload 5, 0), (79, .ireturn, 0)]
theorem cdX6_bestQuestion_ok : ∀ pc q, zk_at cdX6_bestQuestion pc = some q → decode cX6_bestQuestion pc = .ok (q.1, zk_len q.1 q.2) := zk_cd_ok (by decide +kernel)
def cdX6_sumOfYes : List (Nat × Instr × Nat) := [(0, .iconst 0, 0), (1, .istore_n 3, 0), (2, .iconst 0, 0), (3, .istore 4, 0), (5, .iload 4, 0), (7, .aload_n 0, 0), (8, .getfield 17, 0), (11, .getfield 40, 0), (14, .if_icmp .ge 33, 0), (17, .aload_n 0, 0), (18, .iload_n 1, 0), (19, .iload 4, 0), (21, .iload_n 2, 0), (22, .invokevirtual 44, 0), (25, .ifCond .eq 16, 0), (28, .iload_n 3, 0), (29, .aload_n 0, 0), (30, .getfield 21, 0), (33, .getfield 48, 0), (36, .iload 4, 0), (38, .iaload, 0), (39, .iadd, 0), (40, .istore_n 3, 0), (41, .iinc 4 1, 0), (44, .goto (-39), 0), (47, .iload_n 3, 0), (48, .ireturn, 0)]
theorem cdX6_sumOfYes_ok : ∀ pc q, zk_at cdX6_sumOfYes pc = some q → decode cX6_sumOfYes pc = .ok (q.1, zk_len q.1 q.2) := zk_cd_ok (by decide +kernel)
def cdX6_saysYes : List (Nat × Instr × Nat) := [(0, .iload_n 1, 0), (1, .bipush 8, 0), (3, .if_icmp .ge 13, 0), (6, .aload_n 0, 0), (7, .getfield 17, 0), (10, .iload_n 2, 0), (11, .iload_n 1, 0), (12, .invokevirtual 51, 0), (15, .ireturn, 0), (16, .iload_n 1, 0), (17, .bipush 12, 0), (19, .if_icmp .ge 27, 0), (22, .aload_n 0, 0), (23, .getfield 17, 0), (26, .getfield 55, 0), (29, .iconst 2, 0), (30, .aaload, 0), (31, .iload_n 2, 0), (32, .iaload, 0), (33, .iload_n 1, 0), (34, .bipush 8, 0), (36, .isub, 0), (37, .if_icmp .ne 7, 0), (40, .iconst 1, 0), (41, .goto 4, 0), (44, .iconst 0, 0), (45, .ireturn, 0), (46, .aload_n 0, 0), (47, .getfield 17, 0), (50, .iload_n 2, 0), (51, .aload_n 0, 0), (52, .getfield 17, 0), (55, .getfield 55, 0), (58, .bipush 13, 0), (60, .aaload, 0), (61, .iload_n 3, 0), (62, .iaload, 0), (63, .invokevirtual 59, 0), (66, .ireturn, 0)]
theorem cdX6_saysYes_ok : ∀ pc q, zk_at cdX6_saysYes pc = some q → decode cX6_saysYes pc = .ok (q.1, zk_len q.1 q.2) := zk_cd_ok (by decide +kernel)
def cdX6_worthOfThanking : List (Nat × Instr × Nat) := [(0, .iload_n 2, 0), (1, .ifCond .ne 5, 0), (4, .iconst 0, 0), (5, .ireturn, 0), (6, .aload_n 0, 0), (7, .getfield 21, 0), (10, .getfield 48, 0), (13, .iload_n 1, 0), (14, .iaload, 0), (15, .istore_n 3, 0), (16, .aload_n 0, 0), (17, .getfield 17, 0), (20, .getfield 55, 0), (23, .bipush 11, 0), (25, .aaload, 0), (26, .iconst 0, 0), (27, .iaload, 0), (28, .iload_n 3, 0), (29, .imul, 0), (30, .istore 4, 0), (32, .aload_n 0, 0), (33, .getfield 17, 0), (36, .getfield 55, 0), (39, .bipush 12, 0), (41, .aaload, 0), (42, .iconst 0, 0), (43, .iaload, 0), (44, .iload_n 2, 0), (45, .iload_n 3, 0), (46, .isub, 0), (47, .imul, 0), (48, .istore 5, 0), (50, .sipush 1000, 0), (53, .iload 4, 0), (55, .iload 5, 0), (57, .isub, 0), (58, .imul, 0), (59, .iload_n 2, 0), (60, .idiv, 0), (61, .ireturn, 0)]
theorem cdX6_worthOfThanking_ok : ∀ pc q, zk_at cdX6_worthOfThanking pc = some q → decode cX6_worthOfThanking pc = .ok (q.1, zk_len q.1 q.2) := zk_cd_ok (by decide +kernel)
def cdX6_whomToThank : List (Nat × Instr × Nat) := [(0, .aload_n 0, 0), (1, .getfield 21, 0), (4, .iload_n 1, 0), (5, .invokevirtual 25, 0), (8, .istore_n 2, 0), (9, .bipush (-2), 0), (11, .istore_n 3, 0), (12, .iconst 0, 0), (13, .istore 4, 0), (15, .iconst 0, 0), (16, .istore 5, 0), (18, .iload 5, 0), (20, .aload_n 0, 0), (21, .getfield 17, 0), (24, .getfield 40, 0), (27, .if_icmp .ge 32, 0), (30, .aload_n 0, 0), (31, .iload 5, 0), (33, .iload_n 2, 0), (34, .invokevirtual 62, 0), (37, .istore 6, 0), (39, .iload 6, 0), (41, .iload 4, 0), (43, .if_icmp .le 10, 0), (46, .iload 6, 0), (48, .istore 4, 0), (50, .iload 5, 0), (52, .istore_n 3, 0), (53, .iinc 5 1, 0), (56, .goto (-38), 0), (59, .iload_n 3, 0), (60, .ireturn, 0)]
theorem cdX6_whomToThank_ok : ∀ pc q, zk_at cdX6_whomToThank pc = some q → decode cX6_whomToThank pc = .ok (q.1, zk_len q.1 q.2) := zk_cd_ok (by decide +kernel)
def cdX6_tellingSecret : List (Nat × Instr × Nat) := [(0, .bipush (-2), 0), (2, .istore_n 3, 0), (3, .bipush (-2), 0), (5, .istore 4, 0), (7, .iconst 0, 0), (8, .istore 5, 0), (10, .iload 5, 0), (12, .bipush 8, 0), (14, .if_icmp .ge 50, 0), (17, .aload_n 0, 0), (18, .getfield 17, 0), (21, .iload_n 1, 0), (22, .iload 5, 0), (24, .invokevirtual 65, 0), (27, .invokestatic 68, 0), (30, .istore 6, 0), (32, .iload 6, 0), (34, .ifCond .le 24, 0), (37, .iload 4, 0), (39, .bipush (-2), 0), (41, .if_icmp .eq 10, 0), (44, .iload 6, 0), (46, .iload 4, 0), (48, .if_icmp .ge 10, 0), (51, .iload 6, 0), (53, .istore 4, 0), (55, .iload 5, 0), (57, .istore_n 3, 0), (58, .iinc 5 1, 0), (61, .goto (-51), 0), (64, .iload_n 2, 0), (65, .ifCond .ne 7, 0), (68, .iload_n 3, 0), (69, .goto 5, 0), (72, .iload 4, 0), (74, .ireturn, 0)]
theorem cdX6_tellingSecret_ok : ∀ pc q, zk_at cdX6_tellingSecret pc = some q → decode cX6_tellingSecret pc = .ok (q.1, zk_len q.1 q.2) := zk_cd_ok (by decide +kernel)
def cdX6_seekWay : List (Nat × Instr × Nat) := [(0, .aload_n 0, 0), (1, .bipush (-2), 0), (3, .putfield 73, 0), (6, .aload_n 0, 0), (7, .iconst 0, 0), (8, .putfield 76, 0), (11, .aload_n 0, 0), (12, .iconst 1, 0), (13, .putfield 79, 0), (16, .iconst 0, 0), (17, .istore 5, 0), (19, .iload 5, 0), (21, .bipush 8, 0), (23, .if_icmp .gt 89, 0), (26, .iconst 0, 0), (27, .istore 6, 0), (29, .iload 6, 0), (31, .iconst 4, 0), (32, .if_icmp .gt 74, 0), (35, .iconst 0, 0), (36, .istore 7, 0), (38, .iload 7, 0), (40, .iconst 1, 0), (41, .if_icmp .gt 59, 0), (44, .bipush 100, 0), (46, .iload 5, 0), (48, .imul, 0), (49, .bipush 10, 0), (51, .iload 6, 0), (53, .imul, 0), (54, .iadd, 0), (55, .iload 7, 0), (57, .iadd, 0), (58, .istore 8, 0), (60, .aload_n 0, 0), (61, .getfield 17, 0), (64, .iload_n 1, 0), (65, .iload 8, 0), (67, .iload_n 3, 0), (68, .invokevirtual 82, 0), (71, .ifCond .eq 23, 0), (74, .aload_n 0, 0), (75, .getfield 17, 0), (78, .iload_n 2, 0), (79, .iload_n 3, 0), (80, .iload 8, 0), (82, .invokevirtual 85, 0), (85, .aload_n 0, 0), (86, .iload_n 1, 0), (87, .iload 8, 0), (89, .iload 4, 0), (91, .invokevirtual 89, 0), (94, .iinc 7 1, 0), (97, .goto (-59), 0), (100, .iinc 6 1, 0), (103, .goto (-74), 0), (106, .iinc 5 1, 0), (109, .goto (-90), 0), (112, .return_, 0)]
theorem cdX6_seekWay_ok : ∀ pc q, zk_at cdX6_seekWay pc = some q → decode cX6_seekWay pc = .ok (q.1, zk_len q.1 q.2) := zk_cd_ok (by decide +kernel)
def cdX6_weighWay : List (Nat × Instr × Nat) := [(0, .aload_n 0, 0), (1, .getfield 21, 0), (4, .aload_n 0, 0), (5, .getfield 17, 0), (8, .getfield 92, 0), (11, .invokevirtual 25, 0), (14, .istore 4, 0), (16, .iload 4, 0), (18, .ifCond .ne 4, 0), (21, .return_, 0), (22, .aload_n 0, 0), (23, .getfield 21, 0), (26, .getfield 48, 0), (29, .iload_n 1, 0), (30, .iaload, 0), (31, .istore 5, 0), (33, .iload 5, 0), (35, .aload_n 0, 0), (36, .getfield 79, 0), (39, .imul, 0), (40, .aload_n 0, 0), (41, .getfield 76, 0), (44, .iload 4, 0), (46, .imul, 0), (47, .isub, 0), (48, .istore 6, 0), (50, .aload_n 0, 0), (51, .getfield 73, 0), (54, .bipush (-2), 0), (56, .if_icmp .eq 20, 0), (59, .iload_n 3, 0), (60, .ifCond .ne 11, 0), (63, .iload 6, 0), (65, .ifCond .le 28, 0), (68, .goto 8, 0), (71, .iload 6, 0), (73, .ifCond .ge 20, 0), (76, .aload_n 0, 0), (77, .iload_n 2, 0), (78, .putfield 73, 0), (81, .aload_n 0, 0), (82, .iload 5, 0), (84, .putfield 76, 0), (87, .aload_n 0, 0), (88, .iload 4, 0), (90, .putfield 79, 0), (93, .return_, 0)]
theorem cdX6_weighWay_ok : ∀ pc q, zk_at cdX6_weighWay pc = some q → decode cX6_weighWay pc = .ok (q.1, zk_len q.1 q.2) := zk_cd_ok (by decide +kernel)
def cdX6_hopeOfReceiver : List (Nat × Instr × Nat) := [(0, .aload_n 0, 0), (1, .getfield 17, 0), (4, .getfield 55, 0), (7, .iconst 4, 0), (8, .aaload, 0), (9, .aload_n 0, 0), (10, .getfield 17, 0), (13, .getfield 55, 0), (16, .bipush 13, 0), (18, .aaload, 0), (19, .iload_n 1, 0), (20, .iaload, 0), (21, .iaload, 0), (22, .istore_n 3, 0), (23, .aload_n 0, 0), (24, .getfield 21, 0), (27, .iload_n 1, 0), (28, .iload_n 3, 0), (29, .invokevirtual 95, 0), (32, .istore 4, 0), (34, .iload_n 2, 0), (35, .ifCond .eq 10, 0), (38, .iload 4, 0), (40, .bipush (-2), 0), (42, .if_icmp .ne 14, 0), (45, .iload_n 2, 0), (46, .ifCond .ne 8, 0), (49, .iload 4, 0), (51, .goto 4, 0), (54, .iconst 0, 0), (55, .ireturn, 0), (56, .aload_n 0, 0), (57, .getfield 21, 0), (60, .iload_n 1, 0), (61, .aload_n 0, 0), (62, .getfield 17, 0), (65, .invokevirtual 98, 0), (68, .invokevirtual 95, 0), (71, .istore 5, 0), (73, .aload_n 0, 0), (74, .getfield 21, 0), (77, .iload_n 1, 0), (78, .invokevirtual 25, 0), (81, .istore 6, 0), (83, .iload 5, 0), (85, .bipush (-2), 0), (87, .if_icmp .eq 8, 0), (90, .iload 6, 0), (92, .ifCond .ne 5, 0), (95, .iconst 0, 0), (96, .ireturn, 0), (97, .ldc 102, 0), (99, .aload_n 0, 0), (100, .getfield 21, 0), (103, .getfield 48, 0), (106, .iload 4, 0), (108, .iaload, 0), (109, .aload_n 0, 0), (110, .getfield 21, 0), (113, .getfield 48, 0), (116, .iload 5, 0), (118, .iaload, 0), (119, .isub, 0), (120, .imul, 0), (121, .iload 6, 0), (123, .idiv, 0), (124, .ireturn, 0)]
theorem cdX6_hopeOfReceiver_ok : ∀ pc q, zk_at cdX6_hopeOfReceiver pc = some q → decode cX6_hopeOfReceiver pc = .ok (q.1, zk_len q.1 q.2) := zk_cd_ok (by decide +kernel)
def cdX6_timesDrawn : List (Nat × Instr × Nat) := [(0, .aload_n 0, 0), (1, .getfield 11, 0), (4, .iconst 0, 0), (5, .invokestatic 103, 0), (8, .aload_n 0, 0), (9, .getfield 21, 0), (12, .iload_n 1, 0), (13, .invokevirtual 25, 0), (16, .istore 5, 0), (18, .iload_n 2, 0), (19, .istore 6, 0), (21, .iconst 0, 0), (22, .istore 7, 0), (24, .iconst 0, 0), (25, .istore 8, 0), (27, .iload 8, 0), (29, .iload_n 3, 0), (30, .if_icmp .ge 64, 0), (33, .iload 5, 0), (35, .ifCond .le 59, 0), (38, .iload 6, 0), (40, .ldc 109, 0), (42, .imul, 0), (43, .sipush 12345, 0), (46, .iadd, 0), (47, .istore 6, 0), (49, .aload_n 0, 0), (50, .iload 6, 0), (52, .bipush 8, 0), (54, .iushr, 0), (55, .iload 5, 0), (57, .irem, 0), (58, .invokevirtual 110, 0), (61, .istore 9, 0), (63, .aload_n 0, 0), (64, .getfield 11, 0), (67, .iload 9, 0), (69, .dup2, 0), (70, .iaload, 0), (71, .iconst 1, 0), (72, .iadd, 0), (73, .iastore, 0), (74, .iload 7, 0), (76, .aload_n 0, 0), (77, .getfield 11, 0), (80, .iload 9, 0), (82, .iaload, 0), (83, .invokestatic 35, 0), (86, .istore 7, 0), (88, .iinc 8 1, 0), (91, .goto (-64), 0), (94, .iload 4, 0), (96, .ifCond .ge 8, 0), (99, .iload 7, 0), (101, .goto 10, 0), (104, .aload_n 0, 0), (105, .getfield 11, 0), (108, .iload 4, 0), (110, .iaload, 0), (111, .ireturn, 0)]
theorem cdX6_timesDrawn_ok : ∀ pc q, zk_at cdX6_timesDrawn pc = some q → decode cX6_timesDrawn pc = .ok (q.1, zk_len q.1 q.2) := zk_cd_ok (by decide +kernel)
def cdX6_whoIsAt : List (Nat × Instr × Nat) := [(0, .iload_n 1, 0), (1, .istore_n 2, 0), (2, .iconst 0, 0), (3, .istore_n 3, 0), (4, .iload_n 3, 0), (5, .aload_n 0, 0), (6, .getfield 17, 0), (9, .getfield 40, 0), (12, .if_icmp .ge 27, 0), (15, .iload_n 2, 0), (16, .aload_n 0, 0), (17, .getfield 21, 0), (20, .getfield 48, 0), (23, .iload_n 3, 0), (24, .iaload, 0), (25, .isub, 0), (26, .istore_n 2, 0), (27, .iload_n 2, 0), (28, .ifCond .ge 5, 0), (31, .iload_n 3, 0), (32, .ireturn, 0), (33, .iinc 3 1, 0), (36, .goto (-32), 0), (39, .iconst 0, 0), (40, .ireturn, 0)]
theorem cdX6_whoIsAt_ok : ∀ pc q, zk_at cdX6_whoIsAt pc = some q → decode cX6_whoIsAt pc = .ok (q.1, zk_len q.1 q.2) := zk_cd_ok (by decide +kernel)
def cdX7_peopleCome : List (Nat × Instr × Nat) := [(0, .iconst 0, 0), (1, .istore 4, 0), (3, .iload_n 2, 0), (4, .istore 5, 0), (6, .iload 4, 0), (8, .iload_n 3, 0), (9, .if_icmp .ge 38, 0), (12, .iload 5, 0), (14, .ifCond .lt 33, 0), (17, .iload 5, 0), (19, .aload_n 1, 0), (20, .getfield 25, 0), (23, .iconst 3, 0), (24, .isub, 0), (25, .if_icmp .gt 22, 0), (28, .aload_n 0, 0), (29, .aload_n 1, 0), (30, .iload 5, 0), (32, .invokevirtual 31, 0), (35, .ifCond .eq 12, 0), (38, .iinc 4 1, 0), (41, .iinc 5 3, 0), (44, .goto (-38), 0), (47, .iload 4, 0), (49, .ireturn, 0)]
theorem cdX7_peopleCome_ok : ∀ pc q, zk_at cdX7_peopleCome pc = some q → decode cX7_peopleCome pc = .ok (q.1, zk_len q.1 q.2) := zk_cd_ok (by decide +kernel)
def cdX7_comesFrom : List (Nat × Instr × Nat) := [(0, .aload_n 1, 0), (1, .getfield 35, 1), (4, .iload_n 2, 0), (5, .laload, 0), (6, .l2i, 0), (7, .istore_n 3, 0), (8, .aload_n 1, 0), (9, .getfield 35, 1), (12, .iload_n 2, 0), (13, .iconst 1, 0), (14, .iadd, 0), (15, .laload, 0), (16, .l2i, 0), (17, .istore 4, 0), (19, .aload_n 1, 0), (20, .getfield 35, 1), (23, .iload_n 2, 0), (24, .iconst 2, 0), (25, .iadd, 0), (26, .laload, 0), (27, .l2i, 0), (28, .istore 5, 0), (30, .aload_n 0, 0), (31, .getfield 17, 0), (34, .iconst 2, 0), (35, .iload_n 3, 0), (36, .invokevirtual 39, 0), (39, .ifCond .eq 33, 0), (42, .aload_n 0, 0), (43, .getfield 17, 0), (46, .iconst 4, 0), (47, .iload 4, 0), (49, .invokevirtual 39, 0), (52, .ifCond .eq 20, 0), (55, .aload_n 0, 0), (56, .getfield 17, 0), (59, .iconst 5, 0), (60, .iload 5, 0), (62, .invokevirtual 39, 0), (65, .ifCond .eq 7, 0), (68, .iconst 1, 0), (69, .goto 4, 0), (72, .iconst 0, 0), (73, .istore 6, 0), (75, .iload 6, 0), (77, .ifCond .eq 15, 0), (80, .aload_n 0, 0), (81, .getfield 17, 0), (84, .getfield 43, 0), (87, .bipush 8, 0), (89, .if_icmp .lt 5, 0), (92, .iconst 0, 0), (93, .ireturn, 0), (94, .aload_n 0, 0), (95, .getfield 17, 0), (98, .iload_n 3, 0), (99, .iload 4, 0), (101, .iload 5, 0), (103, .invokevirtual 46, 0), (106, .pop, 0), (107, .iconst 1, 0), (108, .ireturn, 0)]
theorem cdX7_comesFrom_ok : ∀ pc q, zk_at cdX7_comesFrom pc = some q → decode cX7_comesFrom pc = .ok (q.1, zk_len q.1 q.2) := zk_cd_ok (by decide +kernel)
def cdX7_firstLookFromOutside : List (Nat × Instr × Nat) := [(0, .iconst 0, 0), (1, .istore_n 2, 0), (2, .iload_n 2, 0), (3, .aload_n 1, 0), (4, .getfield 25, 0), (7, .if_icmp .ge 42, 0), (10, .aload_n 1, 0), (11, .getfield 35, 1), (14, .iload_n 2, 0), (15, .laload, 0), (16, .l2i, 0), (17, .istore_n 3, 0), (18, .aload_n 0, 0), (19, .getfield 17, 0), (22, .iload_n 3, 0), (23, .invokevirtual 50, 0), (26, .ifCond .eq 17, 0), (29, .aload_n 0, 0), (30, .getfield 17, 0), (33, .iload_n 3, 0), (34, .iload_n 2, 0), (35, .invokevirtual 54, 0), (38, .ifCond .ne 5, 0), (41, .iload_n 2, 0), (42, .ireturn, 0), (43, .iinc 2 1, 0), (46, .goto (-44), 0), (49, .bipush (-2), 0), (51, .ireturn, 0)]
theorem cdX7_firstLookFromOutside_ok : ∀ pc q, zk_at cdX7_firstLookFromOutside pc = some q → decode cX7_firstLookFromOutside pc = .ok (q.1, zk_len q.1 q.2) := zk_cd_ok (by decide +kernel)
def cdX7_tallyLooks : List (Nat × Instr × Nat) := [(0, .aload_n 0, 0), (1, .getfield 11, 0), (4, .iconst 0, 0), (5, .invokestatic 57, 0), (8, .iconst 0, 0), (9, .istore_n 3, 0), (10, .iload_n 3, 0), (11, .aload_n 1, 0), (12, .getfield 25, 0), (15, .if_icmp .ge 50, 0), (18, .aload_n 1, 0), (19, .getfield 35, 1), (22, .iload_n 3, 0), (23, .laload, 0), (24, .l2i, 0), (25, .istore 4, 0), (27, .aload_n 0, 0), (28, .getfield 17, 0), (31, .iload 4, 0), (33, .invokevirtual 50, 0), (36, .ifCond .eq 23, 0), (39, .aload_n 0, 0), (40, .getfield 11, 0), (43, .iload 4, 0), (45, .dup2, 0), (46, .iaload, 0), (47, .iload_n 3, 0), (48, .iload_n 2, 0), (49, .if_icmp .ge 7, 0), (52, .iconst (-1), 0), (53, .goto 4, 0), (56, .iconst 1, 0), (57, .iadd, 0), (58, .iastore, 0), (59, .iinc 3 1, 0), (62, .goto (-52), 0), (65, .return_, 0)]
theorem cdX7_tallyLooks_ok : ∀ pc q, zk_at cdX7_tallyLooks pc = some q → decode cX7_tallyLooks pc = .ok (q.1, zk_len q.1 q.2) := zk_cd_ok (by decide +kernel)
def cdX7_mostTallied : List (Nat × Instr × Nat) := [(0, .bipush (-2), 0), (2, .istore_n 1, 0), (3, .iconst 0, 0), (4, .istore_n 2, 0), (5, .iconst 0, 0), (6, .istore_n 3, 0), (7, .iload_n 3, 0), (8, .aload_n 0, 0), (9, .getfield 17, 0), (12, .getfield 43, 0), (15, .if_icmp .ge 28, 0), (18, .aload_n 0, 0), (19, .getfield 11, 0), (22, .iload_n 3, 0), (23, .iaload, 0), (24, .iload_n 2, 0), (25, .if_icmp .le 12, 0), (28, .aload_n 0, 0), (29, .getfield 11, 0), (32, .iload_n 3, 0), (33, .iaload, 0), (34, .istore_n 2, 0), (35, .iload_n 3, 0), (36, .istore_n 1, 0), (37, .iinc 3 1, 0), (40, .goto (-33), 0), (43, .iload_n 1, 0), (44, .ireturn, 0)]
theorem cdX7_mostTallied_ok : ∀ pc q, zk_at cdX7_mostTallied pc = some q → decode cX7_mostTallied pc = .ok (q.1, zk_len q.1 q.2) := zk_cd_ok (by decide +kernel)
def cdX7_firstWrongLetter : List (Nat × Instr × Nat) := [(0, .iconst 0, 0), (1, .istore_n 2, 0), (2, .iload_n 2, 0), (3, .aload_n 1, 0), (4, .getfield 25, 0), (7, .if_icmp .ge 46, 0), (10, .iload_n 2, 0), (11, .iconst 1, 0), (12, .iadd, 0), (13, .aload_n 1, 0), (14, .getfield 25, 0), (17, .if_icmp .ge 26, 0), (20, .aload_n 0, 0), (21, .aload_n 1, 0), (22, .getfield 35, 1), (25, .iload_n 2, 0), (26, .laload, 0), (27, .l2i, 0), (28, .aload_n 1, 0), (29, .getfield 35, 1), (32, .iload_n 2, 0), (33, .iconst 1, 0), (34, .iadd, 0), (35, .laload, 0), (36, .l2i, 0), (37, .invokevirtual 63, 0), (40, .ifCond .ne 7, 0), (43, .iload_n 2, 0), (44, .iconst 2, 0), (45, .idiv, 0), (46, .ireturn, 0), (47, .iinc 2 2, 0), (50, .goto (-48), 0), (53, .bipush (-2), 0), (55, .ireturn, 0)]
theorem cdX7_firstWrongLetter_ok : ∀ pc q, zk_at cdX7_firstWrongLetter pc = some q → decode cX7_firstWrongLetter pc = .ok (q.1, zk_len q.1 q.2) := zk_cd_ok (by decide +kernel)
def cdX7_canBe : List (Nat × Instr × Nat) := [(0, .aload_n 0, 0), (1, .getfield 17, 0), (4, .iload_n 1, 0), (5, .invokevirtual 66, 0), (8, .ifCond .ne 5, 0), (11, .iconst 0, 0), (12, .ireturn, 0), (13, .iload_n 2, 0), (14, .iconst (-1), 0), (15, .if_icmp .ne 20, 0), (18, .aload_n 0, 0), (19, .getfield 17, 0), (22, .iload_n 1, 0), (23, .invokevirtual 69, 0), (26, .ifCond .eq 7, 0), (29, .iconst 1, 0), (30, .goto 4, 0), (33, .iconst 0, 0), (34, .ireturn, 0), (35, .aload_n 0, 0), (36, .getfield 17, 0), (39, .iload_n 2, 0), (40, .invokevirtual 50, 0), (43, .ifCond .eq 22, 0), (46, .aload_n 0, 0), (47, .getfield 17, 0), (50, .iload_n 1, 0), (51, .invokevirtual 69, 0), (54, .iload_n 2, 0), (55, .ishr, 0), (56, .iconst 1, 0), (57, .iand, 0), (58, .ifCond .eq 7, 0), (61, .iconst 1, 0), (62, .goto 4, 0), (65, .iconst 0, 0), (66, .ireturn, 0)]
theorem cdX7_canBe_ok : ∀ pc q, zk_at cdX7_canBe pc = some q → decode cX7_canBe pc = .ok (q.1, zk_len q.1 q.2) := zk_cd_ok (by decide +kernel)
def cdX7_lettersFilled : List (Nat × Instr × Nat) := [(0, .lconst 1, 0), (1, .lstore_n 3, 0), (2, .iconst 0, 0), (3, .istore 5, 0), (5, .iload 5, 0), (7, .iconst 1, 0), (8, .iadd, 0), (9, .aload_n 1, 0), (10, .getfield 25, 0), (13, .if_icmp .ge 59, 0), (16, .aload_n 1, 0), (17, .getfield 35, 1), (20, .iload 5, 0), (22, .laload, 0), (23, .l2i, 0), (24, .istore 6, 0), (26, .aload_n 1, 0), (27, .getfield 35, 1), (30, .iload 5, 0), (32, .iconst 1, 0), (33, .iadd, 0), (34, .laload, 0), (35, .l2i, 0), (36, .istore 7, 0), (38, .lload_n 3, 0), (39, .iload_n 2, 0), (40, .ifCond .ne 15, 0), (43, .aload_n 0, 0), (44, .iload 6, 0), (46, .iload 7, 0), (48, .invokevirtual 73, 0), (51, .i2l, 0), (52, .goto 12, 0), (55, .aload_n 0, 0), (56, .iload 6, 0), (58, .iload 7, 0), (60, .invokevirtual 77, 0), (63, .i2l, 0), (64, .lmul, 0), (65, .lstore_n 3, 0), (66, .iinc 5 2, 0), (69, .goto (-64), 0), (72, .lload_n 3, 0), (73, .lreturn, 0)]
theorem cdX7_lettersFilled_ok : ∀ pc q, zk_at cdX7_lettersFilled pc = some q → decode cX7_lettersFilled pc = .ok (q.1, zk_len q.1 q.2) := zk_cd_ok (by decide +kernel)
def cdX7_waysToFill : List (Nat × Instr × Nat) := [(0, .iload_n 2, 0), (1, .iconst (-1), 0), (2, .if_icmp .ne 17, 0), (5, .aload_n 0, 0), (6, .getfield 17, 0), (9, .iload_n 1, 0), (10, .invokevirtual 69, 0), (13, .invokestatic 80, 0), (16, .goto 4, 0), (19, .iconst 1, 0), (20, .ireturn, 0)]
theorem cdX7_waysToFill_ok : ∀ pc q, zk_at cdX7_waysToFill pc = some q → decode cX7_waysToFill pc = .ok (q.1, zk_len q.1 q.2) := zk_cd_ok (by decide +kernel)
def cdX7_countsTogether : List (Nat × Instr × Nat) := [(0, .aload_n 0, 0), (1, .getfield 21, 0), (4, .iload_n 1, 0), (5, .invokevirtual 85, 0), (8, .istore_n 3, 0), (9, .iload_n 2, 0), (10, .iconst (-1), 0), (11, .if_icmp .ne 7, 0), (14, .iload_n 3, 0), (15, .goto 12, 0), (18, .aload_n 0, 0), (19, .getfield 21, 0), (22, .getfield 90, 0), (25, .iload_n 2, 0), (26, .iaload, 0), (27, .ireturn, 0)]
theorem cdX7_countsTogether_ok : ∀ pc q, zk_at cdX7_countsTogether pc = some q → decode cX7_countsTogether pc = .ok (q.1, zk_len q.1 q.2) := zk_cd_ok (by decide +kernel)
def cdX8_holdLook : List (Nat × Instr × Nat) := [(0, .aload_n 0, 0), (1, .iload_n 1, 0), (2, .ifCond .ge 7, 0), (5, .iconst 0, 0), (6, .goto 4, 0), (9, .iconst 1, 0), (10, .putfield 15, 0), (13, .aload_n 0, 0), (14, .iload_n 1, 0), (15, .putfield 19, 0), (18, .return_, 0)]
theorem cdX8_holdLook_ok : ∀ pc q, zk_at cdX8_holdLook pc = some q → decode cX8_holdLook pc = .ok (q.1, zk_len q.1 q.2) := zk_cd_ok (by decide +kernel)
def cdX8_holdRow : List (Nat × Instr × Nat) := [(0, .aload_n 0, 0), (1, .iconst 2, 0), (2, .putfield 15, 0), (5, .aload_n 0, 0), (6, .iload_n 1, 0), (7, .putfield 22, 0), (10, .aload_n 0, 0), (11, .iload_n 2, 0), (12, .putfield 25, 0), (15, .aload_n 0, 0), (16, .getfield 11, 1), (19, .lconst 0, 0), (20, .invokestatic 28, 0), (23, .return_, 0)]
theorem cdX8_holdRow_ok : ∀ pc q, zk_at cdX8_holdRow pc = some q → decode cX8_holdRow pc = .ok (q.1, zk_len q.1 q.2) := zk_cd_ok (by decide +kernel)
def cdX8_isRowOf : List (Nat × Instr × Nat) := [(0, .aload_n 0, 0), (1, .getfield 15, 0), (4, .iconst 2, 0), (5, .if_icmp .ne 15, 0), (8, .aload_n 0, 0), (9, .getfield 22, 0), (12, .iload_n 1, 0), (13, .if_icmp .ne 7, 0), (16, .iconst 1, 0), (17, .goto 4, 0), (20, .iconst 0, 0), (21, .ireturn, 0)]
theorem cdX8_isRowOf_ok : ∀ pc q, zk_at cdX8_isRowOf pc = some q → decode cX8_isRowOf pc = .ok (q.1, zk_len q.1 q.2) := zk_cd_ok (by decide +kernel)
def cdX8_refusalOfRow : List (Nat × Instr × Nat) := [(0, .aload_n 0, 0), (1, .getfield 15, 0), (4, .ifCond .ne 6, 0), (7, .bipush (-11), 0), (9, .ireturn, 0), (10, .aload_n 0, 0), (11, .iload_n 1, 0), (12, .invokevirtual 34, 0), (15, .ifCond .eq 7, 0), (18, .iconst 0, 0), (19, .goto 5, 0), (22, .bipush (-12), 0), (24, .ireturn, 0)]
theorem cdX8_refusalOfRow_ok : ∀ pc q, zk_at cdX8_refusalOfRow pc = some q → decode cX8_refusalOfRow pc = .ok (q.1, zk_len q.1 q.2) := zk_cd_ok (by decide +kernel)
def cdX8_refusalOfPlace : List (Nat × Instr × Nat) := [(0, .aload_n 0, 0), (1, .getfield 15, 0), (4, .iconst 2, 0), (5, .if_icmp .eq 18, 0), (8, .aload_n 0, 0), (9, .getfield 15, 0), (12, .ifCond .ne 8, 0), (15, .bipush (-11), 0), (17, .goto 5, 0), (20, .bipush (-12), 0), (22, .ireturn, 0), (23, .iload_n 1, 0), (24, .ifCond .lt 15, 0), (27, .iload_n 1, 0), (28, .aload_n 0, 0), (29, .getfield 25, 0), (32, .if_icmp .ge 7, 0), (35, .iconst 0, 0), (36, .goto 5, 0), (39, .bipush (-13), 0), (41, .ireturn, 0)]
theorem cdX8_refusalOfPlace_ok : ∀ pc q, zk_at cdX8_refusalOfPlace pc = some q → decode cX8_refusalOfPlace pc = .ok (q.1, zk_len q.1 q.2) := zk_cd_ok (by decide +kernel)
def cdX8_hasPlaces : List (Nat × Instr × Nat) := [(0, .iload_n 1, 0), (1, .ifCond .lt 29, 0), (4, .iload_n 2, 0), (5, .ifCond .lt 25, 0), (8, .iload_n 1, 0), (9, .aload_n 0, 0), (10, .getfield 25, 0), (13, .if_icmp .gt 17, 0), (16, .iload_n 2, 0), (17, .aload_n 0, 0), (18, .getfield 25, 0), (21, .iload_n 1, 0), (22, .isub, 0), (23, .if_icmp .gt 7, 0), (26, .iconst 1, 0), (27, .goto 4, 0), (30, .iconst 0, 0), (31, .ireturn, 0)]
theorem cdX8_hasPlaces_ok : ∀ pc q, zk_at cdX8_hasPlaces pc = some q → decode cX8_hasPlaces pc = .ok (q.1, zk_len q.1 q.2) := zk_cd_ok (by decide +kernel)
def cdX8_lowestBits : List (Nat × Instr × Nat) := [(0, .aload_n 0, 0), (1, .getfield 22, 0), (4, .tableswitch 62 0 4 #[36, 41, 46, 62, 50], 36), (40, .lload_n 1, 0), (41, .l2i, 0), (42, .i2b, 0), (43, .i2l, 0), (44, .lreturn, 0), (45, .lload_n 1, 0), (46, .l2i, 0), (47, .i2s, 0), (48, .i2l, 0), (49, .lreturn, 0), (50, .lload_n 1, 0), (51, .l2i, 0), (52, .i2l, 0), (53, .lreturn, 0), (54, .lload_n 1, 0), (55, .lconst 0, 0), (56, .lcmp, 0), (57, .ifCond .eq 7, 0), (60, .lconst 1, 0), (61, .goto 4, 0), (64, .lconst 0, 0), (65, .lreturn, 0), (66, .lload_n 1, 0), (67, .lreturn, 0)]
theorem cdX8_lowestBits_ok : ∀ pc q, zk_at cdX8_lowestBits pc = some q → decode cX8_lowestBits pc = .ok (q.1, zk_len q.1 q.2) := zk_cd_ok (by decide +kernel)
def cdX10_weigh : List (Nat × Instr × Nat) := [(0, .aload_n 0, 0), (1, .getfield 36, 0), (4, .getfield 44, 0), (7, .bipush 8, 0), (9, .aaload, 0), (10, .iload_n 1, 0), (11, .iaload, 0), (12, .istore_n 2, 0), (13, .aload_n 0, 0), (14, .getfield 19, 0), (17, .iconst 3, 0), (18, .iload_n 2, 0), (19, .ifCond .ge 7, 0), (22, .iconst 0, 0), (23, .goto 14, 0), (26, .aload_n 0, 0), (27, .getfield 36, 0), (30, .iload_n 2, 0), (31, .invokevirtual 48, 0), (34, .invokestatic 52, 0), (37, .iastore, 0), (38, .aload_n 0, 0), (39, .getfield 19, 0), (42, .iconst 4, 0), (43, .aload_n 0, 0), (44, .getfield 36, 0), (47, .getfield 44, 0), (50, .bipush 9, 0), (52, .aaload, 0), (53, .iload_n 1, 0), (54, .iaload, 0), (55, .iastore, 0), (56, .aload_n 0, 0), (57, .getfield 19, 0), (60, .iconst 5, 0), (61, .iload_n 1, 0), (62, .iastore, 0), (63, .aload_n 0, 0), (64, .getfield 36, 0), (67, .iload_n 1, 0), (68, .iload_n 2, 0), (69, .invokevirtual 57, 0), (72, .istore_n 3, 0), (73, .iconst 0, 0), (74, .istore 4, 0), (76, .iconst 0, 0), (77, .istore 5, 0), (79, .iload 5, 0), (81, .aload_n 0, 0), (82, .getfield 36, 0), (85, .getfield 61, 0), (88, .if_icmp .ge 48, 0), (91, .aload_n 0, 0), (92, .getfield 27, 0), (95, .iload 5, 0), (97, .iload_n 3, 0), (98, .iload 5, 0), (100, .ishr, 0), (101, .iconst 1, 0), (102, .iand, 0), (103, .ifCond .ne 7, 0), (106, .iconst 0, 0), (107, .goto 10, 0), (110, .aload_n 0, 0), (111, .iload_n 1, 0), (112, .iload 5, 0), (114, .invokevirtual 65, 0), (117, .iastore, 0), (118, .iload 4, 0), (120, .aload_n 0, 0), (121, .getfield 27, 0), (124, .iload 5, 0), (126, .iaload, 0), (127, .iadd, 0), (128, .istore 4, 0), (130, .iinc 5 1, 0), (133, .goto (-54), 0), (136, .iload 4, 0), (138, .ireturn, 0)]
theorem cdX10_weigh_ok : ∀ pc q, zk_at cdX10_weigh pc = some q → decode cX10_weigh pc = .ok (q.1, zk_len q.1 q.2) := zk_cd_ok (by decide +kernel)
def cdX10_countFor : List (Nat × Instr × Nat) := [(0, .aload_n 0, 0), (1, .getfield 19, 0), (4, .iconst 0, 0), (5, .aload_n 0, 0), (6, .getfield 36, 0), (9, .iload_n 2, 0), (10, .aload_n 0, 0), (11, .getfield 36, 0), (14, .getfield 44, 0), (17, .bipush 13, 0), (19, .aaload, 0), (20, .iload_n 1, 0), (21, .iaload, 0), (22, .invokevirtual 68, 0), (25, .ifCond .eq 7, 0), (28, .iconst 1, 0), (29, .goto 4, 0), (32, .iconst 0, 0), (33, .iastore, 0), (34, .aload_n 0, 0), (35, .getfield 19, 0), (38, .iconst 1, 0), (39, .aload_n 0, 0), (40, .iload_n 2, 0), (41, .iload_n 1, 0), (42, .invokevirtual 72, 0), (45, .iastore, 0), (46, .aload_n 0, 0), (47, .getfield 19, 0), (50, .iconst 2, 0), (51, .aload_n 0, 0), (52, .getfield 36, 0), (55, .getfield 44, 0), (58, .iconst 3, 0), (59, .aaload, 0), (60, .iload_n 2, 0), (61, .iaload, 0), (62, .iastore, 0), (63, .aload_n 0, 0), (64, .getfield 40, 0), (67, .invokevirtual 75, 0), (70, .ifCond .eq 17, 0), (73, .aload_n 0, 0), (74, .getfield 40, 0), (77, .aload_n 0, 0), (78, .getfield 19, 0), (81, .invokevirtual 81, 0), (84, .goto 7, 0), (87, .aload_n 0, 0), (88, .invokevirtual 85, 0), (91, .istore_n 3, 0), (92, .iconst 0, 0), (93, .bipush 99, 0), (95, .iload_n 3, 0), (96, .invokestatic 88, 0), (99, .invokestatic 93, 0), (102, .ireturn, 0)]
theorem cdX10_countFor_ok : ∀ pc q, zk_at cdX10_countFor pc = some q → decode cX10_countFor pc = .ok (q.1, zk_len q.1 q.2) := zk_cd_ok (by decide +kernel)
def cdX10_likenessOfHand : List (Nat × Instr × Nat) := [(0, .aload_n 0, 0), (1, .getfield 36, 0), (4, .getfield 44, 0), (7, .bipush 7, 0), (9, .aaload, 0), (10, .iload_n 2, 0), (11, .iaload, 0), (12, .istore_n 3, 0), (13, .iload_n 3, 0), (14, .ifCond .ge 5, 0), (17, .iconst 1, 0), (18, .ireturn, 0), (19, .iload_n 3, 0), (20, .aload_n 0, 0), (21, .getfield 36, 0), (24, .getfield 44, 0), (27, .iconst 2, 0), (28, .aaload, 0), (29, .iload_n 1, 0), (30, .iaload, 0), (31, .if_icmp .ne 7, 0), (34, .iconst 2, 0), (35, .goto 4, 0), (38, .iconst 0, 0), (39, .ireturn, 0)]
theorem cdX10_likenessOfHand_ok : ∀ pc q, zk_at cdX10_likenessOfHand pc = some q → decode cX10_likenessOfHand pc = .ok (q.1, zk_len q.1 q.2) := zk_cd_ok (by decide +kernel)
def cdX10_valueWithoutLaw : List (Nat × Instr × Nat) := [(0, .aload_n 0, 0), (1, .getfield 36, 0), (4, .getfield 44, 0), (7, .bipush 10, 0), (9, .aaload, 0), (10, .iconst 0, 0), (11, .iaload, 0), (12, .istore_n 1, 0), (13, .aload_n 0, 0), (14, .getfield 19, 0), (17, .iconst 1, 0), (18, .iaload, 0), (19, .iconst 2, 0), (20, .if_icmp .ne 10, 0), (23, .bipush 12, 0), (25, .iload_n 1, 0), (26, .isub, 0), (27, .goto 19, 0), (30, .aload_n 0, 0), (31, .getfield 19, 0), (34, .iconst 1, 0), (35, .iaload, 0), (36, .iconst 1, 0), (37, .if_icmp .ne 8, 0), (40, .bipush 12, 0), (42, .goto 4, 0), (45, .iload_n 1, 0), (46, .istore_n 2, 0), (47, .iconst 1, 0), (48, .iconst 4, 0), (49, .aload_n 0, 0), (50, .getfield 19, 0), (53, .iconst 0, 0), (54, .iaload, 0), (55, .imul, 0), (56, .iadd, 0), (57, .iload_n 2, 0), (58, .imul, 0), (59, .ireturn, 0)]
theorem cdX10_valueWithoutLaw_ok : ∀ pc q, zk_at cdX10_valueWithoutLaw pc = some q → decode cX10_valueWithoutLaw pc = .ok (q.1, zk_len q.1 q.2) := zk_cd_ok (by decide +kernel)
def cdX10_likeliestOf : List (Nat × Instr × Nat) := [(0, .aload_n 0, 0), (1, .iload_n 1, 0), (2, .invokevirtual 96, 0), (5, .pop, 0), (6, .bipush (-2), 0), (8, .istore_n 3, 0), (9, .iconst 0, 0), (10, .istore 4, 0), (12, .iconst 0, 0), (13, .istore 5, 0), (15, .iload 5, 0), (17, .aload_n 0, 0), (18, .getfield 36, 0), (21, .getfield 61, 0), (24, .if_icmp .ge 42, 0), (27, .iload_n 2, 0), (28, .iload 5, 0), (30, .ishr, 0), (31, .iconst 1, 0), (32, .iand, 0), (33, .ifCond .eq 27, 0), (36, .aload_n 0, 0), (37, .getfield 27, 0), (40, .iload 5, 0), (42, .iaload, 0), (43, .iload 4, 0), (45, .if_icmp .le 15, 0), (48, .iload 5, 0), (50, .istore_n 3, 0), (51, .aload_n 0, 0), (52, .getfield 27, 0), (55, .iload 5, 0), (57, .iaload, 0), (58, .istore 4, 0), (60, .iinc 5 1, 0), (63, .goto (-48), 0), (66, .iload_n 3, 0), (67, .ireturn, 0)]
theorem cdX10_likeliestOf_ok : ∀ pc q, zk_at cdX10_likeliestOf pc = some q → decode cX10_likeliestOf pc = .ok (q.1, zk_len q.1 q.2) := zk_cd_ok (by decide +kernel)
def cdX10_onlyOne : List (Nat × Instr × Nat) := [(0, .aload_n 0, 0), (1, .iload_n 1, 0), (2, .aload_n 0, 0), (3, .getfield 36, 0), (6, .invokevirtual 99, 0), (9, .invokevirtual 102, 0), (12, .istore_n 2, 0), (13, .iconst 0, 0), (14, .istore_n 3, 0), (15, .iload_n 3, 0), (16, .aload_n 0, 0), (17, .getfield 36, 0), (20, .getfield 61, 0), (23, .if_icmp .ge 26, 0), (26, .iload_n 3, 0), (27, .iload_n 2, 0), (28, .if_icmp .eq 15, 0), (31, .aload_n 0, 0), (32, .getfield 27, 0), (35, .iload_n 3, 0), (36, .iaload, 0), (37, .ifCond .le 6, 0), (40, .bipush (-2), 0), (42, .ireturn, 0), (43, .iinc 3 1, 0), (46, .goto (-31), 0), (49, .iload_n 2, 0), (50, .ireturn, 0)]
theorem cdX10_onlyOne_ok : ∀ pc q, zk_at cdX10_onlyOne pc = some q → decode cX10_onlyOne pc = .ok (q.1, zk_len q.1 q.2) := zk_cd_ok (by decide +kernel)
def cdX10_whoCouldAll : List (Nat × Instr × Nat) := [(0, .aload_n 0, 0), (1, .getfield 36, 0), (4, .invokevirtual 99, 0), (7, .istore_n 2, 0), (8, .iconst 0, 0), (9, .istore_n 3, 0), (10, .iload_n 3, 0), (11, .aload_n 0, 0), (12, .getfield 36, 0), (15, .getfield 105, 0), (18, .if_icmp .ge 28, 0), (21, .iload_n 1, 0), (22, .iload_n 3, 0), (23, .ishr, 0), (24, .iconst 1, 0), (25, .iand, 0), (26, .ifCond .eq 14, 0), (29, .iload_n 2, 0), (30, .aload_n 0, 0), (31, .getfield 36, 0), (34, .iload_n 3, 0), (35, .invokevirtual 108, 0), (38, .iand, 0), (39, .istore_n 2, 0), (40, .iinc 3 1, 0), (43, .goto (-33), 0), (46, .iload_n 2, 0), (47, .ireturn, 0)]
theorem cdX10_whoCouldAll_ok : ∀ pc q, zk_at cdX10_whoCouldAll pc = some q → decode cX10_whoCouldAll pc = .ok (q.1, zk_len q.1 q.2) := zk_cd_ok (by decide +kernel)
def cdX10_fewestHands : List (Nat × Instr × Nat) := [(0, .iconst 0, 0), (1, .istore_n 2, 0), (2, .iload_n 2, 0), (3, .aload_n 0, 0), (4, .getfield 36, 0), (7, .getfield 105, 0), (10, .if_icmp .ge 23, 0), (13, .aload_n 0, 0), (14, .getfield 30, 0), (17, .iload_n 2, 0), (18, .aload_n 0, 0), (19, .getfield 36, 0), (22, .iload_n 2, 0), (23, .invokevirtual 108, 0), (26, .iastore, 0), (27, .iinc 2 1, 0), (30, .goto (-28), 0), (33, .bipush (-2), 0), (35, .istore_n 2, 0), (36, .iconst 0, 0), (37, .istore_n 3, 0), (38, .iload_n 3, 0), (39, .aload_n 0, 0), (40, .getfield 36, 0), (43, .invokevirtual 99, 0), (46, .if_icmp .gt 49, 0), (49, .iload_n 2, 0), (50, .bipush (-2), 0), (52, .if_icmp .eq 14, 0), (55, .iload_n 3, 0), (56, .invokestatic 52, 0), (59, .iload_n 2, 0), (60, .invokestatic 52, 0), (63, .if_icmp .ge 7, 0), (66, .iconst 1, 0), (67, .goto 4, 0), (70, .iconst 0, 0), (71, .istore 4, 0), (73, .iload 4, 0), (75, .ifCond .eq 14, 0), (78, .aload_n 0, 0), (79, .iload_n 1, 0), (80, .iload_n 3, 0), (81, .invokevirtual 111, 0), (84, .ifCond .eq 5, 0), (87, .iload_n 3, 0), (88, .istore_n 2, 0), (89, .iinc 3 1, 0), (92, .goto (-54), 0), (95, .iload_n 2, 0), (96, .ireturn, 0)]
theorem cdX10_fewestHands_ok : ∀ pc q, zk_at cdX10_fewestHands pc = some q → decode cX10_fewestHands pc = .ok (q.1, zk_len q.1 q.2) := zk_cd_ok (by decide +kernel)
def cdX10_couldAllBeBy : List (Nat × Instr × Nat) := [(0, .iconst 0, 0), (1, .istore_n 3, 0), (2, .iload_n 3, 0), (3, .aload_n 0, 0), (4, .getfield 36, 0), (7, .getfield 105, 0), (10, .if_icmp .ge 30, 0), (13, .iload_n 1, 0), (14, .iload_n 3, 0), (15, .ishr, 0), (16, .iconst 1, 0), (17, .iand, 0), (18, .ifCond .eq 16, 0), (21, .aload_n 0, 0), (22, .getfield 30, 0), (25, .iload_n 3, 0), (26, .iaload, 0), (27, .iload_n 2, 0), (28, .iand, 0), (29, .ifCond .ne 5, 0), (32, .iconst 0, 0), (33, .ireturn, 0), (34, .iinc 3 1, 0), (37, .goto (-35), 0), (40, .iconst 1, 0), (41, .ireturn, 0)]
theorem cdX10_couldAllBeBy_ok : ∀ pc q, zk_at cdX10_couldAllBeBy pc = some q → decode cX10_couldAllBeBy pc = .ok (q.1, zk_len q.1 q.2) := zk_cd_ok (by decide +kernel)
def cdX10_waysByUnlike : List (Nat × Instr × Nat) := [(0, .aload_n 0, 0), (1, .getfield 33, 0), (4, .iconst 0, 0), (5, .invokestatic 114, 0), (8, .aload_n 0, 0), (9, .getfield 33, 0), (12, .iconst 0, 0), (13, .iconst 1, 0), (14, .iastore, 0), (15, .iconst 1, 0), (16, .istore_n 2, 0), (17, .iconst 0, 0), (18, .istore_n 3, 0), (19, .iload_n 3, 0), (20, .aload_n 0, 0), (21, .getfield 36, 0), (24, .getfield 105, 0), (27, .if_icmp .ge 30, 0), (30, .iload_n 1, 0), (31, .iload_n 3, 0), (32, .ishr, 0), (33, .iconst 1, 0), (34, .iand, 0), (35, .ifCond .eq 16, 0), (38, .aload_n 0, 0), (39, .aload_n 0, 0), (40, .getfield 36, 0), (43, .iload_n 3, 0), (44, .invokevirtual 108, 0), (47, .invokevirtual 120, 0), (50, .istore_n 2, 0), (51, .iinc 3 1, 0), (54, .goto (-35), 0), (57, .iload_n 2, 0), (58, .ireturn, 0)]
theorem cdX10_waysByUnlike_ok : ∀ pc q, zk_at cdX10_waysByUnlike pc = some q → decode cX10_waysByUnlike pc = .ok (q.1, zk_len q.1 q.2) := zk_cd_ok (by decide +kernel)
def cdX10_addWriter : List (Nat × Instr × Nat) := [(0, .iconst 0, 0), (1, .istore_n 2, 0), (2, .aload_n 0, 0), (3, .getfield 36, 0), (6, .invokevirtual 99, 0), (9, .istore_n 3, 0), (10, .iload_n 3, 0), (11, .ifCond .lt 73, 0), (14, .iconst 0, 0), (15, .istore 4, 0), (17, .iconst 0, 0), (18, .istore 5, 0), (20, .iload 5, 0), (22, .aload_n 0, 0), (23, .getfield 36, 0), (26, .getfield 61, 0), (29, .if_icmp .ge 36, 0), (32, .iload_n 3, 0), (33, .iload_n 1, 0), (34, .iand, 0), (35, .iconst 1, 0), (36, .iload 5, 0), (38, .ishl, 0), (39, .iand, 0), (40, .ifCond .eq 19, 0), (43, .iload 4, 0), (45, .aload_n 0, 0), (46, .getfield 33, 0), (49, .iload_n 3, 0), (50, .iconst 1, 0), (51, .iload 5, 0), (53, .ishl, 0), (54, .ixor, 0), (55, .iaload, 0), (56, .iadd, 0), (57, .istore 4, 0), (59, .iinc 5 1, 0), (62, .goto (-42), 0), (65, .aload_n 0, 0), (66, .getfield 33, 0), (69, .iload_n 3, 0), (70, .iload 4, 0), (72, .iastore, 0), (73, .iload_n 2, 0), (74, .iload 4, 0), (76, .iadd, 0), (77, .istore_n 2, 0), (78, .iinc 3 (-1), 0), (81, .goto (-71), 0), (84, .iload_n 2, 0), (85, .ireturn, 0)]
theorem cdX10_addWriter_ok : ∀ pc q, zk_at cdX10_addWriter pc = some q → decode cX10_addWriter pc = .ok (q.1, zk_len q.1 q.2) := zk_cd_ok (by decide +kernel)
def cdX10_lowestTerms : List (Nat × Instr × Nat) := [(0, .aload_n 0, 0), (1, .iload_n 1, 0), (2, .iload_n 2, 0), (3, .invokevirtual 123, 0), (6, .istore 4, 0), (8, .iload_n 2, 0), (9, .ifCond .eq 8, 0), (12, .iload 4, 0), (14, .ifCond .ne 5, 0), (17, .iload_n 3, 0), (18, .ireturn, 0), (19, .iload_n 3, 0), (20, .ifCond .ne 7, 0), (23, .iload_n 1, 0), (24, .goto 4, 0), (27, .iload_n 2, 0), (28, .iload 4, 0), (30, .idiv, 0), (31, .ireturn, 0)]
theorem cdX10_lowestTerms_ok : ∀ pc q, zk_at cdX10_lowestTerms pc = some q → decode cX10_lowestTerms pc = .ok (q.1, zk_len q.1 q.2) := zk_cd_ok (by decide +kernel)
def cdX10_greatestDivisor : List (Nat × Instr × Nat) := [(0, .iload_n 1, 0), (1, .istore_n 3, 0), (2, .iload_n 2, 0), (3, .istore 4, 0), (5, .iconst 0, 0), (6, .istore 5, 0), (8, .iload 5, 0), (10, .bipush 64, 0), (12, .if_icmp .ge 27, 0), (15, .iload 4, 0), (17, .ifCond .eq 22, 0), (20, .iload_n 3, 0), (21, .iload 4, 0), (23, .irem, 0), (24, .istore 6, 0), (26, .iload 4, 0), (28, .istore_n 3, 0), (29, .iload 6, 0), (31, .istore 4, 0), (33, .iinc 5 1, 0), (36, .goto (-28), 0), (39, .iload_n 3, 0), (40, .ireturn, 0)]
theorem cdX10_greatestDivisor_ok : ∀ pc q, zk_at cdX10_greatestDivisor pc = some q → decode cX10_greatestDivisor pc = .ok (q.1, zk_len q.1 q.2) := zk_cd_ok (by decide +kernel)
def cdX11_person : List (Nat × Instr × Nat) := [(0, .aload_n 0, 0), (1, .getfield 10, 0), (4, .iconst 2, 0), (5, .iload_n 1, 0), (6, .invokevirtual 85, 0), (9, .ifCond .ne 5, 0), (12, .iconst (-1), 0), (13, .ireturn, 0), (14, .aload_n 0, 0), (15, .getfield 10, 0), (18, .getfield 89, 0), (21, .bipush 8, 0), (23, .if_icmp .lt 8, 0), (26, .bipush (-3), 0), (28, .goto 13, 0), (31, .aload_n 0, 0), (32, .getfield 10, 0), (35, .iload_n 1, 0), (36, .iconst 0, 0), (37, .iconst 0, 0), (38, .invokevirtual 93, 0), (41, .ireturn, 0)]
theorem cdX11_person_ok : ∀ pc q, zk_at cdX11_person pc = some q → decode cX11_person pc = .ok (q.1, zk_len q.1 q.2) := zk_cd_ok (by decide +kernel)
def cdX11_people : List (Nat × Instr × Nat) := [(0, .aload_n 0, 0), (1, .iload_n 1, 0), (2, .invokevirtual 97, 0), (5, .astore 4, 0), (7, .aload 4, 0), (9, .ifnull 14, 0), (12, .iload_n 3, 0), (13, .iconst 1, 0), (14, .if_icmp .lt 9, 0), (17, .iload_n 3, 0), (18, .bipush 8, 0), (20, .if_icmp .le 5, 0), (23, .iconst (-1), 0), (24, .ireturn, 0), (25, .aload 4, 0), (27, .getfield 101, 0), (30, .ifCond .ne 5, 0), (33, .iconst 0, 0), (34, .ireturn, 0), (35, .aload 4, 0), (37, .iconst 1, 0), (38, .invokevirtual 104, 0), (41, .ifCond .eq 17, 0), (44, .aload_n 0, 0), (45, .getfield 60, 0), (48, .aload 4, 0), (50, .iload_n 2, 0), (51, .iload_n 3, 0), (52, .invokevirtual 108, 0), (55, .goto 5, 0), (58, .bipush (-12), 0), (60, .ireturn, 0)]
theorem cdX11_people_ok : ∀ pc q, zk_at cdX11_people pc = some q → decode cX11_people pc = .ok (q.1, zk_len q.1 q.2) := zk_cd_ok (by decide +kernel)
def cdX11_card : List (Nat × Instr × Nat) := [(0, .iload_n 1, 0), (1, .ifCond .lt 28, 0), (4, .aload_n 0, 0), (5, .getfield 10, 0), (8, .iload_n 1, 0), (9, .bipush 100, 0), (11, .idiv, 0), (12, .invokevirtual 112, 0), (15, .ifCond .eq 14, 0), (18, .aload_n 0, 0), (19, .getfield 10, 0), (22, .iload_n 2, 0), (23, .invokevirtual 115, 0), (26, .ifCond .ne 5, 0), (29, .iconst (-1), 0), (30, .ireturn, 0), (31, .aload_n 0, 0), (32, .getfield 10, 0), (35, .getfield 118, 0), (38, .bipush 6, 0), (40, .if_icmp .lt 8, 0), (43, .bipush (-3), 0), (45, .goto 19, 0), (48, .aload_n 0, 0), (49, .getfield 10, 0), (52, .iload_n 1, 0), (53, .bipush 100, 0), (55, .idiv, 0), (56, .iload_n 1, 0), (57, .bipush 100, 0), (59, .irem, 0), (60, .iload_n 2, 0), (61, .invokevirtual 121, 0), (64, .ireturn, 0)]
theorem cdX11_card_ok : ∀ pc q, zk_at cdX11_card pc = some q → decode cX11_card pc = .ok (q.1, zk_len q.1 q.2) := zk_cd_ok (by decide +kernel)
def cdX11_mend : List (Nat × Instr × Nat) := [(0, .iload_n 2, 0), (1, .bipush 12, 0), (3, .if_icmp .gt 27, 0), (6, .aload_n 0, 0), (7, .getfield 10, 0), (10, .iload_n 1, 0), (11, .iload_n 2, 0), (12, .invokevirtual 124, 0), (15, .ifCond .eq 15, 0), (18, .aload_n 0, 0), (19, .getfield 10, 0), (22, .iload_n 2, 0), (23, .iload_n 3, 0), (24, .invokevirtual 85, 0), (27, .ifCond .ne 6, 0), (30, .ldc 127, 0), (32, .ireturn, 0), (33, .aload_n 0, 0), (34, .getfield 10, 0), (37, .getfield 128, 0), (40, .iload_n 2, 0), (41, .aaload, 1), (42, .iload_n 1, 0), (43, .iaload, 0), (44, .istore 4, 0), (46, .iload 4, 0), (48, .iload_n 3, 0), (49, .if_icmp .eq 13, 0), (52, .aload_n 0, 0), (53, .getfield 21, 0), (56, .iload_n 1, 0), (57, .iload_n 2, 0), (58, .iload_n 3, 0), (59, .invokevirtual 132, 0), (62, .iload 4, 0), (64, .ireturn, 0)]
theorem cdX11_mend_ok : ∀ pc q, zk_at cdX11_mend pc = some q → decode cX11_mend pc = .ok (q.1, zk_len q.1 q.2) := zk_cd_ok (by decide +kernel)
def cdX11_of : List (Nat × Instr × Nat) := [(0, .aload_n 0, 0), (1, .getfield 10, 0), (4, .iload_n 1, 0), (5, .iload_n 2, 0), (6, .invokevirtual 124, 0), (9, .ifCond .eq 17, 0), (12, .aload_n 0, 0), (13, .getfield 10, 0), (16, .getfield 128, 0), (19, .iload_n 2, 0), (20, .aaload, 1), (21, .iload_n 1, 0), (22, .iaload, 0), (23, .goto 5, 0), (26, .ldc 127, 0), (28, .ireturn, 0)]
theorem cdX11_of_ok : ∀ pc q, zk_at cdX11_of pc = some q → decode cX11_of pc = .ok (q.1, zk_len q.1 q.2) := zk_cd_ok (by decide +kernel)
def cdX11_feed : List (Nat × Instr × Nat) := [(0, .iload_n 1, 0), (1, .ifCond .lt 10, 0), (4, .iload_n 1, 0), (5, .sipush 255, 0), (8, .if_icmp .le 5, 0), (11, .iconst (-1), 0), (12, .ireturn, 0), (13, .aload_n 0, 0), (14, .getfield 28, 0), (17, .getfield 136, 0), (20, .bipush 120, 0), (22, .if_icmp .lt 8, 0), (25, .bipush (-3), 0), (27, .goto 11, 0), (30, .aload_n 0, 0), (31, .getfield 28, 0), (34, .iload_n 1, 0), (35, .invokevirtual 139, 0), (38, .ireturn, 0)]
theorem cdX11_feed_ok : ∀ pc q, zk_at cdX11_feed pc = some q → decode cX11_feed pc = .ok (q.1, zk_len q.1 q.2) := zk_cd_ok (by decide +kernel)
def cdX11_law : List (Nat × Instr × Nat) := [(0, .aload_n 0, 0), (1, .getfield 28, 0), (4, .invokevirtual 143, 0), (7, .istore_n 1, 0), (8, .iload_n 1, 0), (9, .ifCond .lt 8, 0), (12, .bipush (-100), 0), (14, .iload_n 1, 0), (15, .isub, 0), (16, .ireturn, 0), (17, .aload_n 0, 0), (18, .getfield 35, 0), (21, .aload_n 0, 0), (22, .getfield 28, 0), (25, .getfield 147, 0), (28, .aload_n 0, 0), (29, .getfield 28, 0), (32, .getfield 151, 0), (35, .invokevirtual 154, 0), (38, .iconst 1, 0), (39, .ireturn, 0)]
theorem cdX11_law_ok : ∀ pc q, zk_at cdX11_law pc = some q → decode cX11_law pc = .ok (q.1, zk_len q.1 q.2) := zk_cd_ok (by decide +kernel)
def cdX11_could : List (Nat × Instr × Nat) := [(0, .aload_n 0, 0), (1, .getfield 10, 0), (4, .iload_n 1, 0), (5, .invokevirtual 158, 0), (8, .ifCond .eq 14, 0), (11, .aload_n 0, 0), (12, .getfield 10, 0), (15, .iload_n 1, 0), (16, .invokevirtual 161, 0), (19, .goto 4, 0), (22, .iconst (-1), 0), (23, .ireturn, 0)]
theorem cdX11_could_ok : ∀ pc q, zk_at cdX11_could pc = some q → decode cX11_could pc = .ok (q.1, zk_len q.1 q.2) := zk_cd_ok (by decide +kernel)
def cdX11_counts : List (Nat × Instr × Nat) := [(0, .aload_n 0, 0), (1, .getfield 10, 0), (4, .iload_n 1, 0), (5, .invokevirtual 164, 0), (8, .ifCond .ne 5, 0), (11, .iconst (-1), 0), (12, .ireturn, 0), (13, .aload_n 0, 0), (14, .getfield 44, 0), (17, .iload_n 1, 0), (18, .bipush 10, 0), (20, .idiv, 0), (21, .invokevirtual 167, 0), (24, .pop, 0), (25, .aload_n 0, 0), (26, .getfield 44, 0), (29, .getfield 170, 0), (32, .iload_n 1, 0), (33, .bipush 10, 0), (35, .irem, 0), (36, .iaload, 0), (37, .ireturn, 0)]
theorem cdX11_counts_ok : ∀ pc q, zk_at cdX11_counts pc = some q → decode cX11_counts pc = .ok (q.1, zk_len q.1 q.2) := zk_cd_ok (by decide +kernel)
def cdX11_likely : List (Nat × Instr × Nat) := [(0, .aload_n 0, 0), (1, .getfield 10, 0), (4, .iload_n 1, 0), (5, .invokevirtual 164, 0), (8, .ifCond .eq 10, 0), (11, .iload_n 2, 0), (12, .invokestatic 173, 0), (15, .ifCond .ne 7, 0), (18, .ldc2_w 176, 0), (21, .lreturn, 0), (22, .aload_n 0, 0), (23, .getfield 44, 0), (26, .iload_n 1, 0), (27, .bipush 10, 0), (29, .idiv, 0), (30, .invokevirtual 167, 0), (33, .istore_n 3, 0), (34, .aload_n 0, 0), (35, .getfield 44, 0), (38, .aload_n 0, 0), (39, .getfield 44, 0), (42, .getfield 170, 0), (45, .iload_n 1, 0), (46, .bipush 10, 0), (48, .irem, 0), (49, .iaload, 0), (50, .iload_n 3, 0), (51, .iload_n 2, 0), (52, .invokevirtual 178, 0), (55, .i2l, 0), (56, .lreturn, 0)]
theorem cdX11_likely_ok : ∀ pc q, zk_at cdX11_likely pc = some q → decode cX11_likely pc = .ok (q.1, zk_len q.1 q.2) := zk_cd_ok (by decide +kernel)
def cdX11_likeliest : List (Nat × Instr × Nat) := [(0, .aload_n 0, 0), (1, .getfield 10, 0), (4, .iload_n 1, 0), (5, .invokevirtual 158, 0), (8, .ifCond .eq 10, 0), (11, .iload_n 2, 0), (12, .invokestatic 173, 0), (15, .ifCond .ne 5, 0), (18, .iconst (-1), 0), (19, .ireturn, 0), (20, .iload_n 2, 0), (21, .ifCond .ne 21, 0), (24, .aload_n 0, 0), (25, .getfield 44, 0), (28, .iload_n 1, 0), (29, .aload_n 0, 0), (30, .getfield 10, 0), (33, .invokevirtual 181, 0), (36, .invokevirtual 184, 0), (39, .goto 11, 0), (42, .aload_n 0, 0), (43, .getfield 44, 0), (46, .iload_n 1, 0), (47, .invokevirtual 188, 0), (50, .ireturn, 0)]
theorem cdX11_likeliest_ok : ∀ pc q, zk_at cdX11_likeliest pc = some q → decode cX11_likeliest pc = .ok (q.1, zk_len q.1 q.2) := zk_cd_ok (by decide +kernel)
def cdX11_allByOne : List (Nat × Instr × Nat) := [(0, .aload_n 0, 0), (1, .getfield 10, 0), (4, .iload_n 1, 0), (5, .invokevirtual 191, 0), (8, .ifCond .eq 14, 0), (11, .aload_n 0, 0), (12, .getfield 44, 0), (15, .iload_n 1, 0), (16, .invokevirtual 194, 0), (19, .goto 4, 0), (22, .iconst (-1), 0), (23, .ireturn, 0)]
theorem cdX11_allByOne_ok : ∀ pc q, zk_at cdX11_allByOne pc = some q → decode cX11_allByOne pc = .ok (q.1, zk_len q.1 q.2) := zk_cd_ok (by decide +kernel)
def cdX11_hands : List (Nat × Instr × Nat) := [(0, .aload_n 0, 0), (1, .getfield 10, 0), (4, .iload_n 1, 0), (5, .invokevirtual 191, 0), (8, .ifCond .eq 10, 0), (11, .iload_n 2, 0), (12, .invokestatic 173, 0), (15, .ifCond .ne 5, 0), (18, .iconst (-1), 0), (19, .ireturn, 0), (20, .aload_n 0, 0), (21, .getfield 44, 0), (24, .iload_n 1, 0), (25, .invokevirtual 197, 0), (28, .istore_n 3, 0), (29, .iload_n 3, 0), (30, .bipush (-2), 0), (32, .if_icmp .eq 8, 0), (35, .iload_n 2, 0), (36, .iconst 1, 0), (37, .if_icmp .ne 7, 0), (40, .iload_n 3, 0), (41, .goto 7, 0), (44, .iload_n 3, 0), (45, .invokestatic 200, 0), (48, .ireturn, 0)]
theorem cdX11_hands_ok : ∀ pc q, zk_at cdX11_hands pc = some q → decode cX11_hands pc = .ok (q.1, zk_len q.1 q.2) := zk_cd_ok (by decide +kernel)
def cdX11_unlike : List (Nat × Instr × Nat) := [(0, .aload_n 0, 0), (1, .getfield 10, 0), (4, .iload_n 1, 0), (5, .invokevirtual 191, 0), (8, .ifCond .eq 14, 0), (11, .aload_n 0, 0), (12, .getfield 44, 0), (15, .iload_n 1, 0), (16, .invokevirtual 205, 0), (19, .goto 4, 0), (22, .iconst (-1), 0), (23, .ireturn, 0)]
theorem cdX11_unlike_ok : ∀ pc q, zk_at cdX11_unlike pc = some q → decode cX11_unlike pc = .ok (q.1, zk_len q.1 q.2) := zk_cd_ok (by decide +kernel)
def cdX11_evenings : List (Nat × Instr × Nat) := [(0, .aload_n 0, 0), (1, .getfield 10, 0), (4, .iload_n 1, 0), (5, .invokevirtual 208, 0), (8, .ifCond .eq 13, 0), (11, .iload_n 2, 0), (12, .ifCond .lt 9, 0), (15, .iload_n 2, 0), (16, .bipush 9, 0), (18, .if_icmp .le 5, 0), (21, .iconst (-1), 0), (22, .ireturn, 0), (23, .aload_n 0, 0), (24, .getfield 10, 0), (27, .iload_n 1, 0), (28, .iload_n 2, 0), (29, .invokevirtual 211, 0), (32, .ireturn, 0)]
theorem cdX11_evenings_ok : ∀ pc q, zk_at cdX11_evenings pc = some q → decode cX11_evenings pc = .ok (q.1, zk_len q.1 q.2) := zk_cd_ok (by decide +kernel)
def cdX11_hears : List (Nat × Instr × Nat) := [(0, .aload_n 0, 0), (1, .getfield 10, 0), (4, .iload_n 1, 0), (5, .invokevirtual 208, 0), (8, .ifCond .eq 14, 0), (11, .aload_n 0, 0), (12, .getfield 10, 0), (15, .iload_n 2, 0), (16, .invokevirtual 112, 0), (19, .ifCond .ne 5, 0), (22, .iconst (-1), 0), (23, .ireturn, 0), (24, .aload_n 0, 0), (25, .getfield 10, 0), (28, .iload_n 1, 0), (29, .iload_n 2, 0), (30, .invokevirtual 214, 0), (33, .ireturn, 0)]
theorem cdX11_hears_ok : ∀ pc q, zk_at cdX11_hears pc = some q → decode cX11_hears pc = .ok (q.1, zk_len q.1 q.2) := zk_cd_ok (by decide +kernel)
def cdX11_ask : List (Nat × Instr × Nat) := [(0, .aload_n 0, 0), (1, .getfield 10, 0), (4, .iload_n 1, 0), (5, .invokevirtual 158, 0), (8, .ifCond .eq 10, 0), (11, .iload_n 2, 0), (12, .invokestatic 173, 0), (15, .ifCond .ne 5, 0), (18, .iconst (-1), 0), (19, .ireturn, 0), (20, .aload_n 0, 0), (21, .getfield 53, 0), (24, .iload_n 1, 0), (25, .iload_n 2, 0), (26, .invokevirtual 217, 0), (29, .ireturn, 0)]
theorem cdX11_ask_ok : ∀ pc q, zk_at cdX11_ask pc = some q → decode cX11_ask pc = .ok (q.1, zk_len q.1 q.2) := zk_cd_ok (by decide +kernel)
def cdX11_worth : List (Nat × Instr × Nat) := [(0, .aload_n 0, 0), (1, .getfield 10, 0), (4, .iload_n 1, 0), (5, .invokevirtual 164, 0), (8, .ifCond .ne 6, 0), (11, .ldc 127, 0), (13, .ireturn, 0), (14, .aload_n 0, 0), (15, .getfield 44, 0), (18, .iload_n 1, 0), (19, .bipush 10, 0), (21, .idiv, 0), (22, .invokevirtual 167, 0), (25, .istore_n 2, 0), (26, .aload_n 0, 0), (27, .getfield 53, 0), (30, .iload_n 1, 0), (31, .bipush 10, 0), (33, .irem, 0), (34, .iload_n 2, 0), (35, .invokevirtual 220, 0), (38, .ireturn, 0)]
theorem cdX11_worth_ok : ∀ pc q, zk_at cdX11_worth pc = some q → decode cX11_worth pc = .ok (q.1, zk_len q.1 q.2) := zk_cd_ok (by decide +kernel)
def cdX11_thank : List (Nat × Instr × Nat) := [(0, .aload_n 0, 0), (1, .getfield 10, 0), (4, .iload_n 1, 0), (5, .invokevirtual 158, 0), (8, .ifCond .eq 14, 0), (11, .aload_n 0, 0), (12, .getfield 53, 0), (15, .iload_n 1, 0), (16, .invokevirtual 223, 0), (19, .goto 4, 0), (22, .iconst (-1), 0), (23, .ireturn, 0)]
theorem cdX11_thank_ok : ∀ pc q, zk_at cdX11_thank pc = some q → decode cX11_thank pc = .ok (q.1, zk_len q.1 q.2) := zk_cd_ok (by decide +kernel)
def cdX11_next : List (Nat × Instr × Nat) := [(0, .aload_n 0, 0), (1, .getfield 10, 0), (4, .iload_n 1, 0), (5, .invokevirtual 158, 0), (8, .ifCond .eq 10, 0), (11, .iload_n 2, 0), (12, .invokestatic 173, 0), (15, .ifCond .ne 5, 0), (18, .iconst (-1), 0), (19, .ireturn, 0), (20, .aload_n 0, 0), (21, .getfield 53, 0), (24, .iload_n 1, 0), (25, .iload_n 2, 0), (26, .invokevirtual 226, 0), (29, .ireturn, 0)]
theorem cdX11_next_ok : ∀ pc q, zk_at cdX11_next pc = some q → decode cX11_next pc = .ok (q.1, zk_len q.1 q.2) := zk_cd_ok (by decide +kernel)
def cdX11_write : List (Nat × Instr × Nat) := [(0, .aload_n 0, 0), (1, .getfield 10, 0), (4, .iload_n 1, 0), (5, .invokevirtual 229, 0), (8, .ifCond .eq 23, 0), (11, .aload_n 0, 0), (12, .getfield 10, 0), (15, .bipush 6, 0), (17, .iload_n 2, 0), (18, .invokevirtual 85, 0), (21, .ifCond .eq 10, 0), (24, .iload_n 3, 0), (25, .invokestatic 173, 0), (28, .ifCond .ne 5, 0), (31, .iconst (-1), 0), (32, .ireturn, 0), (33, .aload_n 0, 0), (34, .getfield 53, 0), (37, .iload_n 1, 0), (38, .bipush 10, 0), (40, .idiv, 0), (41, .iload_n 1, 0), (42, .bipush 10, 0), (44, .irem, 0), (45, .iload_n 2, 0), (46, .iload_n 3, 0), (47, .invokevirtual 232, 0), (50, .aload_n 0, 0), (51, .getfield 53, 0), (54, .getfield 236, 0), (57, .ireturn, 0)]
theorem cdX11_write_ok : ∀ pc q, zk_at cdX11_write pc = some q → decode cX11_write pc = .ok (q.1, zk_len q.1 q.2) := zk_cd_ok (by decide +kernel)
def cdX11_written : List (Nat × Instr × Nat) := [(0, .iload_n 3, 0), (1, .ifCond .lt 27, 0), (4, .iload_n 3, 0), (5, .bipush 10, 0), (7, .idiv, 0), (8, .invokestatic 173, 0), (11, .ifCond .eq 17, 0), (14, .iload_n 3, 0), (15, .bipush 10, 0), (17, .irem, 0), (18, .invokestatic 173, 0), (21, .ifCond .eq 7, 0), (24, .iconst 1, 0), (25, .goto 4, 0), (28, .iconst 0, 0), (29, .istore 4, 0), (31, .aload_n 0, 0), (32, .getfield 10, 0), (35, .iload_n 1, 0), (36, .invokevirtual 229, 0), (39, .ifCond .eq 21, 0), (42, .aload_n 0, 0), (43, .getfield 10, 0), (46, .bipush 6, 0), (48, .iload_n 2, 0), (49, .invokevirtual 85, 0), (52, .ifCond .eq 8, 0), (55, .iload 4, 0), (57, .ifCond .ne 7, 0), (60, .ldc2_w 176, 0), (63, .lreturn, 0), (64, .aload_n 0, 0), (65, .getfield 53, 0), (68, .iload_n 1, 0), (69, .bipush 10, 0), (71, .idiv, 0), (72, .iload_n 1, 0), (73, .bipush 10, 0), (75, .irem, 0), (76, .iload_n 2, 0), (77, .iload_n 3, 0), (78, .bipush 10, 0), (80, .idiv, 0), (81, .invokevirtual 232, 0), (84, .aload_n 0, 0), (85, .getfield 44, 0), (88, .aload_n 0, 0), (89, .getfield 53, 0), (92, .getfield 239, 0), (95, .aload_n 0, 0), (96, .getfield 53, 0), (99, .getfield 242, 0), (102, .iload_n 3, 0), (103, .bipush 10, 0), (105, .irem, 0), (106, .invokevirtual 178, 0), (109, .i2l, 0), (110, .lreturn, 0)]
theorem cdX11_written_ok : ∀ pc q, zk_at cdX11_written pc = some q → decode cX11_written pc = .ok (q.1, zk_len q.1 q.2) := zk_cd_ok (by decide +kernel)
def cdX11_looks : List (Nat × Instr × Nat) := [(0, .aload_n 0, 0), (1, .iload_n 1, 0), (2, .invokevirtual 97, 0), (5, .astore_n 3, 0), (6, .aload_n 3, 0), (7, .ifnull 20, 0), (10, .iload_n 2, 0), (11, .bipush (-2), 0), (13, .if_icmp .lt 14, 0), (16, .iload_n 2, 0), (17, .aload_n 0, 0), (18, .getfield 10, 0), (21, .getfield 89, 0), (24, .if_icmp .lt 5, 0), (27, .iconst (-1), 0), (28, .ireturn, 0), (29, .aload_n 3, 0), (30, .iconst 0, 0), (31, .invokevirtual 245, 0), (34, .istore 4, 0), (36, .iload 4, 0), (38, .ifCond .eq 6, 0), (41, .iload 4, 0), (43, .ireturn, 0), (44, .iload_n 2, 0), (45, .bipush (-2), 0), (47, .if_icmp .ne 12, 0), (50, .aload_n 0, 0), (51, .getfield 60, 0), (54, .aload_n 3, 0), (55, .invokevirtual 248, 0), (58, .ireturn, 0), (59, .aload_n 0, 0), (60, .getfield 60, 0), (63, .aload_n 3, 0), (64, .iconst 0, 0), (65, .invokevirtual 252, 0), (68, .iload_n 2, 0), (69, .iconst (-1), 0), (70, .if_icmp .ne 13, 0), (73, .aload_n 0, 0), (74, .getfield 60, 0), (77, .invokevirtual 256, 0), (80, .goto 12, 0), (83, .aload_n 0, 0), (84, .getfield 60, 0), (87, .getfield 259, 0), (90, .iload_n 2, 0), (91, .iaload, 0), (92, .ireturn, 0)]
theorem cdX11_looks_ok : ∀ pc q, zk_at cdX11_looks pc = some q → decode cX11_looks pc = .ok (q.1, zk_len q.1 q.2) := zk_cd_ok (by decide +kernel)
def cdX11_since : List (Nat × Instr × Nat) := [(0, .aload_n 0, 0), (1, .iload_n 1, 0), (2, .invokevirtual 97, 0), (5, .astore_n 3, 0), (6, .aload_n 3, 0), (7, .ifnull 16, 0), (10, .aload_n 0, 0), (11, .getfield 10, 0), (14, .bipush 6, 0), (16, .iload_n 2, 0), (17, .invokevirtual 85, 0), (20, .ifCond .ne 5, 0), (23, .iconst (-1), 0), (24, .ireturn, 0), (25, .aload_n 3, 0), (26, .iconst 0, 0), (27, .invokevirtual 245, 0), (30, .istore 4, 0), (32, .iload 4, 0), (34, .ifCond .eq 6, 0), (37, .iload 4, 0), (39, .ireturn, 0), (40, .aload_n 0, 0), (41, .getfield 60, 0), (44, .aload_n 3, 0), (45, .iload_n 2, 0), (46, .invokevirtual 252, 0), (49, .aload_n 0, 0), (50, .getfield 60, 0), (53, .invokevirtual 256, 0), (56, .ireturn, 0)]
theorem cdX11_since_ok : ∀ pc q, zk_at cdX11_since pc = some q → decode cX11_since pc = .ok (q.1, zk_len q.1 q.2) := zk_cd_ok (by decide +kernel)
def cdX11_judge : List (Nat × Instr × Nat) := [(0, .aload_n 0, 0), (1, .iload_n 1, 0), (2, .invokevirtual 97, 0), (5, .astore_n 2, 0), (6, .aload_n 2, 0), (7, .ifnonnull 5, 0), (10, .iconst (-1), 0), (11, .ireturn, 0), (12, .aload_n 2, 0), (13, .iconst 1, 0), (14, .invokevirtual 245, 0), (17, .istore_n 3, 0), (18, .iload_n 3, 0), (19, .ifCond .eq 7, 0), (22, .iload_n 3, 0), (23, .goto 11, 0), (26, .aload_n 0, 0), (27, .getfield 60, 0), (30, .aload_n 2, 0), (31, .invokevirtual 262, 0), (34, .ireturn, 0)]
theorem cdX11_judge_ok : ∀ pc q, zk_at cdX11_judge pc = some q → decode cX11_judge pc = .ok (q.1, zk_len q.1 q.2) := zk_cd_ok (by decide +kernel)
def cdX11_filled : List (Nat × Instr × Nat) := [(0, .aload_n 0, 0), (1, .iload_n 1, 0), (2, .invokevirtual 97, 0), (5, .astore_n 3, 0), (6, .aload_n 3, 0), (7, .ifnull 18, 0), (10, .iload_n 2, 0), (11, .invokestatic 173, 0), (14, .ifCond .eq 11, 0), (17, .aload_n 3, 0), (18, .iconst 1, 0), (19, .invokevirtual 104, 0), (22, .ifCond .ne 7, 0), (25, .ldc2_w 176, 0), (28, .lreturn, 0), (29, .aload_n 0, 0), (30, .getfield 60, 0), (33, .aload_n 3, 0), (34, .invokevirtual 262, 0), (37, .bipush (-2), 0), (39, .if_icmp .ne 15, 0), (42, .aload_n 0, 0), (43, .getfield 60, 0), (46, .aload_n 3, 0), (47, .iload_n 2, 0), (48, .invokevirtual 265, 0), (51, .goto 4, 0), (54, .lconst 0, 0), (55, .lreturn, 0)]
theorem cdX11_filled_ok : ∀ pc q, zk_at cdX11_filled pc = some q → decode cX11_filled pc = .ok (q.1, zk_len q.1 q.2) := zk_cd_ok (by decide +kernel)
def cdX11_hope : List (Nat × Instr × Nat) := [(0, .aload_n 0, 0), (1, .getfield 10, 0), (4, .iload_n 1, 0), (5, .invokevirtual 158, 0), (8, .ifCond .eq 10, 0), (11, .iload_n 2, 0), (12, .invokestatic 173, 0), (15, .ifCond .ne 5, 0), (18, .iconst (-1), 0), (19, .ireturn, 0), (20, .aload_n 0, 0), (21, .getfield 53, 0), (24, .iload_n 1, 0), (25, .iload_n 2, 0), (26, .invokevirtual 269, 0), (29, .ireturn, 0)]
theorem cdX11_hope_ok : ∀ pc q, zk_at cdX11_hope pc = some q → decode cX11_hope pc = .ok (q.1, zk_len q.1 q.2) := zk_cd_ok (by decide +kernel)
def cdX11_drawn : List (Nat × Instr × Nat) := [(0, .aload_n 0, 0), (1, .getfield 10, 0), (4, .iload_n 1, 0), (5, .invokevirtual 158, 0), (8, .ifCond .eq 32, 0), (11, .iload_n 3, 0), (12, .iconst 1, 0), (13, .if_icmp .lt 27, 0), (16, .iload_n 3, 0), (17, .bipush 50, 0), (19, .if_icmp .gt 21, 0), (22, .iload 4, 0), (24, .iconst (-1), 0), (25, .if_icmp .lt 15, 0), (28, .iload 4, 0), (30, .aload_n 0, 0), (31, .getfield 10, 0), (34, .getfield 89, 0), (37, .if_icmp .lt 5, 0), (40, .iconst (-1), 0), (41, .ireturn, 0), (42, .aload_n 0, 0), (43, .getfield 53, 0), (46, .iload_n 1, 0), (47, .iload_n 2, 0), (48, .iload_n 3, 0), (49, .iload 4, 0), (51, .invokevirtual 272, 0), (54, .ireturn, 0)]
theorem cdX11_drawn_ok : ∀ pc q, zk_at cdX11_drawn pc = some q → decode cX11_drawn pc = .ok (q.1, zk_len q.1 q.2) := zk_cd_ok (by decide +kernel)
def cdX11_pass : List (Nat × Instr × Nat) := [(0, .iload_n 1, 0), (1, .iconst 1, 0), (2, .if_icmp .lt 9, 0), (5, .iload_n 1, 0), (6, .bipush 99, 0), (8, .if_icmp .le 5, 0), (11, .iconst (-1), 0), (12, .ireturn, 0), (13, .aload_n 0, 0), (14, .getfield 67, 0), (17, .getfield 276, 0), (20, .iload_n 1, 0), (21, .iadd, 0), (22, .bipush 99, 0), (24, .if_icmp .le 8, 0), (27, .bipush (-5), 0), (29, .goto 11, 0), (32, .aload_n 0, 0), (33, .getfield 67, 0), (36, .iload_n 1, 0), (37, .invokevirtual 279, 0), (40, .ireturn, 0)]
theorem cdX11_pass_ok : ∀ pc q, zk_at cdX11_pass pc = some q → decode cX11_pass pc = .ok (q.1, zk_len q.1 q.2) := zk_cd_ok (by decide +kernel)
def cdX11_send : List (Nat × Instr × Nat) := [(0, .aload_n 0, 0), (1, .getfield 10, 0), (4, .iload_n 1, 0), (5, .invokevirtual 229, 0), (8, .ifCond .eq 36, 0), (11, .aload_n 0, 0), (12, .getfield 10, 0), (15, .iload_n 2, 0), (16, .invokevirtual 115, 0), (19, .ifCond .eq 25, 0), (22, .aload_n 0, 0), (23, .getfield 10, 0), (26, .iload_n 1, 0), (27, .bipush 10, 0), (29, .idiv, 0), (30, .iload_n 2, 0), (31, .aload_n 0, 0), (32, .getfield 67, 0), (35, .getfield 276, 0), (38, .invokevirtual 282, 0), (41, .ifCond .ne 5, 0), (44, .iconst (-1), 0), (45, .ireturn, 0), (46, .aload_n 0, 0), (47, .getfield 10, 0), (50, .getfield 118, 0), (53, .bipush 6, 0), (55, .if_icmp .lt 8, 0), (58, .bipush (-3), 0), (60, .goto 19, 0), (63, .aload_n 0, 0), (64, .getfield 67, 0), (67, .iload_n 1, 0), (68, .bipush 10, 0), (70, .idiv, 0), (71, .iload_n 1, 0), (72, .bipush 10, 0), (74, .irem, 0), (75, .iload_n 2, 0), (76, .invokevirtual 286, 0), (79, .ireturn, 0)]
theorem cdX11_send_ok : ∀ pc q, zk_at cdX11_send pc = some q → decode cX11_send pc = .ok (q.1, zk_len q.1 q.2) := zk_cd_ok (by decide +kernel)
def cdX11_thanked : List (Nat × Instr × Nat) := [(0, .aload_n 0, 0), (1, .getfield 10, 0), (4, .iload_n 1, 0), (5, .invokevirtual 164, 0), (8, .ifCond .ne 5, 0), (11, .iconst (-1), 0), (12, .ireturn, 0), (13, .aload_n 0, 0), (14, .getfield 67, 0), (17, .iload_n 1, 0), (18, .bipush 10, 0), (20, .idiv, 0), (21, .invokevirtual 289, 0), (24, .ifCond .eq 21, 0), (27, .aload_n 0, 0), (28, .getfield 67, 0), (31, .iload_n 1, 0), (32, .bipush 10, 0), (34, .idiv, 0), (35, .iload_n 1, 0), (36, .bipush 10, 0), (38, .irem, 0), (39, .invokevirtual 292, 0), (42, .goto 5, 0), (45, .bipush (-5), 0), (47, .ireturn, 0)]
theorem cdX11_thanked_ok : ∀ pc q, zk_at cdX11_thanked pc = some q → decode cX11_thanked pc = .ok (q.1, zk_len q.1 q.2) := zk_cd_ok (by decide +kernel)
def cdX11_led : List (Nat × Instr × Nat) := [(0, .iload_n 1, 0), (1, .tableswitch 83 0 4 #[35, 43, 59, 67, 75], 35), (36, .aload_n 0, 0), (37, .getfield 67, 0), (40, .getfield 295, 0), (43, .ireturn, 0), (44, .aload_n 0, 0), (45, .getfield 67, 0), (48, .getfield 298, 0), (51, .aload_n 0, 0), (52, .getfield 67, 0), (55, .getfield 301, 0), (58, .iadd, 0), (59, .ireturn, 0), (60, .aload_n 0, 0), (61, .getfield 67, 0), (64, .getfield 298, 0), (67, .ireturn, 0), (68, .aload_n 0, 0), (69, .getfield 67, 0), (72, .getfield 301, 0), (75, .ireturn, 0), (76, .aload_n 0, 0), (77, .getfield 67, 0), (80, .getfield 276, 0), (83, .ireturn, 0), (84, .iconst (-1), 0), (85, .ireturn, 0)]
theorem cdX11_led_ok : ∀ pc q, zk_at cdX11_led pc = some q → decode cX11_led pc = .ok (q.1, zk_len q.1 q.2) := zk_cd_ok (by decide +kernel)
def cdX11_image : List (Nat × Instr × Nat) := [(0, .aload_n 0, 0), (1, .getfield 67, 0), (4, .invokevirtual 304, 0), (7, .ireturn, 0)]
theorem cdX11_image_ok : ∀ pc q, zk_at cdX11_image pc = some q → decode cX11_image pc = .ok (q.1, zk_len q.1 q.2) := zk_cd_ok (by decide +kernel)
def cdX11_back : List (Nat × Instr × Nat) := [(0, .aload_n 0, 0), (1, .getfield 67, 0), (4, .getfield 307, 0), (7, .ifCond .eq 13, 0), (10, .aload_n 0, 0), (11, .getfield 67, 0), (14, .invokevirtual 311, 0), (17, .goto 5, 0), (20, .bipush (-5), 0), (22, .ireturn, 0)]
theorem cdX11_back_ok : ∀ pc q, zk_at cdX11_back pc = some q → decode cX11_back pc = .ok (q.1, zk_len q.1 q.2) := zk_cd_ok (by decide +kernel)
def cdX11_undo : List (Nat × Instr × Nat) := [(0, .aload_n 0, 0), (1, .getfield 21, 0), (4, .getfield 314, 0), (7, .ifCond .le 13, 0), (10, .aload_n 0, 0), (11, .getfield 21, 0), (14, .invokevirtual 317, 0), (17, .goto 5, 0), (20, .bipush (-5), 0), (22, .ireturn, 0)]
theorem cdX11_undo_ok : ∀ pc q, zk_at cdX11_undo pc = some q → decode cX11_undo pc = .ok (q.1, zk_len q.1 q.2) := zk_cd_ok (by decide +kernel)
def cdX11_redo : List (Nat × Instr × Nat) := [(0, .aload_n 0, 0), (1, .getfield 21, 0), (4, .getfield 320, 0), (7, .ifCond .le 13, 0), (10, .aload_n 0, 0), (11, .getfield 21, 0), (14, .invokevirtual 323, 0), (17, .goto 5, 0), (20, .bipush (-5), 0), (22, .ireturn, 0)]
theorem cdX11_redo_ok : ∀ pc q, zk_at cdX11_redo pc = some q → decode cX11_redo pc = .ok (q.1, zk_len q.1 q.2) := zk_cd_ok (by decide +kernel)
def cdX11_body : List (Nat × Instr × Nat) := [(0, .aload_n 0, 0), (1, .getfield 74, 0), (4, .iload_n 1, 0), (5, .invokevirtual 326, 0), (8, .ifCond .ne 5, 0), (11, .iconst (-1), 0), (12, .ireturn, 0), (13, .aload_n 0, 0), (14, .getfield 74, 0), (17, .getfield 329, 0), (20, .bipush 50, 0), (22, .if_icmp .lt 8, 0), (25, .bipush (-3), 0), (27, .goto 11, 0), (30, .aload_n 0, 0), (31, .getfield 74, 0), (34, .iload_n 1, 0), (35, .invokevirtual 330, 0), (38, .ireturn, 0)]
theorem cdX11_body_ok : ∀ pc q, zk_at cdX11_body pc = some q → decode cX11_body pc = .ok (q.1, zk_len q.1 q.2) := zk_cd_ok (by decide +kernel)
def cdX11_act : List (Nat × Instr × Nat) := [(0, .aload_n 0, 0), (1, .getfield 74, 0), (4, .iload_n 1, 0), (5, .iload_n 2, 0), (6, .iload_n 3, 0), (7, .invokevirtual 333, 0), (10, .ireturn, 0)]
theorem cdX11_act_ok : ∀ pc q, zk_at cdX11_act pc = some q → decode cX11_act pc = .ok (q.1, zk_len q.1 q.2) := zk_cd_ok (by decide +kernel)
def cdX11_trace : List (Nat × Instr × Nat) := [(0, .iload_n 1, 0), (1, .ifCond .lt 26, 0), (4, .iload_n 1, 0), (5, .aload_n 0, 0), (6, .getfield 74, 0), (9, .invokevirtual 336, 0), (12, .if_icmp .ge 15, 0), (15, .aload_n 0, 0), (16, .getfield 74, 0), (19, .getfield 339, 0), (22, .iload_n 1, 0), (23, .iaload, 0), (24, .goto 4, 0), (27, .iconst (-1), 0), (28, .ireturn, 0)]
theorem cdX11_trace_ok : ∀ pc q, zk_at cdX11_trace pc = some q → decode cX11_trace pc = .ok (q.1, zk_len q.1 q.2) := zk_cd_ok (by decide +kernel)
def cdX11_keep : List (Nat × Instr × Nat) := [(0, .aload_n 0, 0), (1, .iload_n 1, 0), (2, .invokevirtual 97, 0), (5, .astore_n 3, 0), (6, .aload_n 3, 0), (7, .ifnull 19, 0), (10, .iload_n 2, 0), (11, .iconst (-1), 0), (12, .if_icmp .eq 16, 0), (15, .aload_n 0, 0), (16, .getfield 74, 0), (19, .iload_n 2, 0), (20, .invokevirtual 342, 0), (23, .ifCond .ne 5, 0), (26, .iconst (-1), 0), (27, .ireturn, 0), (28, .aload_n 3, 0), (29, .iload_n 2, 0), (30, .invokevirtual 345, 0), (33, .iconst 1, 0), (34, .ireturn, 0)]
theorem cdX11_keep_ok : ∀ pc q, zk_at cdX11_keep pc = some q → decode cX11_keep pc = .ok (q.1, zk_len q.1 q.2) := zk_cd_ok (by decide +kernel)
def cdX11_row : List (Nat × Instr × Nat) := [(0, .aload_n 0, 0), (1, .iload_n 1, 0), (2, .invokevirtual 97, 0), (5, .astore 4, 0), (7, .aload 4, 0), (9, .ifnull 18, 0), (12, .iload_n 2, 0), (13, .ifCond .lt 14, 0), (16, .iload_n 2, 0), (17, .iconst 4, 0), (18, .if_icmp .gt 9, 0), (21, .iload_n 3, 0), (22, .bipush 60, 0), (24, .if_icmp .le 5, 0), (27, .iconst (-1), 0), (28, .ireturn, 0), (29, .iload_n 3, 0), (30, .ifCond .ge 6, 0), (33, .bipush (-14), 0), (35, .ireturn, 0), (36, .aload 4, 0), (38, .iload_n 2, 0), (39, .iload_n 3, 0), (40, .invokevirtual 349, 0), (43, .iconst 1, 0), (44, .ireturn, 0)]
theorem cdX11_row_ok : ∀ pc q, zk_at cdX11_row pc = some q → decode cX11_row pc = .ok (q.1, zk_len q.1 q.2) := zk_cd_ok (by decide +kernel)
def cdX11_put : List (Nat × Instr × Nat) := [(0, .aload_n 0, 0), (1, .iload_n 1, 0), (2, .invokevirtual 97, 0), (5, .astore 5, 0), (7, .aload 5, 0), (9, .ifnonnull 5, 0), (12, .iconst (-1), 0), (13, .ireturn, 0), (14, .aload 5, 0), (16, .iload_n 2, 0), (17, .invokevirtual 353, 0), (20, .istore 6, 0), (22, .iload 6, 0), (24, .ifCond .eq 6, 0), (27, .iload 6, 0), (29, .ireturn, 0), (30, .aload 5, 0), (32, .getfield 356, 1), (35, .iload_n 2, 0), (36, .aload 5, 0), (38, .lload_n 3, 0), (39, .invokevirtual 360, 0), (42, .lastore, 0), (43, .iconst 1, 0), (44, .ireturn, 0)]
theorem cdX11_put_ok : ∀ pc q, zk_at cdX11_put pc = some q → decode cX11_put pc = .ok (q.1, zk_len q.1 q.2) := zk_cd_ok (by decide +kernel)
def cdX11_element : List (Nat × Instr × Nat) := [(0, .aload_n 0, 0), (1, .iload_n 1, 0), (2, .invokevirtual 97, 0), (5, .astore_n 3, 0), (6, .aload_n 3, 0), (7, .ifnull 11, 0), (10, .aload_n 3, 0), (11, .iload_n 2, 0), (12, .invokevirtual 353, 0), (15, .ifCond .eq 9, 0), (18, .ldc2_w 176, 0), (21, .goto 9, 0), (24, .aload_n 3, 0), (25, .getfield 356, 1), (28, .iload_n 2, 0), (29, .laload, 0), (30, .lreturn, 0)]
theorem cdX11_element_ok : ∀ pc q, zk_at cdX11_element pc = some q → decode cX11_element pc = .ok (q.1, zk_len q.1 q.2) := zk_cd_ok (by decide +kernel)
def cdX11_shift : List (Nat × Instr × Nat) := [(0, .aload_n 0, 0), (1, .iload_n 1, 0), (2, .invokevirtual 97, 0), (5, .astore 6, 0), (7, .aload_n 0, 0), (8, .iload_n 3, 0), (9, .invokevirtual 97, 0), (12, .astore 7, 0), (14, .aload 6, 0), (16, .ifnull 8, 0), (19, .aload 7, 0), (21, .ifnonnull 5, 0), (24, .iconst (-1), 0), (25, .ireturn, 0), (26, .aload 6, 0), (28, .getfield 101, 0), (31, .ifCond .eq 11, 0), (34, .aload 7, 0), (36, .getfield 101, 0), (39, .ifCond .ne 6, 0), (42, .bipush (-11), 0), (44, .ireturn, 0), (45, .aload 6, 0), (47, .getfield 101, 0), (50, .iconst 2, 0), (51, .if_icmp .ne 16, 0), (54, .aload 7, 0), (56, .aload 6, 0), (58, .getfield 364, 0), (61, .invokevirtual 104, 0), (64, .ifCond .ne 6, 0), (67, .bipush (-12), 0), (69, .ireturn, 0), (70, .aload 6, 0), (72, .iload_n 2, 0), (73, .iload 5, 0), (75, .invokevirtual 367, 0), (78, .ifCond .eq 15, 0), (81, .aload 7, 0), (83, .iload 4, 0), (85, .iload 5, 0), (87, .invokevirtual 367, 0), (90, .ifCond .ne 6, 0), (93, .bipush (-13), 0), (95, .ireturn, 0), (96, .aload 6, 0), (98, .getfield 356, 1), (101, .iload_n 2, 0), (102, .aload 7, 0), (104, .getfield 356, 1), (107, .iload 4, 0), (109, .iload 5, 0), (111, .invokestatic 370, 1), (114, .iload 5, 0), (116, .ireturn, 0)]
theorem cdX11_shift_ok : ∀ pc q, zk_at cdX11_shift pc = some q → decode cX11_shift pc = .ok (q.1, zk_len q.1 q.2) := zk_cd_ok (by decide +kernel)
def cdX11_taken : List (Nat × Instr × Nat) := [(0, .aload_n 0, 0), (1, .iload_n 1, 0), (2, .invokevirtual 97, 0), (5, .astore_n 3, 0), (6, .aload_n 3, 0), (7, .ifnull 14, 0), (10, .aload_n 0, 0), (11, .getfield 74, 0), (14, .iload_n 2, 0), (15, .invokevirtual 326, 0), (18, .ifCond .ne 5, 0), (21, .iconst (-1), 0), (22, .ireturn, 0), (23, .aload_n 3, 0), (24, .getfield 101, 0), (27, .ifCond .ne 6, 0), (30, .bipush (-11), 0), (32, .ireturn, 0), (33, .aload_n 3, 0), (34, .getfield 101, 0), (37, .iconst 1, 0), (38, .if_icmp .ne 22, 0), (41, .aload_n 0, 0), (42, .getfield 74, 0), (45, .aload_n 3, 0), (46, .getfield 376, 0), (49, .iload_n 2, 0), (50, .invokevirtual 379, 0), (53, .ifCond .eq 7, 0), (56, .iconst 1, 0), (57, .goto 4, 0), (60, .iconst 0, 0), (61, .istore 4, 0), (63, .iload 4, 0), (65, .ifCond .eq 18, 0), (68, .aload_n 0, 0), (69, .getfield 74, 0), (72, .getfield 382, 0), (75, .aload_n 3, 0), (76, .getfield 376, 0), (79, .iaload, 0), (80, .goto 5, 0), (83, .bipush (-12), 0), (85, .ireturn, 0)]
theorem cdX11_taken_ok : ∀ pc q, zk_at cdX11_taken pc = some q → decode cX11_taken pc = .ok (q.1, zk_len q.1 q.2) := zk_cd_ok (by decide +kernel)
def cdX11_count : List (Nat × Instr × Nat) := [(0, .iload_n 1, 0), (1, .tableswitch 87 0 5 #[39, 47, 55, 63, 71, 79], 39), (40, .aload_n 0, 0), (41, .getfield 10, 0), (44, .getfield 89, 0), (47, .ireturn, 0), (48, .aload_n 0, 0), (49, .getfield 10, 0), (52, .getfield 118, 0), (55, .ireturn, 0), (56, .aload_n 0, 0), (57, .getfield 28, 0), (60, .getfield 136, 0), (63, .ireturn, 0), (64, .aload_n 0, 0), (65, .getfield 21, 0), (68, .getfield 314, 0), (71, .ireturn, 0), (72, .aload_n 0, 0), (73, .getfield 74, 0), (76, .getfield 329, 0), (79, .ireturn, 0), (80, .aload_n 0, 0), (81, .getfield 74, 0), (84, .getfield 385, 0), (87, .ireturn, 0), (88, .iconst (-1), 0), (89, .ireturn, 0)]
theorem cdX11_count_ok : ∀ pc q, zk_at cdX11_count pc = some q → decode cX11_count pc = .ok (q.1, zk_len q.1 q.2) := zk_cd_ok (by decide +kernel)
def cdX11_shelfAt : List (Nat × Instr × Nat) := [(0, .iload_n 1, 0), (1, .ifCond .lt 18, 0), (4, .iload_n 1, 0), (5, .bipush 6, 0), (7, .if_icmp .ge 12, 0), (10, .aload_n 0, 0), (11, .getfield 80, 0), (14, .iload_n 1, 0), (15, .aaload, 2), (16, .goto 4, 0), (19, .aconst_null, 0), (20, .areturn, 0)]
theorem cdX11_shelfAt_ok : ∀ pc q, zk_at cdX11_shelfAt pc = some q → decode cX11_shelfAt pc = .ok (q.1, zk_len q.1 q.2) := zk_cd_ok (by decide +kernel)
def cdX11_isZeroOrOne : List (Nat × Instr × Nat) := [(0, .iload_n 0, 0), (1, .ifCond .eq 8, 0), (4, .iload_n 0, 0), (5, .iconst 1, 0), (6, .if_icmp .ne 7, 0), (9, .iconst 1, 0), (10, .goto 4, 0), (13, .iconst 0, 0), (14, .ireturn, 0)]
theorem cdX11_isZeroOrOne_ok : ∀ pc q, zk_at cdX11_isZeroOrOne pc = some q → decode cX11_isZeroOrOne pc = .ok (q.1, zk_len q.1 q.2) := zk_cd_ok (by decide +kernel)
def cdX12_within : List (Nat × Instr × Nat) := [(0, .iload_n 0, 0), (1, .iload_n 1, 0), (2, .if_icmp .lt 12, 0), (5, .iload_n 0, 0), (6, .iload_n 2, 0), (7, .if_icmp .gt 7, 0), (10, .iconst 1, 0), (11, .goto 4, 0), (14, .iconst 0, 0), (15, .ireturn, 0)]
theorem cdX12_within_ok : ∀ pc q, zk_at cdX12_within pc = some q → decode cX12_within pc = .ok (q.1, zk_len q.1 q.2) := zk_cd_ok (by decide +kernel)
def cdX12_isOne : List (Nat × Instr × Nat) := [(0, .iload_n 1, 0), (1, .iconst 0, 0), (2, .aload_n 0, 0), (3, .getfield 121, 0), (6, .iconst 1, 0), (7, .isub, 0), (8, .invokestatic 125, 0), (11, .ireturn, 0)]
theorem cdX12_isOne_ok : ∀ pc q, zk_at cdX12_isOne pc = some q → decode cX12_isOne pc = .ok (q.1, zk_len q.1 q.2) := zk_cd_ok (by decide +kernel)
def cdX12_isCard : List (Nat × Instr × Nat) := [(0, .iload_n 1, 0), (1, .iconst 0, 0), (2, .aload_n 0, 0), (3, .getfield 129, 0), (6, .iconst 1, 0), (7, .isub, 0), (8, .invokestatic 125, 0), (11, .ireturn, 0)]
theorem cdX12_isCard_ok : ∀ pc q, zk_at cdX12_isCard pc = some q → decode cX12_isCard pc = .ok (q.1, zk_len q.1 q.2) := zk_cd_ok (by decide +kernel)
def cdX12_isCardOf : List (Nat × Instr × Nat) := [(0, .iload_n 1, 0), (1, .ifCond .lt 29, 0), (4, .aload_n 0, 0), (5, .iload_n 1, 0), (6, .bipush 10, 0), (8, .idiv, 0), (9, .invokevirtual 132, 0), (12, .ifCond .eq 18, 0), (15, .aload_n 0, 0), (16, .iload_n 1, 0), (17, .bipush 10, 0), (19, .irem, 0), (20, .invokevirtual 136, 0), (23, .ifCond .eq 7, 0), (26, .iconst 1, 0), (27, .goto 4, 0), (30, .iconst 0, 0), (31, .ireturn, 0)]
theorem cdX12_isCardOf_ok : ∀ pc q, zk_at cdX12_isCardOf pc = some q → decode cX12_isCardOf pc = .ok (q.1, zk_len q.1 q.2) := zk_cd_ok (by decide +kernel)
def cdX12_areTwo : List (Nat × Instr × Nat) := [(0, .iload_n 1, 0), (1, .ifCond .lt 40, 0), (4, .aload_n 0, 0), (5, .iload_n 1, 0), (6, .bipush 10, 0), (8, .idiv, 0), (9, .invokevirtual 136, 0), (12, .ifCond .eq 29, 0), (15, .aload_n 0, 0), (16, .iload_n 1, 0), (17, .bipush 10, 0), (19, .irem, 0), (20, .invokevirtual 136, 0), (23, .ifCond .eq 18, 0), (26, .iload_n 1, 0), (27, .bipush 10, 0), (29, .idiv, 0), (30, .iload_n 1, 0), (31, .bipush 10, 0), (33, .irem, 0), (34, .if_icmp .eq 7, 0), (37, .iconst 1, 0), (38, .goto 4, 0), (41, .iconst 0, 0), (42, .ireturn, 0)]
theorem cdX12_areTwo_ok : ∀ pc q, zk_at cdX12_areTwo pc = some q → decode cX12_areTwo pc = .ok (q.1, zk_len q.1 q.2) := zk_cd_ok (by decide +kernel)
def cdX12_areCards : List (Nat × Instr × Nat) := [(0, .iload_n 1, 0), (1, .iconst 0, 0), (2, .iconst 1, 0), (3, .aload_n 0, 0), (4, .getfield 129, 0), (7, .ishl, 0), (8, .iconst 1, 0), (9, .isub, 0), (10, .invokestatic 125, 0), (13, .ireturn, 0)]
theorem cdX12_areCards_ok : ∀ pc q, zk_at cdX12_areCards pc = some q → decode cX12_areCards pc = .ok (q.1, zk_len q.1 q.2) := zk_cd_ok (by decide +kernel)
def cdX12_isMinute : List (Nat × Instr × Nat) := [(0, .iload_n 0, 0), (1, .iconst 0, 0), (2, .bipush 99, 0), (4, .invokestatic 125, 0), (7, .ireturn, 0)]
theorem cdX12_isMinute_ok : ∀ pc q, zk_at cdX12_isMinute pc = some q → decode cX12_isMinute pc = .ok (q.1, zk_len q.1 q.2) := zk_cd_ok (by decide +kernel)
def cdX12_isWay : List (Nat × Instr × Nat) := [(0, .iload_n 0, 0), (1, .ifCond .lt 35, 0), (4, .iload_n 0, 0), (5, .bipush 100, 0), (7, .idiv, 0), (8, .bipush 9, 0), (10, .if_icmp .ge 26, 0), (13, .iload_n 0, 0), (14, .bipush 10, 0), (16, .idiv, 0), (17, .bipush 10, 0), (19, .irem, 0), (20, .iconst 5, 0), (21, .if_icmp .ge 15, 0), (24, .iload_n 0, 0), (25, .bipush 10, 0), (27, .irem, 0), (28, .iconst 2, 0), (29, .if_icmp .ge 7, 0), (32, .iconst 1, 0), (33, .goto 4, 0), (36, .iconst 0, 0), (37, .ireturn, 0)]
theorem cdX12_isWay_ok : ∀ pc q, zk_at cdX12_isWay pc = some q → decode cX12_isWay pc = .ok (q.1, zk_len q.1 q.2) := zk_cd_ok (by decide +kernel)
def cdX12_isSecret : List (Nat × Instr × Nat) := [(0, .iload_n 0, 0), (1, .iconst 0, 0), (2, .bipush 7, 0), (4, .invokestatic 125, 0), (7, .ireturn, 0)]
theorem cdX12_isSecret_ok : ∀ pc q, zk_at cdX12_isSecret pc = some q → decode cX12_isSecret pc = .ok (q.1, zk_len q.1 q.2) := zk_cd_ok (by decide +kernel)
def cdX12_isShelf : List (Nat × Instr × Nat) := [(0, .iload_n 0, 0), (1, .iconst 0, 0), (2, .iconst 5, 0), (3, .invokestatic 125, 0), (6, .ireturn, 0)]
theorem cdX12_isShelf_ok : ∀ pc q, zk_at cdX12_isShelf pc = some q → decode cX12_isShelf pc = .ok (q.1, zk_len q.1 q.2) := zk_cd_ok (by decide +kernel)
def cdX12_has : List (Nat × Instr × Nat) := [(0, .iload_n 0, 0), (1, .iload_n 1, 0), (2, .ishr, 0), (3, .iconst 1, 0), (4, .iand, 0), (5, .iconst 1, 0), (6, .if_icmp .ne 7, 0), (9, .iconst 1, 0), (10, .goto 4, 0), (13, .iconst 0, 0), (14, .ireturn, 0)]
theorem cdX12_has_ok : ∀ pc q, zk_at cdX12_has pc = some q → decode cX12_has pc = .ok (q.1, zk_len q.1 q.2) := zk_cd_ok (by decide +kernel)
def cdX12_newPerson : List (Nat × Instr × Nat) := [(0, .aload_n 0, 0), (1, .getfield 9, 0), (4, .aload_n 0, 0), (5, .getfield 121, 0), (8, .iconst 0, 0), (9, .iastore, 0), (10, .aload_n 0, 0), (11, .getfield 15, 0), (14, .aload_n 0, 0), (15, .getfield 121, 0), (18, .bipush 99, 0), (20, .iastore, 0), (21, .aload_n 0, 0), (22, .getfield 18, 0), (25, .aload_n 0, 0), (26, .getfield 121, 0), (29, .iload_n 1, 0), (30, .iastore, 0), (31, .aload_n 0, 0), (32, .getfield 21, 0), (35, .aload_n 0, 0), (36, .getfield 121, 0), (39, .iconst 0, 0), (40, .iastore, 0), (41, .aload_n 0, 0), (42, .getfield 24, 0), (45, .aload_n 0, 0), (46, .getfield 121, 0), (49, .iload_n 2, 0), (50, .iastore, 0), (51, .aload_n 0, 0), (52, .getfield 27, 0), (55, .aload_n 0, 0), (56, .getfield 121, 0), (59, .iload_n 3, 0), (60, .iastore, 0), (61, .aload_n 0, 0), (62, .dup, 0), (63, .getfield 121, 0), (66, .dup_x1, 0), (67, .iconst 1, 0), (68, .iadd, 0), (69, .putfield 121, 0), (72, .ireturn, 0)]
theorem cdX12_newPerson_ok : ∀ pc q, zk_at cdX12_newPerson pc = some q → decode cX12_newPerson pc = .ok (q.1, zk_len q.1 q.2) := zk_cd_ok (by decide +kernel)
def cdX12_person : List (Nat × Instr × Nat) := [(0, .iload_n 1, 0), (1, .iconst 0, 0), (2, .iconst 3, 0), (3, .invokestatic 125, 0), (6, .ifCond .ne 5, 0), (9, .iconst (-1), 0), (10, .ireturn, 0), (11, .aload_n 0, 0), (12, .getfield 121, 0), (15, .bipush 8, 0), (17, .if_icmp .ne 8, 0), (20, .bipush (-3), 0), (22, .goto 10, 0), (25, .aload_n 0, 0), (26, .iload_n 1, 0), (27, .iconst 0, 0), (28, .iconst 0, 0), (29, .invokevirtual 139, 0), (32, .ireturn, 0)]
theorem cdX12_person_ok : ∀ pc q, zk_at cdX12_person pc = some q → decode cX12_person pc = .ok (q.1, zk_len q.1 q.2) := zk_cd_ok (by decide +kernel)
def cdX12_people : List (Nat × Instr × Nat) := [(0, .iload_n 1, 0), (1, .invokestatic 143, 0), (4, .ifCond .eq 13, 0), (7, .iload_n 3, 0), (8, .iconst 1, 0), (9, .bipush 8, 0), (11, .invokestatic 125, 0), (14, .ifCond .ne 5, 0), (17, .iconst (-1), 0), (18, .ireturn, 0), (19, .aload_n 0, 0), (20, .getfield 105, 0), (23, .iload_n 1, 0), (24, .iaload, 0), (25, .iconst (-1), 0), (26, .if_icmp .ne 5, 0), (29, .iconst 0, 0), (30, .ireturn, 0), (31, .aload_n 0, 0), (32, .getfield 105, 0), (35, .iload_n 1, 0), (36, .iaload, 0), (37, .iconst 1, 0), (38, .if_icmp .eq 6, 0), (41, .bipush (-12), 0), (43, .ireturn, 0), (44, .iconst 0, 0), (45, .istore 4, 0), (47, .iconst 0, 0), (48, .istore 5, 0), (50, .iload 5, 0), (52, .iload_n 3, 0), (53, .if_icmp .ge 162, 0), (56, .iload_n 2, 0), (57, .i2l, 0), (58, .ldc2_w 146, 0), (61, .iload 5, 0), (63, .i2l, 0), (64, .lmul, 0), (65, .ladd, 0), (66, .lstore 6, 0), (68, .lload 6, 0), (70, .lconst 0, 0), (71, .lcmp, 0), (72, .ifCond .lt 29, 0), (75, .lload 6, 0), (77, .ldc2_w 146, 0), (80, .ladd, 0), (81, .aload_n 0, 0), (82, .getfield 108, 0), (85, .iload_n 1, 0), (86, .iaload, 0), (87, .i2l, 0), (88, .lcmp, 0), (89, .ifCond .gt 12, 0), (92, .aload_n 0, 0), (93, .getfield 121, 0), (96, .bipush 8, 0), (98, .if_icmp .ne 6, 0), (101, .iload 4, 0), (103, .ireturn, 0), (104, .bipush 60, 0), (106, .iload_n 1, 0), (107, .imul, 0), (108, .lload 6, 0), (110, .l2i, 0), (111, .iadd, 0), (112, .istore 8, 0), (114, .aload_n 0, 0), (115, .getfield 111, 0), (118, .iload 8, 0), (120, .laload, 0), (121, .l2i, 0), (122, .iconst 0, 0), (123, .iconst 3, 0), (124, .invokestatic 125, 0), (127, .ifCond .eq 43, 0), (130, .aload_n 0, 0), (131, .getfield 111, 0), (134, .iload 8, 0), (136, .iconst 1, 0), (137, .iadd, 0), (138, .laload, 0), (139, .l2i, 0), (140, .iconst 0, 0), (141, .sipush 255, 0), (144, .invokestatic 125, 0), (147, .ifCond .eq 23, 0), (150, .aload_n 0, 0), (151, .getfield 111, 0), (154, .iload 8, 0), (156, .iconst 2, 0), (157, .iadd, 0), (158, .laload, 0), (159, .l2i, 0), (160, .iconst 0, 0), (161, .sipush 255, 0), (164, .invokestatic 125, 0), (167, .ifCond .ne 6, 0), (170, .iload 4, 0), (172, .ireturn, 0), (173, .aload_n 0, 0), (174, .aload_n 0, 0), (175, .getfield 111, 0), (178, .iload 8, 0), (180, .laload, 0), (181, .l2i, 0), (182, .aload_n 0, 0), (183, .getfield 111, 0), (186, .iload 8, 0), (188, .iconst 1, 0), (189, .iadd, 0), (190, .laload, 0), (191, .l2i, 0), (192, .aload_n 0, 0), (193, .getfield 111, 0), (196, .iload 8, 0), (198, .iconst 2, 0), (199, .iadd, 0), (200, .laload, 0), (201, .l2i, 0), (202, .invokevirtual 139, 0), (205, .pop, 0), (206, .iinc 4 1, 0), (209, .iinc 5 1, 0), (212, .goto (-162), 0), (215, .iload 4, 0), (217, .ireturn, 0)]
theorem cdX12_people_ok : ∀ pc q, zk_at cdX12_people pc = some q → decode cX12_people pc = .ok (q.1, zk_len q.1 q.2) := zk_cd_ok (by decide +kernel)
def cdX12_newCard : List (Nat × Instr × Nat) := [(0, .aload_n 0, 0), (1, .getfield 30, 0), (4, .aload_n 0, 0), (5, .getfield 129, 0), (8, .iload_n 1, 0), (9, .iastore, 0), (10, .aload_n 0, 0), (11, .getfield 33, 0), (14, .aload_n 0, 0), (15, .getfield 129, 0), (18, .iload_n 2, 0), (19, .iastore, 0), (20, .aload_n 0, 0), (21, .aload_n 0, 0), (22, .getfield 129, 0), (25, .iload_n 3, 0), (26, .invokevirtual 148, 0), (29, .aload_n 0, 0), (30, .getfield 45, 0), (33, .aload_n 0, 0), (34, .getfield 129, 0), (37, .bipush (-2), 0), (39, .iastore, 0), (40, .aload_n 0, 0), (41, .getfield 48, 0), (44, .aload_n 0, 0), (45, .getfield 129, 0), (48, .bipush (-2), 0), (50, .iastore, 0), (51, .aload_n 0, 0), (52, .dup, 0), (53, .getfield 129, 0), (56, .dup_x1, 0), (57, .iconst 1, 0), (58, .iadd, 0), (59, .putfield 129, 0), (62, .ireturn, 0)]
theorem cdX12_newCard_ok : ∀ pc q, zk_at cdX12_newCard pc = some q → decode cX12_newCard pc = .ok (q.1, zk_len q.1 q.2) := zk_cd_ok (by decide +kernel)
def cdX12_tells : List (Nat × Instr × Nat) := [(0, .aload_n 0, 0), (1, .getfield 39, 0), (4, .iload_n 1, 0), (5, .iload_n 2, 0), (6, .bipush 100, 0), (8, .idiv, 0), (9, .iconst 1, 0), (10, .isub, 0), (11, .iastore, 0), (12, .aload_n 0, 0), (13, .getfield 36, 0), (16, .iload_n 1, 0), (17, .iload_n 2, 0), (18, .bipush 10, 0), (20, .idiv, 0), (21, .bipush 10, 0), (23, .irem, 0), (24, .iconst 1, 0), (25, .isub, 0), (26, .iastore, 0), (27, .aload_n 0, 0), (28, .getfield 42, 0), (31, .iload_n 1, 0), (32, .iload_n 2, 0), (33, .bipush 10, 0), (35, .irem, 0), (36, .iastore, 0), (37, .return_, 0)]
theorem cdX12_tells_ok : ∀ pc q, zk_at cdX12_tells pc = some q → decode cX12_tells pc = .ok (q.1, zk_len q.1 q.2) := zk_cd_ok (by decide +kernel)
def cdX12_card : List (Nat × Instr × Nat) := [(0, .iload_n 1, 0), (1, .ifCond .lt 21, 0), (4, .aload_n 0, 0), (5, .iload_n 1, 0), (6, .bipush 100, 0), (8, .idiv, 0), (9, .invokevirtual 136, 0), (12, .ifCond .eq 10, 0), (15, .iload_n 2, 0), (16, .invokestatic 152, 0), (19, .ifCond .ne 5, 0), (22, .iconst (-1), 0), (23, .ireturn, 0), (24, .aload_n 0, 0), (25, .getfield 129, 0), (28, .bipush 6, 0), (30, .if_icmp .ne 8, 0), (33, .bipush (-3), 0), (35, .goto 16, 0), (38, .aload_n 0, 0), (39, .iload_n 1, 0), (40, .bipush 100, 0), (42, .idiv, 0), (43, .iload_n 1, 0), (44, .bipush 100, 0), (46, .irem, 0), (47, .iload_n 2, 0), (48, .invokevirtual 155, 0), (51, .ireturn, 0)]
theorem cdX12_card_ok : ∀ pc q, zk_at cdX12_card pc = some q → decode cX12_card pc = .ok (q.1, zk_len q.1 q.2) := zk_cd_ok (by decide +kernel)
def cdX12_isOf : List (Nat × Instr × Nat) := [(0, .iload_n 2, 0), (1, .iconst 0, 0), (2, .iconst 5, 0), (3, .invokestatic 125, 0), (6, .ifCond .eq 9, 0), (9, .aload_n 0, 0), (10, .iload_n 1, 0), (11, .invokevirtual 136, 0), (14, .ireturn, 0), (15, .iload_n 2, 0), (16, .bipush 6, 0), (18, .bipush 9, 0), (20, .invokestatic 125, 0), (23, .ifCond .eq 11, 0), (26, .aload_n 0, 0), (27, .iload_n 1, 0), (28, .invokevirtual 132, 0), (31, .goto 23, 0), (34, .iload_n 2, 0), (35, .bipush 10, 0), (37, .bipush 12, 0), (39, .invokestatic 125, 0), (42, .ifCond .eq 11, 0), (45, .iload_n 1, 0), (46, .ifCond .ne 7, 0), (49, .iconst 1, 0), (50, .goto 4, 0), (53, .iconst 0, 0), (54, .ireturn, 0)]
theorem cdX12_isOf_ok : ∀ pc q, zk_at cdX12_isOf pc = some q → decode cX12_isOf pc = .ok (q.1, zk_len q.1 q.2) := zk_cd_ok (by decide +kernel)
def cdX12_isFit : List (Nat × Instr × Nat) := [(0, .iload_n 0, 0), (1, .tableswitch 118 0 10 #[59, 59, 64, 71, 79, 79, 59, 88, 95, 103, 110], 59), (60, .iload_n 1, 0), (61, .invokestatic 158, 0), (64, .ireturn, 0), (65, .iload_n 1, 0), (66, .iconst 0, 0), (67, .iconst 3, 0), (68, .invokestatic 125, 0), (71, .ireturn, 0), (72, .iload_n 1, 0), (73, .iconst 0, 0), (74, .bipush 9, 0), (76, .invokestatic 125, 0), (79, .ireturn, 0), (80, .iload_n 1, 0), (81, .iconst 0, 0), (82, .sipush 255, 0), (85, .invokestatic 125, 0), (88, .ireturn, 0), (89, .iload_n 1, 0), (90, .iconst (-1), 0), (91, .iconst 3, 0), (92, .invokestatic 125, 0), (95, .ireturn, 0), (96, .iload_n 1, 0), (97, .iconst (-1), 0), (98, .bipush 7, 0), (100, .invokestatic 125, 0), (103, .ireturn, 0), (104, .iload_n 1, 0), (105, .iconst 0, 0), (106, .iconst 1, 0), (107, .invokestatic 125, 0), (110, .ireturn, 0), (111, .iload_n 1, 0), (112, .iconst 0, 0), (113, .bipush 12, 0), (115, .invokestatic 125, 0), (118, .ireturn, 0), (119, .iload_n 1, 0), (120, .iconst 0, 0), (121, .bipush 99, 0), (123, .invokestatic 125, 0), (126, .ireturn, 0)]
theorem cdX12_isFit_ok : ∀ pc q, zk_at cdX12_isFit pc = some q → decode cX12_isFit pc = .ok (q.1, zk_len q.1 q.2) := zk_cd_ok (by decide +kernel)
def cdX12_get : List (Nat × Instr × Nat) := [(0, .iload_n 2, 0), (1, .tableswitch 125 0 9 #[55, 62, 69, 76, 83, 90, 97, 104, 111, 118], 55), (56, .aload_n 0, 0), (57, .getfield 9, 0), (60, .iload_n 1, 0), (61, .iaload, 0), (62, .ireturn, 0), (63, .aload_n 0, 0), (64, .getfield 15, 0), (67, .iload_n 1, 0), (68, .iaload, 0), (69, .ireturn, 0), (70, .aload_n 0, 0), (71, .getfield 18, 0), (74, .iload_n 1, 0), (75, .iaload, 0), (76, .ireturn, 0), (77, .aload_n 0, 0), (78, .getfield 21, 0), (81, .iload_n 1, 0), (82, .iaload, 0), (83, .ireturn, 0), (84, .aload_n 0, 0), (85, .getfield 24, 0), (88, .iload_n 1, 0), (89, .iaload, 0), (90, .ireturn, 0), (91, .aload_n 0, 0), (92, .getfield 27, 0), (95, .iload_n 1, 0), (96, .iaload, 0), (97, .ireturn, 0), (98, .aload_n 0, 0), (99, .getfield 33, 0), (102, .iload_n 1, 0), (103, .iaload, 0), (104, .ireturn, 0), (105, .aload_n 0, 0), (106, .getfield 36, 0), (109, .iload_n 1, 0), (110, .iaload, 0), (111, .ireturn, 0), (112, .aload_n 0, 0), (113, .getfield 39, 0), (116, .iload_n 1, 0), (117, .iaload, 0), (118, .ireturn, 0), (119, .aload_n 0, 0), (120, .getfield 42, 0), (123, .iload_n 1, 0), (124, .iaload, 0), (125, .ireturn, 0), (126, .aload_n 0, 0), (127, .getfield 51, 0), (130, .iload_n 2, 0), (131, .bipush 10, 0), (133, .isub, 0), (134, .iaload, 0), (135, .ireturn, 0)]
theorem cdX12_get_ok : ∀ pc q, zk_at cdX12_get pc = some q → decode cX12_get pc = .ok (q.1, zk_len q.1 q.2) := zk_cd_ok (by decide +kernel)
def cdX12_becomes : List (Nat × Instr × Nat) := [(0, .iload_n 2, 0), (1, .tableswitch 135 0 9 #[55, 63, 71, 79, 87, 95, 103, 111, 119, 127], 55), (56, .aload_n 0, 0), (57, .getfield 9, 0), (60, .iload_n 1, 0), (61, .iload_n 3, 0), (62, .iastore, 0), (63, .return_, 0), (64, .aload_n 0, 0), (65, .getfield 15, 0), (68, .iload_n 1, 0), (69, .iload_n 3, 0), (70, .iastore, 0), (71, .return_, 0), (72, .aload_n 0, 0), (73, .getfield 18, 0), (76, .iload_n 1, 0), (77, .iload_n 3, 0), (78, .iastore, 0), (79, .return_, 0), (80, .aload_n 0, 0), (81, .getfield 21, 0), (84, .iload_n 1, 0), (85, .iload_n 3, 0), (86, .iastore, 0), (87, .return_, 0), (88, .aload_n 0, 0), (89, .getfield 24, 0), (92, .iload_n 1, 0), (93, .iload_n 3, 0), (94, .iastore, 0), (95, .return_, 0), (96, .aload_n 0, 0), (97, .getfield 27, 0), (100, .iload_n 1, 0), (101, .iload_n 3, 0), (102, .iastore, 0), (103, .return_, 0), (104, .aload_n 0, 0), (105, .getfield 33, 0), (108, .iload_n 1, 0), (109, .iload_n 3, 0), (110, .iastore, 0), (111, .return_, 0), (112, .aload_n 0, 0), (113, .getfield 36, 0), (116, .iload_n 1, 0), (117, .iload_n 3, 0), (118, .iastore, 0), (119, .return_, 0), (120, .aload_n 0, 0), (121, .getfield 39, 0), (124, .iload_n 1, 0), (125, .iload_n 3, 0), (126, .iastore, 0), (127, .return_, 0), (128, .aload_n 0, 0), (129, .getfield 42, 0), (132, .iload_n 1, 0), (133, .iload_n 3, 0), (134, .iastore, 0), (135, .return_, 0), (136, .aload_n 0, 0), (137, .getfield 51, 0), (140, .iload_n 2, 0), (141, .bipush 10, 0), (143, .isub, 0), (144, .iload_n 3, 0), (145, .iastore, 0), (146, .return_, 0)]
theorem cdX12_becomes_ok : ∀ pc q, zk_at cdX12_becomes pc = some q → decode cX12_becomes pc = .ok (q.1, zk_len q.1 q.2) := zk_cd_ok (by decide +kernel)
def cdX12_mend : List (Nat × Instr × Nat) := [(0, .aload_n 0, 0), (1, .iload_n 1, 0), (2, .iload_n 2, 0), (3, .invokevirtual 161, 0), (6, .ifCond .eq 11, 0), (9, .iload_n 2, 0), (10, .iload_n 3, 0), (11, .invokestatic 165, 0), (14, .ifCond .ne 6, 0), (17, .ldc 168, 0), (19, .ireturn, 0), (20, .aload_n 0, 0), (21, .iload_n 1, 0), (22, .iload_n 2, 0), (23, .invokevirtual 169, 0), (26, .istore 4, 0), (28, .iload 4, 0), (30, .iload_n 3, 0), (31, .if_icmp .ne 6, 0), (34, .iload 4, 0), (36, .ireturn, 0), (37, .aload_n 0, 0), (38, .iload_n 1, 0), (39, .iload_n 2, 0), (40, .iload_n 3, 0), (41, .invokevirtual 173, 0), (44, .aload_n 0, 0), (45, .getfield 177, 0), (48, .bipush 40, 0), (50, .if_icmp .ne 46, 0), (53, .iconst 0, 0), (54, .istore 5, 0), (56, .iload 5, 0), (58, .sipush 156, 0), (61, .if_icmp .ge 25, 0), (64, .aload_n 0, 0), (65, .getfield 96, 0), (68, .iload 5, 0), (70, .aload_n 0, 0), (71, .getfield 96, 0), (74, .iload 5, 0), (76, .iconst 4, 0), (77, .iadd, 0), (78, .iaload, 0), (79, .iastore, 0), (80, .iinc 5 1, 0), (83, .goto (-27), 0), (86, .aload_n 0, 0), (87, .dup, 0), (88, .getfield 177, 0), (91, .iconst 1, 0), (92, .isub, 0), (93, .putfield 177, 0), (96, .aload_n 0, 0), (97, .getfield 96, 0), (100, .iconst 4, 0), (101, .aload_n 0, 0), (102, .getfield 177, 0), (105, .imul, 0), (106, .iload_n 1, 0), (107, .iastore, 0), (108, .aload_n 0, 0), (109, .getfield 96, 0), (112, .iconst 4, 0), (113, .aload_n 0, 0), (114, .getfield 177, 0), (117, .imul, 0), (118, .iconst 1, 0), (119, .iadd, 0), (120, .iload_n 2, 0), (121, .iastore, 0), (122, .aload_n 0, 0), (123, .getfield 96, 0), (126, .iconst 4, 0), (127, .aload_n 0, 0), (128, .getfield 177, 0), (131, .imul, 0), (132, .iconst 2, 0), (133, .iadd, 0), (134, .iload 4, 0), (136, .iastore, 0), (137, .aload_n 0, 0), (138, .getfield 96, 0), (141, .iconst 4, 0), (142, .aload_n 0, 0), (143, .getfield 177, 0), (146, .imul, 0), (147, .iconst 3, 0), (148, .iadd, 0), (149, .iload_n 3, 0), (150, .iastore, 0), (151, .aload_n 0, 0), (152, .dup, 0), (153, .getfield 177, 0), (156, .iconst 1, 0), (157, .iadd, 0), (158, .putfield 177, 0), (161, .aload_n 0, 0), (162, .aload_n 0, 0), (163, .getfield 177, 0), (166, .putfield 180, 0), (169, .iload 4, 0), (171, .ireturn, 0)]
theorem cdX12_mend_ok : ∀ pc q, zk_at cdX12_mend pc = some q → decode cX12_mend pc = .ok (q.1, zk_len q.1 q.2) := zk_cd_ok (by decide +kernel)
def cdX12_of : List (Nat × Instr × Nat) := [(0, .iload_n 2, 0), (1, .bipush 13, 0), (3, .bipush 15, 0), (5, .invokestatic 125, 0), (8, .ifCond .eq 53, 0), (11, .aload_n 0, 0), (12, .iload_n 1, 0), (13, .invokevirtual 132, 0), (16, .ifCond .ne 8, 0), (19, .ldc 168, 0), (21, .goto 39, 0), (24, .iload_n 2, 0), (25, .bipush 13, 0), (27, .if_icmp .ne 12, 0), (30, .aload_n 0, 0), (31, .getfield 30, 0), (34, .iload_n 1, 0), (35, .iaload, 0), (36, .goto 24, 0), (39, .iload_n 2, 0), (40, .bipush 14, 0), (42, .if_icmp .ne 12, 0), (45, .aload_n 0, 0), (46, .getfield 45, 0), (49, .iload_n 1, 0), (50, .iaload, 0), (51, .goto 9, 0), (54, .aload_n 0, 0), (55, .getfield 48, 0), (58, .iload_n 1, 0), (59, .iaload, 0), (60, .ireturn, 0), (61, .aload_n 0, 0), (62, .iload_n 1, 0), (63, .iload_n 2, 0), (64, .invokevirtual 161, 0), (67, .ifCond .eq 12, 0), (70, .aload_n 0, 0), (71, .iload_n 1, 0), (72, .iload_n 2, 0), (73, .invokevirtual 169, 0), (76, .goto 5, 0), (79, .ldc 168, 0), (81, .ireturn, 0)]
theorem cdX12_of_ok : ∀ pc q, zk_at cdX12_of pc = some q → decode cX12_of pc = .ok (q.1, zk_len q.1 q.2) := zk_cd_ok (by decide +kernel)
def cdX12_undo : List (Nat × Instr × Nat) := [(0, .aload_n 0, 0), (1, .getfield 177, 0), (4, .ifCond .ne 6, 0), (7, .bipush (-5), 0), (9, .ireturn, 0), (10, .aload_n 0, 0), (11, .dup, 0), (12, .getfield 177, 0), (15, .iconst 1, 0), (16, .isub, 0), (17, .putfield 177, 0), (20, .aload_n 0, 0), (21, .aload_n 0, 0), (22, .getfield 96, 0), (25, .iconst 4, 0), (26, .aload_n 0, 0), (27, .getfield 177, 0), (30, .imul, 0), (31, .iaload, 0), (32, .aload_n 0, 0), (33, .getfield 96, 0), (36, .iconst 4, 0), (37, .aload_n 0, 0), (38, .getfield 177, 0), (41, .imul, 0), (42, .iconst 1, 0), (43, .iadd, 0), (44, .iaload, 0), (45, .aload_n 0, 0), (46, .getfield 96, 0), (49, .iconst 4, 0), (50, .aload_n 0, 0), (51, .getfield 177, 0), (54, .imul, 0), (55, .iconst 2, 0), (56, .iadd, 0), (57, .iaload, 0), (58, .invokevirtual 173, 0), (61, .aload_n 0, 0), (62, .getfield 177, 0), (65, .ireturn, 0)]
theorem cdX12_undo_ok : ∀ pc q, zk_at cdX12_undo pc = some q → decode cX12_undo pc = .ok (q.1, zk_len q.1 q.2) := zk_cd_ok (by decide +kernel)
def cdX12_redo : List (Nat × Instr × Nat) := [(0, .aload_n 0, 0), (1, .getfield 177, 0), (4, .aload_n 0, 0), (5, .getfield 180, 0), (8, .if_icmp .ne 6, 0), (11, .bipush (-5), 0), (13, .ireturn, 0), (14, .aload_n 0, 0), (15, .aload_n 0, 0), (16, .getfield 96, 0), (19, .iconst 4, 0), (20, .aload_n 0, 0), (21, .getfield 177, 0), (24, .imul, 0), (25, .iaload, 0), (26, .aload_n 0, 0), (27, .getfield 96, 0), (30, .iconst 4, 0), (31, .aload_n 0, 0), (32, .getfield 177, 0), (35, .imul, 0), (36, .iconst 1, 0), (37, .iadd, 0), (38, .iaload, 0), (39, .aload_n 0, 0), (40, .getfield 96, 0), (43, .iconst 4, 0), (44, .aload_n 0, 0), (45, .getfield 177, 0), (48, .imul, 0), (49, .iconst 3, 0), (50, .iadd, 0), (51, .iaload, 0), (52, .invokevirtual 173, 0), (55, .aload_n 0, 0), (56, .dup, 0), (57, .getfield 177, 0), (60, .iconst 1, 0), (61, .iadd, 0), (62, .putfield 177, 0), (65, .aload_n 0, 0), (66, .getfield 180, 0), (69, .aload_n 0, 0), (70, .getfield 177, 0), (73, .isub, 0), (74, .ireturn, 0)]
theorem cdX12_redo_ok : ∀ pc q, zk_at cdX12_redo pc = some q → decode cX12_redo pc = .ok (q.1, zk_len q.1 q.2) := zk_cd_ok (by decide +kernel)
def cdX12_feed : List (Nat × Instr × Nat) := [(0, .iload_n 1, 0), (1, .iconst 0, 0), (2, .sipush 255, 0), (5, .invokestatic 125, 0), (8, .ifCond .ne 5, 0), (11, .iconst (-1), 0), (12, .ireturn, 0), (13, .aload_n 0, 0), (14, .getfield 183, 0), (17, .bipush 120, 0), (19, .if_icmp .ne 6, 0), (22, .bipush (-3), 0), (24, .ireturn, 0), (25, .aload_n 0, 0), (26, .getfield 54, 0), (29, .aload_n 0, 0), (30, .dup, 0), (31, .getfield 183, 0), (34, .dup_x1, 0), (35, .iconst 1, 0), (36, .iadd, 0), (37, .putfield 183, 0), (40, .iload_n 1, 0), (41, .iastore, 0), (42, .aload_n 0, 0), (43, .getfield 183, 0), (46, .ireturn, 0)]
theorem cdX12_feed_ok : ∀ pc q, zk_at cdX12_feed pc = some q → decode cX12_feed pc = .ok (q.1, zk_len q.1 q.2) := zk_cd_ok (by decide +kernel)
def cdX12_sign : List (Nat × Instr × Nat) := [(0, .aload_n 0, 0), (1, .getfield 186, 0), (4, .aload_n 0, 0), (5, .getfield 183, 0), (8, .if_icmp .ge 15, 0), (11, .aload_n 0, 0), (12, .getfield 54, 0), (15, .aload_n 0, 0), (16, .getfield 186, 0), (19, .iaload, 0), (20, .goto 4, 0), (23, .iconst (-1), 0), (24, .ireturn, 0)]
theorem cdX12_sign_ok : ∀ pc q, zk_at cdX12_sign pc = some q → decode cX12_sign pc = .ok (q.1, zk_len q.1 q.2) := zk_cd_ok (by decide +kernel)
def cdX12_is : List (Nat × Instr × Nat) := [(0, .aload_n 0, 0), (1, .invokevirtual 189, 0), (4, .iload_n 1, 0), (5, .if_icmp .eq 5, 0), (8, .iconst 0, 0), (9, .ireturn, 0), (10, .aload_n 0, 0), (11, .dup, 0), (12, .getfield 186, 0), (15, .iconst 1, 0), (16, .iadd, 0), (17, .putfield 186, 0), (20, .iconst 1, 0), (21, .ireturn, 0)]
theorem cdX12_is_ok : ∀ pc q, zk_at cdX12_is pc = some q → decode cX12_is pc = .ok (q.1, zk_len q.1 q.2) := zk_cd_ok (by decide +kernel)
def cdX12_codes : List (Nat × Instr × Nat) := [(0, .aload_n 0, 0), (1, .getfield 78, 0), (4, .aload_n 0, 0), (5, .dup, 0), (6, .getfield 193, 0), (9, .dup_x1, 0), (10, .iconst 1, 0), (11, .iadd, 0), (12, .putfield 193, 0), (15, .iload_n 1, 0), (16, .iastore, 0), (17, .iconst 1, 0), (18, .ireturn, 0)]
theorem cdX12_codes_ok : ∀ pc q, zk_at cdX12_codes pc = some q → decode cX12_codes pc = .ok (q.1, zk_len q.1 q.2) := zk_cd_ok (by decide +kernel)
def cdX12_isDigit : List (Nat × Instr × Nat) := [(0, .aload_n 0, 0), (1, .invokevirtual 189, 0), (4, .bipush 48, 0), (6, .if_icmp .lt 16, 0), (9, .aload_n 0, 0), (10, .invokevirtual 189, 0), (13, .bipush 57, 0), (15, .if_icmp .gt 7, 0), (18, .iconst 1, 0), (19, .goto 4, 0), (22, .iconst 0, 0), (23, .ireturn, 0)]
theorem cdX12_isDigit_ok : ∀ pc q, zk_at cdX12_isDigit pc = some q → decode cX12_isDigit pc = .ok (q.1, zk_len q.1 q.2) := zk_cd_ok (by decide +kernel)
def cdX12_nameOf : List (Nat × Instr × Nat) := [(0, .iload_n 0, 0), (1, .tableswitch 95 99 115 #[93, 95, 95, 95, 95, 85, 95, 95, 89, 83, 91, 95, 95, 95, 95, 95, 87], 83), (84, .iconst 0, 0), (85, .ireturn, 0), (86, .iconst 1, 0), (87, .ireturn, 0), (88, .iconst 2, 0), (89, .ireturn, 0), (90, .iconst 3, 0), (91, .ireturn, 0), (92, .iconst 4, 0), (93, .ireturn, 0), (94, .iconst 5, 0), (95, .ireturn, 0), (96, .iconst (-1), 0), (97, .ireturn, 0)]
theorem cdX12_nameOf_ok : ∀ pc q, zk_at cdX12_nameOf pc = some q → decode cX12_nameOf pc = .ok (q.1, zk_len q.1 q.2) := zk_cd_ok (by decide +kernel)
def cdX12_isO : List (Nat × Instr × Nat) := [(0, .aload_n 0, 0), (1, .invokevirtual 196, 0), (4, .ifCond .eq 62, 0), (7, .iconst 0, 0), (8, .istore_n 1, 0), (9, .iconst 0, 0), (10, .istore_n 2, 0), (11, .iload_n 2, 0), (12, .iconst 4, 0), (13, .if_icmp .ge 44, 0), (16, .aload_n 0, 0), (17, .invokevirtual 196, 0), (20, .ifCond .eq 37, 0), (23, .bipush 10, 0), (25, .iload_n 1, 0), (26, .imul, 0), (27, .aload_n 0, 0), (28, .getfield 54, 0), (31, .aload_n 0, 0), (32, .getfield 186, 0), (35, .iaload, 0), (36, .iadd, 0), (37, .bipush 48, 0), (39, .isub, 0), (40, .istore_n 1, 0), (41, .aload_n 0, 0), (42, .dup, 0), (43, .getfield 186, 0), (46, .iconst 1, 0), (47, .iadd, 0), (48, .putfield 186, 0), (51, .iinc 2 1, 0), (54, .goto (-43), 0), (57, .aload_n 0, 0), (58, .bipush 18, 0), (60, .iload_n 1, 0), (61, .iadd, 0), (62, .invokevirtual 200, 0), (65, .ireturn, 0), (66, .aload_n 0, 0), (67, .invokevirtual 189, 0), (70, .invokestatic 203, 0), (73, .istore_n 1, 0), (74, .iload_n 1, 0), (75, .ifCond .lt 19, 0), (78, .aload_n 0, 0), (79, .dup, 0), (80, .getfield 186, 0), (83, .iconst 1, 0), (84, .iadd, 0), (85, .putfield 186, 0), (88, .aload_n 0, 0), (89, .iload_n 1, 0), (90, .invokevirtual 200, 0), (93, .ireturn, 0), (94, .aload_n 0, 0), (95, .getfield 207, 0), (98, .bipush 6, 0), (100, .if_icmp .ne 5, 0), (103, .iconst 0, 0), (104, .ireturn, 0), (105, .aload_n 0, 0), (106, .dup, 0), (107, .getfield 207, 0), (110, .iconst 1, 0), (111, .iadd, 0), (112, .putfield 207, 0), (115, .aload_n 0, 0), (116, .bipush 33, 0), (118, .invokevirtual 210, 0), (121, .ifCond .eq 28, 0), (124, .aload_n 0, 0), (125, .invokevirtual 213, 0), (128, .ifCond .eq 16, 0), (131, .aload_n 0, 0), (132, .bipush 16, 0), (134, .invokevirtual 200, 0), (137, .ifCond .eq 7, 0), (140, .iconst 1, 0), (141, .goto 4, 0), (144, .iconst 0, 0), (145, .istore_n 2, 0), (146, .goto 68, 0), (149, .aload_n 0, 0), (150, .bipush 45, 0), (152, .invokevirtual 210, 0), (155, .ifCond .eq 28, 0), (158, .aload_n 0, 0), (159, .invokevirtual 213, 0), (162, .ifCond .eq 16, 0), (165, .aload_n 0, 0), (166, .bipush 17, 0), (168, .invokevirtual 200, 0), (171, .ifCond .eq 7, 0), (174, .iconst 1, 0), (175, .goto 4, 0), (178, .iconst 0, 0), (179, .istore_n 2, 0), (180, .goto 34, 0), (183, .aload_n 0, 0), (184, .bipush 40, 0), (186, .invokevirtual 210, 0), (189, .ifCond .eq 23, 0), (192, .aload_n 0, 0), (193, .invokevirtual 216, 0), (196, .ifCond .eq 16, 0), (199, .aload_n 0, 0), (200, .bipush 41, 0), (202, .invokevirtual 210, 0), (205, .ifCond .eq 7, 0), (208, .iconst 1, 0), (209, .goto 4, 0), (212, .iconst 0, 0), (213, .istore_n 2, 0), (214, .aload_n 0, 0), (215, .dup, 0), (216, .getfield 207, 0), (219, .iconst 1, 0), (220, .isub, 0), (221, .putfield 207, 0), (224, .iload_n 2, 0), (225, .ireturn, 0)]
theorem cdX12_isO_ok : ∀ pc q, zk_at cdX12_isO pc = some q → decode cX12_isO pc = .ok (q.1, zk_len q.1 q.2) := zk_cd_ok (by decide +kernel)
def cdX12_isP : List (Nat × Instr × Nat) := [(0, .aload_n 0, 0), (1, .invokevirtual 213, 0), (4, .ifCond .ne 5, 0), (7, .iconst 0, 0), (8, .ireturn, 0), (9, .aload_n 0, 0), (10, .invokevirtual 189, 0), (13, .bipush 42, 0), (15, .if_icmp .ne 8, 0), (18, .bipush 13, 0), (20, .goto 32, 0), (23, .aload_n 0, 0), (24, .invokevirtual 189, 0), (27, .bipush 47, 0), (29, .if_icmp .ne 8, 0), (32, .bipush 14, 0), (34, .goto 18, 0), (37, .aload_n 0, 0), (38, .invokevirtual 189, 0), (41, .bipush 37, 0), (43, .if_icmp .ne 8, 0), (46, .bipush 15, 0), (48, .goto 4, 0), (51, .iconst (-1), 0), (52, .istore_n 1, 0), (53, .iload_n 1, 0), (54, .ifCond .ge 5, 0), (57, .iconst 1, 0), (58, .ireturn, 0), (59, .aload_n 0, 0), (60, .dup, 0), (61, .getfield 186, 0), (64, .iconst 1, 0), (65, .iadd, 0), (66, .putfield 186, 0), (69, .aload_n 0, 0), (70, .invokevirtual 213, 0), (73, .ifCond .ne 5, 0), (76, .iconst 0, 0), (77, .ireturn, 0), (78, .aload_n 0, 0), (79, .iload_n 1, 0), (80, .invokevirtual 200, 0), (83, .pop, 0), (84, .goto (-75), 0)]
theorem cdX12_isP_ok : ∀ pc q, zk_at cdX12_isP pc = some q → decode cX12_isP pc = .ok (q.1, zk_len q.1 q.2) := zk_cd_ok (by decide +kernel)
def cdX12_isS : List (Nat × Instr × Nat) := [(0, .aload_n 0, 0), (1, .invokevirtual 219, 0), (4, .ifCond .ne 5, 0), (7, .iconst 0, 0), (8, .ireturn, 0), (9, .aload_n 0, 0), (10, .invokevirtual 189, 0), (13, .bipush 43, 0), (15, .if_icmp .ne 8, 0), (18, .bipush 11, 0), (20, .goto 18, 0), (23, .aload_n 0, 0), (24, .invokevirtual 189, 0), (27, .bipush 45, 0), (29, .if_icmp .ne 8, 0), (32, .bipush 12, 0), (34, .goto 4, 0), (37, .iconst (-1), 0), (38, .istore_n 1, 0), (39, .iload_n 1, 0), (40, .ifCond .ge 5, 0), (43, .iconst 1, 0), (44, .ireturn, 0), (45, .aload_n 0, 0), (46, .dup, 0), (47, .getfield 186, 0), (50, .iconst 1, 0), (51, .iadd, 0), (52, .putfield 186, 0), (55, .aload_n 0, 0), (56, .invokevirtual 219, 0), (59, .ifCond .ne 5, 0), (62, .iconst 0, 0), (63, .ireturn, 0), (64, .aload_n 0, 0), (65, .iload_n 1, 0), (66, .invokevirtual 200, 0), (69, .pop, 0), (70, .goto (-61), 0)]
theorem cdX12_isS_ok : ∀ pc q, zk_at cdX12_isS pc = some q → decode cX12_isS pc = .ok (q.1, zk_len q.1 q.2) := zk_cd_ok (by decide +kernel)
def cdX12_isB : List (Nat × Instr × Nat) := [(0, .aload_n 0, 0), (1, .invokevirtual 222, 0), (4, .ifCond .ne 5, 0), (7, .iconst 0, 0), (8, .ireturn, 0), (9, .aload_n 0, 0), (10, .invokevirtual 189, 0), (13, .bipush 60, 0), (15, .if_icmp .ne 8, 0), (18, .bipush 8, 0), (20, .goto 32, 0), (23, .aload_n 0, 0), (24, .invokevirtual 189, 0), (27, .bipush 61, 0), (29, .if_icmp .ne 8, 0), (32, .bipush 9, 0), (34, .goto 18, 0), (37, .aload_n 0, 0), (38, .invokevirtual 189, 0), (41, .bipush 62, 0), (43, .if_icmp .ne 8, 0), (46, .bipush 10, 0), (48, .goto 4, 0), (51, .iconst (-1), 0), (52, .istore_n 1, 0), (53, .iload_n 1, 0), (54, .ifCond .ge 5, 0), (57, .iconst 1, 0), (58, .ireturn, 0), (59, .aload_n 0, 0), (60, .dup, 0), (61, .getfield 186, 0), (64, .iconst 1, 0), (65, .iadd, 0), (66, .putfield 186, 0), (69, .aload_n 0, 0), (70, .invokevirtual 222, 0), (73, .ifCond .eq 15, 0), (76, .aload_n 0, 0), (77, .iload_n 1, 0), (78, .invokevirtual 200, 0), (81, .ifCond .eq 7, 0), (84, .iconst 1, 0), (85, .goto 4, 0), (88, .iconst 0, 0), (89, .ireturn, 0)]
theorem cdX12_isB_ok : ∀ pc q, zk_at cdX12_isB pc = some q → decode cX12_isB pc = .ok (q.1, zk_len q.1 q.2) := zk_cd_ok (by decide +kernel)
def cdX12_isA : List (Nat × Instr × Nat) := [(0, .aload_n 0, 0), (1, .invokevirtual 225, 0), (4, .ifCond .ne 5, 0), (7, .iconst 0, 0), (8, .ireturn, 0), (9, .aload_n 0, 0), (10, .bipush 38, 0), (12, .invokevirtual 210, 0), (15, .ifCond .eq 22, 0), (18, .aload_n 0, 0), (19, .invokevirtual 225, 0), (22, .ifCond .ne 5, 0), (25, .iconst 0, 0), (26, .ireturn, 0), (27, .aload_n 0, 0), (28, .bipush 7, 0), (30, .invokevirtual 200, 0), (33, .pop, 0), (34, .goto (-25), 0), (37, .iconst 1, 0), (38, .ireturn, 0)]
theorem cdX12_isA_ok : ∀ pc q, zk_at cdX12_isA pc = some q → decode cX12_isA pc = .ok (q.1, zk_len q.1 q.2) := zk_cd_ok (by decide +kernel)
def cdX12_isE : List (Nat × Instr × Nat) := [(0, .aload_n 0, 0), (1, .invokevirtual 228, 0), (4, .ifCond .ne 5, 0), (7, .iconst 0, 0), (8, .ireturn, 0), (9, .aload_n 0, 0), (10, .bipush 124, 0), (12, .invokevirtual 210, 0), (15, .ifCond .eq 22, 0), (18, .aload_n 0, 0), (19, .invokevirtual 228, 0), (22, .ifCond .ne 5, 0), (25, .iconst 0, 0), (26, .ireturn, 0), (27, .aload_n 0, 0), (28, .bipush 6, 0), (30, .invokevirtual 200, 0), (33, .pop, 0), (34, .goto (-25), 0), (37, .iconst 1, 0), (38, .ireturn, 0)]
theorem cdX12_isE_ok : ∀ pc q, zk_at cdX12_isE pc = some q → decode cX12_isE pc = .ok (q.1, zk_len q.1 q.2) := zk_cd_ok (by decide +kernel)
def cdX12_isLine : List (Nat × Instr × Nat) := [(0, .aload_n 0, 0), (1, .getfield 69, 0), (4, .aload_n 0, 0), (5, .getfield 231, 0), (8, .aload_n 0, 0), (9, .getfield 193, 0), (12, .iastore, 0), (13, .aload_n 0, 0), (14, .invokevirtual 216, 0), (17, .ifCond .ne 5, 0), (20, .iconst 0, 0), (21, .ireturn, 0), (22, .aload_n 0, 0), (23, .getfield 72, 0), (26, .aload_n 0, 0), (27, .getfield 231, 0), (30, .aload_n 0, 0), (31, .getfield 69, 0), (34, .aload_n 0, 0), (35, .getfield 231, 0), (38, .iaload, 0), (39, .iastore, 0), (40, .aload_n 0, 0), (41, .bipush 63, 0), (43, .invokevirtual 210, 0), (46, .ifCond .eq 25, 0), (49, .aload_n 0, 0), (50, .getfield 72, 0), (53, .aload_n 0, 0), (54, .getfield 231, 0), (57, .aload_n 0, 0), (58, .getfield 193, 0), (61, .iastore, 0), (62, .aload_n 0, 0), (63, .invokevirtual 216, 0), (66, .ifCond .ne 5, 0), (69, .iconst 0, 0), (70, .ireturn, 0), (71, .aload_n 0, 0), (72, .getfield 75, 0), (75, .aload_n 0, 0), (76, .dup, 0), (77, .getfield 231, 0), (80, .dup_x1, 0), (81, .iconst 1, 0), (82, .iadd, 0), (83, .putfield 231, 0), (86, .aload_n 0, 0), (87, .getfield 193, 0), (90, .iastore, 0), (91, .iconst 1, 0), (92, .ireturn, 0)]
theorem cdX12_isLine_ok : ∀ pc q, zk_at cdX12_isLine pc = some q → decode cX12_isLine pc = .ok (q.1, zk_len q.1 q.2) := zk_cd_ok (by decide +kernel)
def cdX12_law : List (Nat × Instr × Nat) := [(0, .aload_n 0, 0), (1, .iconst 0, 0), (2, .putfield 186, 0), (5, .aload_n 0, 0), (6, .iconst 0, 0), (7, .putfield 207, 0), (10, .aload_n 0, 0), (11, .iconst 0, 0), (12, .putfield 193, 0), (15, .aload_n 0, 0), (16, .iconst 0, 0), (17, .putfield 231, 0), (20, .aload_n 0, 0), (21, .invokevirtual 234, 0), (24, .istore_n 1, 0), (25, .iload_n 1, 0), (26, .ifCond .eq 20, 0), (29, .aload_n 0, 0), (30, .bipush 59, 0), (32, .invokevirtual 210, 0), (35, .ifCond .eq 11, 0), (38, .aload_n 0, 0), (39, .invokevirtual 234, 0), (42, .istore_n 1, 0), (43, .goto (-18), 0), (46, .iload_n 1, 0), (47, .ifCond .eq 18, 0), (50, .aload_n 0, 0), (51, .getfield 186, 0), (54, .aload_n 0, 0), (55, .getfield 183, 0), (58, .if_icmp .ne 7, 0), (61, .iconst 1, 0), (62, .goto 4, 0), (65, .iconst 0, 0), (66, .istore_n 2, 0), (67, .aload_n 0, 0), (68, .iconst 0, 0), (69, .putfield 183, 0), (72, .iload_n 2, 0), (73, .ifCond .ne 11, 0), (76, .bipush (-100), 0), (78, .aload_n 0, 0), (79, .getfield 186, 0), (82, .isub, 0), (83, .ireturn, 0), (84, .aload_n 0, 0), (85, .iconst 1, 0), (86, .putfield 237, 0), (89, .aload_n 0, 0), (90, .aload_n 0, 0), (91, .getfield 231, 0), (94, .putfield 241, 0), (97, .iconst 0, 0), (98, .istore_n 3, 0), (99, .iload_n 3, 0), (100, .aload_n 0, 0), (101, .getfield 241, 0), (104, .if_icmp .ge 45, 0), (107, .aload_n 0, 0), (108, .getfield 57, 0), (111, .iload_n 3, 0), (112, .aload_n 0, 0), (113, .getfield 69, 0), (116, .iload_n 3, 0), (117, .iaload, 0), (118, .iastore, 0), (119, .aload_n 0, 0), (120, .getfield 60, 0), (123, .iload_n 3, 0), (124, .aload_n 0, 0), (125, .getfield 72, 0), (128, .iload_n 3, 0), (129, .iaload, 0), (130, .iastore, 0), (131, .aload_n 0, 0), (132, .getfield 63, 0), (135, .iload_n 3, 0), (136, .aload_n 0, 0), (137, .getfield 75, 0), (140, .iload_n 3, 0), (141, .iaload, 0), (142, .iastore, 0), (143, .iinc 3 1, 0), (146, .goto (-47), 0), (149, .iconst 0, 0), (150, .istore_n 3, 0), (151, .iload_n 3, 0), (152, .aload_n 0, 0), (153, .getfield 193, 0), (156, .if_icmp .ge 21, 0), (159, .aload_n 0, 0), (160, .getfield 66, 0), (163, .iload_n 3, 0), (164, .aload_n 0, 0), (165, .getfield 78, 0), (168, .iload_n 3, 0), (169, .iaload, 0), (170, .iastore, 0), (171, .iinc 3 1, 0), (174, .goto (-23), 0), (177, .iconst 1, 0), (178, .ireturn, 0)]
theorem cdX12_law_ok : ∀ pc q, zk_at cdX12_law pc = some q → decode cX12_law pc = .ok (q.1, zk_len q.1 q.2) := zk_cd_ok (by decide +kernel)
def cdX12_both : List (Nat × Instr × Nat) := [(0, .iload_n 0, 0), (1, .tableswitch 136 6 14 #[51, 65, 79, 90, 101, 112, 116, 120, 124], 51), (52, .iload_n 1, 0), (53, .ifCond .ne 7, 0), (56, .iload_n 2, 0), (57, .ifCond .eq 7, 0), (60, .iconst 1, 0), (61, .goto 4, 0), (64, .iconst 0, 0), (65, .ireturn, 0), (66, .iload_n 1, 0), (67, .ifCond .eq 11, 0), (70, .iload_n 2, 0), (71, .ifCond .eq 7, 0), (74, .iconst 1, 0), (75, .goto 4, 0), (78, .iconst 0, 0), (79, .ireturn, 0), (80, .iload_n 1, 0), (81, .iload_n 2, 0), (82, .if_icmp .ge 7, 0), (85, .iconst 1, 0), (86, .goto 4, 0), (89, .iconst 0, 0), (90, .ireturn, 0), (91, .iload_n 1, 0), (92, .iload_n 2, 0), (93, .if_icmp .ne 7, 0), (96, .iconst 1, 0), (97, .goto 4, 0), (100, .iconst 0, 0), (101, .ireturn, 0), (102, .iload_n 1, 0), (103, .iload_n 2, 0), (104, .if_icmp .le 7, 0), (107, .iconst 1, 0), (108, .goto 4, 0), (111, .iconst 0, 0), (112, .ireturn, 0), (113, .iload_n 1, 0), (114, .iload_n 2, 0), (115, .iadd, 0), (116, .ireturn, 0), (117, .iload_n 1, 0), (118, .iload_n 2, 0), (119, .isub, 0), (120, .ireturn, 0), (121, .iload_n 1, 0), (122, .iload_n 2, 0), (123, .imul, 0), (124, .ireturn, 0), (125, .iload_n 2, 0), (126, .ifCond .ne 7, 0), (129, .iconst 0, 0), (130, .goto 6, 0), (133, .iload_n 1, 0), (134, .iload_n 2, 0), (135, .idiv, 0), (136, .ireturn, 0), (137, .iload_n 2, 0), (138, .ifCond .ne 7, 0), (141, .iconst 0, 0), (142, .goto 6, 0), (145, .iload_n 1, 0), (146, .iload_n 2, 0), (147, .irem, 0), (148, .ireturn, 0)]
theorem cdX12_both_ok : ∀ pc q, zk_at cdX12_both pc = some q → decode cX12_both pc = .ok (q.1, zk_len q.1 q.2) := zk_cd_ok (by decide +kernel)
def cdX12_worked : List (Nat × Instr × Nat) := [(0, .iconst 0, 0), (1, .istore_n 3, 0), (2, .iload_n 1, 0), (3, .istore 4, 0), (5, .iload 4, 0), (7, .iload_n 2, 0), (8, .if_icmp .ge 155, 0), (11, .aload_n 0, 0), (12, .getfield 66, 0), (15, .iload 4, 0), (17, .iaload, 0), (18, .istore 5, 0), (20, .iload 5, 0), (22, .bipush 18, 0), (24, .if_icmp .ge 9, 0), (27, .iload 5, 0), (29, .iconst 5, 0), (30, .if_icmp .gt 37, 0), (33, .aload_n 0, 0), (34, .getfield 81, 0), (37, .iload_n 3, 0), (38, .iinc 3 1, 0), (41, .iload 5, 0), (43, .bipush 18, 0), (45, .if_icmp .lt 11, 0), (48, .iload 5, 0), (50, .bipush 18, 0), (52, .isub, 0), (53, .goto 10, 0), (56, .aload_n 0, 0), (57, .getfield 84, 0), (60, .iload 5, 0), (62, .iaload, 0), (63, .iastore, 0), (64, .goto 93, 0), (67, .iload 5, 0), (69, .bipush 16, 0), (71, .if_icmp .eq 10, 0), (74, .iload 5, 0), (76, .bipush 17, 0), (78, .if_icmp .ne 49, 0), (81, .aload_n 0, 0), (82, .getfield 81, 0), (85, .iload_n 3, 0), (86, .iconst 1, 0), (87, .isub, 0), (88, .iload 5, 0), (90, .bipush 17, 0), (92, .if_icmp .ne 15, 0), (95, .aload_n 0, 0), (96, .getfield 81, 0), (99, .iload_n 3, 0), (100, .iconst 1, 0), (101, .isub, 0), (102, .iaload, 0), (103, .ineg, 0), (104, .goto 19, 0), (107, .aload_n 0, 0), (108, .getfield 81, 0), (111, .iload_n 3, 0), (112, .iconst 1, 0), (113, .isub, 0), (114, .iaload, 0), (115, .ifCond .ne 7, 0), (118, .iconst 1, 0), (119, .goto 4, 0), (122, .iconst 0, 0), (123, .iastore, 0), (124, .goto 33, 0), (127, .iinc 3 (-1), 0), (130, .aload_n 0, 0), (131, .getfield 81, 0), (134, .iload_n 3, 0), (135, .iconst 1, 0), (136, .isub, 0), (137, .iload 5, 0), (139, .aload_n 0, 0), (140, .getfield 81, 0), (143, .iload_n 3, 0), (144, .iconst 1, 0), (145, .isub, 0), (146, .iaload, 0), (147, .aload_n 0, 0), (148, .getfield 81, 0), (151, .iload_n 3, 0), (152, .iaload, 0), (153, .invokestatic 244, 0), (156, .iastore, 0), (157, .iinc 4 1, 0), (160, .goto (-155), 0), (163, .aload_n 0, 0), (164, .getfield 81, 0), (167, .iconst 0, 0), (168, .iaload, 0), (169, .ireturn, 0)]
theorem cdX12_worked_ok : ∀ pc q, zk_at cdX12_worked pc = some q → decode cX12_worked pc = .ok (q.1, zk_len q.1 q.2) := zk_cd_ok (by decide +kernel)
def cdX12_isIn : List (Nat × Instr × Nat) := [(0, .iload_n 2, 0), (1, .aload_n 0, 0), (2, .getfield 9, 0), (5, .iload_n 1, 0), (6, .iaload, 0), (7, .aload_n 0, 0), (8, .getfield 15, 0), (11, .iload_n 1, 0), (12, .iaload, 0), (13, .invokestatic 125, 0), (16, .ireturn, 0)]
theorem cdX12_isIn_ok : ∀ pc q, zk_at cdX12_isIn pc = some q → decode cX12_isIn pc = .ok (q.1, zk_len q.1 q.2) := zk_cd_ok (by decide +kernel)
def cdX12_could : List (Nat × Instr × Nat) := [(0, .iload_n 1, 0), (1, .aload_n 0, 0), (2, .getfield 30, 0), (5, .iload_n 2, 0), (6, .iaload, 0), (7, .if_icmp .eq 30, 0), (10, .aload_n 0, 0), (11, .getfield 39, 0), (14, .iload_n 2, 0), (15, .iaload, 0), (16, .ifCond .lt 23, 0), (19, .aload_n 0, 0), (20, .getfield 27, 0), (23, .iload_n 1, 0), (24, .iaload, 0), (25, .aload_n 0, 0), (26, .getfield 39, 0), (29, .iload_n 2, 0), (30, .iaload, 0), (31, .invokestatic 247, 0), (34, .ifCond .ne 5, 0), (37, .iconst 0, 0), (38, .ireturn, 0), (39, .aload_n 0, 0), (40, .getfield 42, 0), (43, .iload_n 2, 0), (44, .iaload, 0), (45, .ifCond .eq 17, 0), (48, .aload_n 0, 0), (49, .iload_n 1, 0), (50, .aload_n 0, 0), (51, .getfield 33, 0), (54, .iload_n 2, 0), (55, .iaload, 0), (56, .invokevirtual 250, 0), (59, .ifCond .eq 7, 0), (62, .iconst 1, 0), (63, .goto 4, 0), (66, .iconst 0, 0), (67, .ireturn, 0)]
theorem cdX12_could_ok : ∀ pc q, zk_at cdX12_could pc = some q → decode cX12_could pc = .ok (q.1, zk_len q.1 q.2) := zk_cd_ok (by decide +kernel)
def cdX12_knowers : List (Nat × Instr × Nat) := [(0, .iconst 0, 0), (1, .istore_n 2, 0), (2, .iconst 0, 0), (3, .istore_n 3, 0), (4, .iload_n 3, 0), (5, .aload_n 0, 0), (6, .getfield 121, 0), (9, .if_icmp .ge 29, 0), (12, .iload_n 1, 0), (13, .ifCond .lt 19, 0), (16, .aload_n 0, 0), (17, .getfield 27, 0), (20, .iload_n 3, 0), (21, .iaload, 0), (22, .iload_n 1, 0), (23, .invokestatic 247, 0), (26, .ifCond .eq 6, 0), (29, .iinc 2 1, 0), (32, .iinc 3 1, 0), (35, .goto (-31), 0), (38, .iload_n 2, 0), (39, .ireturn, 0)]
theorem cdX12_knowers_ok : ∀ pc q, zk_at cdX12_knowers pc = some q → decode cX12_knowers pc = .ok (q.1, zk_len q.1 q.2) := zk_cd_ok (by decide +kernel)
def cdX12_counted : List (Nat × Instr × Nat) := [(0, .aload_n 0, 0), (1, .iload_n 1, 0), (2, .iload_n 2, 0), (3, .invokevirtual 253, 0), (6, .ifCond .ne 5, 0), (9, .iconst 0, 0), (10, .ireturn, 0), (11, .aload_n 0, 0), (12, .getfield 84, 0), (15, .iconst 0, 0), (16, .aload_n 0, 0), (17, .getfield 24, 0), (20, .iload_n 1, 0), (21, .iaload, 0), (22, .aload_n 0, 0), (23, .getfield 30, 0), (26, .iload_n 2, 0), (27, .iaload, 0), (28, .invokestatic 247, 0), (31, .ifCond .eq 7, 0), (34, .iconst 1, 0), (35, .goto 4, 0), (38, .iconst 0, 0), (39, .iastore, 0), (40, .aload_n 0, 0), (41, .getfield 84, 0), (44, .iconst 1, 0), (45, .aload_n 0, 0), (46, .getfield 36, 0), (49, .iload_n 2, 0), (50, .iaload, 0), (51, .iconst (-1), 0), (52, .if_icmp .ne 7, 0), (55, .iconst 1, 0), (56, .goto 23, 0), (59, .aload_n 0, 0), (60, .getfield 36, 0), (63, .iload_n 2, 0), (64, .iaload, 0), (65, .aload_n 0, 0), (66, .getfield 18, 0), (69, .iload_n 1, 0), (70, .iaload, 0), (71, .if_icmp .ne 7, 0), (74, .iconst 2, 0), (75, .goto 4, 0), (78, .iconst 0, 0), (79, .iastore, 0), (80, .aload_n 0, 0), (81, .getfield 84, 0), (84, .iconst 2, 0), (85, .aload_n 0, 0), (86, .getfield 21, 0), (89, .iload_n 1, 0), (90, .iaload, 0), (91, .iastore, 0), (92, .aload_n 0, 0), (93, .getfield 84, 0), (96, .iconst 3, 0), (97, .aload_n 0, 0), (98, .aload_n 0, 0), (99, .getfield 39, 0), (102, .iload_n 2, 0), (103, .iaload, 0), (104, .invokevirtual 256, 0), (107, .iastore, 0), (108, .aload_n 0, 0), (109, .getfield 84, 0), (112, .iconst 4, 0), (113, .aload_n 0, 0), (114, .getfield 42, 0), (117, .iload_n 2, 0), (118, .iaload, 0), (119, .iastore, 0), (120, .aload_n 0, 0), (121, .getfield 84, 0), (124, .iconst 5, 0), (125, .iload_n 2, 0), (126, .iastore, 0), (127, .aload_n 0, 0), (128, .getfield 237, 0), (131, .ifCond .ne 63, 0), (134, .bipush 99, 0), (136, .iconst 1, 0), (137, .iconst 4, 0), (138, .aload_n 0, 0), (139, .getfield 84, 0), (142, .iconst 0, 0), (143, .iaload, 0), (144, .imul, 0), (145, .iadd, 0), (146, .aload_n 0, 0), (147, .getfield 84, 0), (150, .iconst 1, 0), (151, .iaload, 0), (152, .iconst 2, 0), (153, .if_icmp .ne 15, 0), (156, .bipush 12, 0), (158, .aload_n 0, 0), (159, .getfield 51, 0), (162, .iconst 0, 0), (163, .iaload, 0), (164, .isub, 0), (165, .goto 24, 0), (168, .aload_n 0, 0), (169, .getfield 84, 0), (172, .iconst 1, 0), (173, .iaload, 0), (174, .iconst 1, 0), (175, .if_icmp .ne 8, 0), (178, .bipush 12, 0), (180, .goto 9, 0), (183, .aload_n 0, 0), (184, .getfield 51, 0), (187, .iconst 0, 0), (188, .iaload, 0), (189, .imul, 0), (190, .invokestatic 259, 0), (193, .ireturn, 0), (194, .iconst 0, 0), (195, .istore_n 3, 0), (196, .iload_n 3, 0), (197, .aload_n 0, 0), (198, .getfield 241, 0), (201, .if_icmp .ge 72, 0), (204, .aload_n 0, 0), (205, .getfield 60, 0), (208, .iload_n 3, 0), (209, .iaload, 0), (210, .aload_n 0, 0), (211, .getfield 57, 0), (214, .iload_n 3, 0), (215, .iaload, 0), (216, .if_icmp .le 25, 0), (219, .aload_n 0, 0), (220, .aload_n 0, 0), (221, .getfield 57, 0), (224, .iload_n 3, 0), (225, .iaload, 0), (226, .aload_n 0, 0), (227, .getfield 60, 0), (230, .iload_n 3, 0), (231, .iaload, 0), (232, .invokevirtual 264, 0), (235, .ifCond .ne 6, 0), (238, .goto 29, 0), (241, .iconst 0, 0), (242, .bipush 99, 0), (244, .aload_n 0, 0), (245, .aload_n 0, 0), (246, .getfield 60, 0), (249, .iload_n 3, 0), (250, .iaload, 0), (251, .aload_n 0, 0), (252, .getfield 63, 0), (255, .iload_n 3, 0), (256, .iaload, 0), (257, .invokevirtual 264, 0), (260, .invokestatic 259, 0), (263, .invokestatic 267, 0), (266, .ireturn, 0), (267, .iinc 3 1, 0), (270, .goto (-74), 0), (273, .iconst 0, 0), (274, .ireturn, 0)]
theorem cdX12_counted_ok : ∀ pc q, zk_at cdX12_counted pc = some q → decode cX12_counted pc = .ok (q.1, zk_len q.1 q.2) := zk_cd_ok (by decide +kernel)
def cdX12_countedAll : List (Nat × Instr × Nat) := [(0, .iconst 0, 0), (1, .istore_n 2, 0), (2, .iconst 0, 0), (3, .istore_n 3, 0), (4, .iload_n 3, 0), (5, .aload_n 0, 0), (6, .getfield 121, 0), (9, .if_icmp .ge 18, 0), (12, .iload_n 2, 0), (13, .aload_n 0, 0), (14, .iload_n 3, 0), (15, .iload_n 1, 0), (16, .invokevirtual 270, 0), (19, .iadd, 0), (20, .istore_n 2, 0), (21, .iinc 3 1, 0), (24, .goto (-20), 0), (27, .iload_n 2, 0), (28, .ireturn, 0)]
theorem cdX12_countedAll_ok : ∀ pc q, zk_at cdX12_countedAll pc = some q → decode cX12_countedAll pc = .ok (q.1, zk_len q.1 q.2) := zk_cd_ok (by decide +kernel)
def cdX12_couldAll : List (Nat × Instr × Nat) := [(0, .iconst 0, 0), (1, .istore_n 2, 0), (2, .iconst 0, 0), (3, .istore_n 3, 0), (4, .iload_n 3, 0), (5, .aload_n 0, 0), (6, .getfield 121, 0), (9, .if_icmp .ge 24, 0), (12, .aload_n 0, 0), (13, .iload_n 3, 0), (14, .iload_n 1, 0), (15, .invokevirtual 253, 0), (18, .ifCond .eq 9, 0), (21, .iload_n 2, 0), (22, .iconst 1, 0), (23, .iload_n 3, 0), (24, .ishl, 0), (25, .ior, 0), (26, .istore_n 2, 0), (27, .iinc 3 1, 0), (30, .goto (-26), 0), (33, .iload_n 2, 0), (34, .ireturn, 0)]
theorem cdX12_couldAll_ok : ∀ pc q, zk_at cdX12_couldAll pc = some q → decode cX12_couldAll pc = .ok (q.1, zk_len q.1 q.2) := zk_cd_ok (by decide +kernel)
def cdX12_could_ : List (Nat × Instr × Nat) := [(0, .aload_n 0, 0), (1, .iload_n 1, 0), (2, .invokevirtual 132, 0), (5, .ifCond .eq 11, 0), (8, .aload_n 0, 0), (9, .iload_n 1, 0), (10, .invokevirtual 273, 0), (13, .goto 4, 0), (16, .iconst (-1), 0), (17, .ireturn, 0)]
theorem cdX12_could__ok : ∀ pc q, zk_at cdX12_could_ pc = some q → decode cX12_could_ pc = .ok (q.1, zk_len q.1 q.2) := zk_cd_ok (by decide +kernel)
def cdX12_counts : List (Nat × Instr × Nat) := [(0, .aload_n 0, 0), (1, .iload_n 1, 0), (2, .invokevirtual 276, 0), (5, .ifCond .eq 18, 0), (8, .aload_n 0, 0), (9, .iload_n 1, 0), (10, .bipush 10, 0), (12, .irem, 0), (13, .iload_n 1, 0), (14, .bipush 10, 0), (16, .idiv, 0), (17, .invokevirtual 270, 0), (20, .goto 4, 0), (23, .iconst (-1), 0), (24, .ireturn, 0)]
theorem cdX12_counts_ok : ∀ pc q, zk_at cdX12_counts pc = some q → decode cX12_counts pc = .ok (q.1, zk_len q.1 q.2) := zk_cd_ok (by decide +kernel)
def cdX12_part : List (Nat × Instr × Nat) := [(0, .iload_n 1, 0), (1, .ifCond .ne 6, 0), (4, .iload_n 2, 0), (5, .i2l, 0), (6, .lreturn, 0), (7, .iload_n 0, 0), (8, .istore_n 3, 0), (9, .iload_n 1, 0), (10, .istore 4, 0), (12, .iload 4, 0), (14, .ifCond .eq 19, 0), (17, .iload_n 3, 0), (18, .iload 4, 0), (20, .irem, 0), (21, .istore 5, 0), (23, .iload 4, 0), (25, .istore_n 3, 0), (26, .iload 5, 0), (28, .istore 4, 0), (30, .goto (-18), 0), (33, .iload_n 2, 0), (34, .ifCond .ne 10, 0), (37, .iload_n 0, 0), (38, .iload_n 3, 0), (39, .idiv, 0), (40, .i2l, 0), (41, .goto 7, 0), (44, .iload_n 1, 0), (45, .iload_n 3, 0), (46, .idiv, 0), (47, .i2l, 0), (48, .lreturn, 0)]
theorem cdX12_part_ok : ∀ pc q, zk_at cdX12_part pc = some q → decode cX12_part pc = .ok (q.1, zk_len q.1 q.2) := zk_cd_ok (by decide +kernel)
def cdX12_likely : List (Nat × Instr × Nat) := [(0, .aload_n 0, 0), (1, .iload_n 1, 0), (2, .invokevirtual 276, 0), (5, .ifCond .eq 39, 0), (8, .iload_n 2, 0), (9, .iconst 0, 0), (10, .iconst 1, 0), (11, .invokestatic 125, 0), (14, .ifCond .eq 30, 0), (17, .aload_n 0, 0), (18, .iload_n 1, 0), (19, .bipush 10, 0), (21, .irem, 0), (22, .iload_n 1, 0), (23, .bipush 10, 0), (25, .idiv, 0), (26, .invokevirtual 270, 0), (29, .aload_n 0, 0), (30, .iload_n 1, 0), (31, .bipush 10, 0), (33, .idiv, 0), (34, .invokevirtual 279, 0), (37, .iload_n 2, 0), (38, .invokestatic 282, 0), (41, .goto 6, 0), (44, .ldc2_w 286, 0), (47, .lreturn, 0)]
theorem cdX12_likely_ok : ∀ pc q, zk_at cdX12_likely pc = some q → decode cX12_likely pc = .ok (q.1, zk_len q.1 q.2) := zk_cd_ok (by decide +kernel)
def cdX12_likeliest : List (Nat × Instr × Nat) := [(0, .bipush (-2), 0), (2, .istore_n 2, 0), (3, .iconst 0, 0), (4, .istore_n 3, 0), (5, .iconst 0, 0), (6, .istore 4, 0), (8, .iload 4, 0), (10, .aload_n 0, 0), (11, .getfield 121, 0), (14, .if_icmp .ge 34, 0), (17, .aload_n 0, 0), (18, .iload 4, 0), (20, .iload_n 1, 0), (21, .invokevirtual 270, 0), (24, .iload_n 3, 0), (25, .if_icmp .gt 6, 0), (28, .goto 14, 0), (31, .aload_n 0, 0), (32, .iload 4, 0), (34, .iload_n 1, 0), (35, .invokevirtual 270, 0), (38, .istore_n 3, 0), (39, .iload 4, 0), (41, .istore_n 2, 0), (42, .iinc 4 1, 0), (45, .goto (-37), 0), (48, .iload_n 2, 0), (49, .ireturn, 0)]
theorem cdX12_likeliest_ok : ∀ pc q, zk_at cdX12_likeliest pc = some q → decode cX12_likeliest pc = .ok (q.1, zk_len q.1 q.2) := zk_cd_ok (by decide +kernel)
def cdX12_sure : List (Nat × Instr × Nat) := [(0, .bipush (-2), 0), (2, .istore_n 2, 0), (3, .iconst 0, 0), (4, .istore_n 3, 0), (5, .iload_n 3, 0), (6, .aload_n 0, 0), (7, .getfield 121, 0), (10, .if_icmp .ge 32, 0), (13, .aload_n 0, 0), (14, .iload_n 3, 0), (15, .iload_n 1, 0), (16, .invokevirtual 270, 0), (19, .ifCond .ne 6, 0), (22, .goto 14, 0), (25, .iload_n 2, 0), (26, .bipush (-2), 0), (28, .if_icmp .eq 6, 0), (31, .bipush (-2), 0), (33, .ireturn, 0), (34, .iload_n 3, 0), (35, .istore_n 2, 0), (36, .iinc 3 1, 0), (39, .goto (-34), 0), (42, .iload_n 2, 0), (43, .ireturn, 0)]
theorem cdX12_sure_ok : ∀ pc q, zk_at cdX12_sure pc = some q → decode cX12_sure pc = .ok (q.1, zk_len q.1 q.2) := zk_cd_ok (by decide +kernel)
def cdX12_likeliest_ : List (Nat × Instr × Nat) := [(0, .aload_n 0, 0), (1, .iload_n 1, 0), (2, .invokevirtual 132, 0), (5, .ifCond .eq 12, 0), (8, .iload_n 2, 0), (9, .iconst 0, 0), (10, .iconst 1, 0), (11, .invokestatic 125, 0), (14, .ifCond .ne 5, 0), (17, .iconst (-1), 0), (18, .ireturn, 0), (19, .iload_n 2, 0), (20, .ifCond .ne 11, 0), (23, .aload_n 0, 0), (24, .iload_n 1, 0), (25, .invokevirtual 288, 0), (28, .goto 8, 0), (31, .aload_n 0, 0), (32, .iload_n 1, 0), (33, .invokevirtual 291, 0), (36, .ireturn, 0)]
theorem cdX12_likeliest__ok : ∀ pc q, zk_at cdX12_likeliest_ pc = some q → decode cX12_likeliest_ pc = .ok (q.1, zk_len q.1 q.2) := zk_cd_ok (by decide +kernel)
def cdX12_allByOne : List (Nat × Instr × Nat) := [(0, .aload_n 0, 0), (1, .iload_n 1, 0), (2, .invokevirtual 294, 0), (5, .ifCond .ne 5, 0), (8, .iconst (-1), 0), (9, .ireturn, 0), (10, .iconst 1, 0), (11, .aload_n 0, 0), (12, .getfield 121, 0), (15, .ishl, 0), (16, .iconst 1, 0), (17, .isub, 0), (18, .istore_n 2, 0), (19, .iconst 0, 0), (20, .istore_n 3, 0), (21, .iload_n 3, 0), (22, .aload_n 0, 0), (23, .getfield 129, 0), (26, .if_icmp .ge 25, 0), (29, .iload_n 1, 0), (30, .iload_n 3, 0), (31, .invokestatic 247, 0), (34, .ifCond .eq 11, 0), (37, .iload_n 2, 0), (38, .aload_n 0, 0), (39, .iload_n 3, 0), (40, .invokevirtual 273, 0), (43, .iand, 0), (44, .istore_n 2, 0), (45, .iinc 3 1, 0), (48, .goto (-27), 0), (51, .iload_n 2, 0), (52, .ireturn, 0)]
theorem cdX12_allByOne_ok : ∀ pc q, zk_at cdX12_allByOne pc = some q → decode cX12_allByOne pc = .ok (q.1, zk_len q.1 q.2) := zk_cd_ok (by decide +kernel)
def cdX12_areHands : List (Nat × Instr × Nat) := [(0, .iconst 0, 0), (1, .istore_n 3, 0), (2, .iload_n 3, 0), (3, .aload_n 0, 0), (4, .getfield 129, 0), (7, .if_icmp .ge 29, 0), (10, .iload_n 1, 0), (11, .iload_n 3, 0), (12, .invokestatic 247, 0), (15, .ifCond .eq 15, 0), (18, .aload_n 0, 0), (19, .iload_n 3, 0), (20, .invokevirtual 273, 0), (23, .iload_n 2, 0), (24, .iand, 0), (25, .ifCond .ne 5, 0), (28, .iconst 0, 0), (29, .ireturn, 0), (30, .iinc 3 1, 0), (33, .goto (-31), 0), (36, .iconst 1, 0), (37, .ireturn, 0)]
theorem cdX12_areHands_ok : ∀ pc q, zk_at cdX12_areHands pc = some q → decode cX12_areHands pc = .ok (q.1, zk_len q.1 q.2) := zk_cd_ok (by decide +kernel)
def cdX12_hands : List (Nat × Instr × Nat) := [(0, .aload_n 0, 0), (1, .iload_n 1, 0), (2, .invokevirtual 294, 0), (5, .ifCond .eq 12, 0), (8, .iload_n 2, 0), (9, .iconst 0, 0), (10, .iconst 1, 0), (11, .invokestatic 125, 0), (14, .ifCond .ne 5, 0), (17, .iconst (-1), 0), (18, .ireturn, 0), (19, .bipush (-2), 0), (21, .istore_n 3, 0), (22, .iconst 0, 0), (23, .istore 4, 0), (25, .iload 4, 0), (27, .iconst 1, 0), (28, .aload_n 0, 0), (29, .getfield 121, 0), (32, .ishl, 0), (33, .if_icmp .ge 40, 0), (36, .iload_n 3, 0), (37, .bipush (-2), 0), (39, .if_icmp .eq 15, 0), (42, .iload 4, 0), (44, .invokestatic 297, 0), (47, .iload_n 3, 0), (48, .invokestatic 297, 0), (51, .if_icmp .ge 16, 0), (54, .aload_n 0, 0), (55, .iload_n 1, 0), (56, .iload 4, 0), (58, .invokevirtual 302, 0), (61, .ifCond .eq 6, 0), (64, .iload 4, 0), (66, .istore_n 3, 0), (67, .iinc 4 1, 0), (70, .goto (-45), 0), (73, .iload_n 3, 0), (74, .bipush (-2), 0), (76, .if_icmp .eq 8, 0), (79, .iload_n 2, 0), (80, .iconst 1, 0), (81, .if_icmp .ne 7, 0), (84, .iload_n 3, 0), (85, .goto 7, 0), (88, .iload_n 3, 0), (89, .invokestatic 297, 0), (92, .ireturn, 0)]
theorem cdX12_hands_ok : ∀ pc q, zk_at cdX12_hands pc = some q → decode cX12_hands pc = .ok (q.1, zk_len q.1 q.2) := zk_cd_ok (by decide +kernel)
def cdX12_unlikes : List (Nat × Instr × Nat) := [(0, .iload_n 2, 0), (1, .aload_n 0, 0), (2, .getfield 129, 0), (5, .if_icmp .ne 5, 0), (8, .iconst 1, 0), (9, .ireturn, 0), (10, .iload_n 1, 0), (11, .iload_n 2, 0), (12, .invokestatic 247, 0), (15, .ifCond .ne 13, 0), (18, .aload_n 0, 0), (19, .iload_n 1, 0), (20, .iload_n 2, 0), (21, .iconst 1, 0), (22, .iadd, 0), (23, .iload_n 3, 0), (24, .invokevirtual 305, 0), (27, .ireturn, 0), (28, .iconst 0, 0), (29, .istore 4, 0), (31, .iconst 0, 0), (32, .istore 5, 0), (34, .iload 5, 0), (36, .aload_n 0, 0), (37, .getfield 121, 0), (40, .if_icmp .ge 47, 0), (43, .iload_n 3, 0), (44, .iload 5, 0), (46, .invokestatic 247, 0), (49, .ifCond .ne 32, 0), (52, .aload_n 0, 0), (53, .iload 5, 0), (55, .iload_n 2, 0), (56, .invokevirtual 253, 0), (59, .ifCond .eq 22, 0), (62, .iload 4, 0), (64, .aload_n 0, 0), (65, .iload_n 1, 0), (66, .iload_n 2, 0), (67, .iconst 1, 0), (68, .iadd, 0), (69, .iload_n 3, 0), (70, .iconst 1, 0), (71, .iload 5, 0), (73, .ishl, 0), (74, .ior, 0), (75, .invokevirtual 305, 0), (78, .iadd, 0), (79, .istore 4, 0), (81, .iinc 5 1, 0), (84, .goto (-50), 0), (87, .iload 4, 0), (89, .ireturn, 0)]
theorem cdX12_unlikes_ok : ∀ pc q, zk_at cdX12_unlikes pc = some q → decode cX12_unlikes pc = .ok (q.1, zk_len q.1 q.2) := zk_cd_ok (by decide +kernel)
def cdX12_unlike : List (Nat × Instr × Nat) := [(0, .aload_n 0, 0), (1, .iload_n 1, 0), (2, .invokevirtual 294, 0), (5, .ifCond .eq 13, 0), (8, .aload_n 0, 0), (9, .iload_n 1, 0), (10, .iconst 0, 0), (11, .iconst 0, 0), (12, .invokevirtual 305, 0), (15, .goto 4, 0), (18, .iconst (-1), 0), (19, .ireturn, 0)]
theorem cdX12_unlike_ok : ∀ pc q, zk_at cdX12_unlike pc = some q → decode cX12_unlike pc = .ok (q.1, zk_len q.1 q.2) := zk_cd_ok (by decide +kernel)
def cdX12_tellsOn : List (Nat × Instr × Nat) := [(0, .aload_n 0, 0), (1, .getfield 115, 0), (4, .iconst 0, 0), (5, .iconst 0, 0), (6, .iastore, 0), (7, .iconst 0, 0), (8, .istore_n 2, 0), (9, .iload_n 2, 0), (10, .aload_n 0, 0), (11, .getfield 121, 0), (14, .if_icmp .ge 34, 0), (17, .aload_n 0, 0), (18, .getfield 27, 0), (21, .iload_n 2, 0), (22, .iaload, 0), (23, .iload_n 1, 0), (24, .invokestatic 247, 0), (27, .ifCond .eq 15, 0), (30, .aload_n 0, 0), (31, .getfield 115, 0), (34, .iconst 0, 0), (35, .dup2, 0), (36, .iaload, 0), (37, .iconst 1, 0), (38, .iload_n 2, 0), (39, .ishl, 0), (40, .ior, 0), (41, .iastore, 0), (42, .iinc 2 1, 0), (45, .goto (-36), 0), (48, .iconst 1, 0), (49, .istore_n 2, 0), (50, .iload_n 2, 0), (51, .bipush 10, 0), (53, .if_icmp .ge 78, 0), (56, .aload_n 0, 0), (57, .getfield 115, 0), (60, .iload_n 2, 0), (61, .aload_n 0, 0), (62, .getfield 115, 0), (65, .iload_n 2, 0), (66, .iconst 1, 0), (67, .isub, 0), (68, .iaload, 0), (69, .iastore, 0), (70, .iconst 0, 0), (71, .istore_n 3, 0), (72, .iload_n 3, 0), (73, .aload_n 0, 0), (74, .getfield 121, 0), (77, .if_icmp .ge 48, 0), (80, .aload_n 0, 0), (81, .getfield 115, 0), (84, .iload_n 2, 0), (85, .iconst 1, 0), (86, .isub, 0), (87, .iaload, 0), (88, .iload_n 3, 0), (89, .invokestatic 247, 0), (92, .ifCond .eq 27, 0), (95, .aload_n 0, 0), (96, .getfield 115, 0), (99, .iload_n 2, 0), (100, .dup2, 0), (101, .iaload, 0), (102, .aload_n 0, 0), (103, .getfield 24, 0), (106, .iload_n 3, 0), (107, .iaload, 0), (108, .iconst 1, 0), (109, .aload_n 0, 0), (110, .getfield 121, 0), (113, .ishl, 0), (114, .iconst 1, 0), (115, .isub, 0), (116, .iand, 0), (117, .ior, 0), (118, .iastore, 0), (119, .iinc 3 1, 0), (122, .goto (-50), 0), (125, .iinc 2 1, 0), (128, .goto (-78), 0), (131, .return_, 0)]
theorem cdX12_tellsOn_ok : ∀ pc q, zk_at cdX12_tellsOn pc = some q → decode cX12_tellsOn pc = .ok (q.1, zk_len q.1 q.2) := zk_cd_ok (by decide +kernel)
def cdX12_evenings : List (Nat × Instr × Nat) := [(0, .iload_n 1, 0), (1, .invokestatic 308, 0), (4, .ifCond .eq 13, 0), (7, .iload_n 2, 0), (8, .iconst 0, 0), (9, .bipush 9, 0), (11, .invokestatic 125, 0), (14, .ifCond .ne 5, 0), (17, .iconst (-1), 0), (18, .ireturn, 0), (19, .aload_n 0, 0), (20, .iload_n 1, 0), (21, .invokevirtual 311, 0), (24, .aload_n 0, 0), (25, .getfield 115, 0), (28, .iload_n 2, 0), (29, .iaload, 0), (30, .ireturn, 0)]
theorem cdX12_evenings_ok : ∀ pc q, zk_at cdX12_evenings pc = some q → decode cX12_evenings pc = .ok (q.1, zk_len q.1 q.2) := zk_cd_ok (by decide +kernel)
def cdX12_hears : List (Nat × Instr × Nat) := [(0, .iload_n 1, 0), (1, .invokestatic 308, 0), (4, .ifCond .eq 11, 0), (7, .aload_n 0, 0), (8, .iload_n 2, 0), (9, .invokevirtual 136, 0), (12, .ifCond .ne 5, 0), (15, .iconst (-1), 0), (16, .ireturn, 0), (17, .aload_n 0, 0), (18, .iload_n 1, 0), (19, .invokevirtual 311, 0), (22, .iconst 0, 0), (23, .istore_n 3, 0), (24, .iload_n 3, 0), (25, .bipush 10, 0), (27, .if_icmp .ge 24, 0), (30, .aload_n 0, 0), (31, .getfield 115, 0), (34, .iload_n 3, 0), (35, .iaload, 0), (36, .iload_n 2, 0), (37, .invokestatic 247, 0), (40, .ifCond .eq 5, 0), (43, .iload_n 3, 0), (44, .ireturn, 0), (45, .iinc 3 1, 0), (48, .goto (-24), 0), (51, .bipush (-2), 0), (53, .ireturn, 0)]
theorem cdX12_hears_ok : ∀ pc q, zk_at cdX12_hears pc = some q → decode cX12_hears pc = .ok (q.1, zk_len q.1 q.2) := zk_cd_ok (by decide +kernel)
def cdX12_saysYes : List (Nat × Instr × Nat) := [(0, .iload_n 3, 0), (1, .bipush 8, 0), (3, .if_icmp .ge 14, 0), (6, .aload_n 0, 0), (7, .getfield 27, 0), (10, .iload_n 1, 0), (11, .iaload, 0), (12, .iload_n 3, 0), (13, .invokestatic 247, 0), (16, .ireturn, 0), (17, .iload_n 3, 0), (18, .bipush 12, 0), (20, .if_icmp .ge 24, 0), (23, .aload_n 0, 0), (24, .getfield 18, 0), (27, .iload_n 1, 0), (28, .iaload, 0), (29, .iload_n 3, 0), (30, .bipush 8, 0), (32, .isub, 0), (33, .if_icmp .ne 7, 0), (36, .iconst 1, 0), (37, .goto 22, 0), (40, .iconst 0, 0), (41, .goto 18, 0), (44, .aload_n 0, 0), (45, .getfield 24, 0), (48, .iload_n 1, 0), (49, .iaload, 0), (50, .aload_n 0, 0), (51, .getfield 30, 0), (54, .iload_n 2, 0), (55, .iaload, 0), (56, .invokestatic 247, 0), (59, .ireturn, 0)]
theorem cdX12_saysYes_ok : ∀ pc q, zk_at cdX12_saysYes pc = some q → decode cX12_saysYes pc = .ok (q.1, zk_len q.1 q.2) := zk_cd_ok (by decide +kernel)
def cdX12_greater : List (Nat × Instr × Nat) := [(0, .iconst 0, 0), (1, .istore_n 3, 0), (2, .iconst 0, 0), (3, .istore 4, 0), (5, .iload 4, 0), (7, .aload_n 0, 0), (8, .getfield 121, 0), (11, .if_icmp .ge 30, 0), (14, .aload_n 0, 0), (15, .iload 4, 0), (17, .iload_n 1, 0), (18, .iload_n 2, 0), (19, .invokevirtual 315, 0), (22, .ifCond .eq 13, 0), (25, .iload_n 3, 0), (26, .aload_n 0, 0), (27, .iload 4, 0), (29, .iload_n 1, 0), (30, .invokevirtual 270, 0), (33, .iadd, 0), (34, .istore_n 3, 0), (35, .iinc 4 1, 0), (38, .goto (-33), 0), (41, .iload_n 3, 0), (42, .aload_n 0, 0), (43, .iload_n 1, 0), (44, .invokevirtual 279, 0), (47, .iload_n 3, 0), (48, .isub, 0), (49, .invokestatic 267, 0), (52, .ireturn, 0)]
theorem cdX12_greater_ok : ∀ pc q, zk_at cdX12_greater pc = some q → decode cX12_greater pc = .ok (q.1, zk_len q.1 q.2) := zk_cd_ok (by decide +kernel)
def cdX12_ask : List (Nat × Instr × Nat) := [(0, .aload_n 0, 0), (1, .iload_n 1, 0), (2, .invokevirtual 132, 0), (5, .ifCond .eq 12, 0), (8, .iload_n 2, 0), (9, .iconst 0, 0), (10, .iconst 1, 0), (11, .invokestatic 125, 0), (14, .ifCond .ne 5, 0), (17, .iconst (-1), 0), (18, .ireturn, 0), (19, .iconst 0, 0), (20, .istore_n 3, 0), (21, .iconst 1, 0), (22, .istore 4, 0), (24, .iload 4, 0), (26, .bipush 13, 0), (28, .if_icmp .ge 28, 0), (31, .aload_n 0, 0), (32, .iload_n 1, 0), (33, .iload 4, 0), (35, .invokevirtual 318, 0), (38, .aload_n 0, 0), (39, .iload_n 1, 0), (40, .iload_n 3, 0), (41, .invokevirtual 318, 0), (44, .if_icmp .ge 6, 0), (47, .iload 4, 0), (49, .istore_n 3, 0), (50, .iinc 4 1, 0), (53, .goto (-29), 0), (56, .iload_n 2, 0), (57, .ifCond .ne 7, 0), (60, .iload_n 3, 0), (61, .goto 9, 0), (64, .aload_n 0, 0), (65, .iload_n 1, 0), (66, .iload_n 3, 0), (67, .invokevirtual 318, 0), (70, .ireturn, 0)]
theorem cdX12_ask_ok : ∀ pc q, zk_at cdX12_ask pc = some q → decode cX12_ask pc = .ok (q.1, zk_len q.1 q.2) := zk_cd_ok (by decide +kernel)
def cdX12_worthOf : List (Nat × Instr × Nat) := [(0, .aload_n 0, 0), (1, .iload_n 2, 0), (2, .invokevirtual 279, 0), (5, .istore_n 3, 0), (6, .aload_n 0, 0), (7, .iload_n 1, 0), (8, .iload_n 2, 0), (9, .invokevirtual 270, 0), (12, .istore 4, 0), (14, .iload_n 3, 0), (15, .ifCond .ne 7, 0), (18, .iconst 0, 0), (19, .goto 30, 0), (22, .sipush 1000, 0), (25, .aload_n 0, 0), (26, .getfield 51, 0), (29, .iconst 1, 0), (30, .iaload, 0), (31, .iload 4, 0), (33, .imul, 0), (34, .aload_n 0, 0), (35, .getfield 51, 0), (38, .iconst 2, 0), (39, .iaload, 0), (40, .iload_n 3, 0), (41, .iload 4, 0), (43, .isub, 0), (44, .imul, 0), (45, .isub, 0), (46, .imul, 0), (47, .iload_n 3, 0), (48, .idiv, 0), (49, .ireturn, 0)]
theorem cdX12_worthOf_ok : ∀ pc q, zk_at cdX12_worthOf pc = some q → decode cX12_worthOf pc = .ok (q.1, zk_len q.1 q.2) := zk_cd_ok (by decide +kernel)
def cdX12_worth : List (Nat × Instr × Nat) := [(0, .aload_n 0, 0), (1, .iload_n 1, 0), (2, .invokevirtual 276, 0), (5, .ifCond .eq 18, 0), (8, .aload_n 0, 0), (9, .iload_n 1, 0), (10, .bipush 10, 0), (12, .irem, 0), (13, .iload_n 1, 0), (14, .bipush 10, 0), (16, .idiv, 0), (17, .invokevirtual 321, 0), (20, .goto 5, 0), (23, .ldc 168, 0), (25, .ireturn, 0)]
theorem cdX12_worth_ok : ∀ pc q, zk_at cdX12_worth pc = some q → decode cX12_worth pc = .ok (q.1, zk_len q.1 q.2) := zk_cd_ok (by decide +kernel)
def cdX12_thank : List (Nat × Instr × Nat) := [(0, .aload_n 0, 0), (1, .iload_n 1, 0), (2, .invokevirtual 132, 0), (5, .ifCond .ne 5, 0), (8, .iconst (-1), 0), (9, .ireturn, 0), (10, .bipush (-2), 0), (12, .istore_n 2, 0), (13, .iconst 0, 0), (14, .istore_n 3, 0), (15, .iconst 0, 0), (16, .istore 4, 0), (18, .iload 4, 0), (20, .aload_n 0, 0), (21, .getfield 121, 0), (24, .if_icmp .ge 34, 0), (27, .aload_n 0, 0), (28, .iload 4, 0), (30, .iload_n 1, 0), (31, .invokevirtual 321, 0), (34, .iload_n 3, 0), (35, .if_icmp .gt 6, 0), (38, .goto 14, 0), (41, .aload_n 0, 0), (42, .iload 4, 0), (44, .iload_n 1, 0), (45, .invokevirtual 321, 0), (48, .istore_n 3, 0), (49, .iload 4, 0), (51, .istore_n 2, 0), (52, .iinc 4 1, 0), (55, .goto (-37), 0), (58, .iload_n 2, 0), (59, .ireturn, 0)]
theorem cdX12_thank_ok : ∀ pc q, zk_at cdX12_thank pc = some q → decode cX12_thank pc = .ok (q.1, zk_len q.1 q.2) := zk_cd_ok (by decide +kernel)
def cdX12_next : List (Nat × Instr × Nat) := [(0, .aload_n 0, 0), (1, .iload_n 1, 0), (2, .invokevirtual 132, 0), (5, .ifCond .eq 12, 0), (8, .iload_n 2, 0), (9, .iconst 0, 0), (10, .iconst 1, 0), (11, .invokestatic 125, 0), (14, .ifCond .ne 5, 0), (17, .iconst (-1), 0), (18, .ireturn, 0), (19, .aload_n 0, 0), (20, .getfield 39, 0), (23, .iload_n 1, 0), (24, .iaload, 0), (25, .istore_n 3, 0), (26, .bipush (-2), 0), (28, .istore 4, 0), (30, .bipush (-2), 0), (32, .istore 5, 0), (34, .iconst 0, 0), (35, .istore 6, 0), (37, .iload 6, 0), (39, .bipush 8, 0), (41, .if_icmp .ge 57, 0), (44, .aload_n 0, 0), (45, .getfield 39, 0), (48, .iload_n 1, 0), (49, .iload 6, 0), (51, .iastore, 0), (52, .aload_n 0, 0), (53, .iload_n 1, 0), (54, .invokevirtual 273, 0), (57, .invokestatic 297, 0), (60, .istore 7, 0), (62, .iload 7, 0), (64, .ifCond .eq 28, 0), (67, .iload 4, 0), (69, .bipush (-2), 0), (71, .if_icmp .eq 13, 0), (74, .iload 7, 0), (76, .iload 5, 0), (78, .if_icmp .lt 6, 0), (81, .goto 11, 0), (84, .iload 7, 0), (86, .istore 5, 0), (88, .iload 6, 0), (90, .istore 4, 0), (92, .iinc 6 1, 0), (95, .goto (-58), 0), (98, .aload_n 0, 0), (99, .getfield 39, 0), (102, .iload_n 1, 0), (103, .iload_n 3, 0), (104, .iastore, 0), (105, .iload_n 2, 0), (106, .ifCond .ne 8, 0), (109, .iload 4, 0), (111, .goto 5, 0), (114, .iload 5, 0), (116, .ireturn, 0)]
theorem cdX12_next_ok : ∀ pc q, zk_at cdX12_next pc = some q → decode cX12_next pc = .ok (q.1, zk_len q.1 q.2) := zk_cd_ok (by decide +kernel)
def cdX12_writes : List (Nat × Instr × Nat) := [(0, .aload_n 0, 0), (1, .bipush (-2), 0), (3, .putfield 324, 0), (6, .aload_n 0, 0), (7, .iload_n 2, 0), (8, .iload_n 3, 0), (9, .iconst 0, 0), (10, .invokevirtual 155, 0), (13, .pop, 0), (14, .iconst 0, 0), (15, .istore 5, 0), (17, .iload 5, 0), (19, .sipush 842, 0), (22, .if_icmp .ge 171, 0), (25, .iload 5, 0), (27, .invokestatic 152, 0), (30, .ifCond .eq 157, 0), (33, .iload 5, 0), (35, .bipush 99, 0), (37, .if_icmp .le 22, 0), (40, .aload_n 0, 0), (41, .getfield 27, 0), (44, .iload_n 1, 0), (45, .iaload, 0), (46, .iload 5, 0), (48, .bipush 100, 0), (50, .idiv, 0), (51, .iconst 1, 0), (52, .isub, 0), (53, .invokestatic 247, 0), (56, .ifCond .eq 131, 0), (59, .iload 5, 0), (61, .bipush 10, 0), (63, .irem, 0), (64, .iconst 1, 0), (65, .if_icmp .ne 15, 0), (68, .aload_n 0, 0), (69, .iload_n 1, 0), (70, .iload_n 3, 0), (71, .invokevirtual 250, 0), (74, .ifCond .ne 6, 0), (77, .goto 110, 0), (80, .aload_n 0, 0), (81, .aload_n 0, 0), (82, .getfield 129, 0), (85, .iconst 1, 0), (86, .isub, 0), (87, .iload 5, 0), (89, .invokevirtual 148, 0), (92, .aload_n 0, 0), (93, .iload_n 1, 0), (94, .aload_n 0, 0), (95, .getfield 129, 0), (98, .iconst 1, 0), (99, .isub, 0), (100, .invokevirtual 270, 0), (103, .istore 6, 0), (105, .aload_n 0, 0), (106, .aload_n 0, 0), (107, .getfield 129, 0), (110, .iconst 1, 0), (111, .isub, 0), (112, .invokevirtual 279, 0), (115, .istore 7, 0), (117, .iload 7, 0), (119, .aload_n 0, 0), (120, .getfield 327, 0), (123, .imul, 0), (124, .aload_n 0, 0), (125, .getfield 330, 0), (128, .iload 6, 0), (130, .imul, 0), (131, .isub, 0), (132, .istore 8, 0), (134, .iload 7, 0), (136, .ifCond .eq 51, 0), (139, .aload_n 0, 0), (140, .getfield 324, 0), (143, .bipush (-2), 0), (145, .if_icmp .eq 24, 0), (148, .iload 4, 0), (150, .ifCond .ne 11, 0), (153, .iload 8, 0), (155, .ifCond .lt 14, 0), (158, .goto 29, 0), (161, .iload 8, 0), (163, .ifCond .gt 6, 0), (166, .goto 21, 0), (169, .aload_n 0, 0), (170, .iload 5, 0), (172, .putfield 324, 0), (175, .aload_n 0, 0), (176, .iload 6, 0), (178, .putfield 327, 0), (181, .aload_n 0, 0), (182, .iload 7, 0), (184, .putfield 330, 0), (187, .iinc 5 1, 0), (190, .goto (-173), 0), (193, .aload_n 0, 0), (194, .dup, 0), (195, .getfield 129, 0), (198, .iconst 1, 0), (199, .isub, 0), (200, .putfield 129, 0), (203, .return_, 0)]
theorem cdX12_writes_ok : ∀ pc q, zk_at cdX12_writes pc = some q → decode cX12_writes pc = .ok (q.1, zk_len q.1 q.2) := zk_cd_ok (by decide +kernel)
def cdX12_write : List (Nat × Instr × Nat) := [(0, .aload_n 0, 0), (1, .iload_n 1, 0), (2, .invokevirtual 333, 0), (5, .ifCond .eq 19, 0), (8, .iload_n 2, 0), (9, .invokestatic 158, 0), (12, .ifCond .eq 12, 0), (15, .iload_n 3, 0), (16, .iconst 0, 0), (17, .iconst 1, 0), (18, .invokestatic 125, 0), (21, .ifCond .ne 5, 0), (24, .iconst (-1), 0), (25, .ireturn, 0), (26, .aload_n 0, 0), (27, .iload_n 1, 0), (28, .bipush 10, 0), (30, .idiv, 0), (31, .iload_n 1, 0), (32, .bipush 10, 0), (34, .irem, 0), (35, .iload_n 2, 0), (36, .iload_n 3, 0), (37, .invokevirtual 336, 0), (40, .aload_n 0, 0), (41, .getfield 324, 0), (44, .ireturn, 0)]
theorem cdX12_write_ok : ∀ pc q, zk_at cdX12_write pc = some q → decode cX12_write pc = .ok (q.1, zk_len q.1 q.2) := zk_cd_ok (by decide +kernel)
def cdX12_written : List (Nat × Instr × Nat) := [(0, .aload_n 0, 0), (1, .iload_n 1, 0), (2, .invokevirtual 333, 0), (5, .ifCond .eq 30, 0), (8, .iload_n 2, 0), (9, .invokestatic 158, 0), (12, .ifCond .eq 23, 0), (15, .iload_n 3, 0), (16, .ifCond .lt 19, 0), (19, .iload_n 3, 0), (20, .bipush 10, 0), (22, .idiv, 0), (23, .iconst 1, 0), (24, .if_icmp .gt 11, 0), (27, .iload_n 3, 0), (28, .bipush 10, 0), (30, .irem, 0), (31, .iconst 1, 0), (32, .if_icmp .le 7, 0), (35, .ldc2_w 286, 0), (38, .lreturn, 0), (39, .aload_n 0, 0), (40, .iload_n 1, 0), (41, .bipush 10, 0), (43, .idiv, 0), (44, .iload_n 1, 0), (45, .bipush 10, 0), (47, .irem, 0), (48, .iload_n 2, 0), (49, .iload_n 3, 0), (50, .bipush 10, 0), (52, .idiv, 0), (53, .invokevirtual 336, 0), (56, .aload_n 0, 0), (57, .getfield 324, 0), (60, .bipush (-2), 0), (62, .if_icmp .ne 11, 0), (65, .iload_n 3, 0), (66, .bipush 10, 0), (68, .irem, 0), (69, .i2l, 0), (70, .goto 18, 0), (73, .aload_n 0, 0), (74, .getfield 327, 0), (77, .aload_n 0, 0), (78, .getfield 330, 0), (81, .iload_n 3, 0), (82, .bipush 10, 0), (84, .irem, 0), (85, .invokestatic 282, 0), (88, .lreturn, 0)]
theorem cdX12_written_ok : ∀ pc q, zk_at cdX12_written pc = some q → decode cX12_written pc = .ok (q.1, zk_len q.1 q.2) := zk_cd_ok (by decide +kernel)
def cdX12_noRow : List (Nat × Instr × Nat) := [(0, .aload_n 0, 0), (1, .getfield 105, 0), (4, .iload_n 1, 0), (5, .iaload, 0), (6, .iconst (-1), 0), (7, .if_icmp .ne 8, 0), (10, .bipush (-11), 0), (12, .goto 19, 0), (15, .aload_n 0, 0), (16, .getfield 105, 0), (19, .iload_n 1, 0), (20, .iaload, 0), (21, .iload_n 2, 0), (22, .if_icmp .eq 8, 0), (25, .bipush (-12), 0), (27, .goto 4, 0), (30, .iconst 0, 0), (31, .ireturn, 0)]
theorem cdX12_noRow_ok : ∀ pc q, zk_at cdX12_noRow pc = some q → decode cX12_noRow pc = .ok (q.1, zk_len q.1 q.2) := zk_cd_ok (by decide +kernel)
def cdX12_toldAt : List (Nat × Instr × Nat) := [(0, .aload_n 0, 0), (1, .getfield 111, 0), (4, .bipush 60, 0), (6, .iload_n 1, 0), (7, .imul, 0), (8, .iload_n 2, 0), (9, .iadd, 0), (10, .laload, 0), (11, .l2i, 0), (12, .ireturn, 0)]
theorem cdX12_toldAt_ok : ∀ pc q, zk_at cdX12_toldAt pc = some q → decode cX12_toldAt pc = .ok (q.1, zk_len q.1 q.2) := zk_cd_ok (by decide +kernel)
def cdX12_most : List (Nat × Instr × Nat) := [(0, .bipush (-2), 0), (2, .istore_n 1, 0), (3, .iconst 0, 0), (4, .istore_n 2, 0), (5, .iload_n 2, 0), (6, .aload_n 0, 0), (7, .getfield 121, 0), (10, .if_icmp .ge 36, 0), (13, .aload_n 0, 0), (14, .getfield 118, 0), (17, .iload_n 2, 0), (18, .iaload, 0), (19, .iload_n 1, 0), (20, .bipush (-2), 0), (22, .if_icmp .ne 7, 0), (25, .iconst 0, 0), (26, .goto 9, 0), (29, .aload_n 0, 0), (30, .getfield 118, 0), (33, .iload_n 1, 0), (34, .iaload, 0), (35, .if_icmp .le 5, 0), (38, .iload_n 2, 0), (39, .istore_n 1, 0), (40, .iinc 2 1, 0), (43, .goto (-38), 0), (46, .iload_n 1, 0), (47, .ireturn, 0)]
theorem cdX12_most_ok : ∀ pc q, zk_at cdX12_most pc = some q → decode cX12_most pc = .ok (q.1, zk_len q.1 q.2) := zk_cd_ok (by decide +kernel)
def cdX12_lookedFrom : List (Nat × Instr × Nat) := [(0, .iconst 0, 0), (1, .istore_n 3, 0), (2, .iload_n 3, 0), (3, .bipush 8, 0), (5, .if_icmp .ge 16, 0), (8, .aload_n 0, 0), (9, .getfield 118, 0), (12, .iload_n 3, 0), (13, .iconst 0, 0), (14, .iastore, 0), (15, .iinc 3 1, 0), (18, .goto (-16), 0), (21, .iconst 0, 0), (22, .istore_n 3, 0), (23, .iload_n 3, 0), (24, .aload_n 0, 0), (25, .getfield 108, 0), (28, .iload_n 1, 0), (29, .iaload, 0), (30, .if_icmp .ge 46, 0), (33, .aload_n 0, 0), (34, .aload_n 0, 0), (35, .iload_n 1, 0), (36, .iload_n 3, 0), (37, .invokevirtual 340, 0), (40, .invokevirtual 136, 0), (43, .ifCond .eq 27, 0), (46, .aload_n 0, 0), (47, .getfield 118, 0), (50, .aload_n 0, 0), (51, .iload_n 1, 0), (52, .iload_n 3, 0), (53, .invokevirtual 340, 0), (56, .dup2, 0), (57, .iaload, 0), (58, .iload_n 3, 0), (59, .iload_n 2, 0), (60, .if_icmp .ge 7, 0), (63, .iconst (-1), 0), (64, .goto 4, 0), (67, .iconst 1, 0), (68, .iadd, 0), (69, .iastore, 0), (70, .iinc 3 1, 0), (73, .goto (-50), 0), (76, .return_, 0)]
theorem cdX12_lookedFrom_ok : ∀ pc q, zk_at cdX12_lookedFrom pc = some q → decode cX12_lookedFrom pc = .ok (q.1, zk_len q.1 q.2) := zk_cd_ok (by decide +kernel)
def cdX12_strange : List (Nat × Instr × Nat) := [(0, .iconst 0, 0), (1, .istore_n 2, 0), (2, .iload_n 2, 0), (3, .aload_n 0, 0), (4, .getfield 108, 0), (7, .iload_n 1, 0), (8, .iaload, 0), (9, .if_icmp .ge 38, 0), (12, .aload_n 0, 0), (13, .aload_n 0, 0), (14, .iload_n 1, 0), (15, .iload_n 2, 0), (16, .invokevirtual 340, 0), (19, .invokevirtual 136, 0), (22, .ifCond .eq 19, 0), (25, .aload_n 0, 0), (26, .aload_n 0, 0), (27, .iload_n 1, 0), (28, .iload_n 2, 0), (29, .invokevirtual 340, 0), (32, .iload_n 2, 0), (33, .invokevirtual 250, 0), (36, .ifCond .ne 5, 0), (39, .iload_n 2, 0), (40, .ireturn, 0), (41, .iinc 2 1, 0), (44, .goto (-42), 0), (47, .bipush (-2), 0), (49, .ireturn, 0)]
theorem cdX12_strange_ok : ∀ pc q, zk_at cdX12_strange pc = some q → decode cX12_strange pc = .ok (q.1, zk_len q.1 q.2) := zk_cd_ok (by decide +kernel)
def cdX12_looks : List (Nat × Instr × Nat) := [(0, .iload_n 1, 0), (1, .invokestatic 143, 0), (4, .ifCond .eq 18, 0), (7, .iload_n 2, 0), (8, .bipush (-2), 0), (10, .aload_n 0, 0), (11, .getfield 121, 0), (14, .iconst 1, 0), (15, .isub, 0), (16, .invokestatic 125, 0), (19, .ifCond .ne 5, 0), (22, .iconst (-1), 0), (23, .ireturn, 0), (24, .aload_n 0, 0), (25, .iload_n 1, 0), (26, .iconst 0, 0), (27, .invokevirtual 343, 0), (30, .istore_n 3, 0), (31, .iload_n 3, 0), (32, .ifCond .ge 5, 0), (35, .iload_n 3, 0), (36, .ireturn, 0), (37, .aload_n 0, 0), (38, .iload_n 1, 0), (39, .iconst 0, 0), (40, .invokevirtual 346, 0), (43, .iload_n 2, 0), (44, .ifCond .lt 12, 0), (47, .aload_n 0, 0), (48, .getfield 118, 0), (51, .iload_n 2, 0), (52, .iaload, 0), (53, .goto 20, 0), (56, .iload_n 2, 0), (57, .iconst (-1), 0), (58, .if_icmp .ne 10, 0), (61, .aload_n 0, 0), (62, .invokevirtual 349, 0), (65, .goto 8, 0), (68, .aload_n 0, 0), (69, .iload_n 1, 0), (70, .invokevirtual 352, 0), (73, .ireturn, 0)]
theorem cdX12_looks_ok : ∀ pc q, zk_at cdX12_looks pc = some q → decode cX12_looks pc = .ok (q.1, zk_len q.1 q.2) := zk_cd_ok (by decide +kernel)
def cdX12_since : List (Nat × Instr × Nat) := [(0, .iload_n 1, 0), (1, .invokestatic 143, 0), (4, .ifCond .eq 10, 0), (7, .iload_n 2, 0), (8, .invokestatic 158, 0), (11, .ifCond .ne 5, 0), (14, .iconst (-1), 0), (15, .ireturn, 0), (16, .aload_n 0, 0), (17, .iload_n 1, 0), (18, .iconst 0, 0), (19, .invokevirtual 343, 0), (22, .istore_n 3, 0), (23, .iload_n 3, 0), (24, .ifCond .ge 5, 0), (27, .iload_n 3, 0), (28, .ireturn, 0), (29, .aload_n 0, 0), (30, .iload_n 1, 0), (31, .iload_n 2, 0), (32, .invokevirtual 346, 0), (35, .aload_n 0, 0), (36, .invokevirtual 349, 0), (39, .ireturn, 0)]
theorem cdX12_since_ok : ∀ pc q, zk_at cdX12_since pc = some q → decode cX12_since pc = .ok (q.1, zk_len q.1 q.2) := zk_cd_ok (by decide +kernel)
def cdX12_canBe : List (Nat × Instr × Nat) := [(0, .iconst 2, 0), (1, .iload_n 2, 0), (2, .imul, 0), (3, .iconst 1, 0), (4, .iadd, 0), (5, .aload_n 0, 0), (6, .getfield 108, 0), (9, .iload_n 1, 0), (10, .iaload, 0), (11, .if_icmp .lt 5, 0), (14, .iconst 0, 0), (15, .ireturn, 0), (16, .aload_n 0, 0), (17, .iload_n 1, 0), (18, .iconst 2, 0), (19, .iload_n 2, 0), (20, .imul, 0), (21, .invokevirtual 340, 0), (24, .istore_n 3, 0), (25, .aload_n 0, 0), (26, .iload_n 1, 0), (27, .iconst 2, 0), (28, .iload_n 2, 0), (29, .imul, 0), (30, .iconst 1, 0), (31, .iadd, 0), (32, .invokevirtual 340, 0), (35, .istore 4, 0), (37, .aload_n 0, 0), (38, .iload_n 3, 0), (39, .invokevirtual 132, 0), (42, .ifCond .ne 5, 0), (45, .iconst 0, 0), (46, .ireturn, 0), (47, .iload 4, 0), (49, .iconst (-1), 0), (50, .if_icmp .ne 19, 0), (53, .aload_n 0, 0), (54, .iload_n 3, 0), (55, .invokevirtual 273, 0), (58, .ifCond .eq 7, 0), (61, .iconst 1, 0), (62, .goto 31, 0), (65, .iconst 0, 0), (66, .goto 27, 0), (69, .aload_n 0, 0), (70, .iload 4, 0), (72, .invokevirtual 136, 0), (75, .ifCond .eq 17, 0), (78, .aload_n 0, 0), (79, .iload 4, 0), (81, .iload_n 3, 0), (82, .invokevirtual 253, 0), (85, .ifCond .eq 7, 0), (88, .iconst 1, 0), (89, .goto 4, 0), (92, .iconst 0, 0), (93, .ireturn, 0)]
theorem cdX12_canBe_ok : ∀ pc q, zk_at cdX12_canBe pc = some q → decode cX12_canBe pc = .ok (q.1, zk_len q.1 q.2) := zk_cd_ok (by decide +kernel)
def cdX12_wrong : List (Nat × Instr × Nat) := [(0, .iconst 0, 0), (1, .istore_n 2, 0), (2, .iconst 2, 0), (3, .iload_n 2, 0), (4, .imul, 0), (5, .aload_n 0, 0), (6, .getfield 108, 0), (9, .iload_n 1, 0), (10, .iaload, 0), (11, .if_icmp .ge 20, 0), (14, .aload_n 0, 0), (15, .iload_n 1, 0), (16, .iload_n 2, 0), (17, .invokevirtual 355, 0), (20, .ifCond .ne 5, 0), (23, .iload_n 2, 0), (24, .ireturn, 0), (25, .iinc 2 1, 0), (28, .goto (-26), 0), (31, .bipush (-2), 0), (33, .ireturn, 0)]
theorem cdX12_wrong_ok : ∀ pc q, zk_at cdX12_wrong pc = some q → decode cX12_wrong pc = .ok (q.1, zk_len q.1 q.2) := zk_cd_ok (by decide +kernel)
def cdX12_judge : List (Nat × Instr × Nat) := [(0, .iload_n 1, 0), (1, .invokestatic 143, 0), (4, .ifCond .ne 5, 0), (7, .iconst (-1), 0), (8, .ireturn, 0), (9, .aload_n 0, 0), (10, .iload_n 1, 0), (11, .iconst 1, 0), (12, .invokevirtual 343, 0), (15, .istore_n 2, 0), (16, .iload_n 2, 0), (17, .ifCond .ge 7, 0), (20, .iload_n 2, 0), (21, .goto 8, 0), (24, .aload_n 0, 0), (25, .iload_n 1, 0), (26, .invokevirtual 358, 0), (29, .ireturn, 0)]
theorem cdX12_judge_ok : ∀ pc q, zk_at cdX12_judge pc = some q → decode cX12_judge pc = .ok (q.1, zk_len q.1 q.2) := zk_cd_ok (by decide +kernel)
def cdX12_filled : List (Nat × Instr × Nat) := [(0, .iload_n 1, 0), (1, .invokestatic 143, 0), (4, .ifCond .eq 21, 0), (7, .iload_n 2, 0), (8, .iconst 0, 0), (9, .iconst 1, 0), (10, .invokestatic 125, 0), (13, .ifCond .eq 12, 0), (16, .aload_n 0, 0), (17, .iload_n 1, 0), (18, .iconst 1, 0), (19, .invokevirtual 343, 0), (22, .ifCond .ge 7, 0), (25, .ldc2_w 286, 0), (28, .lreturn, 0), (29, .aload_n 0, 0), (30, .iload_n 1, 0), (31, .invokevirtual 358, 0), (34, .bipush (-2), 0), (36, .if_icmp .eq 5, 0), (39, .lconst 0, 0), (40, .lreturn, 0), (41, .lconst 1, 0), (42, .lstore_n 3, 0), (43, .iconst 0, 0), (44, .istore 5, 0), (46, .iconst 2, 0), (47, .iload 5, 0), (49, .imul, 0), (50, .aload_n 0, 0), (51, .getfield 108, 0), (54, .iload_n 1, 0), (55, .iaload, 0), (56, .if_icmp .ge 91, 0), (59, .aload_n 0, 0), (60, .iload_n 1, 0), (61, .iconst 2, 0), (62, .iload 5, 0), (64, .imul, 0), (65, .invokevirtual 340, 0), (68, .istore 6, 0), (70, .aload_n 0, 0), (71, .iload_n 1, 0), (72, .iconst 2, 0), (73, .iload 5, 0), (75, .imul, 0), (76, .iconst 1, 0), (77, .iadd, 0), (78, .invokevirtual 340, 0), (81, .istore 7, 0), (83, .iload_n 2, 0), (84, .ifCond .ne 29, 0), (87, .lload_n 3, 0), (88, .iload 7, 0), (90, .iconst (-1), 0), (91, .if_icmp .ne 16, 0), (94, .aload_n 0, 0), (95, .iload 6, 0), (97, .invokevirtual 273, 0), (100, .invokestatic 297, 0), (103, .i2l, 0), (104, .goto 4, 0), (107, .lconst 1, 0), (108, .lmul, 0), (109, .lstore_n 3, 0), (110, .goto 31, 0), (113, .lload_n 3, 0), (114, .iload 7, 0), (116, .iconst (-1), 0), (117, .if_icmp .ne 13, 0), (120, .aload_n 0, 0), (121, .iload 6, 0), (123, .invokevirtual 279, 0), (126, .i2l, 0), (127, .goto 12, 0), (130, .aload_n 0, 0), (131, .iload 7, 0), (133, .iload 6, 0), (135, .invokevirtual 270, 0), (138, .i2l, 0), (139, .lmul, 0), (140, .lstore_n 3, 0), (141, .iinc 5 1, 0), (144, .goto (-98), 0), (147, .lload_n 3, 0), (148, .lreturn, 0)]
theorem cdX12_filled_ok : ∀ pc q, zk_at cdX12_filled pc = some q → decode cX12_filled pc = .ok (q.1, zk_len q.1 q.2) := zk_cd_ok (by decide +kernel)
def cdX12_hope : List (Nat × Instr × Nat) := [(0, .aload_n 0, 0), (1, .iload_n 1, 0), (2, .invokevirtual 132, 0), (5, .ifCond .eq 12, 0), (8, .iload_n 2, 0), (9, .iconst 0, 0), (10, .iconst 1, 0), (11, .invokestatic 125, 0), (14, .ifCond .ne 5, 0), (17, .iconst (-1), 0), (18, .ireturn, 0), (19, .bipush (-2), 0), (21, .istore_n 3, 0), (22, .iconst 0, 0), (23, .istore 4, 0), (25, .iconst 0, 0), (26, .istore 5, 0), (28, .iload 5, 0), (30, .aload_n 0, 0), (31, .getfield 121, 0), (34, .if_icmp .ge 80, 0), (37, .iload 4, 0), (39, .aload_n 0, 0), (40, .iload 5, 0), (42, .iload_n 1, 0), (43, .invokevirtual 270, 0), (46, .invokestatic 267, 0), (49, .istore 4, 0), (51, .aload_n 0, 0), (52, .getfield 24, 0), (55, .aload_n 0, 0), (56, .getfield 30, 0), (59, .iload_n 1, 0), (60, .iaload, 0), (61, .iaload, 0), (62, .iload 5, 0), (64, .invokestatic 247, 0), (67, .ifCond .eq 41, 0), (70, .aload_n 0, 0), (71, .iload 5, 0), (73, .iload_n 1, 0), (74, .invokevirtual 270, 0), (77, .ifCond .ne 6, 0), (80, .goto 28, 0), (83, .iload_n 3, 0), (84, .bipush (-2), 0), (86, .if_icmp .eq 19, 0), (89, .aload_n 0, 0), (90, .iload 5, 0), (92, .iload_n 1, 0), (93, .invokevirtual 270, 0), (96, .aload_n 0, 0), (97, .iload_n 3, 0), (98, .iload_n 1, 0), (99, .invokevirtual 270, 0), (102, .if_icmp .le 6, 0), (105, .iload 5, 0), (107, .istore_n 3, 0), (108, .iinc 5 1, 0), (111, .goto (-83), 0), (114, .iload_n 2, 0), (115, .ifCond .ne 5, 0), (118, .iload_n 3, 0), (119, .ireturn, 0), (120, .aload_n 0, 0), (121, .iload_n 1, 0), (122, .invokevirtual 279, 0), (125, .istore 5, 0), (127, .iload_n 3, 0), (128, .bipush (-2), 0), (130, .if_icmp .eq 8, 0), (133, .iload 5, 0), (135, .ifCond .ne 7, 0), (138, .iconst 0, 0), (139, .goto 19, 0), (142, .ldc_w 361, 0), (145, .aload_n 0, 0), (146, .iload_n 3, 0), (147, .iload_n 1, 0), (148, .invokevirtual 270, 0), (151, .iload 4, 0), (153, .isub, 0), (154, .imul, 0), (155, .iload 5, 0), (157, .idiv, 0), (158, .ireturn, 0)]
theorem cdX12_hope_ok : ∀ pc q, zk_at cdX12_hope pc = some q → decode cX12_hope pc = .ok (q.1, zk_len q.1 q.2) := zk_cd_ok (by decide +kernel)
def cdX12_drawn : List (Nat × Instr × Nat) := [(0, .aload_n 0, 0), (1, .iload_n 1, 0), (2, .invokevirtual 132, 0), (5, .ifCond .eq 28, 0), (8, .iload_n 3, 0), (9, .iconst 1, 0), (10, .bipush 50, 0), (12, .invokestatic 125, 0), (15, .ifCond .eq 18, 0), (18, .iload 4, 0), (20, .iconst (-1), 0), (21, .aload_n 0, 0), (22, .getfield 121, 0), (25, .iconst 1, 0), (26, .isub, 0), (27, .invokestatic 125, 0), (30, .ifCond .ne 5, 0), (33, .iconst (-1), 0), (34, .ireturn, 0), (35, .aload_n 0, 0), (36, .iload_n 1, 0), (37, .invokevirtual 279, 0), (40, .istore 5, 0), (42, .iconst 0, 0), (43, .istore 6, 0), (45, .iload 6, 0), (47, .bipush 8, 0), (49, .if_icmp .ge 17, 0), (52, .aload_n 0, 0), (53, .getfield 118, 0), (56, .iload 6, 0), (58, .iconst 0, 0), (59, .iastore, 0), (60, .iinc 6 1, 0), (63, .goto (-18), 0), (66, .iload_n 2, 0), (67, .istore 6, 0), (69, .iconst 0, 0), (70, .istore 7, 0), (72, .iload 7, 0), (74, .iload_n 3, 0), (75, .if_icmp .ge 80, 0), (78, .iload 5, 0), (80, .ifCond .le 75, 0), (83, .iload 6, 0), (85, .ldc_w 362, 0), (88, .imul, 0), (89, .sipush 12345, 0), (92, .iadd, 0), (93, .istore 6, 0), (95, .iload 6, 0), (97, .bipush 8, 0), (99, .iushr, 0), (100, .iload 5, 0), (102, .irem, 0), (103, .istore 8, 0), (105, .iconst 0, 0), (106, .istore 9, 0), (108, .iload 8, 0), (110, .aload_n 0, 0), (111, .iload 9, 0), (113, .iload_n 1, 0), (114, .invokevirtual 270, 0), (117, .if_icmp .lt 21, 0), (120, .iload 8, 0), (122, .aload_n 0, 0), (123, .iload 9, 0), (125, .iinc 9 1, 0), (128, .iload_n 1, 0), (129, .invokevirtual 270, 0), (132, .isub, 0), (133, .istore 8, 0), (135, .goto (-27), 0), (138, .aload_n 0, 0), (139, .getfield 118, 0), (142, .iload 9, 0), (144, .dup2, 0), (145, .iaload, 0), (146, .iconst 1, 0), (147, .iadd, 0), (148, .iastore, 0), (149, .iinc 7 1, 0), (152, .goto (-80), 0), (155, .iload 4, 0), (157, .ifCond .lt 11, 0), (160, .aload_n 0, 0), (161, .getfield 118, 0), (164, .iload 4, 0), (166, .iaload, 0), (167, .ireturn, 0), (168, .iconst 0, 0), (169, .istore 7, 0), (171, .iconst 0, 0), (172, .istore 8, 0), (174, .iload 8, 0), (176, .bipush 8, 0), (178, .if_icmp .ge 23, 0), (181, .iload 7, 0), (183, .aload_n 0, 0), (184, .getfield 118, 0), (187, .iload 8, 0), (189, .iaload, 0), (190, .invokestatic 267, 0), (193, .istore 7, 0), (195, .iinc 8 1, 0), (198, .goto (-24), 0), (201, .iload 7, 0), (203, .ireturn, 0)]
theorem cdX12_drawn_ok : ∀ pc q, zk_at cdX12_drawn pc = some q → decode cX12_drawn pc = .ok (q.1, zk_len q.1 q.2) := zk_cd_ok (by decide +kernel)
def cdX12_pass : List (Nat × Instr × Nat) := [(0, .iload_n 1, 0), (1, .iconst 1, 0), (2, .bipush 99, 0), (4, .invokestatic 125, 0), (7, .ifCond .ne 5, 0), (10, .iconst (-1), 0), (11, .ireturn, 0), (12, .aload_n 0, 0), (13, .getfield 363, 0), (16, .iload_n 1, 0), (17, .iadd, 0), (18, .bipush 99, 0), (20, .if_icmp .le 6, 0), (23, .bipush (-5), 0), (25, .ireturn, 0), (26, .aload_n 0, 0), (27, .dup, 0), (28, .getfield 363, 0), (31, .iload_n 1, 0), (32, .iadd, 0), (33, .putfield 363, 0), (36, .aload_n 0, 0), (37, .getfield 363, 0), (40, .ireturn, 0)]
theorem cdX12_pass_ok : ∀ pc q, zk_at cdX12_pass pc = some q → decode cX12_pass pc = .ok (q.1, zk_len q.1 q.2) := zk_cd_ok (by decide +kernel)
def cdX12_send : List (Nat × Instr × Nat) := [(0, .aload_n 0, 0), (1, .iload_n 1, 0), (2, .invokevirtual 333, 0), (5, .ifCond .eq 10, 0), (8, .iload_n 2, 0), (9, .invokestatic 152, 0), (12, .ifCond .ne 5, 0), (15, .iconst (-1), 0), (16, .ireturn, 0), (17, .iload_n 1, 0), (18, .bipush 10, 0), (20, .idiv, 0), (21, .istore_n 3, 0), (22, .iload_n 2, 0), (23, .bipush 99, 0), (25, .if_icmp .le 21, 0), (28, .aload_n 0, 0), (29, .getfield 27, 0), (32, .iload_n 3, 0), (33, .iaload, 0), (34, .iload_n 2, 0), (35, .bipush 100, 0), (37, .idiv, 0), (38, .iconst 1, 0), (39, .isub, 0), (40, .invokestatic 247, 0), (43, .ifCond .eq 23, 0), (46, .iload_n 2, 0), (47, .bipush 10, 0), (49, .irem, 0), (50, .iconst 1, 0), (51, .if_icmp .ne 17, 0), (54, .aload_n 0, 0), (55, .iload_n 3, 0), (56, .aload_n 0, 0), (57, .getfield 363, 0), (60, .invokevirtual 250, 0), (63, .ifCond .ne 5, 0), (66, .iconst (-1), 0), (67, .ireturn, 0), (68, .aload_n 0, 0), (69, .getfield 129, 0), (72, .bipush 6, 0), (74, .if_icmp .ne 6, 0), (77, .bipush (-3), 0), (79, .ireturn, 0), (80, .aload_n 0, 0), (81, .getfield 87, 0), (84, .iconst 0, 0), (85, .dup2, 0), (86, .iaload, 0), (87, .iconst 1, 0), (88, .iadd, 0), (89, .iastore, 0), (90, .aload_n 0, 0), (91, .iload_n 1, 0), (92, .bipush 10, 0), (94, .irem, 0), (95, .aload_n 0, 0), (96, .getfield 363, 0), (99, .iload_n 2, 0), (100, .invokevirtual 155, 0), (103, .istore 4, 0), (105, .aload_n 0, 0), (106, .getfield 45, 0), (109, .iload 4, 0), (111, .iload_n 3, 0), (112, .iastore, 0), (113, .iload 4, 0), (115, .ireturn, 0)]
theorem cdX12_send_ok : ∀ pc q, zk_at cdX12_send pc = some q → decode cX12_send pc = .ok (q.1, zk_len q.1 q.2) := zk_cd_ok (by decide +kernel)
def cdX12_thanked : List (Nat × Instr × Nat) := [(0, .aload_n 0, 0), (1, .iload_n 1, 0), (2, .invokevirtual 276, 0), (5, .ifCond .ne 5, 0), (8, .iconst (-1), 0), (9, .ireturn, 0), (10, .iload_n 1, 0), (11, .bipush 10, 0), (13, .idiv, 0), (14, .istore_n 2, 0), (15, .aload_n 0, 0), (16, .getfield 45, 0), (19, .iload_n 2, 0), (20, .iaload, 0), (21, .bipush (-2), 0), (23, .if_icmp .eq 14, 0), (26, .aload_n 0, 0), (27, .getfield 48, 0), (30, .iload_n 2, 0), (31, .iaload, 0), (32, .bipush (-2), 0), (34, .if_icmp .eq 6, 0), (37, .bipush (-5), 0), (39, .ireturn, 0), (40, .aload_n 0, 0), (41, .getfield 48, 0), (44, .iload_n 2, 0), (45, .iload_n 1, 0), (46, .bipush 10, 0), (48, .irem, 0), (49, .iastore, 0), (50, .aload_n 0, 0), (51, .getfield 45, 0), (54, .iload_n 2, 0), (55, .iaload, 0), (56, .iload_n 1, 0), (57, .bipush 10, 0), (59, .irem, 0), (60, .if_icmp .ne 7, 0), (63, .iconst 1, 0), (64, .goto 4, 0), (67, .iconst 0, 0), (68, .istore_n 3, 0), (69, .aload_n 0, 0), (70, .getfield 87, 0), (73, .iconst 1, 0), (74, .dup2, 0), (75, .iaload, 0), (76, .iconst 1, 0), (77, .iadd, 0), (78, .iastore, 0), (79, .aload_n 0, 0), (80, .getfield 87, 0), (83, .iload_n 3, 0), (84, .ifCond .eq 7, 0), (87, .iconst 2, 0), (88, .goto 4, 0), (91, .iconst 3, 0), (92, .dup2, 0), (93, .iaload, 0), (94, .iconst 1, 0), (95, .iadd, 0), (96, .iastore, 0), (97, .iload_n 3, 0), (98, .ifCond .eq 7, 0), (101, .iconst 1, 0), (102, .goto 4, 0), (105, .iconst 0, 0), (106, .ireturn, 0)]
theorem cdX12_thanked_ok : ∀ pc q, zk_at cdX12_thanked pc = some q → decode cX12_thanked pc = .ok (q.1, zk_len q.1 q.2) := zk_cd_ok (by decide +kernel)
def cdX12_led : List (Nat × Instr × Nat) := [(0, .iload_n 1, 0), (1, .iconst 4, 0), (2, .if_icmp .ne 10, 0), (5, .aload_n 0, 0), (6, .getfield 363, 0), (9, .goto 22, 0), (12, .iload_n 1, 0), (13, .iconst 0, 0), (14, .iconst 3, 0), (15, .invokestatic 125, 0), (18, .ifCond .eq 12, 0), (21, .aload_n 0, 0), (22, .getfield 87, 0), (25, .iload_n 1, 0), (26, .iaload, 0), (27, .goto 4, 0), (30, .iconst (-1), 0), (31, .ireturn, 0)]
theorem cdX12_led_ok : ∀ pc q, zk_at cdX12_led pc = some q → decode cX12_led pc = .ok (q.1, zk_len q.1 q.2) := zk_cd_ok (by decide +kernel)
def cdX12_image : List (Nat × Instr × Nat) := [(0, .aload_n 0, 0), (1, .iconst 1, 0), (2, .putfield 366, 0), (5, .aload_n 0, 0), (6, .aload_n 0, 0), (7, .getfield 129, 0), (10, .putfield 369, 0), (13, .aload_n 0, 0), (14, .aload_n 0, 0), (15, .getfield 363, 0), (18, .putfield 372, 0), (21, .iconst 0, 0), (22, .istore_n 1, 0), (23, .iload_n 1, 0), (24, .bipush 7, 0), (26, .if_icmp .ge 21, 0), (29, .aload_n 0, 0), (30, .getfield 90, 0), (33, .iload_n 1, 0), (34, .aload_n 0, 0), (35, .getfield 48, 0), (38, .iload_n 1, 0), (39, .iaload, 0), (40, .iastore, 0), (41, .iinc 1 1, 0), (44, .goto (-21), 0), (47, .iconst 0, 0), (48, .istore_n 1, 0), (49, .iload_n 1, 0), (50, .iconst 4, 0), (51, .if_icmp .ge 21, 0), (54, .aload_n 0, 0), (55, .getfield 93, 0), (58, .iload_n 1, 0), (59, .aload_n 0, 0), (60, .getfield 87, 0), (63, .iload_n 1, 0), (64, .iaload, 0), (65, .iastore, 0), (66, .iinc 1 1, 0), (69, .goto (-20), 0), (72, .aload_n 0, 0), (73, .getfield 363, 0), (76, .ireturn, 0)]
theorem cdX12_image_ok : ∀ pc q, zk_at cdX12_image pc = some q → decode cX12_image pc = .ok (q.1, zk_len q.1 q.2) := zk_cd_ok (by decide +kernel)
def cdX12_back : List (Nat × Instr × Nat) := [(0, .aload_n 0, 0), (1, .getfield 366, 0), (4, .ifCond .ne 6, 0), (7, .bipush (-5), 0), (9, .ireturn, 0), (10, .aload_n 0, 0), (11, .aload_n 0, 0), (12, .getfield 372, 0), (15, .putfield 363, 0), (18, .iconst 0, 0), (19, .istore_n 1, 0), (20, .iload_n 1, 0), (21, .aload_n 0, 0), (22, .getfield 129, 0), (25, .if_icmp .ge 34, 0), (28, .aload_n 0, 0), (29, .getfield 48, 0), (32, .iload_n 1, 0), (33, .iload_n 1, 0), (34, .aload_n 0, 0), (35, .getfield 369, 0), (38, .if_icmp .ge 12, 0), (41, .aload_n 0, 0), (42, .getfield 90, 0), (45, .iload_n 1, 0), (46, .iaload, 0), (47, .goto 5, 0), (50, .bipush (-2), 0), (52, .iastore, 0), (53, .iinc 1 1, 0), (56, .goto (-36), 0), (59, .iconst 0, 0), (60, .istore_n 1, 0), (61, .iload_n 1, 0), (62, .iconst 4, 0), (63, .if_icmp .ge 21, 0), (66, .aload_n 0, 0), (67, .getfield 87, 0), (70, .iload_n 1, 0), (71, .aload_n 0, 0), (72, .getfield 93, 0), (75, .iload_n 1, 0), (76, .iaload, 0), (77, .iastore, 0), (78, .iinc 1 1, 0), (81, .goto (-20), 0), (84, .aload_n 0, 0), (85, .getfield 363, 0), (88, .ireturn, 0)]
theorem cdX12_back_ok : ∀ pc q, zk_at cdX12_back pc = some q → decode cX12_back pc = .ok (q.1, zk_len q.1 q.2) := zk_cd_ok (by decide +kernel)
def cdX12_above : List (Nat × Instr × Nat) := [(0, .iload_n 0, 0), (1, .tableswitch 43 3 7 #[35, 37, 39, 43, 41], 35), (36, .iconst 2, 0), (37, .ireturn, 0), (38, .iconst 1, 0), (39, .ireturn, 0), (40, .iconst 3, 0), (41, .ireturn, 0), (42, .iconst 4, 0), (43, .ireturn, 0), (44, .iconst 0, 0), (45, .ireturn, 0)]
theorem cdX12_above_ok : ∀ pc q, zk_at cdX12_above pc = some q → decode cX12_above pc = .ok (q.1, zk_len q.1 q.2) := zk_cd_ok (by decide +kernel)
def cdX12_ran : List (Nat × Instr × Nat) := [(0, .aload_n 0, 0), (1, .getfield 375, 0), (4, .bipush 24, 0), (6, .if_icmp .ge 13, 0), (9, .aload_n 0, 0), (10, .getfield 102, 0), (13, .aload_n 0, 0), (14, .getfield 375, 0), (17, .iload_n 1, 0), (18, .iastore, 0), (19, .aload_n 0, 0), (20, .dup, 0), (21, .getfield 375, 0), (24, .iconst 1, 0), (25, .iadd, 0), (26, .putfield 375, 0), (29, .return_, 0)]
theorem cdX12_ran_ok : ∀ pc q, zk_at cdX12_ran pc = some q → decode cX12_ran pc = .ok (q.1, zk_len q.1 q.2) := zk_cd_ok (by decide +kernel)
def cdX12_looksBy : List (Nat × Instr × Nat) := [(0, .iload_n 2, 0), (1, .lookupswitch 76 #[(0, 35), (1, 44), (6, 60)], 35), (36, .aload_n 0, 0), (37, .iconst 1, 0), (38, .invokevirtual 378, 0), (41, .iload_n 3, 0), (42, .iload_n 1, 0), (43, .iadd, 0), (44, .ireturn, 0), (45, .aload_n 0, 0), (46, .bipush 20, 0), (48, .invokevirtual 378, 0), (51, .aload_n 0, 0), (52, .iload_n 1, 0), (53, .iconst 0, 0), (54, .iload_n 3, 0), (55, .invokevirtual 381, 0), (58, .iconst 3, 0), (59, .iadd, 0), (60, .ireturn, 0), (61, .aload_n 0, 0), (62, .bipush 70, 0), (64, .invokevirtual 378, 0), (67, .aload_n 0, 0), (68, .iload_n 1, 0), (69, .iconst 0, 0), (70, .iload_n 3, 0), (71, .invokevirtual 381, 0), (74, .iconst 2, 0), (75, .imul, 0), (76, .ireturn, 0), (77, .aload_n 0, 0), (78, .iload_n 1, 0), (79, .iload_n 2, 0), (80, .invokestatic 384, 0), (83, .iload_n 3, 0), (84, .invokevirtual 381, 0), (87, .ireturn, 0)]
theorem cdX12_looksBy_ok : ∀ pc q, zk_at cdX12_looksBy pc = some q → decode cX12_looksBy pc = .ok (q.1, zk_len q.1 q.2) := zk_cd_ok (by decide +kernel)
def cdX12_writesBy : List (Nat × Instr × Nat) := [(0, .iload_n 2, 0), (1, .tableswitch 130 0 7 #[47, 130, 68, 83, 130, 130, 130, 99], 47), (48, .aload_n 0, 0), (49, .bipush 10, 0), (51, .invokevirtual 378, 0), (54, .aload_n 0, 0), (55, .iload_n 1, 0), (56, .aload_n 0, 0), (57, .getfield 99, 0), (60, .iload_n 1, 0), (61, .iaload, 0), (62, .iload_n 3, 0), (63, .invokevirtual 381, 0), (66, .iconst 2, 0), (67, .imul, 0), (68, .ireturn, 0), (69, .aload_n 0, 0), (70, .bipush 30, 0), (72, .invokevirtual 378, 0), (75, .aload_n 0, 0), (76, .iload_n 1, 0), (77, .iconst 0, 0), (78, .iload_n 3, 0), (79, .invokevirtual 387, 0), (82, .ineg, 0), (83, .ireturn, 0), (84, .aload_n 0, 0), (85, .bipush 41, 0), (87, .invokevirtual 378, 0), (90, .aload_n 0, 0), (91, .iload_n 1, 0), (92, .iconst 2, 0), (93, .iload_n 3, 0), (94, .iconst 1, 0), (95, .iadd, 0), (96, .invokevirtual 387, 0), (99, .ireturn, 0), (100, .aload_n 0, 0), (101, .bipush 80, 0), (103, .invokevirtual 378, 0), (106, .aload_n 0, 0), (107, .iload_n 1, 0), (108, .iconst 4, 0), (109, .iload_n 3, 0), (110, .invokevirtual 387, 0), (113, .istore 4, 0), (115, .iload 4, 0), (117, .aload_n 0, 0), (118, .iload_n 1, 0), (119, .aload_n 0, 0), (120, .getfield 99, 0), (123, .iload_n 1, 0), (124, .iaload, 0), (125, .iconst 2, 0), (126, .invokevirtual 390, 0), (129, .iadd, 0), (130, .ireturn, 0), (131, .aload_n 0, 0), (132, .iload_n 1, 0), (133, .iload_n 2, 0), (134, .invokestatic 384, 0), (137, .iload_n 3, 0), (138, .invokevirtual 387, 0), (141, .ireturn, 0)]
theorem cdX12_writesBy_ok : ∀ pc q, zk_at cdX12_writesBy pc = some q → decode cX12_writesBy pc = .ok (q.1, zk_len q.1 q.2) := zk_cd_ok (by decide +kernel)
def cdX12_hidesBy : List (Nat × Instr × Nat) := [(0, .iload_n 2, 0), (1, .tableswitch 92 0 4 #[35, 92, 92, 45, 61], 35), (36, .aload_n 0, 0), (37, .bipush 11, 0), (39, .invokevirtual 378, 0), (42, .iload_n 3, 0), (43, .iload_n 1, 0), (44, .ixor, 0), (45, .ireturn, 0), (46, .aload_n 0, 0), (47, .bipush 40, 0), (49, .invokevirtual 378, 0), (52, .aload_n 0, 0), (53, .iload_n 1, 0), (54, .iconst 2, 0), (55, .iload_n 3, 0), (56, .invokevirtual 390, 0), (59, .iconst 3, 0), (60, .imul, 0), (61, .ireturn, 0), (62, .aload_n 0, 0), (63, .bipush 50, 0), (65, .invokevirtual 378, 0), (68, .aload_n 0, 0), (69, .iload_n 1, 0), (70, .iconst 1, 0), (71, .iload_n 3, 0), (72, .invokevirtual 390, 0), (75, .istore 4, 0), (77, .iload 4, 0), (79, .aload_n 0, 0), (80, .iload_n 1, 0), (81, .aload_n 0, 0), (82, .getfield 99, 0), (85, .iload_n 1, 0), (86, .iaload, 0), (87, .iconst 2, 0), (88, .invokevirtual 381, 0), (91, .isub, 0), (92, .ireturn, 0), (93, .aload_n 0, 0), (94, .iload_n 1, 0), (95, .iload_n 2, 0), (96, .invokestatic 384, 0), (99, .iload_n 3, 0), (100, .invokevirtual 390, 0), (103, .ireturn, 0)]
theorem cdX12_hidesBy_ok : ∀ pc q, zk_at cdX12_hidesBy pc = some q → decode cX12_hidesBy pc = .ok (q.1, zk_len q.1 q.2) := zk_cd_ok (by decide +kernel)
def cdX12_tells_ : List (Nat × Instr × Nat) := [(0, .iload_n 2, 0), (1, .lookupswitch 102 #[(0, 35), (5, 70), (7, 86)], 35), (36, .aload_n 0, 0), (37, .iconst 2, 0), (38, .invokevirtual 378, 0), (41, .aload_n 0, 0), (42, .iload_n 1, 0), (43, .aload_n 0, 0), (44, .getfield 99, 0), (47, .iload_n 1, 0), (48, .iaload, 0), (49, .iload_n 3, 0), (50, .invokevirtual 387, 0), (53, .istore 4, 0), (55, .iload 4, 0), (57, .aload_n 0, 0), (58, .iload_n 1, 0), (59, .aload_n 0, 0), (60, .getfield 99, 0), (63, .iload_n 1, 0), (64, .iaload, 0), (65, .iconst 1, 0), (66, .invokevirtual 390, 0), (69, .isub, 0), (70, .ireturn, 0), (71, .aload_n 0, 0), (72, .bipush 60, 0), (74, .invokevirtual 378, 0), (77, .aload_n 0, 0), (78, .iload_n 1, 0), (79, .iconst 3, 0), (80, .iload_n 3, 0), (81, .invokevirtual 393, 0), (84, .iconst 5, 0), (85, .ixor, 0), (86, .ireturn, 0), (87, .aload_n 0, 0), (88, .bipush 81, 0), (90, .invokevirtual 378, 0), (93, .aload_n 0, 0), (94, .iload_n 1, 0), (95, .iconst 4, 0), (96, .iload_n 3, 0), (97, .invokevirtual 393, 0), (100, .iconst 1, 0), (101, .isub, 0), (102, .ireturn, 0), (103, .aload_n 0, 0), (104, .iload_n 1, 0), (105, .iload_n 2, 0), (106, .invokestatic 384, 0), (109, .iload_n 3, 0), (110, .invokevirtual 393, 0), (113, .ireturn, 0)]
theorem cdX12_tells__ok : ∀ pc q, zk_at cdX12_tells_ pc = some q → decode cX12_tells_ pc = .ok (q.1, zk_len q.1 q.2) := zk_cd_ok (by decide +kernel)
def cdX12_body : List (Nat × Instr × Nat) := [(0, .iload_n 1, 0), (1, .iconst 0, 0), (2, .bipush 7, 0), (4, .invokestatic 125, 0), (7, .ifCond .ne 5, 0), (10, .iconst (-1), 0), (11, .ireturn, 0), (12, .aload_n 0, 0), (13, .getfield 395, 0), (16, .bipush 50, 0), (18, .if_icmp .ne 6, 0), (21, .bipush (-3), 0), (23, .ireturn, 0), (24, .aload_n 0, 0), (25, .getfield 99, 0), (28, .aload_n 0, 0), (29, .getfield 395, 0), (32, .iload_n 1, 0), (33, .iastore, 0), (34, .aload_n 0, 0), (35, .dup, 0), (36, .getfield 395, 0), (39, .dup_x1, 0), (40, .iconst 1, 0), (41, .iadd, 0), (42, .putfield 395, 0), (45, .ireturn, 0)]
theorem cdX12_body_ok : ∀ pc q, zk_at cdX12_body pc = some q → decode cX12_body pc = .ok (q.1, zk_len q.1 q.2) := zk_cd_ok (by decide +kernel)
def cdX12_act : List (Nat × Instr × Nat) := [(0, .aload_n 0, 0), (1, .iconst 0, 0), (2, .putfield 375, 0), (5, .iload_n 1, 0), (6, .iconst 0, 0), (7, .aload_n 0, 0), (8, .getfield 395, 0), (11, .iconst 1, 0), (12, .isub, 0), (13, .invokestatic 125, 0), (16, .ifCond .eq 12, 0), (19, .iload_n 2, 0), (20, .iconst 0, 0), (21, .iconst 3, 0), (22, .invokestatic 125, 0), (25, .ifCond .ne 5, 0), (28, .iconst 0, 0), (29, .ireturn, 0), (30, .aload_n 0, 0), (31, .getfield 99, 0), (34, .iload_n 1, 0), (35, .iaload, 0), (36, .istore 4, 0), (38, .iload_n 2, 0), (39, .ifCond .ne 14, 0), (42, .aload_n 0, 0), (43, .iload_n 1, 0), (44, .iload 4, 0), (46, .iload_n 3, 0), (47, .invokevirtual 381, 0), (50, .goto 43, 0), (53, .iload_n 2, 0), (54, .iconst 1, 0), (55, .if_icmp .ne 14, 0), (58, .aload_n 0, 0), (59, .iload_n 1, 0), (60, .iload 4, 0), (62, .iload_n 3, 0), (63, .invokevirtual 387, 0), (66, .goto 27, 0), (69, .iload_n 2, 0), (70, .iconst 2, 0), (71, .if_icmp .ne 14, 0), (74, .aload_n 0, 0), (75, .iload_n 1, 0), (76, .iload 4, 0), (78, .iload_n 3, 0), (79, .invokevirtual 390, 0), (82, .goto 11, 0), (85, .aload_n 0, 0), (86, .iload_n 1, 0), (87, .iload 4, 0), (89, .iload_n 3, 0), (90, .invokevirtual 393, 0), (93, .ireturn, 0)]
theorem cdX12_act_ok : ∀ pc q, zk_at cdX12_act pc = some q → decode cX12_act pc = .ok (q.1, zk_len q.1 q.2) := zk_cd_ok (by decide +kernel)
def cdX12_trace : List (Nat × Instr × Nat) := [(0, .iload_n 1, 0), (1, .iconst 0, 0), (2, .bipush 24, 0), (4, .aload_n 0, 0), (5, .getfield 375, 0), (8, .invokestatic 259, 0), (11, .iconst 1, 0), (12, .isub, 0), (13, .invokestatic 125, 0), (16, .ifCond .eq 12, 0), (19, .aload_n 0, 0), (20, .getfield 102, 0), (23, .iload_n 1, 0), (24, .iaload, 0), (25, .goto 4, 0), (28, .iconst (-1), 0), (29, .ireturn, 0)]
theorem cdX12_trace_ok : ∀ pc q, zk_at cdX12_trace pc = some q → decode cX12_trace pc = .ok (q.1, zk_len q.1 q.2) := zk_cd_ok (by decide +kernel)
def cdX12_keep : List (Nat × Instr × Nat) := [(0, .iload_n 1, 0), (1, .invokestatic 143, 0), (4, .ifCond .eq 17, 0), (7, .iload_n 2, 0), (8, .iconst (-1), 0), (9, .aload_n 0, 0), (10, .getfield 395, 0), (13, .iconst 1, 0), (14, .isub, 0), (15, .invokestatic 125, 0), (18, .ifCond .ne 5, 0), (21, .iconst (-1), 0), (22, .ireturn, 0), (23, .aload_n 0, 0), (24, .getfield 105, 0), (27, .iload_n 1, 0), (28, .iload_n 2, 0), (29, .ifCond .ge 7, 0), (32, .iconst (-1), 0), (33, .goto 7, 0), (36, .bipush 10, 0), (38, .iload_n 2, 0), (39, .iadd, 0), (40, .iastore, 0), (41, .aload_n 0, 0), (42, .getfield 108, 0), (45, .iload_n 1, 0), (46, .iconst 0, 0), (47, .iastore, 0), (48, .iconst 1, 0), (49, .ireturn, 0)]
theorem cdX12_keep_ok : ∀ pc q, zk_at cdX12_keep pc = some q → decode cX12_keep pc = .ok (q.1, zk_len q.1 q.2) := zk_cd_ok (by decide +kernel)
def cdX12_row : List (Nat × Instr × Nat) := [(0, .iload_n 1, 0), (1, .invokestatic 143, 0), (4, .ifCond .eq 18, 0), (7, .iload_n 2, 0), (8, .iconst 0, 0), (9, .iconst 4, 0), (10, .invokestatic 125, 0), (13, .ifCond .eq 9, 0), (16, .iload_n 3, 0), (17, .bipush 60, 0), (19, .if_icmp .le 5, 0), (22, .iconst (-1), 0), (23, .ireturn, 0), (24, .iload_n 3, 0), (25, .ifCond .ge 6, 0), (28, .bipush (-14), 0), (30, .ireturn, 0), (31, .aload_n 0, 0), (32, .getfield 105, 0), (35, .iload_n 1, 0), (36, .iload_n 2, 0), (37, .iastore, 0), (38, .aload_n 0, 0), (39, .getfield 108, 0), (42, .iload_n 1, 0), (43, .iload_n 3, 0), (44, .iastore, 0), (45, .iconst 0, 0), (46, .istore 4, 0), (48, .iload 4, 0), (50, .bipush 60, 0), (52, .if_icmp .ge 22, 0), (55, .aload_n 0, 0), (56, .getfield 111, 0), (59, .bipush 60, 0), (61, .iload_n 1, 0), (62, .imul, 0), (63, .iload 4, 0), (65, .iadd, 0), (66, .lconst 0, 0), (67, .lastore, 0), (68, .iinc 4 1, 0), (71, .goto (-23), 0), (74, .iconst 1, 0), (75, .ireturn, 0)]
theorem cdX12_row_ok : ∀ pc q, zk_at cdX12_row pc = some q → decode cX12_row pc = .ok (q.1, zk_len q.1 q.2) := zk_cd_ok (by decide +kernel)
def cdX12_isRow : List (Nat × Instr × Nat) := [(0, .aload_n 0, 0), (1, .getfield 105, 0), (4, .iload_n 1, 0), (5, .iaload, 0), (6, .iconst 0, 0), (7, .iconst 4, 0), (8, .invokestatic 125, 0), (11, .ireturn, 0)]
theorem cdX12_isRow_ok : ∀ pc q, zk_at cdX12_isRow pc = some q → decode cX12_isRow pc = .ok (q.1, zk_len q.1 q.2) := zk_cd_ok (by decide +kernel)
def cdX12_kept : List (Nat × Instr × Nat) := [(0, .iload_n 0, 0), (1, .tableswitch 47 0 3 #[31, 36, 41, 45], 31), (32, .lload_n 1, 0), (33, .l2i, 0), (34, .i2b, 0), (35, .i2l, 0), (36, .lreturn, 0), (37, .lload_n 1, 0), (38, .l2i, 0), (39, .i2s, 0), (40, .i2l, 0), (41, .lreturn, 0), (42, .lload_n 1, 0), (43, .l2i, 0), (44, .i2l, 0), (45, .lreturn, 0), (46, .lload_n 1, 0), (47, .lreturn, 0), (48, .lload_n 1, 0), (49, .lconst 0, 0), (50, .lcmp, 0), (51, .ifCond .eq 7, 0), (54, .lconst 1, 0), (55, .goto 4, 0), (58, .lconst 0, 0), (59, .lreturn, 0)]
theorem cdX12_kept_ok : ∀ pc q, zk_at cdX12_kept pc = some q → decode cX12_kept pc = .ok (q.1, zk_len q.1 q.2) := zk_cd_ok (by decide +kernel)
def cdX12_put : List (Nat × Instr × Nat) := [(0, .iload_n 1, 0), (1, .invokestatic 143, 0), (4, .ifCond .ne 5, 0), (7, .iconst (-1), 0), (8, .ireturn, 0), (9, .aload_n 0, 0), (10, .getfield 105, 0), (13, .iload_n 1, 0), (14, .iaload, 0), (15, .iconst (-1), 0), (16, .if_icmp .ne 6, 0), (19, .bipush (-11), 0), (21, .ireturn, 0), (22, .aload_n 0, 0), (23, .iload_n 1, 0), (24, .invokevirtual 398, 0), (27, .ifCond .ne 6, 0), (30, .bipush (-12), 0), (32, .ireturn, 0), (33, .iload_n 2, 0), (34, .iconst 0, 0), (35, .aload_n 0, 0), (36, .getfield 108, 0), (39, .iload_n 1, 0), (40, .iaload, 0), (41, .iconst 1, 0), (42, .isub, 0), (43, .invokestatic 125, 0), (46, .ifCond .ne 6, 0), (49, .bipush (-13), 0), (51, .ireturn, 0), (52, .aload_n 0, 0), (53, .getfield 111, 0), (56, .bipush 60, 0), (58, .iload_n 1, 0), (59, .imul, 0), (60, .iload_n 2, 0), (61, .iadd, 0), (62, .aload_n 0, 0), (63, .getfield 105, 0), (66, .iload_n 1, 0), (67, .iaload, 0), (68, .lload_n 3, 0), (69, .invokestatic 401, 0), (72, .lastore, 0), (73, .iconst 1, 0), (74, .ireturn, 0)]
theorem cdX12_put_ok : ∀ pc q, zk_at cdX12_put pc = some q → decode cX12_put pc = .ok (q.1, zk_len q.1 q.2) := zk_cd_ok (by decide +kernel)
def cdX12_element : List (Nat × Instr × Nat) := [(0, .iload_n 1, 0), (1, .invokestatic 143, 0), (4, .ifCond .eq 41, 0), (7, .aload_n 0, 0), (8, .iload_n 1, 0), (9, .invokevirtual 398, 0), (12, .ifCond .eq 33, 0), (15, .iload_n 2, 0), (16, .iconst 0, 0), (17, .aload_n 0, 0), (18, .getfield 108, 0), (21, .iload_n 1, 0), (22, .iaload, 0), (23, .iconst 1, 0), (24, .isub, 0), (25, .invokestatic 125, 0), (28, .ifCond .eq 17, 0), (31, .aload_n 0, 0), (32, .getfield 111, 0), (35, .bipush 60, 0), (37, .iload_n 1, 0), (38, .imul, 0), (39, .iload_n 2, 0), (40, .iadd, 0), (41, .laload, 0), (42, .goto 6, 0), (45, .ldc2_w 286, 0), (48, .lreturn, 0)]
theorem cdX12_element_ok : ∀ pc q, zk_at cdX12_element pc = some q → decode cX12_element pc = .ok (q.1, zk_len q.1 q.2) := zk_cd_ok (by decide +kernel)
def cdX12_shift : List (Nat × Instr × Nat) := [(0, .iload_n 1, 0), (1, .invokestatic 143, 0), (4, .ifCond .eq 10, 0), (7, .iload_n 3, 0), (8, .invokestatic 143, 0), (11, .ifCond .ne 5, 0), (14, .iconst (-1), 0), (15, .ireturn, 0), (16, .aload_n 0, 0), (17, .getfield 105, 0), (20, .iload_n 1, 0), (21, .iaload, 0), (22, .iconst (-1), 0), (23, .if_icmp .eq 13, 0), (26, .aload_n 0, 0), (27, .getfield 105, 0), (30, .iload_n 3, 0), (31, .iaload, 0), (32, .iconst (-1), 0), (33, .if_icmp .ne 6, 0), (36, .bipush (-11), 0), (38, .ireturn, 0), (39, .aload_n 0, 0), (40, .iload_n 1, 0), (41, .invokevirtual 398, 0), (44, .ifCond .eq 26, 0), (47, .aload_n 0, 0), (48, .iload_n 3, 0), (49, .invokevirtual 398, 0), (52, .ifCond .eq 18, 0), (55, .aload_n 0, 0), (56, .getfield 105, 0), (59, .iload_n 1, 0), (60, .iaload, 0), (61, .aload_n 0, 0), (62, .getfield 105, 0), (65, .iload_n 3, 0), (66, .iaload, 0), (67, .if_icmp .eq 6, 0), (70, .bipush (-12), 0), (72, .ireturn, 0), (73, .iload 5, 0), (75, .ifCond .lt 47, 0), (78, .iload_n 2, 0), (79, .ifCond .lt 43, 0), (82, .iload 4, 0), (84, .ifCond .lt 38, 0), (87, .iload_n 2, 0), (88, .i2l, 0), (89, .iload 5, 0), (91, .i2l, 0), (92, .ladd, 0), (93, .aload_n 0, 0), (94, .getfield 108, 0), (97, .iload_n 1, 0), (98, .iaload, 0), (99, .i2l, 0), (100, .lcmp, 0), (101, .ifCond .gt 21, 0), (104, .iload 4, 0), (106, .i2l, 0), (107, .iload 5, 0), (109, .i2l, 0), (110, .ladd, 0), (111, .aload_n 0, 0), (112, .getfield 108, 0), (115, .iload_n 3, 0), (116, .iaload, 0), (117, .i2l, 0), (118, .lcmp, 0), (119, .ifCond .le 6, 0), (122, .bipush (-13), 0), (124, .ireturn, 0), (125, .iload_n 1, 0), (126, .iload_n 3, 0), (127, .if_icmp .ne 58, 0), (130, .iload_n 2, 0), (131, .iload 4, 0), (133, .if_icmp .ge 52, 0), (136, .iload 5, 0), (138, .iconst 1, 0), (139, .isub, 0), (140, .istore 6, 0), (142, .iload 6, 0), (144, .ifCond .lt 38, 0), (147, .aload_n 0, 0), (148, .getfield 111, 0), (151, .bipush 60, 0), (153, .iload_n 3, 0), (154, .imul, 0), (155, .iload 4, 0), (157, .iadd, 0), (158, .iload 6, 0), (160, .iadd, 0), (161, .aload_n 0, 0), (162, .getfield 111, 0), (165, .bipush 60, 0), (167, .iload_n 1, 0), (168, .imul, 0), (169, .iload_n 2, 0), (170, .iadd, 0), (171, .iload 6, 0), (173, .iadd, 0), (174, .laload, 0), (175, .lastore, 0), (176, .iinc 6 (-1), 0), (179, .goto (-37), 0), (182, .goto 48, 0), (185, .iconst 0, 0), (186, .istore 6, 0), (188, .iload 6, 0), (190, .iload 5, 0), (192, .if_icmp .ge 38, 0), (195, .aload_n 0, 0), (196, .getfield 111, 0), (199, .bipush 60, 0), (201, .iload_n 3, 0), (202, .imul, 0), (203, .iload 4, 0), (205, .iadd, 0), (206, .iload 6, 0), (208, .iadd, 0), (209, .aload_n 0, 0), (210, .getfield 111, 0), (213, .bipush 60, 0), (215, .iload_n 1, 0), (216, .imul, 0), (217, .iload_n 2, 0), (218, .iadd, 0), (219, .iload 6, 0), (221, .iadd, 0), (222, .laload, 0), (223, .lastore, 0), (224, .iinc 6 1, 0), (227, .goto (-39), 0), (230, .iload 5, 0), (232, .ireturn, 0)]
theorem cdX12_shift_ok : ∀ pc q, zk_at cdX12_shift pc = some q → decode cX12_shift pc = .ok (q.1, zk_len q.1 q.2) := zk_cd_ok (by decide +kernel)
def cdX12_taken : List (Nat × Instr × Nat) := [(0, .iload_n 1, 0), (1, .invokestatic 143, 0), (4, .ifCond .eq 13, 0), (7, .iload_n 2, 0), (8, .iconst 0, 0), (9, .bipush 7, 0), (11, .invokestatic 125, 0), (14, .ifCond .ne 5, 0), (17, .iconst (-1), 0), (18, .ireturn, 0), (19, .aload_n 0, 0), (20, .getfield 105, 0), (23, .iload_n 1, 0), (24, .iaload, 0), (25, .iconst (-1), 0), (26, .if_icmp .ne 6, 0), (29, .bipush (-11), 0), (31, .ireturn, 0), (32, .aload_n 0, 0), (33, .iload_n 1, 0), (34, .invokevirtual 398, 0), (37, .ifCond .eq 6, 0), (40, .bipush (-12), 0), (42, .ireturn, 0), (43, .aload_n 0, 0), (44, .getfield 99, 0), (47, .aload_n 0, 0), (48, .getfield 105, 0), (51, .iload_n 1, 0), (52, .iaload, 0), (53, .bipush 10, 0), (55, .isub, 0), (56, .iaload, 0), (57, .istore_n 3, 0), (58, .iload_n 3, 0), (59, .istore 4, 0), (61, .iload 4, 0), (63, .iload_n 2, 0), (64, .if_icmp .eq 18, 0), (67, .iload 4, 0), (69, .ifCond .le 13, 0), (72, .iload 4, 0), (74, .invokestatic 384, 0), (77, .istore 4, 0), (79, .goto (-18), 0), (82, .iload 4, 0), (84, .iload_n 2, 0), (85, .if_icmp .ne 7, 0), (88, .iload_n 3, 0), (89, .goto 5, 0), (92, .bipush (-12), 0), (94, .ireturn, 0)]
theorem cdX12_taken_ok : ∀ pc q, zk_at cdX12_taken pc = some q → decode cX12_taken pc = .ok (q.1, zk_len q.1 q.2) := zk_cd_ok (by decide +kernel)
def cdX12_count : List (Nat × Instr × Nat) := [(0, .iload_n 1, 0), (1, .tableswitch 69 0 5 #[39, 44, 49, 54, 59, 64], 39), (40, .aload_n 0, 0), (41, .getfield 121, 0), (44, .ireturn, 0), (45, .aload_n 0, 0), (46, .getfield 129, 0), (49, .ireturn, 0), (50, .aload_n 0, 0), (51, .getfield 183, 0), (54, .ireturn, 0), (55, .aload_n 0, 0), (56, .getfield 177, 0), (59, .ireturn, 0), (60, .aload_n 0, 0), (61, .getfield 395, 0), (64, .ireturn, 0), (65, .aload_n 0, 0), (66, .getfield 375, 0), (69, .ireturn, 0), (70, .iconst (-1), 0), (71, .ireturn, 0)]
theorem cdX12_count_ok : ∀ pc q, zk_at cdX12_count pc = some q → decode cX12_count pc = .ok (q.1, zk_len q.1 q.2) := zk_cd_ok (by decide +kernel)
def cdJ6_bitCount_0f7a4 : List (Nat × Instr × Nat) := [(0, .iload_n 0, 0), (1, .iload_n 0, 0), (2, .iconst 1, 0), (3, .iushr, 0), (4, .ldc_w 265, 0), (7, .iand, 0), (8, .isub, 0), (9, .istore_n 0, 0), (10, .iload_n 0, 0), (11, .ldc_w 266, 0), (14, .iand, 0), (15, .iload_n 0, 0), (16, .iconst 2, 0), (17, .iushr, 0), (18, .ldc_w 266, 0), (21, .iand, 0), (22, .iadd, 0), (23, .istore_n 0, 0), (24, .iload_n 0, 0), (25, .iload_n 0, 0), (26, .iconst 4, 0), (27, .iushr, 0), (28, .iadd, 0), (29, .ldc_w 267, 0), (32, .iand, 0), (33, .istore_n 0, 0), (34, .iload_n 0, 0), (35, .iload_n 0, 0), (36, .bipush 8, 0), (38, .iushr, 0), (39, .iadd, 0), (40, .istore_n 0, 0), (41, .iload_n 0, 0), (42, .iload_n 0, 0), (43, .bipush 16, 0), (45, .iushr, 0), (46, .iadd, 0), (47, .istore_n 0, 0), (48, .iload_n 0, 0), (49, .bipush 63, 0), (51, .iand, 0), (52, .ireturn, 0)]
theorem cdJ6_bitCount_0f7a4_ok : ∀ pc q, zk_at cdJ6_bitCount_0f7a4 pc = some q → decode cJ6_bitCount_0f7a4 pc = .ok (q.1, zk_len q.1 q.2) := zk_cd_ok (by decide +kernel)
def cdJ0_length_8abf5 : List (Nat × Instr × Nat) := [(0, .aload_n 0, 0), (1, .getfield 9, 0), (4, .arraylength, 0), (5, .aload_n 0, 0), (6, .invokevirtual 335, 0), (9, .ishr, 0), (10, .ireturn, 0)]
theorem cdJ0_length_8abf5_ok : ∀ pc q, zk_at cdJ0_length_8abf5 pc = some q → decode cJ0_length_8abf5 pc = .ok (q.1, zk_len q.1 q.2) := zk_cd_ok (by decide +kernel)
def cdJ0_indexOf_0f7a4 : List (Nat × Instr × Nat) := [(0, .aload_n 0, 0), (1, .iload_n 1, 0), (2, .iconst 0, 0), (3, .invokevirtual 633, 0), (6, .ireturn, 0)]
theorem cdJ0_indexOf_0f7a4_ok : ∀ pc q, zk_at cdJ0_indexOf_0f7a4 pc = some q → decode cJ0_indexOf_0f7a4 pc = .ok (q.1, zk_len q.1 q.2) := zk_cd_ok (by decide +kernel)
def cdJ0_indexOf_7cf53 : List (Nat × Instr × Nat) := [(0, .aload_n 0, 0), (1, .invokevirtual 492, 0), (4, .ifCond .eq 19, 0), (7, .aload_n 0, 0), (8, .getfield 9, 0), (11, .iload_n 1, 0), (12, .iload_n 2, 0), (13, .aload_n 0, 0), (14, .invokevirtual 505, 0), (17, .invokestatic 637, 0), (20, .goto 16, 0), (23, .aload_n 0, 0), (24, .getfield 9, 0), (27, .iload_n 1, 0), (28, .iload_n 2, 0), (29, .aload_n 0, 0), (30, .invokevirtual 505, 0), (33, .invokestatic 640, 0), (36, .ireturn, 0)]
theorem cdJ0_indexOf_7cf53_ok : ∀ pc q, zk_at cdJ0_indexOf_7cf53 pc = some q → decode cJ0_indexOf_7cf53 pc = .ok (q.1, zk_len q.1 q.2) := zk_cd_ok (by decide +kernel)
def cdJ0_coder_7d493 : List (Nat × Instr × Nat) := [(0, .getstatic 38, 0), (3, .ifCond .eq 10, 0), (6, .aload_n 0, 0), (7, .getfield 15, 0), (10, .goto 4, 0), (13, .iconst 1, 0), (14, .ireturn, 0)]
theorem cdJ0_coder_7d493_ok : ∀ pc q, zk_at cdJ0_coder_7d493 pc = some q → decode cJ0_coder_7d493 pc = .ok (q.1, zk_len q.1 q.2) := zk_cd_ok (by decide +kernel)
def cdJ0_isLatin1_aae02 : List (Nat × Instr × Nat) := [(0, .getstatic 38, 0), (3, .ifCond .eq 14, 0), (6, .aload_n 0, 0), (7, .getfield 15, 0), (10, .ifCond .ne 7, 0), (13, .iconst 1, 0), (14, .goto 4, 0), (17, .iconst 0, 0), (18, .ireturn, 0)]
theorem cdJ0_isLatin1_aae02_ok : ∀ pc q, zk_at cdJ0_isLatin1_aae02 pc = some q → decode cJ0_isLatin1_aae02 pc = .ok (q.1, zk_len q.1 q.2) := zk_cd_ok (by decide +kernel)
def cdJ1_canEncode_9a6ad : List (Nat × Instr × Nat) := [(0, .iload_n 0, 0), (1, .ifCond .lt 14, 0), (4, .iload_n 0, 0), (5, .sipush 255, 0), (8, .if_icmp .gt 7, 0), (11, .iconst 1, 0), (12, .goto 4, 0), (15, .iconst 0, 0), (16, .ireturn, 0)]
theorem cdJ1_canEncode_9a6ad_ok : ∀ pc q, zk_at cdJ1_canEncode_9a6ad pc = some q → decode cJ1_canEncode_9a6ad pc = .ok (q.1, zk_len q.1 q.2) := zk_cd_ok (by decide +kernel)
def cdJ1_indexOf_4cfef : List (Nat × Instr × Nat) := [(0, .iload_n 1, 0), (1, .invokestatic 88, 0), (4, .ifCond .ne 5, 0), (7, .iconst (-1), 0), (8, .ireturn, 0), (9, .iload_n 2, 0), (10, .iconst 0, 0), (11, .invokestatic 92, 0), (14, .istore_n 2, 0), (15, .iload_n 3, 0), (16, .aload_n 0, 0), (17, .arraylength, 0), (18, .invokestatic 38, 0), (21, .istore_n 3, 0), (22, .iload_n 2, 0), (23, .iload_n 3, 0), (24, .if_icmp .lt 5, 0), (27, .iconst (-1), 0), (28, .ireturn, 0), (29, .aload_n 0, 0), (30, .iload_n 1, 0), (31, .iload_n 2, 0), (32, .iload_n 3, 0), (33, .invokestatic 95, 0), (36, .ireturn, 0)]
theorem cdJ1_indexOf_4cfef_ok : ∀ pc q, zk_at cdJ1_indexOf_4cfef pc = some q → decode cJ1_indexOf_4cfef pc = .ok (q.1, zk_len q.1 q.2) := zk_cd_ok (by decide +kernel)
def cdJ1_indexOfChar_4cfef : List (Nat × Instr × Nat) := [(0, .iload_n 1, 0), (1, .i2b, 0), (2, .istore 4, 0), (4, .iload_n 2, 0), (5, .istore 5, 0), (7, .iload 5, 0), (9, .iload_n 3, 0), (10, .if_icmp .ge 21, 0), (13, .aload_n 0, 0), (14, .iload 5, 0), (16, .baload, 0), (17, .iload 4, 0), (19, .if_icmp .ne 6, 0), (22, .iload 5, 0), (24, .ireturn, 0), (25, .iinc 5 1, 0), (28, .goto (-21), 0), (31, .iconst (-1), 0), (32, .ireturn, 0)]
theorem cdJ1_indexOfChar_4cfef_ok : ∀ pc q, zk_at cdJ1_indexOfChar_4cfef pc = some q → decode cJ1_indexOfChar_4cfef pc = .ok (q.1, zk_len q.1 q.2) := zk_cd_ok (by decide +kernel)
def cdJ7_fill_d0a16 : List (Nat × Instr × Nat) := [(0, .iconst 0, 0), (1, .istore_n 3, 0), (2, .aload_n 0, 0), (3, .arraylength, 0), (4, .istore 4, 0), (6, .iload_n 3, 0), (7, .iload 4, 0), (9, .if_icmp .ge 13, 0), (12, .aload_n 0, 0), (13, .iload_n 3, 0), (14, .lload_n 1, 0), (15, .lastore, 0), (16, .iinc 3 1, 0), (19, .goto (-13), 0), (22, .return_, 0)]
theorem cdJ7_fill_d0a16_ok : ∀ pc q, zk_at cdJ7_fill_d0a16 pc = some q → decode cJ7_fill_d0a16 pc = .ok (q.1, zk_len q.1 q.2) := zk_cd_ok (by decide +kernel)
def cdJ7_fill_53178 : List (Nat × Instr × Nat) := [(0, .iconst 0, 0), (1, .istore_n 2, 0), (2, .aload_n 0, 0), (3, .arraylength, 0), (4, .istore_n 3, 0), (5, .iload_n 2, 0), (6, .iload_n 3, 0), (7, .if_icmp .ge 13, 0), (10, .aload_n 0, 0), (11, .iload_n 2, 0), (12, .iload_n 1, 0), (13, .iastore, 0), (14, .iinc 2 1, 0), (17, .goto (-12), 0), (20, .return_, 0)]
theorem cdJ7_fill_53178_ok : ∀ pc q, zk_at cdJ7_fill_53178 pc = some q → decode cJ7_fill_53178 pc = .ok (q.1, zk_len q.1 q.2) := zk_cd_ok (by decide +kernel)
end
section
/-! BLOCKS AND CONTRACTS in use: what a callee is called with; locals that a loop forgets -/
abbrev zk_pI : Type := List Value → zk_H → (Int32 → zk_H → Prop) → Prop
abbrev zk_pL : Type := List Value → zk_H → (Int64 → zk_H → Prop) → Prop
abbrev zk_pV : Type := List Value → zk_H → (zk_H → Prop) → Prop
abbrev zk_pR : Type := List Value → zk_H → (Value → zk_H → Prop) → Prop
def zk_iP (p : zk_pI) : zk_P := fun as h Q => p as h Q.1
def zk_lP (p : zk_pL) : zk_P := fun as h Q => p as h Q.2.1
def zk_vP (p : zk_pV) : zk_P := fun as h Q => p as h (Q.2.2.1 ())
def zk_rP (p : zk_pR) : zk_P := fun as h Q => p as h Q.2.2.2
def zk_mI (p : zk_pI) : Prop := ∀ as h (K K' : Int32 → zk_H → Prop), (∀ v x, K v x → K' v x) → p as h K → p as h K'
def zk_mL (p : zk_pL) : Prop := ∀ as h (K K' : Int64 → zk_H → Prop), (∀ v x, K v x → K' v x) → p as h K → p as h K'
def zk_mV (p : zk_pV) : Prop := ∀ as h (K K' : zk_H → Prop), (∀ x, K x → K' x) → p as h K → p as h K'
def zk_mR (p : zk_pR) : Prop := ∀ as h (K K' : Value → zk_H → Prop), (∀ v x, K v x → K' v x) → p as h K → p as h K'
theorem zk_mI_P {p : zk_pI} (h : zk_mI p) : zk_Mono (zk_iP p) := fun as x _ _ hQ => h as x _ _ hQ.1
theorem zk_mL_P {p : zk_pL} (h : zk_mL p) : zk_Mono (zk_lP p) := fun as x _ _ hQ => h as x _ _ hQ.2.1
theorem zk_mV_P {p : zk_pV} (h : zk_mV p) : zk_Mono (zk_vP p) := fun as x _ _ hQ => h as x _ _ (hQ.2.2.1 ())
theorem zk_mR_P {p : zk_pR} (h : zk_mR p) : zk_Mono (zk_rP p) := fun as x _ _ hQ => h as x _ _ hQ.2.2.2
/-- a method by its number meets P, with room for d calls below -/
def zk_OK (w : zk_Wd) (d n : Nat) (P : zk_P) : Prop := zk_CT w d (zk_mt n).1 P ∧ zk_Mono P
theorem zk_OK.up {w : zk_Wd} {d d' n : Nat} {P : zk_P} (h : zk_OK w d n P) (hd : d ≤ d') : zk_OK w d' n P := ⟨h.1.mono hd, h.2⟩
def zk_cxl : List (Nat × zk_P) → Nat → zk_P
  | [], _ => fun _ _ _ => False
  | q :: l, a => bif Nat.beq q.1 a then q.2 else zk_cxl l a
theorem zk_cxl_ct {w : zk_Wd} {d : Nat} : ∀ {l : List (Nat × zk_P)}, (∀ q ∈ l, zk_OK w d q.1 q.2) → ∀ a, zk_CT w d (zk_mt a).1 (zk_cxl l a) ∧ zk_Mono (zk_cxl l a)
  | [], _, a => ⟨zk_CT.none, fun _ _ _ _ _ h => h⟩
  | q :: l, h, a => by
    unfold zk_cxl
    cases hb : Nat.beq q.1 a with
    | true =>
      rw [Nat.beq_eq] at hb
      subst hb
      exact h q List.mem_cons_self
    | false => exact zk_cxl_ct (fun q hq => h q (List.mem_cons_of_mem _ hq)) a
theorem zk_nil {w : zk_Wd} {d : Nat} : ∀ q ∈ ([] : List (Nat × zk_P)), zk_OK w d q.1 q.2 := fun _ h => absurd h List.not_mem_nil
theorem zk_cons {w : zk_Wd} {d n : Nat} {P : zk_P} {l : List (Nat × zk_P)} (h : zk_OK w d n P) (hl : ∀ q ∈ l, zk_OK w d q.1 q.2) : ∀ q ∈ (n, P) :: l, zk_OK w d q.1 q.2 := List.forall_mem_cons.mpr ⟨h, hl⟩
/-- what a program knows of a method: its pool, its code -/
def zk_fc (j0 : zk_M) (lk : Nat → zk_Ln) (cd : Nat → Option (Instr × Nat)) : Prop := (∀ i, zk_lk1 j0.1.cls zk_mt i (lk i)) ∧ plainName j0.1.cls = true ∧ ∀ pc q, cd pc = some q → decode j0.2.1 pc = .ok (q.1, zk_len q.1 q.2)
theorem zk_mk {w : zk_Wd} {d n : Nat} {l : List (Nat × zk_P)} {P : zk_P} {j0 : zk_M} {lk : Nat → zk_Ln} {cd : Nat → Option (Instr × Nat)} (hl : ∀ q ∈ l, zk_OK w d q.1 q.2) (hj : (zk_mt n).1 = j0) (hf : zk_fc j0 lk cd) (hm : zk_Mono P)
    (hb : ∀ as h Q, P as h Q → ((∀ v ∈ as, zk_nod v = true) ∧ zk_wds as ≤ j0.2.2.1) ∧ zk_X w lk zk_mt (zk_cxl l) j0.2.2.2 cd Q 0 (zk_L0 as j0.2.2.1) [] h) : zk_OK w (d + 1) n P := by
  refine ⟨?_, hm⟩
  rw [hj]
  exact zk_met zk_cl_ok zk_jdk_ok (fun a => Or.inl (zk_mt_ok a)) hf.1 hf.2.1 hf.2.2 (fun a => (zk_cxl_ct hl a).1) hb
/-- a block, then what stands at its end -/
theorem zk_bk {w : zk_Wd} {lk : Nat → zk_Ln} {rt : Option FieldType} {cd : Nat → Option (Instr × Nat)} {Q : zk_Q} {d : Nat} {l : List (Nat × zk_P)} (hl : ∀ q ∈ l, zk_OK w d q.1 q.2) {stops : List Nat} {n : Nat} {pc : Nat} {L : zk_L} {st : List Value} {h : zk_H} (H : zk_R w lk zk_mt (zk_cxl l) rt cd Q stops (zk_X w lk zk_mt (zk_cxl l) rt cd Q) n pc L st h) : zk_X w lk zk_mt (zk_cxl l) rt cd Q pc L st h := zk_go (fun a => (zk_cxl_ct hl a).2) n H
/-! locals forgotten -/
def zk_nl (o : Option Value) : Bool := match o with
  | some (.long _) => false
  | some (.double _) => false
  | _ => true
/-- L' holds what L holds, and perhaps more -/
def zk_sub (L L' : zk_L) : Prop := L.length = L'.length ∧ ∀ i, (∀ v, zk_gl L i = some v → zk_gl L' i = some v) ∧ (zk_gl L i = none → zk_nl (zk_gl L' i) = true)
def zk_subb : zk_L → zk_L → Prop
  | [], [] => True
  | none :: l, o :: l' => zk_nl o = true ∧ zk_subb l l'
  | some v :: l, o :: l' => o = some v ∧ zk_subb l l'
  | _, _ => False
theorem zk_subb_s : ∀ {L L' : zk_L}, zk_subb L L' → zk_sub L L'
  | [], [], _ => ⟨rfl, fun i => ⟨fun v h => h, fun _ => by simp [zk_gl, zk_nl]⟩⟩
  | none :: l, o :: l', h => by
    obtain ⟨h1, h2⟩ := zk_subb_s h.2
    refine ⟨by simp [h1], fun i => ?_⟩
    cases i with
    | zero => exact ⟨fun v hv => absurd (show (none : Option Value) = some v from hv) (by simp), fun _ => h.1⟩
    | succ i => exact h2 i
  | some v :: l, o :: l', h => by
    obtain ⟨h1, h2⟩ := zk_subb_s h.2
    refine ⟨by simp [h1], fun i => ?_⟩
    cases i with
    | zero => exact ⟨fun u hu => (show o = some u from h.1.trans (show some v = some u from hu)), fun hn => absurd (show some v = none from hn) (by simp)⟩
    | succ i => exact h2 i
  | [], _ :: _, h => h.elim
  | none :: _, [], h => h.elim
  | some _ :: _, [], h => h.elim
theorem zk_sub.wide {L L' : zk_L} (h : zk_sub L L') (i : Nat) : zk_wide L' i = zk_wide L i := by
  unfold zk_wide
  cases i with
  | zero => rfl
  | succ k =>
    dsimp only
    cases hg : zk_gl L k with
    | some v => rw [(h.2 k).1 v hg]
    | none =>
      have := (h.2 k).2 hg
      unfold zk_nl at this
      split at this
      · cases this
      · cases this
      next o h1 h2 =>
        split
        next x e => exact absurd e (h1 x)
        next x e => exact absurd e (h2 x)
        · rfl
theorem zk_gl_set' {L : zk_L} {i j : Nat} {o : Option Value} : zk_gl (L.set i o) j = if i = j ∧ i < L.length then o else zk_gl L j := by
  unfold zk_gl
  rw [List.getElem?_set]
  by_cases e : i = j
  · subst e
    by_cases hl : i < L.length
    · simp [hl]
    · simp [hl]
  · simp [e]
theorem zk_sub.set {L L' : zk_L} (h : zk_sub L L') (i : Nat) (o : Option Value) : zk_sub (L.set i o) (L'.set i o) := by
  refine ⟨by simp [h.1], fun j => ?_⟩
  rw [zk_gl_set', zk_gl_set', h.1]
  by_cases e : i = j ∧ i < L'.length
  · rw [if_pos e, if_pos e]
    exact ⟨fun v hv => hv, fun hn => by rw [hn]; rfl⟩
  · rw [if_neg e, if_neg e]
    exact h.2 j
theorem zk_sub.st1 {L L' L1 : zk_L} (h : zk_sub L L') {i : Nat} {v : Value} (hs : zk_st1 L i v = some L1) : ∃ L2, zk_st1 L' i v = some L2 ∧ zk_sub L1 L2 := by
  unfold zk_st1 at hs ⊢
  rw [h.wide, ← h.1]
  cases hb : Nat.blt i L.length && !(zk_wide L i) with
  | false => rw [hb] at hs; cases hs
  | true =>
    rw [hb] at hs
    cases hs
    exact ⟨_, rfl, h.set i _⟩
theorem zk_sub.st2 {L L' L1 : zk_L} (h : zk_sub L L') {i : Nat} {v : Value} (hs : zk_st2 L i v = some L1) : ∃ L2, zk_st2 L' i v = some L2 ∧ zk_sub L1 L2 := by
  unfold zk_st2 at hs ⊢
  rw [h.wide, ← h.1]
  cases hb : Nat.blt (i + 1) L.length && !(zk_wide L i) with
  | false => rw [hb] at hs; cases hs
  | true =>
    rw [hb] at hs
    cases hs
    exact ⟨_, rfl, (h.set i _).set _ _⟩
theorem zk_sub_lr {L L' : zk_L} (h : zk_sub L L') {i : Nat} {k k' : Value → Prop} (m : ∀ v, k v → k' v) (hyp : zk_lr (zk_gl L i) k) : zk_lr (zk_gl L' i) k' := by
  cases hg : zk_gl L i with
  | none => rw [hg] at hyp; exact hyp.elim
  | some v => rw [(h.2 i).1 v hg]; rw [hg] at hyp; exact zk_lr_m m hyp
theorem zk_sub_li {L L' : zk_L} (h : zk_sub L L') {i : Nat} {k k' : Int32 → Prop} (m : ∀ v, k v → k' v) (hyp : zk_li (zk_gl L i) k) : zk_li (zk_gl L' i) k' := by
  cases hg : zk_gl L i with
  | none => rw [hg] at hyp; exact hyp.elim
  | some v => rw [(h.2 i).1 v hg]; rw [hg] at hyp; exact zk_li_m m hyp
theorem zk_sub_ll {L L' : zk_L} (h : zk_sub L L') {i : Nat} {k k' : Int64 → Prop} (m : ∀ v, k v → k' v) (hyp : zk_ll (zk_gl L i) k) : zk_ll (zk_gl L' i) k' := by
  cases hg : zk_gl L i with
  | none => rw [hg] at hyp; exact hyp.elim
  | some v => rw [(h.2 i).1 v hg]; rw [hg] at hyp; exact zk_ll_m m hyp
theorem zk_sub_s1 {L L' : zk_L} (h : zk_sub L L') {i : Nat} {v : Value} {f g : zk_L → Prop} (m : ∀ L1 L2, zk_sub L1 L2 → f L1 → g L2) (hyp : zk_on (zk_st1 L i v) f) : zk_on (zk_st1 L' i v) g := by
  obtain ⟨L1, e, hf⟩ := zk_on_s hyp
  obtain ⟨L2, e2, hs⟩ := h.st1 e
  rw [e2]
  exact m _ _ hs hf
theorem zk_sub_s2 {L L' : zk_L} (h : zk_sub L L') {i : Nat} {v : Value} {f g : zk_L → Prop} (m : ∀ L1 L2, zk_sub L1 L2 → f L1 → g L2) (hyp : zk_on (zk_st2 L i v) f) : zk_on (zk_st2 L' i v) g := by
  obtain ⟨L1, e, hf⟩ := zk_on_s hyp
  obtain ⟨L2, e2, hs⟩ := h.st2 e
  rw [e2]
  exact m _ _ hs hf
section ZKF
variable {w : zk_Wd} {lk : Nat → zk_Ln} {mt : zk_Mt} {cx : Nat → zk_P} {rt : Option FieldType} {Q : zk_Q} {cd : Nat → Option (Instr × Nat)}
theorem zk_S_sub (hcx : ∀ a, zk_Mono (cx a)) {k k' : zk_K} {L L' : zk_L} (hL : zk_sub L L') (hk : ∀ pc L L' st h, zk_sub L L' → k pc L st h → k' pc L' st h) {ins : Instr} {md pc : Nat} {st : List Value} {h : zk_H} (hyp : zk_S w lk mt cx rt Q k ins md pc L st h) : zk_S w lk mt cx rt Q k' ins md pc L' st h := by
  by_cases hst : (∃ i, ins = .aload_n i) ∨ (∃ i, ins = .aload i) ∨ (∃ i, ins = .iload_n i) ∨ (∃ i, ins = .iload i) ∨ (∃ i, ins = .lload_n i) ∨ (∃ i, ins = .lload i) ∨ (∃ i, ins = .istore_n i) ∨ (∃ i, ins = .istore i) ∨ (∃ i, ins = .astore_n i) ∨ (∃ i, ins = .astore i) ∨ (∃ i, ins = .lstore_n i) ∨ (∃ i, ins = .lstore i) ∨ (∃ i n, ins = .iinc i n)
  · rcases hst with ⟨i, rfl⟩ | ⟨i, rfl⟩ | ⟨i, rfl⟩ | ⟨i, rfl⟩ | ⟨i, rfl⟩ | ⟨i, rfl⟩ | ⟨i, rfl⟩ | ⟨i, rfl⟩ | ⟨i, rfl⟩ | ⟨i, rfl⟩ | ⟨i, rfl⟩ | ⟨i, rfl⟩ | ⟨i, n, rfl⟩ <;> simp only [zk_S] at hyp ⊢
    · exact zk_sub_lr hL (fun _ => hk _ _ _ _ _ hL) hyp
    · exact zk_sub_lr hL (fun _ => hk _ _ _ _ _ hL) hyp
    · exact zk_sub_li hL (fun _ => hk _ _ _ _ _ hL) hyp
    · exact zk_sub_li hL (fun _ => hk _ _ _ _ _ hL) hyp
    · exact zk_sub_ll hL (fun _ => hk _ _ _ _ _ hL) hyp
    · exact zk_sub_ll hL (fun _ => hk _ _ _ _ _ hL) hyp
    · exact zk_p1i_m (fun _ _ => zk_sub_s1 hL fun _ _ hs => hk _ _ _ _ _ hs) hyp
    · exact zk_p1i_m (fun _ _ => zk_sub_s1 hL fun _ _ hs => hk _ _ _ _ _ hs) hyp
    · exact zk_pr_m (fun _ _ => zk_sub_s1 hL fun _ _ hs => hk _ _ _ _ _ hs) hyp
    · exact zk_pr_m (fun _ _ => zk_sub_s1 hL fun _ _ hs => hk _ _ _ _ _ hs) hyp
    · exact zk_p1l_m (fun _ _ => zk_sub_s2 hL fun _ _ hs => hk _ _ _ _ _ hs) hyp
    · exact zk_p1l_m (fun _ _ => zk_sub_s2 hL fun _ _ hs => hk _ _ _ _ _ hs) hyp
    · exact zk_sub_li hL (fun _ => zk_sub_s1 hL fun _ _ hs => hk _ _ _ _ _ hs) hyp
  · have key : zk_S w lk mt cx rt Q (fun pc _ st h => k pc L st h) ins md pc L st h → zk_S w lk mt cx rt Q (fun pc _ st h => k pc L st h) ins md pc L' st h := by
      intro hyp
      cases ins <;> first | exact hyp | exact absurd (by simp) hst
    have step : zk_S w lk mt cx rt Q (fun pc _ st h => k pc L st h) ins md pc L st h := by
      cases ins <;> first | exact hyp | exact absurd (by simp) hst
    have h3 := zk_S_mono hcx (k' := fun pc _ st h => k' pc L' st h) (fun pc _ st h q => hk pc L L' st h hL q) (key step)
    cases ins <;> first | exact h3 | exact absurd (by simp) hst
theorem zk_X_sub (hcx : ∀ a, zk_Mono (cx a)) {pc : Nat} {L L' : zk_L} {st : List Value} {h : zk_H} (hL : zk_sub L L') (hyp : zk_X w lk mt cx rt cd Q pc L st h) : zk_X w lk mt cx rt cd Q pc L' st h := fun Z hZ =>
  hyp (fun pc L st h => ∀ L', zk_sub L L' → Z pc L' st h) (fun pc L st h hs L' hL => hZ pc L' st h (by
    unfold zk_Sp at hs ⊢
    split at hs
    · exact zk_S_sub hcx hL (fun _ _ _ _ _ hs hq => hq _ hs) hs
    · exact hs.elim)) L' hL
end ZKF
/-- forget locals -/
theorem zk_fg {w : zk_Wd} {lk : Nat → zk_Ln} {rt : Option FieldType} {cd : Nat → Option (Instr × Nat)} {Q : zk_Q} {d : Nat} {l : List (Nat × zk_P)} (hl : ∀ q ∈ l, zk_OK w d q.1 q.2) {pc : Nat} {L L' : zk_L} {st : List Value} {h : zk_H} (hL : zk_subb L L') (H : zk_X w lk zk_mt (zk_cxl l) rt cd Q pc L st h) : zk_X w lk zk_mt (zk_cxl l) rt cd Q pc L' st h := zk_X_sub (fun a => (zk_cxl_ct hl a).2) (zk_subb_s hL) H
/-! the worlds: written by wip/whole/ex.py -/
def zk_Cr : List (List (Option Nat)) := [[some 1, some 19, some 24, some 28, some 31, some 36, some 38, some 40, some 42, some 45], [some 2], [some 3, some 4, some 5, some 6, some 7, some 8, some 9, some 10, some 11, some 12, some 13, some 14, some 15, some 16, some 17, some 18], [], [], [], [], [], [], [], [], [], [], [], [], [], [], [], [], [some 1, some 20, some 21, some 22, some 23], [], [], [], [], [some 25, none, some 26, none, some 27], [], [], [], [some 29, none, some 30], [], [], [some 1, some 28, some 32, some 33, some 34, some 35], [], [], [], [], [some 1, some 31, some 37], [], [some 1, some 31, some 39], [], [some 1, none, none, none, none, none, none, none, none, none, some 41], [], [some 43, none, some 44], [], [], [some 46, some 48, some 50, some 52, some 54, some 56], [none, none, none, none, some 47], [], [none, none, none, none, some 49], [], [none, none, none, none, some 51], [], [none, none, none, none, some 53], [], [none, none, none, none, some 55], [], [none, none, none, none, some 57], []]
def zk_Cs : List (Nat × Nat) := [(15, 10), (8, 3), (3, 16), (0, 8), (0, 8), (0, 8), (0, 8), (0, 8), (0, 8), (0, 8), (0, 8), (0, 8), (0, 8), (0, 8), (0, 8), (0, 8), (0, 8), (0, 8), (0, 8), (5, 7), (0, 40), (0, 40), (0, 40), (0, 40), (9, 12), (0, 120), (0, 121), (0, 121), (7, 3), (0, 121), (0, 121), (14, 6), (0, 6), (0, 8), (0, 6), (0, 256), (10, 6), (0, 8), (11, 3), (0, 8), (6, 11), (0, 6), (4, 5), (0, 50), (0, 24), (2, 6), (12, 5), (1, 60), (12, 5), (1, 60), (12, 5), (1, 60), (12, 5), (1, 60), (12, 5), (1, 60), (12, 5), (1, 60)]
def zk_C : zk_Wd := (zk_Cs, fun k j => (zk_Cr.getD k []).getD j none)
def zk_Dr : List (List (Option Nat)) := [[none, some 1, some 2, some 3, some 4, some 5, some 6, none, some 7, some 8, some 9, some 10, some 11, some 12, some 13, some 14, none, none, some 15, none, none, some 16, some 17, some 18, some 19, none, none, none, none, some 20, some 21, some 22, some 23, some 24, some 25, some 26, none, none, none, some 27, some 28, none, none, some 29, none, some 30, none, some 31, some 32, some 33, some 34, some 35, some 36], [], [], [], [], [], [], [], [], [], [], [], [], [], [], [], [], [], [], [], [], [], [], [], [], [], [], [], [], [], [], [], [], [], [], [], []]
def zk_Ds : List (Nat × Nat) := [(16, 56), (0, 8), (0, 8), (0, 8), (0, 8), (0, 8), (0, 8), (0, 7), (0, 7), (0, 7), (0, 7), (0, 7), (0, 7), (0, 7), (0, 3), (0, 120), (0, 60), (0, 60), (0, 60), (0, 200), (0, 61), (0, 61), (0, 61), (0, 200), (0, 200), (0, 6), (0, 4), (0, 7), (0, 4), (0, 160), (0, 50), (0, 24), (0, 6), (0, 6), (1, 360), (0, 10), (0, 8)]
def zk_D : zk_Wd := (zk_Ds, fun k j => (zk_Dr.getD k []).getD j none)
def zk_rm0 : List Int32 := (zk_rom.getD 0 (.int, [])).2
def zk_rm1 : List Int32 := (zk_rom.getD 1 (.int, [])).2
def zk_rm2 : List Int32 := (zk_rom.getD 2 (.int, [])).2
def zk_rm3 : List Int32 := (zk_rom.getD 3 (.int, [])).2
end
section
/-! BLOCKS: what a run from a place asks for. Written by wip/whole/blocks.py -/
theorem fcX0_isKind : zk_fc mX0_isKind (zk_lkl lkX0) (zk_at cdX0_isKind) := ⟨lkX0_ok, by decide +kernel, cdX0_isKind_ok⟩
set_option maxRecDepth 100000 in
theorem bX0_isKind_0  {k : zk_K} {Q : zk_Q} {h : zk_H} {x1 : Int32} (H : ((x1 < 0 → (((0 : Int32) = 0 ∨ (0 : Int32) = 1) ∧ Q.1 (0 : Int32) h)) ∧ (¬ x1 < 0 → (((8 : Int32) ≤ x1 → (((0 : Int32) = 0 ∨ (0 : Int32) = 1) ∧ Q.1 (0 : Int32) h)) ∧ (¬ (8 : Int32) ≤ x1 → (((1 : Int32) = 0 ∨ (1 : Int32) = 1) ∧ Q.1 (1 : Int32) h)))))) : zk_R zk_C (zk_lkl lkX0) zk_mt (zk_cxl []) (some .boolean) (zk_at cdX0_isKind) Q [] k 10 0 [some (.ref 42), some (.int x1)] [] h := H
theorem fcX0_isBody : zk_fc mX0_isBody (zk_lkl lkX0) (zk_at cdX0_isBody) := ⟨lkX0_ok, by decide +kernel, cdX0_isBody_ok⟩
set_option maxRecDepth 100000 in
theorem bX0_isBody_0  {k : zk_K} {Q : zk_Q} {h : zk_H} {x1 : Int32} (H : ((x1 < 0 → (((0 : Int32) = 0 ∨ (0 : Int32) = 1) ∧ Q.1 (0 : Int32) h)) ∧ (¬ x1 < 0 → (((h.1 42 1) ≤ x1 → (((0 : Int32) = 0 ∨ (0 : Int32) = 1) ∧ Q.1 (0 : Int32) h)) ∧ (¬ (h.1 42 1) ≤ x1 → (((1 : Int32) = 0 ∨ (1 : Int32) = 1) ∧ Q.1 (1 : Int32) h)))))) : zk_R zk_C (zk_lkl lkX0) zk_mt (zk_cxl []) (some .boolean) (zk_at cdX0_isBody) Q [] k 11 0 [some (.ref 42), some (.int x1)] [] h := H
theorem fcX0_add : zk_fc mX0_add (zk_lkl lkX0) (zk_at cdX0_add) := ⟨lkX0_ok, by decide +kernel, cdX0_add_ok⟩
set_option maxRecDepth 100000 in
theorem bX0_add_0  {k : zk_K} {Q : zk_Q} {h : zk_H} {x1 : Int32} (H : (vp_in (h.1 42 1) 50 ∧ Q.1 (h.1 42 1) (zk_si (zk_si h 43 (h.1 42 1).toNatClampNeg x1) 42 1 ((h.1 42 1) + (1 : Int32))))) : zk_R zk_C (zk_lkl lkX0) zk_mt (zk_cxl []) (some .int) (zk_at cdX0_add) Q [] k 18 0 [some (.ref 42), some (.int x1), none] [] h := H
theorem fcX0_isUnder : zk_fc mX0_isUnder (zk_lkl lkX0) (zk_at cdX0_isUnder) := ⟨lkX0_ok, by decide +kernel, cdX0_isUnder_ok⟩
set_option maxRecDepth 100000 in
theorem bX0_isUnder_0 {pX0_isBody : zk_pI} {k : zk_K} {Q : zk_Q} {h : zk_H} {x1 x2 : Int32} (H : pX0_isBody [.ref 42, .int x1] h (fun v2 h1 => ((v2 = 0 → k 22 [some (.ref 42), some (.int x1), some (.int x2), some (.int (-1 : Int32)), some (.int (0 : Int32))] [] h1) ∧ (¬ v2 = 0 → (vp_in x1 50 ∧ k 22 [some (.ref 42), some (.int x1), some (.int x2), some (.int (h1.1 43 x1.toNatClampNeg)), some (.int (0 : Int32))] [] h1))))) : zk_R zk_C (zk_lkl lkX0) zk_mt (zk_cxl [(1, zk_iP pX0_isBody)]) (some .boolean) (zk_at cdX0_isUnder) Q [22] k 14 0 [some (.ref 42), some (.int x1), some (.int x2), none, none] [] h := H
set_option maxRecDepth 100000 in
theorem bX0_isUnder_22 {pX0_isBody : zk_pI} {k : zk_K} {Q : zk_Q} {h : zk_H} {x1 x2 x3 x4 : Int32} (H : (((8 : Int32) ≤ x4 → (((0 : Int32) = 0 ∨ (0 : Int32) = 1) ∧ Q.1 (0 : Int32) h)) ∧ (¬ (8 : Int32) ≤ x4 → ((x3 < 0 → (((0 : Int32) = 0 ∨ (0 : Int32) = 1) ∧ Q.1 (0 : Int32) h)) ∧ (¬ x3 < 0 → ((¬ x3 = x2 → (vp_in x3 8 ∧ k 22 [some (.ref 42), some (.int x1), some (.int x2), some (.int (zk_rm2.getD x3.toNatClampNeg 0)), some (.int (x4 + (1 : Int32)))] [] h)) ∧ (x3 = x2 → (((1 : Int32) = 0 ∨ (1 : Int32) = 1) ∧ Q.1 (1 : Int32) h)))))))) : zk_R zk_C (zk_lkl lkX0) zk_mt (zk_cxl [(1, zk_iP pX0_isBody)]) (some .boolean) (zk_at cdX0_isUnder) Q [22] k 16 22 [some (.ref 42), some (.int x1), some (.int x2), some (.int x3), some (.int x4)] [] h := H
theorem fcX0_traced : zk_fc mX0_traced (zk_lkl lkX0) (zk_at cdX0_traced) := ⟨lkX0_ok, by decide +kernel, cdX0_traced_ok⟩
set_option maxRecDepth 100000 in
theorem bX0_traced_0  {k : zk_K} {Q : zk_Q} {h : zk_H}  (H : Q.1 (if (24 : Int32) < (h.1 42 3) then (24 : Int32) else (h.1 42 3)) h) : zk_R zk_C (zk_lkl lkX0) zk_mt (zk_cxl []) (some .int) (zk_at cdX0_traced) Q [] k 7 0 [some (.ref 42)] [] h := H
theorem fcX0_perform : zk_fc mX0_perform (zk_lkl lkX0) (zk_at cdX0_perform) := ⟨lkX0_ok, by decide +kernel, cdX0_perform_ok⟩
set_option maxRecDepth 100000 in
theorem bX0_perform_0 {pX0_isBody : zk_pI} {pX0_own : zk_pI} {k : zk_K} {Q : zk_Q} {h : zk_H} {x1 x2 x3 : Int32} (H : pX0_isBody [.ref 42, .int x1] (zk_si h 42 3 (0 : Int32)) (fun v2 h1 => ((v2 = 0 → Q.1 (0 : Int32) h1) ∧ (¬ v2 = 0 → ((x2 < 0 → Q.1 (0 : Int32) h1) ∧ (¬ x2 < 0 → ((x2 < (4 : Int32) → pX0_own [.ref 42, .int x2, .int x3, .int (0 : Int32)] (zk_si h1 42 4 x1) (fun v4 h3 => Q.1 v4 h3)) ∧ (¬ x2 < (4 : Int32) → Q.1 (0 : Int32) h1)))))))) : zk_R zk_C (zk_lkl lkX0) zk_mt (zk_cxl [(1, zk_iP pX0_isBody), (6, zk_iP pX0_own)]) (some .int) (zk_at cdX0_perform) Q [] k 23 0 [some (.ref 42), some (.int x1), some (.int x2), some (.int x3)] [] h := H
theorem fcX0_own : zk_fc mX0_own (zk_lkl lkX0) (zk_at cdX0_own) := ⟨lkX0_ok, by decide +kernel, cdX0_own_ok⟩
set_option maxRecDepth 100000 in
theorem bX0_own_0 {pX0_bodyFrom : zk_pI} {pX0_run : zk_pI} {k : zk_K} {Q : zk_Q} {h : zk_H} {x1 x2 x3 : Int32} (H : (vp_in (h.1 42 4) 50 ∧ pX0_bodyFrom [.ref 42, .int (h.1 43 (h.1 42 4).toNatClampNeg), .int x1] h (fun v2 h1 => pX0_run [.ref 42, .int v2, .int x2, .int (x3 + (1 : Int32))] h1 (fun v4 h3 => Q.1 v4 h3)))) : zk_R zk_C (zk_lkl lkX0) zk_mt (zk_cxl [(8, zk_iP pX0_bodyFrom), (9, zk_iP pX0_run)]) (some .int) (zk_at cdX0_own) Q [] k 17 0 [some (.ref 42), some (.int x1), some (.int x2), some (.int x3)] [] h := H
theorem fcX0_above : zk_fc mX0_above (zk_lkl lkX0) (zk_at cdX0_above) := ⟨lkX0_ok, by decide +kernel, cdX0_above_ok⟩
set_option maxRecDepth 100000 in
theorem bX0_above_0 {pX0_bodyFrom : zk_pI} {pX0_run : zk_pI} {k : zk_K} {Q : zk_Q} {h : zk_H} {x1 x2 x3 x4 : Int32} (H : (vp_in x1 8 ∧ pX0_bodyFrom [.ref 42, .int (zk_rm2.getD x1.toNatClampNeg 0), .int x2] h (fun v2 h1 => pX0_run [.ref 42, .int v2, .int x3, .int (x4 + (1 : Int32))] h1 (fun v4 h3 => Q.1 v4 h3)))) : zk_R zk_C (zk_lkl lkX0) zk_mt (zk_cxl [(8, zk_iP pX0_bodyFrom), (9, zk_iP pX0_run)]) (some .int) (zk_at cdX0_above) Q [] k 15 0 [some (.ref 42), some (.int x1), some (.int x2), some (.int x3), some (.int x4)] [] h := H
theorem fcX0_bodyFrom : zk_fc mX0_bodyFrom (zk_lkl lkX0) (zk_at cdX0_bodyFrom) := ⟨lkX0_ok, by decide +kernel, cdX0_bodyFrom_ok⟩
set_option maxRecDepth 100000 in
theorem bX0_bodyFrom_0  {k : zk_K} {Q : zk_Q} {h : zk_H} {x1 x2 : Int32} (H : k 5 [some (.ref 42), some (.int x1), some (.int x2), some (.int x1), some (.int (0 : Int32)), none] [] h) : zk_R zk_C (zk_lkl lkX0) zk_mt (zk_cxl []) (some .int) (zk_at cdX0_bodyFrom) Q [5] k 6 0 [some (.ref 42), some (.int x1), some (.int x2), none, none, none] [] h := H
set_option maxRecDepth 100000 in
theorem bX0_bodyFrom_5  {k : zk_K} {Q : zk_Q} {h : zk_H} {x1 x2 x3 x4 : Int32} (H : (((8 : Int32) ≤ x4 → Q.1 (0 : Int32) h) ∧ (¬ (8 : Int32) ≤ x4 → ((x3 < 0 → Q.1 (0 : Int32) h) ∧ (¬ x3 < 0 → (vp_in ((x3 * (4 : Int32)) + x2) 32 ∧ (((zk_rm3.getD ((x3 * (4 : Int32)) + x2).toNatClampNeg 0) = 0 → (vp_in x3 8 ∧ k 5 [some (.ref 42), some (.int x1), some (.int x2), some (.int (zk_rm2.getD x3.toNatClampNeg 0)), some (.int (x4 + (1 : Int32))), some (.int (zk_rm3.getD ((x3 * (4 : Int32)) + x2).toNatClampNeg 0))] [] h)) ∧ (¬ (zk_rm3.getD ((x3 * (4 : Int32)) + x2).toNatClampNeg 0) = 0 → Q.1 (zk_rm3.getD ((x3 * (4 : Int32)) + x2).toNatClampNeg 0) h)))))))) : zk_R zk_C (zk_lkl lkX0) zk_mt (zk_cxl []) (some .int) (zk_at cdX0_bodyFrom) Q [5] k 23 5 [some (.ref 42), some (.int x1), some (.int x2), some (.int x3), some (.int x4), none] [] h := H
theorem fcX0_run : zk_fc mX0_run (zk_lkl lkX0) (zk_at cdX0_run) := ⟨lkX0_ok, by decide +kernel, cdX0_run_ok⟩
set_option maxRecDepth 100000 in
theorem bX0_run_0 {pX0_own : zk_pI} {pX0_above : zk_pI} {k : zk_K} {Q : zk_Q} {h : zk_H} {x1 x2 x3 : Int32} (H : ((x3 ≤ (40 : Int32) → (((24 : Int32) ≤ (h.1 42 3) → ((x1 = (1 : Int32) → Q.1 (x2 + (h.1 42 4)) (zk_si h 42 3 ((h.1 42 3) + (1 : Int32)))) ∧ (¬ x1 = (1 : Int32) → ((x1 = (2 : Int32) → pX0_own [.ref 42, .int (1 : Int32), .int x2, .int x3] (zk_si h 42 3 ((h.1 42 3) + (1 : Int32))) (fun v26 h25 => pX0_own [.ref 42, .int (2 : Int32), .int (1 : Int32), .int x3] h25 (fun v28 h27 => Q.1 (v26 - v28) h27))) ∧ (¬ x1 = (2 : Int32) → ((x1 = (10 : Int32) → pX0_own [.ref 42, .int (0 : Int32), .int x2, .int x3] (zk_si h 42 3 ((h.1 42 3) + (1 : Int32))) (fun v24 h23 => Q.1 (v24 * (2 : Int32)) h23)) ∧ (¬ x1 = (10 : Int32) → ((x1 = (11 : Int32) → Q.1 (x2 ^^^ (h.1 42 4)) (zk_si h 42 3 ((h.1 42 3) + (1 : Int32)))) ∧ (¬ x1 = (11 : Int32) → ((x1 = (20 : Int32) → pX0_above [.ref 42, .int (1 : Int32), .int (0 : Int32), .int x2, .int x3] (zk_si h 42 3 ((h.1 42 3) + (1 : Int32))) (fun v22 h21 => Q.1 (v22 + (3 : Int32)) h21)) ∧ (¬ x1 = (20 : Int32) → ((x1 = (30 : Int32) → pX0_above [.ref 42, .int (2 : Int32), .int (1 : Int32), .int x2, .int x3] (zk_si h 42 3 ((h.1 42 3) + (1 : Int32))) (fun v20 h19 => Q.1 (-v20) h19)) ∧ (¬ x1 = (30 : Int32) → ((x1 = (40 : Int32) → pX0_above [.ref 42, .int (3 : Int32), .int (2 : Int32), .int x2, .int x3] (zk_si h 42 3 ((h.1 42 3) + (1 : Int32))) (fun v18 h17 => Q.1 (v18 * (3 : Int32)) h17)) ∧ (¬ x1 = (40 : Int32) → ((x1 = (41 : Int32) → pX0_above [.ref 42, .int (3 : Int32), .int (1 : Int32), .int (x2 + (1 : Int32)), .int x3] (zk_si h 42 3 ((h.1 42 3) + (1 : Int32))) (fun v16 h15 => Q.1 v16 h15)) ∧ (¬ x1 = (41 : Int32) → ((x1 = (50 : Int32) → pX0_above [.ref 42, .int (4 : Int32), .int (2 : Int32), .int x2, .int x3] (zk_si h 42 3 ((h.1 42 3) + (1 : Int32))) (fun v12 h11 => pX0_own [.ref 42, .int (0 : Int32), .int (2 : Int32), .int x3] h11 (fun v14 h13 => Q.1 (v12 - v14) h13))) ∧ (¬ x1 = (50 : Int32) → ((x1 = (60 : Int32) → pX0_above [.ref 42, .int (5 : Int32), .int (3 : Int32), .int x2, .int x3] (zk_si h 42 3 ((h.1 42 3) + (1 : Int32))) (fun v10 h9 => Q.1 (v10 ^^^ (5 : Int32)) h9)) ∧ (¬ x1 = (60 : Int32) → ((x1 = (70 : Int32) → pX0_above [.ref 42, .int (6 : Int32), .int (0 : Int32), .int x2, .int x3] (zk_si h 42 3 ((h.1 42 3) + (1 : Int32))) (fun v8 h7 => Q.1 (v8 * (2 : Int32)) h7)) ∧ (¬ x1 = (70 : Int32) → ((x1 = (80 : Int32) → pX0_above [.ref 42, .int (7 : Int32), .int (1 : Int32), .int x2, .int x3] (zk_si h 42 3 ((h.1 42 3) + (1 : Int32))) (fun v4 h3 => pX0_own [.ref 42, .int (2 : Int32), .int (2 : Int32), .int x3] h3 (fun v6 h5 => Q.1 (v4 + v6) h5))) ∧ (¬ x1 = (80 : Int32) → ((x1 = (81 : Int32) → pX0_above [.ref 42, .int (7 : Int32), .int (3 : Int32), .int x2, .int x3] (zk_si h 42 3 ((h.1 42 3) + (1 : Int32))) (fun v2 h1 => Q.1 (v2 - (1 : Int32)) h1)) ∧ (¬ x1 = (81 : Int32) → Q.1 (0 : Int32) (zk_si h 42 3 ((h.1 42 3) + (1 : Int32)))))))))))))))))))))))))))))) ∧ (¬ (24 : Int32) ≤ (h.1 42 3) → (vp_in (h.1 42 3) 24 ∧ ((x1 = (1 : Int32) → Q.1 (x2 + (h.1 42 4)) (zk_si (zk_si h 44 (h.1 42 3).toNatClampNeg x1) 42 3 ((h.1 42 3) + (1 : Int32)))) ∧ (¬ x1 = (1 : Int32) → ((x1 = (2 : Int32) → pX0_own [.ref 42, .int (1 : Int32), .int x2, .int x3] (zk_si (zk_si h 44 (h.1 42 3).toNatClampNeg x1) 42 3 ((h.1 42 3) + (1 : Int32))) (fun v54 h53 => pX0_own [.ref 42, .int (2 : Int32), .int (1 : Int32), .int x3] h53 (fun v56 h55 => Q.1 (v54 - v56) h55))) ∧ (¬ x1 = (2 : Int32) → ((x1 = (10 : Int32) → pX0_own [.ref 42, .int (0 : Int32), .int x2, .int x3] (zk_si (zk_si h 44 (h.1 42 3).toNatClampNeg x1) 42 3 ((h.1 42 3) + (1 : Int32))) (fun v52 h51 => Q.1 (v52 * (2 : Int32)) h51)) ∧ (¬ x1 = (10 : Int32) → ((x1 = (11 : Int32) → Q.1 (x2 ^^^ (h.1 42 4)) (zk_si (zk_si h 44 (h.1 42 3).toNatClampNeg x1) 42 3 ((h.1 42 3) + (1 : Int32)))) ∧ (¬ x1 = (11 : Int32) → ((x1 = (20 : Int32) → pX0_above [.ref 42, .int (1 : Int32), .int (0 : Int32), .int x2, .int x3] (zk_si (zk_si h 44 (h.1 42 3).toNatClampNeg x1) 42 3 ((h.1 42 3) + (1 : Int32))) (fun v50 h49 => Q.1 (v50 + (3 : Int32)) h49)) ∧ (¬ x1 = (20 : Int32) → ((x1 = (30 : Int32) → pX0_above [.ref 42, .int (2 : Int32), .int (1 : Int32), .int x2, .int x3] (zk_si (zk_si h 44 (h.1 42 3).toNatClampNeg x1) 42 3 ((h.1 42 3) + (1 : Int32))) (fun v48 h47 => Q.1 (-v48) h47)) ∧ (¬ x1 = (30 : Int32) → ((x1 = (40 : Int32) → pX0_above [.ref 42, .int (3 : Int32), .int (2 : Int32), .int x2, .int x3] (zk_si (zk_si h 44 (h.1 42 3).toNatClampNeg x1) 42 3 ((h.1 42 3) + (1 : Int32))) (fun v46 h45 => Q.1 (v46 * (3 : Int32)) h45)) ∧ (¬ x1 = (40 : Int32) → ((x1 = (41 : Int32) → pX0_above [.ref 42, .int (3 : Int32), .int (1 : Int32), .int (x2 + (1 : Int32)), .int x3] (zk_si (zk_si h 44 (h.1 42 3).toNatClampNeg x1) 42 3 ((h.1 42 3) + (1 : Int32))) (fun v44 h43 => Q.1 v44 h43)) ∧ (¬ x1 = (41 : Int32) → ((x1 = (50 : Int32) → pX0_above [.ref 42, .int (4 : Int32), .int (2 : Int32), .int x2, .int x3] (zk_si (zk_si h 44 (h.1 42 3).toNatClampNeg x1) 42 3 ((h.1 42 3) + (1 : Int32))) (fun v40 h39 => pX0_own [.ref 42, .int (0 : Int32), .int (2 : Int32), .int x3] h39 (fun v42 h41 => Q.1 (v40 - v42) h41))) ∧ (¬ x1 = (50 : Int32) → ((x1 = (60 : Int32) → pX0_above [.ref 42, .int (5 : Int32), .int (3 : Int32), .int x2, .int x3] (zk_si (zk_si h 44 (h.1 42 3).toNatClampNeg x1) 42 3 ((h.1 42 3) + (1 : Int32))) (fun v38 h37 => Q.1 (v38 ^^^ (5 : Int32)) h37)) ∧ (¬ x1 = (60 : Int32) → ((x1 = (70 : Int32) → pX0_above [.ref 42, .int (6 : Int32), .int (0 : Int32), .int x2, .int x3] (zk_si (zk_si h 44 (h.1 42 3).toNatClampNeg x1) 42 3 ((h.1 42 3) + (1 : Int32))) (fun v36 h35 => Q.1 (v36 * (2 : Int32)) h35)) ∧ (¬ x1 = (70 : Int32) → ((x1 = (80 : Int32) → pX0_above [.ref 42, .int (7 : Int32), .int (1 : Int32), .int x2, .int x3] (zk_si (zk_si h 44 (h.1 42 3).toNatClampNeg x1) 42 3 ((h.1 42 3) + (1 : Int32))) (fun v32 h31 => pX0_own [.ref 42, .int (2 : Int32), .int (2 : Int32), .int x3] h31 (fun v34 h33 => Q.1 (v32 + v34) h33))) ∧ (¬ x1 = (80 : Int32) → ((x1 = (81 : Int32) → pX0_above [.ref 42, .int (7 : Int32), .int (3 : Int32), .int x2, .int x3] (zk_si (zk_si h 44 (h.1 42 3).toNatClampNeg x1) 42 3 ((h.1 42 3) + (1 : Int32))) (fun v30 h29 => Q.1 (v30 - (1 : Int32)) h29)) ∧ (¬ x1 = (81 : Int32) → Q.1 (0 : Int32) (zk_si (zk_si h 44 (h.1 42 3).toNatClampNeg x1) 42 3 ((h.1 42 3) + (1 : Int32))))))))))))))))))))))))))))))))) ∧ (¬ x3 ≤ (40 : Int32) → Q.1 (0 : Int32) h))) : zk_R zk_C (zk_lkl lkX0) zk_mt (zk_cxl [(6, zk_iP pX0_own), (7, zk_iP pX0_above)]) (some .int) (zk_at cdX0_run) Q [] k 36 0 [some (.ref 42), some (.int x1), some (.int x2), some (.int x3)] [] h := H
theorem fcX1_make : zk_fc mX1_make (zk_lkl lkX1) (zk_at cdX1_make) := ⟨lkX1_ok, by decide +kernel, cdX1_make_ok⟩
set_option maxRecDepth 100000 in
theorem bX1_make_0 {pX1_dropOldest : zk_pV} {k : zk_K} {Q : zk_Q} {h : zk_H} {x1 x2 x3 : Int32} (H : (((h.1 19 5) < (40 : Int32) → (vp_in (h.1 19 5) 40 ∧ (vp_in (h.1 19 5) 40 ∧ (vp_in x2 16 ∧ ∃ b1, zk_C.2 2 x2.toNatClampNeg = some b1 ∧ (∃ n2, zk_Cs[b1]? = some (0, n2) ∧ (vp_in x1 n2 ∧ (vp_in (h.1 19 5) 40 ∧ (vp_in (h.1 19 5) 40 ∧ (vp_in x2 16 ∧ ∃ b3, zk_C.2 2 x2.toNatClampNeg = some b3 ∧ (∃ n4, zk_Cs[b3]? = some (0, n4) ∧ (vp_in x1 n4 ∧ Q.2.2.1 () (zk_si (zk_si (zk_si (zk_si (zk_si (zk_si (zk_si h 20 (h.1 19 5).toNatClampNeg x1) 21 (h.1 19 5).toNatClampNeg x2) 22 (h.1 19 5).toNatClampNeg ((zk_si (zk_si h 20 (h.1 19 5).toNatClampNeg x1) 21 (h.1 19 5).toNatClampNeg x2).1 b1 x1.toNatClampNeg)) 23 (h.1 19 5).toNatClampNeg x3) 19 5 ((h.1 19 5) + (1 : Int32))) 19 6 (0 : Int32)) b3 x1.toNatClampNeg x3)))))))))))) ∧ (¬ (h.1 19 5) < (40 : Int32) → pX1_dropOldest [.ref 19] h (fun h5 => (vp_in (h5.1 19 5) 40 ∧ (vp_in (h5.1 19 5) 40 ∧ (vp_in x2 16 ∧ ∃ b6, zk_C.2 2 x2.toNatClampNeg = some b6 ∧ (∃ n7, zk_Cs[b6]? = some (0, n7) ∧ (vp_in x1 n7 ∧ (vp_in (h5.1 19 5) 40 ∧ (vp_in (h5.1 19 5) 40 ∧ (vp_in x2 16 ∧ ∃ b8, zk_C.2 2 x2.toNatClampNeg = some b8 ∧ (∃ n9, zk_Cs[b8]? = some (0, n9) ∧ (vp_in x1 n9 ∧ Q.2.2.1 () (zk_si (zk_si (zk_si (zk_si (zk_si (zk_si (zk_si h5 20 (h5.1 19 5).toNatClampNeg x1) 21 (h5.1 19 5).toNatClampNeg x2) 22 (h5.1 19 5).toNatClampNeg ((zk_si (zk_si h5 20 (h5.1 19 5).toNatClampNeg x1) 21 (h5.1 19 5).toNatClampNeg x2).1 b6 x1.toNatClampNeg)) 23 (h5.1 19 5).toNatClampNeg x3) 19 5 ((h5.1 19 5) + (1 : Int32))) 19 6 (0 : Int32)) b8 x1.toNatClampNeg x3))))))))))))))) : zk_R zk_C (zk_lkl lkX1) zk_mt (zk_cxl [(13, zk_vP pX1_dropOldest)]) none (zk_at cdX1_make) Q [] k 56 0 [some (.ref 19), some (.int x1), some (.int x2), some (.int x3)] [] h := H
theorem fcX1_takeBack : zk_fc mX1_takeBack (zk_lkl lkX1) (zk_at cdX1_takeBack) := ⟨lkX1_ok, by decide +kernel, cdX1_takeBack_ok⟩
set_option maxRecDepth 100000 in
theorem bX1_takeBack_0  {k : zk_K} {Q : zk_Q} {h : zk_H}  (H : (vp_in ((h.1 19 5) - (1 : Int32)) 40 ∧ (vp_in (h.1 21 ((h.1 19 5) - (1 : Int32)).toNatClampNeg) 16 ∧ ∃ b1, zk_C.2 2 (h.1 21 ((h.1 19 5) - (1 : Int32)).toNatClampNeg).toNatClampNeg = some b1 ∧ (vp_in ((h.1 19 5) - (1 : Int32)) 40 ∧ (vp_in ((h.1 19 5) - (1 : Int32)) 40 ∧ (∃ n2, zk_Cs[b1]? = some (0, n2) ∧ (vp_in (h.1 20 ((h.1 19 5) - (1 : Int32)).toNatClampNeg) n2 ∧ Q.1 ((zk_si (zk_si (zk_si h 19 5 ((h.1 19 5) - (1 : Int32))) 19 6 ((h.1 19 6) + (1 : Int32))) b1 (h.1 20 ((h.1 19 5) - (1 : Int32)).toNatClampNeg).toNatClampNeg (h.1 22 ((h.1 19 5) - (1 : Int32)).toNatClampNeg)).1 19 5) (zk_si (zk_si (zk_si h 19 5 ((h.1 19 5) - (1 : Int32))) 19 6 ((h.1 19 6) + (1 : Int32))) b1 (h.1 20 ((h.1 19 5) - (1 : Int32)).toNatClampNeg).toNatClampNeg (h.1 22 ((h.1 19 5) - (1 : Int32)).toNatClampNeg))))))))) : zk_R zk_C (zk_lkl lkX1) zk_mt (zk_cxl []) (some .int) (zk_at cdX1_takeBack) Q [] k 37 0 [some (.ref 19)] [] h := H
theorem fcX1_makeAgain : zk_fc mX1_makeAgain (zk_lkl lkX1) (zk_at cdX1_makeAgain) := ⟨lkX1_ok, by decide +kernel, cdX1_makeAgain_ok⟩
set_option maxRecDepth 100000 in
theorem bX1_makeAgain_0  {k : zk_K} {Q : zk_Q} {h : zk_H}  (H : (vp_in (h.1 19 5) 40 ∧ (vp_in (h.1 21 (h.1 19 5).toNatClampNeg) 16 ∧ ∃ b1, zk_C.2 2 (h.1 21 (h.1 19 5).toNatClampNeg).toNatClampNeg = some b1 ∧ (vp_in (h.1 19 5) 40 ∧ (vp_in (h.1 19 5) 40 ∧ (∃ n2, zk_Cs[b1]? = some (0, n2) ∧ (vp_in (h.1 20 (h.1 19 5).toNatClampNeg) n2 ∧ Q.1 (((zk_si h b1 (h.1 20 (h.1 19 5).toNatClampNeg).toNatClampNeg (h.1 23 (h.1 19 5).toNatClampNeg)).1 19 6) - (1 : Int32)) (zk_si (zk_si (zk_si h b1 (h.1 20 (h.1 19 5).toNatClampNeg).toNatClampNeg (h.1 23 (h.1 19 5).toNatClampNeg)) 19 5 (((zk_si h b1 (h.1 20 (h.1 19 5).toNatClampNeg).toNatClampNeg (h.1 23 (h.1 19 5).toNatClampNeg)).1 19 5) + (1 : Int32))) 19 6 (((zk_si h b1 (h.1 20 (h.1 19 5).toNatClampNeg).toNatClampNeg (h.1 23 (h.1 19 5).toNatClampNeg)).1 19 6) - (1 : Int32)))))))))) : zk_R zk_C (zk_lkl lkX1) zk_mt (zk_cxl []) (some .int) (zk_at cdX1_makeAgain) Q [] k 37 0 [some (.ref 19)] [] h := H
theorem fcX1_dropOldest : zk_fc mX1_dropOldest (zk_lkl lkX1) (zk_at cdX1_dropOldest) := ⟨lkX1_ok, by decide +kernel, cdX1_dropOldest_ok⟩
set_option maxRecDepth 100000 in
theorem bX1_dropOldest_0  {k : zk_K} {Q : zk_Q} {h : zk_H}  (H : ((¬ (1 : Int32) < 0 ∧ ¬ (0 : Int32) < 0 ∧ ¬ (39 : Int32) < 0 ∧ (1 : Int32).toNatClampNeg + (39 : Int32).toNatClampNeg ≤ 40 ∧ (0 : Int32).toNatClampNeg + (39 : Int32).toNatClampNeg ≤ 40) ∧ ((¬ (1 : Int32) < 0 ∧ ¬ (0 : Int32) < 0 ∧ ¬ (39 : Int32) < 0 ∧ (1 : Int32).toNatClampNeg + (39 : Int32).toNatClampNeg ≤ 40 ∧ (0 : Int32).toNatClampNeg + (39 : Int32).toNatClampNeg ≤ 40) ∧ ((¬ (1 : Int32) < 0 ∧ ¬ (0 : Int32) < 0 ∧ ¬ (39 : Int32) < 0 ∧ (1 : Int32).toNatClampNeg + (39 : Int32).toNatClampNeg ≤ 40 ∧ (0 : Int32).toNatClampNeg + (39 : Int32).toNatClampNeg ≤ 40) ∧ ((¬ (1 : Int32) < 0 ∧ ¬ (0 : Int32) < 0 ∧ ¬ (39 : Int32) < 0 ∧ (1 : Int32).toNatClampNeg + (39 : Int32).toNatClampNeg ≤ 40 ∧ (0 : Int32).toNatClampNeg + (39 : Int32).toNatClampNeg ≤ 40) ∧ Q.2.2.1 () (zk_si (zk_wi (zk_wi (zk_wi (zk_wi h 20 (va_cpy (h.1 20) (h.1 20) (1 : Int32).toNatClampNeg (0 : Int32).toNatClampNeg (39 : Int32).toNatClampNeg)) 21 (va_cpy ((zk_wi h 20 (va_cpy (h.1 20) (h.1 20) (1 : Int32).toNatClampNeg (0 : Int32).toNatClampNeg (39 : Int32).toNatClampNeg)).1 21) ((zk_wi h 20 (va_cpy (h.1 20) (h.1 20) (1 : Int32).toNatClampNeg (0 : Int32).toNatClampNeg (39 : Int32).toNatClampNeg)).1 21) (1 : Int32).toNatClampNeg (0 : Int32).toNatClampNeg (39 : Int32).toNatClampNeg)) 22 (va_cpy ((zk_wi (zk_wi h 20 (va_cpy (h.1 20) (h.1 20) (1 : Int32).toNatClampNeg (0 : Int32).toNatClampNeg (39 : Int32).toNatClampNeg)) 21 (va_cpy ((zk_wi h 20 (va_cpy (h.1 20) (h.1 20) (1 : Int32).toNatClampNeg (0 : Int32).toNatClampNeg (39 : Int32).toNatClampNeg)).1 21) ((zk_wi h 20 (va_cpy (h.1 20) (h.1 20) (1 : Int32).toNatClampNeg (0 : Int32).toNatClampNeg (39 : Int32).toNatClampNeg)).1 21) (1 : Int32).toNatClampNeg (0 : Int32).toNatClampNeg (39 : Int32).toNatClampNeg)).1 22) ((zk_wi (zk_wi h 20 (va_cpy (h.1 20) (h.1 20) (1 : Int32).toNatClampNeg (0 : Int32).toNatClampNeg (39 : Int32).toNatClampNeg)) 21 (va_cpy ((zk_wi h 20 (va_cpy (h.1 20) (h.1 20) (1 : Int32).toNatClampNeg (0 : Int32).toNatClampNeg (39 : Int32).toNatClampNeg)).1 21) ((zk_wi h 20 (va_cpy (h.1 20) (h.1 20) (1 : Int32).toNatClampNeg (0 : Int32).toNatClampNeg (39 : Int32).toNatClampNeg)).1 21) (1 : Int32).toNatClampNeg (0 : Int32).toNatClampNeg (39 : Int32).toNatClampNeg)).1 22) (1 : Int32).toNatClampNeg (0 : Int32).toNatClampNeg (39 : Int32).toNatClampNeg)) 23 (va_cpy ((zk_wi (zk_wi (zk_wi h 20 (va_cpy (h.1 20) (h.1 20) (1 : Int32).toNatClampNeg (0 : Int32).toNatClampNeg (39 : Int32).toNatClampNeg)) 21 (va_cpy ((zk_wi h 20 (va_cpy (h.1 20) (h.1 20) (1 : Int32).toNatClampNeg (0 : Int32).toNatClampNeg (39 : Int32).toNatClampNeg)).1 21) ((zk_wi h 20 (va_cpy (h.1 20) (h.1 20) (1 : Int32).toNatClampNeg (0 : Int32).toNatClampNeg (39 : Int32).toNatClampNeg)).1 21) (1 : Int32).toNatClampNeg (0 : Int32).toNatClampNeg (39 : Int32).toNatClampNeg)) 22 (va_cpy ((zk_wi (zk_wi h 20 (va_cpy (h.1 20) (h.1 20) (1 : Int32).toNatClampNeg (0 : Int32).toNatClampNeg (39 : Int32).toNatClampNeg)) 21 (va_cpy ((zk_wi h 20 (va_cpy (h.1 20) (h.1 20) (1 : Int32).toNatClampNeg (0 : Int32).toNatClampNeg (39 : Int32).toNatClampNeg)).1 21) ((zk_wi h 20 (va_cpy (h.1 20) (h.1 20) (1 : Int32).toNatClampNeg (0 : Int32).toNatClampNeg (39 : Int32).toNatClampNeg)).1 21) (1 : Int32).toNatClampNeg (0 : Int32).toNatClampNeg (39 : Int32).toNatClampNeg)).1 22) ((zk_wi (zk_wi h 20 (va_cpy (h.1 20) (h.1 20) (1 : Int32).toNatClampNeg (0 : Int32).toNatClampNeg (39 : Int32).toNatClampNeg)) 21 (va_cpy ((zk_wi h 20 (va_cpy (h.1 20) (h.1 20) (1 : Int32).toNatClampNeg (0 : Int32).toNatClampNeg (39 : Int32).toNatClampNeg)).1 21) ((zk_wi h 20 (va_cpy (h.1 20) (h.1 20) (1 : Int32).toNatClampNeg (0 : Int32).toNatClampNeg (39 : Int32).toNatClampNeg)).1 21) (1 : Int32).toNatClampNeg (0 : Int32).toNatClampNeg (39 : Int32).toNatClampNeg)).1 22) (1 : Int32).toNatClampNeg (0 : Int32).toNatClampNeg (39 : Int32).toNatClampNeg)).1 23) ((zk_wi (zk_wi (zk_wi h 20 (va_cpy (h.1 20) (h.1 20) (1 : Int32).toNatClampNeg (0 : Int32).toNatClampNeg (39 : Int32).toNatClampNeg)) 21 (va_cpy ((zk_wi h 20 (va_cpy (h.1 20) (h.1 20) (1 : Int32).toNatClampNeg (0 : Int32).toNatClampNeg (39 : Int32).toNatClampNeg)).1 21) ((zk_wi h 20 (va_cpy (h.1 20) (h.1 20) (1 : Int32).toNatClampNeg (0 : Int32).toNatClampNeg (39 : Int32).toNatClampNeg)).1 21) (1 : Int32).toNatClampNeg (0 : Int32).toNatClampNeg (39 : Int32).toNatClampNeg)) 22 (va_cpy ((zk_wi (zk_wi h 20 (va_cpy (h.1 20) (h.1 20) (1 : Int32).toNatClampNeg (0 : Int32).toNatClampNeg (39 : Int32).toNatClampNeg)) 21 (va_cpy ((zk_wi h 20 (va_cpy (h.1 20) (h.1 20) (1 : Int32).toNatClampNeg (0 : Int32).toNatClampNeg (39 : Int32).toNatClampNeg)).1 21) ((zk_wi h 20 (va_cpy (h.1 20) (h.1 20) (1 : Int32).toNatClampNeg (0 : Int32).toNatClampNeg (39 : Int32).toNatClampNeg)).1 21) (1 : Int32).toNatClampNeg (0 : Int32).toNatClampNeg (39 : Int32).toNatClampNeg)).1 22) ((zk_wi (zk_wi h 20 (va_cpy (h.1 20) (h.1 20) (1 : Int32).toNatClampNeg (0 : Int32).toNatClampNeg (39 : Int32).toNatClampNeg)) 21 (va_cpy ((zk_wi h 20 (va_cpy (h.1 20) (h.1 20) (1 : Int32).toNatClampNeg (0 : Int32).toNatClampNeg (39 : Int32).toNatClampNeg)).1 21) ((zk_wi h 20 (va_cpy (h.1 20) (h.1 20) (1 : Int32).toNatClampNeg (0 : Int32).toNatClampNeg (39 : Int32).toNatClampNeg)).1 21) (1 : Int32).toNatClampNeg (0 : Int32).toNatClampNeg (39 : Int32).toNatClampNeg)).1 22) (1 : Int32).toNatClampNeg (0 : Int32).toNatClampNeg (39 : Int32).toNatClampNeg)).1 23) (1 : Int32).toNatClampNeg (0 : Int32).toNatClampNeg (39 : Int32).toNatClampNeg)) 19 5 ((h.1 19 5) - (1 : Int32)))))))) : zk_R zk_C (zk_lkl lkX1) zk_mt (zk_cxl []) none (zk_at cdX1_dropOldest) Q [] k 41 0 [some (.ref 19)] [] h := H
theorem fcX2_letMinutesPass : zk_fc mX2_letMinutesPass (zk_lkl lkX2) (zk_at cdX2_letMinutesPass) := ⟨lkX2_ok, by decide +kernel, cdX2_letMinutesPass_ok⟩
set_option maxRecDepth 100000 in
theorem bX2_letMinutesPass_0  {k : zk_K} {Q : zk_Q} {h : zk_H} {x1 : Int32} (H : Q.1 ((h.1 40 1) + x1) (zk_si h 40 1 ((h.1 40 1) + x1))) : zk_R zk_C (zk_lkl lkX2) zk_mt (zk_cxl []) (some .int) (zk_at cdX2_letMinutesPass) Q [] k 11 0 [some (.ref 40), some (.int x1)] [] h := H
theorem fcX2_sendCard : zk_fc mX2_sendCard (zk_lkl lkX2) (zk_at cdX2_sendCard) := ⟨lkX2_ok, by decide +kernel, cdX2_sendCard_ok⟩
set_option maxRecDepth 100000 in
theorem bX2_sendCard_0 {pX4_addCard : zk_pI} {k : zk_K} {Q : zk_Q} {h : zk_H} {x1 x2 x3 : Int32} (H : pX4_addCard [.ref 1, .int x2, .int (h.1 40 1), .int x3] h (fun v2 h1 => (vp_in (14 : Int32) 16 ∧ (vp_in v2 8 ∧ Q.1 v2 (zk_si (zk_si h1 17 v2.toNatClampNeg x1) 40 2 ((h1.1 40 2) + (1 : Int32))))))) : zk_R zk_C (zk_lkl lkX2) zk_mt (zk_cxl [(35, zk_iP pX4_addCard)]) (some .int) (zk_at cdX2_sendCard) Q [] k 26 0 [some (.ref 40), some (.int x1), some (.int x2), some (.int x3), none] [] h := H
theorem fcX2_mayBeThanked : zk_fc mX2_mayBeThanked (zk_lkl lkX2) (zk_at cdX2_mayBeThanked) := ⟨lkX2_ok, by decide +kernel, cdX2_mayBeThanked_ok⟩
set_option maxRecDepth 100000 in
theorem bX2_mayBeThanked_0  {k : zk_K} {Q : zk_Q} {h : zk_H} {x1 : Int32} (H : (vp_in (14 : Int32) 16 ∧ (vp_in x1 8 ∧ (((h.1 17 x1.toNatClampNeg) = (-2 : Int32) → (((0 : Int32) = 0 ∨ (0 : Int32) = 1) ∧ Q.1 (0 : Int32) h)) ∧ (¬ (h.1 17 x1.toNatClampNeg) = (-2 : Int32) → (vp_in (15 : Int32) 16 ∧ (vp_in x1 8 ∧ ((¬ (h.1 18 x1.toNatClampNeg) = (-2 : Int32) → (((0 : Int32) = 0 ∨ (0 : Int32) = 1) ∧ Q.1 (0 : Int32) h)) ∧ ((h.1 18 x1.toNatClampNeg) = (-2 : Int32) → (((1 : Int32) = 0 ∨ (1 : Int32) = 1) ∧ Q.1 (1 : Int32) h)))))))))) : zk_R zk_C (zk_lkl lkX2) zk_mt (zk_cxl []) (some .boolean) (zk_at cdX2_mayBeThanked) Q [] k 23 0 [some (.ref 40), some (.int x1)] [] h := H
theorem fcX2_thankOne : zk_fc mX2_thankOne (zk_lkl lkX2) (zk_at cdX2_thankOne) := ⟨lkX2_ok, by decide +kernel, cdX2_thankOne_ok⟩
set_option maxRecDepth 100000 in
theorem bX2_thankOne_0  {k : zk_K} {Q : zk_Q} {h : zk_H} {x1 x2 : Int32} (H : (vp_in (15 : Int32) 16 ∧ (vp_in x1 8 ∧ (vp_in (14 : Int32) 16 ∧ (vp_in x1 8 ∧ ((¬ (h.1 17 x1.toNatClampNeg) = x2 → Q.1 (0 : Int32) (zk_si (zk_si h 18 x1.toNatClampNeg x2) 40 4 ((h.1 40 4) + (1 : Int32)))) ∧ ((h.1 17 x1.toNatClampNeg) = x2 → Q.1 (1 : Int32) (zk_si (zk_si h 18 x1.toNatClampNeg x2) 40 3 ((h.1 40 3) + (1 : Int32)))))))))) : zk_R zk_C (zk_lkl lkX2) zk_mt (zk_cxl []) (some .int) (zk_at cdX2_thankOne) Q [] k 27 0 [some (.ref 40), some (.int x1), some (.int x2)] [] h := H
theorem fcX2_keepImage : zk_fc mX2_keepImage (zk_lkl lkX2) (zk_at cdX2_keepImage) := ⟨lkX2_ok, by decide +kernel, cdX2_keepImage_ok⟩
set_option maxRecDepth 100000 in
theorem bX2_keepImage_0  {k : zk_K} {Q : zk_Q} {h : zk_H}  (H : (((1 : Int32) = 0 ∨ (1 : Int32) = 1) ∧ (vp_in (15 : Int32) 16 ∧ ((¬ (0 : Int32) < 0 ∧ ¬ (0 : Int32) < 0 ∧ ¬ (6 : Int32) < 0 ∧ (0 : Int32).toNatClampNeg + (6 : Int32).toNatClampNeg ≤ 8 ∧ (0 : Int32).toNatClampNeg + (6 : Int32).toNatClampNeg ≤ 6) ∧ Q.1 (h.1 40 1) (zk_wi (zk_si (zk_si (zk_si (zk_si (zk_si h 40 5 (1 : Int32)) 40 6 (h.1 40 1)) 40 7 (h.1 40 2)) 40 8 (h.1 40 3)) 40 9 (h.1 40 4)) 41 (va_cpy ((zk_si (zk_si (zk_si (zk_si (zk_si h 40 5 (1 : Int32)) 40 6 (h.1 40 1)) 40 7 (h.1 40 2)) 40 8 (h.1 40 3)) 40 9 (h.1 40 4)).1 18) ((zk_si (zk_si (zk_si (zk_si (zk_si h 40 5 (1 : Int32)) 40 6 (h.1 40 1)) 40 7 (h.1 40 2)) 40 8 (h.1 40 3)) 40 9 (h.1 40 4)).1 41) (0 : Int32).toNatClampNeg (0 : Int32).toNatClampNeg (6 : Int32).toNatClampNeg)))))) : zk_R zk_C (zk_lkl lkX2) zk_mt (zk_cxl []) (some .int) (zk_at cdX2_keepImage) Q [] k 35 0 [some (.ref 40)] [] h := H
theorem fcX2_layImageBack : zk_fc mX2_layImageBack (zk_lkl lkX2) (zk_at cdX2_layImageBack) := ⟨lkX2_ok, by decide +kernel, cdX2_layImageBack_ok⟩
set_option maxRecDepth 100000 in
theorem bX2_layImageBack_0  {k : zk_K} {Q : zk_Q} {h : zk_H}  (H : (vp_in (15 : Int32) 16 ∧ ((¬ (0 : Int32) < 0 ∧ ¬ (0 : Int32) < 0 ∧ ¬ (6 : Int32) < 0 ∧ (0 : Int32).toNatClampNeg + (6 : Int32).toNatClampNeg ≤ 6 ∧ (0 : Int32).toNatClampNeg + (6 : Int32).toNatClampNeg ≤ 8) ∧ Q.1 (h.1 40 6) (zk_wi (zk_si (zk_si (zk_si (zk_si h 40 1 (h.1 40 6)) 40 2 (h.1 40 7)) 40 3 (h.1 40 8)) 40 4 (h.1 40 9)) 18 (va_cpy ((zk_si (zk_si (zk_si (zk_si h 40 1 (h.1 40 6)) 40 2 (h.1 40 7)) 40 3 (h.1 40 8)) 40 4 (h.1 40 9)).1 41) ((zk_si (zk_si (zk_si (zk_si h 40 1 (h.1 40 6)) 40 2 (h.1 40 7)) 40 3 (h.1 40 8)) 40 4 (h.1 40 9)).1 18) (0 : Int32).toNatClampNeg (0 : Int32).toNatClampNeg (6 : Int32).toNatClampNeg))))) : zk_R zk_C (zk_lkl lkX2) zk_mt (zk_cxl []) (some .int) (zk_at cdX2_layImageBack) Q [] k 32 0 [some (.ref 40)] [] h := H
theorem fcX3_adopt : zk_fc mX3_adopt (zk_lkl lkX3) (zk_at cdX3_adopt) := ⟨lkX3_ok, by decide +kernel, cdX3_adopt_ok⟩
set_option maxRecDepth 100000 in
theorem bX3_adopt_0  {k : zk_K} {Q : zk_Q} {h : zk_H} {x2 : Int32} (H : ((¬ (0 : Int32) < 0 ∧ ¬ (0 : Int32) < 0 ∧ ¬ x2 < 0 ∧ (0 : Int32).toNatClampNeg + x2.toNatClampNeg ≤ 121 ∧ (0 : Int32).toNatClampNeg + x2.toNatClampNeg ≤ 121) ∧ Q.2.2.1 () (zk_wi (zk_si h 28 1 x2) 29 (va_cpy ((zk_si h 28 1 x2).1 26) ((zk_si h 28 1 x2).1 29) (0 : Int32).toNatClampNeg (0 : Int32).toNatClampNeg x2.toNatClampNeg)))) : zk_R zk_C (zk_lkl lkX3) zk_mt (zk_cxl []) none (zk_at cdX3_adopt) Q [] k 13 0 [some (.ref 28), some (.ref 26), some (.int x2)] [] h := H
theorem fcX3_isTold : zk_fc mX3_isTold (zk_lkl lkX3) (zk_at cdX3_isTold) := ⟨lkX3_ok, by decide +kernel, cdX3_isTold_ok⟩
set_option maxRecDepth 100000 in
theorem bX3_isTold_0  {k : zk_K} {Q : zk_Q} {h : zk_H}  (H : (((h.1 28 1) ≤ 0 → (((0 : Int32) = 0 ∨ (0 : Int32) = 1) ∧ Q.1 (0 : Int32) h)) ∧ (¬ (h.1 28 1) ≤ 0 → (((1 : Int32) = 0 ∨ (1 : Int32) = 1) ∧ Q.1 (1 : Int32) h)))) : zk_R zk_C (zk_lkl lkX3) zk_mt (zk_cxl []) (some .boolean) (zk_at cdX3_isTold) Q [] k 8 0 [some (.ref 28)] [] h := H
theorem fcX3_valueFor : zk_fc mX3_valueFor (zk_lkl lkX3) (zk_at cdX3_valueFor) := ⟨lkX3_ok, by decide +kernel, cdX3_valueFor_ok⟩
set_option maxRecDepth 100000 in
theorem bX3_valueFor_0 {pX3_operandsOf : zk_pI} {pX3_worked : zk_pI} {k : zk_K} {Q : zk_Q} {h : zk_H}  (H : k 7 [some (.ref 28), some (.ref 32), some (.int (0 : Int32)), some (.int (0 : Int32)), some (.int (0 : Int32)), none, none] [] h) : zk_R zk_C (zk_lkl lkX3) zk_mt (zk_cxl [(23, zk_iP pX3_operandsOf), (24, zk_iP pX3_worked)]) (some .int) (zk_at cdX3_valueFor) Q [7] k 8 0 [some (.ref 28), some (.ref 32), none, none, none, none, none] [] h := H
set_option maxRecDepth 100000 in
theorem bX3_valueFor_7 {pX3_operandsOf : zk_pI} {pX3_worked : zk_pI} {k : zk_K} {Q : zk_Q} {h : zk_H} {x2 x3 x4 : Int32} (H : (((h.1 28 1) ≤ x4 → Q.1 (0 : Int32) h) ∧ (¬ (h.1 28 1) ≤ x4 → (vp_in x4 121 ∧ ((x3 = 0 → ((¬ (h.1 29 x4.toNatClampNeg) = (20059 : Int32) → ((¬ (h.1 29 x4.toNatClampNeg) = (20063 : Int32) → (((20000 : Int32) ≤ (h.1 29 x4.toNatClampNeg) → pX3_operandsOf [.ref 28, .int (h.1 29 x4.toNatClampNeg)] h (fun v2 h1 => (vp_in (if (0 : Int32) < (x2 - v2) then (x2 - v2) else (0 : Int32)) 121 ∧ (vp_in (if (if (0 : Int32) < (x2 - v2) then (x2 - v2) else (0 : Int32)) < (x2 - (1 : Int32)) then (x2 - (1 : Int32)) else (if (0 : Int32) < (x2 - v2) then (x2 - v2) else (0 : Int32))) 121 ∧ pX3_worked [.ref 28, .int ((h.1 29 x4.toNatClampNeg) - (20000 : Int32)), .int (h1.1 30 (if (0 : Int32) < (x2 - v2) then (x2 - v2) else (0 : Int32)).toNatClampNeg), .int (h1.1 30 (if (if (0 : Int32) < (x2 - v2) then (x2 - v2) else (0 : Int32)) < (x2 - (1 : Int32)) then (x2 - (1 : Int32)) else (if (0 : Int32) < (x2 - v2) then (x2 - v2) else (0 : Int32))).toNatClampNeg)] h1 (fun v4 h3 => (vp_in (if (0 : Int32) < (x2 - v2) then (x2 - v2) else (0 : Int32)) 121 ∧ k 7 [some (.ref 28), some (.ref 32), some (.int ((if (0 : Int32) < (x2 - v2) then (x2 - v2) else (0 : Int32)) + (1 : Int32))), some (.int x3), some (.int (x4 + (1 : Int32))), some (.int (h.1 29 x4.toNatClampNeg)), some (.int (if (0 : Int32) < (x2 - v2) then (x2 - v2) else (0 : Int32)))] [] (zk_si h3 30 (if (0 : Int32) < (x2 - v2) then (x2 - v2) else (0 : Int32)).toNatClampNeg v4))))))) ∧ (¬ (20000 : Int32) ≤ (h.1 29 x4.toNatClampNeg) → (((10000 : Int32) ≤ (h.1 29 x4.toNatClampNeg) → (vp_in ((h.1 29 x4.toNatClampNeg) - (10000 : Int32)) 6 ∧ (vp_in x2 121 ∧ k 7 [some (.ref 28), some (.ref 32), some (.int (x2 + (1 : Int32))), some (.int x3), some (.int (x4 + (1 : Int32))), some (.int (h.1 29 x4.toNatClampNeg)), none] [] (zk_si h 30 x2.toNatClampNeg (h.1 32 ((h.1 29 x4.toNatClampNeg) - (10000 : Int32)).toNatClampNeg))))) ∧ (¬ (10000 : Int32) ≤ (h.1 29 x4.toNatClampNeg) → (vp_in x2 121 ∧ k 7 [some (.ref 28), some (.ref 32), some (.int (x2 + (1 : Int32))), some (.int x3), some (.int (x4 + (1 : Int32))), some (.int (h.1 29 x4.toNatClampNeg)), none] [] (zk_si h 30 x2.toNatClampNeg (h.1 29 x4.toNatClampNeg)))))))) ∧ ((h.1 29 x4.toNatClampNeg) = (20063 : Int32) → (vp_in (0 : Int32) 121 ∧ ((¬ (h.1 30 0) = 0 → k 7 [some (.ref 28), some (.ref 32), some (.int (0 : Int32)), some (.int (0 : Int32)), some (.int (x4 + (1 : Int32))), some (.int (h.1 29 x4.toNatClampNeg)), none] [] h) ∧ ((h.1 30 0) = 0 → k 7 [some (.ref 28), some (.ref 32), some (.int (0 : Int32)), some (.int (1 : Int32)), some (.int (x4 + (1 : Int32))), some (.int (h.1 29 x4.toNatClampNeg)), none] [] h)))))) ∧ ((h.1 29 x4.toNatClampNeg) = (20059 : Int32) → (vp_in (0 : Int32) 121 ∧ Q.1 (h.1 30 0) h)))) ∧ (¬ x3 = 0 → (((h.1 29 x4.toNatClampNeg) = (20059 : Int32) → k 7 [some (.ref 28), some (.ref 32), some (.int x2), some (.int (0 : Int32)), some (.int (x4 + (1 : Int32))), some (.int (h.1 29 x4.toNatClampNeg)), none] [] h) ∧ (¬ (h.1 29 x4.toNatClampNeg) = (20059 : Int32) → k 7 [some (.ref 28), some (.ref 32), some (.int x2), some (.int (1 : Int32)), some (.int (x4 + (1 : Int32))), some (.int (h.1 29 x4.toNatClampNeg)), none] [] h)))))))) : zk_R zk_C (zk_lkl lkX3) zk_mt (zk_cxl [(23, zk_iP pX3_operandsOf), (24, zk_iP pX3_worked)]) (some .int) (zk_at cdX3_valueFor) Q [7] k 57 7 [some (.ref 28), some (.ref 32), some (.int x2), some (.int x3), some (.int x4), none, none] [] h := H
theorem fcX3_operandsOf : zk_fc mX3_operandsOf (zk_lkl lkX3) (zk_at cdX3_operandsOf) := ⟨lkX3_ok, by decide +kernel, cdX3_operandsOf_ok⟩
set_option maxRecDepth 100000 in
theorem bX3_operandsOf_0  {k : zk_K} {Q : zk_Q} {h : zk_H} {x1 : Int32} (H : ((x1 = (20033 : Int32) → Q.1 (1 : Int32) h) ∧ (¬ x1 = (20033 : Int32) → ((¬ x1 = (20126 : Int32) → Q.1 (2 : Int32) h) ∧ (x1 = (20126 : Int32) → Q.1 (1 : Int32) h))))) : zk_R zk_C (zk_lkl lkX3) zk_mt (zk_cxl []) (some .int) (zk_at cdX3_operandsOf) Q [] k 11 0 [some (.ref 28), some (.int x1)] [] h := H
theorem fcX3_worked : zk_fc mX3_worked (zk_lkl lkX3) (zk_at cdX3_worked) := ⟨lkX3_ok, by decide +kernel, cdX3_worked_ok⟩
set_option maxRecDepth 100000 in
theorem bX3_worked_0  {k : zk_K} {Q : zk_Q} {h : zk_H} {x1 x2 x3 : Int32} (H : ((x1 = (33 : Int32) → ((¬ x3 = 0 → Q.1 (0 : Int32) h) ∧ (x3 = 0 → Q.1 (1 : Int32) h))) ∧ (¬ x1 = (33 : Int32) → ((x1 = (37 : Int32) → ((¬ x3 = 0 → (¬ x3 = 0 ∧ Q.1 (x2 - x2 / x3 * x3) h)) ∧ (x3 = 0 → Q.1 (0 : Int32) h))) ∧ (¬ x1 = (37 : Int32) → ((x1 = (38 : Int32) → ((x2 = 0 → Q.1 (0 : Int32) h) ∧ (¬ x2 = 0 → ((x3 = 0 → Q.1 (0 : Int32) h) ∧ (¬ x3 = 0 → Q.1 (1 : Int32) h))))) ∧ (¬ x1 = (38 : Int32) → ((x1 = (42 : Int32) → Q.1 (x2 * x3) h) ∧ (¬ x1 = (42 : Int32) → ((x1 = (43 : Int32) → Q.1 (x2 + x3) h) ∧ (¬ x1 = (43 : Int32) → ((x1 = (45 : Int32) → Q.1 (x2 - x3) h) ∧ (¬ x1 = (45 : Int32) → ((x1 = (47 : Int32) → ((¬ x3 = 0 → (¬ x3 = 0 ∧ Q.1 (x2 / x3) h)) ∧ (x3 = 0 → Q.1 (0 : Int32) h))) ∧ (¬ x1 = (47 : Int32) → ((x1 = (60 : Int32) → ((x3 ≤ x2 → Q.1 (0 : Int32) h) ∧ (¬ x3 ≤ x2 → Q.1 (1 : Int32) h))) ∧ (¬ x1 = (60 : Int32) → ((x1 = (61 : Int32) → ((¬ x2 = x3 → Q.1 (0 : Int32) h) ∧ (x2 = x3 → Q.1 (1 : Int32) h))) ∧ (¬ x1 = (61 : Int32) → ((x1 = (62 : Int32) → ((x2 ≤ x3 → Q.1 (0 : Int32) h) ∧ (¬ x2 ≤ x3 → Q.1 (1 : Int32) h))) ∧ (¬ x1 = (62 : Int32) → ((x1 = (124 : Int32) → ((¬ x2 = 0 → Q.1 (1 : Int32) h) ∧ (x2 = 0 → ((x3 = 0 → Q.1 (0 : Int32) h) ∧ (¬ x3 = 0 → Q.1 (1 : Int32) h))))) ∧ (¬ x1 = (124 : Int32) → ((x1 = (126 : Int32) → Q.1 (-x3) h) ∧ (¬ x1 = (126 : Int32) → Q.1 (0 : Int32) h))))))))))))))))))))))))) : zk_R zk_C (zk_lkl lkX3) zk_mt (zk_cxl []) (some .int) (zk_at cdX3_worked) Q [] k 11 0 [some (.ref 28), some (.int x1), some (.int x2), some (.int x3)] [] h := H
theorem fcX4_isPerson : zk_fc mX4_isPerson (zk_lkl lkX4) (zk_at cdX4_isPerson) := ⟨lkX4_ok, by decide +kernel, cdX4_isPerson_ok⟩
set_option maxRecDepth 100000 in
theorem bX4_isPerson_0  {k : zk_K} {Q : zk_Q} {h : zk_H} {x1 : Int32} (H : ((x1 < 0 → (((0 : Int32) = 0 ∨ (0 : Int32) = 1) ∧ Q.1 (0 : Int32) h)) ∧ (¬ x1 < 0 → (((h.1 1 1) ≤ x1 → (((0 : Int32) = 0 ∨ (0 : Int32) = 1) ∧ Q.1 (0 : Int32) h)) ∧ (¬ (h.1 1 1) ≤ x1 → (((1 : Int32) = 0 ∨ (1 : Int32) = 1) ∧ Q.1 (1 : Int32) h)))))) : zk_R zk_C (zk_lkl lkX4) zk_mt (zk_cxl []) (some .boolean) (zk_at cdX4_isPerson) Q [] k 11 0 [some (.ref 1), some (.int x1)] [] h := H
theorem fcX4_isCard : zk_fc mX4_isCard (zk_lkl lkX4) (zk_at cdX4_isCard) := ⟨lkX4_ok, by decide +kernel, cdX4_isCard_ok⟩
set_option maxRecDepth 100000 in
theorem bX4_isCard_0  {k : zk_K} {Q : zk_Q} {h : zk_H} {x1 : Int32} (H : ((x1 < 0 → (((0 : Int32) = 0 ∨ (0 : Int32) = 1) ∧ Q.1 (0 : Int32) h)) ∧ (¬ x1 < 0 → (((h.1 1 2) ≤ x1 → (((0 : Int32) = 0 ∨ (0 : Int32) = 1) ∧ Q.1 (0 : Int32) h)) ∧ (¬ (h.1 1 2) ≤ x1 → (((1 : Int32) = 0 ∨ (1 : Int32) = 1) ∧ Q.1 (1 : Int32) h)))))) : zk_R zk_C (zk_lkl lkX4) zk_mt (zk_cxl []) (some .boolean) (zk_at cdX4_isCard) Q [] k 11 0 [some (.ref 1), some (.int x1)] [] h := H
theorem fcX4_isSecret : zk_fc mX4_isSecret (zk_lkl lkX4) (zk_at cdX4_isSecret) := ⟨lkX4_ok, by decide +kernel, cdX4_isSecret_ok⟩
set_option maxRecDepth 100000 in
theorem bX4_isSecret_0  {k : zk_K} {Q : zk_Q} {h : zk_H} {x1 : Int32} (H : ((x1 < 0 → (((0 : Int32) = 0 ∨ (0 : Int32) = 1) ∧ Q.1 (0 : Int32) h)) ∧ (¬ x1 < 0 → (((8 : Int32) ≤ x1 → (((0 : Int32) = 0 ∨ (0 : Int32) = 1) ∧ Q.1 (0 : Int32) h)) ∧ (¬ (8 : Int32) ≤ x1 → (((1 : Int32) = 0 ∨ (1 : Int32) = 1) ∧ Q.1 (1 : Int32) h)))))) : zk_R zk_C (zk_lkl lkX4) zk_mt (zk_cxl []) (some .boolean) (zk_at cdX4_isSecret) Q [] k 10 0 [some (.ref 1), some (.int x1)] [] h := H
theorem fcX4_isSet : zk_fc mX4_isSet (zk_lkl lkX4) (zk_at cdX4_isSet) := ⟨lkX4_ok, by decide +kernel, cdX4_isSet_ok⟩
set_option maxRecDepth 100000 in
theorem bX4_isSet_0  {k : zk_K} {Q : zk_Q} {h : zk_H} {x1 : Int32} (H : ((x1 < 0 → (((0 : Int32) = 0 ∨ (0 : Int32) = 1) ∧ Q.1 (0 : Int32) h)) ∧ (¬ x1 < 0 → ((((1 : Int32) <<< ((h.1 1 2) &&& 31)) ≤ x1 → (((0 : Int32) = 0 ∨ (0 : Int32) = 1) ∧ Q.1 (0 : Int32) h)) ∧ (¬ ((1 : Int32) <<< ((h.1 1 2) &&& 31)) ≤ x1 → (((1 : Int32) = 0 ∨ (1 : Int32) = 1) ∧ Q.1 (1 : Int32) h)))))) : zk_R zk_C (zk_lkl lkX4) zk_mt (zk_cxl []) (some .boolean) (zk_at cdX4_isSet) Q [] k 13 0 [some (.ref 1), some (.int x1)] [] h := H
theorem fcX4_isCardAndPerson : zk_fc mX4_isCardAndPerson (zk_lkl lkX4) (zk_at cdX4_isCardAndPerson) := ⟨lkX4_ok, by decide +kernel, cdX4_isCardAndPerson_ok⟩
set_option maxRecDepth 100000 in
theorem bX4_isCardAndPerson_0 {pX4_isPerson : zk_pI} {pX4_isCard : zk_pI} {k : zk_K} {Q : zk_Q} {h : zk_H} {x1 : Int32} (H : ((x1 < 0 → (((0 : Int32) = 0 ∨ (0 : Int32) = 1) ∧ Q.1 (0 : Int32) h)) ∧ (¬ x1 < 0 → (¬ (10 : Int32) = 0 ∧ pX4_isCard [.ref 1, .int (x1 / (10 : Int32))] h (fun v2 h1 => ((v2 = 0 → (((0 : Int32) = 0 ∨ (0 : Int32) = 1) ∧ Q.1 (0 : Int32) h1)) ∧ (¬ v2 = 0 → (¬ (10 : Int32) = 0 ∧ pX4_isPerson [.ref 1, .int (x1 - x1 / (10 : Int32) * (10 : Int32))] h1 (fun v4 h3 => ((v4 = 0 → (((0 : Int32) = 0 ∨ (0 : Int32) = 1) ∧ Q.1 (0 : Int32) h3)) ∧ (¬ v4 = 0 → (((1 : Int32) = 0 ∨ (1 : Int32) = 1) ∧ Q.1 (1 : Int32) h3)))))))))))) : zk_R zk_C (zk_lkl lkX4) zk_mt (zk_cxl [(25, zk_iP pX4_isPerson), (26, zk_iP pX4_isCard)]) (some .boolean) (zk_at cdX4_isCardAndPerson) Q [] k 19 0 [some (.ref 1), some (.int x1)] [] h := H
theorem fcX4_isTwoPeople : zk_fc mX4_isTwoPeople (zk_lkl lkX4) (zk_at cdX4_isTwoPeople) := ⟨lkX4_ok, by decide +kernel, cdX4_isTwoPeople_ok⟩
set_option maxRecDepth 100000 in
theorem bX4_isTwoPeople_0 {pX4_isPerson : zk_pI} {k : zk_K} {Q : zk_Q} {h : zk_H} {x1 : Int32} (H : ((x1 < 0 → (((0 : Int32) = 0 ∨ (0 : Int32) = 1) ∧ Q.1 (0 : Int32) h)) ∧ (¬ x1 < 0 → (¬ (10 : Int32) = 0 ∧ pX4_isPerson [.ref 1, .int (x1 / (10 : Int32))] h (fun v2 h1 => ((v2 = 0 → (((0 : Int32) = 0 ∨ (0 : Int32) = 1) ∧ Q.1 (0 : Int32) h1)) ∧ (¬ v2 = 0 → (¬ (10 : Int32) = 0 ∧ pX4_isPerson [.ref 1, .int (x1 - x1 / (10 : Int32) * (10 : Int32))] h1 (fun v4 h3 => ((v4 = 0 → (((0 : Int32) = 0 ∨ (0 : Int32) = 1) ∧ Q.1 (0 : Int32) h3)) ∧ (¬ v4 = 0 → (¬ (10 : Int32) = 0 ∧ (¬ (10 : Int32) = 0 ∧ (((x1 / (10 : Int32)) = (x1 - x1 / (10 : Int32) * (10 : Int32)) → (((0 : Int32) = 0 ∨ (0 : Int32) = 1) ∧ Q.1 (0 : Int32) h3)) ∧ (¬ (x1 / (10 : Int32)) = (x1 - x1 / (10 : Int32) * (10 : Int32)) → (((1 : Int32) = 0 ∨ (1 : Int32) = 1) ∧ Q.1 (1 : Int32) h3)))))))))))))))) : zk_R zk_C (zk_lkl lkX4) zk_mt (zk_cxl [(25, zk_iP pX4_isPerson)]) (some .boolean) (zk_at cdX4_isTwoPeople) Q [] k 26 0 [some (.ref 1), some (.int x1)] [] h := H
theorem fcX4_isWay : zk_fc mX4_isWay (zk_lkl lkX4) (zk_at cdX4_isWay) := ⟨lkX4_ok, by decide +kernel, cdX4_isWay_ok⟩
set_option maxRecDepth 100000 in
theorem bX4_isWay_0  {k : zk_K} {Q : zk_Q} {h : zk_H} {x1 : Int32} (H : ((x1 < 0 → (((0 : Int32) = 0 ∨ (0 : Int32) = 1) ∧ Q.1 (0 : Int32) h)) ∧ (¬ x1 < 0 → (¬ (100 : Int32) = 0 ∧ (((8 : Int32) < (x1 / (100 : Int32)) → (((0 : Int32) = 0 ∨ (0 : Int32) = 1) ∧ Q.1 (0 : Int32) h)) ∧ (¬ (8 : Int32) < (x1 / (100 : Int32)) → (¬ (10 : Int32) = 0 ∧ (¬ (10 : Int32) = 0 ∧ (((4 : Int32) < ((x1 / (10 : Int32)) - (x1 / (10 : Int32)) / (10 : Int32) * (10 : Int32)) → (((0 : Int32) = 0 ∨ (0 : Int32) = 1) ∧ Q.1 (0 : Int32) h)) ∧ (¬ (4 : Int32) < ((x1 / (10 : Int32)) - (x1 / (10 : Int32)) / (10 : Int32) * (10 : Int32)) → (¬ (10 : Int32) = 0 ∧ (((1 : Int32) < (x1 - x1 / (10 : Int32) * (10 : Int32)) → (((0 : Int32) = 0 ∨ (0 : Int32) = 1) ∧ Q.1 (0 : Int32) h)) ∧ (¬ (1 : Int32) < (x1 - x1 / (10 : Int32) * (10 : Int32)) → (((1 : Int32) = 0 ∨ (1 : Int32) = 1) ∧ Q.1 (1 : Int32) h)))))))))))))) : zk_R zk_C (zk_lkl lkX4) zk_mt (zk_cxl []) (some .boolean) (zk_at cdX4_isWay) Q [] k 24 0 [some (.ref 1), some (.int x1)] [] h := H
theorem fcX4_has : zk_fc mX4_has (zk_lkl lkX4) (zk_at cdX4_has) := ⟨lkX4_ok, by decide +kernel, cdX4_has_ok⟩
set_option maxRecDepth 100000 in
theorem bX4_has_0 {pX4_isPerson : zk_pI} {pX4_isCard : zk_pI} {k : zk_K} {Q : zk_Q} {h : zk_H} {x1 x2 : Int32} (H : ((x2 < 0 → (((0 : Int32) = 0 ∨ (0 : Int32) = 1) ∧ Q.1 (0 : Int32) h)) ∧ (¬ x2 < 0 → ((x2 ≤ (15 : Int32) → (((5 : Int32) < x2 → ((x2 < (10 : Int32) → pX4_isCard [.ref 1, .int x1] h (fun v2 h1 => ((v2 = 0 ∨ v2 = 1) ∧ Q.1 v2 h1))) ∧ (¬ x2 < (10 : Int32) → (((12 : Int32) < x2 → pX4_isCard [.ref 1, .int x1] h (fun v4 h3 => ((v4 = 0 ∨ v4 = 1) ∧ Q.1 v4 h3))) ∧ (¬ (12 : Int32) < x2 → ((¬ x1 = 0 → (((0 : Int32) = 0 ∨ (0 : Int32) = 1) ∧ Q.1 (0 : Int32) h)) ∧ (x1 = 0 → (((1 : Int32) = 0 ∨ (1 : Int32) = 1) ∧ Q.1 (1 : Int32) h)))))))) ∧ (¬ (5 : Int32) < x2 → pX4_isPerson [.ref 1, .int x1] h (fun v6 h5 => ((v6 = 0 ∨ v6 = 1) ∧ Q.1 v6 h5))))) ∧ (¬ x2 ≤ (15 : Int32) → (((0 : Int32) = 0 ∨ (0 : Int32) = 1) ∧ Q.1 (0 : Int32) h)))))) : zk_R zk_C (zk_lkl lkX4) zk_mt (zk_cxl [(25, zk_iP pX4_isPerson), (26, zk_iP pX4_isCard)]) (some .boolean) (zk_at cdX4_has) Q [] k 21 0 [some (.ref 1), some (.int x1), some (.int x2)] [] h := H
theorem fcX4_fits : zk_fc mX4_fits (zk_lkl lkX4) (zk_at cdX4_fits) := ⟨lkX4_ok, by decide +kernel, cdX4_fits_ok⟩
set_option maxRecDepth 100000 in
theorem bX4_fits_0  {k : zk_K} {Q : zk_Q} {h : zk_H} {x1 x2 : Int32} (H : ((x1 < 0 → (((0 : Int32) = 0 ∨ (0 : Int32) = 1) ∧ Q.1 (0 : Int32) h)) ∧ (¬ x1 < 0 → (((12 : Int32) < x1 → (((0 : Int32) = 0 ∨ (0 : Int32) = 1) ∧ Q.1 (0 : Int32) h)) ∧ (¬ (12 : Int32) < x1 → (vp_in x1 13 ∧ ((x2 < (zk_rm0.getD x1.toNatClampNeg 0) → (((0 : Int32) = 0 ∨ (0 : Int32) = 1) ∧ Q.1 (0 : Int32) h)) ∧ (¬ x2 < (zk_rm0.getD x1.toNatClampNeg 0) → (vp_in x1 13 ∧ (((zk_rm1.getD x1.toNatClampNeg 0) < x2 → (((0 : Int32) = 0 ∨ (0 : Int32) = 1) ∧ Q.1 (0 : Int32) h)) ∧ (¬ (zk_rm1.getD x1.toNatClampNeg 0) < x2 → (((1 : Int32) = 0 ∨ (1 : Int32) = 1) ∧ Q.1 (1 : Int32) h)))))))))))) : zk_R zk_C (zk_lkl lkX4) zk_mt (zk_cxl []) (some .boolean) (zk_at cdX4_fits) Q [] k 20 0 [some (.ref 1), some (.int x1), some (.int x2)] [] h := H
theorem fcX4_addPerson : zk_fc mX4_addPerson (zk_lkl lkX4) (zk_at cdX4_addPerson) := ⟨lkX4_ok, by decide +kernel, cdX4_addPerson_ok⟩
set_option maxRecDepth 100000 in
theorem bX4_addPerson_0  {k : zk_K} {Q : zk_Q} {h : zk_H} {x1 x2 x3 : Int32} (H : (vp_in (0 : Int32) 16 ∧ (vp_in (h.1 1 1) 8 ∧ (vp_in (1 : Int32) 16 ∧ (vp_in (h.1 1 1) 8 ∧ (vp_in (2 : Int32) 16 ∧ (vp_in (h.1 1 1) 8 ∧ (vp_in (3 : Int32) 16 ∧ (vp_in (h.1 1 1) 8 ∧ (vp_in (4 : Int32) 16 ∧ (vp_in (h.1 1 1) 8 ∧ (vp_in (5 : Int32) 16 ∧ (vp_in (h.1 1 1) 8 ∧ Q.1 (h.1 1 1) (zk_si (zk_si (zk_si (zk_si (zk_si (zk_si (zk_si h 3 (h.1 1 1).toNatClampNeg (0 : Int32)) 4 (h.1 1 1).toNatClampNeg (99 : Int32)) 5 (h.1 1 1).toNatClampNeg x1) 6 (h.1 1 1).toNatClampNeg (0 : Int32)) 7 (h.1 1 1).toNatClampNeg x2) 8 (h.1 1 1).toNatClampNeg x3) 1 1 ((h.1 1 1) + (1 : Int32)))))))))))))))) : zk_R zk_C (zk_lkl lkX4) zk_mt (zk_cxl []) (some .int) (zk_at cdX4_addPerson) Q [] k 55 0 [some (.ref 1), some (.int x1), some (.int x2), some (.int x3), none] [] h := H
theorem fcX4_addCard : zk_fc mX4_addCard (zk_lkl lkX4) (zk_at cdX4_addCard) := ⟨lkX4_ok, by decide +kernel, cdX4_addCard_ok⟩
set_option maxRecDepth 100000 in
theorem bX4_addCard_0 {pX4_layCard : zk_pV} {k : zk_K} {Q : zk_Q} {h : zk_H} {x1 x2 x3 : Int32} (H : pX4_layCard [.ref 1, .int x1, .int x2, .int x3] h (fun h1 => Q.1 (h.1 1 2) (zk_si h1 1 2 ((h1.1 1 2) + (1 : Int32))))) : zk_R zk_C (zk_lkl lkX4) zk_mt (zk_cxl [(36, zk_vP pX4_layCard)]) (some .int) (zk_at cdX4_addCard) Q [] k 18 0 [some (.ref 1), some (.int x1), some (.int x2), some (.int x3), none] [] h := H
theorem fcX4_layCard : zk_fc mX4_layCard (zk_lkl lkX4) (zk_at cdX4_layCard) := ⟨lkX4_ok, by decide +kernel, cdX4_layCard_ok⟩
set_option maxRecDepth 100000 in
theorem bX4_layCard_0  {k : zk_K} {Q : zk_Q} {h : zk_H} {x1 x2 x3 : Int32} (H : (vp_in (13 : Int32) 16 ∧ (vp_in (h.1 1 2) 8 ∧ (vp_in (6 : Int32) 16 ∧ (vp_in (h.1 1 2) 8 ∧ (vp_in (8 : Int32) 16 ∧ (¬ (100 : Int32) = 0 ∧ (vp_in (h.1 1 2) 8 ∧ (vp_in (7 : Int32) 16 ∧ (¬ (10 : Int32) = 0 ∧ (¬ (10 : Int32) = 0 ∧ (vp_in (h.1 1 2) 8 ∧ (vp_in (9 : Int32) 16 ∧ (¬ (10 : Int32) = 0 ∧ (vp_in (h.1 1 2) 8 ∧ Q.2.2.1 () (zk_si (zk_si (zk_si (zk_si (zk_si h 16 (h.1 1 2).toNatClampNeg x1) 9 (h.1 1 2).toNatClampNeg x2) 11 (h.1 1 2).toNatClampNeg ((x3 / (100 : Int32)) - (1 : Int32))) 10 (h.1 1 2).toNatClampNeg (((x3 / (10 : Int32)) - (x3 / (10 : Int32)) / (10 : Int32) * (10 : Int32)) - (1 : Int32))) 12 (h.1 1 2).toNatClampNeg (x3 - x3 / (10 : Int32) * (10 : Int32)))))))))))))))))) : zk_R zk_C (zk_lkl lkX4) zk_mt (zk_cxl []) none (zk_at cdX4_layCard) Q [] k 53 0 [some (.ref 1), some (.int x1), some (.int x2), some (.int x3), none] [] h := H
theorem fcX4_likes : zk_fc mX4_likes (zk_lkl lkX4) (zk_at cdX4_likes) := ⟨lkX4_ok, by decide +kernel, cdX4_likes_ok⟩
set_option maxRecDepth 100000 in
theorem bX4_likes_0  {k : zk_K} {Q : zk_Q} {h : zk_H} {x1 x2 : Int32} (H : (vp_in (4 : Int32) 16 ∧ (vp_in x1 8 ∧ (((((h.1 7 x1.toNatClampNeg) >>> (x2 &&& 31)) &&& (1 : Int32)) = 0 → (((0 : Int32) = 0 ∨ (0 : Int32) = 1) ∧ Q.1 (0 : Int32) h)) ∧ (¬ (((h.1 7 x1.toNatClampNeg) >>> (x2 &&& 31)) &&& (1 : Int32)) = 0 → (((1 : Int32) = 0 ∨ (1 : Int32) = 1) ∧ Q.1 (1 : Int32) h)))))) : zk_R zk_C (zk_lkl lkX4) zk_mt (zk_cxl []) (some .boolean) (zk_at cdX4_likes) Q [] k 16 0 [some (.ref 1), some (.int x1), some (.int x2)] [] h := H
theorem fcX4_knows : zk_fc mX4_knows (zk_lkl lkX4) (zk_at cdX4_knows) := ⟨lkX4_ok, by decide +kernel, cdX4_knows_ok⟩
set_option maxRecDepth 100000 in
theorem bX4_knows_0  {k : zk_K} {Q : zk_Q} {h : zk_H} {x1 x2 : Int32} (H : (vp_in (5 : Int32) 16 ∧ (vp_in x1 8 ∧ (((((h.1 8 x1.toNatClampNeg) >>> (x2 &&& 31)) &&& (1 : Int32)) = 0 → (((0 : Int32) = 0 ∨ (0 : Int32) = 1) ∧ Q.1 (0 : Int32) h)) ∧ (¬ (((h.1 8 x1.toNatClampNeg) >>> (x2 &&& 31)) &&& (1 : Int32)) = 0 → (((1 : Int32) = 0 ∨ (1 : Int32) = 1) ∧ Q.1 (1 : Int32) h)))))) : zk_R zk_C (zk_lkl lkX4) zk_mt (zk_cxl []) (some .boolean) (zk_at cdX4_knows) Q [] k 16 0 [some (.ref 1), some (.int x1), some (.int x2)] [] h := H
theorem fcX4_isIn : zk_fc mX4_isIn (zk_lkl lkX4) (zk_at cdX4_isIn) := ⟨lkX4_ok, by decide +kernel, cdX4_isIn_ok⟩
set_option maxRecDepth 100000 in
theorem bX4_isIn_0  {k : zk_K} {Q : zk_Q} {h : zk_H} {x1 x2 : Int32} (H : (vp_in (0 : Int32) 16 ∧ (vp_in x1 8 ∧ ((x2 < (h.1 3 x1.toNatClampNeg) → (((0 : Int32) = 0 ∨ (0 : Int32) = 1) ∧ Q.1 (0 : Int32) h)) ∧ (¬ x2 < (h.1 3 x1.toNatClampNeg) → (vp_in (1 : Int32) 16 ∧ (vp_in x1 8 ∧ (((h.1 4 x1.toNatClampNeg) < x2 → (((0 : Int32) = 0 ∨ (0 : Int32) = 1) ∧ Q.1 (0 : Int32) h)) ∧ (¬ (h.1 4 x1.toNatClampNeg) < x2 → (((1 : Int32) = 0 ∨ (1 : Int32) = 1) ∧ Q.1 (1 : Int32) h)))))))))) : zk_R zk_C (zk_lkl lkX4) zk_mt (zk_cxl []) (some .boolean) (zk_at cdX4_isIn) Q [] k 21 0 [some (.ref 1), some (.int x1), some (.int x2)] [] h := H
theorem fcX4_canWriteSo : zk_fc mX4_canWriteSo (zk_lkl lkX4) (zk_at cdX4_canWriteSo) := ⟨lkX4_ok, by decide +kernel, cdX4_canWriteSo_ok⟩
set_option maxRecDepth 100000 in
theorem bX4_canWriteSo_0 {pX4_knows : zk_pI} {pX4_isIn : zk_pI} {k : zk_K} {Q : zk_Q} {h : zk_H} {x1 x2 x3 : Int32} (H : (¬ (100 : Int32) = 0 ∧ ((((x2 / (100 : Int32)) - (1 : Int32)) < 0 → (¬ (10 : Int32) = 0 ∧ (((x2 - x2 / (10 : Int32) * (10 : Int32)) = 0 → (((1 : Int32) = 0 ∨ (1 : Int32) = 1) ∧ Q.1 (1 : Int32) h)) ∧ (¬ (x2 - x2 / (10 : Int32) * (10 : Int32)) = 0 → pX4_isIn [.ref 1, .int x1, .int x3] h (fun v2 h1 => ((v2 = 0 → (((0 : Int32) = 0 ∨ (0 : Int32) = 1) ∧ Q.1 (0 : Int32) h1)) ∧ (¬ v2 = 0 → (((1 : Int32) = 0 ∨ (1 : Int32) = 1) ∧ Q.1 (1 : Int32) h1)))))))) ∧ (¬ ((x2 / (100 : Int32)) - (1 : Int32)) < 0 → pX4_knows [.ref 1, .int x1, .int ((x2 / (100 : Int32)) - (1 : Int32))] h (fun v4 h3 => ((v4 = 0 → (((0 : Int32) = 0 ∨ (0 : Int32) = 1) ∧ Q.1 (0 : Int32) h3)) ∧ (¬ v4 = 0 → (¬ (10 : Int32) = 0 ∧ (((x2 - x2 / (10 : Int32) * (10 : Int32)) = 0 → (((1 : Int32) = 0 ∨ (1 : Int32) = 1) ∧ Q.1 (1 : Int32) h3)) ∧ (¬ (x2 - x2 / (10 : Int32) * (10 : Int32)) = 0 → pX4_isIn [.ref 1, .int x1, .int x3] h3 (fun v6 h5 => ((v6 = 0 → (((0 : Int32) = 0 ∨ (0 : Int32) = 1) ∧ Q.1 (0 : Int32) h5)) ∧ (¬ v6 = 0 → (((1 : Int32) = 0 ∨ (1 : Int32) = 1) ∧ Q.1 (1 : Int32) h5)))))))))))))) : zk_R zk_C (zk_lkl lkX4) zk_mt (zk_cxl [(38, zk_iP pX4_knows), (39, zk_iP pX4_isIn)]) (some .boolean) (zk_at cdX4_canWriteSo) Q [] k 27 0 [some (.ref 1), some (.int x1), some (.int x2), some (.int x3), none] [] h := H
theorem fcX4_whoCould : zk_fc mX4_whoCould (zk_lkl lkX4) (zk_at cdX4_whoCould) := ⟨lkX4_ok, by decide +kernel, cdX4_whoCould_ok⟩
set_option maxRecDepth 100000 in
theorem bX4_whoCould_0 {pX4_whoCouldWithSecret : zk_pI} {k : zk_K} {Q : zk_Q} {h : zk_H} {x1 : Int32} (H : (vp_in (8 : Int32) 16 ∧ (vp_in x1 8 ∧ pX4_whoCouldWithSecret [.ref 1, .int x1, .int (h.1 11 x1.toNatClampNeg)] h (fun v2 h1 => Q.1 v2 h1)))) : zk_R zk_C (zk_lkl lkX4) zk_mt (zk_cxl [(42, zk_iP pX4_whoCouldWithSecret)]) (some .int) (zk_at cdX4_whoCould) Q [] k 12 0 [some (.ref 1), some (.int x1)] [] h := H
theorem fcX4_whoCouldWithSecret : zk_fc mX4_whoCouldWithSecret (zk_lkl lkX4) (zk_at cdX4_whoCouldWithSecret) := ⟨lkX4_ok, by decide +kernel, cdX4_whoCouldWithSecret_ok⟩
set_option maxRecDepth 100000 in
theorem bX4_whoCouldWithSecret_0 {pX4_everybody : zk_pI} {pX4_whoIsIn : zk_pI} {pX4_whoKnows : zk_pI} {k : zk_K} {Q : zk_Q} {h : zk_H} {x1 x2 : Int32} (H : pX4_everybody [.ref 1] h (fun v2 h1 => (vp_in (13 : Int32) 16 ∧ (vp_in x1 8 ∧ ((x2 < 0 → (vp_in (9 : Int32) 16 ∧ (vp_in x1 8 ∧ ((¬ (h1.1 12 x1.toNatClampNeg) = 0 → (vp_in (6 : Int32) 16 ∧ (vp_in x1 8 ∧ pX4_whoIsIn [.ref 1, .int (h1.1 9 x1.toNatClampNeg)] h1 (fun v4 h3 => Q.1 ((v2 &&& (((1 : Int32) <<< ((h1.1 16 x1.toNatClampNeg) &&& 31)) ^^^ (-1 : Int32))) &&& v4) h3)))) ∧ ((h1.1 12 x1.toNatClampNeg) = 0 → Q.1 (v2 &&& (((1 : Int32) <<< ((h1.1 16 x1.toNatClampNeg) &&& 31)) ^^^ (-1 : Int32))) h1))))) ∧ (¬ x2 < 0 → pX4_whoKnows [.ref 1, .int x2] h1 (fun v6 h5 => (vp_in (9 : Int32) 16 ∧ (vp_in x1 8 ∧ ((¬ (h5.1 12 x1.toNatClampNeg) = 0 → (vp_in (6 : Int32) 16 ∧ (vp_in x1 8 ∧ pX4_whoIsIn [.ref 1, .int (h5.1 9 x1.toNatClampNeg)] h5 (fun v8 h7 => Q.1 (((v2 &&& (((1 : Int32) <<< ((h1.1 16 x1.toNatClampNeg) &&& 31)) ^^^ (-1 : Int32))) &&& v6) &&& v8) h7)))) ∧ ((h5.1 12 x1.toNatClampNeg) = 0 → Q.1 ((v2 &&& (((1 : Int32) <<< ((h1.1 16 x1.toNatClampNeg) &&& 31)) ^^^ (-1 : Int32))) &&& v6) h5))))))))))) : zk_R zk_C (zk_lkl lkX4) zk_mt (zk_cxl [(43, zk_iP pX4_everybody), (44, zk_iP pX4_whoIsIn), (45, zk_iP pX4_whoKnows)]) (some .int) (zk_at cdX4_whoCouldWithSecret) Q [] k 42 0 [some (.ref 1), some (.int x1), some (.int x2), none] [] h := H
theorem fcX4_everybody : zk_fc mX4_everybody (zk_lkl lkX4) (zk_at cdX4_everybody) := ⟨lkX4_ok, by decide +kernel, cdX4_everybody_ok⟩
set_option maxRecDepth 100000 in
theorem bX4_everybody_0  {k : zk_K} {Q : zk_Q} {h : zk_H}  (H : Q.1 (((1 : Int32) <<< ((h.1 1 1) &&& 31)) - (1 : Int32)) h) : zk_R zk_C (zk_lkl lkX4) zk_mt (zk_cxl []) (some .int) (zk_at cdX4_everybody) Q [] k 9 0 [some (.ref 1)] [] h := H
theorem fcX4_whoIsIn : zk_fc mX4_whoIsIn (zk_lkl lkX4) (zk_at cdX4_whoIsIn) := ⟨lkX4_ok, by decide +kernel, cdX4_whoIsIn_ok⟩
set_option maxRecDepth 100000 in
theorem bX4_whoIsIn_0 {pX4_isIn : zk_pI} {k : zk_K} {Q : zk_Q} {h : zk_H} {x1 : Int32} (H : k 4 [some (.ref 1), some (.int x1), some (.int (0 : Int32)), some (.int (0 : Int32))] [] h) : zk_R zk_C (zk_lkl lkX4) zk_mt (zk_cxl [(39, zk_iP pX4_isIn)]) (some .int) (zk_at cdX4_whoIsIn) Q [4] k 6 0 [some (.ref 1), some (.int x1), none, none] [] h := H
set_option maxRecDepth 100000 in
theorem bX4_whoIsIn_4 {pX4_isIn : zk_pI} {k : zk_K} {Q : zk_Q} {h : zk_H} {x1 x2 x3 : Int32} (H : (((h.1 1 1) ≤ x3 → Q.1 x2 h) ∧ (¬ (h.1 1 1) ≤ x3 → pX4_isIn [.ref 1, .int x3, .int x1] h (fun v2 h1 => ((v2 = 0 → k 4 [some (.ref 1), some (.int x1), some (.int x2), some (.int (x3 + (1 : Int32)))] [] h1) ∧ (¬ v2 = 0 → k 4 [some (.ref 1), some (.int x1), some (.int (x2 ||| ((1 : Int32) <<< (x3 &&& 31)))), some (.int (x3 + (1 : Int32)))] [] h1)))))) : zk_R zk_C (zk_lkl lkX4) zk_mt (zk_cxl [(39, zk_iP pX4_isIn)]) (some .int) (zk_at cdX4_whoIsIn) Q [4] k 19 4 [some (.ref 1), some (.int x1), some (.int x2), some (.int x3)] [] h := H
theorem fcX4_whoKnows : zk_fc mX4_whoKnows (zk_lkl lkX4) (zk_at cdX4_whoKnows) := ⟨lkX4_ok, by decide +kernel, cdX4_whoKnows_ok⟩
set_option maxRecDepth 100000 in
theorem bX4_whoKnows_0 {pX4_knows : zk_pI} {k : zk_K} {Q : zk_Q} {h : zk_H} {x1 : Int32} (H : k 4 [some (.ref 1), some (.int x1), some (.int (0 : Int32)), some (.int (0 : Int32))] [] h) : zk_R zk_C (zk_lkl lkX4) zk_mt (zk_cxl [(38, zk_iP pX4_knows)]) (some .int) (zk_at cdX4_whoKnows) Q [4] k 6 0 [some (.ref 1), some (.int x1), none, none] [] h := H
set_option maxRecDepth 100000 in
theorem bX4_whoKnows_4 {pX4_knows : zk_pI} {k : zk_K} {Q : zk_Q} {h : zk_H} {x1 x2 x3 : Int32} (H : (((h.1 1 1) ≤ x3 → Q.1 x2 h) ∧ (¬ (h.1 1 1) ≤ x3 → pX4_knows [.ref 1, .int x3, .int x1] h (fun v2 h1 => ((v2 = 0 → k 4 [some (.ref 1), some (.int x1), some (.int x2), some (.int (x3 + (1 : Int32)))] [] h1) ∧ (¬ v2 = 0 → k 4 [some (.ref 1), some (.int x1), some (.int (x2 ||| ((1 : Int32) <<< (x3 &&& 31)))), some (.int (x3 + (1 : Int32)))] [] h1)))))) : zk_R zk_C (zk_lkl lkX4) zk_mt (zk_cxl [(38, zk_iP pX4_knows)]) (some .int) (zk_at cdX4_whoKnows) Q [4] k 19 4 [some (.ref 1), some (.int x1), some (.int x2), some (.int x3)] [] h := H
theorem fcX4_whoKnowsAfter : zk_fc mX4_whoKnowsAfter (zk_lkl lkX4) (zk_at cdX4_whoKnowsAfter) := ⟨lkX4_ok, by decide +kernel, cdX4_whoKnowsAfter_ok⟩
set_option maxRecDepth 100000 in
theorem bX4_whoKnowsAfter_0 {pX4_whoKnows : zk_pI} {pX4_toldOn : zk_pI} {k : zk_K} {Q : zk_Q} {h : zk_H} {x1 x2 : Int32} (H : pX4_whoKnows [.ref 1, .int x1] h (fun v2 h1 => k 9 [some (.ref 1), some (.int x1), some (.int x2), some (.int v2), some (.int (0 : Int32))] [] h1)) : zk_R zk_C (zk_lkl lkX4) zk_mt (zk_cxl [(45, zk_iP pX4_whoKnows), (48, zk_iP pX4_toldOn)]) (some .int) (zk_at cdX4_whoKnowsAfter) Q [9] k 8 0 [some (.ref 1), some (.int x1), some (.int x2), none, none] [] h := H
set_option maxRecDepth 100000 in
theorem bX4_whoKnowsAfter_9 {pX4_whoKnows : zk_pI} {pX4_toldOn : zk_pI} {k : zk_K} {Q : zk_Q} {h : zk_H} {x1 x2 x3 x4 : Int32} (H : ((x2 ≤ x4 → Q.1 x3 h) ∧ (¬ x2 ≤ x4 → pX4_toldOn [.ref 1, .int x3] h (fun v2 h1 => k 9 [some (.ref 1), some (.int x1), some (.int x2), some (.int v2), some (.int (x4 + (1 : Int32)))] [] h1)))) : zk_R zk_C (zk_lkl lkX4) zk_mt (zk_cxl [(45, zk_iP pX4_whoKnows), (48, zk_iP pX4_toldOn)]) (some .int) (zk_at cdX4_whoKnowsAfter) Q [9] k 11 9 [some (.ref 1), some (.int x1), some (.int x2), some (.int x3), some (.int x4)] [] h := H
theorem fcX4_eveningOfHearing : zk_fc mX4_eveningOfHearing (zk_lkl lkX4) (zk_at cdX4_eveningOfHearing) := ⟨lkX4_ok, by decide +kernel, cdX4_eveningOfHearing_ok⟩
set_option maxRecDepth 100000 in
theorem bX4_eveningOfHearing_0 {pX4_whoKnows : zk_pI} {pX4_toldOn : zk_pI} {k : zk_K} {Q : zk_Q} {h : zk_H} {x1 x2 : Int32} (H : pX4_whoKnows [.ref 1, .int x1] h (fun v2 h1 => k 9 [some (.ref 1), some (.int x1), some (.int x2), some (.int v2), some (.int (0 : Int32))] [] h1)) : zk_R zk_C (zk_lkl lkX4) zk_mt (zk_cxl [(45, zk_iP pX4_whoKnows), (48, zk_iP pX4_toldOn)]) (some .int) (zk_at cdX4_eveningOfHearing) Q [9] k 8 0 [some (.ref 1), some (.int x1), some (.int x2), none, none] [] h := H
set_option maxRecDepth 100000 in
theorem bX4_eveningOfHearing_9 {pX4_whoKnows : zk_pI} {pX4_toldOn : zk_pI} {k : zk_K} {Q : zk_Q} {h : zk_H} {x1 x2 x3 x4 : Int32} (H : (((9 : Int32) < x4 → Q.1 (-2 : Int32) h) ∧ (¬ (9 : Int32) < x4 → ((((x3 >>> (x2 &&& 31)) &&& (1 : Int32)) = 0 → pX4_toldOn [.ref 1, .int x3] h (fun v2 h1 => k 9 [some (.ref 1), some (.int x1), some (.int x2), some (.int v2), some (.int (x4 + (1 : Int32)))] [] h1)) ∧ (¬ ((x3 >>> (x2 &&& 31)) &&& (1 : Int32)) = 0 → Q.1 x4 h))))) : zk_R zk_C (zk_lkl lkX4) zk_mt (zk_cxl [(45, zk_iP pX4_whoKnows), (48, zk_iP pX4_toldOn)]) (some .int) (zk_at cdX4_eveningOfHearing) Q [9] k 17 9 [some (.ref 1), some (.int x1), some (.int x2), some (.int x3), some (.int x4)] [] h := H
theorem fcX4_toldOn : zk_fc mX4_toldOn (zk_lkl lkX4) (zk_at cdX4_toldOn) := ⟨lkX4_ok, by decide +kernel, cdX4_toldOn_ok⟩
set_option maxRecDepth 100000 in
theorem bX4_toldOn_0 {pX4_everybody : zk_pI} {k : zk_K} {Q : zk_Q} {h : zk_H} {x1 : Int32} (H : k 4 [some (.ref 1), some (.int x1), some (.int x1), some (.int (0 : Int32))] [] h) : zk_R zk_C (zk_lkl lkX4) zk_mt (zk_cxl [(43, zk_iP pX4_everybody)]) (some .int) (zk_at cdX4_toldOn) Q [4] k 6 0 [some (.ref 1), some (.int x1), none, none] [] h := H
set_option maxRecDepth 100000 in
theorem bX4_toldOn_4 {pX4_everybody : zk_pI} {k : zk_K} {Q : zk_Q} {h : zk_H} {x1 x2 x3 : Int32} (H : (((h.1 1 1) ≤ x3 → pX4_everybody [.ref 1] h (fun v2 h1 => Q.1 (x2 &&& v2) h1)) ∧ (¬ (h.1 1 1) ≤ x3 → ((((x1 >>> (x3 &&& 31)) &&& (1 : Int32)) = 0 → k 4 [some (.ref 1), some (.int x1), some (.int x2), some (.int (x3 + (1 : Int32)))] [] h) ∧ (¬ ((x1 >>> (x3 &&& 31)) &&& (1 : Int32)) = 0 → (vp_in (4 : Int32) 16 ∧ (vp_in x3 8 ∧ k 4 [some (.ref 1), some (.int x1), some (.int (x2 ||| (h.1 7 x3.toNatClampNeg))), some (.int (x3 + (1 : Int32)))] [] h))))))) : zk_R zk_C (zk_lkl lkX4) zk_mt (zk_cxl [(43, zk_iP pX4_everybody)]) (some .int) (zk_at cdX4_toldOn) Q [4] k 23 4 [some (.ref 1), some (.int x1), some (.int x2), some (.int x3)] [] h := H
theorem fcX5_takeLetter : zk_fc mX5_takeLetter (zk_lkl lkX5) (zk_at cdX5_takeLetter) := ⟨lkX5_ok, by decide +kernel, cdX5_takeLetter_ok⟩
set_option maxRecDepth 100000 in
theorem bX5_takeLetter_0  {k : zk_K} {Q : zk_Q} {h : zk_H} {x1 : Int32} (H : (vp_in (h.1 24 1) 120 ∧ Q.1 ((h.1 24 1) + (1 : Int32)) (zk_si (zk_si h 25 (h.1 24 1).toNatClampNeg x1) 24 1 ((h.1 24 1) + (1 : Int32))))) : zk_R zk_C (zk_lkl lkX5) zk_mt (zk_cxl []) (some .int) (zk_at cdX5_takeLetter) Q [] k 17 0 [some (.ref 24), some (.int x1)] [] h := H
theorem fcX5_parseTape : zk_fc mX5_parseTape (zk_lkl lkX5) (zk_at cdX5_parseTape) := ⟨lkX5_ok, by decide +kernel, cdX5_parseTape_ok⟩
set_option maxRecDepth 100000 in
theorem bX5_parseTape_0 {pX5_begin : zk_pV} {pX5_takes : zk_pI} {pX5_endsExpression : zk_pI} {k : zk_K} {Q : zk_Q} {h : zk_H}  (H : pX5_begin [.ref 24] (zk_si h 24 1 (0 : Int32)) (fun h1 => k 16 [some (.ref 24), some (.int (h.1 24 1)), some (.int (0 : Int32))] [] h1)) : zk_R zk_C (zk_lkl lkX5) zk_mt (zk_cxl [(51, zk_vP pX5_begin), (52, zk_iP pX5_takes), (57, zk_iP pX5_endsExpression)]) (some .int) (zk_at cdX5_parseTape) Q [16] k 12 0 [some (.ref 24), none, none] [] h := H
set_option maxRecDepth 100000 in
theorem bX5_parseTape_16 {pX5_begin : zk_pV} {pX5_takes : zk_pI} {pX5_endsExpression : zk_pI} {k : zk_K} {Q : zk_Q} {h : zk_H} {x1 x2 : Int32} (H : ((x1 ≤ x2 → ((¬ (h.1 24 8) = 0 → Q.1 x1 h) ∧ ((h.1 24 8) = 0 → (((h.1 24 7) ≤ 0 → pX5_endsExpression [.ref 24, .int (20059 : Int32), .int (0 : Int32)] h (fun v2 h1 => Q.1 (-1 : Int32) h1)) ∧ (¬ (h.1 24 7) ≤ 0 → Q.1 x1 h))))) ∧ (¬ x1 ≤ x2 → (vp_in x2 120 ∧ pX5_takes [.ref 24, .int (h.1 25 x2.toNatClampNeg)] h (fun v4 h3 => ((¬ v4 = 0 → k 16 [some (.ref 24), some (.int x1), some (.int (x2 + (1 : Int32)))] [] h3) ∧ (v4 = 0 → Q.1 x2 h3))))))) : zk_R zk_C (zk_lkl lkX5) zk_mt (zk_cxl [(51, zk_vP pX5_begin), (52, zk_iP pX5_takes), (57, zk_iP pX5_endsExpression)]) (some .int) (zk_at cdX5_parseTape) Q [16] k 18 16 [some (.ref 24), some (.int x1), some (.int x2)] [] h := H
theorem fcX5_begin : zk_fc mX5_begin (zk_lkl lkX5) (zk_at cdX5_begin) := ⟨lkX5_ok, by decide +kernel, cdX5_begin_ok⟩
set_option maxRecDepth 100000 in
theorem bX5_begin_0  {k : zk_K} {Q : zk_Q} {h : zk_H}  (H : (((1 : Int32) = 0 ∨ (1 : Int32) = 1) ∧ (((0 : Int32) = 0 ∨ (0 : Int32) = 1) ∧ Q.2.2.1 () (zk_si (zk_si (zk_si (zk_si (zk_si (zk_si (zk_si h 24 3 (0 : Int32)) 24 5 (0 : Int32)) 24 6 (0 : Int32)) 24 7 (0 : Int32)) 24 8 (1 : Int32)) 24 9 (0 : Int32)) 24 10 (0 : Int32))))) : zk_R zk_C (zk_lkl lkX5) zk_mt (zk_cxl []) none (zk_at cdX5_begin) Q [] k 24 0 [some (.ref 24)] [] h := H
theorem fcX5_takes : zk_fc mX5_takes (zk_lkl lkX5) (zk_at cdX5_takes) := ⟨lkX5_ok, by decide +kernel, cdX5_takes_ok⟩
set_option maxRecDepth 100000 in
theorem bX5_takes_0 {pX5_beginsNumber : zk_pI} {pX5_takesAsOperand : zk_pI} {pX5_takesBehindOperand : zk_pI} {k : zk_K} {Q : zk_Q} {h : zk_H} {x1 : Int32} (H : ((x1 < (48 : Int32) → (((0 : Int32) = 0 → ((¬ (h.1 24 8) = 0 → (((0 : Int32) = 0 → pX5_takesAsOperand [.ref 24, .int x1] (zk_si h 24 10 (0 : Int32)) (fun v2 h1 => ((v2 = 0 ∨ v2 = 1) ∧ Q.1 v2 h1))) ∧ (¬ (0 : Int32) = 0 → pX5_beginsNumber [.ref 24, .int x1] (zk_si h 24 10 (0 : Int32)) (fun v4 h3 => ((v4 = 0 ∨ v4 = 1) ∧ Q.1 v4 h3))))) ∧ ((h.1 24 8) = 0 → pX5_takesBehindOperand [.ref 24, .int x1] (zk_si h 24 10 (0 : Int32)) (fun v6 h5 => ((v6 = 0 ∨ v6 = 1) ∧ Q.1 v6 h5))))) ∧ (¬ (0 : Int32) = 0 → (((h.1 24 10) ≤ 0 → ((¬ (h.1 24 8) = 0 → (((0 : Int32) = 0 → pX5_takesAsOperand [.ref 24, .int x1] (zk_si h 24 10 (0 : Int32)) (fun v8 h7 => ((v8 = 0 ∨ v8 = 1) ∧ Q.1 v8 h7))) ∧ (¬ (0 : Int32) = 0 → pX5_beginsNumber [.ref 24, .int x1] (zk_si h 24 10 (0 : Int32)) (fun v10 h9 => ((v10 = 0 ∨ v10 = 1) ∧ Q.1 v10 h9))))) ∧ ((h.1 24 8) = 0 → pX5_takesBehindOperand [.ref 24, .int x1] (zk_si h 24 10 (0 : Int32)) (fun v12 h11 => ((v12 = 0 ∨ v12 = 1) ∧ Q.1 v12 h11))))) ∧ (¬ (h.1 24 10) ≤ 0 → (((4 : Int32) ≤ (h.1 24 10) → ((¬ (h.1 24 8) = 0 → (((0 : Int32) = 0 → pX5_takesAsOperand [.ref 24, .int x1] (zk_si h 24 10 (0 : Int32)) (fun v14 h13 => ((v14 = 0 ∨ v14 = 1) ∧ Q.1 v14 h13))) ∧ (¬ (0 : Int32) = 0 → pX5_beginsNumber [.ref 24, .int x1] (zk_si h 24 10 (0 : Int32)) (fun v16 h15 => ((v16 = 0 ∨ v16 = 1) ∧ Q.1 v16 h15))))) ∧ ((h.1 24 8) = 0 → pX5_takesBehindOperand [.ref 24, .int x1] (zk_si h 24 10 (0 : Int32)) (fun v18 h17 => ((v18 = 0 ∨ v18 = 1) ∧ Q.1 v18 h17))))) ∧ (¬ (4 : Int32) ≤ (h.1 24 10) → (vp_in (h.1 24 11) 121 ∧ (vp_in (h.1 24 11) 121 ∧ (((1 : Int32) = 0 ∨ (1 : Int32) = 1) ∧ Q.1 (1 : Int32) (zk_si (zk_si h 26 (h.1 24 11).toNatClampNeg ((((h.1 26 (h.1 24 11).toNatClampNeg) * (10 : Int32)) + x1) - (48 : Int32))) 24 10 ((h.1 24 10) + (1 : Int32))))))))))))) ∧ (¬ x1 < (48 : Int32) → (((57 : Int32) < x1 → (((0 : Int32) = 0 → ((¬ (h.1 24 8) = 0 → (((0 : Int32) = 0 → pX5_takesAsOperand [.ref 24, .int x1] (zk_si h 24 10 (0 : Int32)) (fun v20 h19 => ((v20 = 0 ∨ v20 = 1) ∧ Q.1 v20 h19))) ∧ (¬ (0 : Int32) = 0 → pX5_beginsNumber [.ref 24, .int x1] (zk_si h 24 10 (0 : Int32)) (fun v22 h21 => ((v22 = 0 ∨ v22 = 1) ∧ Q.1 v22 h21))))) ∧ ((h.1 24 8) = 0 → pX5_takesBehindOperand [.ref 24, .int x1] (zk_si h 24 10 (0 : Int32)) (fun v24 h23 => ((v24 = 0 ∨ v24 = 1) ∧ Q.1 v24 h23))))) ∧ (¬ (0 : Int32) = 0 → (((h.1 24 10) ≤ 0 → ((¬ (h.1 24 8) = 0 → (((0 : Int32) = 0 → pX5_takesAsOperand [.ref 24, .int x1] (zk_si h 24 10 (0 : Int32)) (fun v26 h25 => ((v26 = 0 ∨ v26 = 1) ∧ Q.1 v26 h25))) ∧ (¬ (0 : Int32) = 0 → pX5_beginsNumber [.ref 24, .int x1] (zk_si h 24 10 (0 : Int32)) (fun v28 h27 => ((v28 = 0 ∨ v28 = 1) ∧ Q.1 v28 h27))))) ∧ ((h.1 24 8) = 0 → pX5_takesBehindOperand [.ref 24, .int x1] (zk_si h 24 10 (0 : Int32)) (fun v30 h29 => ((v30 = 0 ∨ v30 = 1) ∧ Q.1 v30 h29))))) ∧ (¬ (h.1 24 10) ≤ 0 → (((4 : Int32) ≤ (h.1 24 10) → ((¬ (h.1 24 8) = 0 → (((0 : Int32) = 0 → pX5_takesAsOperand [.ref 24, .int x1] (zk_si h 24 10 (0 : Int32)) (fun v32 h31 => ((v32 = 0 ∨ v32 = 1) ∧ Q.1 v32 h31))) ∧ (¬ (0 : Int32) = 0 → pX5_beginsNumber [.ref 24, .int x1] (zk_si h 24 10 (0 : Int32)) (fun v34 h33 => ((v34 = 0 ∨ v34 = 1) ∧ Q.1 v34 h33))))) ∧ ((h.1 24 8) = 0 → pX5_takesBehindOperand [.ref 24, .int x1] (zk_si h 24 10 (0 : Int32)) (fun v36 h35 => ((v36 = 0 ∨ v36 = 1) ∧ Q.1 v36 h35))))) ∧ (¬ (4 : Int32) ≤ (h.1 24 10) → (vp_in (h.1 24 11) 121 ∧ (vp_in (h.1 24 11) 121 ∧ (((1 : Int32) = 0 ∨ (1 : Int32) = 1) ∧ Q.1 (1 : Int32) (zk_si (zk_si h 26 (h.1 24 11).toNatClampNeg ((((h.1 26 (h.1 24 11).toNatClampNeg) * (10 : Int32)) + x1) - (48 : Int32))) 24 10 ((h.1 24 10) + (1 : Int32))))))))))))) ∧ (¬ (57 : Int32) < x1 → (((1 : Int32) = 0 → ((¬ (h.1 24 8) = 0 → (((1 : Int32) = 0 → pX5_takesAsOperand [.ref 24, .int x1] (zk_si h 24 10 (0 : Int32)) (fun v38 h37 => ((v38 = 0 ∨ v38 = 1) ∧ Q.1 v38 h37))) ∧ (¬ (1 : Int32) = 0 → pX5_beginsNumber [.ref 24, .int x1] (zk_si h 24 10 (0 : Int32)) (fun v40 h39 => ((v40 = 0 ∨ v40 = 1) ∧ Q.1 v40 h39))))) ∧ ((h.1 24 8) = 0 → pX5_takesBehindOperand [.ref 24, .int x1] (zk_si h 24 10 (0 : Int32)) (fun v42 h41 => ((v42 = 0 ∨ v42 = 1) ∧ Q.1 v42 h41))))) ∧ (¬ (1 : Int32) = 0 → (((h.1 24 10) ≤ 0 → ((¬ (h.1 24 8) = 0 → (((1 : Int32) = 0 → pX5_takesAsOperand [.ref 24, .int x1] (zk_si h 24 10 (0 : Int32)) (fun v44 h43 => ((v44 = 0 ∨ v44 = 1) ∧ Q.1 v44 h43))) ∧ (¬ (1 : Int32) = 0 → pX5_beginsNumber [.ref 24, .int x1] (zk_si h 24 10 (0 : Int32)) (fun v46 h45 => ((v46 = 0 ∨ v46 = 1) ∧ Q.1 v46 h45))))) ∧ ((h.1 24 8) = 0 → pX5_takesBehindOperand [.ref 24, .int x1] (zk_si h 24 10 (0 : Int32)) (fun v48 h47 => ((v48 = 0 ∨ v48 = 1) ∧ Q.1 v48 h47))))) ∧ (¬ (h.1 24 10) ≤ 0 → (((4 : Int32) ≤ (h.1 24 10) → ((¬ (h.1 24 8) = 0 → (((1 : Int32) = 0 → pX5_takesAsOperand [.ref 24, .int x1] (zk_si h 24 10 (0 : Int32)) (fun v50 h49 => ((v50 = 0 ∨ v50 = 1) ∧ Q.1 v50 h49))) ∧ (¬ (1 : Int32) = 0 → pX5_beginsNumber [.ref 24, .int x1] (zk_si h 24 10 (0 : Int32)) (fun v52 h51 => ((v52 = 0 ∨ v52 = 1) ∧ Q.1 v52 h51))))) ∧ ((h.1 24 8) = 0 → pX5_takesBehindOperand [.ref 24, .int x1] (zk_si h 24 10 (0 : Int32)) (fun v54 h53 => ((v54 = 0 ∨ v54 = 1) ∧ Q.1 v54 h53))))) ∧ (¬ (4 : Int32) ≤ (h.1 24 10) → (vp_in (h.1 24 11) 121 ∧ (vp_in (h.1 24 11) 121 ∧ (((1 : Int32) = 0 ∨ (1 : Int32) = 1) ∧ Q.1 (1 : Int32) (zk_si (zk_si h 26 (h.1 24 11).toNatClampNeg ((((h.1 26 (h.1 24 11).toNatClampNeg) * (10 : Int32)) + x1) - (48 : Int32))) 24 10 ((h.1 24 10) + (1 : Int32))))))))))))))))) : zk_R zk_C (zk_lkl lkX5) zk_mt (zk_cxl [(53, zk_iP pX5_beginsNumber), (54, zk_iP pX5_takesAsOperand), (55, zk_iP pX5_takesBehindOperand)]) (some .boolean) (zk_at cdX5_takes) Q [] k 44 0 [some (.ref 24), some (.int x1), none] [] h := H
theorem fcX5_beginsNumber : zk_fc mX5_beginsNumber (zk_lkl lkX5) (zk_at cdX5_beginsNumber) := ⟨lkX5_ok, by decide +kernel, cdX5_beginsNumber_ok⟩
set_option maxRecDepth 100000 in
theorem bX5_beginsNumber_0 {pX5_endOperand : zk_pV} {pX5_emit : zk_pV} {k : zk_K} {Q : zk_Q} {h : zk_H} {x1 : Int32} (H : pX5_emit [.ref 24, .int (x1 - (48 : Int32))] (zk_si (zk_si h 24 11 (h.1 24 3)) 24 10 (1 : Int32)) (fun h1 => pX5_endOperand [.ref 24] h1 (fun h2 => (((1 : Int32) = 0 ∨ (1 : Int32) = 1) ∧ Q.1 (1 : Int32) h2)))) : zk_R zk_C (zk_lkl lkX5) zk_mt (zk_cxl [(59, zk_vP pX5_endOperand), (63, zk_vP pX5_emit)]) (some .boolean) (zk_at cdX5_beginsNumber) Q [] k 18 0 [some (.ref 24), some (.int x1)] [] h := H
theorem fcX5_takesAsOperand : zk_fc mX5_takesAsOperand (zk_lkl lkX5) (zk_at cdX5_takesAsOperand) := ⟨lkX5_ok, by decide +kernel, cdX5_takesAsOperand_ok⟩
set_option maxRecDepth 100000 in
theorem bX5_takesAsOperand_0 {pX5_endOperand : zk_pV} {pX5_await : zk_pV} {pX5_emit : zk_pV} {pJ0_indexOf_0f7a4 : zk_pI} {k : zk_K} {Q : zk_Q} {h : zk_H} {x1 : Int32} (H : pJ0_indexOf_0f7a4 [.ref 2000, .int (x1.toUInt32 % 65536).toInt32] h (fun v2 h1 => ((v2 < 0 → (((6 : Int32) ≤ (h1.1 24 6) → (((0 : Int32) = 0 ∨ (0 : Int32) = 1) ∧ Q.1 (0 : Int32) h1)) ∧ (¬ (6 : Int32) ≤ (h1.1 24 6) → ((x1 = (40 : Int32) → ((¬ x1 = (40 : Int32) → ((¬ x1 = (45 : Int32) → pX5_await [.ref 24, .int x1] (zk_si h1 24 6 ((h1.1 24 6) + (1 : Int32))) (fun h3 => (((1 : Int32) = 0 ∨ (1 : Int32) = 1) ∧ Q.1 (1 : Int32) h3))) ∧ (x1 = (45 : Int32) → pX5_await [.ref 24, .int (126 : Int32)] (zk_si h1 24 6 ((h1.1 24 6) + (1 : Int32))) (fun h4 => (((1 : Int32) = 0 ∨ (1 : Int32) = 1) ∧ Q.1 (1 : Int32) h4))))) ∧ (x1 = (40 : Int32) → ((¬ x1 = (45 : Int32) → pX5_await [.ref 24, .int x1] (zk_si (zk_si h1 24 6 ((h1.1 24 6) + (1 : Int32))) 24 7 ((h1.1 24 7) + (1 : Int32))) (fun h5 => (((1 : Int32) = 0 ∨ (1 : Int32) = 1) ∧ Q.1 (1 : Int32) h5))) ∧ (x1 = (45 : Int32) → pX5_await [.ref 24, .int (126 : Int32)] (zk_si (zk_si h1 24 6 ((h1.1 24 6) + (1 : Int32))) 24 7 ((h1.1 24 7) + (1 : Int32))) (fun h6 => (((1 : Int32) = 0 ∨ (1 : Int32) = 1) ∧ Q.1 (1 : Int32) h6))))))) ∧ (¬ x1 = (40 : Int32) → ((x1 = (33 : Int32) → ((¬ x1 = (40 : Int32) → ((¬ x1 = (45 : Int32) → pX5_await [.ref 24, .int x1] (zk_si h1 24 6 ((h1.1 24 6) + (1 : Int32))) (fun h7 => (((1 : Int32) = 0 ∨ (1 : Int32) = 1) ∧ Q.1 (1 : Int32) h7))) ∧ (x1 = (45 : Int32) → pX5_await [.ref 24, .int (126 : Int32)] (zk_si h1 24 6 ((h1.1 24 6) + (1 : Int32))) (fun h8 => (((1 : Int32) = 0 ∨ (1 : Int32) = 1) ∧ Q.1 (1 : Int32) h8))))) ∧ (x1 = (40 : Int32) → ((¬ x1 = (45 : Int32) → pX5_await [.ref 24, .int x1] (zk_si (zk_si h1 24 6 ((h1.1 24 6) + (1 : Int32))) 24 7 ((h1.1 24 7) + (1 : Int32))) (fun h9 => (((1 : Int32) = 0 ∨ (1 : Int32) = 1) ∧ Q.1 (1 : Int32) h9))) ∧ (x1 = (45 : Int32) → pX5_await [.ref 24, .int (126 : Int32)] (zk_si (zk_si h1 24 6 ((h1.1 24 6) + (1 : Int32))) 24 7 ((h1.1 24 7) + (1 : Int32))) (fun h10 => (((1 : Int32) = 0 ∨ (1 : Int32) = 1) ∧ Q.1 (1 : Int32) h10))))))) ∧ (¬ x1 = (33 : Int32) → ((x1 = (45 : Int32) → ((¬ x1 = (40 : Int32) → ((¬ x1 = (45 : Int32) → pX5_await [.ref 24, .int x1] (zk_si h1 24 6 ((h1.1 24 6) + (1 : Int32))) (fun h11 => (((1 : Int32) = 0 ∨ (1 : Int32) = 1) ∧ Q.1 (1 : Int32) h11))) ∧ (x1 = (45 : Int32) → pX5_await [.ref 24, .int (126 : Int32)] (zk_si h1 24 6 ((h1.1 24 6) + (1 : Int32))) (fun h12 => (((1 : Int32) = 0 ∨ (1 : Int32) = 1) ∧ Q.1 (1 : Int32) h12))))) ∧ (x1 = (40 : Int32) → ((¬ x1 = (45 : Int32) → pX5_await [.ref 24, .int x1] (zk_si (zk_si h1 24 6 ((h1.1 24 6) + (1 : Int32))) 24 7 ((h1.1 24 7) + (1 : Int32))) (fun h13 => (((1 : Int32) = 0 ∨ (1 : Int32) = 1) ∧ Q.1 (1 : Int32) h13))) ∧ (x1 = (45 : Int32) → pX5_await [.ref 24, .int (126 : Int32)] (zk_si (zk_si h1 24 6 ((h1.1 24 6) + (1 : Int32))) 24 7 ((h1.1 24 7) + (1 : Int32))) (fun h14 => (((1 : Int32) = 0 ∨ (1 : Int32) = 1) ∧ Q.1 (1 : Int32) h14))))))) ∧ (¬ x1 = (45 : Int32) → (((0 : Int32) = 0 ∨ (0 : Int32) = 1) ∧ Q.1 (0 : Int32) h1)))))))))) ∧ (¬ v2 < 0 → pX5_emit [.ref 24, .int ((10000 : Int32) + v2)] h1 (fun h15 => pX5_endOperand [.ref 24] h15 (fun h16 => (((1 : Int32) = 0 ∨ (1 : Int32) = 1) ∧ Q.1 (1 : Int32) h16))))))) : zk_R zk_C (zk_lkl lkX5) zk_mt (zk_cxl [(59, zk_vP pX5_endOperand), (62, zk_vP pX5_await), (63, zk_vP pX5_emit), (264, zk_iP pJ0_indexOf_0f7a4)]) (some .boolean) (zk_at cdX5_takesAsOperand) Q [] k 46 0 [some (.ref 24), some (.int x1), none] [] h := H
theorem fcX5_takesBehindOperand : zk_fc mX5_takesBehindOperand (zk_lkl lkX5) (zk_at cdX5_takesBehindOperand) := ⟨lkX5_ok, by decide +kernel, cdX5_takesBehindOperand_ok⟩
set_option maxRecDepth 100000 in
theorem bX5_takesBehindOperand_0 {pX5_closesBracket : zk_pI} {pX5_endsExpression : zk_pI} {pX5_takesBetween : zk_pI} {k : zk_K} {Q : zk_Q} {h : zk_H} {x1 : Int32} (H : ((x1 = (41 : Int32) → pX5_closesBracket [.ref 24] h (fun v8 h7 => ((v8 = 0 ∨ v8 = 1) ∧ Q.1 v8 h7))) ∧ (¬ x1 = (41 : Int32) → ((x1 = (59 : Int32) → pX5_endsExpression [.ref 24, .int (20059 : Int32), .int (0 : Int32)] h (fun v6 h5 => ((v6 = 0 ∨ v6 = 1) ∧ Q.1 v6 h5))) ∧ (¬ x1 = (59 : Int32) → ((x1 = (63 : Int32) → ((¬ (h.1 24 9) = 0 → (((0 : Int32) = 0 ∨ (0 : Int32) = 1) ∧ Q.1 (0 : Int32) h)) ∧ ((h.1 24 9) = 0 → pX5_endsExpression [.ref 24, .int (20063 : Int32), .int (1 : Int32)] h (fun v4 h3 => ((v4 = 0 → (((0 : Int32) = 0 ∨ (0 : Int32) = 1) ∧ Q.1 (0 : Int32) h3)) ∧ (¬ v4 = 0 → (((1 : Int32) = 0 ∨ (1 : Int32) = 1) ∧ Q.1 (1 : Int32) h3))))))) ∧ (¬ x1 = (63 : Int32) → pX5_takesBetween [.ref 24, .int x1] h (fun v2 h1 => ((v2 = 0 ∨ v2 = 1) ∧ Q.1 v2 h1))))))))) : zk_R zk_C (zk_lkl lkX5) zk_mt (zk_cxl [(56, zk_iP pX5_closesBracket), (57, zk_iP pX5_endsExpression), (58, zk_iP pX5_takesBetween)]) (some .boolean) (zk_at cdX5_takesBehindOperand) Q [] k 15 0 [some (.ref 24), some (.int x1)] [] h := H
theorem fcX5_closesBracket : zk_fc mX5_closesBracket (zk_lkl lkX5) (zk_at cdX5_closesBracket) := ⟨lkX5_ok, by decide +kernel, cdX5_closesBracket_ok⟩
set_option maxRecDepth 100000 in
theorem bX5_closesBracket_0 {pX5_endOperand : zk_pV} {pX5_emitWaiting : zk_pV} {k : zk_K} {Q : zk_Q} {h : zk_H}  (H : ((¬ (h.1 24 7) = 0 → pX5_emitWaiting [.ref 24, .int (1 : Int32)] h (fun h1 => pX5_endOperand [.ref 24] (zk_si (zk_si (zk_si h1 24 5 ((h1.1 24 5) - (1 : Int32))) 24 7 ((h1.1 24 7) - (1 : Int32))) 24 6 ((h1.1 24 6) - (1 : Int32))) (fun h2 => (((1 : Int32) = 0 ∨ (1 : Int32) = 1) ∧ Q.1 (1 : Int32) h2)))) ∧ ((h.1 24 7) = 0 → (((0 : Int32) = 0 ∨ (0 : Int32) = 1) ∧ Q.1 (0 : Int32) h)))) : zk_R zk_C (zk_lkl lkX5) zk_mt (zk_cxl [(59, zk_vP pX5_endOperand), (60, zk_vP pX5_emitWaiting)]) (some .boolean) (zk_at cdX5_closesBracket) Q [] k 30 0 [some (.ref 24)] [] h := H
theorem fcX5_endsExpression : zk_fc mX5_endsExpression (zk_lkl lkX5) (zk_at cdX5_endsExpression) := ⟨lkX5_ok, by decide +kernel, cdX5_endsExpression_ok⟩
set_option maxRecDepth 100000 in
theorem bX5_endsExpression_0 {pX5_emitWaiting : zk_pV} {pX5_emit : zk_pV} {k : zk_K} {Q : zk_Q} {h : zk_H} {x1 x2 : Int32} (H : (((h.1 24 7) ≤ 0 → pX5_emitWaiting [.ref 24, .int (1 : Int32)] h (fun h1 => pX5_emit [.ref 24, .int x1] h1 (fun h2 => ((x2 = 0 ∨ x2 = 1) ∧ (((1 : Int32) = 0 ∨ (1 : Int32) = 1) ∧ (((1 : Int32) = 0 ∨ (1 : Int32) = 1) ∧ Q.1 (1 : Int32) (zk_si (zk_si h2 24 9 x2) 24 8 (1 : Int32)))))))) ∧ (¬ (h.1 24 7) ≤ 0 → (((0 : Int32) = 0 ∨ (0 : Int32) = 1) ∧ Q.1 (0 : Int32) h)))) : zk_R zk_C (zk_lkl lkX5) zk_mt (zk_cxl [(60, zk_vP pX5_emitWaiting), (63, zk_vP pX5_emit)]) (some .boolean) (zk_at cdX5_endsExpression) Q [] k 19 0 [some (.ref 24), some (.int x1), some (.int x2)] [] h := H
theorem fcX5_takesBetween : zk_fc mX5_takesBetween (zk_lkl lkX5) (zk_at cdX5_takesBetween) := ⟨lkX5_ok, by decide +kernel, cdX5_takesBetween_ok⟩
set_option maxRecDepth 100000 in
theorem bX5_takesBetween_0 {pX5_emitWaiting : zk_pV} {pX5_rankOf : zk_pI} {pX5_await : zk_pV} {k : zk_K} {Q : zk_Q} {h : zk_H} {x1 : Int32} (H : pX5_rankOf [.ref 24, .int x1] h (fun v2 h1 => ((¬ v2 = 0 → ((¬ v2 = (3 : Int32) → pX5_emitWaiting [.ref 24, .int v2] h1 (fun h3 => ((¬ v2 = (3 : Int32) → pX5_await [.ref 24, .int x1] h3 (fun h4 => (((1 : Int32) = 0 ∨ (1 : Int32) = 1) ∧ (((1 : Int32) = 0 ∨ (1 : Int32) = 1) ∧ Q.1 (1 : Int32) (zk_si h4 24 8 (1 : Int32)))))) ∧ (v2 = (3 : Int32) → (((h3.1 24 5) ≤ 0 → pX5_await [.ref 24, .int x1] h3 (fun h5 => (((1 : Int32) = 0 ∨ (1 : Int32) = 1) ∧ (((1 : Int32) = 0 ∨ (1 : Int32) = 1) ∧ Q.1 (1 : Int32) (zk_si h5 24 8 (1 : Int32)))))) ∧ (¬ (h3.1 24 5) ≤ 0 → (vp_in ((h3.1 24 5) - (1 : Int32)) 121 ∧ pX5_rankOf [.ref 24, .int (h3.1 27 ((h3.1 24 5) - (1 : Int32)).toNatClampNeg)] h3 (fun v7 h6 => ((¬ v7 = (3 : Int32) → pX5_await [.ref 24, .int x1] h6 (fun h8 => (((1 : Int32) = 0 ∨ (1 : Int32) = 1) ∧ (((1 : Int32) = 0 ∨ (1 : Int32) = 1) ∧ Q.1 (1 : Int32) (zk_si h8 24 8 (1 : Int32)))))) ∧ (v7 = (3 : Int32) → (((0 : Int32) = 0 ∨ (0 : Int32) = 1) ∧ Q.1 (0 : Int32) h6))))))))))) ∧ (v2 = (3 : Int32) → pX5_emitWaiting [.ref 24, .int (v2 + (1 : Int32))] h1 (fun h9 => ((¬ v2 = (3 : Int32) → pX5_await [.ref 24, .int x1] h9 (fun h10 => (((1 : Int32) = 0 ∨ (1 : Int32) = 1) ∧ (((1 : Int32) = 0 ∨ (1 : Int32) = 1) ∧ Q.1 (1 : Int32) (zk_si h10 24 8 (1 : Int32)))))) ∧ (v2 = (3 : Int32) → (((h9.1 24 5) ≤ 0 → pX5_await [.ref 24, .int x1] h9 (fun h11 => (((1 : Int32) = 0 ∨ (1 : Int32) = 1) ∧ (((1 : Int32) = 0 ∨ (1 : Int32) = 1) ∧ Q.1 (1 : Int32) (zk_si h11 24 8 (1 : Int32)))))) ∧ (¬ (h9.1 24 5) ≤ 0 → (vp_in ((h9.1 24 5) - (1 : Int32)) 121 ∧ pX5_rankOf [.ref 24, .int (h9.1 27 ((h9.1 24 5) - (1 : Int32)).toNatClampNeg)] h9 (fun v13 h12 => ((¬ v13 = (3 : Int32) → pX5_await [.ref 24, .int x1] h12 (fun h14 => (((1 : Int32) = 0 ∨ (1 : Int32) = 1) ∧ (((1 : Int32) = 0 ∨ (1 : Int32) = 1) ∧ Q.1 (1 : Int32) (zk_si h14 24 8 (1 : Int32)))))) ∧ (v13 = (3 : Int32) → (((0 : Int32) = 0 ∨ (0 : Int32) = 1) ∧ Q.1 (0 : Int32) h12))))))))))))) ∧ (v2 = 0 → (((0 : Int32) = 0 ∨ (0 : Int32) = 1) ∧ Q.1 (0 : Int32) h1))))) : zk_R zk_C (zk_lkl lkX5) zk_mt (zk_cxl [(60, zk_vP pX5_emitWaiting), (61, zk_iP pX5_rankOf), (62, zk_vP pX5_await)]) (some .boolean) (zk_at cdX5_takesBetween) Q [] k 42 0 [some (.ref 24), some (.int x1), none] [] h := H
theorem fcX5_endOperand : zk_fc mX5_endOperand (zk_lkl lkX5) (zk_at cdX5_endOperand) := ⟨lkX5_ok, by decide +kernel, cdX5_endOperand_ok⟩
set_option maxRecDepth 100000 in
theorem bX5_endOperand_0 {pX5_emit : zk_pV} {k : zk_K} {Q : zk_Q} {h : zk_H}  (H : (((0 : Int32) = 0 ∨ (0 : Int32) = 1) ∧ k 5 [some (.ref 24)] [] (zk_si h 24 8 (0 : Int32)))) : zk_R zk_C (zk_lkl lkX5) zk_mt (zk_cxl [(63, zk_vP pX5_emit)]) none (zk_at cdX5_endOperand) Q [5] k 5 0 [some (.ref 24)] [] h := H
set_option maxRecDepth 100000 in
theorem bX5_endOperand_5 {pX5_emit : zk_pV} {k : zk_K} {Q : zk_Q} {h : zk_H}  (H : (((h.1 24 5) ≤ 0 → Q.2.2.1 () h) ∧ (¬ (h.1 24 5) ≤ 0 → (vp_in ((h.1 24 5) - (1 : Int32)) 121 ∧ (((h.1 27 ((h.1 24 5) - (1 : Int32)).toNatClampNeg) = (33 : Int32) → (vp_in ((h.1 24 5) - (1 : Int32)) 121 ∧ pX5_emit [.ref 24, .int ((20000 : Int32) + (h.1 27 ((h.1 24 5) - (1 : Int32)).toNatClampNeg))] (zk_si (zk_si h 24 5 ((h.1 24 5) - (1 : Int32))) 24 6 ((h.1 24 6) - (1 : Int32))) (fun h1 => k 5 [some (.ref 24)] [] h1))) ∧ (¬ (h.1 27 ((h.1 24 5) - (1 : Int32)).toNatClampNeg) = (33 : Int32) → (vp_in ((h.1 24 5) - (1 : Int32)) 121 ∧ ((¬ (h.1 27 ((h.1 24 5) - (1 : Int32)).toNatClampNeg) = (126 : Int32) → Q.2.2.1 () h) ∧ ((h.1 27 ((h.1 24 5) - (1 : Int32)).toNatClampNeg) = (126 : Int32) → (vp_in ((h.1 24 5) - (1 : Int32)) 121 ∧ pX5_emit [.ref 24, .int ((20000 : Int32) + (h.1 27 ((h.1 24 5) - (1 : Int32)).toNatClampNeg))] (zk_si (zk_si h 24 5 ((h.1 24 5) - (1 : Int32))) 24 6 ((h.1 24 6) - (1 : Int32))) (fun h2 => k 5 [some (.ref 24)] [] h2))))))))))) : zk_R zk_C (zk_lkl lkX5) zk_mt (zk_cxl [(63, zk_vP pX5_emit)]) none (zk_at cdX5_endOperand) Q [5] k 45 5 [some (.ref 24)] [] h := H
theorem fcX5_emitWaiting : zk_fc mX5_emitWaiting (zk_lkl lkX5) (zk_at cdX5_emitWaiting) := ⟨lkX5_ok, by decide +kernel, cdX5_emitWaiting_ok⟩
set_option maxRecDepth 100000 in
theorem bX5_emitWaiting_0 {pX5_rankOf : zk_pI} {pX5_emit : zk_pV} {k : zk_K} {Q : zk_Q} {h : zk_H} {x1 : Int32} (H : (((h.1 24 5) ≤ 0 → Q.2.2.1 () h) ∧ (¬ (h.1 24 5) ≤ 0 → (vp_in ((h.1 24 5) - (1 : Int32)) 121 ∧ pX5_rankOf [.ref 24, .int (h.1 27 ((h.1 24 5) - (1 : Int32)).toNatClampNeg)] h (fun v2 h1 => ((v2 < x1 → Q.2.2.1 () h1) ∧ (¬ v2 < x1 → (vp_in ((h1.1 24 5) - (1 : Int32)) 121 ∧ pX5_emit [.ref 24, .int ((20000 : Int32) + (h1.1 27 ((h1.1 24 5) - (1 : Int32)).toNatClampNeg))] (zk_si h1 24 5 ((h1.1 24 5) - (1 : Int32))) (fun h3 => k 0 [some (.ref 24), some (.int x1)] [] h3))))))))) : zk_R zk_C (zk_lkl lkX5) zk_mt (zk_cxl [(61, zk_iP pX5_rankOf), (63, zk_vP pX5_emit)]) none (zk_at cdX5_emitWaiting) Q [0] k 32 0 [some (.ref 24), some (.int x1)] [] h := H
theorem fcX5_rankOf : zk_fc mX5_rankOf (zk_lkl lkX5) (zk_at cdX5_rankOf) := ⟨lkX5_ok, by decide +kernel, cdX5_rankOf_ok⟩
set_option maxRecDepth 100000 in
theorem bX5_rankOf_0  {k : zk_K} {Q : zk_Q} {h : zk_H} {x1 : Int32} (H : ((x1 = (37 : Int32) → Q.1 (5 : Int32) h) ∧ (¬ x1 = (37 : Int32) → ((x1 = (38 : Int32) → Q.1 (2 : Int32) h) ∧ (¬ x1 = (38 : Int32) → ((x1 = (42 : Int32) → Q.1 (5 : Int32) h) ∧ (¬ x1 = (42 : Int32) → ((x1 = (43 : Int32) → Q.1 (4 : Int32) h) ∧ (¬ x1 = (43 : Int32) → ((x1 = (45 : Int32) → Q.1 (4 : Int32) h) ∧ (¬ x1 = (45 : Int32) → ((x1 = (47 : Int32) → Q.1 (5 : Int32) h) ∧ (¬ x1 = (47 : Int32) → ((x1 = (60 : Int32) → Q.1 (3 : Int32) h) ∧ (¬ x1 = (60 : Int32) → ((x1 = (61 : Int32) → Q.1 (3 : Int32) h) ∧ (¬ x1 = (61 : Int32) → ((x1 = (62 : Int32) → Q.1 (3 : Int32) h) ∧ (¬ x1 = (62 : Int32) → ((x1 = (124 : Int32) → Q.1 (1 : Int32) h) ∧ (¬ x1 = (124 : Int32) → Q.1 (0 : Int32) h))))))))))))))))))))) : zk_R zk_C (zk_lkl lkX5) zk_mt (zk_cxl []) (some .int) (zk_at cdX5_rankOf) Q [] k 6 0 [some (.ref 24), some (.int x1)] [] h := H
theorem fcX5_await : zk_fc mX5_await (zk_lkl lkX5) (zk_at cdX5_await) := ⟨lkX5_ok, by decide +kernel, cdX5_await_ok⟩
set_option maxRecDepth 100000 in
theorem bX5_await_0  {k : zk_K} {Q : zk_Q} {h : zk_H} {x1 : Int32} (H : (((121 : Int32) ≤ (h.1 24 5) → Q.2.2.1 () h) ∧ (¬ (121 : Int32) ≤ (h.1 24 5) → (vp_in (h.1 24 5) 121 ∧ Q.2.2.1 () (zk_si (zk_si h 27 (h.1 24 5).toNatClampNeg x1) 24 5 ((h.1 24 5) + (1 : Int32))))))) : zk_R zk_C (zk_lkl lkX5) zk_mt (zk_cxl []) none (zk_at cdX5_await) Q [] k 21 0 [some (.ref 24), some (.int x1)] [] h := H
theorem fcX5_emit : zk_fc mX5_emit (zk_lkl lkX5) (zk_at cdX5_emit) := ⟨lkX5_ok, by decide +kernel, cdX5_emit_ok⟩
set_option maxRecDepth 100000 in
theorem bX5_emit_0  {k : zk_K} {Q : zk_Q} {h : zk_H} {x1 : Int32} (H : (((121 : Int32) ≤ (h.1 24 3) → Q.2.2.1 () h) ∧ (¬ (121 : Int32) ≤ (h.1 24 3) → (vp_in (h.1 24 3) 121 ∧ Q.2.2.1 () (zk_si (zk_si h 26 (h.1 24 3).toNatClampNeg x1) 24 3 ((h.1 24 3) + (1 : Int32))))))) : zk_R zk_C (zk_lkl lkX5) zk_mt (zk_cxl []) none (zk_at cdX5_emit) Q [] k 21 0 [some (.ref 24), some (.int x1)] [] h := H
theorem fcX6_bestQuestion : zk_fc mX6_bestQuestion (zk_lkl lkX6) (zk_at cdX6_bestQuestion) := ⟨lkX6_ok, by decide +kernel, cdX6_bestQuestion_ok⟩
set_option maxRecDepth 100000 in
theorem bX6_bestQuestion_0 {pX6_sumOfYes : zk_pI} {pX10_weigh : zk_pI} {k : zk_K} {Q : zk_Q} {h : zk_H} {x1 x2 : Int32} (H : pX10_weigh [.ref 31, .int x1] h (fun v2 h1 => k 20 [some (.ref 36), some (.int x1), some (.int x2), some (.int v2), some (.int (0 : Int32)), some (.int (v2 + (1 : Int32))), some (.int (0 : Int32)), none, none] [] h1)) : zk_R zk_C (zk_lkl lkX6) zk_mt (zk_cxl [(65, zk_iP pX6_sumOfYes), (92, zk_iP pX10_weigh)]) (some .int) (zk_at cdX6_bestQuestion) Q [20] k 15 0 [some (.ref 36), some (.int x1), some (.int x2), none, none, none, none, none, none] [] h := H
set_option maxRecDepth 100000 in
theorem bX6_bestQuestion_20 {pX6_sumOfYes : zk_pI} {pX10_weigh : zk_pI} {k : zk_K} {Q : zk_Q} {h : zk_H} {x1 x2 x3 x4 x5 x6 : Int32} (H : (((13 : Int32) ≤ x6 → ((¬ x2 = 0 → Q.1 x5 h) ∧ (x2 = 0 → Q.1 x4 h))) ∧ (¬ (13 : Int32) ≤ x6 → pX6_sumOfYes [.ref 36, .int x6, .int x1] h (fun v2 h1 => ((x5 ≤ (if v2 < (x3 - v2) then (x3 - v2) else v2) → k 20 [some (.ref 36), some (.int x1), some (.int x2), some (.int x3), some (.int x4), some (.int x5), some (.int (x6 + (1 : Int32))), some (.int v2), some (.int (if v2 < (x3 - v2) then (x3 - v2) else v2))] [] h1) ∧ (¬ x5 ≤ (if v2 < (x3 - v2) then (x3 - v2) else v2) → k 20 [some (.ref 36), some (.int x1), some (.int x2), some (.int x3), some (.int x6), some (.int (if v2 < (x3 - v2) then (x3 - v2) else v2)), some (.int (x6 + (1 : Int32))), some (.int v2), some (.int (if v2 < (x3 - v2) then (x3 - v2) else v2))] [] h1)))))) : zk_R zk_C (zk_lkl lkX6) zk_mt (zk_cxl [(65, zk_iP pX6_sumOfYes), (92, zk_iP pX10_weigh)]) (some .int) (zk_at cdX6_bestQuestion) Q [20] k 25 20 [some (.ref 36), some (.int x1), some (.int x2), some (.int x3), some (.int x4), some (.int x5), some (.int x6), none, none] [] h := H
theorem fcX6_sumOfYes : zk_fc mX6_sumOfYes (zk_lkl lkX6) (zk_at cdX6_sumOfYes) := ⟨lkX6_ok, by decide +kernel, cdX6_sumOfYes_ok⟩
set_option maxRecDepth 100000 in
theorem bX6_sumOfYes_0 {pX6_saysYes : zk_pI} {k : zk_K} {Q : zk_Q} {h : zk_H} {x1 x2 : Int32} (H : k 5 [some (.ref 36), some (.int x1), some (.int x2), some (.int (0 : Int32)), some (.int (0 : Int32))] [] h) : zk_R zk_C (zk_lkl lkX6) zk_mt (zk_cxl [(66, zk_iP pX6_saysYes)]) (some .int) (zk_at cdX6_sumOfYes) Q [5] k 6 0 [some (.ref 36), some (.int x1), some (.int x2), none, none] [] h := H
set_option maxRecDepth 100000 in
theorem bX6_sumOfYes_5 {pX6_saysYes : zk_pI} {k : zk_K} {Q : zk_Q} {h : zk_H} {x1 x2 x3 x4 : Int32} (H : (((h.1 1 1) ≤ x4 → Q.1 x3 h) ∧ (¬ (h.1 1 1) ≤ x4 → pX6_saysYes [.ref 36, .int x1, .int x4, .int x2] h (fun v2 h1 => ((v2 = 0 → k 5 [some (.ref 36), some (.int x1), some (.int x2), some (.int x3), some (.int (x4 + (1 : Int32)))] [] h1) ∧ (¬ v2 = 0 → (vp_in x4 8 ∧ k 5 [some (.ref 36), some (.int x1), some (.int x2), some (.int (x3 + (h1.1 33 x4.toNatClampNeg))), some (.int (x4 + (1 : Int32)))] [] h1))))))) : zk_R zk_C (zk_lkl lkX6) zk_mt (zk_cxl [(66, zk_iP pX6_saysYes)]) (some .int) (zk_at cdX6_sumOfYes) Q [5] k 23 5 [some (.ref 36), some (.int x1), some (.int x2), some (.int x3), some (.int x4)] [] h := H
theorem fcX6_saysYes : zk_fc mX6_saysYes (zk_lkl lkX6) (zk_at cdX6_saysYes) := ⟨lkX6_ok, by decide +kernel, cdX6_saysYes_ok⟩
set_option maxRecDepth 100000 in
theorem bX6_saysYes_0 {pX4_likes : zk_pI} {pX4_knows : zk_pI} {k : zk_K} {Q : zk_Q} {h : zk_H} {x1 x2 x3 : Int32} (H : (((8 : Int32) ≤ x1 → (((12 : Int32) ≤ x1 → (vp_in (13 : Int32) 16 ∧ (vp_in x3 8 ∧ pX4_likes [.ref 1, .int x2, .int (h.1 16 x3.toNatClampNeg)] h (fun v2 h1 => ((v2 = 0 ∨ v2 = 1) ∧ Q.1 v2 h1))))) ∧ (¬ (12 : Int32) ≤ x1 → (vp_in (2 : Int32) 16 ∧ (vp_in x2 8 ∧ ((¬ (h.1 5 x2.toNatClampNeg) = (x1 - (8 : Int32)) → (((0 : Int32) = 0 ∨ (0 : Int32) = 1) ∧ Q.1 (0 : Int32) h)) ∧ ((h.1 5 x2.toNatClampNeg) = (x1 - (8 : Int32)) → (((1 : Int32) = 0 ∨ (1 : Int32) = 1) ∧ Q.1 (1 : Int32) h)))))))) ∧ (¬ (8 : Int32) ≤ x1 → pX4_knows [.ref 1, .int x2, .int x1] h (fun v4 h3 => ((v4 = 0 ∨ v4 = 1) ∧ Q.1 v4 h3))))) : zk_R zk_C (zk_lkl lkX6) zk_mt (zk_cxl [(37, zk_iP pX4_likes), (38, zk_iP pX4_knows)]) (some .boolean) (zk_at cdX6_saysYes) Q [] k 22 0 [some (.ref 36), some (.int x1), some (.int x2), some (.int x3)] [] h := H
theorem fcX6_worthOfThanking : zk_fc mX6_worthOfThanking (zk_lkl lkX6) (zk_at cdX6_worthOfThanking) := ⟨lkX6_ok, by decide +kernel, cdX6_worthOfThanking_ok⟩
set_option maxRecDepth 100000 in
theorem bX6_worthOfThanking_0  {k : zk_K} {Q : zk_Q} {h : zk_H} {x1 x2 : Int32} (H : ((¬ x2 = 0 → (vp_in x1 8 ∧ (vp_in (11 : Int32) 16 ∧ (vp_in (0 : Int32) 8 ∧ (vp_in (12 : Int32) 16 ∧ (vp_in (0 : Int32) 8 ∧ (¬ x2 = 0 ∧ Q.1 (((1000 : Int32) * (((h.1 14 0) * (h.1 33 x1.toNatClampNeg)) - ((h.1 15 0) * (x2 - (h.1 33 x1.toNatClampNeg))))) / x2) h))))))) ∧ (x2 = 0 → Q.1 (0 : Int32) h))) : zk_R zk_C (zk_lkl lkX6) zk_mt (zk_cxl []) (some .int) (zk_at cdX6_worthOfThanking) Q [] k 40 0 [some (.ref 36), some (.int x1), some (.int x2), none, none, none] [] h := H
theorem fcX6_whomToThank : zk_fc mX6_whomToThank (zk_lkl lkX6) (zk_at cdX6_whomToThank) := ⟨lkX6_ok, by decide +kernel, cdX6_whomToThank_ok⟩
set_option maxRecDepth 100000 in
theorem bX6_whomToThank_0 {pX6_worthOfThanking : zk_pI} {pX10_weigh : zk_pI} {k : zk_K} {Q : zk_Q} {h : zk_H} {x1 : Int32} (H : pX10_weigh [.ref 31, .int x1] h (fun v2 h1 => k 18 [some (.ref 36), some (.int x1), some (.int v2), some (.int (-2 : Int32)), some (.int (0 : Int32)), some (.int (0 : Int32)), none] [] h1)) : zk_R zk_C (zk_lkl lkX6) zk_mt (zk_cxl [(67, zk_iP pX6_worthOfThanking), (92, zk_iP pX10_weigh)]) (some .int) (zk_at cdX6_whomToThank) Q [18] k 13 0 [some (.ref 36), some (.int x1), none, none, none, none, none] [] h := H
set_option maxRecDepth 100000 in
theorem bX6_whomToThank_18 {pX6_worthOfThanking : zk_pI} {pX10_weigh : zk_pI} {k : zk_K} {Q : zk_Q} {h : zk_H} {x1 x2 x3 x4 x5 : Int32} (H : (((h.1 1 1) ≤ x5 → Q.1 x3 h) ∧ (¬ (h.1 1 1) ≤ x5 → pX6_worthOfThanking [.ref 36, .int x5, .int x2] h (fun v2 h1 => ((v2 ≤ x4 → k 18 [some (.ref 36), some (.int x1), some (.int x2), some (.int x3), some (.int x4), some (.int (x5 + (1 : Int32))), some (.int v2)] [] h1) ∧ (¬ v2 ≤ x4 → k 18 [some (.ref 36), some (.int x1), some (.int x2), some (.int x5), some (.int v2), some (.int (x5 + (1 : Int32))), some (.int v2)] [] h1)))))) : zk_R zk_C (zk_lkl lkX6) zk_mt (zk_cxl [(67, zk_iP pX6_worthOfThanking), (92, zk_iP pX10_weigh)]) (some .int) (zk_at cdX6_whomToThank) Q [18] k 21 18 [some (.ref 36), some (.int x1), some (.int x2), some (.int x3), some (.int x4), some (.int x5), none] [] h := H
theorem fcX6_tellingSecret : zk_fc mX6_tellingSecret (zk_lkl lkX6) (zk_at cdX6_tellingSecret) := ⟨lkX6_ok, by decide +kernel, cdX6_tellingSecret_ok⟩
set_option maxRecDepth 100000 in
theorem bX6_tellingSecret_0 {pX4_whoCouldWithSecret : zk_pI} {pJ6_bitCount_0f7a4 : zk_pI} {k : zk_K} {Q : zk_Q} {h : zk_H} {x1 x2 : Int32} (H : k 10 [some (.ref 36), some (.int x1), some (.int x2), some (.int (-2 : Int32)), some (.int (-2 : Int32)), some (.int (0 : Int32)), none] [] h) : zk_R zk_C (zk_lkl lkX6) zk_mt (zk_cxl [(42, zk_iP pX4_whoCouldWithSecret), (262, zk_iP pJ6_bitCount_0f7a4)]) (some .int) (zk_at cdX6_tellingSecret) Q [10] k 8 0 [some (.ref 36), some (.int x1), some (.int x2), none, none, none, none] [] h := H
set_option maxRecDepth 100000 in
theorem bX6_tellingSecret_10 {pX4_whoCouldWithSecret : zk_pI} {pJ6_bitCount_0f7a4 : zk_pI} {k : zk_K} {Q : zk_Q} {h : zk_H} {x1 x2 x3 x4 x5 : Int32} (H : (((8 : Int32) ≤ x5 → ((¬ x2 = 0 → Q.1 x4 h) ∧ (x2 = 0 → Q.1 x3 h))) ∧ (¬ (8 : Int32) ≤ x5 → pX4_whoCouldWithSecret [.ref 1, .int x1, .int x5] h (fun v2 h1 => pJ6_bitCount_0f7a4 [.int v2] h1 (fun v4 h3 => ((v4 ≤ 0 → k 10 [some (.ref 36), some (.int x1), some (.int x2), some (.int x3), some (.int x4), some (.int (x5 + (1 : Int32))), some (.int v4)] [] h3) ∧ (¬ v4 ≤ 0 → ((x4 = (-2 : Int32) → k 10 [some (.ref 36), some (.int x1), some (.int x2), some (.int x5), some (.int v4), some (.int (x5 + (1 : Int32))), some (.int v4)] [] h3) ∧ (¬ x4 = (-2 : Int32) → ((x4 ≤ v4 → k 10 [some (.ref 36), some (.int x1), some (.int x2), some (.int x3), some (.int x4), some (.int (x5 + (1 : Int32))), some (.int v4)] [] h3) ∧ (¬ x4 ≤ v4 → k 10 [some (.ref 36), some (.int x1), some (.int x2), some (.int x5), some (.int v4), some (.int (x5 + (1 : Int32))), some (.int v4)] [] h3))))))))))) : zk_R zk_C (zk_lkl lkX6) zk_mt (zk_cxl [(42, zk_iP pX4_whoCouldWithSecret), (262, zk_iP pJ6_bitCount_0f7a4)]) (some .int) (zk_at cdX6_tellingSecret) Q [10] k 26 10 [some (.ref 36), some (.int x1), some (.int x2), some (.int x3), some (.int x4), some (.int x5), none] [] h := H
theorem fcX6_seekWay : zk_fc mX6_seekWay (zk_lkl lkX6) (zk_at cdX6_seekWay) := ⟨lkX6_ok, by decide +kernel, cdX6_seekWay_ok⟩
set_option maxRecDepth 100000 in
theorem bX6_seekWay_0 {pX4_layCard : zk_pV} {pX4_canWriteSo : zk_pI} {pX6_weighWay : zk_pV} {k : zk_K} {Q : zk_Q} {h : zk_H} {x1 x2 x3 x4 : Int32} (H : k 19 [some (.ref 36), some (.int x1), some (.int x2), some (.int x3), some (.int x4), some (.int (0 : Int32)), none, none, none] [] (zk_si (zk_si (zk_si h 36 3 (-2 : Int32)) 36 4 (0 : Int32)) 36 5 (1 : Int32))) : zk_R zk_C (zk_lkl lkX6) zk_mt (zk_cxl [(36, zk_vP pX4_layCard), (40, zk_iP pX4_canWriteSo), (71, zk_vP pX6_weighWay)]) none (zk_at cdX6_seekWay) Q [19, 29, 38] k 13 0 [some (.ref 36), some (.int x1), some (.int x2), some (.int x3), some (.int x4), none, none, none, none] [] h := H
set_option maxRecDepth 100000 in
theorem bX6_seekWay_19 {pX4_layCard : zk_pV} {pX4_canWriteSo : zk_pI} {pX6_weighWay : zk_pV} {k : zk_K} {Q : zk_Q} {h : zk_H} {x1 x2 x3 x4 x5 : Int32} (H : (((8 : Int32) < x5 → Q.2.2.1 () h) ∧ (¬ (8 : Int32) < x5 → k 29 [some (.ref 36), some (.int x1), some (.int x2), some (.int x3), some (.int x4), some (.int x5), some (.int (0 : Int32)), none, none] [] h))) : zk_R zk_C (zk_lkl lkX6) zk_mt (zk_cxl [(36, zk_vP pX4_layCard), (40, zk_iP pX4_canWriteSo), (71, zk_vP pX6_weighWay)]) none (zk_at cdX6_seekWay) Q [19, 29, 38] k 7 19 [some (.ref 36), some (.int x1), some (.int x2), some (.int x3), some (.int x4), some (.int x5), none, none, none] [] h := H
set_option maxRecDepth 100000 in
theorem bX6_seekWay_29 {pX4_layCard : zk_pV} {pX4_canWriteSo : zk_pI} {pX6_weighWay : zk_pV} {k : zk_K} {Q : zk_Q} {h : zk_H} {x1 x2 x3 x4 x5 x6 : Int32} (H : (((4 : Int32) < x6 → k 19 [some (.ref 36), some (.int x1), some (.int x2), some (.int x3), some (.int x4), some (.int (x5 + (1 : Int32))), some (.int x6), none, none] [] h) ∧ (¬ (4 : Int32) < x6 → k 38 [some (.ref 36), some (.int x1), some (.int x2), some (.int x3), some (.int x4), some (.int x5), some (.int x6), some (.int (0 : Int32)), none] [] h))) : zk_R zk_C (zk_lkl lkX6) zk_mt (zk_cxl [(36, zk_vP pX4_layCard), (40, zk_iP pX4_canWriteSo), (71, zk_vP pX6_weighWay)]) none (zk_at cdX6_seekWay) Q [19, 29, 38] k 7 29 [some (.ref 36), some (.int x1), some (.int x2), some (.int x3), some (.int x4), some (.int x5), some (.int x6), none, none] [] h := H
set_option maxRecDepth 100000 in
theorem bX6_seekWay_38 {pX4_layCard : zk_pV} {pX4_canWriteSo : zk_pI} {pX6_weighWay : zk_pV} {k : zk_K} {Q : zk_Q} {h : zk_H} {x1 x2 x3 x4 x5 x6 x7 : Int32} (H : (((1 : Int32) < x7 → k 29 [some (.ref 36), some (.int x1), some (.int x2), some (.int x3), some (.int x4), some (.int x5), some (.int (x6 + (1 : Int32))), some (.int x7), none] [] h) ∧ (¬ (1 : Int32) < x7 → pX4_canWriteSo [.ref 1, .int x1, .int ((((100 : Int32) * x5) + ((10 : Int32) * x6)) + x7), .int x3] h (fun v2 h1 => ((v2 = 0 → k 38 [some (.ref 36), some (.int x1), some (.int x2), some (.int x3), some (.int x4), some (.int x5), some (.int x6), some (.int (x7 + (1 : Int32))), some (.int ((((100 : Int32) * x5) + ((10 : Int32) * x6)) + x7))] [] h1) ∧ (¬ v2 = 0 → pX4_layCard [.ref 1, .int x2, .int x3, .int ((((100 : Int32) * x5) + ((10 : Int32) * x6)) + x7)] h1 (fun h3 => pX6_weighWay [.ref 36, .int x1, .int ((((100 : Int32) * x5) + ((10 : Int32) * x6)) + x7), .int x4] h3 (fun h4 => k 38 [some (.ref 36), some (.int x1), some (.int x2), some (.int x3), some (.int x4), some (.int x5), some (.int x6), some (.int (x7 + (1 : Int32))), some (.int ((((100 : Int32) * x5) + ((10 : Int32) * x6)) + x7))] [] h4)))))))) : zk_R zk_C (zk_lkl lkX6) zk_mt (zk_cxl [(36, zk_vP pX4_layCard), (40, zk_iP pX4_canWriteSo), (71, zk_vP pX6_weighWay)]) none (zk_at cdX6_seekWay) Q [19, 29, 38] k 35 38 [some (.ref 36), some (.int x1), some (.int x2), some (.int x3), some (.int x4), some (.int x5), some (.int x6), some (.int x7), none] [] h := H
theorem fcX6_weighWay : zk_fc mX6_weighWay (zk_lkl lkX6) (zk_at cdX6_weighWay) := ⟨lkX6_ok, by decide +kernel, cdX6_weighWay_ok⟩
set_option maxRecDepth 100000 in
theorem bX6_weighWay_0 {pX10_weigh : zk_pI} {k : zk_K} {Q : zk_Q} {h : zk_H} {x1 x2 x3 : Int32} (H : pX10_weigh [.ref 31, .int (h.1 1 2)] h (fun v2 h1 => ((¬ v2 = 0 → (vp_in x1 8 ∧ (((h1.1 36 3) = (-2 : Int32) → Q.2.2.1 () (zk_si (zk_si (zk_si h1 36 3 x2) 36 4 (h1.1 33 x1.toNatClampNeg)) 36 5 v2)) ∧ (¬ (h1.1 36 3) = (-2 : Int32) → ((¬ x3 = 0 → ((0 ≤ (((h1.1 33 x1.toNatClampNeg) * (h1.1 36 5)) - ((h1.1 36 4) * v2)) → Q.2.2.1 () h1) ∧ (¬ 0 ≤ (((h1.1 33 x1.toNatClampNeg) * (h1.1 36 5)) - ((h1.1 36 4) * v2)) → Q.2.2.1 () (zk_si (zk_si (zk_si h1 36 3 x2) 36 4 (h1.1 33 x1.toNatClampNeg)) 36 5 v2)))) ∧ (x3 = 0 → (((((h1.1 33 x1.toNatClampNeg) * (h1.1 36 5)) - ((h1.1 36 4) * v2)) ≤ 0 → Q.2.2.1 () h1) ∧ (¬ (((h1.1 33 x1.toNatClampNeg) * (h1.1 36 5)) - ((h1.1 36 4) * v2)) ≤ 0 → Q.2.2.1 () (zk_si (zk_si (zk_si h1 36 3 x2) 36 4 (h1.1 33 x1.toNatClampNeg)) 36 5 v2))))))))) ∧ (v2 = 0 → Q.2.2.1 () h1)))) : zk_R zk_C (zk_lkl lkX6) zk_mt (zk_cxl [(92, zk_iP pX10_weigh)]) none (zk_at cdX6_weighWay) Q [] k 46 0 [some (.ref 36), some (.int x1), some (.int x2), some (.int x3), none, none, none] [] h := H
theorem fcX6_hopeOfReceiver : zk_fc mX6_hopeOfReceiver (zk_lkl lkX6) (zk_at cdX6_hopeOfReceiver) := ⟨lkX6_ok, by decide +kernel, cdX6_hopeOfReceiver_ok⟩
set_option maxRecDepth 100000 in
theorem bX6_hopeOfReceiver_0 {pX4_everybody : zk_pI} {pX10_weigh : zk_pI} {pX10_likeliestOf : zk_pI} {k : zk_K} {Q : zk_Q} {h : zk_H} {x1 x2 : Int32} (H : (vp_in (4 : Int32) 16 ∧ (vp_in (13 : Int32) 16 ∧ (vp_in x1 8 ∧ (vp_in (h.1 16 x1.toNatClampNeg) 8 ∧ pX10_likeliestOf [.ref 31, .int x1, .int (h.1 7 (h.1 16 x1.toNatClampNeg).toNatClampNeg)] h (fun v2 h1 => ((x2 = 0 → ((¬ x2 = 0 → Q.1 (0 : Int32) h1) ∧ (x2 = 0 → Q.1 v2 h1))) ∧ (¬ x2 = 0 → ((¬ v2 = (-2 : Int32) → pX4_everybody [.ref 1] h1 (fun v4 h3 => pX10_likeliestOf [.ref 31, .int x1, .int v4] h3 (fun v6 h5 => pX10_weigh [.ref 31, .int x1] h5 (fun v8 h7 => ((v6 = (-2 : Int32) → Q.1 (0 : Int32) h7) ∧ (¬ v6 = (-2 : Int32) → ((¬ v8 = 0 → (vp_in v2 8 ∧ (vp_in v6 8 ∧ (¬ v8 = 0 ∧ Q.1 (((1000000 : Int32) * ((h7.1 33 v2.toNatClampNeg) - (h7.1 33 v6.toNatClampNeg))) / v8) h7)))) ∧ (v8 = 0 → Q.1 (0 : Int32) h7)))))))) ∧ (v2 = (-2 : Int32) → ((¬ x2 = 0 → Q.1 (0 : Int32) h1) ∧ (x2 = 0 → Q.1 v2 h1)))))))))))) : zk_R zk_C (zk_lkl lkX6) zk_mt (zk_cxl [(43, zk_iP pX4_everybody), (92, zk_iP pX10_weigh), (96, zk_iP pX10_likeliestOf)]) (some .int) (zk_at cdX6_hopeOfReceiver) Q [] k 61 0 [some (.ref 36), some (.int x1), some (.int x2), none, none, none, none] [] h := H
theorem fcX6_timesDrawn : zk_fc mX6_timesDrawn (zk_lkl lkX6) (zk_at cdX6_timesDrawn) := ⟨lkX6_ok, by decide +kernel, cdX6_timesDrawn_ok⟩
set_option maxRecDepth 100000 in
theorem bX6_timesDrawn_0 {pX6_whoIsAt : zk_pI} {pX10_weigh : zk_pI} {pJ7_fill_53178 : zk_pV} {k : zk_K} {Q : zk_Q} {h : zk_H} {x1 x2 x3 x4 : Int32} (H : pJ7_fill_53178 [.ref 37, .int (0 : Int32)] h (fun h1 => pX10_weigh [.ref 31, .int x1] h1 (fun v3 h2 => k 27 [some (.ref 36), some (.int x1), some (.int x2), some (.int x3), some (.int x4), some (.int v3), some (.int x2), some (.int (0 : Int32)), some (.int (0 : Int32)), none] [] h2))) : zk_R zk_C (zk_lkl lkX6) zk_mt (zk_cxl [(74, zk_iP pX6_whoIsAt), (92, zk_iP pX10_weigh), (272, zk_vP pJ7_fill_53178)]) (some .int) (zk_at cdX6_timesDrawn) Q [27] k 17 0 [some (.ref 36), some (.int x1), some (.int x2), some (.int x3), some (.int x4), none, none, none, none, none] [] h := H
set_option maxRecDepth 100000 in
theorem bX6_timesDrawn_27 {pX6_whoIsAt : zk_pI} {pX10_weigh : zk_pI} {pJ7_fill_53178 : zk_pV} {k : zk_K} {Q : zk_Q} {h : zk_H} {x1 x2 x3 x4 x5 x6 x7 x8 : Int32} (H : ((x3 ≤ x8 → ((0 ≤ x4 → (vp_in x4 8 ∧ Q.1 (h.1 37 x4.toNatClampNeg) h)) ∧ (¬ 0 ≤ x4 → Q.1 x7 h))) ∧ (¬ x3 ≤ x8 → ((x5 ≤ 0 → ((0 ≤ x4 → (vp_in x4 8 ∧ Q.1 (h.1 37 x4.toNatClampNeg) h)) ∧ (¬ 0 ≤ x4 → Q.1 x7 h))) ∧ (¬ x5 ≤ 0 → (¬ x5 = 0 ∧ pX6_whoIsAt [.ref 36, .int ((((x6 * (1103515245 : Int32)) + (12345 : Int32)).toUInt32 >>> ((8 : Int32).toUInt32 &&& Int32.toUInt32 31)).toInt32 - (((x6 * (1103515245 : Int32)) + (12345 : Int32)).toUInt32 >>> ((8 : Int32).toUInt32 &&& Int32.toUInt32 31)).toInt32 / x5 * x5)] h (fun v2 h1 => (vp_in v2 8 ∧ (vp_in v2 8 ∧ (vp_in v2 8 ∧ k 27 [some (.ref 36), some (.int x1), some (.int x2), some (.int x3), some (.int x4), some (.int x5), some (.int ((x6 * (1103515245 : Int32)) + (12345 : Int32))), some (.int (if x7 < ((zk_si h1 37 v2.toNatClampNeg ((h1.1 37 v2.toNatClampNeg) + (1 : Int32))).1 37 v2.toNatClampNeg) then ((zk_si h1 37 v2.toNatClampNeg ((h1.1 37 v2.toNatClampNeg) + (1 : Int32))).1 37 v2.toNatClampNeg) else x7)), some (.int (x8 + (1 : Int32))), some (.int v2)] [] (zk_si h1 37 v2.toNatClampNeg ((h1.1 37 v2.toNatClampNeg) + (1 : Int32))))))))))))) : zk_R zk_C (zk_lkl lkX6) zk_mt (zk_cxl [(74, zk_iP pX6_whoIsAt), (92, zk_iP pX10_weigh), (272, zk_vP pJ7_fill_53178)]) (some .int) (zk_at cdX6_timesDrawn) Q [27] k 38 27 [some (.ref 36), some (.int x1), some (.int x2), some (.int x3), some (.int x4), some (.int x5), some (.int x6), some (.int x7), some (.int x8), none] [] h := H
theorem fcX6_whoIsAt : zk_fc mX6_whoIsAt (zk_lkl lkX6) (zk_at cdX6_whoIsAt) := ⟨lkX6_ok, by decide +kernel, cdX6_whoIsAt_ok⟩
set_option maxRecDepth 100000 in
theorem bX6_whoIsAt_0  {k : zk_K} {Q : zk_Q} {h : zk_H} {x1 : Int32} (H : k 4 [some (.ref 36), some (.int x1), some (.int x1), some (.int (0 : Int32))] [] h) : zk_R zk_C (zk_lkl lkX6) zk_mt (zk_cxl []) (some .int) (zk_at cdX6_whoIsAt) Q [4] k 6 0 [some (.ref 36), some (.int x1), none, none] [] h := H
set_option maxRecDepth 100000 in
theorem bX6_whoIsAt_4  {k : zk_K} {Q : zk_Q} {h : zk_H} {x1 x2 x3 : Int32} (H : (((h.1 1 1) ≤ x3 → Q.1 (0 : Int32) h) ∧ (¬ (h.1 1 1) ≤ x3 → (vp_in x3 8 ∧ ((0 ≤ (x2 - (h.1 33 x3.toNatClampNeg)) → k 4 [some (.ref 36), some (.int x1), some (.int (x2 - (h.1 33 x3.toNatClampNeg))), some (.int (x3 + (1 : Int32)))] [] h) ∧ (¬ 0 ≤ (x2 - (h.1 33 x3.toNatClampNeg)) → Q.1 x3 h)))))) : zk_R zk_C (zk_lkl lkX6) zk_mt (zk_cxl []) (some .int) (zk_at cdX6_whoIsAt) Q [4] k 19 4 [some (.ref 36), some (.int x1), some (.int x2), some (.int x3)] [] h := H
theorem fcX7_peopleCome : zk_fc mX7_peopleCome (zk_lkl lkX7) (zk_at cdX7_peopleCome) := ⟨lkX7_ok, by decide +kernel, cdX7_peopleCome_ok⟩
set_option maxRecDepth 100000 in
theorem bX7_peopleCome_0 {pX7_comesFrom : zk_pI} {k : zk_K} {Q : zk_Q} {h : zk_H} {a1 : Nat} {x2 x3 : Int32} (H : k 6 [some (.ref 38), some (.retAddr a1), some (.int x2), some (.int x3), some (.int (0 : Int32)), some (.int x2)] [] h) : zk_R zk_C (zk_lkl lkX7) zk_mt (zk_cxl [(76, zk_iP pX7_comesFrom)]) (some .int) (zk_at cdX7_peopleCome) Q [6] k 6 0 [some (.ref 38), some (.retAddr a1), some (.int x2), some (.int x3), none, none] [] h := H
set_option maxRecDepth 100000 in
theorem bX7_peopleCome_6 {pX7_comesFrom : zk_pI} {k : zk_K} {Q : zk_Q} {h : zk_H} {a1 : Nat} {x2 x3 x4 x5 : Int32} (H : ((x3 ≤ x4 → Q.1 x4 h) ∧ (¬ x3 ≤ x4 → ((x5 < 0 → Q.1 x4 h) ∧ (¬ x5 < 0 → (zk_Cs[a1]? = some (12, 5) ∧ ((((h.1 a1 3) - (3 : Int32)) < x5 → Q.1 x4 h) ∧ (¬ ((h.1 a1 3) - (3 : Int32)) < x5 → pX7_comesFrom [.ref 38, .retAddr a1, .int x5] h (fun v2 h1 => ((v2 = 0 → Q.1 x4 h1) ∧ (¬ v2 = 0 → k 6 [some (.ref 38), some (.retAddr a1), some (.int x2), some (.int x3), some (.int (x4 + (1 : Int32))), some (.int (x5 + (3 : Int32)))] [] h1))))))))))) : zk_R zk_C (zk_lkl lkX7) zk_mt (zk_cxl [(76, zk_iP pX7_comesFrom)]) (some .int) (zk_at cdX7_peopleCome) Q [6] k 21 6 [some (.ref 38), some (.retAddr a1), some (.int x2), some (.int x3), some (.int x4), some (.int x5)] [] h := H
theorem fcX7_comesFrom : zk_fc mX7_comesFrom (zk_lkl lkX7) (zk_at cdX7_comesFrom) := ⟨lkX7_ok, by decide +kernel, cdX7_comesFrom_ok⟩
set_option maxRecDepth 100000 in
theorem bX7_comesFrom_0 {pX4_fits : zk_pI} {pX4_addPerson : zk_pI} {k : zk_K} {Q : zk_Q} {h : zk_H} {a1 : Nat} {x2 : Int32} (H : (zk_Cs[a1]? = some (12, 5) ∧ ∃ b1, zk_C.2 a1 4 = some b1 ∧ (∃ n2, zk_Cs[b1]? = some (1, n2) ∧ (vp_in x2 n2 ∧ (zk_Cs[a1]? = some (12, 5) ∧ ∃ b3, zk_C.2 a1 4 = some b3 ∧ (∃ n4, zk_Cs[b3]? = some (1, n4) ∧ (vp_in (x2 + (1 : Int32)) n4 ∧ (zk_Cs[a1]? = some (12, 5) ∧ ∃ b5, zk_C.2 a1 4 = some b5 ∧ (∃ n6, zk_Cs[b5]? = some (1, n6) ∧ (vp_in (x2 + (2 : Int32)) n6 ∧ pX4_fits [.ref 1, .int (2 : Int32), .int (h.2 b1 x2.toNatClampNeg).toInt32] h (fun v8 h7 => ((v8 = 0 → (((0 : Int32) = 0 → (((0 : Int32) = 0 ∨ (0 : Int32) = 1) ∧ Q.1 (0 : Int32) h7)) ∧ (¬ (0 : Int32) = 0 → (((h7.1 1 1) < (8 : Int32) → pX4_addPerson [.ref 1, .int (h.2 b1 x2.toNatClampNeg).toInt32, .int (h.2 b3 (x2 + (1 : Int32)).toNatClampNeg).toInt32, .int (h.2 b5 (x2 + (2 : Int32)).toNatClampNeg).toInt32] h7 (fun v10 h9 => (((1 : Int32) = 0 ∨ (1 : Int32) = 1) ∧ Q.1 (1 : Int32) h9))) ∧ (¬ (h7.1 1 1) < (8 : Int32) → (((0 : Int32) = 0 ∨ (0 : Int32) = 1) ∧ Q.1 (0 : Int32) h7)))))) ∧ (¬ v8 = 0 → pX4_fits [.ref 1, .int (4 : Int32), .int (h.2 b3 (x2 + (1 : Int32)).toNatClampNeg).toInt32] h7 (fun v12 h11 => ((v12 = 0 → (((0 : Int32) = 0 → (((0 : Int32) = 0 ∨ (0 : Int32) = 1) ∧ Q.1 (0 : Int32) h11)) ∧ (¬ (0 : Int32) = 0 → (((h11.1 1 1) < (8 : Int32) → pX4_addPerson [.ref 1, .int (h.2 b1 x2.toNatClampNeg).toInt32, .int (h.2 b3 (x2 + (1 : Int32)).toNatClampNeg).toInt32, .int (h.2 b5 (x2 + (2 : Int32)).toNatClampNeg).toInt32] h11 (fun v14 h13 => (((1 : Int32) = 0 ∨ (1 : Int32) = 1) ∧ Q.1 (1 : Int32) h13))) ∧ (¬ (h11.1 1 1) < (8 : Int32) → (((0 : Int32) = 0 ∨ (0 : Int32) = 1) ∧ Q.1 (0 : Int32) h11)))))) ∧ (¬ v12 = 0 → pX4_fits [.ref 1, .int (5 : Int32), .int (h.2 b5 (x2 + (2 : Int32)).toNatClampNeg).toInt32] h11 (fun v16 h15 => ((v16 = 0 → (((0 : Int32) = 0 → (((0 : Int32) = 0 ∨ (0 : Int32) = 1) ∧ Q.1 (0 : Int32) h15)) ∧ (¬ (0 : Int32) = 0 → (((h15.1 1 1) < (8 : Int32) → pX4_addPerson [.ref 1, .int (h.2 b1 x2.toNatClampNeg).toInt32, .int (h.2 b3 (x2 + (1 : Int32)).toNatClampNeg).toInt32, .int (h.2 b5 (x2 + (2 : Int32)).toNatClampNeg).toInt32] h15 (fun v18 h17 => (((1 : Int32) = 0 ∨ (1 : Int32) = 1) ∧ Q.1 (1 : Int32) h17))) ∧ (¬ (h15.1 1 1) < (8 : Int32) → (((0 : Int32) = 0 ∨ (0 : Int32) = 1) ∧ Q.1 (0 : Int32) h15)))))) ∧ (¬ v16 = 0 → (((1 : Int32) = 0 → (((0 : Int32) = 0 ∨ (0 : Int32) = 1) ∧ Q.1 (0 : Int32) h15)) ∧ (¬ (1 : Int32) = 0 → (((h15.1 1 1) < (8 : Int32) → pX4_addPerson [.ref 1, .int (h.2 b1 x2.toNatClampNeg).toInt32, .int (h.2 b3 (x2 + (1 : Int32)).toNatClampNeg).toInt32, .int (h.2 b5 (x2 + (2 : Int32)).toNatClampNeg).toInt32] h15 (fun v20 h19 => (((1 : Int32) = 0 ∨ (1 : Int32) = 1) ∧ Q.1 (1 : Int32) h19))) ∧ (¬ (h15.1 1 1) < (8 : Int32) → (((0 : Int32) = 0 ∨ (0 : Int32) = 1) ∧ Q.1 (0 : Int32) h15)))))))))))))))))))))))) : zk_R zk_C (zk_lkl lkX7) zk_mt (zk_cxl [(33, zk_iP pX4_fits), (34, zk_iP pX4_addPerson)]) (some .boolean) (zk_at cdX7_comesFrom) Q [] k 61 0 [some (.ref 38), some (.retAddr a1), some (.int x2), none, none, none, none] [] h := H
theorem fcX7_firstLookFromOutside : zk_fc mX7_firstLookFromOutside (zk_lkl lkX7) (zk_at cdX7_firstLookFromOutside) := ⟨lkX7_ok, by decide +kernel, cdX7_firstLookFromOutside_ok⟩
set_option maxRecDepth 100000 in
theorem bX7_firstLookFromOutside_0 {pX4_isPerson : zk_pI} {pX4_isIn : zk_pI} {k : zk_K} {Q : zk_Q} {h : zk_H} {a1 : Nat} (H : k 2 [some (.ref 38), some (.retAddr a1), some (.int (0 : Int32)), none] [] h) : zk_R zk_C (zk_lkl lkX7) zk_mt (zk_cxl [(25, zk_iP pX4_isPerson), (39, zk_iP pX4_isIn)]) (some .int) (zk_at cdX7_firstLookFromOutside) Q [2] k 4 0 [some (.ref 38), some (.retAddr a1), none, none] [] h := H
set_option maxRecDepth 100000 in
theorem bX7_firstLookFromOutside_2 {pX4_isPerson : zk_pI} {pX4_isIn : zk_pI} {k : zk_K} {Q : zk_Q} {h : zk_H} {a1 : Nat} {x2 : Int32} (H : (zk_Cs[a1]? = some (12, 5) ∧ (((h.1 a1 3) ≤ x2 → Q.1 (-2 : Int32) h) ∧ (¬ (h.1 a1 3) ≤ x2 → (zk_Cs[a1]? = some (12, 5) ∧ ∃ b1, zk_C.2 a1 4 = some b1 ∧ (∃ n2, zk_Cs[b1]? = some (1, n2) ∧ (vp_in x2 n2 ∧ pX4_isPerson [.ref 1, .int (h.2 b1 x2.toNatClampNeg).toInt32] h (fun v4 h3 => ((v4 = 0 → k 2 [some (.ref 38), some (.retAddr a1), some (.int (x2 + (1 : Int32))), some (.int (h.2 b1 x2.toNatClampNeg).toInt32)] [] h3) ∧ (¬ v4 = 0 → pX4_isIn [.ref 1, .int (h.2 b1 x2.toNatClampNeg).toInt32, .int x2] h3 (fun v6 h5 => ((¬ v6 = 0 → k 2 [some (.ref 38), some (.retAddr a1), some (.int (x2 + (1 : Int32))), some (.int (h.2 b1 x2.toNatClampNeg).toInt32)] [] h5) ∧ (v6 = 0 → Q.1 x2 h5))))))))))))) : zk_R zk_C (zk_lkl lkX7) zk_mt (zk_cxl [(25, zk_iP pX4_isPerson), (39, zk_iP pX4_isIn)]) (some .int) (zk_at cdX7_firstLookFromOutside) Q [2] k 25 2 [some (.ref 38), some (.retAddr a1), some (.int x2), none] [] h := H
theorem fcX7_tallyLooks : zk_fc mX7_tallyLooks (zk_lkl lkX7) (zk_at cdX7_tallyLooks) := ⟨lkX7_ok, by decide +kernel, cdX7_tallyLooks_ok⟩
set_option maxRecDepth 100000 in
theorem bX7_tallyLooks_0 {pX4_isPerson : zk_pI} {pJ7_fill_53178 : zk_pV} {k : zk_K} {Q : zk_Q} {h : zk_H} {a1 : Nat} {x2 : Int32} (H : pJ7_fill_53178 [.ref 39, .int (0 : Int32)] h (fun h1 => k 10 [some (.ref 38), some (.retAddr a1), some (.int x2), some (.int (0 : Int32)), none] [] h1)) : zk_R zk_C (zk_lkl lkX7) zk_mt (zk_cxl [(25, zk_iP pX4_isPerson), (272, zk_vP pJ7_fill_53178)]) none (zk_at cdX7_tallyLooks) Q [10] k 8 0 [some (.ref 38), some (.retAddr a1), some (.int x2), none, none] [] h := H
set_option maxRecDepth 100000 in
theorem bX7_tallyLooks_10 {pX4_isPerson : zk_pI} {pJ7_fill_53178 : zk_pV} {k : zk_K} {Q : zk_Q} {h : zk_H} {a1 : Nat} {x2 x3 : Int32} (H : (zk_Cs[a1]? = some (12, 5) ∧ (((h.1 a1 3) ≤ x3 → Q.2.2.1 () h) ∧ (¬ (h.1 a1 3) ≤ x3 → (zk_Cs[a1]? = some (12, 5) ∧ ∃ b1, zk_C.2 a1 4 = some b1 ∧ (∃ n2, zk_Cs[b1]? = some (1, n2) ∧ (vp_in x3 n2 ∧ pX4_isPerson [.ref 1, .int (h.2 b1 x3.toNatClampNeg).toInt32] h (fun v4 h3 => ((v4 = 0 → k 10 [some (.ref 38), some (.retAddr a1), some (.int x2), some (.int (x3 + (1 : Int32))), some (.int (h.2 b1 x3.toNatClampNeg).toInt32)] [] h3) ∧ (¬ v4 = 0 → (vp_in (h.2 b1 x3.toNatClampNeg).toInt32 8 ∧ ((x2 ≤ x3 → (vp_in (h.2 b1 x3.toNatClampNeg).toInt32 8 ∧ k 10 [some (.ref 38), some (.retAddr a1), some (.int x2), some (.int (x3 + (1 : Int32))), some (.int (h.2 b1 x3.toNatClampNeg).toInt32)] [] (zk_si h3 39 (h.2 b1 x3.toNatClampNeg).toInt32.toNatClampNeg ((h3.1 39 (h.2 b1 x3.toNatClampNeg).toInt32.toNatClampNeg) + (1 : Int32))))) ∧ (¬ x2 ≤ x3 → (vp_in (h.2 b1 x3.toNatClampNeg).toInt32 8 ∧ k 10 [some (.ref 38), some (.retAddr a1), some (.int x2), some (.int (x3 + (1 : Int32))), some (.int (h.2 b1 x3.toNatClampNeg).toInt32)] [] (zk_si h3 39 (h.2 b1 x3.toNatClampNeg).toInt32.toNatClampNeg ((h3.1 39 (h.2 b1 x3.toNatClampNeg).toInt32.toNatClampNeg) + (-1 : Int32))))))))))))))))) : zk_R zk_C (zk_lkl lkX7) zk_mt (zk_cxl [(25, zk_iP pX4_isPerson), (272, zk_vP pJ7_fill_53178)]) none (zk_at cdX7_tallyLooks) Q [10] k 31 10 [some (.ref 38), some (.retAddr a1), some (.int x2), some (.int x3), none] [] h := H
theorem fcX7_mostTallied : zk_fc mX7_mostTallied (zk_lkl lkX7) (zk_at cdX7_mostTallied) := ⟨lkX7_ok, by decide +kernel, cdX7_mostTallied_ok⟩
set_option maxRecDepth 100000 in
theorem bX7_mostTallied_0  {k : zk_K} {Q : zk_Q} {h : zk_H}  (H : k 7 [some (.ref 38), some (.int (-2 : Int32)), some (.int (0 : Int32)), some (.int (0 : Int32))] [] h) : zk_R zk_C (zk_lkl lkX7) zk_mt (zk_cxl []) (some .int) (zk_at cdX7_mostTallied) Q [7] k 8 0 [some (.ref 38), none, none, none] [] h := H
set_option maxRecDepth 100000 in
theorem bX7_mostTallied_7  {k : zk_K} {Q : zk_Q} {h : zk_H} {x1 x2 x3 : Int32} (H : (((h.1 1 1) ≤ x3 → Q.1 x1 h) ∧ (¬ (h.1 1 1) ≤ x3 → (vp_in x3 8 ∧ (((h.1 39 x3.toNatClampNeg) ≤ x2 → k 7 [some (.ref 38), some (.int x1), some (.int x2), some (.int (x3 + (1 : Int32)))] [] h) ∧ (¬ (h.1 39 x3.toNatClampNeg) ≤ x2 → (vp_in x3 8 ∧ k 7 [some (.ref 38), some (.int x3), some (.int (h.1 39 x3.toNatClampNeg)), some (.int (x3 + (1 : Int32)))] [] h))))))) : zk_R zk_C (zk_lkl lkX7) zk_mt (zk_cxl []) (some .int) (zk_at cdX7_mostTallied) Q [7] k 22 7 [some (.ref 38), some (.int x1), some (.int x2), some (.int x3)] [] h := H
theorem fcX7_firstWrongLetter : zk_fc mX7_firstWrongLetter (zk_lkl lkX7) (zk_at cdX7_firstWrongLetter) := ⟨lkX7_ok, by decide +kernel, cdX7_firstWrongLetter_ok⟩
set_option maxRecDepth 100000 in
theorem bX7_firstWrongLetter_0 {pX7_canBe : zk_pI} {k : zk_K} {Q : zk_Q} {h : zk_H} {a1 : Nat} (H : k 2 [some (.ref 38), some (.retAddr a1), some (.int (0 : Int32))] [] h) : zk_R zk_C (zk_lkl lkX7) zk_mt (zk_cxl [(81, zk_iP pX7_canBe)]) (some .int) (zk_at cdX7_firstWrongLetter) Q [2] k 4 0 [some (.ref 38), some (.retAddr a1), none] [] h := H
set_option maxRecDepth 100000 in
theorem bX7_firstWrongLetter_2 {pX7_canBe : zk_pI} {k : zk_K} {Q : zk_Q} {h : zk_H} {a1 : Nat} {x2 : Int32} (H : (zk_Cs[a1]? = some (12, 5) ∧ (((h.1 a1 3) ≤ x2 → Q.1 (-2 : Int32) h) ∧ (¬ (h.1 a1 3) ≤ x2 → (zk_Cs[a1]? = some (12, 5) ∧ (((h.1 a1 3) ≤ (x2 + (1 : Int32)) → (¬ (2 : Int32) = 0 ∧ Q.1 (x2 / (2 : Int32)) h)) ∧ (¬ (h.1 a1 3) ≤ (x2 + (1 : Int32)) → (zk_Cs[a1]? = some (12, 5) ∧ ∃ b1, zk_C.2 a1 4 = some b1 ∧ (∃ n2, zk_Cs[b1]? = some (1, n2) ∧ (vp_in x2 n2 ∧ (zk_Cs[a1]? = some (12, 5) ∧ ∃ b3, zk_C.2 a1 4 = some b3 ∧ (∃ n4, zk_Cs[b3]? = some (1, n4) ∧ (vp_in (x2 + (1 : Int32)) n4 ∧ pX7_canBe [.ref 38, .int (h.2 b1 x2.toNatClampNeg).toInt32, .int (h.2 b3 (x2 + (1 : Int32)).toNatClampNeg).toInt32] h (fun v6 h5 => ((¬ v6 = 0 → k 2 [some (.ref 38), some (.retAddr a1), some (.int (x2 + (2 : Int32)))] [] h5) ∧ (v6 = 0 → (¬ (2 : Int32) = 0 ∧ Q.1 (x2 / (2 : Int32)) h5))))))))))))))))) : zk_R zk_C (zk_lkl lkX7) zk_mt (zk_cxl [(81, zk_iP pX7_canBe)]) (some .int) (zk_at cdX7_firstWrongLetter) Q [2] k 31 2 [some (.ref 38), some (.retAddr a1), some (.int x2)] [] h := H
theorem fcX7_canBe : zk_fc mX7_canBe (zk_lkl lkX7) (zk_at cdX7_canBe) := ⟨lkX7_ok, by decide +kernel, cdX7_canBe_ok⟩
set_option maxRecDepth 100000 in
theorem bX7_canBe_0 {pX4_isPerson : zk_pI} {pX4_isCard : zk_pI} {pX4_whoCould : zk_pI} {k : zk_K} {Q : zk_Q} {h : zk_H} {x1 x2 : Int32} (H : pX4_isCard [.ref 1, .int x1] h (fun v2 h1 => ((¬ v2 = 0 → ((¬ x2 = (-1 : Int32) → pX4_isPerson [.ref 1, .int x2] h1 (fun v4 h3 => ((v4 = 0 → (((0 : Int32) = 0 ∨ (0 : Int32) = 1) ∧ Q.1 (0 : Int32) h3)) ∧ (¬ v4 = 0 → pX4_whoCould [.ref 1, .int x1] h3 (fun v6 h5 => ((((v6 >>> (x2 &&& 31)) &&& (1 : Int32)) = 0 → (((0 : Int32) = 0 ∨ (0 : Int32) = 1) ∧ Q.1 (0 : Int32) h5)) ∧ (¬ ((v6 >>> (x2 &&& 31)) &&& (1 : Int32)) = 0 → (((1 : Int32) = 0 ∨ (1 : Int32) = 1) ∧ Q.1 (1 : Int32) h5)))))))) ∧ (x2 = (-1 : Int32) → pX4_whoCould [.ref 1, .int x1] h1 (fun v8 h7 => ((v8 = 0 → (((0 : Int32) = 0 ∨ (0 : Int32) = 1) ∧ Q.1 (0 : Int32) h7)) ∧ (¬ v8 = 0 → (((1 : Int32) = 0 ∨ (1 : Int32) = 1) ∧ Q.1 (1 : Int32) h7))))))) ∧ (v2 = 0 → (((0 : Int32) = 0 ∨ (0 : Int32) = 1) ∧ Q.1 (0 : Int32) h1))))) : zk_R zk_C (zk_lkl lkX7) zk_mt (zk_cxl [(25, zk_iP pX4_isPerson), (26, zk_iP pX4_isCard), (41, zk_iP pX4_whoCould)]) (some .boolean) (zk_at cdX7_canBe) Q [] k 27 0 [some (.ref 38), some (.int x1), some (.int x2)] [] h := H
theorem fcX7_lettersFilled : zk_fc mX7_lettersFilled (zk_lkl lkX7) (zk_at cdX7_lettersFilled) := ⟨lkX7_ok, by decide +kernel, cdX7_lettersFilled_ok⟩
set_option maxRecDepth 100000 in
theorem bX7_lettersFilled_0 {pX7_waysToFill : zk_pI} {pX7_countsTogether : zk_pI} {k : zk_K} {Q : zk_Q} {h : zk_H} {a1 : Nat} {x2 : Int32} (H : k 5 [some (.ref 38), some (.retAddr a1), some (.int x2), some (.long (1 : Int64)), none, some (.int (0 : Int32)), none, none] [] h) : zk_R zk_C (zk_lkl lkX7) zk_mt (zk_cxl [(83, zk_iP pX7_waysToFill), (84, zk_iP pX7_countsTogether)]) (some .long) (zk_at cdX7_lettersFilled) Q [5] k 6 0 [some (.ref 38), some (.retAddr a1), some (.int x2), none, none, none, none, none] [] h := H
set_option maxRecDepth 100000 in
theorem bX7_lettersFilled_5 {pX7_waysToFill : zk_pI} {pX7_countsTogether : zk_pI} {k : zk_K} {Q : zk_Q} {h : zk_H} {a1 : Nat} {x2 x5 : Int32} {x3 : Int64} (H : (zk_Cs[a1]? = some (12, 5) ∧ (((h.1 a1 3) ≤ (x5 + (1 : Int32)) → Q.2.1 x3 h) ∧ (¬ (h.1 a1 3) ≤ (x5 + (1 : Int32)) → (zk_Cs[a1]? = some (12, 5) ∧ ∃ b1, zk_C.2 a1 4 = some b1 ∧ (∃ n2, zk_Cs[b1]? = some (1, n2) ∧ (vp_in x5 n2 ∧ (zk_Cs[a1]? = some (12, 5) ∧ ∃ b3, zk_C.2 a1 4 = some b3 ∧ (∃ n4, zk_Cs[b3]? = some (1, n4) ∧ (vp_in (x5 + (1 : Int32)) n4 ∧ ((¬ x2 = 0 → pX7_countsTogether [.ref 38, .int (h.2 b1 x5.toNatClampNeg).toInt32, .int (h.2 b3 (x5 + (1 : Int32)).toNatClampNeg).toInt32] h (fun v6 h5 => k 5 [some (.ref 38), some (.retAddr a1), some (.int x2), some (.long (x3 * v6.toInt64)), none, some (.int (x5 + (2 : Int32))), some (.int (h.2 b1 x5.toNatClampNeg).toInt32), some (.int (h.2 b3 (x5 + (1 : Int32)).toNatClampNeg).toInt32)] [] h5)) ∧ (x2 = 0 → pX7_waysToFill [.ref 38, .int (h.2 b1 x5.toNatClampNeg).toInt32, .int (h.2 b3 (x5 + (1 : Int32)).toNatClampNeg).toInt32] h (fun v8 h7 => k 5 [some (.ref 38), some (.retAddr a1), some (.int x2), some (.long (x3 * v8.toInt64)), none, some (.int (x5 + (2 : Int32))), some (.int (h.2 b1 x5.toNatClampNeg).toInt32), some (.int (h.2 b3 (x5 + (1 : Int32)).toNatClampNeg).toInt32)] [] h7))))))))))))) : zk_R zk_C (zk_lkl lkX7) zk_mt (zk_cxl [(83, zk_iP pX7_waysToFill), (84, zk_iP pX7_countsTogether)]) (some .long) (zk_at cdX7_lettersFilled) Q [5] k 35 5 [some (.ref 38), some (.retAddr a1), some (.int x2), some (.long x3), none, some (.int x5), none, none] [] h := H
theorem fcX7_waysToFill : zk_fc mX7_waysToFill (zk_lkl lkX7) (zk_at cdX7_waysToFill) := ⟨lkX7_ok, by decide +kernel, cdX7_waysToFill_ok⟩
set_option maxRecDepth 100000 in
theorem bX7_waysToFill_0 {pX4_whoCould : zk_pI} {pJ6_bitCount_0f7a4 : zk_pI} {k : zk_K} {Q : zk_Q} {h : zk_H} {x1 x2 : Int32} (H : ((¬ x2 = (-1 : Int32) → Q.1 (1 : Int32) h) ∧ (x2 = (-1 : Int32) → pX4_whoCould [.ref 1, .int x1] h (fun v2 h1 => pJ6_bitCount_0f7a4 [.int v2] h1 (fun v4 h3 => Q.1 v4 h3))))) : zk_R zk_C (zk_lkl lkX7) zk_mt (zk_cxl [(41, zk_iP pX4_whoCould), (262, zk_iP pJ6_bitCount_0f7a4)]) (some .int) (zk_at cdX7_waysToFill) Q [] k 12 0 [some (.ref 38), some (.int x1), some (.int x2)] [] h := H
theorem fcX7_countsTogether : zk_fc mX7_countsTogether (zk_lkl lkX7) (zk_at cdX7_countsTogether) := ⟨lkX7_ok, by decide +kernel, cdX7_countsTogether_ok⟩
set_option maxRecDepth 100000 in
theorem bX7_countsTogether_0 {pX10_weigh : zk_pI} {k : zk_K} {Q : zk_Q} {h : zk_H} {x1 x2 : Int32} (H : pX10_weigh [.ref 31, .int x1] h (fun v2 h1 => ((¬ x2 = (-1 : Int32) → (vp_in x2 8 ∧ Q.1 (h1.1 33 x2.toNatClampNeg) h1)) ∧ (x2 = (-1 : Int32) → Q.1 v2 h1)))) : zk_R zk_C (zk_lkl lkX7) zk_mt (zk_cxl [(92, zk_iP pX10_weigh)]) (some .int) (zk_at cdX7_countsTogether) Q [] k 16 0 [some (.ref 38), some (.int x1), some (.int x2), none] [] h := H
theorem fcX8_holdLook : zk_fc mX8_holdLook (zk_lkl lkX8) (zk_at cdX8_holdLook) := ⟨lkX8_ok, by decide +kernel, cdX8_holdLook_ok⟩
set_option maxRecDepth 100000 in
theorem bX8_holdLook_0  {k : zk_K} {Q : zk_Q} {h : zk_H} {t : Nat} {x1 : Int32} (H : ((0 ≤ x1 → (zk_Cs[t]? = some (12, 5) ∧ (zk_Cs[t]? = some (12, 5) ∧ Q.2.2.1 () (zk_si (zk_si h t 0 (1 : Int32)) t 1 x1)))) ∧ (¬ 0 ≤ x1 → (zk_Cs[t]? = some (12, 5) ∧ (zk_Cs[t]? = some (12, 5) ∧ Q.2.2.1 () (zk_si (zk_si h t 0 (0 : Int32)) t 1 x1)))))) : zk_R zk_C (zk_lkl lkX8) zk_mt (zk_cxl []) none (zk_at cdX8_holdLook) Q [] k 12 0 [some (.retAddr t), some (.int x1)] [] h := H
theorem fcX8_holdRow : zk_fc mX8_holdRow (zk_lkl lkX8) (zk_at cdX8_holdRow) := ⟨lkX8_ok, by decide +kernel, cdX8_holdRow_ok⟩
set_option maxRecDepth 100000 in
theorem bX8_holdRow_0 {pJ7_fill_d0a16 : zk_pV} {k : zk_K} {Q : zk_Q} {h : zk_H} {t : Nat} {x1 x2 : Int32} (H : (zk_Cs[t]? = some (12, 5) ∧ (zk_Cs[t]? = some (12, 5) ∧ (zk_Cs[t]? = some (12, 5) ∧ (zk_Cs[t]? = some (12, 5) ∧ ∃ b1, zk_C.2 t 4 = some b1 ∧ pJ7_fill_d0a16 [.retAddr b1, .long (0 : Int64)] (zk_si (zk_si (zk_si h t 0 (2 : Int32)) t 2 x1) t 3 x2) (fun h2 => Q.2.2.1 () h2)))))) : zk_R zk_C (zk_lkl lkX8) zk_mt (zk_cxl [(271, zk_vP pJ7_fill_d0a16)]) none (zk_at cdX8_holdRow) Q [] k 16 0 [some (.retAddr t), some (.int x1), some (.int x2)] [] h := H
theorem fcX8_isRowOf : zk_fc mX8_isRowOf (zk_lkl lkX8) (zk_at cdX8_isRowOf) := ⟨lkX8_ok, by decide +kernel, cdX8_isRowOf_ok⟩
set_option maxRecDepth 100000 in
theorem bX8_isRowOf_0  {k : zk_K} {Q : zk_Q} {h : zk_H} {t : Nat} {x1 : Int32} (H : (zk_Cs[t]? = some (12, 5) ∧ ((¬ (h.1 t 0) = (2 : Int32) → (((0 : Int32) = 0 ∨ (0 : Int32) = 1) ∧ Q.1 (0 : Int32) h)) ∧ ((h.1 t 0) = (2 : Int32) → (zk_Cs[t]? = some (12, 5) ∧ ((¬ (h.1 t 2) = x1 → (((0 : Int32) = 0 ∨ (0 : Int32) = 1) ∧ Q.1 (0 : Int32) h)) ∧ ((h.1 t 2) = x1 → (((1 : Int32) = 0 ∨ (1 : Int32) = 1) ∧ Q.1 (1 : Int32) h)))))))) : zk_R zk_C (zk_lkl lkX8) zk_mt (zk_cxl []) (some .boolean) (zk_at cdX8_isRowOf) Q [] k 13 0 [some (.retAddr t), some (.int x1)] [] h := H
theorem fcX8_refusalOfRow : zk_fc mX8_refusalOfRow (zk_lkl lkX8) (zk_at cdX8_refusalOfRow) := ⟨lkX8_ok, by decide +kernel, cdX8_refusalOfRow_ok⟩
set_option maxRecDepth 100000 in
theorem bX8_refusalOfRow_0 {pX8_isRowOf : zk_pI} {k : zk_K} {Q : zk_Q} {h : zk_H} {t : Nat} {x1 : Int32} (H : (zk_Cs[t]? = some (12, 5) ∧ ((¬ (h.1 t 0) = 0 → (zk_Cs[t]? = some (12, 5) ∧ pX8_isRowOf [.retAddr t, .int x1] h (fun v2 h1 => ((v2 = 0 → Q.1 (-12 : Int32) h1) ∧ (¬ v2 = 0 → Q.1 (0 : Int32) h1))))) ∧ ((h.1 t 0) = 0 → Q.1 (-11 : Int32) h)))) : zk_R zk_C (zk_lkl lkX8) zk_mt (zk_cxl [(87, zk_iP pX8_isRowOf)]) (some .int) (zk_at cdX8_refusalOfRow) Q [] k 12 0 [some (.retAddr t), some (.int x1)] [] h := H
theorem fcX8_refusalOfPlace : zk_fc mX8_refusalOfPlace (zk_lkl lkX8) (zk_at cdX8_refusalOfPlace) := ⟨lkX8_ok, by decide +kernel, cdX8_refusalOfPlace_ok⟩
set_option maxRecDepth 100000 in
theorem bX8_refusalOfPlace_0  {k : zk_K} {Q : zk_Q} {h : zk_H} {t : Nat} {x1 : Int32} (H : (zk_Cs[t]? = some (12, 5) ∧ (((h.1 t 0) = (2 : Int32) → ((x1 < 0 → Q.1 (-13 : Int32) h) ∧ (¬ x1 < 0 → (zk_Cs[t]? = some (12, 5) ∧ (((h.1 t 3) ≤ x1 → Q.1 (-13 : Int32) h) ∧ (¬ (h.1 t 3) ≤ x1 → Q.1 (0 : Int32) h)))))) ∧ (¬ (h.1 t 0) = (2 : Int32) → (zk_Cs[t]? = some (12, 5) ∧ ((¬ (h.1 t 0) = 0 → Q.1 (-12 : Int32) h) ∧ ((h.1 t 0) = 0 → Q.1 (-11 : Int32) h))))))) : zk_R zk_C (zk_lkl lkX8) zk_mt (zk_cxl []) (some .int) (zk_at cdX8_refusalOfPlace) Q [] k 15 0 [some (.retAddr t), some (.int x1)] [] h := H
theorem fcX8_hasPlaces : zk_fc mX8_hasPlaces (zk_lkl lkX8) (zk_at cdX8_hasPlaces) := ⟨lkX8_ok, by decide +kernel, cdX8_hasPlaces_ok⟩
set_option maxRecDepth 100000 in
theorem bX8_hasPlaces_0  {k : zk_K} {Q : zk_Q} {h : zk_H} {t : Nat} {x1 x2 : Int32} (H : ((x1 < 0 → (((0 : Int32) = 0 ∨ (0 : Int32) = 1) ∧ Q.1 (0 : Int32) h)) ∧ (¬ x1 < 0 → ((x2 < 0 → (((0 : Int32) = 0 ∨ (0 : Int32) = 1) ∧ Q.1 (0 : Int32) h)) ∧ (¬ x2 < 0 → (zk_Cs[t]? = some (12, 5) ∧ (((h.1 t 3) < x1 → (((0 : Int32) = 0 ∨ (0 : Int32) = 1) ∧ Q.1 (0 : Int32) h)) ∧ (¬ (h.1 t 3) < x1 → (zk_Cs[t]? = some (12, 5) ∧ ((((h.1 t 3) - x1) < x2 → (((0 : Int32) = 0 ∨ (0 : Int32) = 1) ∧ Q.1 (0 : Int32) h)) ∧ (¬ ((h.1 t 3) - x1) < x2 → (((1 : Int32) = 0 ∨ (1 : Int32) = 1) ∧ Q.1 (1 : Int32) h)))))))))))) : zk_R zk_C (zk_lkl lkX8) zk_mt (zk_cxl []) (some .boolean) (zk_at cdX8_hasPlaces) Q [] k 19 0 [some (.retAddr t), some (.int x1), some (.int x2)] [] h := H
theorem fcX8_lowestBits : zk_fc mX8_lowestBits (zk_lkl lkX8) (zk_at cdX8_lowestBits) := ⟨lkX8_ok, by decide +kernel, cdX8_lowestBits_ok⟩
set_option maxRecDepth 100000 in
theorem bX8_lowestBits_0  {k : zk_K} {Q : zk_Q} {h : zk_H} {t : Nat} {x1 : Int64} (H : (zk_Cs[t]? = some (12, 5) ∧ (((h.1 t 2) = (0 : Int32) → Q.2.1 x1.toInt32.toInt8.toInt32.toInt64 h) ∧ (¬ (h.1 t 2) = (0 : Int32) → (((h.1 t 2) = (1 : Int32) → Q.2.1 x1.toInt32.toInt16.toInt32.toInt64 h) ∧ (¬ (h.1 t 2) = (1 : Int32) → (((h.1 t 2) = (2 : Int32) → Q.2.1 x1.toInt32.toInt64 h) ∧ (¬ (h.1 t 2) = (2 : Int32) → (((h.1 t 2) = (3 : Int32) → Q.2.1 x1 h) ∧ (¬ (h.1 t 2) = (3 : Int32) → (((h.1 t 2) = (4 : Int32) → (((lg_cmp x1 (0 : Int64)) = 0 → Q.2.1 (0 : Int64) h) ∧ (¬ (lg_cmp x1 (0 : Int64)) = 0 → Q.2.1 (1 : Int64) h))) ∧ (¬ (h.1 t 2) = (4 : Int32) → Q.2.1 x1 h)))))))))))) : zk_R zk_C (zk_lkl lkX8) zk_mt (zk_cxl []) (some .long) (zk_at cdX8_lowestBits) Q [] k 12 0 [some (.retAddr t), some (.long x1), none] [] h := H
theorem fcX10_weigh : zk_fc mX10_weigh (zk_lkl lkX10) (zk_at cdX10_weigh) := ⟨lkX10_ok, by decide +kernel, cdX10_weigh_ok⟩
set_option maxRecDepth 100000 in
theorem bX10_weigh_0 {pX4_whoCouldWithSecret : zk_pI} {pX4_whoKnows : zk_pI} {pX10_countFor : zk_pI} {pJ6_bitCount_0f7a4 : zk_pI} {k : zk_K} {Q : zk_Q} {h : zk_H} {x1 : Int32} (H : (vp_in (8 : Int32) 16 ∧ (vp_in x1 8 ∧ ((0 ≤ (h.1 11 x1.toNatClampNeg) → pX4_whoKnows [.ref 1, .int (h.1 11 x1.toNatClampNeg)] h (fun v2 h1 => pJ6_bitCount_0f7a4 [.int v2] h1 (fun v4 h3 => (vp_in (3 : Int32) 6 ∧ (vp_in (9 : Int32) 16 ∧ (vp_in x1 8 ∧ (vp_in (4 : Int32) 6 ∧ (vp_in (5 : Int32) 6 ∧ pX4_whoCouldWithSecret [.ref 1, .int x1, .int (h.1 11 x1.toNatClampNeg)] (zk_si (zk_si (zk_si h3 32 3 v4) 32 4 (h3.1 12 x1.toNatClampNeg)) 32 5 x1) (fun v6 h5 => k 79 [some (.ref 31), some (.int x1), some (.int (h.1 11 x1.toNatClampNeg)), some (.int v6), some (.int (0 : Int32)), some (.int (0 : Int32))] [] h5))))))))) ∧ (¬ 0 ≤ (h.1 11 x1.toNatClampNeg) → (vp_in (3 : Int32) 6 ∧ (vp_in (9 : Int32) 16 ∧ (vp_in x1 8 ∧ (vp_in (4 : Int32) 6 ∧ (vp_in (5 : Int32) 6 ∧ pX4_whoCouldWithSecret [.ref 1, .int x1, .int (h.1 11 x1.toNatClampNeg)] (zk_si (zk_si (zk_si h 32 3 (0 : Int32)) 32 4 (h.1 12 x1.toNatClampNeg)) 32 5 x1) (fun v8 h7 => k 79 [some (.ref 31), some (.int x1), some (.int (h.1 11 x1.toNatClampNeg)), some (.int v8), some (.int (0 : Int32)), some (.int (0 : Int32))] [] h7))))))))))) : zk_R zk_C (zk_lkl lkX10) zk_mt (zk_cxl [(42, zk_iP pX4_whoCouldWithSecret), (45, zk_iP pX4_whoKnows), (93, zk_iP pX10_countFor), (262, zk_iP pJ6_bitCount_0f7a4)]) (some .int) (zk_at cdX10_weigh) Q [79] k 47 0 [some (.ref 31), some (.int x1), none, none, none, none] [] h := H
set_option maxRecDepth 100000 in
theorem bX10_weigh_79 {pX4_whoCouldWithSecret : zk_pI} {pX4_whoKnows : zk_pI} {pX10_countFor : zk_pI} {pJ6_bitCount_0f7a4 : zk_pI} {k : zk_K} {Q : zk_Q} {h : zk_H} {x1 x2 x3 x4 x5 : Int32} (H : (((h.1 1 1) ≤ x5 → Q.1 x4 h) ∧ (¬ (h.1 1 1) ≤ x5 → ((¬ ((x3 >>> (x5 &&& 31)) &&& (1 : Int32)) = 0 → pX10_countFor [.ref 31, .int x1, .int x5] h (fun v2 h1 => (vp_in x5 8 ∧ (vp_in x5 8 ∧ k 79 [some (.ref 31), some (.int x1), some (.int x2), some (.int x3), some (.int (x4 + ((zk_si h1 33 x5.toNatClampNeg v2).1 33 x5.toNatClampNeg))), some (.int (x5 + (1 : Int32)))] [] (zk_si h1 33 x5.toNatClampNeg v2))))) ∧ (((x3 >>> (x5 &&& 31)) &&& (1 : Int32)) = 0 → (vp_in x5 8 ∧ (vp_in x5 8 ∧ k 79 [some (.ref 31), some (.int x1), some (.int x2), some (.int x3), some (.int (x4 + ((zk_si h 33 x5.toNatClampNeg (0 : Int32)).1 33 x5.toNatClampNeg))), some (.int (x5 + (1 : Int32)))] [] (zk_si h 33 x5.toNatClampNeg (0 : Int32))))))))) : zk_R zk_C (zk_lkl lkX10) zk_mt (zk_cxl [(42, zk_iP pX4_whoCouldWithSecret), (45, zk_iP pX4_whoKnows), (93, zk_iP pX10_countFor), (262, zk_iP pJ6_bitCount_0f7a4)]) (some .int) (zk_at cdX10_weigh) Q [79] k 30 79 [some (.ref 31), some (.int x1), some (.int x2), some (.int x3), some (.int x4), some (.int x5)] [] h := H
theorem fcX10_countFor : zk_fc mX10_countFor (zk_lkl lkX10) (zk_at cdX10_countFor) := ⟨lkX10_ok, by decide +kernel, cdX10_countFor_ok⟩
set_option maxRecDepth 100000 in
theorem bX10_countFor_0 {pX3_isTold : zk_pI} {pX3_valueFor : zk_pI} {pX4_likes : zk_pI} {pX10_likenessOfHand : zk_pI} {pX10_valueWithoutLaw : zk_pI} {k : zk_K} {Q : zk_Q} {h : zk_H} {x1 x2 : Int32} (H : (vp_in (13 : Int32) 16 ∧ (vp_in x1 8 ∧ pX4_likes [.ref 1, .int x2, .int (h.1 16 x1.toNatClampNeg)] h (fun v2 h1 => ((v2 = 0 → (vp_in (0 : Int32) 6 ∧ pX10_likenessOfHand [.ref 31, .int x2, .int x1] (zk_si h1 32 0 (0 : Int32)) (fun v4 h3 => (vp_in (1 : Int32) 6 ∧ (vp_in (3 : Int32) 16 ∧ (vp_in x2 8 ∧ (vp_in (2 : Int32) 6 ∧ pX3_isTold [.ref 28] (zk_si (zk_si h3 32 1 v4) 32 2 (h3.1 6 x2.toNatClampNeg)) (fun v6 h5 => ((v6 = 0 → pX10_valueWithoutLaw [.ref 31] h5 (fun v8 h7 => Q.1 (if (0 : Int32) < (if v8 < (99 : Int32) then v8 else (99 : Int32)) then (if v8 < (99 : Int32) then v8 else (99 : Int32)) else (0 : Int32)) h7)) ∧ (¬ v6 = 0 → pX3_valueFor [.ref 28, .ref 32] h5 (fun v10 h9 => Q.1 (if (0 : Int32) < (if v10 < (99 : Int32) then v10 else (99 : Int32)) then (if v10 < (99 : Int32) then v10 else (99 : Int32)) else (0 : Int32)) h9))))))))))) ∧ (¬ v2 = 0 → (vp_in (0 : Int32) 6 ∧ pX10_likenessOfHand [.ref 31, .int x2, .int x1] (zk_si h1 32 0 (1 : Int32)) (fun v12 h11 => (vp_in (1 : Int32) 6 ∧ (vp_in (3 : Int32) 16 ∧ (vp_in x2 8 ∧ (vp_in (2 : Int32) 6 ∧ pX3_isTold [.ref 28] (zk_si (zk_si h11 32 1 v12) 32 2 (h11.1 6 x2.toNatClampNeg)) (fun v14 h13 => ((v14 = 0 → pX10_valueWithoutLaw [.ref 31] h13 (fun v16 h15 => Q.1 (if (0 : Int32) < (if v16 < (99 : Int32) then v16 else (99 : Int32)) then (if v16 < (99 : Int32) then v16 else (99 : Int32)) else (0 : Int32)) h15)) ∧ (¬ v14 = 0 → pX3_valueFor [.ref 28, .ref 32] h13 (fun v18 h17 => Q.1 (if (0 : Int32) < (if v18 < (99 : Int32) then v18 else (99 : Int32)) then (if v18 < (99 : Int32) then v18 else (99 : Int32)) else (0 : Int32)) h17)))))))))))))))) : zk_R zk_C (zk_lkl lkX10) zk_mt (zk_cxl [(21, zk_iP pX3_isTold), (22, zk_iP pX3_valueFor), (37, zk_iP pX4_likes), (94, zk_iP pX10_likenessOfHand), (95, zk_iP pX10_valueWithoutLaw)]) (some .int) (zk_at cdX10_countFor) Q [] k 56 0 [some (.ref 31), some (.int x1), some (.int x2), none] [] h := H
theorem fcX10_likenessOfHand : zk_fc mX10_likenessOfHand (zk_lkl lkX10) (zk_at cdX10_likenessOfHand) := ⟨lkX10_ok, by decide +kernel, cdX10_likenessOfHand_ok⟩
set_option maxRecDepth 100000 in
theorem bX10_likenessOfHand_0  {k : zk_K} {Q : zk_Q} {h : zk_H} {x1 x2 : Int32} (H : (vp_in (7 : Int32) 16 ∧ (vp_in x2 8 ∧ ((0 ≤ (h.1 10 x2.toNatClampNeg) → (vp_in (2 : Int32) 16 ∧ (vp_in x1 8 ∧ ((¬ (h.1 10 x2.toNatClampNeg) = (h.1 5 x1.toNatClampNeg) → Q.1 (0 : Int32) h) ∧ ((h.1 10 x2.toNatClampNeg) = (h.1 5 x1.toNatClampNeg) → Q.1 (2 : Int32) h))))) ∧ (¬ 0 ≤ (h.1 10 x2.toNatClampNeg) → Q.1 (1 : Int32) h))))) : zk_R zk_C (zk_lkl lkX10) zk_mt (zk_cxl []) (some .int) (zk_at cdX10_likenessOfHand) Q [] k 24 0 [some (.ref 31), some (.int x1), some (.int x2), none] [] h := H
theorem fcX10_valueWithoutLaw : zk_fc mX10_valueWithoutLaw (zk_lkl lkX10) (zk_at cdX10_valueWithoutLaw) := ⟨lkX10_ok, by decide +kernel, cdX10_valueWithoutLaw_ok⟩
set_option maxRecDepth 100000 in
theorem bX10_valueWithoutLaw_0  {k : zk_K} {Q : zk_Q} {h : zk_H}  (H : (vp_in (10 : Int32) 16 ∧ (vp_in (0 : Int32) 8 ∧ (vp_in (1 : Int32) 6 ∧ ((¬ (h.1 32 1) = (2 : Int32) → (vp_in (1 : Int32) 6 ∧ ((¬ (h.1 32 1) = (1 : Int32) → (vp_in (0 : Int32) 6 ∧ Q.1 (((1 : Int32) + ((4 : Int32) * (h.1 32 0))) * (h.1 13 0)) h)) ∧ ((h.1 32 1) = (1 : Int32) → (vp_in (0 : Int32) 6 ∧ Q.1 (((1 : Int32) + ((4 : Int32) * (h.1 32 0))) * (12 : Int32)) h))))) ∧ ((h.1 32 1) = (2 : Int32) → (vp_in (0 : Int32) 6 ∧ Q.1 (((1 : Int32) + ((4 : Int32) * (h.1 32 0))) * ((12 : Int32) - (h.1 13 0))) h))))))) : zk_R zk_C (zk_lkl lkX10) zk_mt (zk_cxl []) (some .int) (zk_at cdX10_valueWithoutLaw) Q [] k 36 0 [some (.ref 31), none, none] [] h := H
theorem fcX10_likeliestOf : zk_fc mX10_likeliestOf (zk_lkl lkX10) (zk_at cdX10_likeliestOf) := ⟨lkX10_ok, by decide +kernel, cdX10_likeliestOf_ok⟩
set_option maxRecDepth 100000 in
theorem bX10_likeliestOf_0 {pX10_weigh : zk_pI} {k : zk_K} {Q : zk_Q} {h : zk_H} {x1 x2 : Int32} (H : pX10_weigh [.ref 31, .int x1] h (fun v2 h1 => k 15 [some (.ref 31), some (.int x1), some (.int x2), some (.int (-2 : Int32)), some (.int (0 : Int32)), some (.int (0 : Int32))] [] h1)) : zk_R zk_C (zk_lkl lkX10) zk_mt (zk_cxl [(92, zk_iP pX10_weigh)]) (some .int) (zk_at cdX10_likeliestOf) Q [15] k 12 0 [some (.ref 31), some (.int x1), some (.int x2), none, none, none] [] h := H
set_option maxRecDepth 100000 in
theorem bX10_likeliestOf_15 {pX10_weigh : zk_pI} {k : zk_K} {Q : zk_Q} {h : zk_H} {x1 x2 x3 x4 x5 : Int32} (H : (((h.1 1 1) ≤ x5 → Q.1 x3 h) ∧ (¬ (h.1 1 1) ≤ x5 → ((((x2 >>> (x5 &&& 31)) &&& (1 : Int32)) = 0 → k 15 [some (.ref 31), some (.int x1), some (.int x2), some (.int x3), some (.int x4), some (.int (x5 + (1 : Int32)))] [] h) ∧ (¬ ((x2 >>> (x5 &&& 31)) &&& (1 : Int32)) = 0 → (vp_in x5 8 ∧ (((h.1 33 x5.toNatClampNeg) ≤ x4 → k 15 [some (.ref 31), some (.int x1), some (.int x2), some (.int x3), some (.int x4), some (.int (x5 + (1 : Int32)))] [] h) ∧ (¬ (h.1 33 x5.toNatClampNeg) ≤ x4 → (vp_in x5 8 ∧ k 15 [some (.ref 31), some (.int x1), some (.int x2), some (.int x5), some (.int (h.1 33 x5.toNatClampNeg)), some (.int (x5 + (1 : Int32)))] [] h))))))))) : zk_R zk_C (zk_lkl lkX10) zk_mt (zk_cxl [(92, zk_iP pX10_weigh)]) (some .int) (zk_at cdX10_likeliestOf) Q [15] k 28 15 [some (.ref 31), some (.int x1), some (.int x2), some (.int x3), some (.int x4), some (.int x5)] [] h := H
theorem fcX10_onlyOne : zk_fc mX10_onlyOne (zk_lkl lkX10) (zk_at cdX10_onlyOne) := ⟨lkX10_ok, by decide +kernel, cdX10_onlyOne_ok⟩
set_option maxRecDepth 100000 in
theorem bX10_onlyOne_0 {pX4_everybody : zk_pI} {pX10_likeliestOf : zk_pI} {k : zk_K} {Q : zk_Q} {h : zk_H} {x1 : Int32} (H : pX4_everybody [.ref 1] h (fun v2 h1 => pX10_likeliestOf [.ref 31, .int x1, .int v2] h1 (fun v4 h3 => k 15 [some (.ref 31), some (.int x1), some (.int v4), some (.int (0 : Int32))] [] h3))) : zk_R zk_C (zk_lkl lkX10) zk_mt (zk_cxl [(43, zk_iP pX4_everybody), (96, zk_iP pX10_likeliestOf)]) (some .int) (zk_at cdX10_onlyOne) Q [15] k 11 0 [some (.ref 31), some (.int x1), none, none] [] h := H
set_option maxRecDepth 100000 in
theorem bX10_onlyOne_15 {pX4_everybody : zk_pI} {pX10_likeliestOf : zk_pI} {k : zk_K} {Q : zk_Q} {h : zk_H} {x1 x2 x3 : Int32} (H : (((h.1 1 1) ≤ x3 → Q.1 x2 h) ∧ (¬ (h.1 1 1) ≤ x3 → ((x3 = x2 → k 15 [some (.ref 31), some (.int x1), some (.int x2), some (.int (x3 + (1 : Int32)))] [] h) ∧ (¬ x3 = x2 → (vp_in x3 8 ∧ (((h.1 33 x3.toNatClampNeg) ≤ 0 → k 15 [some (.ref 31), some (.int x1), some (.int x2), some (.int (x3 + (1 : Int32)))] [] h) ∧ (¬ (h.1 33 x3.toNatClampNeg) ≤ 0 → Q.1 (-2 : Int32) h)))))))) : zk_R zk_C (zk_lkl lkX10) zk_mt (zk_cxl [(43, zk_iP pX4_everybody), (96, zk_iP pX10_likeliestOf)]) (some .int) (zk_at cdX10_onlyOne) Q [15] k 17 15 [some (.ref 31), some (.int x1), some (.int x2), some (.int x3)] [] h := H
theorem fcX10_whoCouldAll : zk_fc mX10_whoCouldAll (zk_lkl lkX10) (zk_at cdX10_whoCouldAll) := ⟨lkX10_ok, by decide +kernel, cdX10_whoCouldAll_ok⟩
set_option maxRecDepth 100000 in
theorem bX10_whoCouldAll_0 {pX4_whoCould : zk_pI} {pX4_everybody : zk_pI} {k : zk_K} {Q : zk_Q} {h : zk_H} {x1 : Int32} (H : pX4_everybody [.ref 1] h (fun v2 h1 => k 10 [some (.ref 31), some (.int x1), some (.int v2), some (.int (0 : Int32))] [] h1)) : zk_R zk_C (zk_lkl lkX10) zk_mt (zk_cxl [(41, zk_iP pX4_whoCould), (43, zk_iP pX4_everybody)]) (some .int) (zk_at cdX10_whoCouldAll) Q [10] k 8 0 [some (.ref 31), some (.int x1), none, none] [] h := H
set_option maxRecDepth 100000 in
theorem bX10_whoCouldAll_10 {pX4_whoCould : zk_pI} {pX4_everybody : zk_pI} {k : zk_K} {Q : zk_Q} {h : zk_H} {x1 x2 x3 : Int32} (H : (((h.1 1 2) ≤ x3 → Q.1 x2 h) ∧ (¬ (h.1 1 2) ≤ x3 → ((((x1 >>> (x3 &&& 31)) &&& (1 : Int32)) = 0 → k 10 [some (.ref 31), some (.int x1), some (.int x2), some (.int (x3 + (1 : Int32)))] [] h) ∧ (¬ ((x1 >>> (x3 &&& 31)) &&& (1 : Int32)) = 0 → pX4_whoCould [.ref 1, .int x3] h (fun v2 h1 => k 10 [some (.ref 31), some (.int x1), some (.int (x2 &&& v2)), some (.int (x3 + (1 : Int32)))] [] h1)))))) : zk_R zk_C (zk_lkl lkX10) zk_mt (zk_cxl [(41, zk_iP pX4_whoCould), (43, zk_iP pX4_everybody)]) (some .int) (zk_at cdX10_whoCouldAll) Q [10] k 22 10 [some (.ref 31), some (.int x1), some (.int x2), some (.int x3)] [] h := H
theorem fcX10_fewestHands : zk_fc mX10_fewestHands (zk_lkl lkX10) (zk_at cdX10_fewestHands) := ⟨lkX10_ok, by decide +kernel, cdX10_fewestHands_ok⟩
set_option maxRecDepth 100000 in
theorem bX10_fewestHands_0 {pX4_whoCould : zk_pI} {pX4_everybody : zk_pI} {pX10_couldAllBeBy : zk_pI} {pJ6_bitCount_0f7a4 : zk_pI} {k : zk_K} {Q : zk_Q} {h : zk_H} {x1 : Int32} (H : k 2 [some (.ref 31), some (.int x1), some (.int (0 : Int32)), none, none] [] h) : zk_R zk_C (zk_lkl lkX10) zk_mt (zk_cxl [(41, zk_iP pX4_whoCould), (43, zk_iP pX4_everybody), (100, zk_iP pX10_couldAllBeBy), (262, zk_iP pJ6_bitCount_0f7a4)]) (some .int) (zk_at cdX10_fewestHands) Q [2, 38] k 4 0 [some (.ref 31), some (.int x1), none, none, none] [] h := H
set_option maxRecDepth 100000 in
theorem bX10_fewestHands_2 {pX4_whoCould : zk_pI} {pX4_everybody : zk_pI} {pX10_couldAllBeBy : zk_pI} {pJ6_bitCount_0f7a4 : zk_pI} {k : zk_K} {Q : zk_Q} {h : zk_H} {x1 x2 : Int32} (H : (((h.1 1 2) ≤ x2 → k 38 [some (.ref 31), some (.int x1), some (.int (-2 : Int32)), some (.int (0 : Int32)), none] [] h) ∧ (¬ (h.1 1 2) ≤ x2 → pX4_whoCould [.ref 1, .int x2] h (fun v2 h1 => (vp_in x2 6 ∧ k 2 [some (.ref 31), some (.int x1), some (.int (x2 + (1 : Int32))), none, none] [] (zk_si h1 34 x2.toNatClampNeg v2)))))) : zk_R zk_C (zk_lkl lkX10) zk_mt (zk_cxl [(41, zk_iP pX4_whoCould), (43, zk_iP pX4_everybody), (100, zk_iP pX10_couldAllBeBy), (262, zk_iP pJ6_bitCount_0f7a4)]) (some .int) (zk_at cdX10_fewestHands) Q [2, 38] k 17 2 [some (.ref 31), some (.int x1), some (.int x2), none, none] [] h := H
set_option maxRecDepth 100000 in
theorem bX10_fewestHands_38 {pX4_whoCould : zk_pI} {pX4_everybody : zk_pI} {pX10_couldAllBeBy : zk_pI} {pJ6_bitCount_0f7a4 : zk_pI} {k : zk_K} {Q : zk_Q} {h : zk_H} {x1 x2 x3 : Int32} (H : pX4_everybody [.ref 1] h (fun v2 h1 => ((v2 < x3 → Q.1 x2 h1) ∧ (¬ v2 < x3 → ((x2 = (-2 : Int32) → (((1 : Int32) = 0 → k 38 [some (.ref 31), some (.int x1), some (.int x2), some (.int (x3 + (1 : Int32))), some (.int (1 : Int32))] [] h1) ∧ (¬ (1 : Int32) = 0 → pX10_couldAllBeBy [.ref 31, .int x1, .int x3] h1 (fun v4 h3 => ((v4 = 0 → k 38 [some (.ref 31), some (.int x1), some (.int x2), some (.int (x3 + (1 : Int32))), some (.int (1 : Int32))] [] h3) ∧ (¬ v4 = 0 → k 38 [some (.ref 31), some (.int x1), some (.int x3), some (.int (x3 + (1 : Int32))), some (.int (1 : Int32))] [] h3)))))) ∧ (¬ x2 = (-2 : Int32) → pJ6_bitCount_0f7a4 [.int x3] h1 (fun v6 h5 => pJ6_bitCount_0f7a4 [.int x2] h5 (fun v8 h7 => ((v8 ≤ v6 → (((0 : Int32) = 0 → k 38 [some (.ref 31), some (.int x1), some (.int x2), some (.int (x3 + (1 : Int32))), some (.int (0 : Int32))] [] h7) ∧ (¬ (0 : Int32) = 0 → pX10_couldAllBeBy [.ref 31, .int x1, .int x3] h7 (fun v10 h9 => ((v10 = 0 → k 38 [some (.ref 31), some (.int x1), some (.int x2), some (.int (x3 + (1 : Int32))), some (.int (0 : Int32))] [] h9) ∧ (¬ v10 = 0 → k 38 [some (.ref 31), some (.int x1), some (.int x3), some (.int (x3 + (1 : Int32))), some (.int (0 : Int32))] [] h9)))))) ∧ (¬ v8 ≤ v6 → (((1 : Int32) = 0 → k 38 [some (.ref 31), some (.int x1), some (.int x2), some (.int (x3 + (1 : Int32))), some (.int (1 : Int32))] [] h7) ∧ (¬ (1 : Int32) = 0 → pX10_couldAllBeBy [.ref 31, .int x1, .int x3] h7 (fun v12 h11 => ((v12 = 0 → k 38 [some (.ref 31), some (.int x1), some (.int x2), some (.int (x3 + (1 : Int32))), some (.int (1 : Int32))] [] h11) ∧ (¬ v12 = 0 → k 38 [some (.ref 31), some (.int x1), some (.int x3), some (.int (x3 + (1 : Int32))), some (.int (1 : Int32))] [] h11))))))))))))))) : zk_R zk_C (zk_lkl lkX10) zk_mt (zk_cxl [(41, zk_iP pX4_whoCould), (43, zk_iP pX4_everybody), (100, zk_iP pX10_couldAllBeBy), (262, zk_iP pJ6_bitCount_0f7a4)]) (some .int) (zk_at cdX10_fewestHands) Q [2, 38] k 29 38 [some (.ref 31), some (.int x1), some (.int x2), some (.int x3), none] [] h := H
theorem fcX10_couldAllBeBy : zk_fc mX10_couldAllBeBy (zk_lkl lkX10) (zk_at cdX10_couldAllBeBy) := ⟨lkX10_ok, by decide +kernel, cdX10_couldAllBeBy_ok⟩
set_option maxRecDepth 100000 in
theorem bX10_couldAllBeBy_0  {k : zk_K} {Q : zk_Q} {h : zk_H} {x1 x2 : Int32} (H : k 2 [some (.ref 31), some (.int x1), some (.int x2), some (.int (0 : Int32))] [] h) : zk_R zk_C (zk_lkl lkX10) zk_mt (zk_cxl []) (some .boolean) (zk_at cdX10_couldAllBeBy) Q [2] k 4 0 [some (.ref 31), some (.int x1), some (.int x2), none] [] h := H
set_option maxRecDepth 100000 in
theorem bX10_couldAllBeBy_2  {k : zk_K} {Q : zk_Q} {h : zk_H} {x1 x2 x3 : Int32} (H : (((h.1 1 2) ≤ x3 → (((1 : Int32) = 0 ∨ (1 : Int32) = 1) ∧ Q.1 (1 : Int32) h)) ∧ (¬ (h.1 1 2) ≤ x3 → ((((x1 >>> (x3 &&& 31)) &&& (1 : Int32)) = 0 → k 2 [some (.ref 31), some (.int x1), some (.int x2), some (.int (x3 + (1 : Int32)))] [] h) ∧ (¬ ((x1 >>> (x3 &&& 31)) &&& (1 : Int32)) = 0 → (vp_in x3 6 ∧ ((¬ ((h.1 34 x3.toNatClampNeg) &&& x2) = 0 → k 2 [some (.ref 31), some (.int x1), some (.int x2), some (.int (x3 + (1 : Int32)))] [] h) ∧ (((h.1 34 x3.toNatClampNeg) &&& x2) = 0 → (((0 : Int32) = 0 ∨ (0 : Int32) = 1) ∧ Q.1 (0 : Int32) h))))))))) : zk_R zk_C (zk_lkl lkX10) zk_mt (zk_cxl []) (some .boolean) (zk_at cdX10_couldAllBeBy) Q [2] k 22 2 [some (.ref 31), some (.int x1), some (.int x2), some (.int x3)] [] h := H
theorem fcX10_waysByUnlike : zk_fc mX10_waysByUnlike (zk_lkl lkX10) (zk_at cdX10_waysByUnlike) := ⟨lkX10_ok, by decide +kernel, cdX10_waysByUnlike_ok⟩
set_option maxRecDepth 100000 in
theorem bX10_waysByUnlike_0 {pX4_whoCould : zk_pI} {pX10_addWriter : zk_pI} {pJ7_fill_53178 : zk_pV} {k : zk_K} {Q : zk_Q} {h : zk_H} {x1 : Int32} (H : pJ7_fill_53178 [.ref 35, .int (0 : Int32)] h (fun h1 => (vp_in (0 : Int32) 256 ∧ k 19 [some (.ref 31), some (.int x1), some (.int (1 : Int32)), some (.int (0 : Int32))] [] (zk_si h1 35 0 (1 : Int32))))) : zk_R zk_C (zk_lkl lkX10) zk_mt (zk_cxl [(41, zk_iP pX4_whoCould), (102, zk_iP pX10_addWriter), (272, zk_vP pJ7_fill_53178)]) (some .int) (zk_at cdX10_waysByUnlike) Q [19] k 15 0 [some (.ref 31), some (.int x1), none, none] [] h := H
set_option maxRecDepth 100000 in
theorem bX10_waysByUnlike_19 {pX4_whoCould : zk_pI} {pX10_addWriter : zk_pI} {pJ7_fill_53178 : zk_pV} {k : zk_K} {Q : zk_Q} {h : zk_H} {x1 x2 x3 : Int32} (H : (((h.1 1 2) ≤ x3 → Q.1 x2 h) ∧ (¬ (h.1 1 2) ≤ x3 → ((((x1 >>> (x3 &&& 31)) &&& (1 : Int32)) = 0 → k 19 [some (.ref 31), some (.int x1), some (.int x2), some (.int (x3 + (1 : Int32)))] [] h) ∧ (¬ ((x1 >>> (x3 &&& 31)) &&& (1 : Int32)) = 0 → pX4_whoCould [.ref 1, .int x3] h (fun v2 h1 => pX10_addWriter [.ref 31, .int v2] h1 (fun v4 h3 => k 19 [some (.ref 31), some (.int x1), some (.int v4), some (.int (x3 + (1 : Int32)))] [] h3))))))) : zk_R zk_C (zk_lkl lkX10) zk_mt (zk_cxl [(41, zk_iP pX4_whoCould), (102, zk_iP pX10_addWriter), (272, zk_vP pJ7_fill_53178)]) (some .int) (zk_at cdX10_waysByUnlike) Q [19] k 22 19 [some (.ref 31), some (.int x1), some (.int x2), some (.int x3)] [] h := H
theorem fcX10_addWriter : zk_fc mX10_addWriter (zk_lkl lkX10) (zk_at cdX10_addWriter) := ⟨lkX10_ok, by decide +kernel, cdX10_addWriter_ok⟩
set_option maxRecDepth 100000 in
theorem bX10_addWriter_0 {pX4_everybody : zk_pI} {k : zk_K} {Q : zk_Q} {h : zk_H} {x1 : Int32} (H : pX4_everybody [.ref 1] h (fun v2 h1 => k 10 [some (.ref 31), some (.int x1), some (.int (0 : Int32)), some (.int v2), none, none] [] h1)) : zk_R zk_C (zk_lkl lkX10) zk_mt (zk_cxl [(43, zk_iP pX4_everybody)]) (some .int) (zk_at cdX10_addWriter) Q [10, 20] k 8 0 [some (.ref 31), some (.int x1), none, none, none, none] [] h := H
set_option maxRecDepth 100000 in
theorem bX10_addWriter_10 {pX4_everybody : zk_pI} {k : zk_K} {Q : zk_Q} {h : zk_H} {x1 x2 x3 : Int32} (H : ((x3 < 0 → Q.1 x2 h) ∧ (¬ x3 < 0 → k 20 [some (.ref 31), some (.int x1), some (.int x2), some (.int x3), some (.int (0 : Int32)), some (.int (0 : Int32))] [] h))) : zk_R zk_C (zk_lkl lkX10) zk_mt (zk_cxl [(43, zk_iP pX4_everybody)]) (some .int) (zk_at cdX10_addWriter) Q [10, 20] k 8 10 [some (.ref 31), some (.int x1), some (.int x2), some (.int x3), none, none] [] h := H
set_option maxRecDepth 100000 in
theorem bX10_addWriter_20 {pX4_everybody : zk_pI} {k : zk_K} {Q : zk_Q} {h : zk_H} {x1 x2 x3 x4 x5 : Int32} (H : (((h.1 1 1) ≤ x5 → (vp_in x3 256 ∧ k 10 [some (.ref 31), some (.int x1), some (.int (x2 + x4)), some (.int (x3 + (-1 : Int32))), some (.int x4), some (.int x5)] [] (zk_si h 35 x3.toNatClampNeg x4))) ∧ (¬ (h.1 1 1) ≤ x5 → ((((x3 &&& x1) &&& ((1 : Int32) <<< (x5 &&& 31))) = 0 → k 20 [some (.ref 31), some (.int x1), some (.int x2), some (.int x3), some (.int x4), some (.int (x5 + (1 : Int32)))] [] h) ∧ (¬ ((x3 &&& x1) &&& ((1 : Int32) <<< (x5 &&& 31))) = 0 → (vp_in (x3 ^^^ ((1 : Int32) <<< (x5 &&& 31))) 256 ∧ k 20 [some (.ref 31), some (.int x1), some (.int x2), some (.int x3), some (.int (x4 + (h.1 35 (x3 ^^^ ((1 : Int32) <<< (x5 &&& 31))).toNatClampNeg))), some (.int (x5 + (1 : Int32)))] [] h)))))) : zk_R zk_C (zk_lkl lkX10) zk_mt (zk_cxl [(43, zk_iP pX4_everybody)]) (some .int) (zk_at cdX10_addWriter) Q [10, 20] k 28 20 [some (.ref 31), some (.int x1), some (.int x2), some (.int x3), some (.int x4), some (.int x5)] [] h := H
theorem fcX10_lowestTerms : zk_fc mX10_lowestTerms (zk_lkl lkX10) (zk_at cdX10_lowestTerms) := ⟨lkX10_ok, by decide +kernel, cdX10_lowestTerms_ok⟩
set_option maxRecDepth 100000 in
theorem bX10_lowestTerms_0 {pX10_greatestDivisor : zk_pI} {k : zk_K} {Q : zk_Q} {h : zk_H} {x1 x2 x3 : Int32} (H : pX10_greatestDivisor [.ref 31, .int x1, .int x2] h (fun v2 h1 => ((x2 = 0 → Q.1 x3 h1) ∧ (¬ x2 = 0 → ((¬ v2 = 0 → ((¬ x3 = 0 → (¬ v2 = 0 ∧ Q.1 (x2 / v2) h1)) ∧ (x3 = 0 → (¬ v2 = 0 ∧ Q.1 (x1 / v2) h1)))) ∧ (v2 = 0 → Q.1 x3 h1)))))) : zk_R zk_C (zk_lkl lkX10) zk_mt (zk_cxl [(104, zk_iP pX10_greatestDivisor)]) (some .int) (zk_at cdX10_lowestTerms) Q [] k 18 0 [some (.ref 31), some (.int x1), some (.int x2), some (.int x3), none] [] h := H
theorem fcX10_greatestDivisor : zk_fc mX10_greatestDivisor (zk_lkl lkX10) (zk_at cdX10_greatestDivisor) := ⟨lkX10_ok, by decide +kernel, cdX10_greatestDivisor_ok⟩
set_option maxRecDepth 100000 in
theorem bX10_greatestDivisor_0  {k : zk_K} {Q : zk_Q} {h : zk_H} {x1 x2 : Int32} (H : k 8 [some (.ref 31), some (.int x1), some (.int x2), some (.int x1), some (.int x2), some (.int (0 : Int32)), none] [] h) : zk_R zk_C (zk_lkl lkX10) zk_mt (zk_cxl []) (some .int) (zk_at cdX10_greatestDivisor) Q [8] k 8 0 [some (.ref 31), some (.int x1), some (.int x2), none, none, none, none] [] h := H
set_option maxRecDepth 100000 in
theorem bX10_greatestDivisor_8  {k : zk_K} {Q : zk_Q} {h : zk_H} {x1 x2 x3 x4 x5 : Int32} (H : (((64 : Int32) ≤ x5 → Q.1 x3 h) ∧ (¬ (64 : Int32) ≤ x5 → ((x4 = 0 → Q.1 x3 h) ∧ (¬ x4 = 0 → (¬ x4 = 0 ∧ k 8 [some (.ref 31), some (.int x1), some (.int x2), some (.int x4), some (.int (x3 - x3 / x4 * x4)), some (.int (x5 + (1 : Int32))), some (.int (x3 - x3 / x4 * x4))] [] h)))))) : zk_R zk_C (zk_lkl lkX10) zk_mt (zk_cxl []) (some .int) (zk_at cdX10_greatestDivisor) Q [8] k 17 8 [some (.ref 31), some (.int x1), some (.int x2), some (.int x3), some (.int x4), some (.int x5), none] [] h := H
theorem fcX11_person : zk_fc mX11_person (zk_lkl lkX11) (zk_at cdX11_person) := ⟨lkX11_ok, by decide +kernel, cdX11_person_ok⟩
set_option maxRecDepth 100000 in
theorem bX11_person_0 {pX4_fits : zk_pI} {pX4_addPerson : zk_pI} {k : zk_K} {Q : zk_Q} {h : zk_H} {x1 : Int32} (H : pX4_fits [.ref 1, .int (2 : Int32), .int x1] h (fun v2 h1 => ((¬ v2 = 0 → (((h1.1 1 1) < (8 : Int32) → pX4_addPerson [.ref 1, .int x1, .int (0 : Int32), .int (0 : Int32)] h1 (fun v4 h3 => Q.1 v4 h3)) ∧ (¬ (h1.1 1 1) < (8 : Int32) → Q.1 (-3 : Int32) h1))) ∧ (v2 = 0 → Q.1 (-1 : Int32) h1)))) : zk_R zk_C (zk_lkl lkX11) zk_mt (zk_cxl [(33, zk_iP pX4_fits), (34, zk_iP pX4_addPerson)]) (some .int) (zk_at cdX11_person) Q [] k 20 0 [some (.ref 0), some (.int x1)] [] h := H
theorem fcX11_people : zk_fc mX11_people (zk_lkl lkX11) (zk_at cdX11_people) := ⟨lkX11_ok, by decide +kernel, cdX11_people_ok⟩
set_option maxRecDepth 100000 in
theorem bX11_people_0 {pX11_shelfAt : zk_pR} {k : zk_K} {Q : zk_Q} {h : zk_H} {x1 x2 x3 : Int32} (H : pX11_shelfAt [.ref 0, .int x1] h (fun v2 h1 => k 5 [some (.ref 0), some (.int x1), some (.int x2), some (.int x3), none] [v2] h1)) : zk_R zk_C (zk_lkl lkX11) zk_mt (zk_cxl [(151, zk_rP pX11_shelfAt)]) (some .int) (zk_at cdX11_people) Q [5] k 5 0 [some (.ref 0), some (.int x1), some (.int x2), some (.int x3), none] [] h := H
theorem fcX11_card : zk_fc mX11_card (zk_lkl lkX11) (zk_at cdX11_card) := ⟨lkX11_ok, by decide +kernel, cdX11_card_ok⟩
set_option maxRecDepth 100000 in
theorem bX11_card_0 {pX4_isPerson : zk_pI} {pX4_isWay : zk_pI} {pX4_addCard : zk_pI} {k : zk_K} {Q : zk_Q} {h : zk_H} {x1 x2 : Int32} (H : ((x1 < 0 → Q.1 (-1 : Int32) h) ∧ (¬ x1 < 0 → (¬ (100 : Int32) = 0 ∧ pX4_isPerson [.ref 1, .int (x1 / (100 : Int32))] h (fun v2 h1 => ((v2 = 0 → Q.1 (-1 : Int32) h1) ∧ (¬ v2 = 0 → pX4_isWay [.ref 1, .int x2] h1 (fun v4 h3 => ((¬ v4 = 0 → (((h3.1 1 2) < (6 : Int32) → (¬ (100 : Int32) = 0 ∧ (¬ (100 : Int32) = 0 ∧ pX4_addCard [.ref 1, .int (x1 / (100 : Int32)), .int (x1 - x1 / (100 : Int32) * (100 : Int32)), .int x2] h3 (fun v6 h5 => Q.1 v6 h5)))) ∧ (¬ (h3.1 1 2) < (6 : Int32) → Q.1 (-3 : Int32) h3))) ∧ (v4 = 0 → Q.1 (-1 : Int32) h3)))))))))) : zk_R zk_C (zk_lkl lkX11) zk_mt (zk_cxl [(25, zk_iP pX4_isPerson), (31, zk_iP pX4_isWay), (35, zk_iP pX4_addCard)]) (some .int) (zk_at cdX11_card) Q [] k 32 0 [some (.ref 0), some (.int x1), some (.int x2)] [] h := H
theorem fcX11_mend : zk_fc mX11_mend (zk_lkl lkX11) (zk_at cdX11_mend) := ⟨lkX11_ok, by decide +kernel, cdX11_mend_ok⟩
set_option maxRecDepth 100000 in
theorem bX11_mend_0 {pX1_make : zk_pV} {pX4_has : zk_pI} {pX4_fits : zk_pI} {k : zk_K} {Q : zk_Q} {h : zk_H} {x1 x2 x3 : Int32} (H : (((12 : Int32) < x2 → Q.1 (-2000000000 : Int32) h) ∧ (¬ (12 : Int32) < x2 → pX4_has [.ref 1, .int x1, .int x2] h (fun v2 h1 => ((v2 = 0 → Q.1 (-2000000000 : Int32) h1) ∧ (¬ v2 = 0 → pX4_fits [.ref 1, .int x2, .int x3] h1 (fun v4 h3 => ((¬ v4 = 0 → (vp_in x2 16 ∧ ∃ b5, zk_C.2 2 x2.toNatClampNeg = some b5 ∧ (∃ n6, zk_Cs[b5]? = some (0, n6) ∧ (vp_in x1 n6 ∧ (((h3.1 b5 x1.toNatClampNeg) = x3 → Q.1 (h3.1 b5 x1.toNatClampNeg) h3) ∧ (¬ (h3.1 b5 x1.toNatClampNeg) = x3 → pX1_make [.ref 19, .int x1, .int x2, .int x3] h3 (fun h7 => Q.1 (h3.1 b5 x1.toNatClampNeg) h7))))))) ∧ (v4 = 0 → Q.1 (-2000000000 : Int32) h3))))))))) : zk_R zk_C (zk_lkl lkX11) zk_mt (zk_cxl [(10, zk_vP pX1_make), (32, zk_iP pX4_has), (33, zk_iP pX4_fits)]) (some .int) (zk_at cdX11_mend) Q [] k 36 0 [some (.ref 0), some (.int x1), some (.int x2), some (.int x3), none] [] h := H
theorem fcX11_of : zk_fc mX11_of (zk_lkl lkX11) (zk_at cdX11_of) := ⟨lkX11_ok, by decide +kernel, cdX11_of_ok⟩
set_option maxRecDepth 100000 in
theorem bX11_of_0 {pX4_has : zk_pI} {k : zk_K} {Q : zk_Q} {h : zk_H} {x1 x2 : Int32} (H : pX4_has [.ref 1, .int x1, .int x2] h (fun v2 h1 => ((v2 = 0 → Q.1 (-2000000000 : Int32) h1) ∧ (¬ v2 = 0 → (vp_in x2 16 ∧ ∃ b3, zk_C.2 2 x2.toNatClampNeg = some b3 ∧ (∃ n4, zk_Cs[b3]? = some (0, n4) ∧ (vp_in x1 n4 ∧ Q.1 (h1.1 b3 x1.toNatClampNeg) h1))))))) : zk_R zk_C (zk_lkl lkX11) zk_mt (zk_cxl [(32, zk_iP pX4_has)]) (some .int) (zk_at cdX11_of) Q [] k 17 0 [some (.ref 0), some (.int x1), some (.int x2)] [] h := H
theorem fcX11_feed : zk_fc mX11_feed (zk_lkl lkX11) (zk_at cdX11_feed) := ⟨lkX11_ok, by decide +kernel, cdX11_feed_ok⟩
set_option maxRecDepth 100000 in
theorem bX11_feed_0 {pX5_takeLetter : zk_pI} {k : zk_K} {Q : zk_Q} {h : zk_H} {x1 : Int32} (H : ((x1 < 0 → Q.1 (-1 : Int32) h) ∧ (¬ x1 < 0 → ((x1 ≤ (255 : Int32) → (((h.1 24 1) < (120 : Int32) → pX5_takeLetter [.ref 24, .int x1] h (fun v2 h1 => Q.1 v2 h1)) ∧ (¬ (h.1 24 1) < (120 : Int32) → Q.1 (-3 : Int32) h))) ∧ (¬ x1 ≤ (255 : Int32) → Q.1 (-1 : Int32) h))))) : zk_R zk_C (zk_lkl lkX11) zk_mt (zk_cxl [(49, zk_iP pX5_takeLetter)]) (some .int) (zk_at cdX11_feed) Q [] k 17 0 [some (.ref 0), some (.int x1)] [] h := H
theorem fcX11_law : zk_fc mX11_law (zk_lkl lkX11) (zk_at cdX11_law) := ⟨lkX11_ok, by decide +kernel, cdX11_law_ok⟩
set_option maxRecDepth 100000 in
theorem bX11_law_0 {pX3_adopt : zk_pV} {pX5_parseTape : zk_pI} {k : zk_K} {Q : zk_Q} {h : zk_H}  (H : pX5_parseTape [.ref 24] h (fun v2 h1 => ((v2 < 0 → pX3_adopt [.ref 28, .ref 26, .int (h1.1 24 3)] h1 (fun h3 => Q.1 (1 : Int32) h3)) ∧ (¬ v2 < 0 → Q.1 ((-100 : Int32) - v2) h1)))) : zk_R zk_C (zk_lkl lkX11) zk_mt (zk_cxl [(20, zk_vP pX3_adopt), (50, zk_iP pX5_parseTape)]) (some .int) (zk_at cdX11_law) Q [] k 19 0 [some (.ref 0), none] [] h := H
theorem fcX11_could : zk_fc mX11_could (zk_lkl lkX11) (zk_at cdX11_could) := ⟨lkX11_ok, by decide +kernel, cdX11_could_ok⟩
set_option maxRecDepth 100000 in
theorem bX11_could_0 {pX4_isCard : zk_pI} {pX4_whoCould : zk_pI} {k : zk_K} {Q : zk_Q} {h : zk_H} {x1 : Int32} (H : pX4_isCard [.ref 1, .int x1] h (fun v2 h1 => ((v2 = 0 → Q.1 (-1 : Int32) h1) ∧ (¬ v2 = 0 → pX4_whoCould [.ref 1, .int x1] h1 (fun v4 h3 => Q.1 v4 h3))))) : zk_R zk_C (zk_lkl lkX11) zk_mt (zk_cxl [(26, zk_iP pX4_isCard), (41, zk_iP pX4_whoCould)]) (some .int) (zk_at cdX11_could) Q [] k 13 0 [some (.ref 0), some (.int x1)] [] h := H
theorem fcX11_counts : zk_fc mX11_counts (zk_lkl lkX11) (zk_at cdX11_counts) := ⟨lkX11_ok, by decide +kernel, cdX11_counts_ok⟩
set_option maxRecDepth 100000 in
theorem bX11_counts_0 {pX4_isCardAndPerson : zk_pI} {pX10_weigh : zk_pI} {k : zk_K} {Q : zk_Q} {h : zk_H} {x1 : Int32} (H : pX4_isCardAndPerson [.ref 1, .int x1] h (fun v2 h1 => ((¬ v2 = 0 → (¬ (10 : Int32) = 0 ∧ pX10_weigh [.ref 31, .int (x1 / (10 : Int32))] h1 (fun v4 h3 => (¬ (10 : Int32) = 0 ∧ (vp_in (x1 - x1 / (10 : Int32) * (10 : Int32)) 8 ∧ Q.1 (h3.1 33 (x1 - x1 / (10 : Int32) * (10 : Int32)).toNatClampNeg) h3))))) ∧ (v2 = 0 → Q.1 (-1 : Int32) h1)))) : zk_R zk_C (zk_lkl lkX11) zk_mt (zk_cxl [(29, zk_iP pX4_isCardAndPerson), (92, zk_iP pX10_weigh)]) (some .int) (zk_at cdX11_counts) Q [] k 22 0 [some (.ref 0), some (.int x1)] [] h := H
theorem fcX11_likely : zk_fc mX11_likely (zk_lkl lkX11) (zk_at cdX11_likely) := ⟨lkX11_ok, by decide +kernel, cdX11_likely_ok⟩
set_option maxRecDepth 100000 in
theorem bX11_likely_0 {pX4_isCardAndPerson : zk_pI} {pX10_weigh : zk_pI} {pX10_lowestTerms : zk_pI} {pX11_isZeroOrOne : zk_pI} {k : zk_K} {Q : zk_Q} {h : zk_H} {x1 x2 : Int32} (H : pX4_isCardAndPerson [.ref 1, .int x1] h (fun v2 h1 => ((v2 = 0 → Q.2.1 (-9223372036854775808 : Int64) h1) ∧ (¬ v2 = 0 → pX11_isZeroOrOne [.int x2] h1 (fun v4 h3 => ((¬ v4 = 0 → (¬ (10 : Int32) = 0 ∧ pX10_weigh [.ref 31, .int (x1 / (10 : Int32))] h3 (fun v6 h5 => (¬ (10 : Int32) = 0 ∧ (vp_in (x1 - x1 / (10 : Int32) * (10 : Int32)) 8 ∧ pX10_lowestTerms [.ref 31, .int (h5.1 33 (x1 - x1 / (10 : Int32) * (10 : Int32)).toNatClampNeg), .int v6, .int x2] h5 (fun v8 h7 => Q.2.1 v8.toInt64 h7)))))) ∧ (v4 = 0 → Q.2.1 (-9223372036854775808 : Int64) h3))))))) : zk_R zk_C (zk_lkl lkX11) zk_mt (zk_cxl [(29, zk_iP pX4_isCardAndPerson), (92, zk_iP pX10_weigh), (103, zk_iP pX10_lowestTerms), (152, zk_iP pX11_isZeroOrOne)]) (some .long) (zk_at cdX11_likely) Q [] k 31 0 [some (.ref 0), some (.int x1), some (.int x2), none] [] h := H
theorem fcX11_likeliest : zk_fc mX11_likeliest (zk_lkl lkX11) (zk_at cdX11_likeliest) := ⟨lkX11_ok, by decide +kernel, cdX11_likeliest_ok⟩
set_option maxRecDepth 100000 in
theorem bX11_likeliest_0 {pX4_isCard : zk_pI} {pX4_everybody : zk_pI} {pX10_likeliestOf : zk_pI} {pX10_onlyOne : zk_pI} {pX11_isZeroOrOne : zk_pI} {k : zk_K} {Q : zk_Q} {h : zk_H} {x1 x2 : Int32} (H : pX4_isCard [.ref 1, .int x1] h (fun v2 h1 => ((v2 = 0 → Q.1 (-1 : Int32) h1) ∧ (¬ v2 = 0 → pX11_isZeroOrOne [.int x2] h1 (fun v4 h3 => ((¬ v4 = 0 → ((¬ x2 = 0 → pX10_onlyOne [.ref 31, .int x1] h3 (fun v6 h5 => Q.1 v6 h5)) ∧ (x2 = 0 → pX4_everybody [.ref 1] h3 (fun v8 h7 => pX10_likeliestOf [.ref 31, .int x1, .int v8] h7 (fun v10 h9 => Q.1 v10 h9))))) ∧ (v4 = 0 → Q.1 (-1 : Int32) h3))))))) : zk_R zk_C (zk_lkl lkX11) zk_mt (zk_cxl [(26, zk_iP pX4_isCard), (43, zk_iP pX4_everybody), (96, zk_iP pX10_likeliestOf), (97, zk_iP pX10_onlyOne), (152, zk_iP pX11_isZeroOrOne)]) (some .int) (zk_at cdX11_likeliest) Q [] k 21 0 [some (.ref 0), some (.int x1), some (.int x2)] [] h := H
theorem fcX11_allByOne : zk_fc mX11_allByOne (zk_lkl lkX11) (zk_at cdX11_allByOne) := ⟨lkX11_ok, by decide +kernel, cdX11_allByOne_ok⟩
set_option maxRecDepth 100000 in
theorem bX11_allByOne_0 {pX4_isSet : zk_pI} {pX10_whoCouldAll : zk_pI} {k : zk_K} {Q : zk_Q} {h : zk_H} {x1 : Int32} (H : pX4_isSet [.ref 1, .int x1] h (fun v2 h1 => ((v2 = 0 → Q.1 (-1 : Int32) h1) ∧ (¬ v2 = 0 → pX10_whoCouldAll [.ref 31, .int x1] h1 (fun v4 h3 => Q.1 v4 h3))))) : zk_R zk_C (zk_lkl lkX11) zk_mt (zk_cxl [(28, zk_iP pX4_isSet), (98, zk_iP pX10_whoCouldAll)]) (some .int) (zk_at cdX11_allByOne) Q [] k 13 0 [some (.ref 0), some (.int x1)] [] h := H
theorem fcX11_hands : zk_fc mX11_hands (zk_lkl lkX11) (zk_at cdX11_hands) := ⟨lkX11_ok, by decide +kernel, cdX11_hands_ok⟩
set_option maxRecDepth 100000 in
theorem bX11_hands_0 {pX4_isSet : zk_pI} {pX10_fewestHands : zk_pI} {pX11_isZeroOrOne : zk_pI} {pJ6_bitCount_0f7a4 : zk_pI} {k : zk_K} {Q : zk_Q} {h : zk_H} {x1 x2 : Int32} (H : pX4_isSet [.ref 1, .int x1] h (fun v2 h1 => ((v2 = 0 → Q.1 (-1 : Int32) h1) ∧ (¬ v2 = 0 → pX11_isZeroOrOne [.int x2] h1 (fun v4 h3 => ((¬ v4 = 0 → pX10_fewestHands [.ref 31, .int x1] h3 (fun v6 h5 => ((v6 = (-2 : Int32) → Q.1 v6 h5) ∧ (¬ v6 = (-2 : Int32) → ((¬ x2 = (1 : Int32) → pJ6_bitCount_0f7a4 [.int v6] h5 (fun v8 h7 => Q.1 v8 h7)) ∧ (x2 = (1 : Int32) → Q.1 v6 h5)))))) ∧ (v4 = 0 → Q.1 (-1 : Int32) h3))))))) : zk_R zk_C (zk_lkl lkX11) zk_mt (zk_cxl [(28, zk_iP pX4_isSet), (99, zk_iP pX10_fewestHands), (152, zk_iP pX11_isZeroOrOne), (262, zk_iP pJ6_bitCount_0f7a4)]) (some .int) (zk_at cdX11_hands) Q [] k 24 0 [some (.ref 0), some (.int x1), some (.int x2), none] [] h := H
theorem fcX11_unlike : zk_fc mX11_unlike (zk_lkl lkX11) (zk_at cdX11_unlike) := ⟨lkX11_ok, by decide +kernel, cdX11_unlike_ok⟩
set_option maxRecDepth 100000 in
theorem bX11_unlike_0 {pX4_isSet : zk_pI} {pX10_waysByUnlike : zk_pI} {k : zk_K} {Q : zk_Q} {h : zk_H} {x1 : Int32} (H : pX4_isSet [.ref 1, .int x1] h (fun v2 h1 => ((v2 = 0 → Q.1 (-1 : Int32) h1) ∧ (¬ v2 = 0 → pX10_waysByUnlike [.ref 31, .int x1] h1 (fun v4 h3 => Q.1 v4 h3))))) : zk_R zk_C (zk_lkl lkX11) zk_mt (zk_cxl [(28, zk_iP pX4_isSet), (101, zk_iP pX10_waysByUnlike)]) (some .int) (zk_at cdX11_unlike) Q [] k 13 0 [some (.ref 0), some (.int x1)] [] h := H
theorem fcX11_evenings : zk_fc mX11_evenings (zk_lkl lkX11) (zk_at cdX11_evenings) := ⟨lkX11_ok, by decide +kernel, cdX11_evenings_ok⟩
set_option maxRecDepth 100000 in
theorem bX11_evenings_0 {pX4_isSecret : zk_pI} {pX4_whoKnowsAfter : zk_pI} {k : zk_K} {Q : zk_Q} {h : zk_H} {x1 x2 : Int32} (H : pX4_isSecret [.ref 1, .int x1] h (fun v2 h1 => ((v2 = 0 → Q.1 (-1 : Int32) h1) ∧ (¬ v2 = 0 → ((x2 < 0 → Q.1 (-1 : Int32) h1) ∧ (¬ x2 < 0 → ((x2 ≤ (9 : Int32) → pX4_whoKnowsAfter [.ref 1, .int x1, .int x2] h1 (fun v4 h3 => Q.1 v4 h3)) ∧ (¬ x2 ≤ (9 : Int32) → Q.1 (-1 : Int32) h1)))))))) : zk_R zk_C (zk_lkl lkX11) zk_mt (zk_cxl [(27, zk_iP pX4_isSecret), (46, zk_iP pX4_whoKnowsAfter)]) (some .int) (zk_at cdX11_evenings) Q [] k 18 0 [some (.ref 0), some (.int x1), some (.int x2)] [] h := H
theorem fcX11_hears : zk_fc mX11_hears (zk_lkl lkX11) (zk_at cdX11_hears) := ⟨lkX11_ok, by decide +kernel, cdX11_hears_ok⟩
set_option maxRecDepth 100000 in
theorem bX11_hears_0 {pX4_isPerson : zk_pI} {pX4_isSecret : zk_pI} {pX4_eveningOfHearing : zk_pI} {k : zk_K} {Q : zk_Q} {h : zk_H} {x1 x2 : Int32} (H : pX4_isSecret [.ref 1, .int x1] h (fun v2 h1 => ((v2 = 0 → Q.1 (-1 : Int32) h1) ∧ (¬ v2 = 0 → pX4_isPerson [.ref 1, .int x2] h1 (fun v4 h3 => ((¬ v4 = 0 → pX4_eveningOfHearing [.ref 1, .int x1, .int x2] h3 (fun v6 h5 => Q.1 v6 h5)) ∧ (v4 = 0 → Q.1 (-1 : Int32) h3))))))) : zk_R zk_C (zk_lkl lkX11) zk_mt (zk_cxl [(25, zk_iP pX4_isPerson), (27, zk_iP pX4_isSecret), (47, zk_iP pX4_eveningOfHearing)]) (some .int) (zk_at cdX11_hears) Q [] k 18 0 [some (.ref 0), some (.int x1), some (.int x2)] [] h := H
theorem fcX11_ask : zk_fc mX11_ask (zk_lkl lkX11) (zk_at cdX11_ask) := ⟨lkX11_ok, by decide +kernel, cdX11_ask_ok⟩
set_option maxRecDepth 100000 in
theorem bX11_ask_0 {pX4_isCard : zk_pI} {pX6_bestQuestion : zk_pI} {pX11_isZeroOrOne : zk_pI} {k : zk_K} {Q : zk_Q} {h : zk_H} {x1 x2 : Int32} (H : pX4_isCard [.ref 1, .int x1] h (fun v2 h1 => ((v2 = 0 → Q.1 (-1 : Int32) h1) ∧ (¬ v2 = 0 → pX11_isZeroOrOne [.int x2] h1 (fun v4 h3 => ((¬ v4 = 0 → pX6_bestQuestion [.ref 36, .int x1, .int x2] h3 (fun v6 h5 => Q.1 v6 h5)) ∧ (v4 = 0 → Q.1 (-1 : Int32) h3))))))) : zk_R zk_C (zk_lkl lkX11) zk_mt (zk_cxl [(26, zk_iP pX4_isCard), (64, zk_iP pX6_bestQuestion), (152, zk_iP pX11_isZeroOrOne)]) (some .int) (zk_at cdX11_ask) Q [] k 16 0 [some (.ref 0), some (.int x1), some (.int x2)] [] h := H
theorem fcX11_worth : zk_fc mX11_worth (zk_lkl lkX11) (zk_at cdX11_worth) := ⟨lkX11_ok, by decide +kernel, cdX11_worth_ok⟩
set_option maxRecDepth 100000 in
theorem bX11_worth_0 {pX4_isCardAndPerson : zk_pI} {pX6_worthOfThanking : zk_pI} {pX10_weigh : zk_pI} {k : zk_K} {Q : zk_Q} {h : zk_H} {x1 : Int32} (H : pX4_isCardAndPerson [.ref 1, .int x1] h (fun v2 h1 => ((¬ v2 = 0 → (¬ (10 : Int32) = 0 ∧ pX10_weigh [.ref 31, .int (x1 / (10 : Int32))] h1 (fun v4 h3 => (¬ (10 : Int32) = 0 ∧ pX6_worthOfThanking [.ref 36, .int (x1 - x1 / (10 : Int32) * (10 : Int32)), .int v4] h3 (fun v6 h5 => Q.1 v6 h5))))) ∧ (v2 = 0 → Q.1 (-2000000000 : Int32) h1)))) : zk_R zk_C (zk_lkl lkX11) zk_mt (zk_cxl [(29, zk_iP pX4_isCardAndPerson), (67, zk_iP pX6_worthOfThanking), (92, zk_iP pX10_weigh)]) (some .int) (zk_at cdX11_worth) Q [] k 22 0 [some (.ref 0), some (.int x1), none] [] h := H
theorem fcX11_thank : zk_fc mX11_thank (zk_lkl lkX11) (zk_at cdX11_thank) := ⟨lkX11_ok, by decide +kernel, cdX11_thank_ok⟩
set_option maxRecDepth 100000 in
theorem bX11_thank_0 {pX4_isCard : zk_pI} {pX6_whomToThank : zk_pI} {k : zk_K} {Q : zk_Q} {h : zk_H} {x1 : Int32} (H : pX4_isCard [.ref 1, .int x1] h (fun v2 h1 => ((v2 = 0 → Q.1 (-1 : Int32) h1) ∧ (¬ v2 = 0 → pX6_whomToThank [.ref 36, .int x1] h1 (fun v4 h3 => Q.1 v4 h3))))) : zk_R zk_C (zk_lkl lkX11) zk_mt (zk_cxl [(26, zk_iP pX4_isCard), (68, zk_iP pX6_whomToThank)]) (some .int) (zk_at cdX11_thank) Q [] k 13 0 [some (.ref 0), some (.int x1)] [] h := H
theorem fcX11_next : zk_fc mX11_next (zk_lkl lkX11) (zk_at cdX11_next) := ⟨lkX11_ok, by decide +kernel, cdX11_next_ok⟩
set_option maxRecDepth 100000 in
theorem bX11_next_0 {pX4_isCard : zk_pI} {pX6_tellingSecret : zk_pI} {pX11_isZeroOrOne : zk_pI} {k : zk_K} {Q : zk_Q} {h : zk_H} {x1 x2 : Int32} (H : pX4_isCard [.ref 1, .int x1] h (fun v2 h1 => ((v2 = 0 → Q.1 (-1 : Int32) h1) ∧ (¬ v2 = 0 → pX11_isZeroOrOne [.int x2] h1 (fun v4 h3 => ((¬ v4 = 0 → pX6_tellingSecret [.ref 36, .int x1, .int x2] h3 (fun v6 h5 => Q.1 v6 h5)) ∧ (v4 = 0 → Q.1 (-1 : Int32) h3))))))) : zk_R zk_C (zk_lkl lkX11) zk_mt (zk_cxl [(26, zk_iP pX4_isCard), (69, zk_iP pX6_tellingSecret), (152, zk_iP pX11_isZeroOrOne)]) (some .int) (zk_at cdX11_next) Q [] k 16 0 [some (.ref 0), some (.int x1), some (.int x2)] [] h := H
theorem fcX11_write : zk_fc mX11_write (zk_lkl lkX11) (zk_at cdX11_write) := ⟨lkX11_ok, by decide +kernel, cdX11_write_ok⟩
set_option maxRecDepth 100000 in
theorem bX11_write_0 {pX4_isTwoPeople : zk_pI} {pX4_fits : zk_pI} {pX6_seekWay : zk_pV} {pX11_isZeroOrOne : zk_pI} {k : zk_K} {Q : zk_Q} {h : zk_H} {x1 x2 x3 : Int32} (H : pX4_isTwoPeople [.ref 1, .int x1] h (fun v2 h1 => ((v2 = 0 → Q.1 (-1 : Int32) h1) ∧ (¬ v2 = 0 → pX4_fits [.ref 1, .int (6 : Int32), .int x2] h1 (fun v4 h3 => ((v4 = 0 → Q.1 (-1 : Int32) h3) ∧ (¬ v4 = 0 → pX11_isZeroOrOne [.int x3] h3 (fun v6 h5 => ((¬ v6 = 0 → (¬ (10 : Int32) = 0 ∧ (¬ (10 : Int32) = 0 ∧ pX6_seekWay [.ref 36, .int (x1 / (10 : Int32)), .int (x1 - x1 / (10 : Int32) * (10 : Int32)), .int x2, .int x3] h5 (fun h7 => Q.1 (h7.1 36 3) h7)))) ∧ (v6 = 0 → Q.1 (-1 : Int32) h5)))))))))) : zk_R zk_C (zk_lkl lkX11) zk_mt (zk_cxl [(30, zk_iP pX4_isTwoPeople), (33, zk_iP pX4_fits), (70, zk_vP pX6_seekWay), (152, zk_iP pX11_isZeroOrOne)]) (some .int) (zk_at cdX11_write) Q [] k 31 0 [some (.ref 0), some (.int x1), some (.int x2), some (.int x3)] [] h := H
theorem fcX11_written : zk_fc mX11_written (zk_lkl lkX11) (zk_at cdX11_written) := ⟨lkX11_ok, by decide +kernel, cdX11_written_ok⟩
set_option maxRecDepth 100000 in
theorem bX11_written_0 {pX4_isTwoPeople : zk_pI} {pX4_fits : zk_pI} {pX6_seekWay : zk_pV} {pX10_lowestTerms : zk_pI} {pX11_isZeroOrOne : zk_pI} {k : zk_K} {Q : zk_Q} {h : zk_H} {x1 x2 x3 : Int32} (H : ((x3 < 0 → pX4_isTwoPeople [.ref 1, .int x1] h (fun v2 h1 => ((v2 = 0 → Q.2.1 (-9223372036854775808 : Int64) h1) ∧ (¬ v2 = 0 → pX4_fits [.ref 1, .int (6 : Int32), .int x2] h1 (fun v4 h3 => ((v4 = 0 → Q.2.1 (-9223372036854775808 : Int64) h3) ∧ (¬ v4 = 0 → ((¬ (0 : Int32) = 0 → (¬ (10 : Int32) = 0 ∧ (¬ (10 : Int32) = 0 ∧ (¬ (10 : Int32) = 0 ∧ pX6_seekWay [.ref 36, .int (x1 / (10 : Int32)), .int (x1 - x1 / (10 : Int32) * (10 : Int32)), .int x2, .int (x3 / (10 : Int32))] h3 (fun h5 => (¬ (10 : Int32) = 0 ∧ pX10_lowestTerms [.ref 31, .int (h5.1 36 4), .int (h5.1 36 5), .int (x3 - x3 / (10 : Int32) * (10 : Int32))] h5 (fun v7 h6 => Q.2.1 v7.toInt64 h6))))))) ∧ ((0 : Int32) = 0 → Q.2.1 (-9223372036854775808 : Int64) h3))))))))) ∧ (¬ x3 < 0 → (¬ (10 : Int32) = 0 ∧ pX11_isZeroOrOne [.int (x3 / (10 : Int32))] h (fun v9 h8 => ((v9 = 0 → pX4_isTwoPeople [.ref 1, .int x1] h8 (fun v11 h10 => ((v11 = 0 → Q.2.1 (-9223372036854775808 : Int64) h10) ∧ (¬ v11 = 0 → pX4_fits [.ref 1, .int (6 : Int32), .int x2] h10 (fun v13 h12 => ((v13 = 0 → Q.2.1 (-9223372036854775808 : Int64) h12) ∧ (¬ v13 = 0 → ((¬ (0 : Int32) = 0 → (¬ (10 : Int32) = 0 ∧ (¬ (10 : Int32) = 0 ∧ (¬ (10 : Int32) = 0 ∧ pX6_seekWay [.ref 36, .int (x1 / (10 : Int32)), .int (x1 - x1 / (10 : Int32) * (10 : Int32)), .int x2, .int (x3 / (10 : Int32))] h12 (fun h14 => (¬ (10 : Int32) = 0 ∧ pX10_lowestTerms [.ref 31, .int (h14.1 36 4), .int (h14.1 36 5), .int (x3 - x3 / (10 : Int32) * (10 : Int32))] h14 (fun v16 h15 => Q.2.1 v16.toInt64 h15))))))) ∧ ((0 : Int32) = 0 → Q.2.1 (-9223372036854775808 : Int64) h12))))))))) ∧ (¬ v9 = 0 → (¬ (10 : Int32) = 0 ∧ pX11_isZeroOrOne [.int (x3 - x3 / (10 : Int32) * (10 : Int32))] h8 (fun v18 h17 => ((v18 = 0 → pX4_isTwoPeople [.ref 1, .int x1] h17 (fun v20 h19 => ((v20 = 0 → Q.2.1 (-9223372036854775808 : Int64) h19) ∧ (¬ v20 = 0 → pX4_fits [.ref 1, .int (6 : Int32), .int x2] h19 (fun v22 h21 => ((v22 = 0 → Q.2.1 (-9223372036854775808 : Int64) h21) ∧ (¬ v22 = 0 → ((¬ (0 : Int32) = 0 → (¬ (10 : Int32) = 0 ∧ (¬ (10 : Int32) = 0 ∧ (¬ (10 : Int32) = 0 ∧ pX6_seekWay [.ref 36, .int (x1 / (10 : Int32)), .int (x1 - x1 / (10 : Int32) * (10 : Int32)), .int x2, .int (x3 / (10 : Int32))] h21 (fun h23 => (¬ (10 : Int32) = 0 ∧ pX10_lowestTerms [.ref 31, .int (h23.1 36 4), .int (h23.1 36 5), .int (x3 - x3 / (10 : Int32) * (10 : Int32))] h23 (fun v25 h24 => Q.2.1 v25.toInt64 h24))))))) ∧ ((0 : Int32) = 0 → Q.2.1 (-9223372036854775808 : Int64) h21))))))))) ∧ (¬ v18 = 0 → pX4_isTwoPeople [.ref 1, .int x1] h17 (fun v27 h26 => ((v27 = 0 → Q.2.1 (-9223372036854775808 : Int64) h26) ∧ (¬ v27 = 0 → pX4_fits [.ref 1, .int (6 : Int32), .int x2] h26 (fun v29 h28 => ((v29 = 0 → Q.2.1 (-9223372036854775808 : Int64) h28) ∧ (¬ v29 = 0 → ((¬ (1 : Int32) = 0 → (¬ (10 : Int32) = 0 ∧ (¬ (10 : Int32) = 0 ∧ (¬ (10 : Int32) = 0 ∧ pX6_seekWay [.ref 36, .int (x1 / (10 : Int32)), .int (x1 - x1 / (10 : Int32) * (10 : Int32)), .int x2, .int (x3 / (10 : Int32))] h28 (fun h30 => (¬ (10 : Int32) = 0 ∧ pX10_lowestTerms [.ref 31, .int (h30.1 36 4), .int (h30.1 36 5), .int (x3 - x3 / (10 : Int32) * (10 : Int32))] h30 (fun v32 h31 => Q.2.1 v32.toInt64 h31))))))) ∧ ((1 : Int32) = 0 → Q.2.1 (-9223372036854775808 : Int64) h28))))))))))))))))))) : zk_R zk_C (zk_lkl lkX11) zk_mt (zk_cxl [(30, zk_iP pX4_isTwoPeople), (33, zk_iP pX4_fits), (70, zk_vP pX6_seekWay), (103, zk_iP pX10_lowestTerms), (152, zk_iP pX11_isZeroOrOne)]) (some .long) (zk_at cdX11_written) Q [] k 57 0 [some (.ref 0), some (.int x1), some (.int x2), some (.int x3), none] [] h := H
theorem fcX11_looks : zk_fc mX11_looks (zk_lkl lkX11) (zk_at cdX11_looks) := ⟨lkX11_ok, by decide +kernel, cdX11_looks_ok⟩
set_option maxRecDepth 100000 in
theorem bX11_looks_0 {pX11_shelfAt : zk_pR} {k : zk_K} {Q : zk_Q} {h : zk_H} {x1 x2 : Int32} (H : pX11_shelfAt [.ref 0, .int x1] h (fun v2 h1 => k 5 [some (.ref 0), some (.int x1), some (.int x2), none, none] [v2] h1)) : zk_R zk_C (zk_lkl lkX11) zk_mt (zk_cxl [(151, zk_rP pX11_shelfAt)]) (some .int) (zk_at cdX11_looks) Q [5] k 5 0 [some (.ref 0), some (.int x1), some (.int x2), none, none] [] h := H
theorem fcX11_since : zk_fc mX11_since (zk_lkl lkX11) (zk_at cdX11_since) := ⟨lkX11_ok, by decide +kernel, cdX11_since_ok⟩
set_option maxRecDepth 100000 in
theorem bX11_since_0 {pX11_shelfAt : zk_pR} {k : zk_K} {Q : zk_Q} {h : zk_H} {x1 x2 : Int32} (H : pX11_shelfAt [.ref 0, .int x1] h (fun v2 h1 => k 5 [some (.ref 0), some (.int x1), some (.int x2), none, none] [v2] h1)) : zk_R zk_C (zk_lkl lkX11) zk_mt (zk_cxl [(151, zk_rP pX11_shelfAt)]) (some .int) (zk_at cdX11_since) Q [5] k 5 0 [some (.ref 0), some (.int x1), some (.int x2), none, none] [] h := H
theorem fcX11_judge : zk_fc mX11_judge (zk_lkl lkX11) (zk_at cdX11_judge) := ⟨lkX11_ok, by decide +kernel, cdX11_judge_ok⟩
set_option maxRecDepth 100000 in
theorem bX11_judge_0 {pX11_shelfAt : zk_pR} {k : zk_K} {Q : zk_Q} {h : zk_H} {x1 : Int32} (H : pX11_shelfAt [.ref 0, .int x1] h (fun v2 h1 => k 5 [some (.ref 0), some (.int x1), none, none] [v2] h1)) : zk_R zk_C (zk_lkl lkX11) zk_mt (zk_cxl [(151, zk_rP pX11_shelfAt)]) (some .int) (zk_at cdX11_judge) Q [5] k 5 0 [some (.ref 0), some (.int x1), none, none] [] h := H
theorem fcX11_filled : zk_fc mX11_filled (zk_lkl lkX11) (zk_at cdX11_filled) := ⟨lkX11_ok, by decide +kernel, cdX11_filled_ok⟩
set_option maxRecDepth 100000 in
theorem bX11_filled_0 {pX11_shelfAt : zk_pR} {k : zk_K} {Q : zk_Q} {h : zk_H} {x1 x2 : Int32} (H : pX11_shelfAt [.ref 0, .int x1] h (fun v2 h1 => k 5 [some (.ref 0), some (.int x1), some (.int x2), none] [v2] h1)) : zk_R zk_C (zk_lkl lkX11) zk_mt (zk_cxl [(151, zk_rP pX11_shelfAt)]) (some .long) (zk_at cdX11_filled) Q [5] k 5 0 [some (.ref 0), some (.int x1), some (.int x2), none] [] h := H
theorem fcX11_hope : zk_fc mX11_hope (zk_lkl lkX11) (zk_at cdX11_hope) := ⟨lkX11_ok, by decide +kernel, cdX11_hope_ok⟩
set_option maxRecDepth 100000 in
theorem bX11_hope_0 {pX4_isCard : zk_pI} {pX6_hopeOfReceiver : zk_pI} {pX11_isZeroOrOne : zk_pI} {k : zk_K} {Q : zk_Q} {h : zk_H} {x1 x2 : Int32} (H : pX4_isCard [.ref 1, .int x1] h (fun v2 h1 => ((v2 = 0 → Q.1 (-1 : Int32) h1) ∧ (¬ v2 = 0 → pX11_isZeroOrOne [.int x2] h1 (fun v4 h3 => ((¬ v4 = 0 → pX6_hopeOfReceiver [.ref 36, .int x1, .int x2] h3 (fun v6 h5 => Q.1 v6 h5)) ∧ (v4 = 0 → Q.1 (-1 : Int32) h3))))))) : zk_R zk_C (zk_lkl lkX11) zk_mt (zk_cxl [(26, zk_iP pX4_isCard), (72, zk_iP pX6_hopeOfReceiver), (152, zk_iP pX11_isZeroOrOne)]) (some .int) (zk_at cdX11_hope) Q [] k 16 0 [some (.ref 0), some (.int x1), some (.int x2)] [] h := H
theorem fcX11_drawn : zk_fc mX11_drawn (zk_lkl lkX11) (zk_at cdX11_drawn) := ⟨lkX11_ok, by decide +kernel, cdX11_drawn_ok⟩
set_option maxRecDepth 100000 in
theorem bX11_drawn_0 {pX4_isCard : zk_pI} {pX6_timesDrawn : zk_pI} {k : zk_K} {Q : zk_Q} {h : zk_H} {x1 x2 x3 x4 : Int32} (H : pX4_isCard [.ref 1, .int x1] h (fun v2 h1 => ((v2 = 0 → Q.1 (-1 : Int32) h1) ∧ (¬ v2 = 0 → ((x3 < (1 : Int32) → Q.1 (-1 : Int32) h1) ∧ (¬ x3 < (1 : Int32) → (((50 : Int32) < x3 → Q.1 (-1 : Int32) h1) ∧ (¬ (50 : Int32) < x3 → ((x4 < (-1 : Int32) → Q.1 (-1 : Int32) h1) ∧ (¬ x4 < (-1 : Int32) → ((x4 < (h1.1 1 1) → pX6_timesDrawn [.ref 36, .int x1, .int x2, .int x3, .int x4] h1 (fun v4 h3 => Q.1 v4 h3)) ∧ (¬ x4 < (h1.1 1 1) → Q.1 (-1 : Int32) h1)))))))))))) : zk_R zk_C (zk_lkl lkX11) zk_mt (zk_cxl [(26, zk_iP pX4_isCard), (73, zk_iP pX6_timesDrawn)]) (some .int) (zk_at cdX11_drawn) Q [] k 29 0 [some (.ref 0), some (.int x1), some (.int x2), some (.int x3), some (.int x4)] [] h := H
theorem fcX11_pass : zk_fc mX11_pass (zk_lkl lkX11) (zk_at cdX11_pass) := ⟨lkX11_ok, by decide +kernel, cdX11_pass_ok⟩
set_option maxRecDepth 100000 in
theorem bX11_pass_0 {pX2_letMinutesPass : zk_pI} {k : zk_K} {Q : zk_Q} {h : zk_H} {x1 : Int32} (H : ((x1 < (1 : Int32) → Q.1 (-1 : Int32) h) ∧ (¬ x1 < (1 : Int32) → ((x1 ≤ (99 : Int32) → ((((h.1 40 1) + x1) ≤ (99 : Int32) → pX2_letMinutesPass [.ref 40, .int x1] h (fun v2 h1 => Q.1 v2 h1)) ∧ (¬ ((h.1 40 1) + x1) ≤ (99 : Int32) → Q.1 (-5 : Int32) h))) ∧ (¬ x1 ≤ (99 : Int32) → Q.1 (-1 : Int32) h))))) : zk_R zk_C (zk_lkl lkX11) zk_mt (zk_cxl [(14, zk_iP pX2_letMinutesPass)]) (some .int) (zk_at cdX11_pass) Q [] k 20 0 [some (.ref 0), some (.int x1)] [] h := H
theorem fcX11_send : zk_fc mX11_send (zk_lkl lkX11) (zk_at cdX11_send) := ⟨lkX11_ok, by decide +kernel, cdX11_send_ok⟩
set_option maxRecDepth 100000 in
theorem bX11_send_0 {pX2_sendCard : zk_pI} {pX4_isTwoPeople : zk_pI} {pX4_isWay : zk_pI} {pX4_canWriteSo : zk_pI} {k : zk_K} {Q : zk_Q} {h : zk_H} {x1 x2 : Int32} (H : pX4_isTwoPeople [.ref 1, .int x1] h (fun v2 h1 => ((v2 = 0 → Q.1 (-1 : Int32) h1) ∧ (¬ v2 = 0 → pX4_isWay [.ref 1, .int x2] h1 (fun v4 h3 => ((v4 = 0 → Q.1 (-1 : Int32) h3) ∧ (¬ v4 = 0 → (¬ (10 : Int32) = 0 ∧ pX4_canWriteSo [.ref 1, .int (x1 / (10 : Int32)), .int x2, .int (h3.1 40 1)] h3 (fun v6 h5 => ((¬ v6 = 0 → (((h5.1 1 2) < (6 : Int32) → (¬ (10 : Int32) = 0 ∧ (¬ (10 : Int32) = 0 ∧ pX2_sendCard [.ref 40, .int (x1 / (10 : Int32)), .int (x1 - x1 / (10 : Int32) * (10 : Int32)), .int x2] h5 (fun v8 h7 => Q.1 v8 h7)))) ∧ (¬ (h5.1 1 2) < (6 : Int32) → Q.1 (-3 : Int32) h5))) ∧ (v6 = 0 → Q.1 (-1 : Int32) h5))))))))))) : zk_R zk_C (zk_lkl lkX11) zk_mt (zk_cxl [(15, zk_iP pX2_sendCard), (30, zk_iP pX4_isTwoPeople), (31, zk_iP pX4_isWay), (40, zk_iP pX4_canWriteSo)]) (some .int) (zk_at cdX11_send) Q [] k 39 0 [some (.ref 0), some (.int x1), some (.int x2)] [] h := H
theorem fcX11_thanked : zk_fc mX11_thanked (zk_lkl lkX11) (zk_at cdX11_thanked) := ⟨lkX11_ok, by decide +kernel, cdX11_thanked_ok⟩
set_option maxRecDepth 100000 in
theorem bX11_thanked_0 {pX2_mayBeThanked : zk_pI} {pX2_thankOne : zk_pI} {pX4_isCardAndPerson : zk_pI} {k : zk_K} {Q : zk_Q} {h : zk_H} {x1 : Int32} (H : pX4_isCardAndPerson [.ref 1, .int x1] h (fun v2 h1 => ((¬ v2 = 0 → (¬ (10 : Int32) = 0 ∧ pX2_mayBeThanked [.ref 40, .int (x1 / (10 : Int32))] h1 (fun v4 h3 => ((v4 = 0 → Q.1 (-5 : Int32) h3) ∧ (¬ v4 = 0 → (¬ (10 : Int32) = 0 ∧ (¬ (10 : Int32) = 0 ∧ pX2_thankOne [.ref 40, .int (x1 / (10 : Int32)), .int (x1 - x1 / (10 : Int32) * (10 : Int32))] h3 (fun v6 h5 => Q.1 v6 h5)))))))) ∧ (v2 = 0 → Q.1 (-1 : Int32) h1)))) : zk_R zk_C (zk_lkl lkX11) zk_mt (zk_cxl [(16, zk_iP pX2_mayBeThanked), (17, zk_iP pX2_thankOne), (29, zk_iP pX4_isCardAndPerson)]) (some .int) (zk_at cdX11_thanked) Q [] k 25 0 [some (.ref 0), some (.int x1)] [] h := H
theorem fcX11_led : zk_fc mX11_led (zk_lkl lkX11) (zk_at cdX11_led) := ⟨lkX11_ok, by decide +kernel, cdX11_led_ok⟩
set_option maxRecDepth 100000 in
theorem bX11_led_0  {k : zk_K} {Q : zk_Q} {h : zk_H} {x1 : Int32} (H : ((x1 = (0 : Int32) → Q.1 (h.1 40 2) h) ∧ (¬ x1 = (0 : Int32) → ((x1 = (1 : Int32) → Q.1 ((h.1 40 3) + (h.1 40 4)) h) ∧ (¬ x1 = (1 : Int32) → ((x1 = (2 : Int32) → Q.1 (h.1 40 3) h) ∧ (¬ x1 = (2 : Int32) → ((x1 = (3 : Int32) → Q.1 (h.1 40 4) h) ∧ (¬ x1 = (3 : Int32) → ((x1 = (4 : Int32) → Q.1 (h.1 40 1) h) ∧ (¬ x1 = (4 : Int32) → Q.1 (-1 : Int32) h))))))))))) : zk_R zk_C (zk_lkl lkX11) zk_mt (zk_cxl []) (some .int) (zk_at cdX11_led) Q [] k 12 0 [some (.ref 0), some (.int x1)] [] h := H
theorem fcX11_image : zk_fc mX11_image (zk_lkl lkX11) (zk_at cdX11_image) := ⟨lkX11_ok, by decide +kernel, cdX11_image_ok⟩
set_option maxRecDepth 100000 in
theorem bX11_image_0 {pX2_keepImage : zk_pI} {k : zk_K} {Q : zk_Q} {h : zk_H}  (H : pX2_keepImage [.ref 40] h (fun v2 h1 => Q.1 v2 h1)) : zk_R zk_C (zk_lkl lkX11) zk_mt (zk_cxl [(18, zk_iP pX2_keepImage)]) (some .int) (zk_at cdX11_image) Q [] k 6 0 [some (.ref 0)] [] h := H
theorem fcX11_back : zk_fc mX11_back (zk_lkl lkX11) (zk_at cdX11_back) := ⟨lkX11_ok, by decide +kernel, cdX11_back_ok⟩
set_option maxRecDepth 100000 in
theorem bX11_back_0 {pX2_layImageBack : zk_pI} {k : zk_K} {Q : zk_Q} {h : zk_H}  (H : (((h.1 40 5) = 0 → Q.1 (-5 : Int32) h) ∧ (¬ (h.1 40 5) = 0 → pX2_layImageBack [.ref 40] h (fun v2 h1 => Q.1 v2 h1)))) : zk_R zk_C (zk_lkl lkX11) zk_mt (zk_cxl [(19, zk_iP pX2_layImageBack)]) (some .int) (zk_at cdX11_back) Q [] k 11 0 [some (.ref 0)] [] h := H
theorem fcX11_undo : zk_fc mX11_undo (zk_lkl lkX11) (zk_at cdX11_undo) := ⟨lkX11_ok, by decide +kernel, cdX11_undo_ok⟩
set_option maxRecDepth 100000 in
theorem bX11_undo_0 {pX1_takeBack : zk_pI} {k : zk_K} {Q : zk_Q} {h : zk_H}  (H : (((h.1 19 5) ≤ 0 → Q.1 (-5 : Int32) h) ∧ (¬ (h.1 19 5) ≤ 0 → pX1_takeBack [.ref 19] h (fun v2 h1 => Q.1 v2 h1)))) : zk_R zk_C (zk_lkl lkX11) zk_mt (zk_cxl [(11, zk_iP pX1_takeBack)]) (some .int) (zk_at cdX11_undo) Q [] k 11 0 [some (.ref 0)] [] h := H
theorem fcX11_redo : zk_fc mX11_redo (zk_lkl lkX11) (zk_at cdX11_redo) := ⟨lkX11_ok, by decide +kernel, cdX11_redo_ok⟩
set_option maxRecDepth 100000 in
theorem bX11_redo_0 {pX1_makeAgain : zk_pI} {k : zk_K} {Q : zk_Q} {h : zk_H}  (H : (((h.1 19 6) ≤ 0 → Q.1 (-5 : Int32) h) ∧ (¬ (h.1 19 6) ≤ 0 → pX1_makeAgain [.ref 19] h (fun v2 h1 => Q.1 v2 h1)))) : zk_R zk_C (zk_lkl lkX11) zk_mt (zk_cxl [(12, zk_iP pX1_makeAgain)]) (some .int) (zk_at cdX11_redo) Q [] k 11 0 [some (.ref 0)] [] h := H
theorem fcX11_body : zk_fc mX11_body (zk_lkl lkX11) (zk_at cdX11_body) := ⟨lkX11_ok, by decide +kernel, cdX11_body_ok⟩
set_option maxRecDepth 100000 in
theorem bX11_body_0 {pX0_isKind : zk_pI} {pX0_add : zk_pI} {k : zk_K} {Q : zk_Q} {h : zk_H} {x1 : Int32} (H : pX0_isKind [.ref 42, .int x1] h (fun v2 h1 => ((¬ v2 = 0 → (((h1.1 42 1) < (50 : Int32) → pX0_add [.ref 42, .int x1] h1 (fun v4 h3 => Q.1 v4 h3)) ∧ (¬ (h1.1 42 1) < (50 : Int32) → Q.1 (-3 : Int32) h1))) ∧ (v2 = 0 → Q.1 (-1 : Int32) h1)))) : zk_R zk_C (zk_lkl lkX11) zk_mt (zk_cxl [(0, zk_iP pX0_isKind), (2, zk_iP pX0_add)]) (some .int) (zk_at cdX11_body) Q [] k 17 0 [some (.ref 0), some (.int x1)] [] h := H
theorem fcX11_act : zk_fc mX11_act (zk_lkl lkX11) (zk_at cdX11_act) := ⟨lkX11_ok, by decide +kernel, cdX11_act_ok⟩
set_option maxRecDepth 100000 in
theorem bX11_act_0 {pX0_perform : zk_pI} {k : zk_K} {Q : zk_Q} {h : zk_H} {x1 x2 x3 : Int32} (H : pX0_perform [.ref 42, .int x1, .int x2, .int x3] h (fun v2 h1 => Q.1 v2 h1)) : zk_R zk_C (zk_lkl lkX11) zk_mt (zk_cxl [(5, zk_iP pX0_perform)]) (some .int) (zk_at cdX11_act) Q [] k 9 0 [some (.ref 0), some (.int x1), some (.int x2), some (.int x3)] [] h := H
theorem fcX11_trace : zk_fc mX11_trace (zk_lkl lkX11) (zk_at cdX11_trace) := ⟨lkX11_ok, by decide +kernel, cdX11_trace_ok⟩
set_option maxRecDepth 100000 in
theorem bX11_trace_0 {pX0_traced : zk_pI} {k : zk_K} {Q : zk_Q} {h : zk_H} {x1 : Int32} (H : ((x1 < 0 → Q.1 (-1 : Int32) h) ∧ (¬ x1 < 0 → pX0_traced [.ref 42] h (fun v2 h1 => ((v2 ≤ x1 → Q.1 (-1 : Int32) h1) ∧ (¬ v2 ≤ x1 → (vp_in x1 24 ∧ Q.1 (h1.1 44 x1.toNatClampNeg) h1))))))) : zk_R zk_C (zk_lkl lkX11) zk_mt (zk_cxl [(4, zk_iP pX0_traced)]) (some .int) (zk_at cdX11_trace) Q [] k 16 0 [some (.ref 0), some (.int x1)] [] h := H
theorem fcX11_keep : zk_fc mX11_keep (zk_lkl lkX11) (zk_at cdX11_keep) := ⟨lkX11_ok, by decide +kernel, cdX11_keep_ok⟩
set_option maxRecDepth 100000 in
theorem bX11_keep_0 {pX11_shelfAt : zk_pR} {k : zk_K} {Q : zk_Q} {h : zk_H} {x1 x2 : Int32} (H : pX11_shelfAt [.ref 0, .int x1] h (fun v2 h1 => k 5 [some (.ref 0), some (.int x1), some (.int x2), none] [v2] h1)) : zk_R zk_C (zk_lkl lkX11) zk_mt (zk_cxl [(151, zk_rP pX11_shelfAt)]) (some .int) (zk_at cdX11_keep) Q [5] k 5 0 [some (.ref 0), some (.int x1), some (.int x2), none] [] h := H
theorem fcX11_row : zk_fc mX11_row (zk_lkl lkX11) (zk_at cdX11_row) := ⟨lkX11_ok, by decide +kernel, cdX11_row_ok⟩
set_option maxRecDepth 100000 in
theorem bX11_row_0 {pX11_shelfAt : zk_pR} {k : zk_K} {Q : zk_Q} {h : zk_H} {x1 x2 x3 : Int32} (H : pX11_shelfAt [.ref 0, .int x1] h (fun v2 h1 => k 5 [some (.ref 0), some (.int x1), some (.int x2), some (.int x3), none] [v2] h1)) : zk_R zk_C (zk_lkl lkX11) zk_mt (zk_cxl [(151, zk_rP pX11_shelfAt)]) (some .int) (zk_at cdX11_row) Q [5] k 5 0 [some (.ref 0), some (.int x1), some (.int x2), some (.int x3), none] [] h := H
theorem fcX11_put : zk_fc mX11_put (zk_lkl lkX11) (zk_at cdX11_put) := ⟨lkX11_ok, by decide +kernel, cdX11_put_ok⟩
set_option maxRecDepth 100000 in
theorem bX11_put_0 {pX11_shelfAt : zk_pR} {k : zk_K} {Q : zk_Q} {h : zk_H} {x1 x2 : Int32} {x3 : Int64} (H : pX11_shelfAt [.ref 0, .int x1] h (fun v2 h1 => k 5 [some (.ref 0), some (.int x1), some (.int x2), some (.long x3), none, none, none] [v2] h1)) : zk_R zk_C (zk_lkl lkX11) zk_mt (zk_cxl [(151, zk_rP pX11_shelfAt)]) (some .int) (zk_at cdX11_put) Q [5] k 5 0 [some (.ref 0), some (.int x1), some (.int x2), some (.long x3), none, none, none] [] h := H
theorem fcX11_element : zk_fc mX11_element (zk_lkl lkX11) (zk_at cdX11_element) := ⟨lkX11_ok, by decide +kernel, cdX11_element_ok⟩
set_option maxRecDepth 100000 in
theorem bX11_element_0 {pX11_shelfAt : zk_pR} {k : zk_K} {Q : zk_Q} {h : zk_H} {x1 x2 : Int32} (H : pX11_shelfAt [.ref 0, .int x1] h (fun v2 h1 => k 5 [some (.ref 0), some (.int x1), some (.int x2), none] [v2] h1)) : zk_R zk_C (zk_lkl lkX11) zk_mt (zk_cxl [(151, zk_rP pX11_shelfAt)]) (some .long) (zk_at cdX11_element) Q [5] k 5 0 [some (.ref 0), some (.int x1), some (.int x2), none] [] h := H
theorem fcX11_shift : zk_fc mX11_shift (zk_lkl lkX11) (zk_at cdX11_shift) := ⟨lkX11_ok, by decide +kernel, cdX11_shift_ok⟩
set_option maxRecDepth 100000 in
theorem bX11_shift_0 {pX11_shelfAt : zk_pR} {k : zk_K} {Q : zk_Q} {h : zk_H} {x1 x2 x3 x4 x5 : Int32} (H : pX11_shelfAt [.ref 0, .int x1] h (fun v2 h1 => k 5 [some (.ref 0), some (.int x1), some (.int x2), some (.int x3), some (.int x4), some (.int x5), none, none] [v2] h1)) : zk_R zk_C (zk_lkl lkX11) zk_mt (zk_cxl [(151, zk_rP pX11_shelfAt)]) (some .int) (zk_at cdX11_shift) Q [5, 12] k 5 0 [some (.ref 0), some (.int x1), some (.int x2), some (.int x3), some (.int x4), some (.int x5), none, none] [] h := H
theorem fcX11_taken : zk_fc mX11_taken (zk_lkl lkX11) (zk_at cdX11_taken) := ⟨lkX11_ok, by decide +kernel, cdX11_taken_ok⟩
set_option maxRecDepth 100000 in
theorem bX11_taken_0 {pX11_shelfAt : zk_pR} {k : zk_K} {Q : zk_Q} {h : zk_H} {x1 x2 : Int32} (H : pX11_shelfAt [.ref 0, .int x1] h (fun v2 h1 => k 5 [some (.ref 0), some (.int x1), some (.int x2), none, none] [v2] h1)) : zk_R zk_C (zk_lkl lkX11) zk_mt (zk_cxl [(151, zk_rP pX11_shelfAt)]) (some .int) (zk_at cdX11_taken) Q [5] k 5 0 [some (.ref 0), some (.int x1), some (.int x2), none, none] [] h := H
theorem fcX11_count : zk_fc mX11_count (zk_lkl lkX11) (zk_at cdX11_count) := ⟨lkX11_ok, by decide +kernel, cdX11_count_ok⟩
set_option maxRecDepth 100000 in
theorem bX11_count_0  {k : zk_K} {Q : zk_Q} {h : zk_H} {x1 : Int32} (H : ((x1 = (0 : Int32) → Q.1 (h.1 1 1) h) ∧ (¬ x1 = (0 : Int32) → ((x1 = (1 : Int32) → Q.1 (h.1 1 2) h) ∧ (¬ x1 = (1 : Int32) → ((x1 = (2 : Int32) → Q.1 (h.1 24 1) h) ∧ (¬ x1 = (2 : Int32) → ((x1 = (3 : Int32) → Q.1 (h.1 19 5) h) ∧ (¬ x1 = (3 : Int32) → ((x1 = (4 : Int32) → Q.1 (h.1 42 1) h) ∧ (¬ x1 = (4 : Int32) → ((x1 = (5 : Int32) → Q.1 (h.1 42 3) h) ∧ (¬ x1 = (5 : Int32) → Q.1 (-1 : Int32) h))))))))))))) : zk_R zk_C (zk_lkl lkX11) zk_mt (zk_cxl []) (some .int) (zk_at cdX11_count) Q [] k 8 0 [some (.ref 0), some (.int x1)] [] h := H
theorem fcX11_shelfAt : zk_fc mX11_shelfAt (zk_lkl lkX11) (zk_at cdX11_shelfAt) := ⟨lkX11_ok, by decide +kernel, cdX11_shelfAt_ok⟩
set_option maxRecDepth 100000 in
theorem bX11_shelfAt_0  {k : zk_K} {Q : zk_Q} {h : zk_H} {x1 : Int32} (H : ((x1 < 0 → Q.2.2.2 (.null) h) ∧ (¬ x1 < 0 → (((6 : Int32) ≤ x1 → Q.2.2.2 (.null) h) ∧ (¬ (6 : Int32) ≤ x1 → (vp_in x1 6 ∧ ∃ b1, zk_C.2 45 x1.toNatClampNeg = some b1 ∧ Q.2.2.2 (.retAddr b1) h)))))) : zk_R zk_C (zk_lkl lkX11) zk_mt (zk_cxl []) (some (.object "CardUnsigned$Shelf")) (zk_at cdX11_shelfAt) Q [] k 13 0 [some (.ref 0), some (.int x1)] [] h := H
theorem fcX11_isZeroOrOne : zk_fc mX11_isZeroOrOne (zk_lkl lkX11) (zk_at cdX11_isZeroOrOne) := ⟨lkX11_ok, by decide +kernel, cdX11_isZeroOrOne_ok⟩
set_option maxRecDepth 100000 in
theorem bX11_isZeroOrOne_0  {k : zk_K} {Q : zk_Q} {h : zk_H} {x0 : Int32} (H : ((x0 = 0 → (((1 : Int32) = 0 ∨ (1 : Int32) = 1) ∧ Q.1 (1 : Int32) h)) ∧ (¬ x0 = 0 → ((¬ x0 = (1 : Int32) → (((0 : Int32) = 0 ∨ (0 : Int32) = 1) ∧ Q.1 (0 : Int32) h)) ∧ (x0 = (1 : Int32) → (((1 : Int32) = 0 ∨ (1 : Int32) = 1) ∧ Q.1 (1 : Int32) h)))))) : zk_R zk_C (zk_lkl lkX11) zk_mt (zk_cxl []) (some .boolean) (zk_at cdX11_isZeroOrOne) Q [] k 10 0 [some (.int x0)] [] h := H
end
section
/-! BLOCKS: what a run from a place asks for. Written by wip/whole/blocks.py -/
theorem fcX12_within : zk_fc mX12_within (zk_lkl lkX12) (zk_at cdX12_within) := ⟨lkX12_ok, by decide +kernel, cdX12_within_ok⟩
set_option maxRecDepth 100000 in
theorem bX12_within_0  {k : zk_K} {Q : zk_Q} {h : zk_H} {x0 x1 x2 : Int32} (H : ((x0 < x1 → (((0 : Int32) = 0 ∨ (0 : Int32) = 1) ∧ Q.1 (0 : Int32) h)) ∧ (¬ x0 < x1 → ((x2 < x0 → (((0 : Int32) = 0 ∨ (0 : Int32) = 1) ∧ Q.1 (0 : Int32) h)) ∧ (¬ x2 < x0 → (((1 : Int32) = 0 ∨ (1 : Int32) = 1) ∧ Q.1 (1 : Int32) h)))))) : zk_R zk_D (zk_lkl lkX12) zk_mt (zk_cxl []) (some .boolean) (zk_at cdX12_within) Q [] k 11 0 [some (.int x0), some (.int x1), some (.int x2)] [] h := H
theorem fcX12_isOne : zk_fc mX12_isOne (zk_lkl lkX12) (zk_at cdX12_isOne) := ⟨lkX12_ok, by decide +kernel, cdX12_isOne_ok⟩
set_option maxRecDepth 100000 in
theorem bX12_isOne_0 {pX12_within : zk_pI} {k : zk_K} {Q : zk_Q} {h : zk_H} {x1 : Int32} (H : pX12_within [.int x1, .int (0 : Int32), .int ((h.1 0 0) - (1 : Int32))] h (fun v2 h1 => ((v2 = 0 ∨ v2 = 1) ∧ Q.1 v2 h1))) : zk_R zk_D (zk_lkl lkX12) zk_mt (zk_cxl [(153, zk_iP pX12_within)]) (some .boolean) (zk_at cdX12_isOne) Q [] k 10 0 [some (.ref 0), some (.int x1)] [] h := H
theorem fcX12_isCard : zk_fc mX12_isCard (zk_lkl lkX12) (zk_at cdX12_isCard) := ⟨lkX12_ok, by decide +kernel, cdX12_isCard_ok⟩
set_option maxRecDepth 100000 in
theorem bX12_isCard_0 {pX12_within : zk_pI} {k : zk_K} {Q : zk_Q} {h : zk_H} {x1 : Int32} (H : pX12_within [.int x1, .int (0 : Int32), .int ((h.1 0 7) - (1 : Int32))] h (fun v2 h1 => ((v2 = 0 ∨ v2 = 1) ∧ Q.1 v2 h1))) : zk_R zk_D (zk_lkl lkX12) zk_mt (zk_cxl [(153, zk_iP pX12_within)]) (some .boolean) (zk_at cdX12_isCard) Q [] k 10 0 [some (.ref 0), some (.int x1)] [] h := H
theorem fcX12_isCardOf : zk_fc mX12_isCardOf (zk_lkl lkX12) (zk_at cdX12_isCardOf) := ⟨lkX12_ok, by decide +kernel, cdX12_isCardOf_ok⟩
set_option maxRecDepth 100000 in
theorem bX12_isCardOf_0 {pX12_isOne : zk_pI} {pX12_isCard : zk_pI} {k : zk_K} {Q : zk_Q} {h : zk_H} {x1 : Int32} (H : ((x1 < 0 → (((0 : Int32) = 0 ∨ (0 : Int32) = 1) ∧ Q.1 (0 : Int32) h)) ∧ (¬ x1 < 0 → (¬ (10 : Int32) = 0 ∧ pX12_isCard [.ref 0, .int (x1 / (10 : Int32))] h (fun v2 h1 => ((v2 = 0 → (((0 : Int32) = 0 ∨ (0 : Int32) = 1) ∧ Q.1 (0 : Int32) h1)) ∧ (¬ v2 = 0 → (¬ (10 : Int32) = 0 ∧ pX12_isOne [.ref 0, .int (x1 - x1 / (10 : Int32) * (10 : Int32))] h1 (fun v4 h3 => ((v4 = 0 → (((0 : Int32) = 0 ∨ (0 : Int32) = 1) ∧ Q.1 (0 : Int32) h3)) ∧ (¬ v4 = 0 → (((1 : Int32) = 0 ∨ (1 : Int32) = 1) ∧ Q.1 (1 : Int32) h3)))))))))))) : zk_R zk_D (zk_lkl lkX12) zk_mt (zk_cxl [(154, zk_iP pX12_isOne), (155, zk_iP pX12_isCard)]) (some .boolean) (zk_at cdX12_isCardOf) Q [] k 19 0 [some (.ref 0), some (.int x1)] [] h := H
theorem fcX12_areTwo : zk_fc mX12_areTwo (zk_lkl lkX12) (zk_at cdX12_areTwo) := ⟨lkX12_ok, by decide +kernel, cdX12_areTwo_ok⟩
set_option maxRecDepth 100000 in
theorem bX12_areTwo_0 {pX12_isOne : zk_pI} {k : zk_K} {Q : zk_Q} {h : zk_H} {x1 : Int32} (H : ((x1 < 0 → (((0 : Int32) = 0 ∨ (0 : Int32) = 1) ∧ Q.1 (0 : Int32) h)) ∧ (¬ x1 < 0 → (¬ (10 : Int32) = 0 ∧ pX12_isOne [.ref 0, .int (x1 / (10 : Int32))] h (fun v2 h1 => ((v2 = 0 → (((0 : Int32) = 0 ∨ (0 : Int32) = 1) ∧ Q.1 (0 : Int32) h1)) ∧ (¬ v2 = 0 → (¬ (10 : Int32) = 0 ∧ pX12_isOne [.ref 0, .int (x1 - x1 / (10 : Int32) * (10 : Int32))] h1 (fun v4 h3 => ((v4 = 0 → (((0 : Int32) = 0 ∨ (0 : Int32) = 1) ∧ Q.1 (0 : Int32) h3)) ∧ (¬ v4 = 0 → (¬ (10 : Int32) = 0 ∧ (¬ (10 : Int32) = 0 ∧ (((x1 / (10 : Int32)) = (x1 - x1 / (10 : Int32) * (10 : Int32)) → (((0 : Int32) = 0 ∨ (0 : Int32) = 1) ∧ Q.1 (0 : Int32) h3)) ∧ (¬ (x1 / (10 : Int32)) = (x1 - x1 / (10 : Int32) * (10 : Int32)) → (((1 : Int32) = 0 ∨ (1 : Int32) = 1) ∧ Q.1 (1 : Int32) h3)))))))))))))))) : zk_R zk_D (zk_lkl lkX12) zk_mt (zk_cxl [(154, zk_iP pX12_isOne)]) (some .boolean) (zk_at cdX12_areTwo) Q [] k 26 0 [some (.ref 0), some (.int x1)] [] h := H
theorem fcX12_areCards : zk_fc mX12_areCards (zk_lkl lkX12) (zk_at cdX12_areCards) := ⟨lkX12_ok, by decide +kernel, cdX12_areCards_ok⟩
set_option maxRecDepth 100000 in
theorem bX12_areCards_0 {pX12_within : zk_pI} {k : zk_K} {Q : zk_Q} {h : zk_H} {x1 : Int32} (H : pX12_within [.int x1, .int (0 : Int32), .int (((1 : Int32) <<< ((h.1 0 7) &&& 31)) - (1 : Int32))] h (fun v2 h1 => ((v2 = 0 ∨ v2 = 1) ∧ Q.1 v2 h1))) : zk_R zk_D (zk_lkl lkX12) zk_mt (zk_cxl [(153, zk_iP pX12_within)]) (some .boolean) (zk_at cdX12_areCards) Q [] k 12 0 [some (.ref 0), some (.int x1)] [] h := H
theorem fcX12_isMinute : zk_fc mX12_isMinute (zk_lkl lkX12) (zk_at cdX12_isMinute) := ⟨lkX12_ok, by decide +kernel, cdX12_isMinute_ok⟩
set_option maxRecDepth 100000 in
theorem bX12_isMinute_0 {pX12_within : zk_pI} {k : zk_K} {Q : zk_Q} {h : zk_H} {x0 : Int32} (H : pX12_within [.int x0, .int (0 : Int32), .int (99 : Int32)] h (fun v2 h1 => ((v2 = 0 ∨ v2 = 1) ∧ Q.1 v2 h1))) : zk_R zk_D (zk_lkl lkX12) zk_mt (zk_cxl [(153, zk_iP pX12_within)]) (some .boolean) (zk_at cdX12_isMinute) Q [] k 7 0 [some (.int x0)] [] h := H
theorem fcX12_isWay : zk_fc mX12_isWay (zk_lkl lkX12) (zk_at cdX12_isWay) := ⟨lkX12_ok, by decide +kernel, cdX12_isWay_ok⟩
set_option maxRecDepth 100000 in
theorem bX12_isWay_0  {k : zk_K} {Q : zk_Q} {h : zk_H} {x0 : Int32} (H : ((x0 < 0 → (((0 : Int32) = 0 ∨ (0 : Int32) = 1) ∧ Q.1 (0 : Int32) h)) ∧ (¬ x0 < 0 → (¬ (100 : Int32) = 0 ∧ (((9 : Int32) ≤ (x0 / (100 : Int32)) → (((0 : Int32) = 0 ∨ (0 : Int32) = 1) ∧ Q.1 (0 : Int32) h)) ∧ (¬ (9 : Int32) ≤ (x0 / (100 : Int32)) → (¬ (10 : Int32) = 0 ∧ (¬ (10 : Int32) = 0 ∧ (((5 : Int32) ≤ ((x0 / (10 : Int32)) - (x0 / (10 : Int32)) / (10 : Int32) * (10 : Int32)) → (((0 : Int32) = 0 ∨ (0 : Int32) = 1) ∧ Q.1 (0 : Int32) h)) ∧ (¬ (5 : Int32) ≤ ((x0 / (10 : Int32)) - (x0 / (10 : Int32)) / (10 : Int32) * (10 : Int32)) → (¬ (10 : Int32) = 0 ∧ (((2 : Int32) ≤ (x0 - x0 / (10 : Int32) * (10 : Int32)) → (((0 : Int32) = 0 ∨ (0 : Int32) = 1) ∧ Q.1 (0 : Int32) h)) ∧ (¬ (2 : Int32) ≤ (x0 - x0 / (10 : Int32) * (10 : Int32)) → (((1 : Int32) = 0 ∨ (1 : Int32) = 1) ∧ Q.1 (1 : Int32) h)))))))))))))) : zk_R zk_D (zk_lkl lkX12) zk_mt (zk_cxl []) (some .boolean) (zk_at cdX12_isWay) Q [] k 24 0 [some (.int x0)] [] h := H
theorem fcX12_isSecret : zk_fc mX12_isSecret (zk_lkl lkX12) (zk_at cdX12_isSecret) := ⟨lkX12_ok, by decide +kernel, cdX12_isSecret_ok⟩
set_option maxRecDepth 100000 in
theorem bX12_isSecret_0 {pX12_within : zk_pI} {k : zk_K} {Q : zk_Q} {h : zk_H} {x0 : Int32} (H : pX12_within [.int x0, .int (0 : Int32), .int (7 : Int32)] h (fun v2 h1 => ((v2 = 0 ∨ v2 = 1) ∧ Q.1 v2 h1))) : zk_R zk_D (zk_lkl lkX12) zk_mt (zk_cxl [(153, zk_iP pX12_within)]) (some .boolean) (zk_at cdX12_isSecret) Q [] k 7 0 [some (.int x0)] [] h := H
theorem fcX12_isShelf : zk_fc mX12_isShelf (zk_lkl lkX12) (zk_at cdX12_isShelf) := ⟨lkX12_ok, by decide +kernel, cdX12_isShelf_ok⟩
set_option maxRecDepth 100000 in
theorem bX12_isShelf_0 {pX12_within : zk_pI} {k : zk_K} {Q : zk_Q} {h : zk_H} {x0 : Int32} (H : pX12_within [.int x0, .int (0 : Int32), .int (5 : Int32)] h (fun v2 h1 => ((v2 = 0 ∨ v2 = 1) ∧ Q.1 v2 h1))) : zk_R zk_D (zk_lkl lkX12) zk_mt (zk_cxl [(153, zk_iP pX12_within)]) (some .boolean) (zk_at cdX12_isShelf) Q [] k 7 0 [some (.int x0)] [] h := H
theorem fcX12_has : zk_fc mX12_has (zk_lkl lkX12) (zk_at cdX12_has) := ⟨lkX12_ok, by decide +kernel, cdX12_has_ok⟩
set_option maxRecDepth 100000 in
theorem bX12_has_0  {k : zk_K} {Q : zk_Q} {h : zk_H} {x0 x1 : Int32} (H : ((¬ ((x0 >>> (x1 &&& 31)) &&& (1 : Int32)) = (1 : Int32) → (((0 : Int32) = 0 ∨ (0 : Int32) = 1) ∧ Q.1 (0 : Int32) h)) ∧ (((x0 >>> (x1 &&& 31)) &&& (1 : Int32)) = (1 : Int32) → (((1 : Int32) = 0 ∨ (1 : Int32) = 1) ∧ Q.1 (1 : Int32) h)))) : zk_R zk_D (zk_lkl lkX12) zk_mt (zk_cxl []) (some .boolean) (zk_at cdX12_has) Q [] k 12 0 [some (.int x0), some (.int x1)] [] h := H
theorem fcX12_newPerson : zk_fc mX12_newPerson (zk_lkl lkX12) (zk_at cdX12_newPerson) := ⟨lkX12_ok, by decide +kernel, cdX12_newPerson_ok⟩
set_option maxRecDepth 100000 in
theorem bX12_newPerson_0  {k : zk_K} {Q : zk_Q} {h : zk_H} {x1 x2 x3 : Int32} (H : (vp_in (h.1 0 0) 8 ∧ (vp_in (h.1 0 0) 8 ∧ (vp_in (h.1 0 0) 8 ∧ (vp_in (h.1 0 0) 8 ∧ (vp_in (h.1 0 0) 8 ∧ (vp_in (h.1 0 0) 8 ∧ Q.1 (h.1 0 0) (zk_si (zk_si (zk_si (zk_si (zk_si (zk_si (zk_si h 1 (h.1 0 0).toNatClampNeg (0 : Int32)) 2 (h.1 0 0).toNatClampNeg (99 : Int32)) 3 (h.1 0 0).toNatClampNeg x1) 4 (h.1 0 0).toNatClampNeg (0 : Int32)) 5 (h.1 0 0).toNatClampNeg x2) 6 (h.1 0 0).toNatClampNeg x3) 0 0 ((h.1 0 0) + (1 : Int32)))))))))) : zk_R zk_D (zk_lkl lkX12) zk_mt (zk_cxl []) (some .int) (zk_at cdX12_newPerson) Q [] k 46 0 [some (.ref 0), some (.int x1), some (.int x2), some (.int x3)] [] h := H
theorem fcX12_person : zk_fc mX12_person (zk_lkl lkX12) (zk_at cdX12_person) := ⟨lkX12_ok, by decide +kernel, cdX12_person_ok⟩
set_option maxRecDepth 100000 in
theorem bX12_person_0 {pX12_within : zk_pI} {pX12_newPerson : zk_pI} {k : zk_K} {Q : zk_Q} {h : zk_H} {x1 : Int32} (H : pX12_within [.int x1, .int (0 : Int32), .int (3 : Int32)] h (fun v2 h1 => ((¬ v2 = 0 → ((¬ (h1.1 0 0) = (8 : Int32) → pX12_newPerson [.ref 0, .int x1, .int (0 : Int32), .int (0 : Int32)] h1 (fun v4 h3 => Q.1 v4 h3)) ∧ ((h1.1 0 0) = (8 : Int32) → Q.1 (-3 : Int32) h1))) ∧ (v2 = 0 → Q.1 (-1 : Int32) h1)))) : zk_R zk_D (zk_lkl lkX12) zk_mt (zk_cxl [(153, zk_iP pX12_within), (164, zk_iP pX12_newPerson)]) (some .int) (zk_at cdX12_person) Q [] k 17 0 [some (.ref 0), some (.int x1)] [] h := H
theorem fcX12_people : zk_fc mX12_people (zk_lkl lkX12) (zk_at cdX12_people) := ⟨lkX12_ok, by decide +kernel, cdX12_people_ok⟩
set_option maxRecDepth 100000 in
theorem bX12_people_0 {pX12_within : zk_pI} {pX12_isShelf : zk_pI} {pX12_newPerson : zk_pI} {k : zk_K} {Q : zk_Q} {h : zk_H} {x1 x2 x3 : Int32} (H : pX12_isShelf [.int x1] h (fun v2 h1 => ((v2 = 0 → Q.1 (-1 : Int32) h1) ∧ (¬ v2 = 0 → pX12_within [.int x3, .int (1 : Int32), .int (8 : Int32)] h1 (fun v4 h3 => ((¬ v4 = 0 → (vp_in x1 6 ∧ ((¬ (h3.1 32 x1.toNatClampNeg) = (-1 : Int32) → (vp_in x1 6 ∧ (((h3.1 32 x1.toNatClampNeg) = (1 : Int32) → k 50 [some (.ref 0), some (.int x1), some (.int x2), some (.int x3), some (.int (0 : Int32)), some (.int (0 : Int32)), none, none, none] [] h3) ∧ (¬ (h3.1 32 x1.toNatClampNeg) = (1 : Int32) → Q.1 (-12 : Int32) h3)))) ∧ ((h3.1 32 x1.toNatClampNeg) = (-1 : Int32) → Q.1 (0 : Int32) h3)))) ∧ (v4 = 0 → Q.1 (-1 : Int32) h3))))))) : zk_R zk_D (zk_lkl lkX12) zk_mt (zk_cxl [(153, zk_iP pX12_within), (162, zk_iP pX12_isShelf), (164, zk_iP pX12_newPerson)]) (some .int) (zk_at cdX12_people) Q [50] k 26 0 [some (.ref 0), some (.int x1), some (.int x2), some (.int x3), none, none, none, none, none] [] h := H
set_option maxRecDepth 100000 in
theorem bX12_people_50 {pX12_within : zk_pI} {pX12_isShelf : zk_pI} {pX12_newPerson : zk_pI} {k : zk_K} {Q : zk_Q} {h : zk_H} {x1 x2 x3 x4 x5 : Int32} (H : ((x3 ≤ x5 → Q.1 x4 h) ∧ (¬ x3 ≤ x5 → (((lg_cmp (x2.toInt64 + ((3 : Int64) * x5.toInt64)) (0 : Int64)) < 0 → Q.1 x4 h) ∧ (¬ (lg_cmp (x2.toInt64 + ((3 : Int64) * x5.toInt64)) (0 : Int64)) < 0 → (vp_in x1 6 ∧ ((0 < (lg_cmp ((x2.toInt64 + ((3 : Int64) * x5.toInt64)) + (3 : Int64)) (h.1 33 x1.toNatClampNeg).toInt64) → Q.1 x4 h) ∧ (¬ 0 < (lg_cmp ((x2.toInt64 + ((3 : Int64) * x5.toInt64)) + (3 : Int64)) (h.1 33 x1.toNatClampNeg).toInt64) → ((¬ (h.1 0 0) = (8 : Int32) → (vp_in (((60 : Int32) * x1) + (x2.toInt64 + ((3 : Int64) * x5.toInt64)).toInt32) 360 ∧ pX12_within [.int (h.2 34 (((60 : Int32) * x1) + (x2.toInt64 + ((3 : Int64) * x5.toInt64)).toInt32).toNatClampNeg).toInt32, .int (0 : Int32), .int (3 : Int32)] h (fun v2 h1 => ((v2 = 0 → Q.1 x4 h1) ∧ (¬ v2 = 0 → (vp_in ((((60 : Int32) * x1) + (x2.toInt64 + ((3 : Int64) * x5.toInt64)).toInt32) + (1 : Int32)) 360 ∧ pX12_within [.int (h1.2 34 ((((60 : Int32) * x1) + (x2.toInt64 + ((3 : Int64) * x5.toInt64)).toInt32) + (1 : Int32)).toNatClampNeg).toInt32, .int (0 : Int32), .int (255 : Int32)] h1 (fun v4 h3 => ((v4 = 0 → Q.1 x4 h3) ∧ (¬ v4 = 0 → (vp_in ((((60 : Int32) * x1) + (x2.toInt64 + ((3 : Int64) * x5.toInt64)).toInt32) + (2 : Int32)) 360 ∧ pX12_within [.int (h3.2 34 ((((60 : Int32) * x1) + (x2.toInt64 + ((3 : Int64) * x5.toInt64)).toInt32) + (2 : Int32)).toNatClampNeg).toInt32, .int (0 : Int32), .int (255 : Int32)] h3 (fun v6 h5 => ((¬ v6 = 0 → (vp_in (((60 : Int32) * x1) + (x2.toInt64 + ((3 : Int64) * x5.toInt64)).toInt32) 360 ∧ (vp_in ((((60 : Int32) * x1) + (x2.toInt64 + ((3 : Int64) * x5.toInt64)).toInt32) + (1 : Int32)) 360 ∧ (vp_in ((((60 : Int32) * x1) + (x2.toInt64 + ((3 : Int64) * x5.toInt64)).toInt32) + (2 : Int32)) 360 ∧ pX12_newPerson [.ref 0, .int (h5.2 34 (((60 : Int32) * x1) + (x2.toInt64 + ((3 : Int64) * x5.toInt64)).toInt32).toNatClampNeg).toInt32, .int (h5.2 34 ((((60 : Int32) * x1) + (x2.toInt64 + ((3 : Int64) * x5.toInt64)).toInt32) + (1 : Int32)).toNatClampNeg).toInt32, .int (h5.2 34 ((((60 : Int32) * x1) + (x2.toInt64 + ((3 : Int64) * x5.toInt64)).toInt32) + (2 : Int32)).toNatClampNeg).toInt32] h5 (fun v8 h7 => k 50 [some (.ref 0), some (.int x1), some (.int x2), some (.int x3), some (.int (x4 + (1 : Int32))), some (.int (x5 + (1 : Int32))), some (.long (x2.toInt64 + ((3 : Int64) * x5.toInt64))), none, some (.int (((60 : Int32) * x1) + (x2.toInt64 + ((3 : Int64) * x5.toInt64)).toInt32))] [] h7))))) ∧ (v6 = 0 → Q.1 x4 h5))))))))))))) ∧ ((h.1 0 0) = (8 : Int32) → Q.1 x4 h)))))))))) : zk_R zk_D (zk_lkl lkX12) zk_mt (zk_cxl [(153, zk_iP pX12_within), (162, zk_iP pX12_isShelf), (164, zk_iP pX12_newPerson)]) (some .int) (zk_at cdX12_people) Q [50] k 94 50 [some (.ref 0), some (.int x1), some (.int x2), some (.int x3), some (.int x4), some (.int x5), none, none, none] [] h := H
set_option maxRecDepth 100000 in
theorem bX12_people_50a {pX12_within : zk_pI} {pX12_isShelf : zk_pI} {pX12_newPerson : zk_pI} {k : zk_K} {Q : zk_Q} {h : zk_H} {x1 x2 x3 x4 x5 x8 : Int32} {x6 : Int64} (H : ((x3 ≤ x5 → Q.1 x4 h) ∧ (¬ x3 ≤ x5 → (((lg_cmp (x2.toInt64 + ((3 : Int64) * x5.toInt64)) (0 : Int64)) < 0 → Q.1 x4 h) ∧ (¬ (lg_cmp (x2.toInt64 + ((3 : Int64) * x5.toInt64)) (0 : Int64)) < 0 → (vp_in x1 6 ∧ ((0 < (lg_cmp ((x2.toInt64 + ((3 : Int64) * x5.toInt64)) + (3 : Int64)) (h.1 33 x1.toNatClampNeg).toInt64) → Q.1 x4 h) ∧ (¬ 0 < (lg_cmp ((x2.toInt64 + ((3 : Int64) * x5.toInt64)) + (3 : Int64)) (h.1 33 x1.toNatClampNeg).toInt64) → ((¬ (h.1 0 0) = (8 : Int32) → (vp_in (((60 : Int32) * x1) + (x2.toInt64 + ((3 : Int64) * x5.toInt64)).toInt32) 360 ∧ pX12_within [.int (h.2 34 (((60 : Int32) * x1) + (x2.toInt64 + ((3 : Int64) * x5.toInt64)).toInt32).toNatClampNeg).toInt32, .int (0 : Int32), .int (3 : Int32)] h (fun v2 h1 => ((v2 = 0 → Q.1 x4 h1) ∧ (¬ v2 = 0 → (vp_in ((((60 : Int32) * x1) + (x2.toInt64 + ((3 : Int64) * x5.toInt64)).toInt32) + (1 : Int32)) 360 ∧ pX12_within [.int (h1.2 34 ((((60 : Int32) * x1) + (x2.toInt64 + ((3 : Int64) * x5.toInt64)).toInt32) + (1 : Int32)).toNatClampNeg).toInt32, .int (0 : Int32), .int (255 : Int32)] h1 (fun v4 h3 => ((v4 = 0 → Q.1 x4 h3) ∧ (¬ v4 = 0 → (vp_in ((((60 : Int32) * x1) + (x2.toInt64 + ((3 : Int64) * x5.toInt64)).toInt32) + (2 : Int32)) 360 ∧ pX12_within [.int (h3.2 34 ((((60 : Int32) * x1) + (x2.toInt64 + ((3 : Int64) * x5.toInt64)).toInt32) + (2 : Int32)).toNatClampNeg).toInt32, .int (0 : Int32), .int (255 : Int32)] h3 (fun v6 h5 => ((¬ v6 = 0 → (vp_in (((60 : Int32) * x1) + (x2.toInt64 + ((3 : Int64) * x5.toInt64)).toInt32) 360 ∧ (vp_in ((((60 : Int32) * x1) + (x2.toInt64 + ((3 : Int64) * x5.toInt64)).toInt32) + (1 : Int32)) 360 ∧ (vp_in ((((60 : Int32) * x1) + (x2.toInt64 + ((3 : Int64) * x5.toInt64)).toInt32) + (2 : Int32)) 360 ∧ pX12_newPerson [.ref 0, .int (h5.2 34 (((60 : Int32) * x1) + (x2.toInt64 + ((3 : Int64) * x5.toInt64)).toInt32).toNatClampNeg).toInt32, .int (h5.2 34 ((((60 : Int32) * x1) + (x2.toInt64 + ((3 : Int64) * x5.toInt64)).toInt32) + (1 : Int32)).toNatClampNeg).toInt32, .int (h5.2 34 ((((60 : Int32) * x1) + (x2.toInt64 + ((3 : Int64) * x5.toInt64)).toInt32) + (2 : Int32)).toNatClampNeg).toInt32] h5 (fun v8 h7 => k 50 [some (.ref 0), some (.int x1), some (.int x2), some (.int x3), some (.int (x4 + (1 : Int32))), some (.int (x5 + (1 : Int32))), some (.long (x2.toInt64 + ((3 : Int64) * x5.toInt64))), none, some (.int (((60 : Int32) * x1) + (x2.toInt64 + ((3 : Int64) * x5.toInt64)).toInt32))] [] h7))))) ∧ (v6 = 0 → Q.1 x4 h5))))))))))))) ∧ ((h.1 0 0) = (8 : Int32) → Q.1 x4 h)))))))))) : zk_R zk_D (zk_lkl lkX12) zk_mt (zk_cxl [(153, zk_iP pX12_within), (162, zk_iP pX12_isShelf), (164, zk_iP pX12_newPerson)]) (some .int) (zk_at cdX12_people) Q [50] k 94 50 [some (.ref 0), some (.int x1), some (.int x2), some (.int x3), some (.int x4), some (.int x5), some (.long x6), none, some (.int x8)] [] h := H
theorem fcX12_newCard : zk_fc mX12_newCard (zk_lkl lkX12) (zk_at cdX12_newCard) := ⟨lkX12_ok, by decide +kernel, cdX12_newCard_ok⟩
set_option maxRecDepth 100000 in
theorem bX12_newCard_0 {pX12_tells : zk_pV} {k : zk_K} {Q : zk_Q} {h : zk_H} {x1 x2 x3 : Int32} (H : (vp_in (h.1 0 7) 7 ∧ (vp_in (h.1 0 7) 7 ∧ pX12_tells [.ref 0, .int (h.1 0 7), .int x3] (zk_si (zk_si h 7 (h.1 0 7).toNatClampNeg x1) 8 (h.1 0 7).toNatClampNeg x2) (fun h1 => (vp_in (h1.1 0 7) 7 ∧ (vp_in (h1.1 0 7) 7 ∧ Q.1 (h1.1 0 7) (zk_si (zk_si (zk_si h1 12 (h1.1 0 7).toNatClampNeg (-2 : Int32)) 13 (h1.1 0 7).toNatClampNeg (-2 : Int32)) 0 7 ((h1.1 0 7) + (1 : Int32))))))))) : zk_R zk_D (zk_lkl lkX12) zk_mt (zk_cxl [(168, zk_vP pX12_tells)]) (some .int) (zk_at cdX12_newCard) Q [] k 39 0 [some (.ref 0), some (.int x1), some (.int x2), some (.int x3)] [] h := H
theorem fcX12_tells : zk_fc mX12_tells (zk_lkl lkX12) (zk_at cdX12_tells) := ⟨lkX12_ok, by decide +kernel, cdX12_tells_ok⟩
set_option maxRecDepth 100000 in
theorem bX12_tells_0  {k : zk_K} {Q : zk_Q} {h : zk_H} {x1 x2 : Int32} (H : (¬ (100 : Int32) = 0 ∧ (vp_in x1 7 ∧ (¬ (10 : Int32) = 0 ∧ (¬ (10 : Int32) = 0 ∧ (vp_in x1 7 ∧ (¬ (10 : Int32) = 0 ∧ (vp_in x1 7 ∧ Q.2.2.1 () (zk_si (zk_si (zk_si h 10 x1.toNatClampNeg ((x2 / (100 : Int32)) - (1 : Int32))) 9 x1.toNatClampNeg (((x2 / (10 : Int32)) - (x2 / (10 : Int32)) / (10 : Int32) * (10 : Int32)) - (1 : Int32))) 11 x1.toNatClampNeg (x2 - x2 / (10 : Int32) * (10 : Int32))))))))))) : zk_R zk_D (zk_lkl lkX12) zk_mt (zk_cxl []) none (zk_at cdX12_tells) Q [] k 30 0 [some (.ref 0), some (.int x1), some (.int x2)] [] h := H
theorem fcX12_card : zk_fc mX12_card (zk_lkl lkX12) (zk_at cdX12_card) := ⟨lkX12_ok, by decide +kernel, cdX12_card_ok⟩
set_option maxRecDepth 100000 in
theorem bX12_card_0 {pX12_isOne : zk_pI} {pX12_isWay : zk_pI} {pX12_newCard : zk_pI} {k : zk_K} {Q : zk_Q} {h : zk_H} {x1 x2 : Int32} (H : ((x1 < 0 → Q.1 (-1 : Int32) h) ∧ (¬ x1 < 0 → (¬ (100 : Int32) = 0 ∧ pX12_isOne [.ref 0, .int (x1 / (100 : Int32))] h (fun v2 h1 => ((v2 = 0 → Q.1 (-1 : Int32) h1) ∧ (¬ v2 = 0 → pX12_isWay [.int x2] h1 (fun v4 h3 => ((¬ v4 = 0 → ((¬ (h3.1 0 7) = (6 : Int32) → (¬ (100 : Int32) = 0 ∧ (¬ (100 : Int32) = 0 ∧ pX12_newCard [.ref 0, .int (x1 / (100 : Int32)), .int (x1 - x1 / (100 : Int32) * (100 : Int32)), .int x2] h3 (fun v6 h5 => Q.1 v6 h5)))) ∧ ((h3.1 0 7) = (6 : Int32) → Q.1 (-3 : Int32) h3))) ∧ (v4 = 0 → Q.1 (-1 : Int32) h3)))))))))) : zk_R zk_D (zk_lkl lkX12) zk_mt (zk_cxl [(154, zk_iP pX12_isOne), (160, zk_iP pX12_isWay), (167, zk_iP pX12_newCard)]) (some .int) (zk_at cdX12_card) Q [] k 27 0 [some (.ref 0), some (.int x1), some (.int x2)] [] h := H
theorem fcX12_isOf : zk_fc mX12_isOf (zk_lkl lkX12) (zk_at cdX12_isOf) := ⟨lkX12_ok, by decide +kernel, cdX12_isOf_ok⟩
set_option maxRecDepth 100000 in
theorem bX12_isOf_0 {pX12_within : zk_pI} {pX12_isOne : zk_pI} {pX12_isCard : zk_pI} {k : zk_K} {Q : zk_Q} {h : zk_H} {x1 x2 : Int32} (H : pX12_within [.int x2, .int (0 : Int32), .int (5 : Int32)] h (fun v2 h1 => ((v2 = 0 → pX12_within [.int x2, .int (6 : Int32), .int (9 : Int32)] h1 (fun v4 h3 => ((v4 = 0 → pX12_within [.int x2, .int (10 : Int32), .int (12 : Int32)] h3 (fun v6 h5 => ((v6 = 0 → (((0 : Int32) = 0 ∨ (0 : Int32) = 1) ∧ Q.1 (0 : Int32) h5)) ∧ (¬ v6 = 0 → ((¬ x1 = 0 → (((0 : Int32) = 0 ∨ (0 : Int32) = 1) ∧ Q.1 (0 : Int32) h5)) ∧ (x1 = 0 → (((1 : Int32) = 0 ∨ (1 : Int32) = 1) ∧ Q.1 (1 : Int32) h5))))))) ∧ (¬ v4 = 0 → pX12_isCard [.ref 0, .int x1] h3 (fun v8 h7 => ((v8 = 0 ∨ v8 = 1) ∧ Q.1 v8 h7)))))) ∧ (¬ v2 = 0 → pX12_isOne [.ref 0, .int x1] h1 (fun v10 h9 => ((v10 = 0 ∨ v10 = 1) ∧ Q.1 v10 h9)))))) : zk_R zk_D (zk_lkl lkX12) zk_mt (zk_cxl [(153, zk_iP pX12_within), (154, zk_iP pX12_isOne), (155, zk_iP pX12_isCard)]) (some .boolean) (zk_at cdX12_isOf) Q [] k 22 0 [some (.ref 0), some (.int x1), some (.int x2)] [] h := H
theorem fcX12_isFit : zk_fc mX12_isFit (zk_lkl lkX12) (zk_at cdX12_isFit) := ⟨lkX12_ok, by decide +kernel, cdX12_isFit_ok⟩
set_option maxRecDepth 100000 in
theorem bX12_isFit_0 {pX12_within : zk_pI} {pX12_isMinute : zk_pI} {k : zk_K} {Q : zk_Q} {h : zk_H} {x0 x1 : Int32} (H : ((x0 = (0 : Int32) → pX12_isMinute [.int x1] h (fun v24 h23 => ((v24 = 0 ∨ v24 = 1) ∧ Q.1 v24 h23))) ∧ (¬ x0 = (0 : Int32) → ((x0 = (1 : Int32) → pX12_isMinute [.int x1] h (fun v22 h21 => ((v22 = 0 ∨ v22 = 1) ∧ Q.1 v22 h21))) ∧ (¬ x0 = (1 : Int32) → ((x0 = (2 : Int32) → pX12_within [.int x1, .int (0 : Int32), .int (3 : Int32)] h (fun v20 h19 => ((v20 = 0 ∨ v20 = 1) ∧ Q.1 v20 h19))) ∧ (¬ x0 = (2 : Int32) → ((x0 = (3 : Int32) → pX12_within [.int x1, .int (0 : Int32), .int (9 : Int32)] h (fun v18 h17 => ((v18 = 0 ∨ v18 = 1) ∧ Q.1 v18 h17))) ∧ (¬ x0 = (3 : Int32) → ((x0 = (4 : Int32) → pX12_within [.int x1, .int (0 : Int32), .int (255 : Int32)] h (fun v16 h15 => ((v16 = 0 ∨ v16 = 1) ∧ Q.1 v16 h15))) ∧ (¬ x0 = (4 : Int32) → ((x0 = (5 : Int32) → pX12_within [.int x1, .int (0 : Int32), .int (255 : Int32)] h (fun v14 h13 => ((v14 = 0 ∨ v14 = 1) ∧ Q.1 v14 h13))) ∧ (¬ x0 = (5 : Int32) → ((x0 = (6 : Int32) → pX12_isMinute [.int x1] h (fun v12 h11 => ((v12 = 0 ∨ v12 = 1) ∧ Q.1 v12 h11))) ∧ (¬ x0 = (6 : Int32) → ((x0 = (7 : Int32) → pX12_within [.int x1, .int (-1 : Int32), .int (3 : Int32)] h (fun v10 h9 => ((v10 = 0 ∨ v10 = 1) ∧ Q.1 v10 h9))) ∧ (¬ x0 = (7 : Int32) → ((x0 = (8 : Int32) → pX12_within [.int x1, .int (-1 : Int32), .int (7 : Int32)] h (fun v8 h7 => ((v8 = 0 ∨ v8 = 1) ∧ Q.1 v8 h7))) ∧ (¬ x0 = (8 : Int32) → ((x0 = (9 : Int32) → pX12_within [.int x1, .int (0 : Int32), .int (1 : Int32)] h (fun v6 h5 => ((v6 = 0 ∨ v6 = 1) ∧ Q.1 v6 h5))) ∧ (¬ x0 = (9 : Int32) → ((x0 = (10 : Int32) → pX12_within [.int x1, .int (0 : Int32), .int (12 : Int32)] h (fun v4 h3 => ((v4 = 0 ∨ v4 = 1) ∧ Q.1 v4 h3))) ∧ (¬ x0 = (10 : Int32) → pX12_within [.int x1, .int (0 : Int32), .int (99 : Int32)] h (fun v2 h1 => ((v2 = 0 ∨ v2 = 1) ∧ Q.1 v2 h1))))))))))))))))))))))))) : zk_R zk_D (zk_lkl lkX12) zk_mt (zk_cxl [(153, zk_iP pX12_within), (159, zk_iP pX12_isMinute)]) (some .boolean) (zk_at cdX12_isFit) Q [] k 9 0 [some (.int x0), some (.int x1)] [] h := H
theorem fcX12_get : zk_fc mX12_get (zk_lkl lkX12) (zk_at cdX12_get) := ⟨lkX12_ok, by decide +kernel, cdX12_get_ok⟩
set_option maxRecDepth 100000 in
theorem bX12_get_0  {k : zk_K} {Q : zk_Q} {h : zk_H} {x1 x2 : Int32} (H : ((x2 = (0 : Int32) → (vp_in x1 8 ∧ Q.1 (h.1 1 x1.toNatClampNeg) h)) ∧ (¬ x2 = (0 : Int32) → ((x2 = (1 : Int32) → (vp_in x1 8 ∧ Q.1 (h.1 2 x1.toNatClampNeg) h)) ∧ (¬ x2 = (1 : Int32) → ((x2 = (2 : Int32) → (vp_in x1 8 ∧ Q.1 (h.1 3 x1.toNatClampNeg) h)) ∧ (¬ x2 = (2 : Int32) → ((x2 = (3 : Int32) → (vp_in x1 8 ∧ Q.1 (h.1 4 x1.toNatClampNeg) h)) ∧ (¬ x2 = (3 : Int32) → ((x2 = (4 : Int32) → (vp_in x1 8 ∧ Q.1 (h.1 5 x1.toNatClampNeg) h)) ∧ (¬ x2 = (4 : Int32) → ((x2 = (5 : Int32) → (vp_in x1 8 ∧ Q.1 (h.1 6 x1.toNatClampNeg) h)) ∧ (¬ x2 = (5 : Int32) → ((x2 = (6 : Int32) → (vp_in x1 7 ∧ Q.1 (h.1 8 x1.toNatClampNeg) h)) ∧ (¬ x2 = (6 : Int32) → ((x2 = (7 : Int32) → (vp_in x1 7 ∧ Q.1 (h.1 9 x1.toNatClampNeg) h)) ∧ (¬ x2 = (7 : Int32) → ((x2 = (8 : Int32) → (vp_in x1 7 ∧ Q.1 (h.1 10 x1.toNatClampNeg) h)) ∧ (¬ x2 = (8 : Int32) → ((x2 = (9 : Int32) → (vp_in x1 7 ∧ Q.1 (h.1 11 x1.toNatClampNeg) h)) ∧ (¬ x2 = (9 : Int32) → (vp_in (x2 - (10 : Int32)) 3 ∧ Q.1 (h.1 14 (x2 - (10 : Int32)).toNatClampNeg) h)))))))))))))))))))))) : zk_R zk_D (zk_lkl lkX12) zk_mt (zk_cxl []) (some .int) (zk_at cdX12_get) Q [] k 11 0 [some (.ref 0), some (.int x1), some (.int x2)] [] h := H
theorem fcX12_becomes : zk_fc mX12_becomes (zk_lkl lkX12) (zk_at cdX12_becomes) := ⟨lkX12_ok, by decide +kernel, cdX12_becomes_ok⟩
set_option maxRecDepth 100000 in
theorem bX12_becomes_0  {k : zk_K} {Q : zk_Q} {h : zk_H} {x1 x2 x3 : Int32} (H : ((x2 = (0 : Int32) → (vp_in x1 8 ∧ Q.2.2.1 () (zk_si h 1 x1.toNatClampNeg x3))) ∧ (¬ x2 = (0 : Int32) → ((x2 = (1 : Int32) → (vp_in x1 8 ∧ Q.2.2.1 () (zk_si h 2 x1.toNatClampNeg x3))) ∧ (¬ x2 = (1 : Int32) → ((x2 = (2 : Int32) → (vp_in x1 8 ∧ Q.2.2.1 () (zk_si h 3 x1.toNatClampNeg x3))) ∧ (¬ x2 = (2 : Int32) → ((x2 = (3 : Int32) → (vp_in x1 8 ∧ Q.2.2.1 () (zk_si h 4 x1.toNatClampNeg x3))) ∧ (¬ x2 = (3 : Int32) → ((x2 = (4 : Int32) → (vp_in x1 8 ∧ Q.2.2.1 () (zk_si h 5 x1.toNatClampNeg x3))) ∧ (¬ x2 = (4 : Int32) → ((x2 = (5 : Int32) → (vp_in x1 8 ∧ Q.2.2.1 () (zk_si h 6 x1.toNatClampNeg x3))) ∧ (¬ x2 = (5 : Int32) → ((x2 = (6 : Int32) → (vp_in x1 7 ∧ Q.2.2.1 () (zk_si h 8 x1.toNatClampNeg x3))) ∧ (¬ x2 = (6 : Int32) → ((x2 = (7 : Int32) → (vp_in x1 7 ∧ Q.2.2.1 () (zk_si h 9 x1.toNatClampNeg x3))) ∧ (¬ x2 = (7 : Int32) → ((x2 = (8 : Int32) → (vp_in x1 7 ∧ Q.2.2.1 () (zk_si h 10 x1.toNatClampNeg x3))) ∧ (¬ x2 = (8 : Int32) → ((x2 = (9 : Int32) → (vp_in x1 7 ∧ Q.2.2.1 () (zk_si h 11 x1.toNatClampNeg x3))) ∧ (¬ x2 = (9 : Int32) → (vp_in (x2 - (10 : Int32)) 3 ∧ Q.2.2.1 () (zk_si h 14 (x2 - (10 : Int32)).toNatClampNeg x3))))))))))))))))))))))) : zk_R zk_D (zk_lkl lkX12) zk_mt (zk_cxl []) none (zk_at cdX12_becomes) Q [] k 12 0 [some (.ref 0), some (.int x1), some (.int x2), some (.int x3)] [] h := H
theorem fcX12_mend : zk_fc mX12_mend (zk_lkl lkX12) (zk_at cdX12_mend) := ⟨lkX12_ok, by decide +kernel, cdX12_mend_ok⟩
set_option maxRecDepth 100000 in
theorem bX12_mend_0 {pX12_isOf : zk_pI} {pX12_isFit : zk_pI} {pX12_get : zk_pI} {pX12_becomes : zk_pV} {k : zk_K} {Q : zk_Q} {h : zk_H} {x1 x2 x3 : Int32} (H : pX12_isOf [.ref 0, .int x1, .int x2] h (fun v2 h1 => ((v2 = 0 → Q.1 (-2000000000 : Int32) h1) ∧ (¬ v2 = 0 → pX12_isFit [.int x2, .int x3] h1 (fun v4 h3 => ((¬ v4 = 0 → pX12_get [.ref 0, .int x1, .int x2] h3 (fun v6 h5 => ((¬ v6 = x3 → pX12_becomes [.ref 0, .int x1, .int x2, .int x3] h5 (fun h7 => ((¬ (h7.1 0 42) = (40 : Int32) → (vp_in ((4 : Int32) * (h7.1 0 42)) 160 ∧ (vp_in (((4 : Int32) * (h7.1 0 42)) + (1 : Int32)) 160 ∧ (vp_in (((4 : Int32) * (h7.1 0 42)) + (2 : Int32)) 160 ∧ (vp_in (((4 : Int32) * (h7.1 0 42)) + (3 : Int32)) 160 ∧ Q.1 v6 (zk_si (zk_si (zk_si (zk_si (zk_si (zk_si h7 29 ((4 : Int32) * (h7.1 0 42)).toNatClampNeg x1) 29 (((4 : Int32) * (h7.1 0 42)) + (1 : Int32)).toNatClampNeg x2) 29 (((4 : Int32) * (h7.1 0 42)) + (2 : Int32)).toNatClampNeg v6) 29 (((4 : Int32) * (h7.1 0 42)) + (3 : Int32)).toNatClampNeg x3) 0 42 ((h7.1 0 42) + (1 : Int32))) 0 41 ((h7.1 0 42) + (1 : Int32)))))))) ∧ ((h7.1 0 42) = (40 : Int32) → k 56 [some (.ref 0), some (.int x1), some (.int x2), some (.int x3), some (.int v6), some (.int (0 : Int32))] [] h7)))) ∧ (v6 = x3 → Q.1 v6 h5)))) ∧ (v4 = 0 → Q.1 (-2000000000 : Int32) h3))))))) : zk_R zk_D (zk_lkl lkX12) zk_mt (zk_cxl [(170, zk_iP pX12_isOf), (171, zk_iP pX12_isFit), (172, zk_iP pX12_get), (173, zk_vP pX12_becomes)]) (some .int) (zk_at cdX12_mend) Q [56] k 78 0 [some (.ref 0), some (.int x1), some (.int x2), some (.int x3), none, none] [] h := H
set_option maxRecDepth 100000 in
theorem bX12_mend_56 {pX12_isOf : zk_pI} {pX12_isFit : zk_pI} {pX12_get : zk_pI} {pX12_becomes : zk_pV} {k : zk_K} {Q : zk_Q} {h : zk_H} {x1 x2 x3 x4 x5 : Int32} (H : (((156 : Int32) ≤ x5 → (vp_in ((4 : Int32) * ((h.1 0 42) - (1 : Int32))) 160 ∧ (vp_in (((4 : Int32) * ((h.1 0 42) - (1 : Int32))) + (1 : Int32)) 160 ∧ (vp_in (((4 : Int32) * ((h.1 0 42) - (1 : Int32))) + (2 : Int32)) 160 ∧ (vp_in (((4 : Int32) * ((h.1 0 42) - (1 : Int32))) + (3 : Int32)) 160 ∧ Q.1 x4 (zk_si (zk_si (zk_si (zk_si (zk_si (zk_si (zk_si h 0 42 ((h.1 0 42) - (1 : Int32))) 29 ((4 : Int32) * ((h.1 0 42) - (1 : Int32))).toNatClampNeg x1) 29 (((4 : Int32) * ((h.1 0 42) - (1 : Int32))) + (1 : Int32)).toNatClampNeg x2) 29 (((4 : Int32) * ((h.1 0 42) - (1 : Int32))) + (2 : Int32)).toNatClampNeg x4) 29 (((4 : Int32) * ((h.1 0 42) - (1 : Int32))) + (3 : Int32)).toNatClampNeg x3) 0 42 (((h.1 0 42) - (1 : Int32)) + (1 : Int32))) 0 41 (((h.1 0 42) - (1 : Int32)) + (1 : Int32)))))))) ∧ (¬ (156 : Int32) ≤ x5 → (vp_in (x5 + (4 : Int32)) 160 ∧ (vp_in x5 160 ∧ k 56 [some (.ref 0), some (.int x1), some (.int x2), some (.int x3), some (.int x4), some (.int (x5 + (1 : Int32)))] [] (zk_si h 29 x5.toNatClampNeg (h.1 29 (x5 + (4 : Int32)).toNatClampNeg))))))) : zk_R zk_D (zk_lkl lkX12) zk_mt (zk_cxl [(170, zk_iP pX12_isOf), (171, zk_iP pX12_isFit), (172, zk_iP pX12_get), (173, zk_vP pX12_becomes)]) (some .int) (zk_at cdX12_mend) Q [56] k 61 56 [some (.ref 0), some (.int x1), some (.int x2), some (.int x3), some (.int x4), some (.int x5)] [] h := H
theorem fcX12_of : zk_fc mX12_of (zk_lkl lkX12) (zk_at cdX12_of) := ⟨lkX12_ok, by decide +kernel, cdX12_of_ok⟩
set_option maxRecDepth 100000 in
theorem bX12_of_0 {pX12_within : zk_pI} {pX12_isCard : zk_pI} {pX12_isOf : zk_pI} {pX12_get : zk_pI} {k : zk_K} {Q : zk_Q} {h : zk_H} {x1 x2 : Int32} (H : pX12_within [.int x2, .int (13 : Int32), .int (15 : Int32)] h (fun v2 h1 => ((v2 = 0 → pX12_isOf [.ref 0, .int x1, .int x2] h1 (fun v4 h3 => ((v4 = 0 → Q.1 (-2000000000 : Int32) h3) ∧ (¬ v4 = 0 → pX12_get [.ref 0, .int x1, .int x2] h3 (fun v6 h5 => Q.1 v6 h5))))) ∧ (¬ v2 = 0 → pX12_isCard [.ref 0, .int x1] h1 (fun v8 h7 => ((¬ v8 = 0 → ((¬ x2 = (13 : Int32) → ((¬ x2 = (14 : Int32) → (vp_in x1 7 ∧ Q.1 (h7.1 13 x1.toNatClampNeg) h7)) ∧ (x2 = (14 : Int32) → (vp_in x1 7 ∧ Q.1 (h7.1 12 x1.toNatClampNeg) h7)))) ∧ (x2 = (13 : Int32) → (vp_in x1 7 ∧ Q.1 (h7.1 7 x1.toNatClampNeg) h7)))) ∧ (v8 = 0 → Q.1 (-2000000000 : Int32) h7))))))) : zk_R zk_D (zk_lkl lkX12) zk_mt (zk_cxl [(153, zk_iP pX12_within), (155, zk_iP pX12_isCard), (170, zk_iP pX12_isOf), (172, zk_iP pX12_get)]) (some .int) (zk_at cdX12_of) Q [] k 23 0 [some (.ref 0), some (.int x1), some (.int x2)] [] h := H
theorem fcX12_undo : zk_fc mX12_undo (zk_lkl lkX12) (zk_at cdX12_undo) := ⟨lkX12_ok, by decide +kernel, cdX12_undo_ok⟩
set_option maxRecDepth 100000 in
theorem bX12_undo_0 {pX12_becomes : zk_pV} {k : zk_K} {Q : zk_Q} {h : zk_H}  (H : ((¬ (h.1 0 42) = 0 → (vp_in ((4 : Int32) * ((h.1 0 42) - (1 : Int32))) 160 ∧ (vp_in (((4 : Int32) * ((h.1 0 42) - (1 : Int32))) + (1 : Int32)) 160 ∧ (vp_in (((4 : Int32) * ((h.1 0 42) - (1 : Int32))) + (2 : Int32)) 160 ∧ pX12_becomes [.ref 0, .int (h.1 29 ((4 : Int32) * ((h.1 0 42) - (1 : Int32))).toNatClampNeg), .int (h.1 29 (((4 : Int32) * ((h.1 0 42) - (1 : Int32))) + (1 : Int32)).toNatClampNeg), .int (h.1 29 (((4 : Int32) * ((h.1 0 42) - (1 : Int32))) + (2 : Int32)).toNatClampNeg)] (zk_si h 0 42 ((h.1 0 42) - (1 : Int32))) (fun h1 => Q.1 (h1.1 0 42) h1))))) ∧ ((h.1 0 42) = 0 → Q.1 (-5 : Int32) h))) : zk_R zk_D (zk_lkl lkX12) zk_mt (zk_cxl [(173, zk_vP pX12_becomes)]) (some .int) (zk_at cdX12_undo) Q [] k 41 0 [some (.ref 0)] [] h := H
theorem fcX12_redo : zk_fc mX12_redo (zk_lkl lkX12) (zk_at cdX12_redo) := ⟨lkX12_ok, by decide +kernel, cdX12_redo_ok⟩
set_option maxRecDepth 100000 in
theorem bX12_redo_0 {pX12_becomes : zk_pV} {k : zk_K} {Q : zk_Q} {h : zk_H}  (H : ((¬ (h.1 0 42) = (h.1 0 41) → (vp_in ((4 : Int32) * (h.1 0 42)) 160 ∧ (vp_in (((4 : Int32) * (h.1 0 42)) + (1 : Int32)) 160 ∧ (vp_in (((4 : Int32) * (h.1 0 42)) + (3 : Int32)) 160 ∧ pX12_becomes [.ref 0, .int (h.1 29 ((4 : Int32) * (h.1 0 42)).toNatClampNeg), .int (h.1 29 (((4 : Int32) * (h.1 0 42)) + (1 : Int32)).toNatClampNeg), .int (h.1 29 (((4 : Int32) * (h.1 0 42)) + (3 : Int32)).toNatClampNeg)] h (fun h1 => Q.1 ((h1.1 0 41) - ((h1.1 0 42) + (1 : Int32))) (zk_si h1 0 42 ((h1.1 0 42) + (1 : Int32)))))))) ∧ ((h.1 0 42) = (h.1 0 41) → Q.1 (-5 : Int32) h))) : zk_R zk_D (zk_lkl lkX12) zk_mt (zk_cxl [(173, zk_vP pX12_becomes)]) (some .int) (zk_at cdX12_redo) Q [] k 46 0 [some (.ref 0)] [] h := H
theorem fcX12_feed : zk_fc mX12_feed (zk_lkl lkX12) (zk_at cdX12_feed) := ⟨lkX12_ok, by decide +kernel, cdX12_feed_ok⟩
set_option maxRecDepth 100000 in
theorem bX12_feed_0 {pX12_within : zk_pI} {k : zk_K} {Q : zk_Q} {h : zk_H} {x1 : Int32} (H : pX12_within [.int x1, .int (0 : Int32), .int (255 : Int32)] h (fun v2 h1 => ((¬ v2 = 0 → ((¬ (h1.1 0 17) = (120 : Int32) → (vp_in (h1.1 0 17) 120 ∧ Q.1 ((h1.1 0 17) + (1 : Int32)) (zk_si (zk_si h1 0 17 ((h1.1 0 17) + (1 : Int32))) 15 (h1.1 0 17).toNatClampNeg x1))) ∧ ((h1.1 0 17) = (120 : Int32) → Q.1 (-3 : Int32) h1))) ∧ (v2 = 0 → Q.1 (-1 : Int32) h1)))) : zk_R zk_D (zk_lkl lkX12) zk_mt (zk_cxl [(153, zk_iP pX12_within)]) (some .int) (zk_at cdX12_feed) Q [] k 25 0 [some (.ref 0), some (.int x1)] [] h := H
theorem fcX12_sign : zk_fc mX12_sign (zk_lkl lkX12) (zk_at cdX12_sign) := ⟨lkX12_ok, by decide +kernel, cdX12_sign_ok⟩
set_option maxRecDepth 100000 in
theorem bX12_sign_0  {k : zk_K} {Q : zk_Q} {h : zk_H}  (H : (((h.1 0 17) ≤ (h.1 0 25) → Q.1 (-1 : Int32) h) ∧ (¬ (h.1 0 17) ≤ (h.1 0 25) → (vp_in (h.1 0 25) 120 ∧ Q.1 (h.1 15 (h.1 0 25).toNatClampNeg) h)))) : zk_R zk_D (zk_lkl lkX12) zk_mt (zk_cxl []) (some .int) (zk_at cdX12_sign) Q [] k 14 0 [some (.ref 0)] [] h := H
theorem fcX12_is : zk_fc mX12_is (zk_lkl lkX12) (zk_at cdX12_is) := ⟨lkX12_ok, by decide +kernel, cdX12_is_ok⟩
set_option maxRecDepth 100000 in
theorem bX12_is_0 {pX12_sign : zk_pI} {k : zk_K} {Q : zk_Q} {h : zk_H} {x1 : Int32} (H : pX12_sign [.ref 0] h (fun v2 h1 => ((v2 = x1 → (((1 : Int32) = 0 ∨ (1 : Int32) = 1) ∧ Q.1 (1 : Int32) (zk_si h1 0 25 ((h1.1 0 25) + (1 : Int32))))) ∧ (¬ v2 = x1 → (((0 : Int32) = 0 ∨ (0 : Int32) = 1) ∧ Q.1 (0 : Int32) h1))))) : zk_R zk_D (zk_lkl lkX12) zk_mt (zk_cxl [(179, zk_iP pX12_sign)]) (some .boolean) (zk_at cdX12_is) Q [] k 14 0 [some (.ref 0), some (.int x1)] [] h := H
theorem fcX12_codes : zk_fc mX12_codes (zk_lkl lkX12) (zk_at cdX12_codes) := ⟨lkX12_ok, by decide +kernel, cdX12_codes_ok⟩
set_option maxRecDepth 100000 in
theorem bX12_codes_0  {k : zk_K} {Q : zk_Q} {h : zk_H} {x1 : Int32} (H : (vp_in (h.1 0 27) 200 ∧ (((1 : Int32) = 0 ∨ (1 : Int32) = 1) ∧ Q.1 (1 : Int32) (zk_si (zk_si h 0 27 ((h.1 0 27) + (1 : Int32))) 23 (h.1 0 27).toNatClampNeg x1)))) : zk_R zk_D (zk_lkl lkX12) zk_mt (zk_cxl []) (some .boolean) (zk_at cdX12_codes) Q [] k 15 0 [some (.ref 0), some (.int x1)] [] h := H
theorem fcX12_isDigit : zk_fc mX12_isDigit (zk_lkl lkX12) (zk_at cdX12_isDigit) := ⟨lkX12_ok, by decide +kernel, cdX12_isDigit_ok⟩
set_option maxRecDepth 100000 in
theorem bX12_isDigit_0 {pX12_sign : zk_pI} {k : zk_K} {Q : zk_Q} {h : zk_H}  (H : pX12_sign [.ref 0] h (fun v2 h1 => ((v2 < (48 : Int32) → (((0 : Int32) = 0 ∨ (0 : Int32) = 1) ∧ Q.1 (0 : Int32) h1)) ∧ (¬ v2 < (48 : Int32) → pX12_sign [.ref 0] h1 (fun v4 h3 => (((57 : Int32) < v4 → (((0 : Int32) = 0 ∨ (0 : Int32) = 1) ∧ Q.1 (0 : Int32) h3)) ∧ (¬ (57 : Int32) < v4 → (((1 : Int32) = 0 ∨ (1 : Int32) = 1) ∧ Q.1 (1 : Int32) h3)))))))) : zk_R zk_D (zk_lkl lkX12) zk_mt (zk_cxl [(179, zk_iP pX12_sign)]) (some .boolean) (zk_at cdX12_isDigit) Q [] k 13 0 [some (.ref 0)] [] h := H
theorem fcX12_nameOf : zk_fc mX12_nameOf (zk_lkl lkX12) (zk_at cdX12_nameOf) := ⟨lkX12_ok, by decide +kernel, cdX12_nameOf_ok⟩
set_option maxRecDepth 100000 in
theorem bX12_nameOf_0  {k : zk_K} {Q : zk_Q} {h : zk_H} {x0 : Int32} (H : ((x0 = (99 : Int32) → Q.1 (5 : Int32) h) ∧ (¬ x0 = (99 : Int32) → ((x0 = (100 : Int32) → Q.1 (-1 : Int32) h) ∧ (¬ x0 = (100 : Int32) → ((x0 = (101 : Int32) → Q.1 (-1 : Int32) h) ∧ (¬ x0 = (101 : Int32) → ((x0 = (102 : Int32) → Q.1 (-1 : Int32) h) ∧ (¬ x0 = (102 : Int32) → ((x0 = (103 : Int32) → Q.1 (-1 : Int32) h) ∧ (¬ x0 = (103 : Int32) → ((x0 = (104 : Int32) → Q.1 (1 : Int32) h) ∧ (¬ x0 = (104 : Int32) → ((x0 = (105 : Int32) → Q.1 (-1 : Int32) h) ∧ (¬ x0 = (105 : Int32) → ((x0 = (106 : Int32) → Q.1 (-1 : Int32) h) ∧ (¬ x0 = (106 : Int32) → ((x0 = (107 : Int32) → Q.1 (3 : Int32) h) ∧ (¬ x0 = (107 : Int32) → ((x0 = (108 : Int32) → Q.1 (0 : Int32) h) ∧ (¬ x0 = (108 : Int32) → ((x0 = (109 : Int32) → Q.1 (4 : Int32) h) ∧ (¬ x0 = (109 : Int32) → ((x0 = (110 : Int32) → Q.1 (-1 : Int32) h) ∧ (¬ x0 = (110 : Int32) → ((x0 = (111 : Int32) → Q.1 (-1 : Int32) h) ∧ (¬ x0 = (111 : Int32) → ((x0 = (112 : Int32) → Q.1 (-1 : Int32) h) ∧ (¬ x0 = (112 : Int32) → ((x0 = (113 : Int32) → Q.1 (-1 : Int32) h) ∧ (¬ x0 = (113 : Int32) → ((x0 = (114 : Int32) → Q.1 (-1 : Int32) h) ∧ (¬ x0 = (114 : Int32) → ((x0 = (115 : Int32) → Q.1 (2 : Int32) h) ∧ (¬ x0 = (115 : Int32) → Q.1 (-1 : Int32) h))))))))))))))))))))))))))))))))))) : zk_R zk_D (zk_lkl lkX12) zk_mt (zk_cxl []) (some .int) (zk_at cdX12_nameOf) Q [] k 6 0 [some (.int x0)] [] h := H
theorem fcX12_isO : zk_fc mX12_isO (zk_lkl lkX12) (zk_at cdX12_isO) := ⟨lkX12_ok, by decide +kernel, cdX12_isO_ok⟩
set_option maxRecDepth 100000 in
theorem bX12_isO_0 {pX12_sign : zk_pI} {pX12_is : zk_pI} {pX12_codes : zk_pI} {pX12_isDigit : zk_pI} {pX12_nameOf : zk_pI} {pX12_isO : zk_pI} {pX12_isE : zk_pI} {k : zk_K} {Q : zk_Q} {h : zk_H}  (H : pX12_isDigit [.ref 0] h (fun v2 h1 => ((v2 = 0 → pX12_sign [.ref 0] h1 (fun v4 h3 => pX12_nameOf [.int v4] h3 (fun v6 h5 => ((v6 < 0 → ((¬ (h5.1 0 26) = (6 : Int32) → pX12_is [.ref 0, .int (33 : Int32)] (zk_si h5 0 26 ((h5.1 0 26) + (1 : Int32))) (fun v8 h7 => ((v8 = 0 → pX12_is [.ref 0, .int (45 : Int32)] h7 (fun v10 h9 => ((v10 = 0 → pX12_is [.ref 0, .int (40 : Int32)] h9 (fun v12 h11 => ((v12 = 0 → (((0 : Int32) = 0 ∨ (0 : Int32) = 1) ∧ Q.1 (0 : Int32) (zk_si h11 0 26 ((h11.1 0 26) - (1 : Int32))))) ∧ (¬ v12 = 0 → pX12_isE [.ref 0] h11 (fun v14 h13 => ((v14 = 0 → (((0 : Int32) = 0 ∨ (0 : Int32) = 1) ∧ Q.1 (0 : Int32) (zk_si h13 0 26 ((h13.1 0 26) - (1 : Int32))))) ∧ (¬ v14 = 0 → pX12_is [.ref 0, .int (41 : Int32)] h13 (fun v16 h15 => ((v16 = 0 → (((0 : Int32) = 0 ∨ (0 : Int32) = 1) ∧ Q.1 (0 : Int32) (zk_si h15 0 26 ((h15.1 0 26) - (1 : Int32))))) ∧ (¬ v16 = 0 → (((1 : Int32) = 0 ∨ (1 : Int32) = 1) ∧ Q.1 (1 : Int32) (zk_si h15 0 26 ((h15.1 0 26) - (1 : Int32)))))))))))))) ∧ (¬ v10 = 0 → pX12_isO [.ref 0] h9 (fun v18 h17 => ((v18 = 0 → (((0 : Int32) = 0 ∨ (0 : Int32) = 1) ∧ Q.1 (0 : Int32) (zk_si h17 0 26 ((h17.1 0 26) - (1 : Int32))))) ∧ (¬ v18 = 0 → pX12_codes [.ref 0, .int (17 : Int32)] h17 (fun v20 h19 => ((v20 = 0 → (((0 : Int32) = 0 ∨ (0 : Int32) = 1) ∧ Q.1 (0 : Int32) (zk_si h19 0 26 ((h19.1 0 26) - (1 : Int32))))) ∧ (¬ v20 = 0 → (((1 : Int32) = 0 ∨ (1 : Int32) = 1) ∧ Q.1 (1 : Int32) (zk_si h19 0 26 ((h19.1 0 26) - (1 : Int32)))))))))))))) ∧ (¬ v8 = 0 → pX12_isO [.ref 0] h7 (fun v22 h21 => ((v22 = 0 → (((0 : Int32) = 0 ∨ (0 : Int32) = 1) ∧ Q.1 (0 : Int32) (zk_si h21 0 26 ((h21.1 0 26) - (1 : Int32))))) ∧ (¬ v22 = 0 → pX12_codes [.ref 0, .int (16 : Int32)] h21 (fun v24 h23 => ((v24 = 0 → (((0 : Int32) = 0 ∨ (0 : Int32) = 1) ∧ Q.1 (0 : Int32) (zk_si h23 0 26 ((h23.1 0 26) - (1 : Int32))))) ∧ (¬ v24 = 0 → (((1 : Int32) = 0 ∨ (1 : Int32) = 1) ∧ Q.1 (1 : Int32) (zk_si h23 0 26 ((h23.1 0 26) - (1 : Int32)))))))))))))) ∧ ((h5.1 0 26) = (6 : Int32) → (((0 : Int32) = 0 ∨ (0 : Int32) = 1) ∧ Q.1 (0 : Int32) h5)))) ∧ (¬ v6 < 0 → pX12_codes [.ref 0, .int v6] (zk_si h5 0 25 ((h5.1 0 25) + (1 : Int32))) (fun v26 h25 => ((v26 = 0 ∨ v26 = 1) ∧ Q.1 v26 h25))))))) ∧ (¬ v2 = 0 → k 11 [some (.ref 0), some (.int (0 : Int32)), some (.int (0 : Int32))] [] h1)))) : zk_R zk_D (zk_lkl lkX12) zk_mt (zk_cxl [(179, zk_iP pX12_sign), (180, zk_iP pX12_is), (181, zk_iP pX12_codes), (182, zk_iP pX12_isDigit), (183, zk_iP pX12_nameOf), (184, zk_iP pX12_isO), (189, zk_iP pX12_isE)]) (some .boolean) (zk_at cdX12_isO) Q [11] k 51 0 [some (.ref 0), none, none] [] h := H
set_option maxRecDepth 100000 in
theorem bX12_isO_11 {pX12_sign : zk_pI} {pX12_is : zk_pI} {pX12_codes : zk_pI} {pX12_isDigit : zk_pI} {pX12_nameOf : zk_pI} {pX12_isO : zk_pI} {pX12_isE : zk_pI} {k : zk_K} {Q : zk_Q} {h : zk_H} {x1 x2 : Int32} (H : (((4 : Int32) ≤ x2 → pX12_codes [.ref 0, .int ((18 : Int32) + x1)] h (fun v2 h1 => ((v2 = 0 ∨ v2 = 1) ∧ Q.1 v2 h1))) ∧ (¬ (4 : Int32) ≤ x2 → pX12_isDigit [.ref 0] h (fun v4 h3 => ((v4 = 0 → pX12_codes [.ref 0, .int ((18 : Int32) + x1)] h3 (fun v6 h5 => ((v6 = 0 ∨ v6 = 1) ∧ Q.1 v6 h5))) ∧ (¬ v4 = 0 → (vp_in (h3.1 0 25) 120 ∧ k 11 [some (.ref 0), some (.int ((((10 : Int32) * x1) + (h3.1 15 (h3.1 0 25).toNatClampNeg)) - (48 : Int32))), some (.int (x2 + (1 : Int32)))] [] (zk_si h3 0 25 ((h3.1 0 25) + (1 : Int32)))))))))) : zk_R zk_D (zk_lkl lkX12) zk_mt (zk_cxl [(179, zk_iP pX12_sign), (180, zk_iP pX12_is), (181, zk_iP pX12_codes), (182, zk_iP pX12_isDigit), (183, zk_iP pX12_nameOf), (184, zk_iP pX12_isO), (189, zk_iP pX12_isE)]) (some .boolean) (zk_at cdX12_isO) Q [11] k 28 11 [some (.ref 0), some (.int x1), some (.int x2)] [] h := H
theorem fcX12_isP : zk_fc mX12_isP (zk_lkl lkX12) (zk_at cdX12_isP) := ⟨lkX12_ok, by decide +kernel, cdX12_isP_ok⟩
set_option maxRecDepth 100000 in
theorem bX12_isP_0 {pX12_sign : zk_pI} {pX12_codes : zk_pI} {pX12_isO : zk_pI} {k : zk_K} {Q : zk_Q} {h : zk_H}  (H : pX12_isO [.ref 0] h (fun v2 h1 => ((¬ v2 = 0 → k 9 [some (.ref 0), none] [] h1) ∧ (v2 = 0 → (((0 : Int32) = 0 ∨ (0 : Int32) = 1) ∧ Q.1 (0 : Int32) h1))))) : zk_R zk_D (zk_lkl lkX12) zk_mt (zk_cxl [(179, zk_iP pX12_sign), (181, zk_iP pX12_codes), (184, zk_iP pX12_isO)]) (some .boolean) (zk_at cdX12_isP) Q [9] k 7 0 [some (.ref 0), none] [] h := H
set_option maxRecDepth 100000 in
theorem bX12_isP_9 {pX12_sign : zk_pI} {pX12_codes : zk_pI} {pX12_isO : zk_pI} {k : zk_K} {Q : zk_Q} {h : zk_H}  (H : pX12_sign [.ref 0] h (fun v2 h1 => ((¬ v2 = (42 : Int32) → pX12_sign [.ref 0] h1 (fun v4 h3 => ((¬ v4 = (47 : Int32) → pX12_sign [.ref 0] h3 (fun v6 h5 => ((¬ v6 = (37 : Int32) → ((0 ≤ (-1 : Int32) → pX12_isO [.ref 0] (zk_si h5 0 25 ((h5.1 0 25) + (1 : Int32))) (fun v8 h7 => ((¬ v8 = 0 → pX12_codes [.ref 0, .int (-1 : Int32)] h7 (fun v10 h9 => k 9 [some (.ref 0), some (.int (-1 : Int32))] [] h9)) ∧ (v8 = 0 → (((0 : Int32) = 0 ∨ (0 : Int32) = 1) ∧ Q.1 (0 : Int32) h7))))) ∧ (¬ 0 ≤ (-1 : Int32) → (((1 : Int32) = 0 ∨ (1 : Int32) = 1) ∧ Q.1 (1 : Int32) h5)))) ∧ (v6 = (37 : Int32) → ((0 ≤ (15 : Int32) → pX12_isO [.ref 0] (zk_si h5 0 25 ((h5.1 0 25) + (1 : Int32))) (fun v12 h11 => ((¬ v12 = 0 → pX12_codes [.ref 0, .int (15 : Int32)] h11 (fun v14 h13 => k 9 [some (.ref 0), some (.int (15 : Int32))] [] h13)) ∧ (v12 = 0 → (((0 : Int32) = 0 ∨ (0 : Int32) = 1) ∧ Q.1 (0 : Int32) h11))))) ∧ (¬ 0 ≤ (15 : Int32) → (((1 : Int32) = 0 ∨ (1 : Int32) = 1) ∧ Q.1 (1 : Int32) h5))))))) ∧ (v4 = (47 : Int32) → ((0 ≤ (14 : Int32) → pX12_isO [.ref 0] (zk_si h3 0 25 ((h3.1 0 25) + (1 : Int32))) (fun v16 h15 => ((¬ v16 = 0 → pX12_codes [.ref 0, .int (14 : Int32)] h15 (fun v18 h17 => k 9 [some (.ref 0), some (.int (14 : Int32))] [] h17)) ∧ (v16 = 0 → (((0 : Int32) = 0 ∨ (0 : Int32) = 1) ∧ Q.1 (0 : Int32) h15))))) ∧ (¬ 0 ≤ (14 : Int32) → (((1 : Int32) = 0 ∨ (1 : Int32) = 1) ∧ Q.1 (1 : Int32) h3))))))) ∧ (v2 = (42 : Int32) → ((0 ≤ (13 : Int32) → pX12_isO [.ref 0] (zk_si h1 0 25 ((h1.1 0 25) + (1 : Int32))) (fun v20 h19 => ((¬ v20 = 0 → pX12_codes [.ref 0, .int (13 : Int32)] h19 (fun v22 h21 => k 9 [some (.ref 0), some (.int (13 : Int32))] [] h21)) ∧ (v20 = 0 → (((0 : Int32) = 0 ∨ (0 : Int32) = 1) ∧ Q.1 (0 : Int32) h19))))) ∧ (¬ 0 ≤ (13 : Int32) → (((1 : Int32) = 0 ∨ (1 : Int32) = 1) ∧ Q.1 (1 : Int32) h1))))))) : zk_R zk_D (zk_lkl lkX12) zk_mt (zk_cxl [(179, zk_iP pX12_sign), (181, zk_iP pX12_codes), (184, zk_iP pX12_isO)]) (some .boolean) (zk_at cdX12_isP) Q [9] k 33 9 [some (.ref 0), none] [] h := H
theorem fcX12_isS : zk_fc mX12_isS (zk_lkl lkX12) (zk_at cdX12_isS) := ⟨lkX12_ok, by decide +kernel, cdX12_isS_ok⟩
set_option maxRecDepth 100000 in
theorem bX12_isS_0 {pX12_sign : zk_pI} {pX12_codes : zk_pI} {pX12_isP : zk_pI} {k : zk_K} {Q : zk_Q} {h : zk_H}  (H : pX12_isP [.ref 0] h (fun v2 h1 => ((¬ v2 = 0 → k 9 [some (.ref 0), none] [] h1) ∧ (v2 = 0 → (((0 : Int32) = 0 ∨ (0 : Int32) = 1) ∧ Q.1 (0 : Int32) h1))))) : zk_R zk_D (zk_lkl lkX12) zk_mt (zk_cxl [(179, zk_iP pX12_sign), (181, zk_iP pX12_codes), (185, zk_iP pX12_isP)]) (some .boolean) (zk_at cdX12_isS) Q [9] k 7 0 [some (.ref 0), none] [] h := H
set_option maxRecDepth 100000 in
theorem bX12_isS_9 {pX12_sign : zk_pI} {pX12_codes : zk_pI} {pX12_isP : zk_pI} {k : zk_K} {Q : zk_Q} {h : zk_H}  (H : pX12_sign [.ref 0] h (fun v2 h1 => ((¬ v2 = (43 : Int32) → pX12_sign [.ref 0] h1 (fun v4 h3 => ((¬ v4 = (45 : Int32) → ((0 ≤ (-1 : Int32) → pX12_isP [.ref 0] (zk_si h3 0 25 ((h3.1 0 25) + (1 : Int32))) (fun v6 h5 => ((¬ v6 = 0 → pX12_codes [.ref 0, .int (-1 : Int32)] h5 (fun v8 h7 => k 9 [some (.ref 0), some (.int (-1 : Int32))] [] h7)) ∧ (v6 = 0 → (((0 : Int32) = 0 ∨ (0 : Int32) = 1) ∧ Q.1 (0 : Int32) h5))))) ∧ (¬ 0 ≤ (-1 : Int32) → (((1 : Int32) = 0 ∨ (1 : Int32) = 1) ∧ Q.1 (1 : Int32) h3)))) ∧ (v4 = (45 : Int32) → ((0 ≤ (12 : Int32) → pX12_isP [.ref 0] (zk_si h3 0 25 ((h3.1 0 25) + (1 : Int32))) (fun v10 h9 => ((¬ v10 = 0 → pX12_codes [.ref 0, .int (12 : Int32)] h9 (fun v12 h11 => k 9 [some (.ref 0), some (.int (12 : Int32))] [] h11)) ∧ (v10 = 0 → (((0 : Int32) = 0 ∨ (0 : Int32) = 1) ∧ Q.1 (0 : Int32) h9))))) ∧ (¬ 0 ≤ (12 : Int32) → (((1 : Int32) = 0 ∨ (1 : Int32) = 1) ∧ Q.1 (1 : Int32) h3))))))) ∧ (v2 = (43 : Int32) → ((0 ≤ (11 : Int32) → pX12_isP [.ref 0] (zk_si h1 0 25 ((h1.1 0 25) + (1 : Int32))) (fun v14 h13 => ((¬ v14 = 0 → pX12_codes [.ref 0, .int (11 : Int32)] h13 (fun v16 h15 => k 9 [some (.ref 0), some (.int (11 : Int32))] [] h15)) ∧ (v14 = 0 → (((0 : Int32) = 0 ∨ (0 : Int32) = 1) ∧ Q.1 (0 : Int32) h13))))) ∧ (¬ 0 ≤ (11 : Int32) → (((1 : Int32) = 0 ∨ (1 : Int32) = 1) ∧ Q.1 (1 : Int32) h1))))))) : zk_R zk_D (zk_lkl lkX12) zk_mt (zk_cxl [(179, zk_iP pX12_sign), (181, zk_iP pX12_codes), (185, zk_iP pX12_isP)]) (some .boolean) (zk_at cdX12_isS) Q [9] k 29 9 [some (.ref 0), none] [] h := H
theorem fcX12_isB : zk_fc mX12_isB (zk_lkl lkX12) (zk_at cdX12_isB) := ⟨lkX12_ok, by decide +kernel, cdX12_isB_ok⟩
set_option maxRecDepth 100000 in
theorem bX12_isB_0 {pX12_sign : zk_pI} {pX12_codes : zk_pI} {pX12_isS : zk_pI} {k : zk_K} {Q : zk_Q} {h : zk_H}  (H : pX12_isS [.ref 0] h (fun v2 h1 => ((¬ v2 = 0 → pX12_sign [.ref 0] h1 (fun v4 h3 => ((¬ v4 = (60 : Int32) → pX12_sign [.ref 0] h3 (fun v6 h5 => ((¬ v6 = (61 : Int32) → pX12_sign [.ref 0] h5 (fun v8 h7 => ((¬ v8 = (62 : Int32) → ((0 ≤ (-1 : Int32) → pX12_isS [.ref 0] (zk_si h7 0 25 ((h7.1 0 25) + (1 : Int32))) (fun v10 h9 => ((v10 = 0 → (((0 : Int32) = 0 ∨ (0 : Int32) = 1) ∧ Q.1 (0 : Int32) h9)) ∧ (¬ v10 = 0 → pX12_codes [.ref 0, .int (-1 : Int32)] h9 (fun v12 h11 => ((v12 = 0 → (((0 : Int32) = 0 ∨ (0 : Int32) = 1) ∧ Q.1 (0 : Int32) h11)) ∧ (¬ v12 = 0 → (((1 : Int32) = 0 ∨ (1 : Int32) = 1) ∧ Q.1 (1 : Int32) h11)))))))) ∧ (¬ 0 ≤ (-1 : Int32) → (((1 : Int32) = 0 ∨ (1 : Int32) = 1) ∧ Q.1 (1 : Int32) h7)))) ∧ (v8 = (62 : Int32) → ((0 ≤ (10 : Int32) → pX12_isS [.ref 0] (zk_si h7 0 25 ((h7.1 0 25) + (1 : Int32))) (fun v14 h13 => ((v14 = 0 → (((0 : Int32) = 0 ∨ (0 : Int32) = 1) ∧ Q.1 (0 : Int32) h13)) ∧ (¬ v14 = 0 → pX12_codes [.ref 0, .int (10 : Int32)] h13 (fun v16 h15 => ((v16 = 0 → (((0 : Int32) = 0 ∨ (0 : Int32) = 1) ∧ Q.1 (0 : Int32) h15)) ∧ (¬ v16 = 0 → (((1 : Int32) = 0 ∨ (1 : Int32) = 1) ∧ Q.1 (1 : Int32) h15)))))))) ∧ (¬ 0 ≤ (10 : Int32) → (((1 : Int32) = 0 ∨ (1 : Int32) = 1) ∧ Q.1 (1 : Int32) h7))))))) ∧ (v6 = (61 : Int32) → ((0 ≤ (9 : Int32) → pX12_isS [.ref 0] (zk_si h5 0 25 ((h5.1 0 25) + (1 : Int32))) (fun v18 h17 => ((v18 = 0 → (((0 : Int32) = 0 ∨ (0 : Int32) = 1) ∧ Q.1 (0 : Int32) h17)) ∧ (¬ v18 = 0 → pX12_codes [.ref 0, .int (9 : Int32)] h17 (fun v20 h19 => ((v20 = 0 → (((0 : Int32) = 0 ∨ (0 : Int32) = 1) ∧ Q.1 (0 : Int32) h19)) ∧ (¬ v20 = 0 → (((1 : Int32) = 0 ∨ (1 : Int32) = 1) ∧ Q.1 (1 : Int32) h19)))))))) ∧ (¬ 0 ≤ (9 : Int32) → (((1 : Int32) = 0 ∨ (1 : Int32) = 1) ∧ Q.1 (1 : Int32) h5))))))) ∧ (v4 = (60 : Int32) → ((0 ≤ (8 : Int32) → pX12_isS [.ref 0] (zk_si h3 0 25 ((h3.1 0 25) + (1 : Int32))) (fun v22 h21 => ((v22 = 0 → (((0 : Int32) = 0 ∨ (0 : Int32) = 1) ∧ Q.1 (0 : Int32) h21)) ∧ (¬ v22 = 0 → pX12_codes [.ref 0, .int (8 : Int32)] h21 (fun v24 h23 => ((v24 = 0 → (((0 : Int32) = 0 ∨ (0 : Int32) = 1) ∧ Q.1 (0 : Int32) h23)) ∧ (¬ v24 = 0 → (((1 : Int32) = 0 ∨ (1 : Int32) = 1) ∧ Q.1 (1 : Int32) h23)))))))) ∧ (¬ 0 ≤ (8 : Int32) → (((1 : Int32) = 0 ∨ (1 : Int32) = 1) ∧ Q.1 (1 : Int32) h3))))))) ∧ (v2 = 0 → (((0 : Int32) = 0 ∨ (0 : Int32) = 1) ∧ Q.1 (0 : Int32) h1))))) : zk_R zk_D (zk_lkl lkX12) zk_mt (zk_cxl [(179, zk_iP pX12_sign), (181, zk_iP pX12_codes), (186, zk_iP pX12_isS)]) (some .boolean) (zk_at cdX12_isB) Q [] k 38 0 [some (.ref 0), none] [] h := H
theorem fcX12_isA : zk_fc mX12_isA (zk_lkl lkX12) (zk_at cdX12_isA) := ⟨lkX12_ok, by decide +kernel, cdX12_isA_ok⟩
set_option maxRecDepth 100000 in
theorem bX12_isA_0 {pX12_is : zk_pI} {pX12_codes : zk_pI} {pX12_isB : zk_pI} {k : zk_K} {Q : zk_Q} {h : zk_H}  (H : pX12_isB [.ref 0] h (fun v2 h1 => ((¬ v2 = 0 → k 9 [some (.ref 0)] [] h1) ∧ (v2 = 0 → (((0 : Int32) = 0 ∨ (0 : Int32) = 1) ∧ Q.1 (0 : Int32) h1))))) : zk_R zk_D (zk_lkl lkX12) zk_mt (zk_cxl [(180, zk_iP pX12_is), (181, zk_iP pX12_codes), (187, zk_iP pX12_isB)]) (some .boolean) (zk_at cdX12_isA) Q [9] k 7 0 [some (.ref 0)] [] h := H
set_option maxRecDepth 100000 in
theorem bX12_isA_9 {pX12_is : zk_pI} {pX12_codes : zk_pI} {pX12_isB : zk_pI} {k : zk_K} {Q : zk_Q} {h : zk_H}  (H : pX12_is [.ref 0, .int (38 : Int32)] h (fun v2 h1 => ((v2 = 0 → (((1 : Int32) = 0 ∨ (1 : Int32) = 1) ∧ Q.1 (1 : Int32) h1)) ∧ (¬ v2 = 0 → pX12_isB [.ref 0] h1 (fun v4 h3 => ((¬ v4 = 0 → pX12_codes [.ref 0, .int (7 : Int32)] h3 (fun v6 h5 => k 9 [some (.ref 0)] [] h5)) ∧ (v4 = 0 → (((0 : Int32) = 0 ∨ (0 : Int32) = 1) ∧ Q.1 (0 : Int32) h3)))))))) : zk_R zk_D (zk_lkl lkX12) zk_mt (zk_cxl [(180, zk_iP pX12_is), (181, zk_iP pX12_codes), (187, zk_iP pX12_isB)]) (some .boolean) (zk_at cdX12_isA) Q [9] k 14 9 [some (.ref 0)] [] h := H
theorem fcX12_isE : zk_fc mX12_isE (zk_lkl lkX12) (zk_at cdX12_isE) := ⟨lkX12_ok, by decide +kernel, cdX12_isE_ok⟩
set_option maxRecDepth 100000 in
theorem bX12_isE_0 {pX12_is : zk_pI} {pX12_codes : zk_pI} {pX12_isA : zk_pI} {k : zk_K} {Q : zk_Q} {h : zk_H}  (H : pX12_isA [.ref 0] h (fun v2 h1 => ((¬ v2 = 0 → k 9 [some (.ref 0)] [] h1) ∧ (v2 = 0 → (((0 : Int32) = 0 ∨ (0 : Int32) = 1) ∧ Q.1 (0 : Int32) h1))))) : zk_R zk_D (zk_lkl lkX12) zk_mt (zk_cxl [(180, zk_iP pX12_is), (181, zk_iP pX12_codes), (188, zk_iP pX12_isA)]) (some .boolean) (zk_at cdX12_isE) Q [9] k 7 0 [some (.ref 0)] [] h := H
set_option maxRecDepth 100000 in
theorem bX12_isE_9 {pX12_is : zk_pI} {pX12_codes : zk_pI} {pX12_isA : zk_pI} {k : zk_K} {Q : zk_Q} {h : zk_H}  (H : pX12_is [.ref 0, .int (124 : Int32)] h (fun v2 h1 => ((v2 = 0 → (((1 : Int32) = 0 ∨ (1 : Int32) = 1) ∧ Q.1 (1 : Int32) h1)) ∧ (¬ v2 = 0 → pX12_isA [.ref 0] h1 (fun v4 h3 => ((¬ v4 = 0 → pX12_codes [.ref 0, .int (6 : Int32)] h3 (fun v6 h5 => k 9 [some (.ref 0)] [] h5)) ∧ (v4 = 0 → (((0 : Int32) = 0 ∨ (0 : Int32) = 1) ∧ Q.1 (0 : Int32) h3)))))))) : zk_R zk_D (zk_lkl lkX12) zk_mt (zk_cxl [(180, zk_iP pX12_is), (181, zk_iP pX12_codes), (188, zk_iP pX12_isA)]) (some .boolean) (zk_at cdX12_isE) Q [9] k 14 9 [some (.ref 0)] [] h := H
theorem fcX12_isLine : zk_fc mX12_isLine (zk_lkl lkX12) (zk_at cdX12_isLine) := ⟨lkX12_ok, by decide +kernel, cdX12_isLine_ok⟩
set_option maxRecDepth 100000 in
theorem bX12_isLine_0 {pX12_is : zk_pI} {pX12_isE : zk_pI} {k : zk_K} {Q : zk_Q} {h : zk_H}  (H : (vp_in (h.1 0 28) 61 ∧ pX12_isE [.ref 0] (zk_si h 20 (h.1 0 28).toNatClampNeg (h.1 0 27)) (fun v2 h1 => ((¬ v2 = 0 → (vp_in (h1.1 0 28) 61 ∧ (vp_in (h1.1 0 28) 61 ∧ pX12_is [.ref 0, .int (63 : Int32)] (zk_si h1 21 (h1.1 0 28).toNatClampNeg (h1.1 20 (h1.1 0 28).toNatClampNeg)) (fun v4 h3 => ((v4 = 0 → (vp_in (h3.1 0 28) 61 ∧ (((1 : Int32) = 0 ∨ (1 : Int32) = 1) ∧ Q.1 (1 : Int32) (zk_si (zk_si h3 0 28 ((h3.1 0 28) + (1 : Int32))) 22 (h3.1 0 28).toNatClampNeg (h3.1 0 27))))) ∧ (¬ v4 = 0 → (vp_in (h3.1 0 28) 61 ∧ pX12_isE [.ref 0] (zk_si h3 21 (h3.1 0 28).toNatClampNeg (h3.1 0 27)) (fun v6 h5 => ((¬ v6 = 0 → (vp_in (h5.1 0 28) 61 ∧ (((1 : Int32) = 0 ∨ (1 : Int32) = 1) ∧ Q.1 (1 : Int32) (zk_si (zk_si h5 0 28 ((h5.1 0 28) + (1 : Int32))) 22 (h5.1 0 28).toNatClampNeg (h5.1 0 27))))) ∧ (v6 = 0 → (((0 : Int32) = 0 ∨ (0 : Int32) = 1) ∧ Q.1 (0 : Int32) h5))))))))))) ∧ (v2 = 0 → (((0 : Int32) = 0 ∨ (0 : Int32) = 1) ∧ Q.1 (0 : Int32) h1)))))) : zk_R zk_D (zk_lkl lkX12) zk_mt (zk_cxl [(180, zk_iP pX12_is), (189, zk_iP pX12_isE)]) (some .boolean) (zk_at cdX12_isLine) Q [] k 50 0 [some (.ref 0)] [] h := H
theorem fcX12_law : zk_fc mX12_law (zk_lkl lkX12) (zk_at cdX12_law) := ⟨lkX12_ok, by decide +kernel, cdX12_law_ok⟩
set_option maxRecDepth 100000 in
theorem bX12_law_0 {pX12_is : zk_pI} {pX12_isLine : zk_pI} {k : zk_K} {Q : zk_Q} {h : zk_H}  (H : pX12_isLine [.ref 0] (zk_si (zk_si (zk_si (zk_si h 0 25 (0 : Int32)) 0 26 (0 : Int32)) 0 27 (0 : Int32)) 0 28 (0 : Int32)) (fun v2 h1 => k 25 [some (.ref 0), some (.int v2), none, none] [] h1)) : zk_R zk_D (zk_lkl lkX12) zk_mt (zk_cxl [(180, zk_iP pX12_is), (190, zk_iP pX12_isLine)]) (some .int) (zk_at cdX12_law) Q [25, 99, 151] k 17 0 [some (.ref 0), none, none, none] [] h := H
set_option maxRecDepth 100000 in
theorem bX12_law_25 {pX12_is : zk_pI} {pX12_isLine : zk_pI} {k : zk_K} {Q : zk_Q} {h : zk_H} {x1 : Int32} (H : ((x1 = 0 → ((x1 = 0 → ((¬ (0 : Int32) = 0 → (((1 : Int32) = 0 ∨ (1 : Int32) = 1) ∧ k 99 [some (.ref 0), some (.int x1), some (.int (0 : Int32)), some (.int (0 : Int32))] [] (zk_si (zk_si (zk_si h 0 17 (0 : Int32)) 0 19 (1 : Int32)) 0 20 (h.1 0 28)))) ∧ ((0 : Int32) = 0 → Q.1 ((-100 : Int32) - (h.1 0 25)) (zk_si h 0 17 (0 : Int32))))) ∧ (¬ x1 = 0 → ((¬ (h.1 0 25) = (h.1 0 17) → ((¬ (0 : Int32) = 0 → (((1 : Int32) = 0 ∨ (1 : Int32) = 1) ∧ k 99 [some (.ref 0), some (.int x1), some (.int (0 : Int32)), some (.int (0 : Int32))] [] (zk_si (zk_si (zk_si h 0 17 (0 : Int32)) 0 19 (1 : Int32)) 0 20 (h.1 0 28)))) ∧ ((0 : Int32) = 0 → Q.1 ((-100 : Int32) - (h.1 0 25)) (zk_si h 0 17 (0 : Int32))))) ∧ ((h.1 0 25) = (h.1 0 17) → ((¬ (1 : Int32) = 0 → (((1 : Int32) = 0 ∨ (1 : Int32) = 1) ∧ k 99 [some (.ref 0), some (.int x1), some (.int (1 : Int32)), some (.int (0 : Int32))] [] (zk_si (zk_si (zk_si h 0 17 (0 : Int32)) 0 19 (1 : Int32)) 0 20 (h.1 0 28)))) ∧ ((1 : Int32) = 0 → Q.1 ((-100 : Int32) - (h.1 0 25)) (zk_si h 0 17 (0 : Int32))))))))) ∧ (¬ x1 = 0 → pX12_is [.ref 0, .int (59 : Int32)] h (fun v2 h1 => ((v2 = 0 → ((x1 = 0 → ((¬ (0 : Int32) = 0 → (((1 : Int32) = 0 ∨ (1 : Int32) = 1) ∧ k 99 [some (.ref 0), some (.int x1), some (.int (0 : Int32)), some (.int (0 : Int32))] [] (zk_si (zk_si (zk_si h1 0 17 (0 : Int32)) 0 19 (1 : Int32)) 0 20 (h1.1 0 28)))) ∧ ((0 : Int32) = 0 → Q.1 ((-100 : Int32) - (h1.1 0 25)) (zk_si h1 0 17 (0 : Int32))))) ∧ (¬ x1 = 0 → ((¬ (h1.1 0 25) = (h1.1 0 17) → ((¬ (0 : Int32) = 0 → (((1 : Int32) = 0 ∨ (1 : Int32) = 1) ∧ k 99 [some (.ref 0), some (.int x1), some (.int (0 : Int32)), some (.int (0 : Int32))] [] (zk_si (zk_si (zk_si h1 0 17 (0 : Int32)) 0 19 (1 : Int32)) 0 20 (h1.1 0 28)))) ∧ ((0 : Int32) = 0 → Q.1 ((-100 : Int32) - (h1.1 0 25)) (zk_si h1 0 17 (0 : Int32))))) ∧ ((h1.1 0 25) = (h1.1 0 17) → ((¬ (1 : Int32) = 0 → (((1 : Int32) = 0 ∨ (1 : Int32) = 1) ∧ k 99 [some (.ref 0), some (.int x1), some (.int (1 : Int32)), some (.int (0 : Int32))] [] (zk_si (zk_si (zk_si h1 0 17 (0 : Int32)) 0 19 (1 : Int32)) 0 20 (h1.1 0 28)))) ∧ ((1 : Int32) = 0 → Q.1 ((-100 : Int32) - (h1.1 0 25)) (zk_si h1 0 17 (0 : Int32))))))))) ∧ (¬ v2 = 0 → pX12_isLine [.ref 0] h1 (fun v4 h3 => k 25 [some (.ref 0), some (.int v4), none, none] [] h3))))))) : zk_R zk_D (zk_lkl lkX12) zk_mt (zk_cxl [(180, zk_iP pX12_is), (190, zk_iP pX12_isLine)]) (some .int) (zk_at cdX12_law) Q [25, 99, 151] k 32 25 [some (.ref 0), some (.int x1), none, none] [] h := H
set_option maxRecDepth 100000 in
theorem bX12_law_99 {pX12_is : zk_pI} {pX12_isLine : zk_pI} {k : zk_K} {Q : zk_Q} {h : zk_H} {x1 x2 x3 : Int32} (H : (((h.1 0 20) ≤ x3 → k 151 [some (.ref 0), some (.int x1), some (.int x2), some (.int (0 : Int32))] [] h) ∧ (¬ (h.1 0 20) ≤ x3 → (vp_in x3 61 ∧ (vp_in x3 60 ∧ (vp_in x3 61 ∧ (vp_in x3 60 ∧ (vp_in x3 61 ∧ (vp_in x3 60 ∧ k 99 [some (.ref 0), some (.int x1), some (.int x2), some (.int (x3 + (1 : Int32)))] [] (zk_si (zk_si (zk_si h 16 x3.toNatClampNeg (h.1 20 x3.toNatClampNeg)) 17 x3.toNatClampNeg (h.1 21 x3.toNatClampNeg)) 18 x3.toNatClampNeg (h.1 22 x3.toNatClampNeg))))))))))) : zk_R zk_D (zk_lkl lkX12) zk_mt (zk_cxl [(180, zk_iP pX12_is), (190, zk_iP pX12_isLine)]) (some .int) (zk_at cdX12_law) Q [25, 99, 151] k 32 99 [some (.ref 0), some (.int x1), some (.int x2), some (.int x3)] [] h := H
set_option maxRecDepth 100000 in
theorem bX12_law_151 {pX12_is : zk_pI} {pX12_isLine : zk_pI} {k : zk_K} {Q : zk_Q} {h : zk_H} {x1 x2 x3 : Int32} (H : (((h.1 0 27) ≤ x3 → Q.1 (1 : Int32) h) ∧ (¬ (h.1 0 27) ≤ x3 → (vp_in x3 200 ∧ (vp_in x3 200 ∧ k 151 [some (.ref 0), some (.int x1), some (.int x2), some (.int (x3 + (1 : Int32)))] [] (zk_si h 19 x3.toNatClampNeg (h.1 23 x3.toNatClampNeg))))))) : zk_R zk_D (zk_lkl lkX12) zk_mt (zk_cxl [(180, zk_iP pX12_is), (190, zk_iP pX12_isLine)]) (some .int) (zk_at cdX12_law) Q [25, 99, 151] k 16 151 [some (.ref 0), some (.int x1), some (.int x2), some (.int x3)] [] h := H
theorem fcX12_both : zk_fc mX12_both (zk_lkl lkX12) (zk_at cdX12_both) := ⟨lkX12_ok, by decide +kernel, cdX12_both_ok⟩
set_option maxRecDepth 100000 in
theorem bX12_both_0  {k : zk_K} {Q : zk_Q} {h : zk_H} {x0 x1 x2 : Int32} (H : ((x0 = (6 : Int32) → ((¬ x1 = 0 → Q.1 (1 : Int32) h) ∧ (x1 = 0 → ((x2 = 0 → Q.1 (0 : Int32) h) ∧ (¬ x2 = 0 → Q.1 (1 : Int32) h))))) ∧ (¬ x0 = (6 : Int32) → ((x0 = (7 : Int32) → ((x1 = 0 → Q.1 (0 : Int32) h) ∧ (¬ x1 = 0 → ((x2 = 0 → Q.1 (0 : Int32) h) ∧ (¬ x2 = 0 → Q.1 (1 : Int32) h))))) ∧ (¬ x0 = (7 : Int32) → ((x0 = (8 : Int32) → ((x2 ≤ x1 → Q.1 (0 : Int32) h) ∧ (¬ x2 ≤ x1 → Q.1 (1 : Int32) h))) ∧ (¬ x0 = (8 : Int32) → ((x0 = (9 : Int32) → ((¬ x1 = x2 → Q.1 (0 : Int32) h) ∧ (x1 = x2 → Q.1 (1 : Int32) h))) ∧ (¬ x0 = (9 : Int32) → ((x0 = (10 : Int32) → ((x1 ≤ x2 → Q.1 (0 : Int32) h) ∧ (¬ x1 ≤ x2 → Q.1 (1 : Int32) h))) ∧ (¬ x0 = (10 : Int32) → ((x0 = (11 : Int32) → Q.1 (x1 + x2) h) ∧ (¬ x0 = (11 : Int32) → ((x0 = (12 : Int32) → Q.1 (x1 - x2) h) ∧ (¬ x0 = (12 : Int32) → ((x0 = (13 : Int32) → Q.1 (x1 * x2) h) ∧ (¬ x0 = (13 : Int32) → ((x0 = (14 : Int32) → ((¬ x2 = 0 → (¬ x2 = 0 ∧ Q.1 (x1 / x2) h)) ∧ (x2 = 0 → Q.1 (0 : Int32) h))) ∧ (¬ x0 = (14 : Int32) → ((¬ x2 = 0 → (¬ x2 = 0 ∧ Q.1 (x1 - x1 / x2 * x2) h)) ∧ (x2 = 0 → Q.1 (0 : Int32) h))))))))))))))))))))) : zk_R zk_D (zk_lkl lkX12) zk_mt (zk_cxl []) (some .int) (zk_at cdX12_both) Q [] k 11 0 [some (.int x0), some (.int x1), some (.int x2)] [] h := H
theorem fcX12_worked : zk_fc mX12_worked (zk_lkl lkX12) (zk_at cdX12_worked) := ⟨lkX12_ok, by decide +kernel, cdX12_worked_ok⟩
set_option maxRecDepth 100000 in
theorem bX12_worked_0 {pX12_both : zk_pI} {k : zk_K} {Q : zk_Q} {h : zk_H} {x1 x2 : Int32} (H : k 5 [some (.ref 0), some (.int x1), some (.int x2), some (.int (0 : Int32)), some (.int x1), none] [] h) : zk_R zk_D (zk_lkl lkX12) zk_mt (zk_cxl [(192, zk_iP pX12_both)]) (some .int) (zk_at cdX12_worked) Q [5] k 6 0 [some (.ref 0), some (.int x1), some (.int x2), none, none, none] [] h := H
set_option maxRecDepth 100000 in
theorem bX12_worked_5 {pX12_both : zk_pI} {k : zk_K} {Q : zk_Q} {h : zk_H} {x1 x2 x3 x4 : Int32} (H : ((x2 ≤ x4 → (vp_in (0 : Int32) 200 ∧ Q.1 (h.1 24 0) h)) ∧ (¬ x2 ≤ x4 → (vp_in x4 200 ∧ (((18 : Int32) ≤ (h.1 19 x4.toNatClampNeg) → (((h.1 19 x4.toNatClampNeg) < (18 : Int32) → (vp_in (h.1 19 x4.toNatClampNeg) 6 ∧ (vp_in x3 200 ∧ k 5 [some (.ref 0), some (.int x1), some (.int x2), some (.int (x3 + (1 : Int32))), some (.int (x4 + (1 : Int32))), some (.int (h.1 19 x4.toNatClampNeg))] [] (zk_si h 24 x3.toNatClampNeg (h.1 25 (h.1 19 x4.toNatClampNeg).toNatClampNeg))))) ∧ (¬ (h.1 19 x4.toNatClampNeg) < (18 : Int32) → (vp_in x3 200 ∧ k 5 [some (.ref 0), some (.int x1), some (.int x2), some (.int (x3 + (1 : Int32))), some (.int (x4 + (1 : Int32))), some (.int (h.1 19 x4.toNatClampNeg))] [] (zk_si h 24 x3.toNatClampNeg ((h.1 19 x4.toNatClampNeg) - (18 : Int32))))))) ∧ (¬ (18 : Int32) ≤ (h.1 19 x4.toNatClampNeg) → (((5 : Int32) < (h.1 19 x4.toNatClampNeg) → (((h.1 19 x4.toNatClampNeg) = (16 : Int32) → ((¬ (h.1 19 x4.toNatClampNeg) = (17 : Int32) → (vp_in (x3 - (1 : Int32)) 200 ∧ ((¬ (h.1 24 (x3 - (1 : Int32)).toNatClampNeg) = 0 → (vp_in (x3 - (1 : Int32)) 200 ∧ k 5 [some (.ref 0), some (.int x1), some (.int x2), some (.int x3), some (.int (x4 + (1 : Int32))), some (.int (h.1 19 x4.toNatClampNeg))] [] (zk_si h 24 (x3 - (1 : Int32)).toNatClampNeg (0 : Int32)))) ∧ ((h.1 24 (x3 - (1 : Int32)).toNatClampNeg) = 0 → (vp_in (x3 - (1 : Int32)) 200 ∧ k 5 [some (.ref 0), some (.int x1), some (.int x2), some (.int x3), some (.int (x4 + (1 : Int32))), some (.int (h.1 19 x4.toNatClampNeg))] [] (zk_si h 24 (x3 - (1 : Int32)).toNatClampNeg (1 : Int32))))))) ∧ ((h.1 19 x4.toNatClampNeg) = (17 : Int32) → (vp_in (x3 - (1 : Int32)) 200 ∧ (vp_in (x3 - (1 : Int32)) 200 ∧ k 5 [some (.ref 0), some (.int x1), some (.int x2), some (.int x3), some (.int (x4 + (1 : Int32))), some (.int (h.1 19 x4.toNatClampNeg))] [] (zk_si h 24 (x3 - (1 : Int32)).toNatClampNeg (-(h.1 24 (x3 - (1 : Int32)).toNatClampNeg)))))))) ∧ (¬ (h.1 19 x4.toNatClampNeg) = (16 : Int32) → ((¬ (h.1 19 x4.toNatClampNeg) = (17 : Int32) → (vp_in ((x3 + (-1 : Int32)) - (1 : Int32)) 200 ∧ (vp_in (x3 + (-1 : Int32)) 200 ∧ pX12_both [.int (h.1 19 x4.toNatClampNeg), .int (h.1 24 ((x3 + (-1 : Int32)) - (1 : Int32)).toNatClampNeg), .int (h.1 24 (x3 + (-1 : Int32)).toNatClampNeg)] h (fun v2 h1 => (vp_in ((x3 + (-1 : Int32)) - (1 : Int32)) 200 ∧ k 5 [some (.ref 0), some (.int x1), some (.int x2), some (.int (x3 + (-1 : Int32))), some (.int (x4 + (1 : Int32))), some (.int (h.1 19 x4.toNatClampNeg))] [] (zk_si h1 24 ((x3 + (-1 : Int32)) - (1 : Int32)).toNatClampNeg v2)))))) ∧ ((h.1 19 x4.toNatClampNeg) = (17 : Int32) → ((¬ (h.1 19 x4.toNatClampNeg) = (17 : Int32) → (vp_in (x3 - (1 : Int32)) 200 ∧ ((¬ (h.1 24 (x3 - (1 : Int32)).toNatClampNeg) = 0 → (vp_in (x3 - (1 : Int32)) 200 ∧ k 5 [some (.ref 0), some (.int x1), some (.int x2), some (.int x3), some (.int (x4 + (1 : Int32))), some (.int (h.1 19 x4.toNatClampNeg))] [] (zk_si h 24 (x3 - (1 : Int32)).toNatClampNeg (0 : Int32)))) ∧ ((h.1 24 (x3 - (1 : Int32)).toNatClampNeg) = 0 → (vp_in (x3 - (1 : Int32)) 200 ∧ k 5 [some (.ref 0), some (.int x1), some (.int x2), some (.int x3), some (.int (x4 + (1 : Int32))), some (.int (h.1 19 x4.toNatClampNeg))] [] (zk_si h 24 (x3 - (1 : Int32)).toNatClampNeg (1 : Int32))))))) ∧ ((h.1 19 x4.toNatClampNeg) = (17 : Int32) → (vp_in (x3 - (1 : Int32)) 200 ∧ (vp_in (x3 - (1 : Int32)) 200 ∧ k 5 [some (.ref 0), some (.int x1), some (.int x2), some (.int x3), some (.int (x4 + (1 : Int32))), some (.int (h.1 19 x4.toNatClampNeg))] [] (zk_si h 24 (x3 - (1 : Int32)).toNatClampNeg (-(h.1 24 (x3 - (1 : Int32)).toNatClampNeg)))))))))))) ∧ (¬ (5 : Int32) < (h.1 19 x4.toNatClampNeg) → (((h.1 19 x4.toNatClampNeg) < (18 : Int32) → (vp_in (h.1 19 x4.toNatClampNeg) 6 ∧ (vp_in x3 200 ∧ k 5 [some (.ref 0), some (.int x1), some (.int x2), some (.int (x3 + (1 : Int32))), some (.int (x4 + (1 : Int32))), some (.int (h.1 19 x4.toNatClampNeg))] [] (zk_si h 24 x3.toNatClampNeg (h.1 25 (h.1 19 x4.toNatClampNeg).toNatClampNeg))))) ∧ (¬ (h.1 19 x4.toNatClampNeg) < (18 : Int32) → (vp_in x3 200 ∧ k 5 [some (.ref 0), some (.int x1), some (.int x2), some (.int (x3 + (1 : Int32))), some (.int (x4 + (1 : Int32))), some (.int (h.1 19 x4.toNatClampNeg))] [] (zk_si h 24 x3.toNatClampNeg ((h.1 19 x4.toNatClampNeg) - (18 : Int32)))))))))))))) : zk_R zk_D (zk_lkl lkX12) zk_mt (zk_cxl [(192, zk_iP pX12_both)]) (some .int) (zk_at cdX12_worked) Q [5] k 43 5 [some (.ref 0), some (.int x1), some (.int x2), some (.int x3), some (.int x4), none] [] h := H
theorem fcX12_isIn : zk_fc mX12_isIn (zk_lkl lkX12) (zk_at cdX12_isIn) := ⟨lkX12_ok, by decide +kernel, cdX12_isIn_ok⟩
set_option maxRecDepth 100000 in
theorem bX12_isIn_0 {pX12_within : zk_pI} {k : zk_K} {Q : zk_Q} {h : zk_H} {x1 x2 : Int32} (H : (vp_in x1 8 ∧ (vp_in x1 8 ∧ pX12_within [.int x2, .int (h.1 1 x1.toNatClampNeg), .int (h.1 2 x1.toNatClampNeg)] h (fun v2 h1 => ((v2 = 0 ∨ v2 = 1) ∧ Q.1 v2 h1))))) : zk_R zk_D (zk_lkl lkX12) zk_mt (zk_cxl [(153, zk_iP pX12_within)]) (some .boolean) (zk_at cdX12_isIn) Q [] k 13 0 [some (.ref 0), some (.int x1), some (.int x2)] [] h := H
theorem fcX12_could : zk_fc mX12_could (zk_lkl lkX12) (zk_at cdX12_could) := ⟨lkX12_ok, by decide +kernel, cdX12_could_ok⟩
set_option maxRecDepth 100000 in
theorem bX12_could_0 {pX12_has : zk_pI} {pX12_isIn : zk_pI} {k : zk_K} {Q : zk_Q} {h : zk_H} {x1 x2 : Int32} (H : (vp_in x2 7 ∧ ((x1 = (h.1 7 x2.toNatClampNeg) → (((0 : Int32) = 0 ∨ (0 : Int32) = 1) ∧ Q.1 (0 : Int32) h)) ∧ (¬ x1 = (h.1 7 x2.toNatClampNeg) → (vp_in x2 7 ∧ (((h.1 10 x2.toNatClampNeg) < 0 → (vp_in x2 7 ∧ (((h.1 11 x2.toNatClampNeg) = 0 → (((1 : Int32) = 0 ∨ (1 : Int32) = 1) ∧ Q.1 (1 : Int32) h)) ∧ (¬ (h.1 11 x2.toNatClampNeg) = 0 → (vp_in x2 7 ∧ pX12_isIn [.ref 0, .int x1, .int (h.1 8 x2.toNatClampNeg)] h (fun v2 h1 => ((v2 = 0 → (((0 : Int32) = 0 ∨ (0 : Int32) = 1) ∧ Q.1 (0 : Int32) h1)) ∧ (¬ v2 = 0 → (((1 : Int32) = 0 ∨ (1 : Int32) = 1) ∧ Q.1 (1 : Int32) h1))))))))) ∧ (¬ (h.1 10 x2.toNatClampNeg) < 0 → (vp_in x1 8 ∧ (vp_in x2 7 ∧ pX12_has [.int (h.1 6 x1.toNatClampNeg), .int (h.1 10 x2.toNatClampNeg)] h (fun v4 h3 => ((¬ v4 = 0 → (vp_in x2 7 ∧ (((h3.1 11 x2.toNatClampNeg) = 0 → (((1 : Int32) = 0 ∨ (1 : Int32) = 1) ∧ Q.1 (1 : Int32) h3)) ∧ (¬ (h3.1 11 x2.toNatClampNeg) = 0 → (vp_in x2 7 ∧ pX12_isIn [.ref 0, .int x1, .int (h3.1 8 x2.toNatClampNeg)] h3 (fun v6 h5 => ((v6 = 0 → (((0 : Int32) = 0 ∨ (0 : Int32) = 1) ∧ Q.1 (0 : Int32) h5)) ∧ (¬ v6 = 0 → (((1 : Int32) = 0 ∨ (1 : Int32) = 1) ∧ Q.1 (1 : Int32) h5))))))))) ∧ (v4 = 0 → (((0 : Int32) = 0 ∨ (0 : Int32) = 1) ∧ Q.1 (0 : Int32) h3))))))))))))) : zk_R zk_D (zk_lkl lkX12) zk_mt (zk_cxl [(163, zk_iP pX12_has), (194, zk_iP pX12_isIn)]) (some .boolean) (zk_at cdX12_could) Q [] k 39 0 [some (.ref 0), some (.int x1), some (.int x2)] [] h := H
theorem fcX12_knowers : zk_fc mX12_knowers (zk_lkl lkX12) (zk_at cdX12_knowers) := ⟨lkX12_ok, by decide +kernel, cdX12_knowers_ok⟩
set_option maxRecDepth 100000 in
theorem bX12_knowers_0 {pX12_has : zk_pI} {k : zk_K} {Q : zk_Q} {h : zk_H} {x1 : Int32} (H : k 4 [some (.ref 0), some (.int x1), some (.int (0 : Int32)), some (.int (0 : Int32))] [] h) : zk_R zk_D (zk_lkl lkX12) zk_mt (zk_cxl [(163, zk_iP pX12_has)]) (some .int) (zk_at cdX12_knowers) Q [4] k 6 0 [some (.ref 0), some (.int x1), none, none] [] h := H
set_option maxRecDepth 100000 in
theorem bX12_knowers_4 {pX12_has : zk_pI} {k : zk_K} {Q : zk_Q} {h : zk_H} {x1 x2 x3 : Int32} (H : (((h.1 0 0) ≤ x3 → Q.1 x2 h) ∧ (¬ (h.1 0 0) ≤ x3 → ((x1 < 0 → k 4 [some (.ref 0), some (.int x1), some (.int x2), some (.int (x3 + (1 : Int32)))] [] h) ∧ (¬ x1 < 0 → (vp_in x3 8 ∧ pX12_has [.int (h.1 6 x3.toNatClampNeg), .int x1] h (fun v2 h1 => ((v2 = 0 → k 4 [some (.ref 0), some (.int x1), some (.int x2), some (.int (x3 + (1 : Int32)))] [] h1) ∧ (¬ v2 = 0 → k 4 [some (.ref 0), some (.int x1), some (.int (x2 + (1 : Int32))), some (.int (x3 + (1 : Int32)))] [] h1))))))))) : zk_R zk_D (zk_lkl lkX12) zk_mt (zk_cxl [(163, zk_iP pX12_has)]) (some .int) (zk_at cdX12_knowers) Q [4] k 18 4 [some (.ref 0), some (.int x1), some (.int x2), some (.int x3)] [] h := H
theorem fcX12_counted : zk_fc mX12_counted (zk_lkl lkX12) (zk_at cdX12_counted) := ⟨lkX12_ok, by decide +kernel, cdX12_counted_ok⟩
set_option maxRecDepth 100000 in
theorem bX12_counted_0 {pX12_has : zk_pI} {pX12_worked : zk_pI} {pX12_could : zk_pI} {pX12_knowers : zk_pI} {k : zk_K} {Q : zk_Q} {h : zk_H} {x1 x2 : Int32} (H : pX12_could [.ref 0, .int x1, .int x2] h (fun v2 h1 => ((¬ v2 = 0 → (vp_in x1 8 ∧ (vp_in x2 7 ∧ pX12_has [.int (h1.1 5 x1.toNatClampNeg), .int (h1.1 7 x2.toNatClampNeg)] h1 (fun v4 h3 => ((v4 = 0 → (vp_in (0 : Int32) 6 ∧ (vp_in x2 7 ∧ ((¬ (h3.1 9 x2.toNatClampNeg) = (-1 : Int32) → (vp_in x2 7 ∧ (vp_in x1 8 ∧ ((¬ (h3.1 9 x2.toNatClampNeg) = (h3.1 3 x1.toNatClampNeg) → (vp_in (1 : Int32) 6 ∧ (vp_in x1 8 ∧ (vp_in (2 : Int32) 6 ∧ (vp_in x2 7 ∧ pX12_knowers [.ref 0, .int (h3.1 10 x2.toNatClampNeg)] (zk_si (zk_si (zk_si h3 25 0 (0 : Int32)) 25 1 (0 : Int32)) 25 2 (h3.1 4 x1.toNatClampNeg)) (fun v6 h5 => (vp_in (3 : Int32) 6 ∧ (vp_in x2 7 ∧ (vp_in (4 : Int32) 6 ∧ (vp_in (5 : Int32) 6 ∧ ((¬ (h5.1 0 19) = 0 → k 196 [some (.ref 0), some (.int x1), some (.int x2), some (.int (0 : Int32))] [] (zk_si (zk_si (zk_si h5 25 3 v6) 25 4 (h5.1 11 x2.toNatClampNeg)) 25 5 x2)) ∧ ((h5.1 0 19) = 0 → (vp_in (0 : Int32) 6 ∧ (vp_in (1 : Int32) 6 ∧ ((¬ (h5.1 25 1) = (2 : Int32) → (vp_in (1 : Int32) 6 ∧ ((¬ (h5.1 25 1) = (1 : Int32) → (vp_in (0 : Int32) 3 ∧ Q.1 (if (((1 : Int32) + ((4 : Int32) * (h5.1 25 0))) * (h5.1 14 0)) < (99 : Int32) then (((1 : Int32) + ((4 : Int32) * (h5.1 25 0))) * (h5.1 14 0)) else (99 : Int32)) (zk_si (zk_si (zk_si h5 25 3 v6) 25 4 (h5.1 11 x2.toNatClampNeg)) 25 5 x2))) ∧ ((h5.1 25 1) = (1 : Int32) → Q.1 (if (((1 : Int32) + ((4 : Int32) * (h5.1 25 0))) * (12 : Int32)) < (99 : Int32) then (((1 : Int32) + ((4 : Int32) * (h5.1 25 0))) * (12 : Int32)) else (99 : Int32)) (zk_si (zk_si (zk_si h5 25 3 v6) 25 4 (h5.1 11 x2.toNatClampNeg)) 25 5 x2))))) ∧ ((h5.1 25 1) = (2 : Int32) → (vp_in (0 : Int32) 3 ∧ Q.1 (if (((1 : Int32) + ((4 : Int32) * (h5.1 25 0))) * ((12 : Int32) - (h5.1 14 0))) < (99 : Int32) then (((1 : Int32) + ((4 : Int32) * (h5.1 25 0))) * ((12 : Int32) - (h5.1 14 0))) else (99 : Int32)) (zk_si (zk_si (zk_si h5 25 3 v6) 25 4 (h5.1 11 x2.toNatClampNeg)) 25 5 x2)))))))))))))))))) ∧ ((h3.1 9 x2.toNatClampNeg) = (h3.1 3 x1.toNatClampNeg) → (vp_in (1 : Int32) 6 ∧ (vp_in x1 8 ∧ (vp_in (2 : Int32) 6 ∧ (vp_in x2 7 ∧ pX12_knowers [.ref 0, .int (h3.1 10 x2.toNatClampNeg)] (zk_si (zk_si (zk_si h3 25 0 (0 : Int32)) 25 1 (2 : Int32)) 25 2 (h3.1 4 x1.toNatClampNeg)) (fun v8 h7 => (vp_in (3 : Int32) 6 ∧ (vp_in x2 7 ∧ (vp_in (4 : Int32) 6 ∧ (vp_in (5 : Int32) 6 ∧ ((¬ (h7.1 0 19) = 0 → k 196 [some (.ref 0), some (.int x1), some (.int x2), some (.int (0 : Int32))] [] (zk_si (zk_si (zk_si h7 25 3 v8) 25 4 (h7.1 11 x2.toNatClampNeg)) 25 5 x2)) ∧ ((h7.1 0 19) = 0 → (vp_in (0 : Int32) 6 ∧ (vp_in (1 : Int32) 6 ∧ ((¬ (h7.1 25 1) = (2 : Int32) → (vp_in (1 : Int32) 6 ∧ ((¬ (h7.1 25 1) = (1 : Int32) → (vp_in (0 : Int32) 3 ∧ Q.1 (if (((1 : Int32) + ((4 : Int32) * (h7.1 25 0))) * (h7.1 14 0)) < (99 : Int32) then (((1 : Int32) + ((4 : Int32) * (h7.1 25 0))) * (h7.1 14 0)) else (99 : Int32)) (zk_si (zk_si (zk_si h7 25 3 v8) 25 4 (h7.1 11 x2.toNatClampNeg)) 25 5 x2))) ∧ ((h7.1 25 1) = (1 : Int32) → Q.1 (if (((1 : Int32) + ((4 : Int32) * (h7.1 25 0))) * (12 : Int32)) < (99 : Int32) then (((1 : Int32) + ((4 : Int32) * (h7.1 25 0))) * (12 : Int32)) else (99 : Int32)) (zk_si (zk_si (zk_si h7 25 3 v8) 25 4 (h7.1 11 x2.toNatClampNeg)) 25 5 x2))))) ∧ ((h7.1 25 1) = (2 : Int32) → (vp_in (0 : Int32) 3 ∧ Q.1 (if (((1 : Int32) + ((4 : Int32) * (h7.1 25 0))) * ((12 : Int32) - (h7.1 14 0))) < (99 : Int32) then (((1 : Int32) + ((4 : Int32) * (h7.1 25 0))) * ((12 : Int32) - (h7.1 14 0))) else (99 : Int32)) (zk_si (zk_si (zk_si h7 25 3 v8) 25 4 (h7.1 11 x2.toNatClampNeg)) 25 5 x2)))))))))))))))))))))) ∧ ((h3.1 9 x2.toNatClampNeg) = (-1 : Int32) → (vp_in (1 : Int32) 6 ∧ (vp_in x1 8 ∧ (vp_in (2 : Int32) 6 ∧ (vp_in x2 7 ∧ pX12_knowers [.ref 0, .int (h3.1 10 x2.toNatClampNeg)] (zk_si (zk_si (zk_si h3 25 0 (0 : Int32)) 25 1 (1 : Int32)) 25 2 (h3.1 4 x1.toNatClampNeg)) (fun v10 h9 => (vp_in (3 : Int32) 6 ∧ (vp_in x2 7 ∧ (vp_in (4 : Int32) 6 ∧ (vp_in (5 : Int32) 6 ∧ ((¬ (h9.1 0 19) = 0 → k 196 [some (.ref 0), some (.int x1), some (.int x2), some (.int (0 : Int32))] [] (zk_si (zk_si (zk_si h9 25 3 v10) 25 4 (h9.1 11 x2.toNatClampNeg)) 25 5 x2)) ∧ ((h9.1 0 19) = 0 → (vp_in (0 : Int32) 6 ∧ (vp_in (1 : Int32) 6 ∧ ((¬ (h9.1 25 1) = (2 : Int32) → (vp_in (1 : Int32) 6 ∧ ((¬ (h9.1 25 1) = (1 : Int32) → (vp_in (0 : Int32) 3 ∧ Q.1 (if (((1 : Int32) + ((4 : Int32) * (h9.1 25 0))) * (h9.1 14 0)) < (99 : Int32) then (((1 : Int32) + ((4 : Int32) * (h9.1 25 0))) * (h9.1 14 0)) else (99 : Int32)) (zk_si (zk_si (zk_si h9 25 3 v10) 25 4 (h9.1 11 x2.toNatClampNeg)) 25 5 x2))) ∧ ((h9.1 25 1) = (1 : Int32) → Q.1 (if (((1 : Int32) + ((4 : Int32) * (h9.1 25 0))) * (12 : Int32)) < (99 : Int32) then (((1 : Int32) + ((4 : Int32) * (h9.1 25 0))) * (12 : Int32)) else (99 : Int32)) (zk_si (zk_si (zk_si h9 25 3 v10) 25 4 (h9.1 11 x2.toNatClampNeg)) 25 5 x2))))) ∧ ((h9.1 25 1) = (2 : Int32) → (vp_in (0 : Int32) 3 ∧ Q.1 (if (((1 : Int32) + ((4 : Int32) * (h9.1 25 0))) * ((12 : Int32) - (h9.1 14 0))) < (99 : Int32) then (((1 : Int32) + ((4 : Int32) * (h9.1 25 0))) * ((12 : Int32) - (h9.1 14 0))) else (99 : Int32)) (zk_si (zk_si (zk_si h9 25 3 v10) 25 4 (h9.1 11 x2.toNatClampNeg)) 25 5 x2)))))))))))))))))))))) ∧ (¬ v4 = 0 → (vp_in (0 : Int32) 6 ∧ (vp_in x2 7 ∧ ((¬ (h3.1 9 x2.toNatClampNeg) = (-1 : Int32) → (vp_in x2 7 ∧ (vp_in x1 8 ∧ ((¬ (h3.1 9 x2.toNatClampNeg) = (h3.1 3 x1.toNatClampNeg) → (vp_in (1 : Int32) 6 ∧ (vp_in x1 8 ∧ (vp_in (2 : Int32) 6 ∧ (vp_in x2 7 ∧ pX12_knowers [.ref 0, .int (h3.1 10 x2.toNatClampNeg)] (zk_si (zk_si (zk_si h3 25 0 (1 : Int32)) 25 1 (0 : Int32)) 25 2 (h3.1 4 x1.toNatClampNeg)) (fun v12 h11 => (vp_in (3 : Int32) 6 ∧ (vp_in x2 7 ∧ (vp_in (4 : Int32) 6 ∧ (vp_in (5 : Int32) 6 ∧ ((¬ (h11.1 0 19) = 0 → k 196 [some (.ref 0), some (.int x1), some (.int x2), some (.int (0 : Int32))] [] (zk_si (zk_si (zk_si h11 25 3 v12) 25 4 (h11.1 11 x2.toNatClampNeg)) 25 5 x2)) ∧ ((h11.1 0 19) = 0 → (vp_in (0 : Int32) 6 ∧ (vp_in (1 : Int32) 6 ∧ ((¬ (h11.1 25 1) = (2 : Int32) → (vp_in (1 : Int32) 6 ∧ ((¬ (h11.1 25 1) = (1 : Int32) → (vp_in (0 : Int32) 3 ∧ Q.1 (if (((1 : Int32) + ((4 : Int32) * (h11.1 25 0))) * (h11.1 14 0)) < (99 : Int32) then (((1 : Int32) + ((4 : Int32) * (h11.1 25 0))) * (h11.1 14 0)) else (99 : Int32)) (zk_si (zk_si (zk_si h11 25 3 v12) 25 4 (h11.1 11 x2.toNatClampNeg)) 25 5 x2))) ∧ ((h11.1 25 1) = (1 : Int32) → Q.1 (if (((1 : Int32) + ((4 : Int32) * (h11.1 25 0))) * (12 : Int32)) < (99 : Int32) then (((1 : Int32) + ((4 : Int32) * (h11.1 25 0))) * (12 : Int32)) else (99 : Int32)) (zk_si (zk_si (zk_si h11 25 3 v12) 25 4 (h11.1 11 x2.toNatClampNeg)) 25 5 x2))))) ∧ ((h11.1 25 1) = (2 : Int32) → (vp_in (0 : Int32) 3 ∧ Q.1 (if (((1 : Int32) + ((4 : Int32) * (h11.1 25 0))) * ((12 : Int32) - (h11.1 14 0))) < (99 : Int32) then (((1 : Int32) + ((4 : Int32) * (h11.1 25 0))) * ((12 : Int32) - (h11.1 14 0))) else (99 : Int32)) (zk_si (zk_si (zk_si h11 25 3 v12) 25 4 (h11.1 11 x2.toNatClampNeg)) 25 5 x2)))))))))))))))))) ∧ ((h3.1 9 x2.toNatClampNeg) = (h3.1 3 x1.toNatClampNeg) → (vp_in (1 : Int32) 6 ∧ (vp_in x1 8 ∧ (vp_in (2 : Int32) 6 ∧ (vp_in x2 7 ∧ pX12_knowers [.ref 0, .int (h3.1 10 x2.toNatClampNeg)] (zk_si (zk_si (zk_si h3 25 0 (1 : Int32)) 25 1 (2 : Int32)) 25 2 (h3.1 4 x1.toNatClampNeg)) (fun v14 h13 => (vp_in (3 : Int32) 6 ∧ (vp_in x2 7 ∧ (vp_in (4 : Int32) 6 ∧ (vp_in (5 : Int32) 6 ∧ ((¬ (h13.1 0 19) = 0 → k 196 [some (.ref 0), some (.int x1), some (.int x2), some (.int (0 : Int32))] [] (zk_si (zk_si (zk_si h13 25 3 v14) 25 4 (h13.1 11 x2.toNatClampNeg)) 25 5 x2)) ∧ ((h13.1 0 19) = 0 → (vp_in (0 : Int32) 6 ∧ (vp_in (1 : Int32) 6 ∧ ((¬ (h13.1 25 1) = (2 : Int32) → (vp_in (1 : Int32) 6 ∧ ((¬ (h13.1 25 1) = (1 : Int32) → (vp_in (0 : Int32) 3 ∧ Q.1 (if (((1 : Int32) + ((4 : Int32) * (h13.1 25 0))) * (h13.1 14 0)) < (99 : Int32) then (((1 : Int32) + ((4 : Int32) * (h13.1 25 0))) * (h13.1 14 0)) else (99 : Int32)) (zk_si (zk_si (zk_si h13 25 3 v14) 25 4 (h13.1 11 x2.toNatClampNeg)) 25 5 x2))) ∧ ((h13.1 25 1) = (1 : Int32) → Q.1 (if (((1 : Int32) + ((4 : Int32) * (h13.1 25 0))) * (12 : Int32)) < (99 : Int32) then (((1 : Int32) + ((4 : Int32) * (h13.1 25 0))) * (12 : Int32)) else (99 : Int32)) (zk_si (zk_si (zk_si h13 25 3 v14) 25 4 (h13.1 11 x2.toNatClampNeg)) 25 5 x2))))) ∧ ((h13.1 25 1) = (2 : Int32) → (vp_in (0 : Int32) 3 ∧ Q.1 (if (((1 : Int32) + ((4 : Int32) * (h13.1 25 0))) * ((12 : Int32) - (h13.1 14 0))) < (99 : Int32) then (((1 : Int32) + ((4 : Int32) * (h13.1 25 0))) * ((12 : Int32) - (h13.1 14 0))) else (99 : Int32)) (zk_si (zk_si (zk_si h13 25 3 v14) 25 4 (h13.1 11 x2.toNatClampNeg)) 25 5 x2)))))))))))))))))))))) ∧ ((h3.1 9 x2.toNatClampNeg) = (-1 : Int32) → (vp_in (1 : Int32) 6 ∧ (vp_in x1 8 ∧ (vp_in (2 : Int32) 6 ∧ (vp_in x2 7 ∧ pX12_knowers [.ref 0, .int (h3.1 10 x2.toNatClampNeg)] (zk_si (zk_si (zk_si h3 25 0 (1 : Int32)) 25 1 (1 : Int32)) 25 2 (h3.1 4 x1.toNatClampNeg)) (fun v16 h15 => (vp_in (3 : Int32) 6 ∧ (vp_in x2 7 ∧ (vp_in (4 : Int32) 6 ∧ (vp_in (5 : Int32) 6 ∧ ((¬ (h15.1 0 19) = 0 → k 196 [some (.ref 0), some (.int x1), some (.int x2), some (.int (0 : Int32))] [] (zk_si (zk_si (zk_si h15 25 3 v16) 25 4 (h15.1 11 x2.toNatClampNeg)) 25 5 x2)) ∧ ((h15.1 0 19) = 0 → (vp_in (0 : Int32) 6 ∧ (vp_in (1 : Int32) 6 ∧ ((¬ (h15.1 25 1) = (2 : Int32) → (vp_in (1 : Int32) 6 ∧ ((¬ (h15.1 25 1) = (1 : Int32) → (vp_in (0 : Int32) 3 ∧ Q.1 (if (((1 : Int32) + ((4 : Int32) * (h15.1 25 0))) * (h15.1 14 0)) < (99 : Int32) then (((1 : Int32) + ((4 : Int32) * (h15.1 25 0))) * (h15.1 14 0)) else (99 : Int32)) (zk_si (zk_si (zk_si h15 25 3 v16) 25 4 (h15.1 11 x2.toNatClampNeg)) 25 5 x2))) ∧ ((h15.1 25 1) = (1 : Int32) → Q.1 (if (((1 : Int32) + ((4 : Int32) * (h15.1 25 0))) * (12 : Int32)) < (99 : Int32) then (((1 : Int32) + ((4 : Int32) * (h15.1 25 0))) * (12 : Int32)) else (99 : Int32)) (zk_si (zk_si (zk_si h15 25 3 v16) 25 4 (h15.1 11 x2.toNatClampNeg)) 25 5 x2))))) ∧ ((h15.1 25 1) = (2 : Int32) → (vp_in (0 : Int32) 3 ∧ Q.1 (if (((1 : Int32) + ((4 : Int32) * (h15.1 25 0))) * ((12 : Int32) - (h15.1 14 0))) < (99 : Int32) then (((1 : Int32) + ((4 : Int32) * (h15.1 25 0))) * ((12 : Int32) - (h15.1 14 0))) else (99 : Int32)) (zk_si (zk_si (zk_si h15 25 3 v16) 25 4 (h15.1 11 x2.toNatClampNeg)) 25 5 x2))))))))))))))))))))))))))) ∧ (v2 = 0 → Q.1 (0 : Int32) h1)))) : zk_R zk_D (zk_lkl lkX12) zk_mt (zk_cxl [(163, zk_iP pX12_has), (193, zk_iP pX12_worked), (195, zk_iP pX12_could), (196, zk_iP pX12_knowers)]) (some .int) (zk_at cdX12_counted) Q [196] k 106 0 [some (.ref 0), some (.int x1), some (.int x2), none] [] h := H
set_option maxRecDepth 100000 in
theorem bX12_counted_196 {pX12_has : zk_pI} {pX12_worked : zk_pI} {pX12_could : zk_pI} {pX12_knowers : zk_pI} {k : zk_K} {Q : zk_Q} {h : zk_H} {x1 x2 x3 : Int32} (H : (((h.1 0 20) ≤ x3 → Q.1 (0 : Int32) h) ∧ (¬ (h.1 0 20) ≤ x3 → (vp_in x3 60 ∧ (vp_in x3 60 ∧ (((h.1 17 x3.toNatClampNeg) ≤ (h.1 16 x3.toNatClampNeg) → (vp_in x3 60 ∧ (vp_in x3 60 ∧ pX12_worked [.ref 0, .int (h.1 17 x3.toNatClampNeg), .int (h.1 18 x3.toNatClampNeg)] h (fun v2 h1 => Q.1 (if (0 : Int32) < (if v2 < (99 : Int32) then v2 else (99 : Int32)) then (if v2 < (99 : Int32) then v2 else (99 : Int32)) else (0 : Int32)) h1)))) ∧ (¬ (h.1 17 x3.toNatClampNeg) ≤ (h.1 16 x3.toNatClampNeg) → (vp_in x3 60 ∧ (vp_in x3 60 ∧ pX12_worked [.ref 0, .int (h.1 16 x3.toNatClampNeg), .int (h.1 17 x3.toNatClampNeg)] h (fun v4 h3 => ((¬ v4 = 0 → (vp_in x3 60 ∧ (vp_in x3 60 ∧ pX12_worked [.ref 0, .int (h3.1 17 x3.toNatClampNeg), .int (h3.1 18 x3.toNatClampNeg)] h3 (fun v6 h5 => Q.1 (if (0 : Int32) < (if v6 < (99 : Int32) then v6 else (99 : Int32)) then (if v6 < (99 : Int32) then v6 else (99 : Int32)) else (0 : Int32)) h5)))) ∧ (v4 = 0 → k 196 [some (.ref 0), some (.int x1), some (.int x2), some (.int (x3 + (1 : Int32)))] [] h3)))))))))))) : zk_R zk_D (zk_lkl lkX12) zk_mt (zk_cxl [(163, zk_iP pX12_has), (193, zk_iP pX12_worked), (195, zk_iP pX12_could), (196, zk_iP pX12_knowers)]) (some .int) (zk_at cdX12_counted) Q [196] k 41 196 [some (.ref 0), some (.int x1), some (.int x2), some (.int x3)] [] h := H
theorem fcX12_countedAll : zk_fc mX12_countedAll (zk_lkl lkX12) (zk_at cdX12_countedAll) := ⟨lkX12_ok, by decide +kernel, cdX12_countedAll_ok⟩
set_option maxRecDepth 100000 in
theorem bX12_countedAll_0 {pX12_counted : zk_pI} {k : zk_K} {Q : zk_Q} {h : zk_H} {x1 : Int32} (H : k 4 [some (.ref 0), some (.int x1), some (.int (0 : Int32)), some (.int (0 : Int32))] [] h) : zk_R zk_D (zk_lkl lkX12) zk_mt (zk_cxl [(197, zk_iP pX12_counted)]) (some .int) (zk_at cdX12_countedAll) Q [4] k 6 0 [some (.ref 0), some (.int x1), none, none] [] h := H
set_option maxRecDepth 100000 in
theorem bX12_countedAll_4 {pX12_counted : zk_pI} {k : zk_K} {Q : zk_Q} {h : zk_H} {x1 x2 x3 : Int32} (H : (((h.1 0 0) ≤ x3 → Q.1 x2 h) ∧ (¬ (h.1 0 0) ≤ x3 → pX12_counted [.ref 0, .int x3, .int x1] h (fun v2 h1 => k 4 [some (.ref 0), some (.int x1), some (.int (x2 + v2)), some (.int (x3 + (1 : Int32)))] [] h1)))) : zk_R zk_D (zk_lkl lkX12) zk_mt (zk_cxl [(197, zk_iP pX12_counted)]) (some .int) (zk_at cdX12_countedAll) Q [4] k 15 4 [some (.ref 0), some (.int x1), some (.int x2), some (.int x3)] [] h := H
theorem fcX12_couldAll : zk_fc mX12_couldAll (zk_lkl lkX12) (zk_at cdX12_couldAll) := ⟨lkX12_ok, by decide +kernel, cdX12_couldAll_ok⟩
set_option maxRecDepth 100000 in
theorem bX12_couldAll_0 {pX12_could : zk_pI} {k : zk_K} {Q : zk_Q} {h : zk_H} {x1 : Int32} (H : k 4 [some (.ref 0), some (.int x1), some (.int (0 : Int32)), some (.int (0 : Int32))] [] h) : zk_R zk_D (zk_lkl lkX12) zk_mt (zk_cxl [(195, zk_iP pX12_could)]) (some .int) (zk_at cdX12_couldAll) Q [4] k 6 0 [some (.ref 0), some (.int x1), none, none] [] h := H
set_option maxRecDepth 100000 in
theorem bX12_couldAll_4 {pX12_could : zk_pI} {k : zk_K} {Q : zk_Q} {h : zk_H} {x1 x2 x3 : Int32} (H : (((h.1 0 0) ≤ x3 → Q.1 x2 h) ∧ (¬ (h.1 0 0) ≤ x3 → pX12_could [.ref 0, .int x3, .int x1] h (fun v2 h1 => ((v2 = 0 → k 4 [some (.ref 0), some (.int x1), some (.int x2), some (.int (x3 + (1 : Int32)))] [] h1) ∧ (¬ v2 = 0 → k 4 [some (.ref 0), some (.int x1), some (.int (x2 ||| ((1 : Int32) <<< (x3 &&& 31)))), some (.int (x3 + (1 : Int32)))] [] h1)))))) : zk_R zk_D (zk_lkl lkX12) zk_mt (zk_cxl [(195, zk_iP pX12_could)]) (some .int) (zk_at cdX12_couldAll) Q [4] k 19 4 [some (.ref 0), some (.int x1), some (.int x2), some (.int x3)] [] h := H
theorem fcX12_could_ : zk_fc mX12_could_ (zk_lkl lkX12) (zk_at cdX12_could_) := ⟨lkX12_ok, by decide +kernel, cdX12_could__ok⟩
set_option maxRecDepth 100000 in
theorem bX12_could__0 {pX12_isCard : zk_pI} {pX12_couldAll : zk_pI} {k : zk_K} {Q : zk_Q} {h : zk_H} {x1 : Int32} (H : pX12_isCard [.ref 0, .int x1] h (fun v2 h1 => ((v2 = 0 → Q.1 (-1 : Int32) h1) ∧ (¬ v2 = 0 → pX12_couldAll [.ref 0, .int x1] h1 (fun v4 h3 => Q.1 v4 h3))))) : zk_R zk_D (zk_lkl lkX12) zk_mt (zk_cxl [(155, zk_iP pX12_isCard), (199, zk_iP pX12_couldAll)]) (some .int) (zk_at cdX12_could_) Q [] k 11 0 [some (.ref 0), some (.int x1)] [] h := H
theorem fcX12_counts : zk_fc mX12_counts (zk_lkl lkX12) (zk_at cdX12_counts) := ⟨lkX12_ok, by decide +kernel, cdX12_counts_ok⟩
set_option maxRecDepth 100000 in
theorem bX12_counts_0 {pX12_isCardOf : zk_pI} {pX12_counted : zk_pI} {k : zk_K} {Q : zk_Q} {h : zk_H} {x1 : Int32} (H : pX12_isCardOf [.ref 0, .int x1] h (fun v2 h1 => ((v2 = 0 → Q.1 (-1 : Int32) h1) ∧ (¬ v2 = 0 → (¬ (10 : Int32) = 0 ∧ (¬ (10 : Int32) = 0 ∧ pX12_counted [.ref 0, .int (x1 - x1 / (10 : Int32) * (10 : Int32)), .int (x1 / (10 : Int32))] h1 (fun v4 h3 => Q.1 v4 h3))))))) : zk_R zk_D (zk_lkl lkX12) zk_mt (zk_cxl [(156, zk_iP pX12_isCardOf), (197, zk_iP pX12_counted)]) (some .int) (zk_at cdX12_counts) Q [] k 16 0 [some (.ref 0), some (.int x1)] [] h := H
theorem fcX12_part : zk_fc mX12_part (zk_lkl lkX12) (zk_at cdX12_part) := ⟨lkX12_ok, by decide +kernel, cdX12_part_ok⟩
set_option maxRecDepth 100000 in
theorem bX12_part_0  {k : zk_K} {Q : zk_Q} {h : zk_H} {x0 x1 x2 : Int32} (H : ((¬ x1 = 0 → k 12 [some (.int x0), some (.int x1), some (.int x2), some (.int x0), some (.int x1), none] [] h) ∧ (x1 = 0 → Q.2.1 x2.toInt64 h))) : zk_R zk_D (zk_lkl lkX12) zk_mt (zk_cxl []) (some .long) (zk_at cdX12_part) Q [12] k 8 0 [some (.int x0), some (.int x1), some (.int x2), none, none, none] [] h := H
set_option maxRecDepth 100000 in
theorem bX12_part_12  {k : zk_K} {Q : zk_Q} {h : zk_H} {x0 x1 x2 x3 x4 : Int32} (H : ((x4 = 0 → ((¬ x2 = 0 → (¬ x3 = 0 ∧ Q.2.1 (x1 / x3).toInt64 h)) ∧ (x2 = 0 → (¬ x3 = 0 ∧ Q.2.1 (x0 / x3).toInt64 h)))) ∧ (¬ x4 = 0 → (¬ x4 = 0 ∧ k 12 [some (.int x0), some (.int x1), some (.int x2), some (.int x4), some (.int (x3 - x3 / x4 * x4)), some (.int (x3 - x3 / x4 * x4))] [] h)))) : zk_R zk_D (zk_lkl lkX12) zk_mt (zk_cxl []) (some .long) (zk_at cdX12_part) Q [12] k 13 12 [some (.int x0), some (.int x1), some (.int x2), some (.int x3), some (.int x4), none] [] h := H
theorem fcX12_likely : zk_fc mX12_likely (zk_lkl lkX12) (zk_at cdX12_likely) := ⟨lkX12_ok, by decide +kernel, cdX12_likely_ok⟩
set_option maxRecDepth 100000 in
theorem bX12_likely_0 {pX12_within : zk_pI} {pX12_isCardOf : zk_pI} {pX12_counted : zk_pI} {pX12_countedAll : zk_pI} {pX12_part : zk_pL} {k : zk_K} {Q : zk_Q} {h : zk_H} {x1 x2 : Int32} (H : pX12_isCardOf [.ref 0, .int x1] h (fun v2 h1 => ((v2 = 0 → Q.2.1 (-9223372036854775808 : Int64) h1) ∧ (¬ v2 = 0 → pX12_within [.int x2, .int (0 : Int32), .int (1 : Int32)] h1 (fun v4 h3 => ((v4 = 0 → Q.2.1 (-9223372036854775808 : Int64) h3) ∧ (¬ v4 = 0 → (¬ (10 : Int32) = 0 ∧ (¬ (10 : Int32) = 0 ∧ pX12_counted [.ref 0, .int (x1 - x1 / (10 : Int32) * (10 : Int32)), .int (x1 / (10 : Int32))] h3 (fun v6 h5 => (¬ (10 : Int32) = 0 ∧ pX12_countedAll [.ref 0, .int (x1 / (10 : Int32))] h5 (fun v8 h7 => pX12_part [.int v6, .int v8, .int x2] h7 (fun v10 h9 => Q.2.1 v10 h9))))))))))))) : zk_R zk_D (zk_lkl lkX12) zk_mt (zk_cxl [(153, zk_iP pX12_within), (156, zk_iP pX12_isCardOf), (197, zk_iP pX12_counted), (198, zk_iP pX12_countedAll), (202, zk_lP pX12_part)]) (some .long) (zk_at cdX12_likely) Q [] k 28 0 [some (.ref 0), some (.int x1), some (.int x2)] [] h := H
theorem fcX12_likeliest : zk_fc mX12_likeliest (zk_lkl lkX12) (zk_at cdX12_likeliest) := ⟨lkX12_ok, by decide +kernel, cdX12_likeliest_ok⟩
set_option maxRecDepth 100000 in
theorem bX12_likeliest_0 {pX12_counted : zk_pI} {k : zk_K} {Q : zk_Q} {h : zk_H} {x1 : Int32} (H : k 8 [some (.ref 0), some (.int x1), some (.int (-2 : Int32)), some (.int (0 : Int32)), some (.int (0 : Int32))] [] h) : zk_R zk_D (zk_lkl lkX12) zk_mt (zk_cxl [(197, zk_iP pX12_counted)]) (some .int) (zk_at cdX12_likeliest) Q [8] k 8 0 [some (.ref 0), some (.int x1), none, none, none] [] h := H
set_option maxRecDepth 100000 in
theorem bX12_likeliest_8 {pX12_counted : zk_pI} {k : zk_K} {Q : zk_Q} {h : zk_H} {x1 x2 x3 x4 : Int32} (H : (((h.1 0 0) ≤ x4 → Q.1 x2 h) ∧ (¬ (h.1 0 0) ≤ x4 → pX12_counted [.ref 0, .int x4, .int x1] h (fun v2 h1 => ((x3 < v2 → pX12_counted [.ref 0, .int x4, .int x1] h1 (fun v4 h3 => k 8 [some (.ref 0), some (.int x1), some (.int x4), some (.int v4), some (.int (x4 + (1 : Int32)))] [] h3)) ∧ (¬ x3 < v2 → k 8 [some (.ref 0), some (.int x1), some (.int x2), some (.int x3), some (.int (x4 + (1 : Int32)))] [] h1)))))) : zk_R zk_D (zk_lkl lkX12) zk_mt (zk_cxl [(197, zk_iP pX12_counted)]) (some .int) (zk_at cdX12_likeliest) Q [8] k 21 8 [some (.ref 0), some (.int x1), some (.int x2), some (.int x3), some (.int x4)] [] h := H
theorem fcX12_sure : zk_fc mX12_sure (zk_lkl lkX12) (zk_at cdX12_sure) := ⟨lkX12_ok, by decide +kernel, cdX12_sure_ok⟩
set_option maxRecDepth 100000 in
theorem bX12_sure_0 {pX12_counted : zk_pI} {k : zk_K} {Q : zk_Q} {h : zk_H} {x1 : Int32} (H : k 5 [some (.ref 0), some (.int x1), some (.int (-2 : Int32)), some (.int (0 : Int32))] [] h) : zk_R zk_D (zk_lkl lkX12) zk_mt (zk_cxl [(197, zk_iP pX12_counted)]) (some .int) (zk_at cdX12_sure) Q [5] k 6 0 [some (.ref 0), some (.int x1), none, none] [] h := H
set_option maxRecDepth 100000 in
theorem bX12_sure_5 {pX12_counted : zk_pI} {k : zk_K} {Q : zk_Q} {h : zk_H} {x1 x2 x3 : Int32} (H : (((h.1 0 0) ≤ x3 → Q.1 x2 h) ∧ (¬ (h.1 0 0) ≤ x3 → pX12_counted [.ref 0, .int x3, .int x1] h (fun v2 h1 => ((¬ v2 = 0 → ((x2 = (-2 : Int32) → k 5 [some (.ref 0), some (.int x1), some (.int x3), some (.int (x3 + (1 : Int32)))] [] h1) ∧ (¬ x2 = (-2 : Int32) → Q.1 (-2 : Int32) h1))) ∧ (v2 = 0 → k 5 [some (.ref 0), some (.int x1), some (.int x2), some (.int (x3 + (1 : Int32)))] [] h1)))))) : zk_R zk_D (zk_lkl lkX12) zk_mt (zk_cxl [(197, zk_iP pX12_counted)]) (some .int) (zk_at cdX12_sure) Q [5] k 18 5 [some (.ref 0), some (.int x1), some (.int x2), some (.int x3)] [] h := H
theorem fcX12_likeliest_ : zk_fc mX12_likeliest_ (zk_lkl lkX12) (zk_at cdX12_likeliest_) := ⟨lkX12_ok, by decide +kernel, cdX12_likeliest__ok⟩
set_option maxRecDepth 100000 in
theorem bX12_likeliest__0 {pX12_within : zk_pI} {pX12_isCard : zk_pI} {pX12_likeliest : zk_pI} {pX12_sure : zk_pI} {k : zk_K} {Q : zk_Q} {h : zk_H} {x1 x2 : Int32} (H : pX12_isCard [.ref 0, .int x1] h (fun v2 h1 => ((v2 = 0 → Q.1 (-1 : Int32) h1) ∧ (¬ v2 = 0 → pX12_within [.int x2, .int (0 : Int32), .int (1 : Int32)] h1 (fun v4 h3 => ((¬ v4 = 0 → ((¬ x2 = 0 → pX12_sure [.ref 0, .int x1] h3 (fun v6 h5 => Q.1 v6 h5)) ∧ (x2 = 0 → pX12_likeliest [.ref 0, .int x1] h3 (fun v8 h7 => Q.1 v8 h7)))) ∧ (v4 = 0 → Q.1 (-1 : Int32) h3))))))) : zk_R zk_D (zk_lkl lkX12) zk_mt (zk_cxl [(153, zk_iP pX12_within), (155, zk_iP pX12_isCard), (204, zk_iP pX12_likeliest), (205, zk_iP pX12_sure)]) (some .int) (zk_at cdX12_likeliest_) Q [] k 18 0 [some (.ref 0), some (.int x1), some (.int x2)] [] h := H
theorem fcX12_allByOne : zk_fc mX12_allByOne (zk_lkl lkX12) (zk_at cdX12_allByOne) := ⟨lkX12_ok, by decide +kernel, cdX12_allByOne_ok⟩
set_option maxRecDepth 100000 in
theorem bX12_allByOne_0 {pX12_areCards : zk_pI} {pX12_has : zk_pI} {pX12_couldAll : zk_pI} {k : zk_K} {Q : zk_Q} {h : zk_H} {x1 : Int32} (H : pX12_areCards [.ref 0, .int x1] h (fun v2 h1 => ((¬ v2 = 0 → k 21 [some (.ref 0), some (.int x1), some (.int (((1 : Int32) <<< ((h1.1 0 0) &&& 31)) - (1 : Int32))), some (.int (0 : Int32))] [] h1) ∧ (v2 = 0 → Q.1 (-1 : Int32) h1)))) : zk_R zk_D (zk_lkl lkX12) zk_mt (zk_cxl [(158, zk_iP pX12_areCards), (163, zk_iP pX12_has), (199, zk_iP pX12_couldAll)]) (some .int) (zk_at cdX12_allByOne) Q [21] k 15 0 [some (.ref 0), some (.int x1), none, none] [] h := H
set_option maxRecDepth 100000 in
theorem bX12_allByOne_21 {pX12_areCards : zk_pI} {pX12_has : zk_pI} {pX12_couldAll : zk_pI} {k : zk_K} {Q : zk_Q} {h : zk_H} {x1 x2 x3 : Int32} (H : (((h.1 0 7) ≤ x3 → Q.1 x2 h) ∧ (¬ (h.1 0 7) ≤ x3 → pX12_has [.int x1, .int x3] h (fun v2 h1 => ((v2 = 0 → k 21 [some (.ref 0), some (.int x1), some (.int x2), some (.int (x3 + (1 : Int32)))] [] h1) ∧ (¬ v2 = 0 → pX12_couldAll [.ref 0, .int x3] h1 (fun v4 h3 => k 21 [some (.ref 0), some (.int x1), some (.int (x2 &&& v4)), some (.int (x3 + (1 : Int32)))] [] h3))))))) : zk_R zk_D (zk_lkl lkX12) zk_mt (zk_cxl [(158, zk_iP pX12_areCards), (163, zk_iP pX12_has), (199, zk_iP pX12_couldAll)]) (some .int) (zk_at cdX12_allByOne) Q [21] k 18 21 [some (.ref 0), some (.int x1), some (.int x2), some (.int x3)] [] h := H
theorem fcX12_areHands : zk_fc mX12_areHands (zk_lkl lkX12) (zk_at cdX12_areHands) := ⟨lkX12_ok, by decide +kernel, cdX12_areHands_ok⟩
set_option maxRecDepth 100000 in
theorem bX12_areHands_0 {pX12_has : zk_pI} {pX12_couldAll : zk_pI} {k : zk_K} {Q : zk_Q} {h : zk_H} {x1 x2 : Int32} (H : k 2 [some (.ref 0), some (.int x1), some (.int x2), some (.int (0 : Int32))] [] h) : zk_R zk_D (zk_lkl lkX12) zk_mt (zk_cxl [(163, zk_iP pX12_has), (199, zk_iP pX12_couldAll)]) (some .boolean) (zk_at cdX12_areHands) Q [2] k 4 0 [some (.ref 0), some (.int x1), some (.int x2), none] [] h := H
set_option maxRecDepth 100000 in
theorem bX12_areHands_2 {pX12_has : zk_pI} {pX12_couldAll : zk_pI} {k : zk_K} {Q : zk_Q} {h : zk_H} {x1 x2 x3 : Int32} (H : (((h.1 0 7) ≤ x3 → (((1 : Int32) = 0 ∨ (1 : Int32) = 1) ∧ Q.1 (1 : Int32) h)) ∧ (¬ (h.1 0 7) ≤ x3 → pX12_has [.int x1, .int x3] h (fun v2 h1 => ((v2 = 0 → k 2 [some (.ref 0), some (.int x1), some (.int x2), some (.int (x3 + (1 : Int32)))] [] h1) ∧ (¬ v2 = 0 → pX12_couldAll [.ref 0, .int x3] h1 (fun v4 h3 => ((¬ (v4 &&& x2) = 0 → k 2 [some (.ref 0), some (.int x1), some (.int x2), some (.int (x3 + (1 : Int32)))] [] h3) ∧ ((v4 &&& x2) = 0 → (((0 : Int32) = 0 ∨ (0 : Int32) = 1) ∧ Q.1 (0 : Int32) h3)))))))))) : zk_R zk_D (zk_lkl lkX12) zk_mt (zk_cxl [(163, zk_iP pX12_has), (199, zk_iP pX12_couldAll)]) (some .boolean) (zk_at cdX12_areHands) Q [2] k 18 2 [some (.ref 0), some (.int x1), some (.int x2), some (.int x3)] [] h := H
theorem fcX12_hands : zk_fc mX12_hands (zk_lkl lkX12) (zk_at cdX12_hands) := ⟨lkX12_ok, by decide +kernel, cdX12_hands_ok⟩
set_option maxRecDepth 100000 in
theorem bX12_hands_0 {pX12_within : zk_pI} {pX12_areCards : zk_pI} {pX12_areHands : zk_pI} {pJ6_bitCount_0f7a4 : zk_pI} {k : zk_K} {Q : zk_Q} {h : zk_H} {x1 x2 : Int32} (H : pX12_areCards [.ref 0, .int x1] h (fun v2 h1 => ((v2 = 0 → Q.1 (-1 : Int32) h1) ∧ (¬ v2 = 0 → pX12_within [.int x2, .int (0 : Int32), .int (1 : Int32)] h1 (fun v4 h3 => ((¬ v4 = 0 → k 25 [some (.ref 0), some (.int x1), some (.int x2), some (.int (-2 : Int32)), some (.int (0 : Int32))] [] h3) ∧ (v4 = 0 → Q.1 (-1 : Int32) h3))))))) : zk_R zk_D (zk_lkl lkX12) zk_mt (zk_cxl [(153, zk_iP pX12_within), (158, zk_iP pX12_areCards), (208, zk_iP pX12_areHands), (262, zk_iP pJ6_bitCount_0f7a4)]) (some .int) (zk_at cdX12_hands) Q [25] k 15 0 [some (.ref 0), some (.int x1), some (.int x2), none, none] [] h := H
set_option maxRecDepth 100000 in
theorem bX12_hands_25 {pX12_within : zk_pI} {pX12_areCards : zk_pI} {pX12_areHands : zk_pI} {pJ6_bitCount_0f7a4 : zk_pI} {k : zk_K} {Q : zk_Q} {h : zk_H} {x1 x2 x3 x4 : Int32} (H : ((((1 : Int32) <<< ((h.1 0 0) &&& 31)) ≤ x4 → ((x3 = (-2 : Int32) → Q.1 x3 h) ∧ (¬ x3 = (-2 : Int32) → ((¬ x2 = (1 : Int32) → pJ6_bitCount_0f7a4 [.int x3] h (fun v2 h1 => Q.1 v2 h1)) ∧ (x2 = (1 : Int32) → Q.1 x3 h))))) ∧ (¬ ((1 : Int32) <<< ((h.1 0 0) &&& 31)) ≤ x4 → ((x3 = (-2 : Int32) → pX12_areHands [.ref 0, .int x1, .int x4] h (fun v4 h3 => ((v4 = 0 → k 25 [some (.ref 0), some (.int x1), some (.int x2), some (.int x3), some (.int (x4 + (1 : Int32)))] [] h3) ∧ (¬ v4 = 0 → k 25 [some (.ref 0), some (.int x1), some (.int x2), some (.int x4), some (.int (x4 + (1 : Int32)))] [] h3)))) ∧ (¬ x3 = (-2 : Int32) → pJ6_bitCount_0f7a4 [.int x4] h (fun v6 h5 => pJ6_bitCount_0f7a4 [.int x3] h5 (fun v8 h7 => ((v8 ≤ v6 → k 25 [some (.ref 0), some (.int x1), some (.int x2), some (.int x3), some (.int (x4 + (1 : Int32)))] [] h7) ∧ (¬ v8 ≤ v6 → pX12_areHands [.ref 0, .int x1, .int x4] h7 (fun v10 h9 => ((v10 = 0 → k 25 [some (.ref 0), some (.int x1), some (.int x2), some (.int x3), some (.int (x4 + (1 : Int32)))] [] h9) ∧ (¬ v10 = 0 → k 25 [some (.ref 0), some (.int x1), some (.int x2), some (.int x4), some (.int (x4 + (1 : Int32)))] [] h9)))))))))))) : zk_R zk_D (zk_lkl lkX12) zk_mt (zk_cxl [(153, zk_iP pX12_within), (158, zk_iP pX12_areCards), (208, zk_iP pX12_areHands), (262, zk_iP pJ6_bitCount_0f7a4)]) (some .int) (zk_at cdX12_hands) Q [25] k 25 25 [some (.ref 0), some (.int x1), some (.int x2), some (.int x3), some (.int x4)] [] h := H
theorem fcX12_unlikes : zk_fc mX12_unlikes (zk_lkl lkX12) (zk_at cdX12_unlikes) := ⟨lkX12_ok, by decide +kernel, cdX12_unlikes_ok⟩
set_option maxRecDepth 100000 in
theorem bX12_unlikes_0 {pX12_has : zk_pI} {pX12_could : zk_pI} {pX12_unlikes : zk_pI} {k : zk_K} {Q : zk_Q} {h : zk_H} {x1 x2 x3 : Int32} (H : ((¬ x2 = (h.1 0 7) → pX12_has [.int x1, .int x2] h (fun v2 h1 => ((¬ v2 = 0 → k 34 [some (.ref 0), some (.int x1), some (.int x2), some (.int x3), some (.int (0 : Int32)), some (.int (0 : Int32))] [] h1) ∧ (v2 = 0 → pX12_unlikes [.ref 0, .int x1, .int (x2 + (1 : Int32)), .int x3] h1 (fun v4 h3 => Q.1 v4 h3))))) ∧ (x2 = (h.1 0 7) → Q.1 (1 : Int32) h))) : zk_R zk_D (zk_lkl lkX12) zk_mt (zk_cxl [(163, zk_iP pX12_has), (195, zk_iP pX12_could), (210, zk_iP pX12_unlikes)]) (some .int) (zk_at cdX12_unlikes) Q [34] k 18 0 [some (.ref 0), some (.int x1), some (.int x2), some (.int x3), none, none] [] h := H
set_option maxRecDepth 100000 in
theorem bX12_unlikes_34 {pX12_has : zk_pI} {pX12_could : zk_pI} {pX12_unlikes : zk_pI} {k : zk_K} {Q : zk_Q} {h : zk_H} {x1 x2 x3 x4 x5 : Int32} (H : (((h.1 0 0) ≤ x5 → Q.1 x4 h) ∧ (¬ (h.1 0 0) ≤ x5 → pX12_has [.int x3, .int x5] h (fun v2 h1 => ((¬ v2 = 0 → k 34 [some (.ref 0), some (.int x1), some (.int x2), some (.int x3), some (.int x4), some (.int (x5 + (1 : Int32)))] [] h1) ∧ (v2 = 0 → pX12_could [.ref 0, .int x5, .int x2] h1 (fun v4 h3 => ((v4 = 0 → k 34 [some (.ref 0), some (.int x1), some (.int x2), some (.int x3), some (.int x4), some (.int (x5 + (1 : Int32)))] [] h3) ∧ (¬ v4 = 0 → pX12_unlikes [.ref 0, .int x1, .int (x2 + (1 : Int32)), .int (x3 ||| ((1 : Int32) <<< (x5 &&& 31)))] h3 (fun v6 h5 => k 34 [some (.ref 0), some (.int x1), some (.int x2), some (.int x3), some (.int (x4 + v6)), some (.int (x5 + (1 : Int32)))] [] h5)))))))))) : zk_R zk_D (zk_lkl lkX12) zk_mt (zk_cxl [(163, zk_iP pX12_has), (195, zk_iP pX12_could), (210, zk_iP pX12_unlikes)]) (some .int) (zk_at cdX12_unlikes) Q [34] k 31 34 [some (.ref 0), some (.int x1), some (.int x2), some (.int x3), some (.int x4), some (.int x5)] [] h := H
theorem fcX12_unlike : zk_fc mX12_unlike (zk_lkl lkX12) (zk_at cdX12_unlike) := ⟨lkX12_ok, by decide +kernel, cdX12_unlike_ok⟩
set_option maxRecDepth 100000 in
theorem bX12_unlike_0 {pX12_areCards : zk_pI} {pX12_unlikes : zk_pI} {k : zk_K} {Q : zk_Q} {h : zk_H} {x1 : Int32} (H : pX12_areCards [.ref 0, .int x1] h (fun v2 h1 => ((v2 = 0 → Q.1 (-1 : Int32) h1) ∧ (¬ v2 = 0 → pX12_unlikes [.ref 0, .int x1, .int (0 : Int32), .int (0 : Int32)] h1 (fun v4 h3 => Q.1 v4 h3))))) : zk_R zk_D (zk_lkl lkX12) zk_mt (zk_cxl [(158, zk_iP pX12_areCards), (210, zk_iP pX12_unlikes)]) (some .int) (zk_at cdX12_unlike) Q [] k 13 0 [some (.ref 0), some (.int x1)] [] h := H
theorem fcX12_tellsOn : zk_fc mX12_tellsOn (zk_lkl lkX12) (zk_at cdX12_tellsOn) := ⟨lkX12_ok, by decide +kernel, cdX12_tellsOn_ok⟩
set_option maxRecDepth 100000 in
theorem bX12_tellsOn_0 {pX12_has : zk_pI} {k : zk_K} {Q : zk_Q} {h : zk_H} {x1 : Int32} (H : (vp_in (0 : Int32) 10 ∧ k 9 [some (.ref 0), some (.int x1), some (.int (0 : Int32)), none] [] (zk_si h 35 0 (0 : Int32)))) : zk_R zk_D (zk_lkl lkX12) zk_mt (zk_cxl [(163, zk_iP pX12_has)]) none (zk_at cdX12_tellsOn) Q [9, 50, 72] k 9 0 [some (.ref 0), some (.int x1), none, none] [] h := H
set_option maxRecDepth 100000 in
theorem bX12_tellsOn_9 {pX12_has : zk_pI} {k : zk_K} {Q : zk_Q} {h : zk_H} {x1 x2 : Int32} (H : (((h.1 0 0) ≤ x2 → k 50 [some (.ref 0), some (.int x1), some (.int (1 : Int32)), none] [] h) ∧ (¬ (h.1 0 0) ≤ x2 → (vp_in x2 8 ∧ pX12_has [.int (h.1 6 x2.toNatClampNeg), .int x1] h (fun v2 h1 => ((v2 = 0 → k 9 [some (.ref 0), some (.int x1), some (.int (x2 + (1 : Int32))), none] [] h1) ∧ (¬ v2 = 0 → (vp_in (0 : Int32) 10 ∧ (vp_in (0 : Int32) 10 ∧ k 9 [some (.ref 0), some (.int x1), some (.int (x2 + (1 : Int32))), none] [] (zk_si h1 35 0 ((h1.1 35 0) ||| ((1 : Int32) <<< (x2 &&& 31))))))))))))) : zk_R zk_D (zk_lkl lkX12) zk_mt (zk_cxl [(163, zk_iP pX12_has)]) none (zk_at cdX12_tellsOn) Q [9, 50, 72] k 25 9 [some (.ref 0), some (.int x1), some (.int x2), none] [] h := H
set_option maxRecDepth 100000 in
theorem bX12_tellsOn_50 {pX12_has : zk_pI} {k : zk_K} {Q : zk_Q} {h : zk_H} {x1 x2 : Int32} (H : (((10 : Int32) ≤ x2 → Q.2.2.1 () h) ∧ (¬ (10 : Int32) ≤ x2 → (vp_in (x2 - (1 : Int32)) 10 ∧ (vp_in x2 10 ∧ k 72 [some (.ref 0), some (.int x1), some (.int x2), some (.int (0 : Int32))] [] (zk_si h 35 x2.toNatClampNeg (h.1 35 (x2 - (1 : Int32)).toNatClampNeg))))))) : zk_R zk_D (zk_lkl lkX12) zk_mt (zk_cxl [(163, zk_iP pX12_has)]) none (zk_at cdX12_tellsOn) Q [9, 50, 72] k 17 50 [some (.ref 0), some (.int x1), some (.int x2), none] [] h := H
set_option maxRecDepth 100000 in
theorem bX12_tellsOn_72 {pX12_has : zk_pI} {k : zk_K} {Q : zk_Q} {h : zk_H} {x1 x2 x3 : Int32} (H : (((h.1 0 0) ≤ x3 → k 50 [some (.ref 0), some (.int x1), some (.int (x2 + (1 : Int32))), some (.int x3)] [] h) ∧ (¬ (h.1 0 0) ≤ x3 → (vp_in (x2 - (1 : Int32)) 10 ∧ pX12_has [.int (h.1 35 (x2 - (1 : Int32)).toNatClampNeg), .int x3] h (fun v2 h1 => ((v2 = 0 → k 72 [some (.ref 0), some (.int x1), some (.int x2), some (.int (x3 + (1 : Int32)))] [] h1) ∧ (¬ v2 = 0 → (vp_in x2 10 ∧ (vp_in x3 8 ∧ (vp_in x2 10 ∧ k 72 [some (.ref 0), some (.int x1), some (.int x2), some (.int (x3 + (1 : Int32)))] [] (zk_si h1 35 x2.toNatClampNeg ((h1.1 35 x2.toNatClampNeg) ||| ((h1.1 5 x3.toNatClampNeg) &&& (((1 : Int32) <<< ((h1.1 0 0) &&& 31)) - (1 : Int32))))))))))))))) : zk_R zk_D (zk_lkl lkX12) zk_mt (zk_cxl [(163, zk_iP pX12_has)]) none (zk_at cdX12_tellsOn) Q [9, 50, 72] k 35 72 [some (.ref 0), some (.int x1), some (.int x2), some (.int x3)] [] h := H
theorem fcX12_evenings : zk_fc mX12_evenings (zk_lkl lkX12) (zk_at cdX12_evenings) := ⟨lkX12_ok, by decide +kernel, cdX12_evenings_ok⟩
set_option maxRecDepth 100000 in
theorem bX12_evenings_0 {pX12_within : zk_pI} {pX12_isSecret : zk_pI} {pX12_tellsOn : zk_pV} {k : zk_K} {Q : zk_Q} {h : zk_H} {x1 x2 : Int32} (H : pX12_isSecret [.int x1] h (fun v2 h1 => ((v2 = 0 → Q.1 (-1 : Int32) h1) ∧ (¬ v2 = 0 → pX12_within [.int x2, .int (0 : Int32), .int (9 : Int32)] h1 (fun v4 h3 => ((¬ v4 = 0 → pX12_tellsOn [.ref 0, .int x1] h3 (fun h5 => (vp_in x2 10 ∧ Q.1 (h5.1 35 x2.toNatClampNeg) h5))) ∧ (v4 = 0 → Q.1 (-1 : Int32) h3))))))) : zk_R zk_D (zk_lkl lkX12) zk_mt (zk_cxl [(153, zk_iP pX12_within), (161, zk_iP pX12_isSecret), (212, zk_vP pX12_tellsOn)]) (some .int) (zk_at cdX12_evenings) Q [] k 18 0 [some (.ref 0), some (.int x1), some (.int x2)] [] h := H
theorem fcX12_hears : zk_fc mX12_hears (zk_lkl lkX12) (zk_at cdX12_hears) := ⟨lkX12_ok, by decide +kernel, cdX12_hears_ok⟩
set_option maxRecDepth 100000 in
theorem bX12_hears_0 {pX12_isOne : zk_pI} {pX12_isSecret : zk_pI} {pX12_has : zk_pI} {pX12_tellsOn : zk_pV} {k : zk_K} {Q : zk_Q} {h : zk_H} {x1 x2 : Int32} (H : pX12_isSecret [.int x1] h (fun v2 h1 => ((v2 = 0 → Q.1 (-1 : Int32) h1) ∧ (¬ v2 = 0 → pX12_isOne [.ref 0, .int x2] h1 (fun v4 h3 => ((¬ v4 = 0 → pX12_tellsOn [.ref 0, .int x1] h3 (fun h5 => k 24 [some (.ref 0), some (.int x1), some (.int x2), some (.int (0 : Int32))] [] h5)) ∧ (v4 = 0 → Q.1 (-1 : Int32) h3))))))) : zk_R zk_D (zk_lkl lkX12) zk_mt (zk_cxl [(154, zk_iP pX12_isOne), (161, zk_iP pX12_isSecret), (163, zk_iP pX12_has), (212, zk_vP pX12_tellsOn)]) (some .int) (zk_at cdX12_hears) Q [24] k 14 0 [some (.ref 0), some (.int x1), some (.int x2), none] [] h := H
set_option maxRecDepth 100000 in
theorem bX12_hears_24 {pX12_isOne : zk_pI} {pX12_isSecret : zk_pI} {pX12_has : zk_pI} {pX12_tellsOn : zk_pV} {k : zk_K} {Q : zk_Q} {h : zk_H} {x1 x2 x3 : Int32} (H : (((10 : Int32) ≤ x3 → Q.1 (-2 : Int32) h) ∧ (¬ (10 : Int32) ≤ x3 → (vp_in x3 10 ∧ pX12_has [.int (h.1 35 x3.toNatClampNeg), .int x2] h (fun v2 h1 => ((v2 = 0 → k 24 [some (.ref 0), some (.int x1), some (.int x2), some (.int (x3 + (1 : Int32)))] [] h1) ∧ (¬ v2 = 0 → Q.1 x3 h1))))))) : zk_R zk_D (zk_lkl lkX12) zk_mt (zk_cxl [(154, zk_iP pX12_isOne), (161, zk_iP pX12_isSecret), (163, zk_iP pX12_has), (212, zk_vP pX12_tellsOn)]) (some .int) (zk_at cdX12_hears) Q [24] k 14 24 [some (.ref 0), some (.int x1), some (.int x2), some (.int x3)] [] h := H
theorem fcX12_saysYes : zk_fc mX12_saysYes (zk_lkl lkX12) (zk_at cdX12_saysYes) := ⟨lkX12_ok, by decide +kernel, cdX12_saysYes_ok⟩
set_option maxRecDepth 100000 in
theorem bX12_saysYes_0 {pX12_has : zk_pI} {k : zk_K} {Q : zk_Q} {h : zk_H} {x1 x2 x3 : Int32} (H : (((8 : Int32) ≤ x3 → (((12 : Int32) ≤ x3 → (vp_in x1 8 ∧ (vp_in x2 7 ∧ pX12_has [.int (h.1 5 x1.toNatClampNeg), .int (h.1 7 x2.toNatClampNeg)] h (fun v2 h1 => ((v2 = 0 ∨ v2 = 1) ∧ Q.1 v2 h1))))) ∧ (¬ (12 : Int32) ≤ x3 → (vp_in x1 8 ∧ ((¬ (h.1 3 x1.toNatClampNeg) = (x3 - (8 : Int32)) → (((0 : Int32) = 0 ∨ (0 : Int32) = 1) ∧ Q.1 (0 : Int32) h)) ∧ ((h.1 3 x1.toNatClampNeg) = (x3 - (8 : Int32)) → (((1 : Int32) = 0 ∨ (1 : Int32) = 1) ∧ Q.1 (1 : Int32) h))))))) ∧ (¬ (8 : Int32) ≤ x3 → (vp_in x1 8 ∧ pX12_has [.int (h.1 6 x1.toNatClampNeg), .int x3] h (fun v4 h3 => ((v4 = 0 ∨ v4 = 1) ∧ Q.1 v4 h3)))))) : zk_R zk_D (zk_lkl lkX12) zk_mt (zk_cxl [(163, zk_iP pX12_has)]) (some .boolean) (zk_at cdX12_saysYes) Q [] k 19 0 [some (.ref 0), some (.int x1), some (.int x2), some (.int x3)] [] h := H
theorem fcX12_greater : zk_fc mX12_greater (zk_lkl lkX12) (zk_at cdX12_greater) := ⟨lkX12_ok, by decide +kernel, cdX12_greater_ok⟩
set_option maxRecDepth 100000 in
theorem bX12_greater_0 {pX12_counted : zk_pI} {pX12_countedAll : zk_pI} {pX12_saysYes : zk_pI} {k : zk_K} {Q : zk_Q} {h : zk_H} {x1 x2 : Int32} (H : k 5 [some (.ref 0), some (.int x1), some (.int x2), some (.int (0 : Int32)), some (.int (0 : Int32))] [] h) : zk_R zk_D (zk_lkl lkX12) zk_mt (zk_cxl [(197, zk_iP pX12_counted), (198, zk_iP pX12_countedAll), (215, zk_iP pX12_saysYes)]) (some .int) (zk_at cdX12_greater) Q [5] k 6 0 [some (.ref 0), some (.int x1), some (.int x2), none, none] [] h := H
set_option maxRecDepth 100000 in
theorem bX12_greater_5 {pX12_counted : zk_pI} {pX12_countedAll : zk_pI} {pX12_saysYes : zk_pI} {k : zk_K} {Q : zk_Q} {h : zk_H} {x1 x2 x3 x4 : Int32} (H : (((h.1 0 0) ≤ x4 → pX12_countedAll [.ref 0, .int x1] h (fun v2 h1 => Q.1 (if x3 < (v2 - x3) then (v2 - x3) else x3) h1)) ∧ (¬ (h.1 0 0) ≤ x4 → pX12_saysYes [.ref 0, .int x4, .int x1, .int x2] h (fun v4 h3 => ((v4 = 0 → k 5 [some (.ref 0), some (.int x1), some (.int x2), some (.int x3), some (.int (x4 + (1 : Int32)))] [] h3) ∧ (¬ v4 = 0 → pX12_counted [.ref 0, .int x4, .int x1] h3 (fun v6 h5 => k 5 [some (.ref 0), some (.int x1), some (.int x2), some (.int (x3 + v6)), some (.int (x4 + (1 : Int32)))] [] h5))))))) : zk_R zk_D (zk_lkl lkX12) zk_mt (zk_cxl [(197, zk_iP pX12_counted), (198, zk_iP pX12_countedAll), (215, zk_iP pX12_saysYes)]) (some .int) (zk_at cdX12_greater) Q [5] k 21 5 [some (.ref 0), some (.int x1), some (.int x2), some (.int x3), some (.int x4)] [] h := H
theorem fcX12_ask : zk_fc mX12_ask (zk_lkl lkX12) (zk_at cdX12_ask) := ⟨lkX12_ok, by decide +kernel, cdX12_ask_ok⟩
set_option maxRecDepth 100000 in
theorem bX12_ask_0 {pX12_within : zk_pI} {pX12_isCard : zk_pI} {pX12_greater : zk_pI} {k : zk_K} {Q : zk_Q} {h : zk_H} {x1 x2 : Int32} (H : pX12_isCard [.ref 0, .int x1] h (fun v2 h1 => ((v2 = 0 → Q.1 (-1 : Int32) h1) ∧ (¬ v2 = 0 → pX12_within [.int x2, .int (0 : Int32), .int (1 : Int32)] h1 (fun v4 h3 => ((¬ v4 = 0 → k 24 [some (.ref 0), some (.int x1), some (.int x2), some (.int (0 : Int32)), some (.int (1 : Int32))] [] h3) ∧ (v4 = 0 → Q.1 (-1 : Int32) h3))))))) : zk_R zk_D (zk_lkl lkX12) zk_mt (zk_cxl [(153, zk_iP pX12_within), (155, zk_iP pX12_isCard), (216, zk_iP pX12_greater)]) (some .int) (zk_at cdX12_ask) Q [24] k 15 0 [some (.ref 0), some (.int x1), some (.int x2), none, none] [] h := H
set_option maxRecDepth 100000 in
theorem bX12_ask_24 {pX12_within : zk_pI} {pX12_isCard : zk_pI} {pX12_greater : zk_pI} {k : zk_K} {Q : zk_Q} {h : zk_H} {x1 x2 x3 x4 : Int32} (H : (((13 : Int32) ≤ x4 → ((¬ x2 = 0 → pX12_greater [.ref 0, .int x1, .int x3] h (fun v2 h1 => Q.1 v2 h1)) ∧ (x2 = 0 → Q.1 x3 h))) ∧ (¬ (13 : Int32) ≤ x4 → pX12_greater [.ref 0, .int x1, .int x4] h (fun v4 h3 => pX12_greater [.ref 0, .int x1, .int x3] h3 (fun v6 h5 => ((v6 ≤ v4 → k 24 [some (.ref 0), some (.int x1), some (.int x2), some (.int x3), some (.int (x4 + (1 : Int32)))] [] h5) ∧ (¬ v6 ≤ v4 → k 24 [some (.ref 0), some (.int x1), some (.int x2), some (.int x4), some (.int (x4 + (1 : Int32)))] [] h5))))))) : zk_R zk_D (zk_lkl lkX12) zk_mt (zk_cxl [(153, zk_iP pX12_within), (155, zk_iP pX12_isCard), (216, zk_iP pX12_greater)]) (some .int) (zk_at cdX12_ask) Q [24] k 18 24 [some (.ref 0), some (.int x1), some (.int x2), some (.int x3), some (.int x4)] [] h := H
theorem fcX12_worthOf : zk_fc mX12_worthOf (zk_lkl lkX12) (zk_at cdX12_worthOf) := ⟨lkX12_ok, by decide +kernel, cdX12_worthOf_ok⟩
set_option maxRecDepth 100000 in
theorem bX12_worthOf_0 {pX12_counted : zk_pI} {pX12_countedAll : zk_pI} {k : zk_K} {Q : zk_Q} {h : zk_H} {x1 x2 : Int32} (H : pX12_countedAll [.ref 0, .int x2] h (fun v2 h1 => pX12_counted [.ref 0, .int x1, .int x2] h1 (fun v4 h3 => ((¬ v2 = 0 → (vp_in (1 : Int32) 3 ∧ (vp_in (2 : Int32) 3 ∧ (¬ v2 = 0 ∧ Q.1 (((1000 : Int32) * (((h3.1 14 1) * v4) - ((h3.1 14 2) * (v2 - v4)))) / v2) h3)))) ∧ (v2 = 0 → Q.1 (0 : Int32) h3))))) : zk_R zk_D (zk_lkl lkX12) zk_mt (zk_cxl [(197, zk_iP pX12_counted), (198, zk_iP pX12_countedAll)]) (some .int) (zk_at cdX12_worthOf) Q [] k 33 0 [some (.ref 0), some (.int x1), some (.int x2), none, none] [] h := H
theorem fcX12_worth : zk_fc mX12_worth (zk_lkl lkX12) (zk_at cdX12_worth) := ⟨lkX12_ok, by decide +kernel, cdX12_worth_ok⟩
set_option maxRecDepth 100000 in
theorem bX12_worth_0 {pX12_isCardOf : zk_pI} {pX12_worthOf : zk_pI} {k : zk_K} {Q : zk_Q} {h : zk_H} {x1 : Int32} (H : pX12_isCardOf [.ref 0, .int x1] h (fun v2 h1 => ((v2 = 0 → Q.1 (-2000000000 : Int32) h1) ∧ (¬ v2 = 0 → (¬ (10 : Int32) = 0 ∧ (¬ (10 : Int32) = 0 ∧ pX12_worthOf [.ref 0, .int (x1 - x1 / (10 : Int32) * (10 : Int32)), .int (x1 / (10 : Int32))] h1 (fun v4 h3 => Q.1 v4 h3))))))) : zk_R zk_D (zk_lkl lkX12) zk_mt (zk_cxl [(156, zk_iP pX12_isCardOf), (218, zk_iP pX12_worthOf)]) (some .int) (zk_at cdX12_worth) Q [] k 16 0 [some (.ref 0), some (.int x1)] [] h := H
theorem fcX12_thank : zk_fc mX12_thank (zk_lkl lkX12) (zk_at cdX12_thank) := ⟨lkX12_ok, by decide +kernel, cdX12_thank_ok⟩
set_option maxRecDepth 100000 in
theorem bX12_thank_0 {pX12_isCard : zk_pI} {pX12_worthOf : zk_pI} {k : zk_K} {Q : zk_Q} {h : zk_H} {x1 : Int32} (H : pX12_isCard [.ref 0, .int x1] h (fun v2 h1 => ((¬ v2 = 0 → k 18 [some (.ref 0), some (.int x1), some (.int (-2 : Int32)), some (.int (0 : Int32)), some (.int (0 : Int32))] [] h1) ∧ (v2 = 0 → Q.1 (-1 : Int32) h1)))) : zk_R zk_D (zk_lkl lkX12) zk_mt (zk_cxl [(155, zk_iP pX12_isCard), (218, zk_iP pX12_worthOf)]) (some .int) (zk_at cdX12_thank) Q [18] k 12 0 [some (.ref 0), some (.int x1), none, none, none] [] h := H
set_option maxRecDepth 100000 in
theorem bX12_thank_18 {pX12_isCard : zk_pI} {pX12_worthOf : zk_pI} {k : zk_K} {Q : zk_Q} {h : zk_H} {x1 x2 x3 x4 : Int32} (H : (((h.1 0 0) ≤ x4 → Q.1 x2 h) ∧ (¬ (h.1 0 0) ≤ x4 → pX12_worthOf [.ref 0, .int x4, .int x1] h (fun v2 h1 => ((x3 < v2 → pX12_worthOf [.ref 0, .int x4, .int x1] h1 (fun v4 h3 => k 18 [some (.ref 0), some (.int x1), some (.int x4), some (.int v4), some (.int (x4 + (1 : Int32)))] [] h3)) ∧ (¬ x3 < v2 → k 18 [some (.ref 0), some (.int x1), some (.int x2), some (.int x3), some (.int (x4 + (1 : Int32)))] [] h1)))))) : zk_R zk_D (zk_lkl lkX12) zk_mt (zk_cxl [(155, zk_iP pX12_isCard), (218, zk_iP pX12_worthOf)]) (some .int) (zk_at cdX12_thank) Q [18] k 21 18 [some (.ref 0), some (.int x1), some (.int x2), some (.int x3), some (.int x4)] [] h := H
theorem fcX12_next : zk_fc mX12_next (zk_lkl lkX12) (zk_at cdX12_next) := ⟨lkX12_ok, by decide +kernel, cdX12_next_ok⟩
set_option maxRecDepth 100000 in
theorem bX12_next_0 {pX12_within : zk_pI} {pX12_isCard : zk_pI} {pX12_couldAll : zk_pI} {pJ6_bitCount_0f7a4 : zk_pI} {k : zk_K} {Q : zk_Q} {h : zk_H} {x1 x2 : Int32} (H : pX12_isCard [.ref 0, .int x1] h (fun v2 h1 => ((v2 = 0 → Q.1 (-1 : Int32) h1) ∧ (¬ v2 = 0 → pX12_within [.int x2, .int (0 : Int32), .int (1 : Int32)] h1 (fun v4 h3 => ((¬ v4 = 0 → (vp_in x1 7 ∧ k 37 [some (.ref 0), some (.int x1), some (.int x2), some (.int (h3.1 10 x1.toNatClampNeg)), some (.int (-2 : Int32)), some (.int (-2 : Int32)), some (.int (0 : Int32)), none] [] h3)) ∧ (v4 = 0 → Q.1 (-1 : Int32) h3))))))) : zk_R zk_D (zk_lkl lkX12) zk_mt (zk_cxl [(153, zk_iP pX12_within), (155, zk_iP pX12_isCard), (199, zk_iP pX12_couldAll), (262, zk_iP pJ6_bitCount_0f7a4)]) (some .int) (zk_at cdX12_next) Q [37] k 22 0 [some (.ref 0), some (.int x1), some (.int x2), none, none, none, none, none] [] h := H
set_option maxRecDepth 100000 in
theorem bX12_next_37 {pX12_within : zk_pI} {pX12_isCard : zk_pI} {pX12_couldAll : zk_pI} {pJ6_bitCount_0f7a4 : zk_pI} {k : zk_K} {Q : zk_Q} {h : zk_H} {x1 x2 x3 x4 x5 x6 : Int32} (H : (((8 : Int32) ≤ x6 → (vp_in x1 7 ∧ ((¬ x2 = 0 → Q.1 x5 (zk_si h 10 x1.toNatClampNeg x3)) ∧ (x2 = 0 → Q.1 x4 (zk_si h 10 x1.toNatClampNeg x3))))) ∧ (¬ (8 : Int32) ≤ x6 → (vp_in x1 7 ∧ pX12_couldAll [.ref 0, .int x1] (zk_si h 10 x1.toNatClampNeg x6) (fun v2 h1 => pJ6_bitCount_0f7a4 [.int v2] h1 (fun v4 h3 => ((v4 = 0 → k 37 [some (.ref 0), some (.int x1), some (.int x2), some (.int x3), some (.int x4), some (.int x5), some (.int (x6 + (1 : Int32))), some (.int v4)] [] h3) ∧ (¬ v4 = 0 → ((x4 = (-2 : Int32) → k 37 [some (.ref 0), some (.int x1), some (.int x2), some (.int x3), some (.int x6), some (.int v4), some (.int (x6 + (1 : Int32))), some (.int v4)] [] h3) ∧ (¬ x4 = (-2 : Int32) → ((v4 < x5 → k 37 [some (.ref 0), some (.int x1), some (.int x2), some (.int x3), some (.int x6), some (.int v4), some (.int (x6 + (1 : Int32))), some (.int v4)] [] h3) ∧ (¬ v4 < x5 → k 37 [some (.ref 0), some (.int x1), some (.int x2), some (.int x3), some (.int x4), some (.int x5), some (.int (x6 + (1 : Int32))), some (.int v4)] [] h3)))))))))))) : zk_R zk_D (zk_lkl lkX12) zk_mt (zk_cxl [(153, zk_iP pX12_within), (155, zk_iP pX12_isCard), (199, zk_iP pX12_couldAll), (262, zk_iP pJ6_bitCount_0f7a4)]) (some .int) (zk_at cdX12_next) Q [37] k 29 37 [some (.ref 0), some (.int x1), some (.int x2), some (.int x3), some (.int x4), some (.int x5), some (.int x6), none] [] h := H
theorem fcX12_writes : zk_fc mX12_writes (zk_lkl lkX12) (zk_at cdX12_writes) := ⟨lkX12_ok, by decide +kernel, cdX12_writes_ok⟩
set_option maxRecDepth 100000 in
theorem bX12_writes_0 {pX12_isWay : zk_pI} {pX12_has : zk_pI} {pX12_newCard : zk_pI} {pX12_tells : zk_pV} {pX12_isIn : zk_pI} {pX12_counted : zk_pI} {pX12_countedAll : zk_pI} {k : zk_K} {Q : zk_Q} {h : zk_H} {x1 x2 x3 x4 : Int32} (H : pX12_newCard [.ref 0, .int x2, .int x3, .int (0 : Int32)] (zk_si h 0 53 (-2 : Int32)) (fun v2 h1 => k 17 [some (.ref 0), some (.int x1), some (.int x2), some (.int x3), some (.int x4), some (.int (0 : Int32)), none, none, none] [] h1)) : zk_R zk_D (zk_lkl lkX12) zk_mt (zk_cxl [(160, zk_iP pX12_isWay), (163, zk_iP pX12_has), (167, zk_iP pX12_newCard), (168, zk_vP pX12_tells), (194, zk_iP pX12_isIn), (197, zk_iP pX12_counted), (198, zk_iP pX12_countedAll)]) none (zk_at cdX12_writes) Q [17] k 13 0 [some (.ref 0), some (.int x1), some (.int x2), some (.int x3), some (.int x4), none, none, none, none] [] h := H
set_option maxRecDepth 100000 in
theorem bX12_writes_17 {pX12_isWay : zk_pI} {pX12_has : zk_pI} {pX12_newCard : zk_pI} {pX12_tells : zk_pV} {pX12_isIn : zk_pI} {pX12_counted : zk_pI} {pX12_countedAll : zk_pI} {k : zk_K} {Q : zk_Q} {h : zk_H} {x1 x2 x3 x4 x5 : Int32} (H : (((842 : Int32) ≤ x5 → Q.2.2.1 () (zk_si h 0 7 ((h.1 0 7) - (1 : Int32)))) ∧ (¬ (842 : Int32) ≤ x5 → pX12_isWay [.int x5] h (fun v2 h1 => ((v2 = 0 → k 17 [some (.ref 0), some (.int x1), some (.int x2), some (.int x3), some (.int x4), some (.int (x5 + (1 : Int32))), none, none, none] [] h1) ∧ (¬ v2 = 0 → ((x5 ≤ (99 : Int32) → (¬ (10 : Int32) = 0 ∧ ((¬ (x5 - x5 / (10 : Int32) * (10 : Int32)) = (1 : Int32) → pX12_tells [.ref 0, .int ((h1.1 0 7) - (1 : Int32)), .int x5] h1 (fun h3 => pX12_counted [.ref 0, .int x1, .int ((h3.1 0 7) - (1 : Int32))] h3 (fun v5 h4 => pX12_countedAll [.ref 0, .int ((h4.1 0 7) - (1 : Int32))] h4 (fun v7 h6 => ((v7 = 0 → k 17 [some (.ref 0), some (.int x1), some (.int x2), some (.int x3), some (.int x4), some (.int (x5 + (1 : Int32))), some (.int v5), some (.int v7), some (.int ((v7 * (h6.1 0 54)) - ((h6.1 0 55) * v5)))] [] h6) ∧ (¬ v7 = 0 → (((h6.1 0 53) = (-2 : Int32) → k 17 [some (.ref 0), some (.int x1), some (.int x2), some (.int x3), some (.int x4), some (.int (x5 + (1 : Int32))), some (.int v5), some (.int v7), some (.int ((v7 * (h6.1 0 54)) - ((h6.1 0 55) * v5)))] [] (zk_si (zk_si (zk_si h6 0 53 x5) 0 54 v5) 0 55 v7)) ∧ (¬ (h6.1 0 53) = (-2 : Int32) → ((¬ x4 = 0 → ((0 < ((v7 * (h6.1 0 54)) - ((h6.1 0 55) * v5)) → k 17 [some (.ref 0), some (.int x1), some (.int x2), some (.int x3), some (.int x4), some (.int (x5 + (1 : Int32))), some (.int v5), some (.int v7), some (.int ((v7 * (h6.1 0 54)) - ((h6.1 0 55) * v5)))] [] (zk_si (zk_si (zk_si h6 0 53 x5) 0 54 v5) 0 55 v7)) ∧ (¬ 0 < ((v7 * (h6.1 0 54)) - ((h6.1 0 55) * v5)) → k 17 [some (.ref 0), some (.int x1), some (.int x2), some (.int x3), some (.int x4), some (.int (x5 + (1 : Int32))), some (.int v5), some (.int v7), some (.int ((v7 * (h6.1 0 54)) - ((h6.1 0 55) * v5)))] [] h6))) ∧ (x4 = 0 → ((((v7 * (h6.1 0 54)) - ((h6.1 0 55) * v5)) < 0 → k 17 [some (.ref 0), some (.int x1), some (.int x2), some (.int x3), some (.int x4), some (.int (x5 + (1 : Int32))), some (.int v5), some (.int v7), some (.int ((v7 * (h6.1 0 54)) - ((h6.1 0 55) * v5)))] [] (zk_si (zk_si (zk_si h6 0 53 x5) 0 54 v5) 0 55 v7)) ∧ (¬ ((v7 * (h6.1 0 54)) - ((h6.1 0 55) * v5)) < 0 → k 17 [some (.ref 0), some (.int x1), some (.int x2), some (.int x3), some (.int x4), some (.int (x5 + (1 : Int32))), some (.int v5), some (.int v7), some (.int ((v7 * (h6.1 0 54)) - ((h6.1 0 55) * v5)))] [] h6)))))))))))) ∧ ((x5 - x5 / (10 : Int32) * (10 : Int32)) = (1 : Int32) → pX12_isIn [.ref 0, .int x1, .int x3] h1 (fun v9 h8 => ((¬ v9 = 0 → pX12_tells [.ref 0, .int ((h8.1 0 7) - (1 : Int32)), .int x5] h8 (fun h10 => pX12_counted [.ref 0, .int x1, .int ((h10.1 0 7) - (1 : Int32))] h10 (fun v12 h11 => pX12_countedAll [.ref 0, .int ((h11.1 0 7) - (1 : Int32))] h11 (fun v14 h13 => ((v14 = 0 → k 17 [some (.ref 0), some (.int x1), some (.int x2), some (.int x3), some (.int x4), some (.int (x5 + (1 : Int32))), some (.int v12), some (.int v14), some (.int ((v14 * (h13.1 0 54)) - ((h13.1 0 55) * v12)))] [] h13) ∧ (¬ v14 = 0 → (((h13.1 0 53) = (-2 : Int32) → k 17 [some (.ref 0), some (.int x1), some (.int x2), some (.int x3), some (.int x4), some (.int (x5 + (1 : Int32))), some (.int v12), some (.int v14), some (.int ((v14 * (h13.1 0 54)) - ((h13.1 0 55) * v12)))] [] (zk_si (zk_si (zk_si h13 0 53 x5) 0 54 v12) 0 55 v14)) ∧ (¬ (h13.1 0 53) = (-2 : Int32) → ((¬ x4 = 0 → ((0 < ((v14 * (h13.1 0 54)) - ((h13.1 0 55) * v12)) → k 17 [some (.ref 0), some (.int x1), some (.int x2), some (.int x3), some (.int x4), some (.int (x5 + (1 : Int32))), some (.int v12), some (.int v14), some (.int ((v14 * (h13.1 0 54)) - ((h13.1 0 55) * v12)))] [] (zk_si (zk_si (zk_si h13 0 53 x5) 0 54 v12) 0 55 v14)) ∧ (¬ 0 < ((v14 * (h13.1 0 54)) - ((h13.1 0 55) * v12)) → k 17 [some (.ref 0), some (.int x1), some (.int x2), some (.int x3), some (.int x4), some (.int (x5 + (1 : Int32))), some (.int v12), some (.int v14), some (.int ((v14 * (h13.1 0 54)) - ((h13.1 0 55) * v12)))] [] h13))) ∧ (x4 = 0 → ((((v14 * (h13.1 0 54)) - ((h13.1 0 55) * v12)) < 0 → k 17 [some (.ref 0), some (.int x1), some (.int x2), some (.int x3), some (.int x4), some (.int (x5 + (1 : Int32))), some (.int v12), some (.int v14), some (.int ((v14 * (h13.1 0 54)) - ((h13.1 0 55) * v12)))] [] (zk_si (zk_si (zk_si h13 0 53 x5) 0 54 v12) 0 55 v14)) ∧ (¬ ((v14 * (h13.1 0 54)) - ((h13.1 0 55) * v12)) < 0 → k 17 [some (.ref 0), some (.int x1), some (.int x2), some (.int x3), some (.int x4), some (.int (x5 + (1 : Int32))), some (.int v12), some (.int v14), some (.int ((v14 * (h13.1 0 54)) - ((h13.1 0 55) * v12)))] [] h13)))))))))))) ∧ (v9 = 0 → k 17 [some (.ref 0), some (.int x1), some (.int x2), some (.int x3), some (.int x4), some (.int (x5 + (1 : Int32))), none, none, none] [] h8))))))) ∧ (¬ x5 ≤ (99 : Int32) → (vp_in x1 8 ∧ (¬ (100 : Int32) = 0 ∧ pX12_has [.int (h1.1 6 x1.toNatClampNeg), .int ((x5 / (100 : Int32)) - (1 : Int32))] h1 (fun v16 h15 => ((v16 = 0 → k 17 [some (.ref 0), some (.int x1), some (.int x2), some (.int x3), some (.int x4), some (.int (x5 + (1 : Int32))), none, none, none] [] h15) ∧ (¬ v16 = 0 → (¬ (10 : Int32) = 0 ∧ ((¬ (x5 - x5 / (10 : Int32) * (10 : Int32)) = (1 : Int32) → pX12_tells [.ref 0, .int ((h15.1 0 7) - (1 : Int32)), .int x5] h15 (fun h17 => pX12_counted [.ref 0, .int x1, .int ((h17.1 0 7) - (1 : Int32))] h17 (fun v19 h18 => pX12_countedAll [.ref 0, .int ((h18.1 0 7) - (1 : Int32))] h18 (fun v21 h20 => ((v21 = 0 → k 17 [some (.ref 0), some (.int x1), some (.int x2), some (.int x3), some (.int x4), some (.int (x5 + (1 : Int32))), some (.int v19), some (.int v21), some (.int ((v21 * (h20.1 0 54)) - ((h20.1 0 55) * v19)))] [] h20) ∧ (¬ v21 = 0 → (((h20.1 0 53) = (-2 : Int32) → k 17 [some (.ref 0), some (.int x1), some (.int x2), some (.int x3), some (.int x4), some (.int (x5 + (1 : Int32))), some (.int v19), some (.int v21), some (.int ((v21 * (h20.1 0 54)) - ((h20.1 0 55) * v19)))] [] (zk_si (zk_si (zk_si h20 0 53 x5) 0 54 v19) 0 55 v21)) ∧ (¬ (h20.1 0 53) = (-2 : Int32) → ((¬ x4 = 0 → ((0 < ((v21 * (h20.1 0 54)) - ((h20.1 0 55) * v19)) → k 17 [some (.ref 0), some (.int x1), some (.int x2), some (.int x3), some (.int x4), some (.int (x5 + (1 : Int32))), some (.int v19), some (.int v21), some (.int ((v21 * (h20.1 0 54)) - ((h20.1 0 55) * v19)))] [] (zk_si (zk_si (zk_si h20 0 53 x5) 0 54 v19) 0 55 v21)) ∧ (¬ 0 < ((v21 * (h20.1 0 54)) - ((h20.1 0 55) * v19)) → k 17 [some (.ref 0), some (.int x1), some (.int x2), some (.int x3), some (.int x4), some (.int (x5 + (1 : Int32))), some (.int v19), some (.int v21), some (.int ((v21 * (h20.1 0 54)) - ((h20.1 0 55) * v19)))] [] h20))) ∧ (x4 = 0 → ((((v21 * (h20.1 0 54)) - ((h20.1 0 55) * v19)) < 0 → k 17 [some (.ref 0), some (.int x1), some (.int x2), some (.int x3), some (.int x4), some (.int (x5 + (1 : Int32))), some (.int v19), some (.int v21), some (.int ((v21 * (h20.1 0 54)) - ((h20.1 0 55) * v19)))] [] (zk_si (zk_si (zk_si h20 0 53 x5) 0 54 v19) 0 55 v21)) ∧ (¬ ((v21 * (h20.1 0 54)) - ((h20.1 0 55) * v19)) < 0 → k 17 [some (.ref 0), some (.int x1), some (.int x2), some (.int x3), some (.int x4), some (.int (x5 + (1 : Int32))), some (.int v19), some (.int v21), some (.int ((v21 * (h20.1 0 54)) - ((h20.1 0 55) * v19)))] [] h20)))))))))))) ∧ ((x5 - x5 / (10 : Int32) * (10 : Int32)) = (1 : Int32) → pX12_isIn [.ref 0, .int x1, .int x3] h15 (fun v23 h22 => ((¬ v23 = 0 → pX12_tells [.ref 0, .int ((h22.1 0 7) - (1 : Int32)), .int x5] h22 (fun h24 => pX12_counted [.ref 0, .int x1, .int ((h24.1 0 7) - (1 : Int32))] h24 (fun v26 h25 => pX12_countedAll [.ref 0, .int ((h25.1 0 7) - (1 : Int32))] h25 (fun v28 h27 => ((v28 = 0 → k 17 [some (.ref 0), some (.int x1), some (.int x2), some (.int x3), some (.int x4), some (.int (x5 + (1 : Int32))), some (.int v26), some (.int v28), some (.int ((v28 * (h27.1 0 54)) - ((h27.1 0 55) * v26)))] [] h27) ∧ (¬ v28 = 0 → (((h27.1 0 53) = (-2 : Int32) → k 17 [some (.ref 0), some (.int x1), some (.int x2), some (.int x3), some (.int x4), some (.int (x5 + (1 : Int32))), some (.int v26), some (.int v28), some (.int ((v28 * (h27.1 0 54)) - ((h27.1 0 55) * v26)))] [] (zk_si (zk_si (zk_si h27 0 53 x5) 0 54 v26) 0 55 v28)) ∧ (¬ (h27.1 0 53) = (-2 : Int32) → ((¬ x4 = 0 → ((0 < ((v28 * (h27.1 0 54)) - ((h27.1 0 55) * v26)) → k 17 [some (.ref 0), some (.int x1), some (.int x2), some (.int x3), some (.int x4), some (.int (x5 + (1 : Int32))), some (.int v26), some (.int v28), some (.int ((v28 * (h27.1 0 54)) - ((h27.1 0 55) * v26)))] [] (zk_si (zk_si (zk_si h27 0 53 x5) 0 54 v26) 0 55 v28)) ∧ (¬ 0 < ((v28 * (h27.1 0 54)) - ((h27.1 0 55) * v26)) → k 17 [some (.ref 0), some (.int x1), some (.int x2), some (.int x3), some (.int x4), some (.int (x5 + (1 : Int32))), some (.int v26), some (.int v28), some (.int ((v28 * (h27.1 0 54)) - ((h27.1 0 55) * v26)))] [] h27))) ∧ (x4 = 0 → ((((v28 * (h27.1 0 54)) - ((h27.1 0 55) * v26)) < 0 → k 17 [some (.ref 0), some (.int x1), some (.int x2), some (.int x3), some (.int x4), some (.int (x5 + (1 : Int32))), some (.int v26), some (.int v28), some (.int ((v28 * (h27.1 0 54)) - ((h27.1 0 55) * v26)))] [] (zk_si (zk_si (zk_si h27 0 53 x5) 0 54 v26) 0 55 v28)) ∧ (¬ ((v28 * (h27.1 0 54)) - ((h27.1 0 55) * v26)) < 0 → k 17 [some (.ref 0), some (.int x1), some (.int x2), some (.int x3), some (.int x4), some (.int (x5 + (1 : Int32))), some (.int v26), some (.int v28), some (.int ((v28 * (h27.1 0 54)) - ((h27.1 0 55) * v26)))] [] h27)))))))))))) ∧ (v23 = 0 → k 17 [some (.ref 0), some (.int x1), some (.int x2), some (.int x3), some (.int x4), some (.int (x5 + (1 : Int32))), none, none, none] [] h22))))))))))))))))))) : zk_R zk_D (zk_lkl lkX12) zk_mt (zk_cxl [(160, zk_iP pX12_isWay), (163, zk_iP pX12_has), (167, zk_iP pX12_newCard), (168, zk_vP pX12_tells), (194, zk_iP pX12_isIn), (197, zk_iP pX12_counted), (198, zk_iP pX12_countedAll)]) none (zk_at cdX12_writes) Q [17] k 85 17 [some (.ref 0), some (.int x1), some (.int x2), some (.int x3), some (.int x4), some (.int x5), none, none, none] [] h := H
theorem fcX12_write : zk_fc mX12_write (zk_lkl lkX12) (zk_at cdX12_write) := ⟨lkX12_ok, by decide +kernel, cdX12_write_ok⟩
set_option maxRecDepth 100000 in
theorem bX12_write_0 {pX12_within : zk_pI} {pX12_areTwo : zk_pI} {pX12_isMinute : zk_pI} {pX12_writes : zk_pV} {k : zk_K} {Q : zk_Q} {h : zk_H} {x1 x2 x3 : Int32} (H : pX12_areTwo [.ref 0, .int x1] h (fun v2 h1 => ((v2 = 0 → Q.1 (-1 : Int32) h1) ∧ (¬ v2 = 0 → pX12_isMinute [.int x2] h1 (fun v4 h3 => ((v4 = 0 → Q.1 (-1 : Int32) h3) ∧ (¬ v4 = 0 → pX12_within [.int x3, .int (0 : Int32), .int (1 : Int32)] h3 (fun v6 h5 => ((¬ v6 = 0 → (¬ (10 : Int32) = 0 ∧ (¬ (10 : Int32) = 0 ∧ pX12_writes [.ref 0, .int (x1 / (10 : Int32)), .int (x1 - x1 / (10 : Int32) * (10 : Int32)), .int x2, .int x3] h5 (fun h7 => Q.1 (h7.1 0 53) h7)))) ∧ (v6 = 0 → Q.1 (-1 : Int32) h5)))))))))) : zk_R zk_D (zk_lkl lkX12) zk_mt (zk_cxl [(153, zk_iP pX12_within), (157, zk_iP pX12_areTwo), (159, zk_iP pX12_isMinute), (222, zk_vP pX12_writes)]) (some .int) (zk_at cdX12_write) Q [] k 27 0 [some (.ref 0), some (.int x1), some (.int x2), some (.int x3)] [] h := H
theorem fcX12_written : zk_fc mX12_written (zk_lkl lkX12) (zk_at cdX12_written) := ⟨lkX12_ok, by decide +kernel, cdX12_written_ok⟩
set_option maxRecDepth 100000 in
theorem bX12_written_0 {pX12_areTwo : zk_pI} {pX12_isMinute : zk_pI} {pX12_part : zk_pL} {pX12_writes : zk_pV} {k : zk_K} {Q : zk_Q} {h : zk_H} {x1 x2 x3 : Int32} (H : pX12_areTwo [.ref 0, .int x1] h (fun v2 h1 => ((v2 = 0 → Q.2.1 (-9223372036854775808 : Int64) h1) ∧ (¬ v2 = 0 → pX12_isMinute [.int x2] h1 (fun v4 h3 => ((v4 = 0 → Q.2.1 (-9223372036854775808 : Int64) h3) ∧ (¬ v4 = 0 → ((x3 < 0 → Q.2.1 (-9223372036854775808 : Int64) h3) ∧ (¬ x3 < 0 → (¬ (10 : Int32) = 0 ∧ (((1 : Int32) < (x3 / (10 : Int32)) → Q.2.1 (-9223372036854775808 : Int64) h3) ∧ (¬ (1 : Int32) < (x3 / (10 : Int32)) → (¬ (10 : Int32) = 0 ∧ (((x3 - x3 / (10 : Int32) * (10 : Int32)) ≤ (1 : Int32) → (¬ (10 : Int32) = 0 ∧ (¬ (10 : Int32) = 0 ∧ (¬ (10 : Int32) = 0 ∧ pX12_writes [.ref 0, .int (x1 / (10 : Int32)), .int (x1 - x1 / (10 : Int32) * (10 : Int32)), .int x2, .int (x3 / (10 : Int32))] h3 (fun h5 => ((¬ (h5.1 0 53) = (-2 : Int32) → (¬ (10 : Int32) = 0 ∧ pX12_part [.int (h5.1 0 54), .int (h5.1 0 55), .int (x3 - x3 / (10 : Int32) * (10 : Int32))] h5 (fun v7 h6 => Q.2.1 v7 h6))) ∧ ((h5.1 0 53) = (-2 : Int32) → (¬ (10 : Int32) = 0 ∧ Q.2.1 (x3 - x3 / (10 : Int32) * (10 : Int32)).toInt64 h5)))))))) ∧ (¬ (x3 - x3 / (10 : Int32) * (10 : Int32)) ≤ (1 : Int32) → Q.2.1 (-9223372036854775808 : Int64) h3))))))))))))))) : zk_R zk_D (zk_lkl lkX12) zk_mt (zk_cxl [(157, zk_iP pX12_areTwo), (159, zk_iP pX12_isMinute), (202, zk_lP pX12_part), (222, zk_vP pX12_writes)]) (some .long) (zk_at cdX12_written) Q [] k 46 0 [some (.ref 0), some (.int x1), some (.int x2), some (.int x3)] [] h := H
theorem fcX12_noRow : zk_fc mX12_noRow (zk_lkl lkX12) (zk_at cdX12_noRow) := ⟨lkX12_ok, by decide +kernel, cdX12_noRow_ok⟩
set_option maxRecDepth 100000 in
theorem bX12_noRow_0  {k : zk_K} {Q : zk_Q} {h : zk_H} {x1 x2 : Int32} (H : (vp_in x1 6 ∧ ((¬ (h.1 32 x1.toNatClampNeg) = (-1 : Int32) → (vp_in x1 6 ∧ (((h.1 32 x1.toNatClampNeg) = x2 → Q.1 (0 : Int32) h) ∧ (¬ (h.1 32 x1.toNatClampNeg) = x2 → Q.1 (-12 : Int32) h)))) ∧ ((h.1 32 x1.toNatClampNeg) = (-1 : Int32) → Q.1 (-11 : Int32) h)))) : zk_R zk_D (zk_lkl lkX12) zk_mt (zk_cxl []) (some .int) (zk_at cdX12_noRow) Q [] k 17 0 [some (.ref 0), some (.int x1), some (.int x2)] [] h := H
theorem fcX12_toldAt : zk_fc mX12_toldAt (zk_lkl lkX12) (zk_at cdX12_toldAt) := ⟨lkX12_ok, by decide +kernel, cdX12_toldAt_ok⟩
set_option maxRecDepth 100000 in
theorem bX12_toldAt_0  {k : zk_K} {Q : zk_Q} {h : zk_H} {x1 x2 : Int32} (H : (vp_in (((60 : Int32) * x1) + x2) 360 ∧ Q.1 (h.2 34 (((60 : Int32) * x1) + x2).toNatClampNeg).toInt32 h)) : zk_R zk_D (zk_lkl lkX12) zk_mt (zk_cxl []) (some .int) (zk_at cdX12_toldAt) Q [] k 12 0 [some (.ref 0), some (.int x1), some (.int x2)] [] h := H
theorem fcX12_most : zk_fc mX12_most (zk_lkl lkX12) (zk_at cdX12_most) := ⟨lkX12_ok, by decide +kernel, cdX12_most_ok⟩
set_option maxRecDepth 100000 in
theorem bX12_most_0  {k : zk_K} {Q : zk_Q} {h : zk_H}  (H : k 5 [some (.ref 0), some (.int (-2 : Int32)), some (.int (0 : Int32))] [] h) : zk_R zk_D (zk_lkl lkX12) zk_mt (zk_cxl []) (some .int) (zk_at cdX12_most) Q [5] k 6 0 [some (.ref 0), none, none] [] h := H
set_option maxRecDepth 100000 in
theorem bX12_most_5  {k : zk_K} {Q : zk_Q} {h : zk_H} {x1 x2 : Int32} (H : (((h.1 0 0) ≤ x2 → Q.1 x1 h) ∧ (¬ (h.1 0 0) ≤ x2 → (vp_in x2 8 ∧ ((¬ x1 = (-2 : Int32) → (vp_in x1 8 ∧ (((h.1 36 x2.toNatClampNeg) ≤ (h.1 36 x1.toNatClampNeg) → k 5 [some (.ref 0), some (.int x1), some (.int (x2 + (1 : Int32)))] [] h) ∧ (¬ (h.1 36 x2.toNatClampNeg) ≤ (h.1 36 x1.toNatClampNeg) → k 5 [some (.ref 0), some (.int x2), some (.int (x2 + (1 : Int32)))] [] h)))) ∧ (x1 = (-2 : Int32) → (((h.1 36 x2.toNatClampNeg) ≤ (0 : Int32) → k 5 [some (.ref 0), some (.int x1), some (.int (x2 + (1 : Int32)))] [] h) ∧ (¬ (h.1 36 x2.toNatClampNeg) ≤ (0 : Int32) → k 5 [some (.ref 0), some (.int x2), some (.int (x2 + (1 : Int32)))] [] h)))))))) : zk_R zk_D (zk_lkl lkX12) zk_mt (zk_cxl []) (some .int) (zk_at cdX12_most) Q [5] k 22 5 [some (.ref 0), some (.int x1), some (.int x2)] [] h := H
theorem fcX12_lookedFrom : zk_fc mX12_lookedFrom (zk_lkl lkX12) (zk_at cdX12_lookedFrom) := ⟨lkX12_ok, by decide +kernel, cdX12_lookedFrom_ok⟩
set_option maxRecDepth 100000 in
theorem bX12_lookedFrom_0 {pX12_isOne : zk_pI} {pX12_toldAt : zk_pI} {k : zk_K} {Q : zk_Q} {h : zk_H} {x1 x2 : Int32} (H : k 2 [some (.ref 0), some (.int x1), some (.int x2), some (.int (0 : Int32))] [] h) : zk_R zk_D (zk_lkl lkX12) zk_mt (zk_cxl [(154, zk_iP pX12_isOne), (226, zk_iP pX12_toldAt)]) none (zk_at cdX12_lookedFrom) Q [2, 23] k 4 0 [some (.ref 0), some (.int x1), some (.int x2), none] [] h := H
set_option maxRecDepth 100000 in
theorem bX12_lookedFrom_2 {pX12_isOne : zk_pI} {pX12_toldAt : zk_pI} {k : zk_K} {Q : zk_Q} {h : zk_H} {x1 x2 x3 : Int32} (H : (((8 : Int32) ≤ x3 → k 23 [some (.ref 0), some (.int x1), some (.int x2), some (.int (0 : Int32))] [] h) ∧ (¬ (8 : Int32) ≤ x3 → (vp_in x3 8 ∧ k 2 [some (.ref 0), some (.int x1), some (.int x2), some (.int (x3 + (1 : Int32)))] [] (zk_si h 36 x3.toNatClampNeg (0 : Int32)))))) : zk_R zk_D (zk_lkl lkX12) zk_mt (zk_cxl [(154, zk_iP pX12_isOne), (226, zk_iP pX12_toldAt)]) none (zk_at cdX12_lookedFrom) Q [2, 23] k 12 2 [some (.ref 0), some (.int x1), some (.int x2), some (.int x3)] [] h := H
set_option maxRecDepth 100000 in
theorem bX12_lookedFrom_23 {pX12_isOne : zk_pI} {pX12_toldAt : zk_pI} {k : zk_K} {Q : zk_Q} {h : zk_H} {x1 x2 x3 : Int32} (H : (vp_in x1 6 ∧ (((h.1 33 x1.toNatClampNeg) ≤ x3 → Q.2.2.1 () h) ∧ (¬ (h.1 33 x1.toNatClampNeg) ≤ x3 → pX12_toldAt [.ref 0, .int x1, .int x3] h (fun v2 h1 => pX12_isOne [.ref 0, .int v2] h1 (fun v4 h3 => ((v4 = 0 → k 23 [some (.ref 0), some (.int x1), some (.int x2), some (.int (x3 + (1 : Int32)))] [] h3) ∧ (¬ v4 = 0 → pX12_toldAt [.ref 0, .int x1, .int x3] h3 (fun v6 h5 => (vp_in v6 8 ∧ ((x2 ≤ x3 → (vp_in v6 8 ∧ k 23 [some (.ref 0), some (.int x1), some (.int x2), some (.int (x3 + (1 : Int32)))] [] (zk_si h5 36 v6.toNatClampNeg ((h5.1 36 v6.toNatClampNeg) + (1 : Int32))))) ∧ (¬ x2 ≤ x3 → (vp_in v6 8 ∧ k 23 [some (.ref 0), some (.int x1), some (.int x2), some (.int (x3 + (1 : Int32)))] [] (zk_si h5 36 v6.toNatClampNeg ((h5.1 36 v6.toNatClampNeg) + (-1 : Int32)))))))))))))))) : zk_R zk_D (zk_lkl lkX12) zk_mt (zk_cxl [(154, zk_iP pX12_isOne), (226, zk_iP pX12_toldAt)]) none (zk_at cdX12_lookedFrom) Q [2, 23] k 32 23 [some (.ref 0), some (.int x1), some (.int x2), some (.int x3)] [] h := H
theorem fcX12_strange : zk_fc mX12_strange (zk_lkl lkX12) (zk_at cdX12_strange) := ⟨lkX12_ok, by decide +kernel, cdX12_strange_ok⟩
set_option maxRecDepth 100000 in
theorem bX12_strange_0 {pX12_isOne : zk_pI} {pX12_isIn : zk_pI} {pX12_toldAt : zk_pI} {k : zk_K} {Q : zk_Q} {h : zk_H} {x1 : Int32} (H : k 2 [some (.ref 0), some (.int x1), some (.int (0 : Int32))] [] h) : zk_R zk_D (zk_lkl lkX12) zk_mt (zk_cxl [(154, zk_iP pX12_isOne), (194, zk_iP pX12_isIn), (226, zk_iP pX12_toldAt)]) (some .int) (zk_at cdX12_strange) Q [2] k 4 0 [some (.ref 0), some (.int x1), none] [] h := H
set_option maxRecDepth 100000 in
theorem bX12_strange_2 {pX12_isOne : zk_pI} {pX12_isIn : zk_pI} {pX12_toldAt : zk_pI} {k : zk_K} {Q : zk_Q} {h : zk_H} {x1 x2 : Int32} (H : (vp_in x1 6 ∧ (((h.1 33 x1.toNatClampNeg) ≤ x2 → Q.1 (-2 : Int32) h) ∧ (¬ (h.1 33 x1.toNatClampNeg) ≤ x2 → pX12_toldAt [.ref 0, .int x1, .int x2] h (fun v2 h1 => pX12_isOne [.ref 0, .int v2] h1 (fun v4 h3 => ((v4 = 0 → k 2 [some (.ref 0), some (.int x1), some (.int (x2 + (1 : Int32)))] [] h3) ∧ (¬ v4 = 0 → pX12_toldAt [.ref 0, .int x1, .int x2] h3 (fun v6 h5 => pX12_isIn [.ref 0, .int v6, .int x2] h5 (fun v8 h7 => ((¬ v8 = 0 → k 2 [some (.ref 0), some (.int x1), some (.int (x2 + (1 : Int32)))] [] h7) ∧ (v8 = 0 → Q.1 x2 h7)))))))))))) : zk_R zk_D (zk_lkl lkX12) zk_mt (zk_cxl [(154, zk_iP pX12_isOne), (194, zk_iP pX12_isIn), (226, zk_iP pX12_toldAt)]) (some .int) (zk_at cdX12_strange) Q [2] k 25 2 [some (.ref 0), some (.int x1), some (.int x2)] [] h := H
theorem fcX12_looks : zk_fc mX12_looks (zk_lkl lkX12) (zk_at cdX12_looks) := ⟨lkX12_ok, by decide +kernel, cdX12_looks_ok⟩
set_option maxRecDepth 100000 in
theorem bX12_looks_0 {pX12_within : zk_pI} {pX12_isShelf : zk_pI} {pX12_noRow : zk_pI} {pX12_most : zk_pI} {pX12_lookedFrom : zk_pV} {pX12_strange : zk_pI} {k : zk_K} {Q : zk_Q} {h : zk_H} {x1 x2 : Int32} (H : pX12_isShelf [.int x1] h (fun v2 h1 => ((v2 = 0 → Q.1 (-1 : Int32) h1) ∧ (¬ v2 = 0 → pX12_within [.int x2, .int (-2 : Int32), .int ((h1.1 0 0) - (1 : Int32))] h1 (fun v4 h3 => ((¬ v4 = 0 → pX12_noRow [.ref 0, .int x1, .int (0 : Int32)] h3 (fun v6 h5 => ((0 ≤ v6 → pX12_lookedFrom [.ref 0, .int x1, .int (0 : Int32)] h5 (fun h7 => ((x2 < 0 → ((¬ x2 = (-1 : Int32) → pX12_strange [.ref 0, .int x1] h7 (fun v9 h8 => Q.1 v9 h8)) ∧ (x2 = (-1 : Int32) → pX12_most [.ref 0] h7 (fun v11 h10 => Q.1 v11 h10)))) ∧ (¬ x2 < 0 → (vp_in x2 8 ∧ Q.1 (h7.1 36 x2.toNatClampNeg) h7))))) ∧ (¬ 0 ≤ v6 → Q.1 v6 h5)))) ∧ (v4 = 0 → Q.1 (-1 : Int32) h3))))))) : zk_R zk_D (zk_lkl lkX12) zk_mt (zk_cxl [(153, zk_iP pX12_within), (162, zk_iP pX12_isShelf), (225, zk_iP pX12_noRow), (227, zk_iP pX12_most), (228, zk_vP pX12_lookedFrom), (229, zk_iP pX12_strange)]) (some .int) (zk_at cdX12_looks) Q [] k 33 0 [some (.ref 0), some (.int x1), some (.int x2), none] [] h := H
theorem fcX12_since : zk_fc mX12_since (zk_lkl lkX12) (zk_at cdX12_since) := ⟨lkX12_ok, by decide +kernel, cdX12_since_ok⟩
set_option maxRecDepth 100000 in
theorem bX12_since_0 {pX12_isMinute : zk_pI} {pX12_isShelf : zk_pI} {pX12_noRow : zk_pI} {pX12_most : zk_pI} {pX12_lookedFrom : zk_pV} {k : zk_K} {Q : zk_Q} {h : zk_H} {x1 x2 : Int32} (H : pX12_isShelf [.int x1] h (fun v2 h1 => ((v2 = 0 → Q.1 (-1 : Int32) h1) ∧ (¬ v2 = 0 → pX12_isMinute [.int x2] h1 (fun v4 h3 => ((¬ v4 = 0 → pX12_noRow [.ref 0, .int x1, .int (0 : Int32)] h3 (fun v6 h5 => ((0 ≤ v6 → pX12_lookedFrom [.ref 0, .int x1, .int x2] h5 (fun h7 => pX12_most [.ref 0] h7 (fun v9 h8 => Q.1 v9 h8))) ∧ (¬ 0 ≤ v6 → Q.1 v6 h5)))) ∧ (v4 = 0 → Q.1 (-1 : Int32) h3))))))) : zk_R zk_D (zk_lkl lkX12) zk_mt (zk_cxl [(159, zk_iP pX12_isMinute), (162, zk_iP pX12_isShelf), (225, zk_iP pX12_noRow), (227, zk_iP pX12_most), (228, zk_vP pX12_lookedFrom)]) (some .int) (zk_at cdX12_since) Q [] k 22 0 [some (.ref 0), some (.int x1), some (.int x2), none] [] h := H
theorem fcX12_canBe : zk_fc mX12_canBe (zk_lkl lkX12) (zk_at cdX12_canBe) := ⟨lkX12_ok, by decide +kernel, cdX12_canBe_ok⟩
set_option maxRecDepth 100000 in
theorem bX12_canBe_0 {pX12_isOne : zk_pI} {pX12_isCard : zk_pI} {pX12_could : zk_pI} {pX12_couldAll : zk_pI} {pX12_toldAt : zk_pI} {k : zk_K} {Q : zk_Q} {h : zk_H} {x1 x2 : Int32} (H : (vp_in x1 6 ∧ (((((2 : Int32) * x2) + (1 : Int32)) < (h.1 33 x1.toNatClampNeg) → pX12_toldAt [.ref 0, .int x1, .int ((2 : Int32) * x2)] h (fun v2 h1 => pX12_toldAt [.ref 0, .int x1, .int (((2 : Int32) * x2) + (1 : Int32))] h1 (fun v4 h3 => pX12_isCard [.ref 0, .int v2] h3 (fun v6 h5 => ((¬ v6 = 0 → ((¬ v4 = (-1 : Int32) → pX12_isOne [.ref 0, .int v4] h5 (fun v8 h7 => ((v8 = 0 → (((0 : Int32) = 0 ∨ (0 : Int32) = 1) ∧ Q.1 (0 : Int32) h7)) ∧ (¬ v8 = 0 → pX12_could [.ref 0, .int v4, .int v2] h7 (fun v10 h9 => ((v10 = 0 → (((0 : Int32) = 0 ∨ (0 : Int32) = 1) ∧ Q.1 (0 : Int32) h9)) ∧ (¬ v10 = 0 → (((1 : Int32) = 0 ∨ (1 : Int32) = 1) ∧ Q.1 (1 : Int32) h9)))))))) ∧ (v4 = (-1 : Int32) → pX12_couldAll [.ref 0, .int v2] h5 (fun v12 h11 => ((v12 = 0 → (((0 : Int32) = 0 ∨ (0 : Int32) = 1) ∧ Q.1 (0 : Int32) h11)) ∧ (¬ v12 = 0 → (((1 : Int32) = 0 ∨ (1 : Int32) = 1) ∧ Q.1 (1 : Int32) h11))))))) ∧ (v6 = 0 → (((0 : Int32) = 0 ∨ (0 : Int32) = 1) ∧ Q.1 (0 : Int32) h5))))))) ∧ (¬ (((2 : Int32) * x2) + (1 : Int32)) < (h.1 33 x1.toNatClampNeg) → (((0 : Int32) = 0 ∨ (0 : Int32) = 1) ∧ Q.1 (0 : Int32) h))))) : zk_R zk_D (zk_lkl lkX12) zk_mt (zk_cxl [(154, zk_iP pX12_isOne), (155, zk_iP pX12_isCard), (195, zk_iP pX12_could), (199, zk_iP pX12_couldAll), (226, zk_iP pX12_toldAt)]) (some .boolean) (zk_at cdX12_canBe) Q [] k 47 0 [some (.ref 0), some (.int x1), some (.int x2), none, none] [] h := H
theorem fcX12_wrong : zk_fc mX12_wrong (zk_lkl lkX12) (zk_at cdX12_wrong) := ⟨lkX12_ok, by decide +kernel, cdX12_wrong_ok⟩
set_option maxRecDepth 100000 in
theorem bX12_wrong_0 {pX12_canBe : zk_pI} {k : zk_K} {Q : zk_Q} {h : zk_H} {x1 : Int32} (H : k 2 [some (.ref 0), some (.int x1), some (.int (0 : Int32))] [] h) : zk_R zk_D (zk_lkl lkX12) zk_mt (zk_cxl [(232, zk_iP pX12_canBe)]) (some .int) (zk_at cdX12_wrong) Q [2] k 4 0 [some (.ref 0), some (.int x1), none] [] h := H
set_option maxRecDepth 100000 in
theorem bX12_wrong_2 {pX12_canBe : zk_pI} {k : zk_K} {Q : zk_Q} {h : zk_H} {x1 x2 : Int32} (H : (vp_in x1 6 ∧ (((h.1 33 x1.toNatClampNeg) ≤ ((2 : Int32) * x2) → Q.1 (-2 : Int32) h) ∧ (¬ (h.1 33 x1.toNatClampNeg) ≤ ((2 : Int32) * x2) → pX12_canBe [.ref 0, .int x1, .int x2] h (fun v2 h1 => ((¬ v2 = 0 → k 2 [some (.ref 0), some (.int x1), some (.int (x2 + (1 : Int32)))] [] h1) ∧ (v2 = 0 → Q.1 x2 h1))))))) : zk_R zk_D (zk_lkl lkX12) zk_mt (zk_cxl [(232, zk_iP pX12_canBe)]) (some .int) (zk_at cdX12_wrong) Q [2] k 17 2 [some (.ref 0), some (.int x1), some (.int x2)] [] h := H
theorem fcX12_judge : zk_fc mX12_judge (zk_lkl lkX12) (zk_at cdX12_judge) := ⟨lkX12_ok, by decide +kernel, cdX12_judge_ok⟩
set_option maxRecDepth 100000 in
theorem bX12_judge_0 {pX12_isShelf : zk_pI} {pX12_noRow : zk_pI} {pX12_wrong : zk_pI} {k : zk_K} {Q : zk_Q} {h : zk_H} {x1 : Int32} (H : pX12_isShelf [.int x1] h (fun v2 h1 => ((¬ v2 = 0 → pX12_noRow [.ref 0, .int x1, .int (1 : Int32)] h1 (fun v4 h3 => ((0 ≤ v4 → pX12_wrong [.ref 0, .int x1] h3 (fun v6 h5 => Q.1 v6 h5)) ∧ (¬ 0 ≤ v4 → Q.1 v4 h3)))) ∧ (v2 = 0 → Q.1 (-1 : Int32) h1)))) : zk_R zk_D (zk_lkl lkX12) zk_mt (zk_cxl [(162, zk_iP pX12_isShelf), (225, zk_iP pX12_noRow), (233, zk_iP pX12_wrong)]) (some .int) (zk_at cdX12_judge) Q [] k 16 0 [some (.ref 0), some (.int x1), none] [] h := H
theorem fcX12_filled : zk_fc mX12_filled (zk_lkl lkX12) (zk_at cdX12_filled) := ⟨lkX12_ok, by decide +kernel, cdX12_filled_ok⟩
set_option maxRecDepth 100000 in
theorem bX12_filled_0 {pX12_within : zk_pI} {pX12_isShelf : zk_pI} {pX12_counted : zk_pI} {pX12_countedAll : zk_pI} {pX12_couldAll : zk_pI} {pX12_noRow : zk_pI} {pX12_toldAt : zk_pI} {pX12_wrong : zk_pI} {pJ6_bitCount_0f7a4 : zk_pI} {k : zk_K} {Q : zk_Q} {h : zk_H} {x1 x2 : Int32} (H : pX12_isShelf [.int x1] h (fun v2 h1 => ((v2 = 0 → Q.2.1 (-9223372036854775808 : Int64) h1) ∧ (¬ v2 = 0 → pX12_within [.int x2, .int (0 : Int32), .int (1 : Int32)] h1 (fun v4 h3 => ((v4 = 0 → Q.2.1 (-9223372036854775808 : Int64) h3) ∧ (¬ v4 = 0 → pX12_noRow [.ref 0, .int x1, .int (1 : Int32)] h3 (fun v6 h5 => ((0 ≤ v6 → pX12_wrong [.ref 0, .int x1] h5 (fun v8 h7 => ((v8 = (-2 : Int32) → k 46 [some (.ref 0), some (.int x1), some (.int x2), some (.long (1 : Int64)), none, some (.int (0 : Int32)), none, none] [] h7) ∧ (¬ v8 = (-2 : Int32) → Q.2.1 (0 : Int64) h7)))) ∧ (¬ 0 ≤ v6 → Q.2.1 (-9223372036854775808 : Int64) h5)))))))))) : zk_R zk_D (zk_lkl lkX12) zk_mt (zk_cxl [(153, zk_iP pX12_within), (162, zk_iP pX12_isShelf), (197, zk_iP pX12_counted), (198, zk_iP pX12_countedAll), (199, zk_iP pX12_couldAll), (225, zk_iP pX12_noRow), (226, zk_iP pX12_toldAt), (233, zk_iP pX12_wrong), (262, zk_iP pJ6_bitCount_0f7a4)]) (some .long) (zk_at cdX12_filled) Q [46] k 24 0 [some (.ref 0), some (.int x1), some (.int x2), none, none, none, none, none] [] h := H
set_option maxRecDepth 100000 in
theorem bX12_filled_46 {pX12_within : zk_pI} {pX12_isShelf : zk_pI} {pX12_counted : zk_pI} {pX12_countedAll : zk_pI} {pX12_couldAll : zk_pI} {pX12_noRow : zk_pI} {pX12_toldAt : zk_pI} {pX12_wrong : zk_pI} {pJ6_bitCount_0f7a4 : zk_pI} {k : zk_K} {Q : zk_Q} {h : zk_H} {x1 x2 x5 : Int32} {x3 : Int64} (H : (vp_in x1 6 ∧ (((h.1 33 x1.toNatClampNeg) ≤ ((2 : Int32) * x5) → Q.2.1 x3 h) ∧ (¬ (h.1 33 x1.toNatClampNeg) ≤ ((2 : Int32) * x5) → pX12_toldAt [.ref 0, .int x1, .int ((2 : Int32) * x5)] h (fun v2 h1 => pX12_toldAt [.ref 0, .int x1, .int (((2 : Int32) * x5) + (1 : Int32))] h1 (fun v4 h3 => ((¬ x2 = 0 → ((¬ v4 = (-1 : Int32) → pX12_counted [.ref 0, .int v4, .int v2] h3 (fun v6 h5 => k 46 [some (.ref 0), some (.int x1), some (.int x2), some (.long (x3 * v6.toInt64)), none, some (.int (x5 + (1 : Int32))), some (.int v2), some (.int v4)] [] h5)) ∧ (v4 = (-1 : Int32) → pX12_countedAll [.ref 0, .int v2] h3 (fun v8 h7 => k 46 [some (.ref 0), some (.int x1), some (.int x2), some (.long (x3 * v8.toInt64)), none, some (.int (x5 + (1 : Int32))), some (.int v2), some (.int v4)] [] h7)))) ∧ (x2 = 0 → ((¬ v4 = (-1 : Int32) → k 46 [some (.ref 0), some (.int x1), some (.int x2), some (.long (x3 * (1 : Int64))), none, some (.int (x5 + (1 : Int32))), some (.int v2), some (.int v4)] [] h3) ∧ (v4 = (-1 : Int32) → pX12_couldAll [.ref 0, .int v2] h3 (fun v10 h9 => pJ6_bitCount_0f7a4 [.int v10] h9 (fun v12 h11 => k 46 [some (.ref 0), some (.int x1), some (.int x2), some (.long (x3 * v12.toInt64)), none, some (.int (x5 + (1 : Int32))), some (.int v2), some (.int v4)] [] h11)))))))))))) : zk_R zk_D (zk_lkl lkX12) zk_mt (zk_cxl [(153, zk_iP pX12_within), (162, zk_iP pX12_isShelf), (197, zk_iP pX12_counted), (198, zk_iP pX12_countedAll), (199, zk_iP pX12_couldAll), (225, zk_iP pX12_noRow), (226, zk_iP pX12_toldAt), (233, zk_iP pX12_wrong), (262, zk_iP pJ6_bitCount_0f7a4)]) (some .long) (zk_at cdX12_filled) Q [46] k 43 46 [some (.ref 0), some (.int x1), some (.int x2), some (.long x3), none, some (.int x5), none, none] [] h := H
theorem fcX12_hope : zk_fc mX12_hope (zk_lkl lkX12) (zk_at cdX12_hope) := ⟨lkX12_ok, by decide +kernel, cdX12_hope_ok⟩
set_option maxRecDepth 100000 in
theorem bX12_hope_0 {pX12_within : zk_pI} {pX12_isCard : zk_pI} {pX12_has : zk_pI} {pX12_counted : zk_pI} {pX12_countedAll : zk_pI} {k : zk_K} {Q : zk_Q} {h : zk_H} {x1 x2 : Int32} (H : pX12_isCard [.ref 0, .int x1] h (fun v2 h1 => ((v2 = 0 → Q.1 (-1 : Int32) h1) ∧ (¬ v2 = 0 → pX12_within [.int x2, .int (0 : Int32), .int (1 : Int32)] h1 (fun v4 h3 => ((¬ v4 = 0 → k 28 [some (.ref 0), some (.int x1), some (.int x2), some (.int (-2 : Int32)), some (.int (0 : Int32)), some (.int (0 : Int32))] [] h3) ∧ (v4 = 0 → Q.1 (-1 : Int32) h3))))))) : zk_R zk_D (zk_lkl lkX12) zk_mt (zk_cxl [(153, zk_iP pX12_within), (155, zk_iP pX12_isCard), (163, zk_iP pX12_has), (197, zk_iP pX12_counted), (198, zk_iP pX12_countedAll)]) (some .int) (zk_at cdX12_hope) Q [28] k 17 0 [some (.ref 0), some (.int x1), some (.int x2), none, none, none] [] h := H
set_option maxRecDepth 100000 in
theorem bX12_hope_28 {pX12_within : zk_pI} {pX12_isCard : zk_pI} {pX12_has : zk_pI} {pX12_counted : zk_pI} {pX12_countedAll : zk_pI} {k : zk_K} {Q : zk_Q} {h : zk_H} {x1 x2 x3 x4 x5 : Int32} (H : (((h.1 0 0) ≤ x5 → ((¬ x2 = 0 → pX12_countedAll [.ref 0, .int x1] h (fun v2 h1 => ((x3 = (-2 : Int32) → Q.1 (0 : Int32) h1) ∧ (¬ x3 = (-2 : Int32) → ((¬ v2 = 0 → pX12_counted [.ref 0, .int x3, .int x1] h1 (fun v4 h3 => (¬ v2 = 0 ∧ Q.1 (((1000000 : Int32) * (v4 - x4)) / v2) h3))) ∧ (v2 = 0 → Q.1 (0 : Int32) h1)))))) ∧ (x2 = 0 → Q.1 x3 h))) ∧ (¬ (h.1 0 0) ≤ x5 → pX12_counted [.ref 0, .int x5, .int x1] h (fun v6 h5 => (vp_in x1 7 ∧ (vp_in (h5.1 7 x1.toNatClampNeg) 8 ∧ pX12_has [.int (h5.1 5 (h5.1 7 x1.toNatClampNeg).toNatClampNeg), .int x5] h5 (fun v8 h7 => ((v8 = 0 → k 28 [some (.ref 0), some (.int x1), some (.int x2), some (.int x3), some (.int (if x4 < v6 then v6 else x4)), some (.int (x5 + (1 : Int32)))] [] h7) ∧ (¬ v8 = 0 → pX12_counted [.ref 0, .int x5, .int x1] h7 (fun v10 h9 => ((¬ v10 = 0 → ((x3 = (-2 : Int32) → k 28 [some (.ref 0), some (.int x1), some (.int x2), some (.int x5), some (.int (if x4 < v6 then v6 else x4)), some (.int (x5 + (1 : Int32)))] [] h9) ∧ (¬ x3 = (-2 : Int32) → pX12_counted [.ref 0, .int x5, .int x1] h9 (fun v12 h11 => pX12_counted [.ref 0, .int x3, .int x1] h11 (fun v14 h13 => ((v12 ≤ v14 → k 28 [some (.ref 0), some (.int x1), some (.int x2), some (.int x3), some (.int (if x4 < v6 then v6 else x4)), some (.int (x5 + (1 : Int32)))] [] h13) ∧ (¬ v12 ≤ v14 → k 28 [some (.ref 0), some (.int x1), some (.int x2), some (.int x5), some (.int (if x4 < v6 then v6 else x4)), some (.int (x5 + (1 : Int32)))] [] h13))))))) ∧ (v10 = 0 → k 28 [some (.ref 0), some (.int x1), some (.int x2), some (.int x3), some (.int (if x4 < v6 then v6 else x4)), some (.int (x5 + (1 : Int32)))] [] h9)))))))))))) : zk_R zk_D (zk_lkl lkX12) zk_mt (zk_cxl [(153, zk_iP pX12_within), (155, zk_iP pX12_isCard), (163, zk_iP pX12_has), (197, zk_iP pX12_counted), (198, zk_iP pX12_countedAll)]) (some .int) (zk_at cdX12_hope) Q [28] k 44 28 [some (.ref 0), some (.int x1), some (.int x2), some (.int x3), some (.int x4), some (.int x5)] [] h := H
theorem fcX12_drawn : zk_fc mX12_drawn (zk_lkl lkX12) (zk_at cdX12_drawn) := ⟨lkX12_ok, by decide +kernel, cdX12_drawn_ok⟩
set_option maxRecDepth 100000 in
theorem bX12_drawn_0 {pX12_within : zk_pI} {pX12_isCard : zk_pI} {pX12_counted : zk_pI} {pX12_countedAll : zk_pI} {k : zk_K} {Q : zk_Q} {h : zk_H} {x1 x2 x3 x4 : Int32} (H : pX12_isCard [.ref 0, .int x1] h (fun v2 h1 => ((v2 = 0 → Q.1 (-1 : Int32) h1) ∧ (¬ v2 = 0 → pX12_within [.int x3, .int (1 : Int32), .int (50 : Int32)] h1 (fun v4 h3 => ((v4 = 0 → Q.1 (-1 : Int32) h3) ∧ (¬ v4 = 0 → pX12_within [.int x4, .int (-1 : Int32), .int ((h3.1 0 0) - (1 : Int32))] h3 (fun v6 h5 => ((¬ v6 = 0 → pX12_countedAll [.ref 0, .int x1] h5 (fun v8 h7 => k 45 [some (.ref 0), some (.int x1), some (.int x2), some (.int x3), some (.int x4), some (.int v8), some (.int (0 : Int32)), none, none, none] [] h7)) ∧ (v6 = 0 → Q.1 (-1 : Int32) h5)))))))))) : zk_R zk_D (zk_lkl lkX12) zk_mt (zk_cxl [(153, zk_iP pX12_within), (155, zk_iP pX12_isCard), (197, zk_iP pX12_counted), (198, zk_iP pX12_countedAll)]) (some .int) (zk_at cdX12_drawn) Q [45, 72, 108, 174] k 25 0 [some (.ref 0), some (.int x1), some (.int x2), some (.int x3), some (.int x4), none, none, none, none, none] [] h := H
set_option maxRecDepth 100000 in
theorem bX12_drawn_45 {pX12_within : zk_pI} {pX12_isCard : zk_pI} {pX12_counted : zk_pI} {pX12_countedAll : zk_pI} {k : zk_K} {Q : zk_Q} {h : zk_H} {x1 x2 x3 x4 x5 x6 : Int32} (H : (((8 : Int32) ≤ x6 → k 72 [some (.ref 0), some (.int x1), some (.int x2), some (.int x3), some (.int x4), some (.int x5), some (.int x2), some (.int (0 : Int32)), none, none] [] h) ∧ (¬ (8 : Int32) ≤ x6 → (vp_in x6 8 ∧ k 45 [some (.ref 0), some (.int x1), some (.int x2), some (.int x3), some (.int x4), some (.int x5), some (.int (x6 + (1 : Int32))), none, none, none] [] (zk_si h 36 x6.toNatClampNeg (0 : Int32)))))) : zk_R zk_D (zk_lkl lkX12) zk_mt (zk_cxl [(153, zk_iP pX12_within), (155, zk_iP pX12_isCard), (197, zk_iP pX12_counted), (198, zk_iP pX12_countedAll)]) (some .int) (zk_at cdX12_drawn) Q [45, 72, 108, 174] k 12 45 [some (.ref 0), some (.int x1), some (.int x2), some (.int x3), some (.int x4), some (.int x5), some (.int x6), none, none, none] [] h := H
set_option maxRecDepth 100000 in
theorem bX12_drawn_72 {pX12_within : zk_pI} {pX12_isCard : zk_pI} {pX12_counted : zk_pI} {pX12_countedAll : zk_pI} {k : zk_K} {Q : zk_Q} {h : zk_H} {x1 x2 x3 x4 x5 x6 x7 : Int32} (H : ((x3 ≤ x7 → ((x4 < 0 → k 174 [some (.ref 0), some (.int x1), some (.int x2), some (.int x3), some (.int x4), some (.int x5), some (.int x6), some (.int (0 : Int32)), some (.int (0 : Int32)), none] [] h) ∧ (¬ x4 < 0 → (vp_in x4 8 ∧ Q.1 (h.1 36 x4.toNatClampNeg) h)))) ∧ (¬ x3 ≤ x7 → ((x5 ≤ 0 → ((x4 < 0 → k 174 [some (.ref 0), some (.int x1), some (.int x2), some (.int x3), some (.int x4), some (.int x5), some (.int x6), some (.int (0 : Int32)), some (.int (0 : Int32)), none] [] h) ∧ (¬ x4 < 0 → (vp_in x4 8 ∧ Q.1 (h.1 36 x4.toNatClampNeg) h)))) ∧ (¬ x5 ≤ 0 → (¬ x5 = 0 ∧ k 108 [some (.ref 0), some (.int x1), some (.int x2), some (.int x3), some (.int x4), some (.int x5), some (.int ((x6 * (1103515245 : Int32)) + (12345 : Int32))), some (.int x7), some (.int ((((x6 * (1103515245 : Int32)) + (12345 : Int32)).toUInt32 >>> ((8 : Int32).toUInt32 &&& Int32.toUInt32 31)).toInt32 - (((x6 * (1103515245 : Int32)) + (12345 : Int32)).toUInt32 >>> ((8 : Int32).toUInt32 &&& Int32.toUInt32 31)).toInt32 / x5 * x5)), some (.int (0 : Int32))] [] h)))))) : zk_R zk_D (zk_lkl lkX12) zk_mt (zk_cxl [(153, zk_iP pX12_within), (155, zk_iP pX12_isCard), (197, zk_iP pX12_counted), (198, zk_iP pX12_countedAll)]) (some .int) (zk_at cdX12_drawn) Q [45, 72, 108, 174] k 21 72 [some (.ref 0), some (.int x1), some (.int x2), some (.int x3), some (.int x4), some (.int x5), some (.int x6), some (.int x7), none, none] [] h := H
set_option maxRecDepth 100000 in
theorem bX12_drawn_174 {pX12_within : zk_pI} {pX12_isCard : zk_pI} {pX12_counted : zk_pI} {pX12_countedAll : zk_pI} {k : zk_K} {Q : zk_Q} {h : zk_H} {x1 x2 x3 x4 x5 x6 x7 x8 : Int32} (H : (((8 : Int32) ≤ x8 → Q.1 x7 h) ∧ (¬ (8 : Int32) ≤ x8 → (vp_in x8 8 ∧ k 174 [some (.ref 0), some (.int x1), some (.int x2), some (.int x3), some (.int x4), some (.int x5), some (.int x6), some (.int (if x7 < (h.1 36 x8.toNatClampNeg) then (h.1 36 x8.toNatClampNeg) else x7)), some (.int (x8 + (1 : Int32))), none] [] h)))) : zk_R zk_D (zk_lkl lkX12) zk_mt (zk_cxl [(153, zk_iP pX12_within), (155, zk_iP pX12_isCard), (197, zk_iP pX12_counted), (198, zk_iP pX12_countedAll)]) (some .int) (zk_at cdX12_drawn) Q [45, 72, 108, 174] k 14 174 [some (.ref 0), some (.int x1), some (.int x2), some (.int x3), some (.int x4), some (.int x5), some (.int x6), some (.int x7), some (.int x8), none] [] h := H
set_option maxRecDepth 100000 in
theorem bX12_drawn_108 {pX12_within : zk_pI} {pX12_isCard : zk_pI} {pX12_counted : zk_pI} {pX12_countedAll : zk_pI} {k : zk_K} {Q : zk_Q} {h : zk_H} {x1 x2 x3 x4 x5 x6 x7 x8 x9 : Int32} (H : pX12_counted [.ref 0, .int x9, .int x1] h (fun v2 h1 => ((x8 < v2 → (vp_in x9 8 ∧ (vp_in x9 8 ∧ k 72 [some (.ref 0), some (.int x1), some (.int x2), some (.int x3), some (.int x4), some (.int x5), some (.int x6), some (.int (x7 + (1 : Int32))), some (.int x8), some (.int x9)] [] (zk_si h1 36 x9.toNatClampNeg ((h1.1 36 x9.toNatClampNeg) + (1 : Int32)))))) ∧ (¬ x8 < v2 → pX12_counted [.ref 0, .int x9, .int x1] h1 (fun v4 h3 => k 108 [some (.ref 0), some (.int x1), some (.int x2), some (.int x3), some (.int x4), some (.int x5), some (.int x6), some (.int x7), some (.int (x8 - v4)), some (.int (x9 + (1 : Int32)))] [] h3))))) : zk_R zk_D (zk_lkl lkX12) zk_mt (zk_cxl [(153, zk_iP pX12_within), (155, zk_iP pX12_isCard), (197, zk_iP pX12_counted), (198, zk_iP pX12_countedAll)]) (some .int) (zk_at cdX12_drawn) Q [45, 72, 108, 174] k 18 108 [some (.ref 0), some (.int x1), some (.int x2), some (.int x3), some (.int x4), some (.int x5), some (.int x6), some (.int x7), some (.int x8), some (.int x9)] [] h := H
theorem fcX12_pass : zk_fc mX12_pass (zk_lkl lkX12) (zk_at cdX12_pass) := ⟨lkX12_ok, by decide +kernel, cdX12_pass_ok⟩
set_option maxRecDepth 100000 in
theorem bX12_pass_0 {pX12_within : zk_pI} {k : zk_K} {Q : zk_Q} {h : zk_H} {x1 : Int32} (H : pX12_within [.int x1, .int (1 : Int32), .int (99 : Int32)] h (fun v2 h1 => ((¬ v2 = 0 → ((((h1.1 0 16) + x1) ≤ (99 : Int32) → Q.1 ((h1.1 0 16) + x1) (zk_si h1 0 16 ((h1.1 0 16) + x1))) ∧ (¬ ((h1.1 0 16) + x1) ≤ (99 : Int32) → Q.1 (-5 : Int32) h1))) ∧ (v2 = 0 → Q.1 (-1 : Int32) h1)))) : zk_R zk_D (zk_lkl lkX12) zk_mt (zk_cxl [(153, zk_iP pX12_within)]) (some .int) (zk_at cdX12_pass) Q [] k 22 0 [some (.ref 0), some (.int x1)] [] h := H
theorem fcX12_send : zk_fc mX12_send (zk_lkl lkX12) (zk_at cdX12_send) := ⟨lkX12_ok, by decide +kernel, cdX12_send_ok⟩
set_option maxRecDepth 100000 in
theorem bX12_send_0 {pX12_areTwo : zk_pI} {pX12_isWay : zk_pI} {pX12_has : zk_pI} {pX12_newCard : zk_pI} {pX12_isIn : zk_pI} {k : zk_K} {Q : zk_Q} {h : zk_H} {x1 x2 : Int32} (H : pX12_areTwo [.ref 0, .int x1] h (fun v2 h1 => ((v2 = 0 → Q.1 (-1 : Int32) h1) ∧ (¬ v2 = 0 → pX12_isWay [.int x2] h1 (fun v4 h3 => ((¬ v4 = 0 → (¬ (10 : Int32) = 0 ∧ ((x2 ≤ (99 : Int32) → (¬ (10 : Int32) = 0 ∧ ((¬ (x2 - x2 / (10 : Int32) * (10 : Int32)) = (1 : Int32) → ((¬ (h3.1 0 7) = (6 : Int32) → (vp_in (0 : Int32) 4 ∧ (vp_in (0 : Int32) 4 ∧ (¬ (10 : Int32) = 0 ∧ pX12_newCard [.ref 0, .int (x1 - x1 / (10 : Int32) * (10 : Int32)), .int (h3.1 0 16), .int x2] (zk_si h3 26 0 ((h3.1 26 0) + (1 : Int32))) (fun v6 h5 => (vp_in v6 7 ∧ Q.1 v6 (zk_si h5 12 v6.toNatClampNeg (x1 / (10 : Int32))))))))) ∧ ((h3.1 0 7) = (6 : Int32) → Q.1 (-3 : Int32) h3))) ∧ ((x2 - x2 / (10 : Int32) * (10 : Int32)) = (1 : Int32) → pX12_isIn [.ref 0, .int (x1 / (10 : Int32)), .int (h3.1 0 16)] h3 (fun v8 h7 => ((¬ v8 = 0 → ((¬ (h7.1 0 7) = (6 : Int32) → (vp_in (0 : Int32) 4 ∧ (vp_in (0 : Int32) 4 ∧ (¬ (10 : Int32) = 0 ∧ pX12_newCard [.ref 0, .int (x1 - x1 / (10 : Int32) * (10 : Int32)), .int (h7.1 0 16), .int x2] (zk_si h7 26 0 ((h7.1 26 0) + (1 : Int32))) (fun v10 h9 => (vp_in v10 7 ∧ Q.1 v10 (zk_si h9 12 v10.toNatClampNeg (x1 / (10 : Int32))))))))) ∧ ((h7.1 0 7) = (6 : Int32) → Q.1 (-3 : Int32) h7))) ∧ (v8 = 0 → Q.1 (-1 : Int32) h7))))))) ∧ (¬ x2 ≤ (99 : Int32) → (vp_in (x1 / (10 : Int32)) 8 ∧ (¬ (100 : Int32) = 0 ∧ pX12_has [.int (h3.1 6 (x1 / (10 : Int32)).toNatClampNeg), .int ((x2 / (100 : Int32)) - (1 : Int32))] h3 (fun v12 h11 => ((v12 = 0 → Q.1 (-1 : Int32) h11) ∧ (¬ v12 = 0 → (¬ (10 : Int32) = 0 ∧ ((¬ (x2 - x2 / (10 : Int32) * (10 : Int32)) = (1 : Int32) → ((¬ (h11.1 0 7) = (6 : Int32) → (vp_in (0 : Int32) 4 ∧ (vp_in (0 : Int32) 4 ∧ (¬ (10 : Int32) = 0 ∧ pX12_newCard [.ref 0, .int (x1 - x1 / (10 : Int32) * (10 : Int32)), .int (h11.1 0 16), .int x2] (zk_si h11 26 0 ((h11.1 26 0) + (1 : Int32))) (fun v14 h13 => (vp_in v14 7 ∧ Q.1 v14 (zk_si h13 12 v14.toNatClampNeg (x1 / (10 : Int32))))))))) ∧ ((h11.1 0 7) = (6 : Int32) → Q.1 (-3 : Int32) h11))) ∧ ((x2 - x2 / (10 : Int32) * (10 : Int32)) = (1 : Int32) → pX12_isIn [.ref 0, .int (x1 / (10 : Int32)), .int (h11.1 0 16)] h11 (fun v16 h15 => ((¬ v16 = 0 → ((¬ (h15.1 0 7) = (6 : Int32) → (vp_in (0 : Int32) 4 ∧ (vp_in (0 : Int32) 4 ∧ (¬ (10 : Int32) = 0 ∧ pX12_newCard [.ref 0, .int (x1 - x1 / (10 : Int32) * (10 : Int32)), .int (h15.1 0 16), .int x2] (zk_si h15 26 0 ((h15.1 26 0) + (1 : Int32))) (fun v18 h17 => (vp_in v18 7 ∧ Q.1 v18 (zk_si h17 12 v18.toNatClampNeg (x1 / (10 : Int32))))))))) ∧ ((h15.1 0 7) = (6 : Int32) → Q.1 (-3 : Int32) h15))) ∧ (v16 = 0 → Q.1 (-1 : Int32) h15))))))))))))))) ∧ (v4 = 0 → Q.1 (-1 : Int32) h3))))))) : zk_R zk_D (zk_lkl lkX12) zk_mt (zk_cxl [(157, zk_iP pX12_areTwo), (160, zk_iP pX12_isWay), (163, zk_iP pX12_has), (167, zk_iP pX12_newCard), (194, zk_iP pX12_isIn)]) (some .int) (zk_at cdX12_send) Q [] k 66 0 [some (.ref 0), some (.int x1), some (.int x2), none, none] [] h := H
theorem fcX12_thanked : zk_fc mX12_thanked (zk_lkl lkX12) (zk_at cdX12_thanked) := ⟨lkX12_ok, by decide +kernel, cdX12_thanked_ok⟩
set_option maxRecDepth 100000 in
theorem bX12_thanked_0 {pX12_isCardOf : zk_pI} {k : zk_K} {Q : zk_Q} {h : zk_H} {x1 : Int32} (H : pX12_isCardOf [.ref 0, .int x1] h (fun v2 h1 => ((¬ v2 = 0 → (¬ (10 : Int32) = 0 ∧ (vp_in (x1 / (10 : Int32)) 7 ∧ (((h1.1 12 (x1 / (10 : Int32)).toNatClampNeg) = (-2 : Int32) → Q.1 (-5 : Int32) h1) ∧ (¬ (h1.1 12 (x1 / (10 : Int32)).toNatClampNeg) = (-2 : Int32) → (vp_in (x1 / (10 : Int32)) 7 ∧ (((h1.1 13 (x1 / (10 : Int32)).toNatClampNeg) = (-2 : Int32) → (¬ (10 : Int32) = 0 ∧ (vp_in (x1 / (10 : Int32)) 7 ∧ (vp_in (x1 / (10 : Int32)) 7 ∧ (¬ (10 : Int32) = 0 ∧ ((¬ (h1.1 12 (x1 / (10 : Int32)).toNatClampNeg) = (x1 - x1 / (10 : Int32) * (10 : Int32)) → (vp_in (1 : Int32) 4 ∧ (vp_in (1 : Int32) 4 ∧ (((0 : Int32) = 0 → (vp_in (3 : Int32) 4 ∧ (vp_in (3 : Int32) 4 ∧ (((0 : Int32) = 0 → Q.1 (0 : Int32) (zk_si (zk_si (zk_si h1 13 (x1 / (10 : Int32)).toNatClampNeg (x1 - x1 / (10 : Int32) * (10 : Int32))) 26 1 ((h1.1 26 1) + (1 : Int32))) 26 3 ((h1.1 26 3) + (1 : Int32)))) ∧ (¬ (0 : Int32) = 0 → Q.1 (1 : Int32) (zk_si (zk_si (zk_si h1 13 (x1 / (10 : Int32)).toNatClampNeg (x1 - x1 / (10 : Int32) * (10 : Int32))) 26 1 ((h1.1 26 1) + (1 : Int32))) 26 3 ((h1.1 26 3) + (1 : Int32)))))))) ∧ (¬ (0 : Int32) = 0 → (vp_in (2 : Int32) 4 ∧ (vp_in (2 : Int32) 4 ∧ (((0 : Int32) = 0 → Q.1 (0 : Int32) (zk_si (zk_si (zk_si h1 13 (x1 / (10 : Int32)).toNatClampNeg (x1 - x1 / (10 : Int32) * (10 : Int32))) 26 1 ((h1.1 26 1) + (1 : Int32))) 26 2 ((h1.1 26 2) + (1 : Int32)))) ∧ (¬ (0 : Int32) = 0 → Q.1 (1 : Int32) (zk_si (zk_si (zk_si h1 13 (x1 / (10 : Int32)).toNatClampNeg (x1 - x1 / (10 : Int32) * (10 : Int32))) 26 1 ((h1.1 26 1) + (1 : Int32))) 26 2 ((h1.1 26 2) + (1 : Int32)))))))))))) ∧ ((h1.1 12 (x1 / (10 : Int32)).toNatClampNeg) = (x1 - x1 / (10 : Int32) * (10 : Int32)) → (vp_in (1 : Int32) 4 ∧ (vp_in (1 : Int32) 4 ∧ (((1 : Int32) = 0 → (vp_in (3 : Int32) 4 ∧ (vp_in (3 : Int32) 4 ∧ (((1 : Int32) = 0 → Q.1 (0 : Int32) (zk_si (zk_si (zk_si h1 13 (x1 / (10 : Int32)).toNatClampNeg (x1 - x1 / (10 : Int32) * (10 : Int32))) 26 1 ((h1.1 26 1) + (1 : Int32))) 26 3 ((h1.1 26 3) + (1 : Int32)))) ∧ (¬ (1 : Int32) = 0 → Q.1 (1 : Int32) (zk_si (zk_si (zk_si h1 13 (x1 / (10 : Int32)).toNatClampNeg (x1 - x1 / (10 : Int32) * (10 : Int32))) 26 1 ((h1.1 26 1) + (1 : Int32))) 26 3 ((h1.1 26 3) + (1 : Int32)))))))) ∧ (¬ (1 : Int32) = 0 → (vp_in (2 : Int32) 4 ∧ (vp_in (2 : Int32) 4 ∧ (((1 : Int32) = 0 → Q.1 (0 : Int32) (zk_si (zk_si (zk_si h1 13 (x1 / (10 : Int32)).toNatClampNeg (x1 - x1 / (10 : Int32) * (10 : Int32))) 26 1 ((h1.1 26 1) + (1 : Int32))) 26 2 ((h1.1 26 2) + (1 : Int32)))) ∧ (¬ (1 : Int32) = 0 → Q.1 (1 : Int32) (zk_si (zk_si (zk_si h1 13 (x1 / (10 : Int32)).toNatClampNeg (x1 - x1 / (10 : Int32) * (10 : Int32))) 26 1 ((h1.1 26 1) + (1 : Int32))) 26 2 ((h1.1 26 2) + (1 : Int32)))))))))))))))))) ∧ (¬ (h1.1 13 (x1 / (10 : Int32)).toNatClampNeg) = (-2 : Int32) → Q.1 (-5 : Int32) h1)))))))) ∧ (v2 = 0 → Q.1 (-1 : Int32) h1)))) : zk_R zk_D (zk_lkl lkX12) zk_mt (zk_cxl [(156, zk_iP pX12_isCardOf)]) (some .int) (zk_at cdX12_thanked) Q [] k 64 0 [some (.ref 0), some (.int x1), none, none] [] h := H
theorem fcX12_led : zk_fc mX12_led (zk_lkl lkX12) (zk_at cdX12_led) := ⟨lkX12_ok, by decide +kernel, cdX12_led_ok⟩
set_option maxRecDepth 100000 in
theorem bX12_led_0 {pX12_within : zk_pI} {k : zk_K} {Q : zk_Q} {h : zk_H} {x1 : Int32} (H : ((¬ x1 = (4 : Int32) → pX12_within [.int x1, .int (0 : Int32), .int (3 : Int32)] h (fun v2 h1 => ((v2 = 0 → Q.1 (-1 : Int32) h1) ∧ (¬ v2 = 0 → (vp_in x1 4 ∧ Q.1 (h1.1 26 x1.toNatClampNeg) h1))))) ∧ (x1 = (4 : Int32) → Q.1 (h.1 0 16) h))) : zk_R zk_D (zk_lkl lkX12) zk_mt (zk_cxl [(153, zk_iP pX12_within)]) (some .int) (zk_at cdX12_led) Q [] k 16 0 [some (.ref 0), some (.int x1)] [] h := H
theorem fcX12_image : zk_fc mX12_image (zk_lkl lkX12) (zk_at cdX12_image) := ⟨lkX12_ok, by decide +kernel, cdX12_image_ok⟩
set_option maxRecDepth 100000 in
theorem bX12_image_0  {k : zk_K} {Q : zk_Q} {h : zk_H}  (H : (((1 : Int32) = 0 ∨ (1 : Int32) = 1) ∧ k 23 [some (.ref 0), some (.int (0 : Int32))] [] (zk_si (zk_si (zk_si h 0 36 (1 : Int32)) 0 37 (h.1 0 7)) 0 38 (h.1 0 16)))) : zk_R zk_D (zk_lkl lkX12) zk_mt (zk_cxl []) (some .int) (zk_at cdX12_image) Q [23, 49] k 15 0 [some (.ref 0), none] [] h := H
set_option maxRecDepth 100000 in
theorem bX12_image_23  {k : zk_K} {Q : zk_Q} {h : zk_H} {x1 : Int32} (H : (((7 : Int32) ≤ x1 → k 49 [some (.ref 0), some (.int (0 : Int32))] [] h) ∧ (¬ (7 : Int32) ≤ x1 → (vp_in x1 7 ∧ (vp_in x1 7 ∧ k 23 [some (.ref 0), some (.int (x1 + (1 : Int32)))] [] (zk_si h 27 x1.toNatClampNeg (h.1 13 x1.toNatClampNeg))))))) : zk_R zk_D (zk_lkl lkX12) zk_mt (zk_cxl []) (some .int) (zk_at cdX12_image) Q [23, 49] k 15 23 [some (.ref 0), some (.int x1)] [] h := H
set_option maxRecDepth 100000 in
theorem bX12_image_49  {k : zk_K} {Q : zk_Q} {h : zk_H} {x1 : Int32} (H : (((4 : Int32) ≤ x1 → Q.1 (h.1 0 16) h) ∧ (¬ (4 : Int32) ≤ x1 → (vp_in x1 4 ∧ (vp_in x1 4 ∧ k 49 [some (.ref 0), some (.int (x1 + (1 : Int32)))] [] (zk_si h 28 x1.toNatClampNeg (h.1 26 x1.toNatClampNeg))))))) : zk_R zk_D (zk_lkl lkX12) zk_mt (zk_cxl []) (some .int) (zk_at cdX12_image) Q [23, 49] k 15 49 [some (.ref 0), some (.int x1)] [] h := H
theorem fcX12_back : zk_fc mX12_back (zk_lkl lkX12) (zk_at cdX12_back) := ⟨lkX12_ok, by decide +kernel, cdX12_back_ok⟩
set_option maxRecDepth 100000 in
theorem bX12_back_0  {k : zk_K} {Q : zk_Q} {h : zk_H}  (H : ((¬ (h.1 0 36) = 0 → k 20 [some (.ref 0), some (.int (0 : Int32))] [] (zk_si h 0 16 (h.1 0 38))) ∧ ((h.1 0 36) = 0 → Q.1 (-5 : Int32) h))) : zk_R zk_D (zk_lkl lkX12) zk_mt (zk_cxl []) (some .int) (zk_at cdX12_back) Q [20, 61] k 11 0 [some (.ref 0), none] [] h := H
set_option maxRecDepth 100000 in
theorem bX12_back_20  {k : zk_K} {Q : zk_Q} {h : zk_H} {x1 : Int32} (H : (((h.1 0 7) ≤ x1 → k 61 [some (.ref 0), some (.int (0 : Int32))] [] h) ∧ (¬ (h.1 0 7) ≤ x1 → (((h.1 0 37) ≤ x1 → (vp_in x1 7 ∧ k 20 [some (.ref 0), some (.int (x1 + (1 : Int32)))] [] (zk_si h 13 x1.toNatClampNeg (-2 : Int32)))) ∧ (¬ (h.1 0 37) ≤ x1 → (vp_in x1 7 ∧ (vp_in x1 7 ∧ k 20 [some (.ref 0), some (.int (x1 + (1 : Int32)))] [] (zk_si h 13 x1.toNatClampNeg (h.1 27 x1.toNatClampNeg))))))))) : zk_R zk_D (zk_lkl lkX12) zk_mt (zk_cxl []) (some .int) (zk_at cdX12_back) Q [20, 61] k 21 20 [some (.ref 0), some (.int x1)] [] h := H
set_option maxRecDepth 100000 in
theorem bX12_back_61  {k : zk_K} {Q : zk_Q} {h : zk_H} {x1 : Int32} (H : (((4 : Int32) ≤ x1 → Q.1 (h.1 0 16) h) ∧ (¬ (4 : Int32) ≤ x1 → (vp_in x1 4 ∧ (vp_in x1 4 ∧ k 61 [some (.ref 0), some (.int (x1 + (1 : Int32)))] [] (zk_si h 26 x1.toNatClampNeg (h.1 28 x1.toNatClampNeg))))))) : zk_R zk_D (zk_lkl lkX12) zk_mt (zk_cxl []) (some .int) (zk_at cdX12_back) Q [20, 61] k 15 61 [some (.ref 0), some (.int x1)] [] h := H
theorem fcX12_above : zk_fc mX12_above (zk_lkl lkX12) (zk_at cdX12_above) := ⟨lkX12_ok, by decide +kernel, cdX12_above_ok⟩
set_option maxRecDepth 100000 in
theorem bX12_above_0  {k : zk_K} {Q : zk_Q} {h : zk_H} {x0 : Int32} (H : ((x0 = (3 : Int32) → Q.1 (2 : Int32) h) ∧ (¬ x0 = (3 : Int32) → ((x0 = (4 : Int32) → Q.1 (1 : Int32) h) ∧ (¬ x0 = (4 : Int32) → ((x0 = (5 : Int32) → Q.1 (3 : Int32) h) ∧ (¬ x0 = (5 : Int32) → ((x0 = (6 : Int32) → Q.1 (0 : Int32) h) ∧ (¬ x0 = (6 : Int32) → ((x0 = (7 : Int32) → Q.1 (4 : Int32) h) ∧ (¬ x0 = (7 : Int32) → Q.1 (0 : Int32) h))))))))))) : zk_R zk_D (zk_lkl lkX12) zk_mt (zk_cxl []) (some .int) (zk_at cdX12_above) Q [] k 6 0 [some (.int x0)] [] h := H
theorem fcX12_ran : zk_fc mX12_ran (zk_lkl lkX12) (zk_at cdX12_ran) := ⟨lkX12_ok, by decide +kernel, cdX12_ran_ok⟩
set_option maxRecDepth 100000 in
theorem bX12_ran_0  {k : zk_K} {Q : zk_Q} {h : zk_H} {x1 : Int32} (H : (((24 : Int32) ≤ (h.1 0 46) → Q.2.2.1 () (zk_si h 0 46 ((h.1 0 46) + (1 : Int32)))) ∧ (¬ (24 : Int32) ≤ (h.1 0 46) → (vp_in (h.1 0 46) 24 ∧ Q.2.2.1 () (zk_si (zk_si h 31 (h.1 0 46).toNatClampNeg x1) 0 46 ((h.1 0 46) + (1 : Int32))))))) : zk_R zk_D (zk_lkl lkX12) zk_mt (zk_cxl []) none (zk_at cdX12_ran) Q [] k 19 0 [some (.ref 0), some (.int x1)] [] h := H
theorem fcX12_looksBy : zk_fc mX12_looksBy (zk_lkl lkX12) (zk_at cdX12_looksBy) := ⟨lkX12_ok, by decide +kernel, cdX12_looksBy_ok⟩
set_option maxRecDepth 100000 in
theorem bX12_looksBy_0 {pX12_above : zk_pI} {pX12_ran : zk_pV} {pX12_looksBy : zk_pI} {k : zk_K} {Q : zk_Q} {h : zk_H} {x1 x2 x3 : Int32} (H : ((x2 = (0 : Int32) → pX12_ran [.ref 0, .int (1 : Int32)] h (fun h11 => Q.1 (x3 + x1) h11)) ∧ (¬ x2 = (0 : Int32) → ((x2 = (1 : Int32) → pX12_ran [.ref 0, .int (20 : Int32)] h (fun h8 => pX12_looksBy [.ref 0, .int x1, .int (0 : Int32), .int x3] h8 (fun v10 h9 => Q.1 (v10 + (3 : Int32)) h9))) ∧ (¬ x2 = (1 : Int32) → ((x2 = (6 : Int32) → pX12_ran [.ref 0, .int (70 : Int32)] h (fun h5 => pX12_looksBy [.ref 0, .int x1, .int (0 : Int32), .int x3] h5 (fun v7 h6 => Q.1 (v7 * (2 : Int32)) h6))) ∧ (¬ x2 = (6 : Int32) → pX12_above [.int x2] h (fun v2 h1 => pX12_looksBy [.ref 0, .int x1, .int v2, .int x3] h1 (fun v4 h3 => Q.1 v4 h3))))))))) : zk_R zk_D (zk_lkl lkX12) zk_mt (zk_cxl [(244, zk_iP pX12_above), (245, zk_vP pX12_ran), (246, zk_iP pX12_looksBy)]) (some .int) (zk_at cdX12_looksBy) Q [] k 15 0 [some (.ref 0), some (.int x1), some (.int x2), some (.int x3)] [] h := H
theorem fcX12_writesBy : zk_fc mX12_writesBy (zk_lkl lkX12) (zk_at cdX12_writesBy) := ⟨lkX12_ok, by decide +kernel, cdX12_writesBy_ok⟩
set_option maxRecDepth 100000 in
theorem bX12_writesBy_0 {pX12_above : zk_pI} {pX12_ran : zk_pV} {pX12_looksBy : zk_pI} {pX12_writesBy : zk_pI} {pX12_hidesBy : zk_pI} {k : zk_K} {Q : zk_Q} {h : zk_H} {x1 x2 x3 : Int32} (H : ((x2 = (0 : Int32) → pX12_ran [.ref 0, .int (10 : Int32)] h (fun h32 => (vp_in x1 50 ∧ pX12_looksBy [.ref 0, .int x1, .int (h32.1 30 x1.toNatClampNeg), .int x3] h32 (fun v34 h33 => Q.1 (v34 * (2 : Int32)) h33)))) ∧ (¬ x2 = (0 : Int32) → ((x2 = (1 : Int32) → pX12_above [.int x2] h (fun v29 h28 => pX12_writesBy [.ref 0, .int x1, .int v29, .int x3] h28 (fun v31 h30 => Q.1 v31 h30))) ∧ (¬ x2 = (1 : Int32) → ((x2 = (2 : Int32) → pX12_ran [.ref 0, .int (30 : Int32)] h (fun h25 => pX12_writesBy [.ref 0, .int x1, .int (0 : Int32), .int x3] h25 (fun v27 h26 => Q.1 (-v27) h26))) ∧ (¬ x2 = (2 : Int32) → ((x2 = (3 : Int32) → pX12_ran [.ref 0, .int (41 : Int32)] h (fun h22 => pX12_writesBy [.ref 0, .int x1, .int (2 : Int32), .int (x3 + (1 : Int32))] h22 (fun v24 h23 => Q.1 v24 h23))) ∧ (¬ x2 = (3 : Int32) → ((x2 = (4 : Int32) → pX12_above [.int x2] h (fun v19 h18 => pX12_writesBy [.ref 0, .int x1, .int v19, .int x3] h18 (fun v21 h20 => Q.1 v21 h20))) ∧ (¬ x2 = (4 : Int32) → ((x2 = (5 : Int32) → pX12_above [.int x2] h (fun v15 h14 => pX12_writesBy [.ref 0, .int x1, .int v15, .int x3] h14 (fun v17 h16 => Q.1 v17 h16))) ∧ (¬ x2 = (5 : Int32) → ((x2 = (6 : Int32) → pX12_above [.int x2] h (fun v11 h10 => pX12_writesBy [.ref 0, .int x1, .int v11, .int x3] h10 (fun v13 h12 => Q.1 v13 h12))) ∧ (¬ x2 = (6 : Int32) → ((x2 = (7 : Int32) → pX12_ran [.ref 0, .int (80 : Int32)] h (fun h5 => pX12_writesBy [.ref 0, .int x1, .int (4 : Int32), .int x3] h5 (fun v7 h6 => (vp_in x1 50 ∧ pX12_hidesBy [.ref 0, .int x1, .int (h6.1 30 x1.toNatClampNeg), .int (2 : Int32)] h6 (fun v9 h8 => Q.1 (v7 + v9) h8))))) ∧ (¬ x2 = (7 : Int32) → pX12_above [.int x2] h (fun v2 h1 => pX12_writesBy [.ref 0, .int x1, .int v2, .int x3] h1 (fun v4 h3 => Q.1 v4 h3))))))))))))))))))) : zk_R zk_D (zk_lkl lkX12) zk_mt (zk_cxl [(244, zk_iP pX12_above), (245, zk_vP pX12_ran), (246, zk_iP pX12_looksBy), (247, zk_iP pX12_writesBy), (248, zk_iP pX12_hidesBy)]) (some .int) (zk_at cdX12_writesBy) Q [] k 24 0 [some (.ref 0), some (.int x1), some (.int x2), some (.int x3), none] [] h := H
theorem fcX12_hidesBy : zk_fc mX12_hidesBy (zk_lkl lkX12) (zk_at cdX12_hidesBy) := ⟨lkX12_ok, by decide +kernel, cdX12_hidesBy_ok⟩
set_option maxRecDepth 100000 in
theorem bX12_hidesBy_0 {pX12_above : zk_pI} {pX12_ran : zk_pV} {pX12_looksBy : zk_pI} {pX12_hidesBy : zk_pI} {k : zk_K} {Q : zk_Q} {h : zk_H} {x1 x2 x3 : Int32} (H : ((x2 = (0 : Int32) → pX12_ran [.ref 0, .int (11 : Int32)] h (fun h21 => Q.1 (x3 ^^^ x1) h21)) ∧ (¬ x2 = (0 : Int32) → ((x2 = (1 : Int32) → pX12_above [.int x2] h (fun v18 h17 => pX12_hidesBy [.ref 0, .int x1, .int v18, .int x3] h17 (fun v20 h19 => Q.1 v20 h19))) ∧ (¬ x2 = (1 : Int32) → ((x2 = (2 : Int32) → pX12_above [.int x2] h (fun v14 h13 => pX12_hidesBy [.ref 0, .int x1, .int v14, .int x3] h13 (fun v16 h15 => Q.1 v16 h15))) ∧ (¬ x2 = (2 : Int32) → ((x2 = (3 : Int32) → pX12_ran [.ref 0, .int (40 : Int32)] h (fun h10 => pX12_hidesBy [.ref 0, .int x1, .int (2 : Int32), .int x3] h10 (fun v12 h11 => Q.1 (v12 * (3 : Int32)) h11))) ∧ (¬ x2 = (3 : Int32) → ((x2 = (4 : Int32) → pX12_ran [.ref 0, .int (50 : Int32)] h (fun h5 => pX12_hidesBy [.ref 0, .int x1, .int (1 : Int32), .int x3] h5 (fun v7 h6 => (vp_in x1 50 ∧ pX12_looksBy [.ref 0, .int x1, .int (h6.1 30 x1.toNatClampNeg), .int (2 : Int32)] h6 (fun v9 h8 => Q.1 (v7 - v9) h8))))) ∧ (¬ x2 = (4 : Int32) → pX12_above [.int x2] h (fun v2 h1 => pX12_hidesBy [.ref 0, .int x1, .int v2, .int x3] h1 (fun v4 h3 => Q.1 v4 h3))))))))))))) : zk_R zk_D (zk_lkl lkX12) zk_mt (zk_cxl [(244, zk_iP pX12_above), (245, zk_vP pX12_ran), (246, zk_iP pX12_looksBy), (248, zk_iP pX12_hidesBy)]) (some .int) (zk_at cdX12_hidesBy) Q [] k 24 0 [some (.ref 0), some (.int x1), some (.int x2), some (.int x3), none] [] h := H
theorem fcX12_tells_ : zk_fc mX12_tells_ (zk_lkl lkX12) (zk_at cdX12_tells_) := ⟨lkX12_ok, by decide +kernel, cdX12_tells__ok⟩
set_option maxRecDepth 100000 in
theorem bX12_tells__0 {pX12_above : zk_pI} {pX12_ran : zk_pV} {pX12_writesBy : zk_pI} {pX12_hidesBy : zk_pI} {pX12_tells_ : zk_pI} {k : zk_K} {Q : zk_Q} {h : zk_H} {x1 x2 x3 : Int32} (H : ((x2 = (0 : Int32) → pX12_ran [.ref 0, .int (2 : Int32)] h (fun h11 => (vp_in x1 50 ∧ pX12_writesBy [.ref 0, .int x1, .int (h11.1 30 x1.toNatClampNeg), .int x3] h11 (fun v13 h12 => (vp_in x1 50 ∧ pX12_hidesBy [.ref 0, .int x1, .int (h12.1 30 x1.toNatClampNeg), .int (1 : Int32)] h12 (fun v15 h14 => Q.1 (v13 - v15) h14)))))) ∧ (¬ x2 = (0 : Int32) → ((x2 = (5 : Int32) → pX12_ran [.ref 0, .int (60 : Int32)] h (fun h8 => pX12_tells_ [.ref 0, .int x1, .int (3 : Int32), .int x3] h8 (fun v10 h9 => Q.1 (v10 ^^^ (5 : Int32)) h9))) ∧ (¬ x2 = (5 : Int32) → ((x2 = (7 : Int32) → pX12_ran [.ref 0, .int (81 : Int32)] h (fun h5 => pX12_tells_ [.ref 0, .int x1, .int (4 : Int32), .int x3] h5 (fun v7 h6 => Q.1 (v7 - (1 : Int32)) h6))) ∧ (¬ x2 = (7 : Int32) → pX12_above [.int x2] h (fun v2 h1 => pX12_tells_ [.ref 0, .int x1, .int v2, .int x3] h1 (fun v4 h3 => Q.1 v4 h3))))))))) : zk_R zk_D (zk_lkl lkX12) zk_mt (zk_cxl [(244, zk_iP pX12_above), (245, zk_vP pX12_ran), (247, zk_iP pX12_writesBy), (248, zk_iP pX12_hidesBy), (249, zk_iP pX12_tells_)]) (some .int) (zk_at cdX12_tells_) Q [] k 27 0 [some (.ref 0), some (.int x1), some (.int x2), some (.int x3), none] [] h := H
theorem fcX12_body : zk_fc mX12_body (zk_lkl lkX12) (zk_at cdX12_body) := ⟨lkX12_ok, by decide +kernel, cdX12_body_ok⟩
set_option maxRecDepth 100000 in
theorem bX12_body_0 {pX12_within : zk_pI} {k : zk_K} {Q : zk_Q} {h : zk_H} {x1 : Int32} (H : pX12_within [.int x1, .int (0 : Int32), .int (7 : Int32)] h (fun v2 h1 => ((¬ v2 = 0 → ((¬ (h1.1 0 44) = (50 : Int32) → (vp_in (h1.1 0 44) 50 ∧ Q.1 (h1.1 0 44) (zk_si (zk_si h1 30 (h1.1 0 44).toNatClampNeg x1) 0 44 ((h1.1 0 44) + (1 : Int32))))) ∧ ((h1.1 0 44) = (50 : Int32) → Q.1 (-3 : Int32) h1))) ∧ (v2 = 0 → Q.1 (-1 : Int32) h1)))) : zk_R zk_D (zk_lkl lkX12) zk_mt (zk_cxl [(153, zk_iP pX12_within)]) (some .int) (zk_at cdX12_body) Q [] k 25 0 [some (.ref 0), some (.int x1)] [] h := H
theorem fcX12_act : zk_fc mX12_act (zk_lkl lkX12) (zk_at cdX12_act) := ⟨lkX12_ok, by decide +kernel, cdX12_act_ok⟩
set_option maxRecDepth 100000 in
theorem bX12_act_0 {pX12_within : zk_pI} {pX12_looksBy : zk_pI} {pX12_writesBy : zk_pI} {pX12_hidesBy : zk_pI} {pX12_tells_ : zk_pI} {k : zk_K} {Q : zk_Q} {h : zk_H} {x1 x2 x3 : Int32} (H : pX12_within [.int x1, .int (0 : Int32), .int ((h.1 0 44) - (1 : Int32))] (zk_si h 0 46 (0 : Int32)) (fun v2 h1 => ((v2 = 0 → Q.1 (0 : Int32) h1) ∧ (¬ v2 = 0 → pX12_within [.int x2, .int (0 : Int32), .int (3 : Int32)] h1 (fun v4 h3 => ((¬ v4 = 0 → (vp_in x1 50 ∧ ((¬ x2 = 0 → ((¬ x2 = (1 : Int32) → ((¬ x2 = (2 : Int32) → pX12_tells_ [.ref 0, .int x1, .int (h3.1 30 x1.toNatClampNeg), .int x3] h3 (fun v6 h5 => Q.1 v6 h5)) ∧ (x2 = (2 : Int32) → pX12_hidesBy [.ref 0, .int x1, .int (h3.1 30 x1.toNatClampNeg), .int x3] h3 (fun v8 h7 => Q.1 v8 h7)))) ∧ (x2 = (1 : Int32) → pX12_writesBy [.ref 0, .int x1, .int (h3.1 30 x1.toNatClampNeg), .int x3] h3 (fun v10 h9 => Q.1 v10 h9)))) ∧ (x2 = 0 → pX12_looksBy [.ref 0, .int x1, .int (h3.1 30 x1.toNatClampNeg), .int x3] h3 (fun v12 h11 => Q.1 v12 h11))))) ∧ (v4 = 0 → Q.1 (0 : Int32) h3))))))) : zk_R zk_D (zk_lkl lkX12) zk_mt (zk_cxl [(153, zk_iP pX12_within), (246, zk_iP pX12_looksBy), (247, zk_iP pX12_writesBy), (248, zk_iP pX12_hidesBy), (249, zk_iP pX12_tells_)]) (some .int) (zk_at cdX12_act) Q [] k 38 0 [some (.ref 0), some (.int x1), some (.int x2), some (.int x3), none] [] h := H
theorem fcX12_trace : zk_fc mX12_trace (zk_lkl lkX12) (zk_at cdX12_trace) := ⟨lkX12_ok, by decide +kernel, cdX12_trace_ok⟩
set_option maxRecDepth 100000 in
theorem bX12_trace_0 {pX12_within : zk_pI} {k : zk_K} {Q : zk_Q} {h : zk_H} {x1 : Int32} (H : pX12_within [.int x1, .int (0 : Int32), .int ((if (h.1 0 46) < (24 : Int32) then (h.1 0 46) else (24 : Int32)) - (1 : Int32))] h (fun v2 h1 => ((v2 = 0 → Q.1 (-1 : Int32) h1) ∧ (¬ v2 = 0 → (vp_in x1 24 ∧ Q.1 (h1.1 31 x1.toNatClampNeg) h1))))) : zk_R zk_D (zk_lkl lkX12) zk_mt (zk_cxl [(153, zk_iP pX12_within)]) (some .int) (zk_at cdX12_trace) Q [] k 18 0 [some (.ref 0), some (.int x1)] [] h := H
theorem fcX12_keep : zk_fc mX12_keep (zk_lkl lkX12) (zk_at cdX12_keep) := ⟨lkX12_ok, by decide +kernel, cdX12_keep_ok⟩
set_option maxRecDepth 100000 in
theorem bX12_keep_0 {pX12_within : zk_pI} {pX12_isShelf : zk_pI} {k : zk_K} {Q : zk_Q} {h : zk_H} {x1 x2 : Int32} (H : pX12_isShelf [.int x1] h (fun v2 h1 => ((v2 = 0 → Q.1 (-1 : Int32) h1) ∧ (¬ v2 = 0 → pX12_within [.int x2, .int (-1 : Int32), .int ((h1.1 0 44) - (1 : Int32))] h1 (fun v4 h3 => ((¬ v4 = 0 → ((0 ≤ x2 → (vp_in x1 6 ∧ (vp_in x1 6 ∧ Q.1 (1 : Int32) (zk_si (zk_si h3 32 x1.toNatClampNeg ((10 : Int32) + x2)) 33 x1.toNatClampNeg (0 : Int32))))) ∧ (¬ 0 ≤ x2 → (vp_in x1 6 ∧ (vp_in x1 6 ∧ Q.1 (1 : Int32) (zk_si (zk_si h3 32 x1.toNatClampNeg (-1 : Int32)) 33 x1.toNatClampNeg (0 : Int32))))))) ∧ (v4 = 0 → Q.1 (-1 : Int32) h3))))))) : zk_R zk_D (zk_lkl lkX12) zk_mt (zk_cxl [(153, zk_iP pX12_within), (162, zk_iP pX12_isShelf)]) (some .int) (zk_at cdX12_keep) Q [] k 29 0 [some (.ref 0), some (.int x1), some (.int x2)] [] h := H
theorem fcX12_row : zk_fc mX12_row (zk_lkl lkX12) (zk_at cdX12_row) := ⟨lkX12_ok, by decide +kernel, cdX12_row_ok⟩
set_option maxRecDepth 100000 in
theorem bX12_row_0 {pX12_within : zk_pI} {pX12_isShelf : zk_pI} {k : zk_K} {Q : zk_Q} {h : zk_H} {x1 x2 x3 : Int32} (H : pX12_isShelf [.int x1] h (fun v2 h1 => ((v2 = 0 → Q.1 (-1 : Int32) h1) ∧ (¬ v2 = 0 → pX12_within [.int x2, .int (0 : Int32), .int (4 : Int32)] h1 (fun v4 h3 => ((v4 = 0 → Q.1 (-1 : Int32) h3) ∧ (¬ v4 = 0 → ((x3 ≤ (60 : Int32) → ((0 ≤ x3 → (vp_in x1 6 ∧ (vp_in x1 6 ∧ k 48 [some (.ref 0), some (.int x1), some (.int x2), some (.int x3), some (.int (0 : Int32))] [] (zk_si (zk_si h3 32 x1.toNatClampNeg x2) 33 x1.toNatClampNeg x3)))) ∧ (¬ 0 ≤ x3 → Q.1 (-14 : Int32) h3))) ∧ (¬ x3 ≤ (60 : Int32) → Q.1 (-1 : Int32) h3))))))))) : zk_R zk_D (zk_lkl lkX12) zk_mt (zk_cxl [(153, zk_iP pX12_within), (162, zk_iP pX12_isShelf)]) (some .int) (zk_at cdX12_row) Q [48] k 27 0 [some (.ref 0), some (.int x1), some (.int x2), some (.int x3), none] [] h := H
set_option maxRecDepth 100000 in
theorem bX12_row_48 {pX12_within : zk_pI} {pX12_isShelf : zk_pI} {k : zk_K} {Q : zk_Q} {h : zk_H} {x1 x2 x3 x4 : Int32} (H : (((60 : Int32) ≤ x4 → Q.1 (1 : Int32) h) ∧ (¬ (60 : Int32) ≤ x4 → (vp_in (((60 : Int32) * x1) + x4) 360 ∧ k 48 [some (.ref 0), some (.int x1), some (.int x2), some (.int x3), some (.int (x4 + (1 : Int32)))] [] (zk_sl h 34 (((60 : Int32) * x1) + x4).toNatClampNeg (0 : Int64)))))) : zk_R zk_D (zk_lkl lkX12) zk_mt (zk_cxl [(153, zk_iP pX12_within), (162, zk_iP pX12_isShelf)]) (some .int) (zk_at cdX12_row) Q [48] k 16 48 [some (.ref 0), some (.int x1), some (.int x2), some (.int x3), some (.int x4)] [] h := H
theorem fcX12_isRow : zk_fc mX12_isRow (zk_lkl lkX12) (zk_at cdX12_isRow) := ⟨lkX12_ok, by decide +kernel, cdX12_isRow_ok⟩
set_option maxRecDepth 100000 in
theorem bX12_isRow_0 {pX12_within : zk_pI} {k : zk_K} {Q : zk_Q} {h : zk_H} {x1 : Int32} (H : (vp_in x1 6 ∧ pX12_within [.int (h.1 32 x1.toNatClampNeg), .int (0 : Int32), .int (4 : Int32)] h (fun v2 h1 => ((v2 = 0 ∨ v2 = 1) ∧ Q.1 v2 h1)))) : zk_R zk_D (zk_lkl lkX12) zk_mt (zk_cxl [(153, zk_iP pX12_within)]) (some .boolean) (zk_at cdX12_isRow) Q [] k 10 0 [some (.ref 0), some (.int x1)] [] h := H
theorem fcX12_kept : zk_fc mX12_kept (zk_lkl lkX12) (zk_at cdX12_kept) := ⟨lkX12_ok, by decide +kernel, cdX12_kept_ok⟩
set_option maxRecDepth 100000 in
theorem bX12_kept_0  {k : zk_K} {Q : zk_Q} {h : zk_H} {x0 : Int32} {x1 : Int64} (H : ((x0 = (0 : Int32) → Q.2.1 x1.toInt32.toInt8.toInt32.toInt64 h) ∧ (¬ x0 = (0 : Int32) → ((x0 = (1 : Int32) → Q.2.1 x1.toInt32.toInt16.toInt32.toInt64 h) ∧ (¬ x0 = (1 : Int32) → ((x0 = (2 : Int32) → Q.2.1 x1.toInt32.toInt64 h) ∧ (¬ x0 = (2 : Int32) → ((x0 = (3 : Int32) → Q.2.1 x1 h) ∧ (¬ x0 = (3 : Int32) → (((lg_cmp x1 (0 : Int64)) = 0 → Q.2.1 (0 : Int64) h) ∧ (¬ (lg_cmp x1 (0 : Int64)) = 0 → Q.2.1 (1 : Int64) h))))))))))) : zk_R zk_D (zk_lkl lkX12) zk_mt (zk_cxl []) (some .long) (zk_at cdX12_kept) Q [] k 11 0 [some (.int x0), some (.long x1), none] [] h := H
theorem fcX12_put : zk_fc mX12_put (zk_lkl lkX12) (zk_at cdX12_put) := ⟨lkX12_ok, by decide +kernel, cdX12_put_ok⟩
set_option maxRecDepth 100000 in
theorem bX12_put_0 {pX12_within : zk_pI} {pX12_isShelf : zk_pI} {pX12_isRow : zk_pI} {pX12_kept : zk_pL} {k : zk_K} {Q : zk_Q} {h : zk_H} {x1 x2 : Int32} {x3 : Int64} (H : pX12_isShelf [.int x1] h (fun v2 h1 => ((¬ v2 = 0 → (vp_in x1 6 ∧ ((¬ (h1.1 32 x1.toNatClampNeg) = (-1 : Int32) → pX12_isRow [.ref 0, .int x1] h1 (fun v4 h3 => ((¬ v4 = 0 → (vp_in x1 6 ∧ pX12_within [.int x2, .int (0 : Int32), .int ((h3.1 33 x1.toNatClampNeg) - (1 : Int32))] h3 (fun v6 h5 => ((¬ v6 = 0 → (vp_in x1 6 ∧ pX12_kept [.int (h5.1 32 x1.toNatClampNeg), .long x3] h5 (fun v8 h7 => (vp_in (((60 : Int32) * x1) + x2) 360 ∧ Q.1 (1 : Int32) (zk_sl h7 34 (((60 : Int32) * x1) + x2).toNatClampNeg v8))))) ∧ (v6 = 0 → Q.1 (-13 : Int32) h5))))) ∧ (v4 = 0 → Q.1 (-12 : Int32) h3)))) ∧ ((h1.1 32 x1.toNatClampNeg) = (-1 : Int32) → Q.1 (-11 : Int32) h1)))) ∧ (v2 = 0 → Q.1 (-1 : Int32) h1)))) : zk_R zk_D (zk_lkl lkX12) zk_mt (zk_cxl [(153, zk_iP pX12_within), (162, zk_iP pX12_isShelf), (255, zk_iP pX12_isRow), (256, zk_lP pX12_kept)]) (some .int) (zk_at cdX12_put) Q [] k 41 0 [some (.ref 0), some (.int x1), some (.int x2), some (.long x3), none] [] h := H
theorem fcX12_element : zk_fc mX12_element (zk_lkl lkX12) (zk_at cdX12_element) := ⟨lkX12_ok, by decide +kernel, cdX12_element_ok⟩
set_option maxRecDepth 100000 in
theorem bX12_element_0 {pX12_within : zk_pI} {pX12_isShelf : zk_pI} {pX12_isRow : zk_pI} {k : zk_K} {Q : zk_Q} {h : zk_H} {x1 x2 : Int32} (H : pX12_isShelf [.int x1] h (fun v2 h1 => ((v2 = 0 → Q.2.1 (-9223372036854775808 : Int64) h1) ∧ (¬ v2 = 0 → pX12_isRow [.ref 0, .int x1] h1 (fun v4 h3 => ((v4 = 0 → Q.2.1 (-9223372036854775808 : Int64) h3) ∧ (¬ v4 = 0 → (vp_in x1 6 ∧ pX12_within [.int x2, .int (0 : Int32), .int ((h3.1 33 x1.toNatClampNeg) - (1 : Int32))] h3 (fun v6 h5 => ((v6 = 0 → Q.2.1 (-9223372036854775808 : Int64) h5) ∧ (¬ v6 = 0 → (vp_in (((60 : Int32) * x1) + x2) 360 ∧ Q.2.1 (h5.2 34 (((60 : Int32) * x1) + x2).toNatClampNeg) h5)))))))))))) : zk_R zk_D (zk_lkl lkX12) zk_mt (zk_cxl [(153, zk_iP pX12_within), (162, zk_iP pX12_isShelf), (255, zk_iP pX12_isRow)]) (some .long) (zk_at cdX12_element) Q [] k 29 0 [some (.ref 0), some (.int x1), some (.int x2)] [] h := H
theorem fcX12_shift : zk_fc mX12_shift (zk_lkl lkX12) (zk_at cdX12_shift) := ⟨lkX12_ok, by decide +kernel, cdX12_shift_ok⟩
set_option maxRecDepth 100000 in
theorem bX12_shift_0 {pX12_isShelf : zk_pI} {pX12_isRow : zk_pI} {k : zk_K} {Q : zk_Q} {h : zk_H} {x1 x2 x3 x4 x5 : Int32} (H : pX12_isShelf [.int x1] h (fun v2 h1 => ((v2 = 0 → Q.1 (-1 : Int32) h1) ∧ (¬ v2 = 0 → pX12_isShelf [.int x3] h1 (fun v4 h3 => ((¬ v4 = 0 → (vp_in x1 6 ∧ (((h3.1 32 x1.toNatClampNeg) = (-1 : Int32) → Q.1 (-11 : Int32) h3) ∧ (¬ (h3.1 32 x1.toNatClampNeg) = (-1 : Int32) → (vp_in x3 6 ∧ ((¬ (h3.1 32 x3.toNatClampNeg) = (-1 : Int32) → pX12_isRow [.ref 0, .int x1] h3 (fun v6 h5 => ((v6 = 0 → Q.1 (-12 : Int32) h5) ∧ (¬ v6 = 0 → pX12_isRow [.ref 0, .int x3] h5 (fun v8 h7 => ((v8 = 0 → Q.1 (-12 : Int32) h7) ∧ (¬ v8 = 0 → (vp_in x1 6 ∧ (vp_in x3 6 ∧ (((h7.1 32 x1.toNatClampNeg) = (h7.1 32 x3.toNatClampNeg) → ((x5 < 0 → Q.1 (-13 : Int32) h7) ∧ (¬ x5 < 0 → ((x2 < 0 → Q.1 (-13 : Int32) h7) ∧ (¬ x2 < 0 → ((x4 < 0 → Q.1 (-13 : Int32) h7) ∧ (¬ x4 < 0 → (vp_in x1 6 ∧ ((0 < (lg_cmp (x2.toInt64 + x5.toInt64) (h7.1 33 x1.toNatClampNeg).toInt64) → Q.1 (-13 : Int32) h7) ∧ (¬ 0 < (lg_cmp (x2.toInt64 + x5.toInt64) (h7.1 33 x1.toNatClampNeg).toInt64) → (vp_in x3 6 ∧ (((lg_cmp (x4.toInt64 + x5.toInt64) (h7.1 33 x3.toNatClampNeg).toInt64) ≤ 0 → ((¬ x1 = x3 → k 188 [some (.ref 0), some (.int x1), some (.int x2), some (.int x3), some (.int x4), some (.int x5), some (.int (0 : Int32))] [] h7) ∧ (x1 = x3 → ((x4 ≤ x2 → k 188 [some (.ref 0), some (.int x1), some (.int x2), some (.int x3), some (.int x4), some (.int x5), some (.int (0 : Int32))] [] h7) ∧ (¬ x4 ≤ x2 → k 142 [some (.ref 0), some (.int x1), some (.int x2), some (.int x3), some (.int x4), some (.int x5), some (.int (x5 - (1 : Int32)))] [] h7))))) ∧ (¬ (lg_cmp (x4.toInt64 + x5.toInt64) (h7.1 33 x3.toNatClampNeg).toInt64) ≤ 0 → Q.1 (-13 : Int32) h7))))))))))))) ∧ (¬ (h7.1 32 x1.toNatClampNeg) = (h7.1 32 x3.toNatClampNeg) → Q.1 (-12 : Int32) h7))))))))))) ∧ ((h3.1 32 x3.toNatClampNeg) = (-1 : Int32) → Q.1 (-11 : Int32) h3))))))) ∧ (v4 = 0 → Q.1 (-1 : Int32) h3))))))) : zk_R zk_D (zk_lkl lkX12) zk_mt (zk_cxl [(162, zk_iP pX12_isShelf), (255, zk_iP pX12_isRow)]) (some .int) (zk_at cdX12_shift) Q [142, 188] k 77 0 [some (.ref 0), some (.int x1), some (.int x2), some (.int x3), some (.int x4), some (.int x5), none] [] h := H
set_option maxRecDepth 100000 in
theorem bX12_shift_188 {pX12_isShelf : zk_pI} {pX12_isRow : zk_pI} {k : zk_K} {Q : zk_Q} {h : zk_H} {x1 x2 x3 x4 x5 x6 : Int32} (H : ((x5 ≤ x6 → Q.1 x5 h) ∧ (¬ x5 ≤ x6 → (vp_in ((((60 : Int32) * x1) + x2) + x6) 360 ∧ (vp_in ((((60 : Int32) * x3) + x4) + x6) 360 ∧ k 188 [some (.ref 0), some (.int x1), some (.int x2), some (.int x3), some (.int x4), some (.int x5), some (.int (x6 + (1 : Int32)))] [] (zk_sl h 34 ((((60 : Int32) * x3) + x4) + x6).toNatClampNeg (h.2 34 ((((60 : Int32) * x1) + x2) + x6).toNatClampNeg))))))) : zk_R zk_D (zk_lkl lkX12) zk_mt (zk_cxl [(162, zk_iP pX12_isShelf), (255, zk_iP pX12_isRow)]) (some .int) (zk_at cdX12_shift) Q [142, 188] k 27 188 [some (.ref 0), some (.int x1), some (.int x2), some (.int x3), some (.int x4), some (.int x5), some (.int x6)] [] h := H
set_option maxRecDepth 100000 in
theorem bX12_shift_142 {pX12_isShelf : zk_pI} {pX12_isRow : zk_pI} {k : zk_K} {Q : zk_Q} {h : zk_H} {x1 x2 x3 x4 x5 x6 : Int32} (H : ((x6 < 0 → Q.1 x5 h) ∧ (¬ x6 < 0 → (vp_in ((((60 : Int32) * x1) + x2) + x6) 360 ∧ (vp_in ((((60 : Int32) * x3) + x4) + x6) 360 ∧ k 142 [some (.ref 0), some (.int x1), some (.int x2), some (.int x3), some (.int x4), some (.int x5), some (.int (x6 + (-1 : Int32)))] [] (zk_sl h 34 ((((60 : Int32) * x3) + x4) + x6).toNatClampNeg (h.2 34 ((((60 : Int32) * x1) + x2) + x6).toNatClampNeg))))))) : zk_R zk_D (zk_lkl lkX12) zk_mt (zk_cxl [(162, zk_iP pX12_isShelf), (255, zk_iP pX12_isRow)]) (some .int) (zk_at cdX12_shift) Q [142, 188] k 26 142 [some (.ref 0), some (.int x1), some (.int x2), some (.int x3), some (.int x4), some (.int x5), some (.int x6)] [] h := H
theorem fcX12_taken : zk_fc mX12_taken (zk_lkl lkX12) (zk_at cdX12_taken) := ⟨lkX12_ok, by decide +kernel, cdX12_taken_ok⟩
set_option maxRecDepth 100000 in
theorem bX12_taken_0 {pX12_within : zk_pI} {pX12_isShelf : zk_pI} {pX12_above : zk_pI} {pX12_isRow : zk_pI} {k : zk_K} {Q : zk_Q} {h : zk_H} {x1 x2 : Int32} (H : pX12_isShelf [.int x1] h (fun v2 h1 => ((v2 = 0 → Q.1 (-1 : Int32) h1) ∧ (¬ v2 = 0 → pX12_within [.int x2, .int (0 : Int32), .int (7 : Int32)] h1 (fun v4 h3 => ((¬ v4 = 0 → (vp_in x1 6 ∧ ((¬ (h3.1 32 x1.toNatClampNeg) = (-1 : Int32) → pX12_isRow [.ref 0, .int x1] h3 (fun v6 h5 => ((v6 = 0 → (vp_in x1 6 ∧ (vp_in ((h5.1 32 x1.toNatClampNeg) - (10 : Int32)) 50 ∧ k 61 [some (.ref 0), some (.int x1), some (.int x2), some (.int (h5.1 30 ((h5.1 32 x1.toNatClampNeg) - (10 : Int32)).toNatClampNeg)), some (.int (h5.1 30 ((h5.1 32 x1.toNatClampNeg) - (10 : Int32)).toNatClampNeg))] [] h5))) ∧ (¬ v6 = 0 → Q.1 (-12 : Int32) h5)))) ∧ ((h3.1 32 x1.toNatClampNeg) = (-1 : Int32) → Q.1 (-11 : Int32) h3)))) ∧ (v4 = 0 → Q.1 (-1 : Int32) h3))))))) : zk_R zk_D (zk_lkl lkX12) zk_mt (zk_cxl [(153, zk_iP pX12_within), (162, zk_iP pX12_isShelf), (244, zk_iP pX12_above), (255, zk_iP pX12_isRow)]) (some .int) (zk_at cdX12_taken) Q [61] k 32 0 [some (.ref 0), some (.int x1), some (.int x2), none, none] [] h := H
set_option maxRecDepth 100000 in
theorem bX12_taken_61 {pX12_within : zk_pI} {pX12_isShelf : zk_pI} {pX12_above : zk_pI} {pX12_isRow : zk_pI} {k : zk_K} {Q : zk_Q} {h : zk_H} {x1 x2 x3 x4 : Int32} (H : ((x4 = x2 → ((¬ x4 = x2 → Q.1 (-12 : Int32) h) ∧ (x4 = x2 → Q.1 x3 h))) ∧ (¬ x4 = x2 → ((x4 ≤ 0 → ((¬ x4 = x2 → Q.1 (-12 : Int32) h) ∧ (x4 = x2 → Q.1 x3 h))) ∧ (¬ x4 ≤ 0 → pX12_above [.int x4] h (fun v2 h1 => k 61 [some (.ref 0), some (.int x1), some (.int x2), some (.int x3), some (.int v2)] [] h1)))))) : zk_R zk_D (zk_lkl lkX12) zk_mt (zk_cxl [(153, zk_iP pX12_within), (162, zk_iP pX12_isShelf), (244, zk_iP pX12_above), (255, zk_iP pX12_isRow)]) (some .int) (zk_at cdX12_taken) Q [61] k 13 61 [some (.ref 0), some (.int x1), some (.int x2), some (.int x3), some (.int x4)] [] h := H
theorem fcX12_count : zk_fc mX12_count (zk_lkl lkX12) (zk_at cdX12_count) := ⟨lkX12_ok, by decide +kernel, cdX12_count_ok⟩
set_option maxRecDepth 100000 in
theorem bX12_count_0  {k : zk_K} {Q : zk_Q} {h : zk_H} {x1 : Int32} (H : ((x1 = (0 : Int32) → Q.1 (h.1 0 0) h) ∧ (¬ x1 = (0 : Int32) → ((x1 = (1 : Int32) → Q.1 (h.1 0 7) h) ∧ (¬ x1 = (1 : Int32) → ((x1 = (2 : Int32) → Q.1 (h.1 0 17) h) ∧ (¬ x1 = (2 : Int32) → ((x1 = (3 : Int32) → Q.1 (h.1 0 42) h) ∧ (¬ x1 = (3 : Int32) → ((x1 = (4 : Int32) → Q.1 (h.1 0 44) h) ∧ (¬ x1 = (4 : Int32) → ((x1 = (5 : Int32) → Q.1 (h.1 0 46) h) ∧ (¬ x1 = (5 : Int32) → Q.1 (-1 : Int32) h))))))))))))) : zk_R zk_D (zk_lkl lkX12) zk_mt (zk_cxl []) (some .int) (zk_at cdX12_count) Q [] k 7 0 [some (.ref 0), some (.int x1)] [] h := H
end
