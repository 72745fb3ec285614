section
-- ===== PART A: goes FIRST, ahead of the names: the tables' words, and 'selects' of the private methods out of them =====
/-- a private method of a class that the tables say can be made, by its rows of tables_1 -/
def lw_okq (q : MethodName × Nat) : Prop := (q.1.cls ≠ "java/lang/invoke/MethodHandle" ∧ q.1.cls ≠ "java/lang/invoke/VarHandle") ∧ Cond.instantiable q.1.cls q.2 ∈ tables_1 ∧ Cond.privateMethod q.1 ∈ tables_1 ∧ Cond.instanceMethod q.1 ∈ tables_1
theorem lw_p0 : lw_okq (⟨"CardUnsigned", "shelfAt", "(I)LCardUnsigned$Shelf;"⟩, 10) := ⟨⟨by decide +kernel, by decide +kernel⟩, List.mem_of_getElem? (i := 23) (by decide +kernel), List.mem_of_getElem? (i := 394) (by decide +kernel), List.mem_of_getElem? (i := 395) (by decide +kernel)⟩
theorem lw_p1 : lw_okq (⟨"CardUnsigned$Rows", "comesFrom", "(LCardUnsigned$Shelf;I)Z"⟩, 3) := ⟨⟨by decide +kernel, by decide +kernel⟩, List.mem_of_getElem? (i := 225) (by decide +kernel), List.mem_of_getElem? (i := 406) (by decide +kernel), List.mem_of_getElem? (i := 407) (by decide +kernel)⟩
theorem lw_p2 : lw_okq (⟨"CardUnsigned$Changes", "dropOldest", "()V"⟩, 7) := ⟨⟨by decide +kernel, by decide +kernel⟩, List.mem_of_getElem? (i := 65) (by decide +kernel), List.mem_of_getElem? (i := 450) (by decide +kernel), List.mem_of_getElem? (i := 451) (by decide +kernel)⟩
theorem lw_p3 : lw_okq (⟨"CardUnsigned$Parser", "begin", "()V"⟩, 12) := ⟨⟨by decide +kernel, by decide +kernel⟩, List.mem_of_getElem? (i := 95) (by decide +kernel), List.mem_of_getElem? (i := 477) (by decide +kernel), List.mem_of_getElem? (i := 478) (by decide +kernel)⟩
theorem lw_p4 : lw_okq (⟨"CardUnsigned$Parser", "takes", "(I)Z"⟩, 12) := ⟨⟨by decide +kernel, by decide +kernel⟩, List.mem_of_getElem? (i := 95) (by decide +kernel), List.mem_of_getElem? (i := 481) (by decide +kernel), List.mem_of_getElem? (i := 482) (by decide +kernel)⟩
theorem lw_p5 : lw_okq (⟨"CardUnsigned$Parser", "takesBehindOperand", "(I)Z"⟩, 12) := ⟨⟨by decide +kernel, by decide +kernel⟩, List.mem_of_getElem? (i := 95) (by decide +kernel), List.mem_of_getElem? (i := 485) (by decide +kernel), List.mem_of_getElem? (i := 486) (by decide +kernel)⟩
theorem lw_p6 : lw_okq (⟨"CardUnsigned$Parser", "closesBracket", "()Z"⟩, 12) := ⟨⟨by decide +kernel, by decide +kernel⟩, List.mem_of_getElem? (i := 95) (by decide +kernel), List.mem_of_getElem? (i := 489) (by decide +kernel), List.mem_of_getElem? (i := 490) (by decide +kernel)⟩
theorem lw_p7 : lw_okq (⟨"CardUnsigned$Parser", "emitWaiting", "(I)V"⟩, 12) := ⟨⟨by decide +kernel, by decide +kernel⟩, List.mem_of_getElem? (i := 95) (by decide +kernel), List.mem_of_getElem? (i := 493) (by decide +kernel), List.mem_of_getElem? (i := 494) (by decide +kernel)⟩
theorem lw_p8 : lw_okq (⟨"CardUnsigned$Parser", "rankOf", "(I)I"⟩, 12) := ⟨⟨by decide +kernel, by decide +kernel⟩, List.mem_of_getElem? (i := 95) (by decide +kernel), List.mem_of_getElem? (i := 497) (by decide +kernel), List.mem_of_getElem? (i := 498) (by decide +kernel)⟩
theorem lw_p9 : lw_okq (⟨"CardUnsigned$Parser", "emit", "(I)V"⟩, 12) := ⟨⟨by decide +kernel, by decide +kernel⟩, List.mem_of_getElem? (i := 95) (by decide +kernel), List.mem_of_getElem? (i := 501) (by decide +kernel), List.mem_of_getElem? (i := 502) (by decide +kernel)⟩
theorem lw_p10 : lw_okq (⟨"CardUnsigned$Parser", "endOperand", "()V"⟩, 12) := ⟨⟨by decide +kernel, by decide +kernel⟩, List.mem_of_getElem? (i := 95) (by decide +kernel), List.mem_of_getElem? (i := 505) (by decide +kernel), List.mem_of_getElem? (i := 506) (by decide +kernel)⟩
theorem lw_p11 : lw_okq (⟨"CardUnsigned$Parser", "endsExpression", "(IZ)Z"⟩, 12) := ⟨⟨by decide +kernel, by decide +kernel⟩, List.mem_of_getElem? (i := 95) (by decide +kernel), List.mem_of_getElem? (i := 509) (by decide +kernel), List.mem_of_getElem? (i := 510) (by decide +kernel)⟩
theorem lw_p12 : lw_okq (⟨"CardUnsigned$Parser", "takesBetween", "(I)Z"⟩, 12) := ⟨⟨by decide +kernel, by decide +kernel⟩, List.mem_of_getElem? (i := 95) (by decide +kernel), List.mem_of_getElem? (i := 513) (by decide +kernel), List.mem_of_getElem? (i := 514) (by decide +kernel)⟩
theorem lw_p13 : lw_okq (⟨"CardUnsigned$Parser", "await", "(I)V"⟩, 12) := ⟨⟨by decide +kernel, by decide +kernel⟩, List.mem_of_getElem? (i := 95) (by decide +kernel), List.mem_of_getElem? (i := 517) (by decide +kernel), List.mem_of_getElem? (i := 518) (by decide +kernel)⟩
theorem lw_p14 : lw_okq (⟨"CardUnsigned$Parser", "beginsNumber", "(I)Z"⟩, 12) := ⟨⟨by decide +kernel, by decide +kernel⟩, List.mem_of_getElem? (i := 95) (by decide +kernel), List.mem_of_getElem? (i := 521) (by decide +kernel), List.mem_of_getElem? (i := 522) (by decide +kernel)⟩
theorem lw_p15 : lw_okq (⟨"CardUnsigned$Parser", "takesAsOperand", "(I)Z"⟩, 12) := ⟨⟨by decide +kernel, by decide +kernel⟩, List.mem_of_getElem? (i := 95) (by decide +kernel), List.mem_of_getElem? (i := 525) (by decide +kernel), List.mem_of_getElem? (i := 526) (by decide +kernel)⟩
def lw_privs_1 : List (MethodName × Nat) := [(⟨"CardUnsigned", "shelfAt", "(I)LCardUnsigned$Shelf;"⟩, 10), (⟨"CardUnsigned$Rows", "comesFrom", "(LCardUnsigned$Shelf;I)Z"⟩, 3), (⟨"CardUnsigned$Changes", "dropOldest", "()V"⟩, 7), (⟨"CardUnsigned$Parser", "begin", "()V"⟩, 12), (⟨"CardUnsigned$Parser", "takes", "(I)Z"⟩, 12), (⟨"CardUnsigned$Parser", "takesBehindOperand", "(I)Z"⟩, 12), (⟨"CardUnsigned$Parser", "closesBracket", "()Z"⟩, 12), (⟨"CardUnsigned$Parser", "emitWaiting", "(I)V"⟩, 12), (⟨"CardUnsigned$Parser", "rankOf", "(I)I"⟩, 12), (⟨"CardUnsigned$Parser", "emit", "(I)V"⟩, 12), (⟨"CardUnsigned$Parser", "endOperand", "()V"⟩, 12), (⟨"CardUnsigned$Parser", "endsExpression", "(IZ)Z"⟩, 12), (⟨"CardUnsigned$Parser", "takesBetween", "(I)Z"⟩, 12), (⟨"CardUnsigned$Parser", "await", "(I)V"⟩, 12), (⟨"CardUnsigned$Parser", "beginsNumber", "(I)Z"⟩, 12), (⟨"CardUnsigned$Parser", "takesAsOperand", "(I)Z"⟩, 12)]
theorem lw_r1 : ∀ q ∈ lw_privs_1, lw_okq q := List.forall_mem_cons.mpr ⟨lw_p0, List.forall_mem_cons.mpr ⟨lw_p1, List.forall_mem_cons.mpr ⟨lw_p2, List.forall_mem_cons.mpr ⟨lw_p3, List.forall_mem_cons.mpr ⟨lw_p4, List.forall_mem_cons.mpr ⟨lw_p5, List.forall_mem_cons.mpr ⟨lw_p6, List.forall_mem_cons.mpr ⟨lw_p7, List.forall_mem_cons.mpr ⟨lw_p8, List.forall_mem_cons.mpr ⟨lw_p9, List.forall_mem_cons.mpr ⟨lw_p10, List.forall_mem_cons.mpr ⟨lw_p11, List.forall_mem_cons.mpr ⟨lw_p12, List.forall_mem_cons.mpr ⟨lw_p13, List.forall_mem_cons.mpr ⟨lw_p14, List.forall_mem_cons.mpr ⟨lw_p15, fun _ h => absurd h List.not_mem_nil⟩⟩⟩⟩⟩⟩⟩⟩⟩⟩⟩⟩⟩⟩⟩⟩
theorem lw_p16 : lw_okq (⟨"CardUnsigned$Office", "whoIsIn", "(I)I"⟩, 3) := ⟨⟨by decide +kernel, by decide +kernel⟩, List.mem_of_getElem? (i := 31) (by decide +kernel), List.mem_of_getElem? (i := 637) (by decide +kernel), List.mem_of_getElem? (i := 638) (by decide +kernel)⟩
theorem lw_p17 : lw_okq (⟨"CardUnsigned$Thought", "countFor", "(II)I"⟩, 6) := ⟨⟨by decide +kernel, by decide +kernel⟩, List.mem_of_getElem? (i := 157) (by decide +kernel), List.mem_of_getElem? (i := 665) (by decide +kernel), List.mem_of_getElem? (i := 666) (by decide +kernel)⟩
theorem lw_p18 : lw_okq (⟨"CardUnsigned$Thought", "likenessOfHand", "(II)I"⟩, 6) := ⟨⟨by decide +kernel, by decide +kernel⟩, List.mem_of_getElem? (i := 157) (by decide +kernel), List.mem_of_getElem? (i := 673) (by decide +kernel), List.mem_of_getElem? (i := 674) (by decide +kernel)⟩
theorem lw_p19 : lw_okq (⟨"CardUnsigned$Law", "operandsOf", "(I)I"⟩, 3) := ⟨⟨by decide +kernel, by decide +kernel⟩, List.mem_of_getElem? (i := 141) (by decide +kernel), List.mem_of_getElem? (i := 685) (by decide +kernel), List.mem_of_getElem? (i := 686) (by decide +kernel)⟩
theorem lw_p20 : lw_okq (⟨"CardUnsigned$Law", "worked", "(III)I"⟩, 3) := ⟨⟨by decide +kernel, by decide +kernel⟩, List.mem_of_getElem? (i := 141) (by decide +kernel), List.mem_of_getElem? (i := 690) (by decide +kernel), List.mem_of_getElem? (i := 691) (by decide +kernel)⟩
theorem lw_p21 : lw_okq (⟨"CardUnsigned$Thought", "valueWithoutLaw", "()I"⟩, 6) := ⟨⟨by decide +kernel, by decide +kernel⟩, List.mem_of_getElem? (i := 157) (by decide +kernel), List.mem_of_getElem? (i := 694) (by decide +kernel), List.mem_of_getElem? (i := 695) (by decide +kernel)⟩
theorem lw_p22 : lw_okq (⟨"CardUnsigned$Thought", "greatestDivisor", "(II)I"⟩, 6) := ⟨⟨by decide +kernel, by decide +kernel⟩, List.mem_of_getElem? (i := 157) (by decide +kernel), List.mem_of_getElem? (i := 712) (by decide +kernel), List.mem_of_getElem? (i := 713) (by decide +kernel)⟩
theorem lw_p23 : lw_okq (⟨"CardUnsigned$Thought", "couldAllBeBy", "(II)Z"⟩, 6) := ⟨⟨by decide +kernel, by decide +kernel⟩, List.mem_of_getElem? (i := 157) (by decide +kernel), List.mem_of_getElem? (i := 753) (by decide +kernel), List.mem_of_getElem? (i := 754) (by decide +kernel)⟩
theorem lw_p24 : lw_okq (⟨"CardUnsigned$Thought", "addWriter", "(I)I"⟩, 6) := ⟨⟨by decide +kernel, by decide +kernel⟩, List.mem_of_getElem? (i := 157) (by decide +kernel), List.mem_of_getElem? (i := 767) (by decide +kernel), List.mem_of_getElem? (i := 768) (by decide +kernel)⟩
theorem lw_p25 : lw_okq (⟨"CardUnsigned$Office", "toldOn", "(I)I"⟩, 3) := ⟨⟨by decide +kernel, by decide +kernel⟩, List.mem_of_getElem? (i := 31) (by decide +kernel), List.mem_of_getElem? (i := 783) (by decide +kernel), List.mem_of_getElem? (i := 784) (by decide +kernel)⟩
theorem lw_p26 : lw_okq (⟨"CardUnsigned$Plans", "sumOfYes", "(II)I"⟩, 6) := ⟨⟨by decide +kernel, by decide +kernel⟩, List.mem_of_getElem? (i := 197) (by decide +kernel), List.mem_of_getElem? (i := 804) (by decide +kernel), List.mem_of_getElem? (i := 805) (by decide +kernel)⟩
theorem lw_p27 : lw_okq (⟨"CardUnsigned$Plans", "saysYes", "(III)Z"⟩, 6) := ⟨⟨by decide +kernel, by decide +kernel⟩, List.mem_of_getElem? (i := 197) (by decide +kernel), List.mem_of_getElem? (i := 808) (by decide +kernel), List.mem_of_getElem? (i := 809) (by decide +kernel)⟩
theorem lw_p28 : lw_okq (⟨"CardUnsigned$Plans", "weighWay", "(III)V"⟩, 6) := ⟨⟨by decide +kernel, by decide +kernel⟩, List.mem_of_getElem? (i := 197) (by decide +kernel), List.mem_of_getElem? (i := 859) (by decide +kernel), List.mem_of_getElem? (i := 860) (by decide +kernel)⟩
theorem lw_p29 : lw_okq (⟨"CardUnsigned$Rows", "canBe", "(II)Z"⟩, 3) := ⟨⟨by decide +kernel, by decide +kernel⟩, List.mem_of_getElem? (i := 225) (by decide +kernel), List.mem_of_getElem? (i := 903) (by decide +kernel), List.mem_of_getElem? (i := 904) (by decide +kernel)⟩
theorem lw_p30 : lw_okq (⟨"CardUnsigned$Rows", "waysToFill", "(II)I"⟩, 3) := ⟨⟨by decide +kernel, by decide +kernel⟩, List.mem_of_getElem? (i := 225) (by decide +kernel), List.mem_of_getElem? (i := 917) (by decide +kernel), List.mem_of_getElem? (i := 918) (by decide +kernel)⟩
theorem lw_p31 : lw_okq (⟨"CardUnsigned$Rows", "countsTogether", "(II)I"⟩, 3) := ⟨⟨by decide +kernel, by decide +kernel⟩, List.mem_of_getElem? (i := 225) (by decide +kernel), List.mem_of_getElem? (i := 922) (by decide +kernel), List.mem_of_getElem? (i := 923) (by decide +kernel)⟩
def lw_privs_2 : List (MethodName × Nat) := [(⟨"CardUnsigned$Office", "whoIsIn", "(I)I"⟩, 3), (⟨"CardUnsigned$Thought", "countFor", "(II)I"⟩, 6), (⟨"CardUnsigned$Thought", "likenessOfHand", "(II)I"⟩, 6), (⟨"CardUnsigned$Law", "operandsOf", "(I)I"⟩, 3), (⟨"CardUnsigned$Law", "worked", "(III)I"⟩, 3), (⟨"CardUnsigned$Thought", "valueWithoutLaw", "()I"⟩, 6), (⟨"CardUnsigned$Thought", "greatestDivisor", "(II)I"⟩, 6), (⟨"CardUnsigned$Thought", "couldAllBeBy", "(II)Z"⟩, 6), (⟨"CardUnsigned$Thought", "addWriter", "(I)I"⟩, 6), (⟨"CardUnsigned$Office", "toldOn", "(I)I"⟩, 3), (⟨"CardUnsigned$Plans", "sumOfYes", "(II)I"⟩, 6), (⟨"CardUnsigned$Plans", "saysYes", "(III)Z"⟩, 6), (⟨"CardUnsigned$Plans", "weighWay", "(III)V"⟩, 6), (⟨"CardUnsigned$Rows", "canBe", "(II)Z"⟩, 3), (⟨"CardUnsigned$Rows", "waysToFill", "(II)I"⟩, 3), (⟨"CardUnsigned$Rows", "countsTogether", "(II)I"⟩, 3)]
theorem lw_r2 : ∀ q ∈ lw_privs_2, lw_okq q := List.forall_mem_cons.mpr ⟨lw_p16, List.forall_mem_cons.mpr ⟨lw_p17, List.forall_mem_cons.mpr ⟨lw_p18, List.forall_mem_cons.mpr ⟨lw_p19, List.forall_mem_cons.mpr ⟨lw_p20, List.forall_mem_cons.mpr ⟨lw_p21, List.forall_mem_cons.mpr ⟨lw_p22, List.forall_mem_cons.mpr ⟨lw_p23, List.forall_mem_cons.mpr ⟨lw_p24, List.forall_mem_cons.mpr ⟨lw_p25, List.forall_mem_cons.mpr ⟨lw_p26, List.forall_mem_cons.mpr ⟨lw_p27, List.forall_mem_cons.mpr ⟨lw_p28, List.forall_mem_cons.mpr ⟨lw_p29, List.forall_mem_cons.mpr ⟨lw_p30, List.forall_mem_cons.mpr ⟨lw_p31, fun _ h => absurd h List.not_mem_nil⟩⟩⟩⟩⟩⟩⟩⟩⟩⟩⟩⟩⟩⟩⟩⟩
theorem lw_p32 : lw_okq (⟨"CardUnsigned$Plans", "whoIsAt", "(I)I"⟩, 6) := ⟨⟨by decide +kernel, by decide +kernel⟩, List.mem_of_getElem? (i := 197) (by decide +kernel), List.mem_of_getElem? (i := 948) (by decide +kernel), List.mem_of_getElem? (i := 949) (by decide +kernel)⟩
theorem lw_p33 : lw_okq (⟨"CardUnsigned$Bodies", "own", "(III)I"⟩, 5) := ⟨⟨by decide +kernel, by decide +kernel⟩, List.mem_of_getElem? (i := 287) (by decide +kernel), List.mem_of_getElem? (i := 1043) (by decide +kernel), List.mem_of_getElem? (i := 1044) (by decide +kernel)⟩
theorem lw_p34 : lw_okq (⟨"CardUnsigned$Bodies", "bodyFrom", "(II)I"⟩, 5) := ⟨⟨by decide +kernel, by decide +kernel⟩, List.mem_of_getElem? (i := 287) (by decide +kernel), List.mem_of_getElem? (i := 1047) (by decide +kernel), List.mem_of_getElem? (i := 1048) (by decide +kernel)⟩
theorem lw_p35 : lw_okq (⟨"CardUnsigned$Bodies", "run", "(III)I"⟩, 5) := ⟨⟨by decide +kernel, by decide +kernel⟩, List.mem_of_getElem? (i := 287) (by decide +kernel), List.mem_of_getElem? (i := 1055) (by decide +kernel), List.mem_of_getElem? (i := 1056) (by decide +kernel)⟩
theorem lw_p36 : lw_okq (⟨"CardUnsigned$Bodies", "above", "(IIII)I"⟩, 5) := ⟨⟨by decide +kernel, by decide +kernel⟩, List.mem_of_getElem? (i := 287) (by decide +kernel), List.mem_of_getElem? (i := 1059) (by decide +kernel), List.mem_of_getElem? (i := 1060) (by decide +kernel)⟩
theorem lw_p37 : lw_okq (⟨"CardUnsignedModel", "newPerson", "(III)I"⟩, 56) := ⟨⟨by decide +kernel, by decide +kernel⟩, List.mem_of_getElem? (i := 1129) (by decide +kernel), List.mem_of_getElem? (i := 1311) (by decide +kernel), List.mem_of_getElem? (i := 1312) (by decide +kernel)⟩
theorem lw_p38 : lw_okq (⟨"CardUnsignedModel", "isOne", "(I)Z"⟩, 56) := ⟨⟨by decide +kernel, by decide +kernel⟩, List.mem_of_getElem? (i := 1129) (by decide +kernel), List.mem_of_getElem? (i := 1327) (by decide +kernel), List.mem_of_getElem? (i := 1328) (by decide +kernel)⟩
theorem lw_p39 : lw_okq (⟨"CardUnsignedModel", "newCard", "(III)I"⟩, 56) := ⟨⟨by decide +kernel, by decide +kernel⟩, List.mem_of_getElem? (i := 1129) (by decide +kernel), List.mem_of_getElem? (i := 1334) (by decide +kernel), List.mem_of_getElem? (i := 1335) (by decide +kernel)⟩
theorem lw_p40 : lw_okq (⟨"CardUnsignedModel", "tells", "(II)V"⟩, 56) := ⟨⟨by decide +kernel, by decide +kernel⟩, List.mem_of_getElem? (i := 1129) (by decide +kernel), List.mem_of_getElem? (i := 1338) (by decide +kernel), List.mem_of_getElem? (i := 1339) (by decide +kernel)⟩
theorem lw_p41 : lw_okq (⟨"CardUnsignedModel", "isOf", "(II)Z"⟩, 56) := ⟨⟨by decide +kernel, by decide +kernel⟩, List.mem_of_getElem? (i := 1129) (by decide +kernel), List.mem_of_getElem? (i := 1346) (by decide +kernel), List.mem_of_getElem? (i := 1347) (by decide +kernel)⟩
theorem lw_p42 : lw_okq (⟨"CardUnsignedModel", "isCard", "(I)Z"⟩, 56) := ⟨⟨by decide +kernel, by decide +kernel⟩, List.mem_of_getElem? (i := 1129) (by decide +kernel), List.mem_of_getElem? (i := 1350) (by decide +kernel), List.mem_of_getElem? (i := 1351) (by decide +kernel)⟩
theorem lw_p43 : lw_okq (⟨"CardUnsignedModel", "get", "(II)I"⟩, 56) := ⟨⟨by decide +kernel, by decide +kernel⟩, List.mem_of_getElem? (i := 1129) (by decide +kernel), List.mem_of_getElem? (i := 1361) (by decide +kernel), List.mem_of_getElem? (i := 1362) (by decide +kernel)⟩
theorem lw_p44 : lw_okq (⟨"CardUnsignedModel", "becomes", "(III)V"⟩, 56) := ⟨⟨by decide +kernel, by decide +kernel⟩, List.mem_of_getElem? (i := 1129) (by decide +kernel), List.mem_of_getElem? (i := 1365) (by decide +kernel), List.mem_of_getElem? (i := 1366) (by decide +kernel)⟩
theorem lw_p45 : lw_okq (⟨"CardUnsignedModel", "isLine", "()Z"⟩, 56) := ⟨⟨by decide +kernel, by decide +kernel⟩, List.mem_of_getElem? (i := 1129) (by decide +kernel), List.mem_of_getElem? (i := 1389) (by decide +kernel), List.mem_of_getElem? (i := 1390) (by decide +kernel)⟩
theorem lw_p46 : lw_okq (⟨"CardUnsignedModel", "isE", "()Z"⟩, 56) := ⟨⟨by decide +kernel, by decide +kernel⟩, List.mem_of_getElem? (i := 1129) (by decide +kernel), List.mem_of_getElem? (i := 1393) (by decide +kernel), List.mem_of_getElem? (i := 1394) (by decide +kernel)⟩
theorem lw_p47 : lw_okq (⟨"CardUnsignedModel", "isA", "()Z"⟩, 56) := ⟨⟨by decide +kernel, by decide +kernel⟩, List.mem_of_getElem? (i := 1129) (by decide +kernel), List.mem_of_getElem? (i := 1397) (by decide +kernel), List.mem_of_getElem? (i := 1398) (by decide +kernel)⟩
def lw_privs_3 : List (MethodName × Nat) := [(⟨"CardUnsigned$Plans", "whoIsAt", "(I)I"⟩, 6), (⟨"CardUnsigned$Bodies", "own", "(III)I"⟩, 5), (⟨"CardUnsigned$Bodies", "bodyFrom", "(II)I"⟩, 5), (⟨"CardUnsigned$Bodies", "run", "(III)I"⟩, 5), (⟨"CardUnsigned$Bodies", "above", "(IIII)I"⟩, 5), (⟨"CardUnsignedModel", "newPerson", "(III)I"⟩, 56), (⟨"CardUnsignedModel", "isOne", "(I)Z"⟩, 56), (⟨"CardUnsignedModel", "newCard", "(III)I"⟩, 56), (⟨"CardUnsignedModel", "tells", "(II)V"⟩, 56), (⟨"CardUnsignedModel", "isOf", "(II)Z"⟩, 56), (⟨"CardUnsignedModel", "isCard", "(I)Z"⟩, 56), (⟨"CardUnsignedModel", "get", "(II)I"⟩, 56), (⟨"CardUnsignedModel", "becomes", "(III)V"⟩, 56), (⟨"CardUnsignedModel", "isLine", "()Z"⟩, 56), (⟨"CardUnsignedModel", "isE", "()Z"⟩, 56), (⟨"CardUnsignedModel", "isA", "()Z"⟩, 56)]
theorem lw_r3 : ∀ q ∈ lw_privs_3, lw_okq q := List.forall_mem_cons.mpr ⟨lw_p32, List.forall_mem_cons.mpr ⟨lw_p33, List.forall_mem_cons.mpr ⟨lw_p34, List.forall_mem_cons.mpr ⟨lw_p35, List.forall_mem_cons.mpr ⟨lw_p36, List.forall_mem_cons.mpr ⟨lw_p37, List.forall_mem_cons.mpr ⟨lw_p38, List.forall_mem_cons.mpr ⟨lw_p39, List.forall_mem_cons.mpr ⟨lw_p40, List.forall_mem_cons.mpr ⟨lw_p41, List.forall_mem_cons.mpr ⟨lw_p42, List.forall_mem_cons.mpr ⟨lw_p43, List.forall_mem_cons.mpr ⟨lw_p44, List.forall_mem_cons.mpr ⟨lw_p45, List.forall_mem_cons.mpr ⟨lw_p46, List.forall_mem_cons.mpr ⟨lw_p47, fun _ h => absurd h List.not_mem_nil⟩⟩⟩⟩⟩⟩⟩⟩⟩⟩⟩⟩⟩⟩⟩⟩
theorem lw_p48 : lw_okq (⟨"CardUnsignedModel", "isB", "()Z"⟩, 56) := ⟨⟨by decide +kernel, by decide +kernel⟩, List.mem_of_getElem? (i := 1129) (by decide +kernel), List.mem_of_getElem? (i := 1401) (by decide +kernel), List.mem_of_getElem? (i := 1402) (by decide +kernel)⟩
theorem lw_p49 : lw_okq (⟨"CardUnsignedModel", "isS", "()Z"⟩, 56) := ⟨⟨by decide +kernel, by decide +kernel⟩, List.mem_of_getElem? (i := 1129) (by decide +kernel), List.mem_of_getElem? (i := 1405) (by decide +kernel), List.mem_of_getElem? (i := 1406) (by decide +kernel)⟩
theorem lw_p50 : lw_okq (⟨"CardUnsignedModel", "isP", "()Z"⟩, 56) := ⟨⟨by decide +kernel, by decide +kernel⟩, List.mem_of_getElem? (i := 1129) (by decide +kernel), List.mem_of_getElem? (i := 1409) (by decide +kernel), List.mem_of_getElem? (i := 1410) (by decide +kernel)⟩
theorem lw_p51 : lw_okq (⟨"CardUnsignedModel", "isO", "()Z"⟩, 56) := ⟨⟨by decide +kernel, by decide +kernel⟩, List.mem_of_getElem? (i := 1129) (by decide +kernel), List.mem_of_getElem? (i := 1413) (by decide +kernel), List.mem_of_getElem? (i := 1414) (by decide +kernel)⟩
theorem lw_p52 : lw_okq (⟨"CardUnsignedModel", "isDigit", "()Z"⟩, 56) := ⟨⟨by decide +kernel, by decide +kernel⟩, List.mem_of_getElem? (i := 1129) (by decide +kernel), List.mem_of_getElem? (i := 1417) (by decide +kernel), List.mem_of_getElem? (i := 1418) (by decide +kernel)⟩
theorem lw_p53 : lw_okq (⟨"CardUnsignedModel", "sign", "()I"⟩, 56) := ⟨⟨by decide +kernel, by decide +kernel⟩, List.mem_of_getElem? (i := 1129) (by decide +kernel), List.mem_of_getElem? (i := 1421) (by decide +kernel), List.mem_of_getElem? (i := 1422) (by decide +kernel)⟩
theorem lw_p54 : lw_okq (⟨"CardUnsignedModel", "codes", "(I)Z"⟩, 56) := ⟨⟨by decide +kernel, by decide +kernel⟩, List.mem_of_getElem? (i := 1129) (by decide +kernel), List.mem_of_getElem? (i := 1425) (by decide +kernel), List.mem_of_getElem? (i := 1426) (by decide +kernel)⟩
theorem lw_p55 : lw_okq (⟨"CardUnsignedModel", "is", "(I)Z"⟩, 56) := ⟨⟨by decide +kernel, by decide +kernel⟩, List.mem_of_getElem? (i := 1129) (by decide +kernel), List.mem_of_getElem? (i := 1432) (by decide +kernel), List.mem_of_getElem? (i := 1433) (by decide +kernel)⟩
theorem lw_p56 : lw_okq (⟨"CardUnsignedModel", "couldAll", "(I)I"⟩, 56) := ⟨⟨by decide +kernel, by decide +kernel⟩, List.mem_of_getElem? (i := 1129) (by decide +kernel), List.mem_of_getElem? (i := 1440) (by decide +kernel), List.mem_of_getElem? (i := 1441) (by decide +kernel)⟩
theorem lw_p57 : lw_okq (⟨"CardUnsignedModel", "could", "(II)Z"⟩, 56) := ⟨⟨by decide +kernel, by decide +kernel⟩, List.mem_of_getElem? (i := 1129) (by decide +kernel), List.mem_of_getElem? (i := 1444) (by decide +kernel), List.mem_of_getElem? (i := 1445) (by decide +kernel)⟩
theorem lw_p58 : lw_okq (⟨"CardUnsignedModel", "isIn", "(II)Z"⟩, 56) := ⟨⟨by decide +kernel, by decide +kernel⟩, List.mem_of_getElem? (i := 1129) (by decide +kernel), List.mem_of_getElem? (i := 1451) (by decide +kernel), List.mem_of_getElem? (i := 1452) (by decide +kernel)⟩
theorem lw_p59 : lw_okq (⟨"CardUnsignedModel", "isCardOf", "(I)Z"⟩, 56) := ⟨⟨by decide +kernel, by decide +kernel⟩, List.mem_of_getElem? (i := 1129) (by decide +kernel), List.mem_of_getElem? (i := 1459) (by decide +kernel), List.mem_of_getElem? (i := 1460) (by decide +kernel)⟩
theorem lw_p60 : lw_okq (⟨"CardUnsignedModel", "counted", "(II)I"⟩, 56) := ⟨⟨by decide +kernel, by decide +kernel⟩, List.mem_of_getElem? (i := 1129) (by decide +kernel), List.mem_of_getElem? (i := 1463) (by decide +kernel), List.mem_of_getElem? (i := 1464) (by decide +kernel)⟩
theorem lw_p61 : lw_okq (⟨"CardUnsignedModel", "knowers", "(I)I"⟩, 56) := ⟨⟨by decide +kernel, by decide +kernel⟩, List.mem_of_getElem? (i := 1129) (by decide +kernel), List.mem_of_getElem? (i := 1467) (by decide +kernel), List.mem_of_getElem? (i := 1468) (by decide +kernel)⟩
theorem lw_p62 : lw_okq (⟨"CardUnsignedModel", "worked", "(II)I"⟩, 56) := ⟨⟨by decide +kernel, by decide +kernel⟩, List.mem_of_getElem? (i := 1129) (by decide +kernel), List.mem_of_getElem? (i := 1472) (by decide +kernel), List.mem_of_getElem? (i := 1473) (by decide +kernel)⟩
theorem lw_p63 : lw_okq (⟨"CardUnsignedModel", "countedAll", "(I)I"⟩, 56) := ⟨⟨by decide +kernel, by decide +kernel⟩, List.mem_of_getElem? (i := 1129) (by decide +kernel), List.mem_of_getElem? (i := 1484) (by decide +kernel), List.mem_of_getElem? (i := 1485) (by decide +kernel)⟩
def lw_privs_4 : List (MethodName × Nat) := [(⟨"CardUnsignedModel", "isB", "()Z"⟩, 56), (⟨"CardUnsignedModel", "isS", "()Z"⟩, 56), (⟨"CardUnsignedModel", "isP", "()Z"⟩, 56), (⟨"CardUnsignedModel", "isO", "()Z"⟩, 56), (⟨"CardUnsignedModel", "isDigit", "()Z"⟩, 56), (⟨"CardUnsignedModel", "sign", "()I"⟩, 56), (⟨"CardUnsignedModel", "codes", "(I)Z"⟩, 56), (⟨"CardUnsignedModel", "is", "(I)Z"⟩, 56), (⟨"CardUnsignedModel", "couldAll", "(I)I"⟩, 56), (⟨"CardUnsignedModel", "could", "(II)Z"⟩, 56), (⟨"CardUnsignedModel", "isIn", "(II)Z"⟩, 56), (⟨"CardUnsignedModel", "isCardOf", "(I)Z"⟩, 56), (⟨"CardUnsignedModel", "counted", "(II)I"⟩, 56), (⟨"CardUnsignedModel", "knowers", "(I)I"⟩, 56), (⟨"CardUnsignedModel", "worked", "(II)I"⟩, 56), (⟨"CardUnsignedModel", "countedAll", "(I)I"⟩, 56)]
theorem lw_r4 : ∀ q ∈ lw_privs_4, lw_okq q := List.forall_mem_cons.mpr ⟨lw_p48, List.forall_mem_cons.mpr ⟨lw_p49, List.forall_mem_cons.mpr ⟨lw_p50, List.forall_mem_cons.mpr ⟨lw_p51, List.forall_mem_cons.mpr ⟨lw_p52, List.forall_mem_cons.mpr ⟨lw_p53, List.forall_mem_cons.mpr ⟨lw_p54, List.forall_mem_cons.mpr ⟨lw_p55, List.forall_mem_cons.mpr ⟨lw_p56, List.forall_mem_cons.mpr ⟨lw_p57, List.forall_mem_cons.mpr ⟨lw_p58, List.forall_mem_cons.mpr ⟨lw_p59, List.forall_mem_cons.mpr ⟨lw_p60, List.forall_mem_cons.mpr ⟨lw_p61, List.forall_mem_cons.mpr ⟨lw_p62, List.forall_mem_cons.mpr ⟨lw_p63, fun _ h => absurd h List.not_mem_nil⟩⟩⟩⟩⟩⟩⟩⟩⟩⟩⟩⟩⟩⟩⟩⟩
theorem lw_p64 : lw_okq (⟨"CardUnsignedModel", "likeliest", "(I)I"⟩, 56) := ⟨⟨by decide +kernel, by decide +kernel⟩, List.mem_of_getElem? (i := 1129) (by decide +kernel), List.mem_of_getElem? (i := 1496) (by decide +kernel), List.mem_of_getElem? (i := 1497) (by decide +kernel)⟩
theorem lw_p65 : lw_okq (⟨"CardUnsignedModel", "sure", "(I)I"⟩, 56) := ⟨⟨by decide +kernel, by decide +kernel⟩, List.mem_of_getElem? (i := 1129) (by decide +kernel), List.mem_of_getElem? (i := 1500) (by decide +kernel), List.mem_of_getElem? (i := 1501) (by decide +kernel)⟩
theorem lw_p66 : lw_okq (⟨"CardUnsignedModel", "areCards", "(I)Z"⟩, 56) := ⟨⟨by decide +kernel, by decide +kernel⟩, List.mem_of_getElem? (i := 1129) (by decide +kernel), List.mem_of_getElem? (i := 1508) (by decide +kernel), List.mem_of_getElem? (i := 1509) (by decide +kernel)⟩
theorem lw_p67 : lw_okq (⟨"CardUnsignedModel", "areHands", "(II)Z"⟩, 56) := ⟨⟨by decide +kernel, by decide +kernel⟩, List.mem_of_getElem? (i := 1129) (by decide +kernel), List.mem_of_getElem? (i := 1517) (by decide +kernel), List.mem_of_getElem? (i := 1518) (by decide +kernel)⟩
theorem lw_p68 : lw_okq (⟨"CardUnsignedModel", "unlikes", "(III)I"⟩, 56) := ⟨⟨by decide +kernel, by decide +kernel⟩, List.mem_of_getElem? (i := 1129) (by decide +kernel), List.mem_of_getElem? (i := 1525) (by decide +kernel), List.mem_of_getElem? (i := 1526) (by decide +kernel)⟩
theorem lw_p69 : lw_okq (⟨"CardUnsignedModel", "tellsOn", "(I)V"⟩, 56) := ⟨⟨by decide +kernel, by decide +kernel⟩, List.mem_of_getElem? (i := 1129) (by decide +kernel), List.mem_of_getElem? (i := 1536) (by decide +kernel), List.mem_of_getElem? (i := 1537) (by decide +kernel)⟩
theorem lw_p70 : lw_okq (⟨"CardUnsignedModel", "greater", "(II)I"⟩, 56) := ⟨⟨by decide +kernel, by decide +kernel⟩, List.mem_of_getElem? (i := 1129) (by decide +kernel), List.mem_of_getElem? (i := 1548) (by decide +kernel), List.mem_of_getElem? (i := 1549) (by decide +kernel)⟩
theorem lw_p71 : lw_okq (⟨"CardUnsignedModel", "saysYes", "(III)Z"⟩, 56) := ⟨⟨by decide +kernel, by decide +kernel⟩, List.mem_of_getElem? (i := 1129) (by decide +kernel), List.mem_of_getElem? (i := 1552) (by decide +kernel), List.mem_of_getElem? (i := 1553) (by decide +kernel)⟩
theorem lw_p72 : lw_okq (⟨"CardUnsignedModel", "worthOf", "(II)I"⟩, 56) := ⟨⟨by decide +kernel, by decide +kernel⟩, List.mem_of_getElem? (i := 1129) (by decide +kernel), List.mem_of_getElem? (i := 1560) (by decide +kernel), List.mem_of_getElem? (i := 1561) (by decide +kernel)⟩
theorem lw_p73 : lw_okq (⟨"CardUnsignedModel", "areTwo", "(I)Z"⟩, 56) := ⟨⟨by decide +kernel, by decide +kernel⟩, List.mem_of_getElem? (i := 1129) (by decide +kernel), List.mem_of_getElem? (i := 1576) (by decide +kernel), List.mem_of_getElem? (i := 1577) (by decide +kernel)⟩
theorem lw_p74 : lw_okq (⟨"CardUnsignedModel", "writes", "(IIII)V"⟩, 56) := ⟨⟨by decide +kernel, by decide +kernel⟩, List.mem_of_getElem? (i := 1129) (by decide +kernel), List.mem_of_getElem? (i := 1580) (by decide +kernel), List.mem_of_getElem? (i := 1581) (by decide +kernel)⟩
theorem lw_p75 : lw_okq (⟨"CardUnsignedModel", "noRow", "(II)I"⟩, 56) := ⟨⟨by decide +kernel, by decide +kernel⟩, List.mem_of_getElem? (i := 1129) (by decide +kernel), List.mem_of_getElem? (i := 1592) (by decide +kernel), List.mem_of_getElem? (i := 1593) (by decide +kernel)⟩
theorem lw_p76 : lw_okq (⟨"CardUnsignedModel", "lookedFrom", "(II)V"⟩, 56) := ⟨⟨by decide +kernel, by decide +kernel⟩, List.mem_of_getElem? (i := 1129) (by decide +kernel), List.mem_of_getElem? (i := 1596) (by decide +kernel), List.mem_of_getElem? (i := 1597) (by decide +kernel)⟩
theorem lw_p77 : lw_okq (⟨"CardUnsignedModel", "toldAt", "(II)I"⟩, 56) := ⟨⟨by decide +kernel, by decide +kernel⟩, List.mem_of_getElem? (i := 1129) (by decide +kernel), List.mem_of_getElem? (i := 1600) (by decide +kernel), List.mem_of_getElem? (i := 1601) (by decide +kernel)⟩
theorem lw_p78 : lw_okq (⟨"CardUnsignedModel", "most", "()I"⟩, 56) := ⟨⟨by decide +kernel, by decide +kernel⟩, List.mem_of_getElem? (i := 1129) (by decide +kernel), List.mem_of_getElem? (i := 1604) (by decide +kernel), List.mem_of_getElem? (i := 1605) (by decide +kernel)⟩
theorem lw_p79 : lw_okq (⟨"CardUnsignedModel", "strange", "(I)I"⟩, 56) := ⟨⟨by decide +kernel, by decide +kernel⟩, List.mem_of_getElem? (i := 1129) (by decide +kernel), List.mem_of_getElem? (i := 1608) (by decide +kernel), List.mem_of_getElem? (i := 1609) (by decide +kernel)⟩
def lw_privs_5 : List (MethodName × Nat) := [(⟨"CardUnsignedModel", "likeliest", "(I)I"⟩, 56), (⟨"CardUnsignedModel", "sure", "(I)I"⟩, 56), (⟨"CardUnsignedModel", "areCards", "(I)Z"⟩, 56), (⟨"CardUnsignedModel", "areHands", "(II)Z"⟩, 56), (⟨"CardUnsignedModel", "unlikes", "(III)I"⟩, 56), (⟨"CardUnsignedModel", "tellsOn", "(I)V"⟩, 56), (⟨"CardUnsignedModel", "greater", "(II)I"⟩, 56), (⟨"CardUnsignedModel", "saysYes", "(III)Z"⟩, 56), (⟨"CardUnsignedModel", "worthOf", "(II)I"⟩, 56), (⟨"CardUnsignedModel", "areTwo", "(I)Z"⟩, 56), (⟨"CardUnsignedModel", "writes", "(IIII)V"⟩, 56), (⟨"CardUnsignedModel", "noRow", "(II)I"⟩, 56), (⟨"CardUnsignedModel", "lookedFrom", "(II)V"⟩, 56), (⟨"CardUnsignedModel", "toldAt", "(II)I"⟩, 56), (⟨"CardUnsignedModel", "most", "()I"⟩, 56), (⟨"CardUnsignedModel", "strange", "(I)I"⟩, 56)]
theorem lw_r5 : ∀ q ∈ lw_privs_5, lw_okq q := List.forall_mem_cons.mpr ⟨lw_p64, List.forall_mem_cons.mpr ⟨lw_p65, List.forall_mem_cons.mpr ⟨lw_p66, List.forall_mem_cons.mpr ⟨lw_p67, List.forall_mem_cons.mpr ⟨lw_p68, List.forall_mem_cons.mpr ⟨lw_p69, List.forall_mem_cons.mpr ⟨lw_p70, List.forall_mem_cons.mpr ⟨lw_p71, List.forall_mem_cons.mpr ⟨lw_p72, List.forall_mem_cons.mpr ⟨lw_p73, List.forall_mem_cons.mpr ⟨lw_p74, List.forall_mem_cons.mpr ⟨lw_p75, List.forall_mem_cons.mpr ⟨lw_p76, List.forall_mem_cons.mpr ⟨lw_p77, List.forall_mem_cons.mpr ⟨lw_p78, List.forall_mem_cons.mpr ⟨lw_p79, fun _ h => absurd h List.not_mem_nil⟩⟩⟩⟩⟩⟩⟩⟩⟩⟩⟩⟩⟩⟩⟩⟩
theorem lw_p80 : lw_okq (⟨"CardUnsignedModel", "wrong", "(I)I"⟩, 56) := ⟨⟨by decide +kernel, by decide +kernel⟩, List.mem_of_getElem? (i := 1129) (by decide +kernel), List.mem_of_getElem? (i := 1620) (by decide +kernel), List.mem_of_getElem? (i := 1621) (by decide +kernel)⟩
theorem lw_p81 : lw_okq (⟨"CardUnsignedModel", "canBe", "(II)Z"⟩, 56) := ⟨⟨by decide +kernel, by decide +kernel⟩, List.mem_of_getElem? (i := 1129) (by decide +kernel), List.mem_of_getElem? (i := 1624) (by decide +kernel), List.mem_of_getElem? (i := 1625) (by decide +kernel)⟩
theorem lw_p82 : lw_okq (⟨"CardUnsignedModel", "looksBy", "(III)I"⟩, 56) := ⟨⟨by decide +kernel, by decide +kernel⟩, List.mem_of_getElem? (i := 1129) (by decide +kernel), List.mem_of_getElem? (i := 1674) (by decide +kernel), List.mem_of_getElem? (i := 1675) (by decide +kernel)⟩
theorem lw_p83 : lw_okq (⟨"CardUnsignedModel", "ran", "(I)V"⟩, 56) := ⟨⟨by decide +kernel, by decide +kernel⟩, List.mem_of_getElem? (i := 1129) (by decide +kernel), List.mem_of_getElem? (i := 1678) (by decide +kernel), List.mem_of_getElem? (i := 1679) (by decide +kernel)⟩
theorem lw_p84 : lw_okq (⟨"CardUnsignedModel", "writesBy", "(III)I"⟩, 56) := ⟨⟨by decide +kernel, by decide +kernel⟩, List.mem_of_getElem? (i := 1129) (by decide +kernel), List.mem_of_getElem? (i := 1685) (by decide +kernel), List.mem_of_getElem? (i := 1686) (by decide +kernel)⟩
theorem lw_p85 : lw_okq (⟨"CardUnsignedModel", "hidesBy", "(III)I"⟩, 56) := ⟨⟨by decide +kernel, by decide +kernel⟩, List.mem_of_getElem? (i := 1129) (by decide +kernel), List.mem_of_getElem? (i := 1689) (by decide +kernel), List.mem_of_getElem? (i := 1690) (by decide +kernel)⟩
theorem lw_p86 : lw_okq (⟨"CardUnsignedModel", "tells", "(III)I"⟩, 56) := ⟨⟨by decide +kernel, by decide +kernel⟩, List.mem_of_getElem? (i := 1129) (by decide +kernel), List.mem_of_getElem? (i := 1693) (by decide +kernel), List.mem_of_getElem? (i := 1694) (by decide +kernel)⟩
theorem lw_p87 : lw_okq (⟨"CardUnsignedModel", "isRow", "(I)Z"⟩, 56) := ⟨⟨by decide +kernel, by decide +kernel⟩, List.mem_of_getElem? (i := 1129) (by decide +kernel), List.mem_of_getElem? (i := 1713) (by decide +kernel), List.mem_of_getElem? (i := 1714) (by decide +kernel)⟩
def lw_privs_6 : List (MethodName × Nat) := [(⟨"CardUnsignedModel", "wrong", "(I)I"⟩, 56), (⟨"CardUnsignedModel", "canBe", "(II)Z"⟩, 56), (⟨"CardUnsignedModel", "looksBy", "(III)I"⟩, 56), (⟨"CardUnsignedModel", "ran", "(I)V"⟩, 56), (⟨"CardUnsignedModel", "writesBy", "(III)I"⟩, 56), (⟨"CardUnsignedModel", "hidesBy", "(III)I"⟩, 56), (⟨"CardUnsignedModel", "tells", "(III)I"⟩, 56), (⟨"CardUnsignedModel", "isRow", "(I)Z"⟩, 56)]
theorem lw_r6 : ∀ q ∈ lw_privs_6, lw_okq q := List.forall_mem_cons.mpr ⟨lw_p80, List.forall_mem_cons.mpr ⟨lw_p81, List.forall_mem_cons.mpr ⟨lw_p82, List.forall_mem_cons.mpr ⟨lw_p83, List.forall_mem_cons.mpr ⟨lw_p84, List.forall_mem_cons.mpr ⟨lw_p85, List.forall_mem_cons.mpr ⟨lw_p86, List.forall_mem_cons.mpr ⟨lw_p87, fun _ h => absurd h List.not_mem_nil⟩⟩⟩⟩⟩⟩⟩⟩
def lw_privs : List (MethodName × Nat) := lw_privs_1 ++ (lw_privs_2 ++ (lw_privs_3 ++ (lw_privs_4 ++ (lw_privs_5 ++ (lw_privs_6)))))
def lw_tbl : List Cond := k2_sels lw_privs ++ tables_1
theorem lw_privs_ok : ∀ q ∈ lw_privs, lw_okq q := by
  show ∀ q ∈ lw_privs_1 ++ (lw_privs_2 ++ (lw_privs_3 ++ (lw_privs_4 ++ (lw_privs_5 ++ (lw_privs_6))))), lw_okq q
  exact List.forall_mem_append.mpr ⟨lw_r1, List.forall_mem_append.mpr ⟨lw_r2, List.forall_mem_append.mpr ⟨lw_r3, List.forall_mem_append.mpr ⟨lw_r4, List.forall_mem_append.mpr ⟨lw_r5, lw_r6⟩⟩⟩⟩⟩
-- ===== end of PART A; then your names; then what follows =====
end
section
/-! THE CLASSES: names, fields in the order of the slots, types (begun from the printed names) -/
def RX0 : String := "CardUnsigned$Bodies"
def TX0 : u_T := fun k => match k with
  | 0 => ("CardUnsigned$Bodies", "kinds", "[I", true)
  | 1 => ("CardUnsigned$Bodies", "size", "I", false)
  | 2 => ("CardUnsigned$Bodies", "trace", "[I", true)
  | 3 => ("CardUnsigned$Bodies", "ran", "I", false)
  | _ => ("CardUnsigned$Bodies", "number", "I", false)
def tyX0 : Nat → FieldType := fun k => match k with
  | 0 => .array .int
  | 1 => .int
  | 2 => .array .int
  | 3 => .int
  | _ => .int
abbrev wsX00 : List Cond := u_ws RX0 TX0 5
theorem nmX0 : ∀ a, a < 5 → ∀ b, b < 5 → a ≠ b → (TX0 a).2.1 ≠ (TX0 b).2.1 := by decide +kernel
theorem tyX0_ok : ∀ k, k < 5 → parseFieldDescriptor (TX0 k).2.2.1 = some (tyX0 k) := by decide +kernel
def RX1 : String := "CardUnsigned$Changes"
def TX1 : u_T := fun k => match k with
  | 0 => ("CardUnsigned$Changes", "office", "LCardUnsigned$Office;", true)
  | 1 => ("CardUnsigned$Changes", "number", "[I", true)
  | 2 => ("CardUnsigned$Changes", "what", "[I", true)
  | 3 => ("CardUnsigned$Changes", "before", "[I", true)
  | 4 => ("CardUnsigned$Changes", "behind", "[I", true)
  | 5 => ("CardUnsigned$Changes", "done", "I", false)
  | _ => ("CardUnsigned$Changes", "undone", "I", false)
def tyX1 : Nat → FieldType := fun k => match k with
  | 0 => .object "CardUnsigned$Office"
  | 1 => .array .int
  | 2 => .array .int
  | 3 => .array .int
  | 4 => .array .int
  | 5 => .int
  | _ => .int
abbrev wsX10 : List Cond := u_ws RX1 TX1 7
theorem nmX1 : ∀ a, a < 7 → ∀ b, b < 7 → a ≠ b → (TX1 a).2.1 ≠ (TX1 b).2.1 := by decide +kernel
theorem tyX1_ok : ∀ k, k < 7 → parseFieldDescriptor (TX1 k).2.2.1 = some (tyX1 k) := by decide +kernel
def RX2 : String := "CardUnsigned$Deeds"
def TX2 : u_T := fun k => match k with
  | 0 => ("CardUnsigned$Deeds", "office", "LCardUnsigned$Office;", true)
  | 1 => ("CardUnsigned$Deeds", "now", "I", false)
  | 2 => ("CardUnsigned$Deeds", "sent", "I", false)
  | 3 => ("CardUnsigned$Deeds", "right", "I", false)
  | 4 => ("CardUnsigned$Deeds", "wrong", "I", false)
  | 5 => ("CardUnsigned$Deeds", "imageKept", "Z", false)
  | 6 => ("CardUnsigned$Deeds", "nowThen", "I", false)
  | 7 => ("CardUnsigned$Deeds", "sentThen", "I", false)
  | 8 => ("CardUnsigned$Deeds", "rightThen", "I", false)
  | 9 => ("CardUnsigned$Deeds", "wrongThen", "I", false)
  | _ => ("CardUnsigned$Deeds", "thankedThen", "[I", true)
def tyX2 : Nat → FieldType := fun k => match k with
  | 0 => .object "CardUnsigned$Office"
  | 1 => .int
  | 2 => .int
  | 3 => .int
  | 4 => .int
  | 5 => .boolean
  | 6 => .int
  | 7 => .int
  | 8 => .int
  | 9 => .int
  | _ => .array .int
abbrev wsX20 : List Cond := u_ws RX2 TX2 11
theorem nmX2 : ∀ a, a < 11 → ∀ b, b < 11 → a ≠ b → (TX2 a).2.1 ≠ (TX2 b).2.1 := by decide +kernel
theorem tyX2_ok : ∀ k, k < 11 → parseFieldDescriptor (TX2 k).2.2.1 = some (tyX2 k) := by decide +kernel
def RX3 : String := "CardUnsigned$Law"
def TX3 : u_T := fun k => match k with
  | 0 => ("CardUnsigned$Law", "steps", "[I", true)
  | 1 => ("CardUnsigned$Law", "size", "I", false)
  | _ => ("CardUnsigned$Law", "stack", "[I", true)
def tyX3 : Nat → FieldType := fun k => match k with
  | 0 => .array .int
  | 1 => .int
  | _ => .array .int
abbrev wsX30 : List Cond := u_ws RX3 TX3 3
theorem nmX3 : ∀ a, a < 3 → ∀ b, b < 3 → a ≠ b → (TX3 a).2.1 ≠ (TX3 b).2.1 := by decide +kernel
theorem tyX3_ok : ∀ k, k < 3 → parseFieldDescriptor (TX3 k).2.2.1 = some (tyX3 k) := by decide +kernel
def RX4 : String := "CardUnsigned$Office"
def TX4 : u_T := fun k => match k with
  | 0 => ("CardUnsigned$Office", "numbers", "[[I", true)
  | 1 => ("CardUnsigned$Office", "people", "I", false)
  | _ => ("CardUnsigned$Office", "cards", "I", false)
def tyX4 : Nat → FieldType := fun k => match k with
  | 0 => .array (.array .int)
  | 1 => .int
  | _ => .int
abbrev wsX40 : List Cond := u_ws RX4 TX4 3
theorem nmX4 : ∀ a, a < 3 → ∀ b, b < 3 → a ≠ b → (TX4 a).2.1 ≠ (TX4 b).2.1 := by decide +kernel
theorem tyX4_ok : ∀ k, k < 3 → parseFieldDescriptor (TX4 k).2.2.1 = some (tyX4 k) := by decide +kernel
def RX5 : String := "CardUnsigned$Parser"
def TX5 : u_T := fun k => match k with
  | 0 => ("CardUnsigned$Parser", "tape", "[I", true)
  | 1 => ("CardUnsigned$Parser", "tapeSize", "I", false)
  | 2 => ("CardUnsigned$Parser", "steps", "[I", true)
  | 3 => ("CardUnsigned$Parser", "size", "I", false)
  | 4 => ("CardUnsigned$Parser", "waiting", "[I", true)
  | 5 => ("CardUnsigned$Parser", "waits", "I", false)
  | 6 => ("CardUnsigned$Parser", "open", "I", false)
  | 7 => ("CardUnsigned$Parser", "brackets", "I", false)
  | 8 => ("CardUnsigned$Parser", "wantsOperand", "Z", false)
  | 9 => ("CardUnsigned$Parser", "guarded", "Z", false)
  | 10 => ("CardUnsigned$Parser", "digits", "I", false)
  | _ => ("CardUnsigned$Parser", "numberStep", "I", false)
def tyX5 : Nat → FieldType := fun k => match k with
  | 0 => .array .int
  | 1 => .int
  | 2 => .array .int
  | 3 => .int
  | 4 => .array .int
  | 5 => .int
  | 6 => .int
  | 7 => .int
  | 8 => .boolean
  | 9 => .boolean
  | 10 => .int
  | _ => .int
abbrev wsX50 : List Cond := u_ws RX5 TX5 12
theorem nmX5 : ∀ a, a < 12 → ∀ b, b < 12 → a ≠ b → (TX5 a).2.1 ≠ (TX5 b).2.1 := by decide +kernel
theorem tyX5_ok : ∀ k, k < 12 → parseFieldDescriptor (TX5 k).2.2.1 = some (tyX5 k) := by decide +kernel
def RX6 : String := "CardUnsigned$Plans"
def TX6 : u_T := fun k => match k with
  | 0 => ("CardUnsigned$Plans", "office", "LCardUnsigned$Office;", true)
  | 1 => ("CardUnsigned$Plans", "thought", "LCardUnsigned$Thought;", true)
  | 2 => ("CardUnsigned$Plans", "times", "[I", true)
  | 3 => ("CardUnsigned$Plans", "way", "I", false)
  | 4 => ("CardUnsigned$Plans", "wayTop", "I", false)
  | _ => ("CardUnsigned$Plans", "wayBelow", "I", false)
def tyX6 : Nat → FieldType := fun k => match k with
  | 0 => .object "CardUnsigned$Office"
  | 1 => .object "CardUnsigned$Thought"
  | 2 => .array .int
  | 3 => .int
  | 4 => .int
  | _ => .int
abbrev wsX60 : List Cond := u_ws RX6 TX6 6
theorem nmX6 : ∀ a, a < 6 → ∀ b, b < 6 → a ≠ b → (TX6 a).2.1 ≠ (TX6 b).2.1 := by decide +kernel
theorem tyX6_ok : ∀ k, k < 6 → parseFieldDescriptor (TX6 k).2.2.1 = some (tyX6 k) := by decide +kernel
def RX7 : String := "CardUnsigned$Rows"
def TX7 : u_T := fun k => match k with
  | 0 => ("CardUnsigned$Rows", "office", "LCardUnsigned$Office;", true)
  | 1 => ("CardUnsigned$Rows", "thought", "LCardUnsigned$Thought;", true)
  | _ => ("CardUnsigned$Rows", "tally", "[I", true)
def tyX7 : Nat → FieldType := fun k => match k with
  | 0 => .object "CardUnsigned$Office"
  | 1 => .object "CardUnsigned$Thought"
  | _ => .array .int
abbrev wsX70 : List Cond := u_ws RX7 TX7 3
theorem nmX7 : ∀ a, a < 3 → ∀ b, b < 3 → a ≠ b → (TX7 a).2.1 ≠ (TX7 b).2.1 := by decide +kernel
theorem tyX7_ok : ∀ k, k < 3 → parseFieldDescriptor (TX7 k).2.2.1 = some (tyX7 k) := by decide +kernel
def RX8 : String := "CardUnsigned$Shelf"
def TX8 : u_T := fun k => match k with
  | 0 => ("CardUnsigned$Shelf", "holds", "I", false)
  | 1 => ("CardUnsigned$Shelf", "body", "I", false)
  | 2 => ("CardUnsigned$Shelf", "sort", "I", false)
  | 3 => ("CardUnsigned$Shelf", "size", "I", false)
  | _ => ("CardUnsigned$Shelf", "row", "[J", true)
def tyX8 : Nat → FieldType := fun k => match k with
  | 0 => .int
  | 1 => .int
  | 2 => .int
  | 3 => .int
  | _ => .array .long
abbrev wsX80 : List Cond := u_ws RX8 TX8 5
theorem nmX8 : ∀ a, a < 5 → ∀ b, b < 5 → a ≠ b → (TX8 a).2.1 ≠ (TX8 b).2.1 := by decide +kernel
theorem tyX8_ok : ∀ k, k < 5 → parseFieldDescriptor (TX8 k).2.2.1 = some (tyX8 k) := by decide +kernel
def RX9 : String := "CardUnsigned$Steps"
def TX9 : u_T := fun k => match k with
  | _ => ("", "", "", false)
def tyX9 : Nat → FieldType := fun k => match k with
  | _ => .int
abbrev wsX90 : List Cond := u_ws RX9 TX9 0
theorem nmX9 : ∀ a, a < 0 → ∀ b, b < 0 → a ≠ b → (TX9 a).2.1 ≠ (TX9 b).2.1 := by decide +kernel
theorem tyX9_ok : ∀ k, k < 0 → parseFieldDescriptor (TX9 k).2.2.1 = some (tyX9 k) := by decide +kernel
def RX10 : String := "CardUnsigned$Thought"
def TX10 : u_T := fun k => match k with
  | 0 => ("CardUnsigned$Thought", "office", "LCardUnsigned$Office;", true)
  | 1 => ("CardUnsigned$Thought", "law", "LCardUnsigned$Law;", true)
  | 2 => ("CardUnsigned$Thought", "names", "[I", true)
  | 3 => ("CardUnsigned$Thought", "weights", "[I", true)
  | 4 => ("CardUnsigned$Thought", "could", "[I", true)
  | _ => ("CardUnsigned$Thought", "ways", "[I", true)
def tyX10 : Nat → FieldType := fun k => match k with
  | 0 => .object "CardUnsigned$Office"
  | 1 => .object "CardUnsigned$Law"
  | 2 => .array .int
  | 3 => .array .int
  | 4 => .array .int
  | _ => .array .int
abbrev wsX100 : List Cond := u_ws RX10 TX10 6
theorem nmX10 : ∀ a, a < 6 → ∀ b, b < 6 → a ≠ b → (TX10 a).2.1 ≠ (TX10 b).2.1 := by decide +kernel
theorem tyX10_ok : ∀ k, k < 6 → parseFieldDescriptor (TX10 k).2.2.1 = some (tyX10 k) := by decide +kernel
def RX11 : String := "CardUnsigned"
def TX11 : u_T := fun k => match k with
  | 0 => ("CardUnsigned", "office", "LCardUnsigned$Office;", true)
  | 1 => ("CardUnsigned", "changes", "LCardUnsigned$Changes;", true)
  | 2 => ("CardUnsigned", "parser", "LCardUnsigned$Parser;", true)
  | 3 => ("CardUnsigned", "law", "LCardUnsigned$Law;", true)
  | 4 => ("CardUnsigned", "thought", "LCardUnsigned$Thought;", true)
  | 5 => ("CardUnsigned", "plans", "LCardUnsigned$Plans;", true)
  | 6 => ("CardUnsigned", "rows", "LCardUnsigned$Rows;", true)
  | 7 => ("CardUnsigned", "deeds", "LCardUnsigned$Deeds;", true)
  | 8 => ("CardUnsigned", "bodies", "LCardUnsigned$Bodies;", true)
  | _ => ("CardUnsigned", "shelves", "[LCardUnsigned$Shelf;", true)
def tyX11 : Nat → FieldType := fun k => match k with
  | 0 => .object "CardUnsigned$Office"
  | 1 => .object "CardUnsigned$Changes"
  | 2 => .object "CardUnsigned$Parser"
  | 3 => .object "CardUnsigned$Law"
  | 4 => .object "CardUnsigned$Thought"
  | 5 => .object "CardUnsigned$Plans"
  | 6 => .object "CardUnsigned$Rows"
  | 7 => .object "CardUnsigned$Deeds"
  | 8 => .object "CardUnsigned$Bodies"
  | _ => .array (.object "CardUnsigned$Shelf")
abbrev wsX110 : List Cond := u_ws RX11 TX11 10
theorem nmX11 : ∀ a, a < 10 → ∀ b, b < 10 → a ≠ b → (TX11 a).2.1 ≠ (TX11 b).2.1 := by decide +kernel
theorem tyX11_ok : ∀ k, k < 10 → parseFieldDescriptor (TX11 k).2.2.1 = some (tyX11 k) := by decide +kernel
def RX12 : String := "CardUnsignedModel"
def TX12 : u_T := fun k => match k with
  | 0 => ("CardUnsignedModel", "many", "I", false)
  | 1 => ("CardUnsignedModel", "from", "[I", true)
  | 2 => ("CardUnsignedModel", "till", "[I", true)
  | 3 => ("CardUnsignedModel", "hand", "[I", true)
  | 4 => ("CardUnsignedModel", "shy", "[I", true)
  | 5 => ("CardUnsignedModel", "liked", "[I", true)
  | 6 => ("CardUnsignedModel", "knows", "[I", true)
  | 7 => ("CardUnsignedModel", "cards", "I", false)
  | 8 => ("CardUnsignedModel", "whom", "[I", true)
  | 9 => ("CardUnsignedModel", "minute", "[I", true)
  | 10 => ("CardUnsignedModel", "shown", "[I", true)
  | 11 => ("CardUnsignedModel", "secret", "[I", true)
  | 12 => ("CardUnsignedModel", "stamp", "[I", true)
  | 13 => ("CardUnsignedModel", "sender", "[I", true)
  | 14 => ("CardUnsignedModel", "thanks", "[I", true)
  | 15 => ("CardUnsignedModel", "ways", "[I", true)
  | 16 => ("CardUnsignedModel", "now", "I", false)
  | 17 => ("CardUnsignedModel", "taped", "I", false)
  | 18 => ("CardUnsignedModel", "tape", "[I", true)
  | 19 => ("CardUnsignedModel", "isTold", "Z", false)
  | 20 => ("CardUnsignedModel", "lines", "I", false)
  | 21 => ("CardUnsignedModel", "asks", "[I", true)
  | 22 => ("CardUnsignedModel", "says", "[I", true)
  | 23 => ("CardUnsignedModel", "ends", "[I", true)
  | 24 => ("CardUnsignedModel", "code", "[I", true)
  | 25 => ("CardUnsignedModel", "at", "I", false)
  | 26 => ("CardUnsignedModel", "open", "I", false)
  | 27 => ("CardUnsignedModel", "coded", "I", false)
  | 28 => ("CardUnsignedModel", "newLines", "I", false)
  | 29 => ("CardUnsignedModel", "newAsks", "[I", true)
  | 30 => ("CardUnsignedModel", "newSays", "[I", true)
  | 31 => ("CardUnsignedModel", "newEnds", "[I", true)
  | 32 => ("CardUnsignedModel", "newCode", "[I", true)
  | 33 => ("CardUnsignedModel", "stack", "[I", true)
  | 34 => ("CardUnsignedModel", "names", "[I", true)
  | 35 => ("CardUnsignedModel", "led", "[I", true)
  | 36 => ("CardUnsignedModel", "imaged", "Z", false)
  | 37 => ("CardUnsignedModel", "oldCards", "I", false)
  | 38 => ("CardUnsignedModel", "oldNow", "I", false)
  | 39 => ("CardUnsignedModel", "oldThanks", "[I", true)
  | 40 => ("CardUnsignedModel", "oldLed", "[I", true)
  | 41 => ("CardUnsignedModel", "changes", "I", false)
  | 42 => ("CardUnsignedModel", "done", "I", false)
  | 43 => ("CardUnsignedModel", "changed", "[I", true)
  | 44 => ("CardUnsignedModel", "bodies", "I", false)
  | 45 => ("CardUnsignedModel", "kind", "[I", true)
  | 46 => ("CardUnsignedModel", "traced", "I", false)
  | 47 => ("CardUnsignedModel", "traces", "[I", true)
  | 48 => ("CardUnsignedModel", "holding", "[I", true)
  | 49 => ("CardUnsignedModel", "rowLength", "[I", true)
  | 50 => ("CardUnsignedModel", "rowOf", "[J", true)
  | 51 => ("CardUnsignedModel", "told", "[I", true)
  | 52 => ("CardUnsignedModel", "often", "[I", true)
  | 53 => ("CardUnsignedModel", "bestWay", "I", false)
  | 54 => ("CardUnsignedModel", "bestAbove", "I", false)
  | _ => ("CardUnsignedModel", "bestBelow", "I", false)
def tyX12 : Nat → FieldType := fun k => match k with
  | 0 => .int
  | 1 => .array .int
  | 2 => .array .int
  | 3 => .array .int
  | 4 => .array .int
  | 5 => .array .int
  | 6 => .array .int
  | 7 => .int
  | 8 => .array .int
  | 9 => .array .int
  | 10 => .array .int
  | 11 => .array .int
  | 12 => .array .int
  | 13 => .array .int
  | 14 => .array .int
  | 15 => .array .int
  | 16 => .int
  | 17 => .int
  | 18 => .array .int
  | 19 => .boolean
  | 20 => .int
  | 21 => .array .int
  | 22 => .array .int
  | 23 => .array .int
  | 24 => .array .int
  | 25 => .int
  | 26 => .int
  | 27 => .int
  | 28 => .int
  | 29 => .array .int
  | 30 => .array .int
  | 31 => .array .int
  | 32 => .array .int
  | 33 => .array .int
  | 34 => .array .int
  | 35 => .array .int
  | 36 => .boolean
  | 37 => .int
  | 38 => .int
  | 39 => .array .int
  | 40 => .array .int
  | 41 => .int
  | 42 => .int
  | 43 => .array .int
  | 44 => .int
  | 45 => .array .int
  | 46 => .int
  | 47 => .array .int
  | 48 => .array .int
  | 49 => .array .int
  | 50 => .array .long
  | 51 => .array .int
  | 52 => .array .int
  | 53 => .int
  | 54 => .int
  | _ => .int
abbrev wsX120 : List Cond := u_ws RX12 TX12 56
theorem nmX12 : ∀ a, a < 56 → ∀ b, b < 56 → a ≠ b → (TX12 a).2.1 ≠ (TX12 b).2.1 := by decide +kernel
theorem tyX12_ok : ∀ k, k < 56 → parseFieldDescriptor (TX12 k).2.2.1 = some (tyX12 k) := by decide +kernel
def zk_uw : List Cond := lw_tbl.filter goodWord
theorem zk_uw_in {w : Cond} (h : w ∈ lw_tbl) (hg : goodWord w = true) : w ∈ zk_uw := List.mem_filter.mpr ⟨h, hg⟩
abbrev zk_cl : List vw_C := [(RX0, TX0, 5), (RX1, TX1, 7), (RX2, TX2, 11), (RX3, TX3, 3), (RX4, TX4, 3), (RX5, TX5, 12), (RX6, TX6, 6), (RX7, TX7, 3), (RX8, TX8, 5), (RX9, TX9, 0), (RX10, TX10, 6), (RX11, TX11, 10), (RX12, TX12, 56)]
def zk_ty (c : Nat) : Nat → FieldType := match c with
  | 0 => tyX0
  | 1 => tyX1
  | 2 => tyX2
  | 3 => tyX3
  | 4 => tyX4
  | 5 => tyX5
  | 6 => tyX6
  | 7 => tyX7
  | 8 => tyX8
  | 9 => tyX9
  | 10 => tyX10
  | 11 => tyX11
  | _ => tyX12
def zk_N (c : Nat) : Nat := match c with
  | 0 => 5
  | 1 => 7
  | 2 => 11
  | 3 => 3
  | 4 => 3
  | 5 => 12
  | 6 => 6
  | 7 => 3
  | 8 => 5
  | 9 => 0
  | 10 => 6
  | 11 => 10
  | _ => 56
end
section
/-! THE SMALL MACHINE: cells at fixed places, a step an instruction, as a transformer of propositions. What it says of a method is carried over to the machine once, by zk_met at the end of part 04. -/
abbrev zk_M : Type := MethodName × ByteArray × Nat × Option FieldType
/-- a world: its cells' kinds and lengths (0 ints, 1 longs, 2 shelves, 3 rows of ints, c + 4 an object of class c), where its references lead -/
abbrev zk_Wd : Type := List (Nat × Nat) × (Nat → Nat → Option Nat)
/-- what its cells hold: ints, longs -/
abbrev zk_H : Type := (Nat → Nat → Int32) × (Nat → Nat → Int64)
/-- the classes and slots, the array classes, the addresses -/
abbrev zk_E : Type := va_G × (Nat → ClassId) × (Nat → Nat)
abbrev zk_Q : Type := (Int32 → zk_H → Prop) × (Int64 → zk_H → Prop) × (Unit → zk_H → Prop) × (Value → zk_H → Prop)
abbrev zk_P : Type := List Value → zk_H → zk_Q → Prop
abbrev zk_L : Type := List (Option Value)
abbrev zk_K : Type := Nat → zk_L → List Value → zk_H → Prop
def zk_si (h : zk_H) (k j : Nat) (v : Int32) : zk_H := (fun a b => if a = k then (if b = j then v else h.1 a b) else h.1 a b, h.2)
def zk_sl (h : zk_H) (k j : Nat) (v : Int64) : zk_H := (h.1, fun a b => if a = k then (if b = j then v else h.2 a b) else h.2 a b)
def zk_wi (h : zk_H) (k : Nat) (f : Nat → Int32) : zk_H := (fun a b => if a = k then f b else h.1 a b, h.2)
def zk_wl (h : zk_H) (k : Nat) (f : Nat → Int64) : zk_H := (h.1, fun a b => if a = k then f b else h.2 a b)
def zk_gl (L : zk_L) (i : Nat) : Option Value := match L[i]? with
  | some o => o
  | none => none
def zk_wide (L : zk_L) (i : Nat) : Bool := match i with
  | 0 => false
  | k + 1 => match zk_gl L k with
    | some (.long _) => true
    | some (.double _) => true
    | _ => false
def zk_st1 (L : zk_L) (i : Nat) (v : Value) : Option zk_L := bif Nat.blt i L.length && !(zk_wide L i) then some (L.set i (some v)) else none
def zk_st2 (L : zk_L) (i : Nat) (v : Value) : Option zk_L := bif Nat.blt (i + 1) L.length && !(zk_wide L i) then some ((L.set i (some v)).set (i + 1) none) else none
def zk_on {α : Type} (o : Option α) (f : α → Prop) : Prop := match o with
  | some a => f a
  | none => False
def zk_p1i (st : List Value) (k : Int32 → List Value → Prop) : Prop := match st with
  | .int x :: r => k x r
  | _ => False
def zk_p2i (st : List Value) (k : Int32 → Int32 → List Value → Prop) : Prop := match st with
  | .int y :: .int x :: r => k x y r
  | _ => False
def zk_p1l (st : List Value) (k : Int64 → List Value → Prop) : Prop := match st with
  | .long x :: r => k x r
  | _ => False
def zk_p2l (st : List Value) (k : Int64 → Int64 → List Value → Prop) : Prop := match st with
  | .long y :: .long x :: r => k x y r
  | _ => False
def zk_pli (st : List Value) (k : Int64 → Int32 → List Value → Prop) : Prop := match st with
  | .int y :: .long x :: r => k x y r
  | _ => False
/-- index and array -/
def zk_pia (st : List Value) (k : Int32 → Value → List Value → Prop) : Prop := match st with
  | .int i :: a :: r => k i a r
  | _ => False
def zk_piia (st : List Value) (k : Int32 → Int32 → Value → List Value → Prop) : Prop := match st with
  | .int x :: .int i :: a :: r => k x i a r
  | _ => False
def zk_plia (st : List Value) (k : Int64 → Int32 → Value → List Value → Prop) : Prop := match st with
  | .long x :: .int i :: a :: r => k x i a r
  | _ => False
def zk_pv (st : List Value) (k : Value → List Value → Prop) : Prop := match st with
  | v :: r => k v r
  | _ => False
/-- an int under a reference to an object (putfield) -/
def zk_piv (st : List Value) (k : Int32 → Value → List Value → Prop) : Prop := match st with
  | .int x :: v :: r => k x v r
  | _ => False
/-- a value that is a reference or null -/
def zk_pr (st : List Value) (k : Value → List Value → Prop) : Prop := match st with
  | .ref a :: r => k (.ref a) r
  | .retAddr a :: r => k (.retAddr a) r
  | .null :: r => k .null r
  | _ => False
def zk_lr (o : Option Value) (k : Value → Prop) : Prop := match o with
  | some (.ref a) => k (.ref a)
  | some (.retAddr a) => k (.retAddr a)
  | some .null => k .null
  | _ => False
def zk_li (o : Option Value) (k : Int32 → Prop) : Prop := match o with
  | some (.int x) => k x
  | _ => False
def zk_ll (o : Option Value) (k : Int64 → Prop) : Prop := match o with
  | some (.long x) => k x
  | _ => False
/-- a jump -/
def zk_j (pc : Nat) (o : Int) (f : Nat → Prop) : Prop := match (pc : Int) + o with
  | .ofNat t => f t
  | .negSucc _ => False
/-- an object of class c; an array of a kind. A cell's place that is not a written number is told as .retAddr -/
def zk_iso (w : zk_Wd) (v : Value) (c : Nat) (k : Nat → Prop) : Prop := match v with
  | .ref a => match w.1[a]? with
    | some s => bif Nat.beq s.1 (c + 4) && Nat.beq s.2 (zk_N c) then k a else False
    | none => False
  | .retAddr a => w.1[a]? = some (c + 4, zk_N c) ∧ k a
  | _ => False
def zk_isa (w : zk_Wd) (v : Value) (kd : Nat) (k : Nat → Nat → Prop) : Prop := match v with
  | .ref a => match w.1[a]? with
    | some s => bif Nat.beq s.1 kd then k a s.2 else False
    | none => False
  | .retAddr a => ∃ n, w.1[a]? = some (kd, n) ∧ k a n
  | _ => False
/-- constant arrays: of the places 1000 .. -/
def zk_rom : List (FieldType × List Int32) := [(.int, [0, 0, 0, 0, 0, 0, 0, -1, -1, 0, 0, 0, 0]), (.int, [99, 99, 3, 9, 255, 255, 99, 3, 7, 1, 12, 99, 99]), (.int, [-1, 0, 0, 2, 1, 3, 0, 4]), (.int, [1, 10, 11, 2, 20, 0, 0, 0, 0, 30, 0, 0, 0, 41, 40, 0, 0, 0, 50, 0, 0, 0, 0, 60, 70, 0, 0, 0, 0, 80, 0, 81]), (.byte, [108, 104, 115, 107, 109, 99])]
def zk_sta : List (String × String × String × Value) := [(RX4, "LEAST", "[I", .ref 1000), (RX4, "MOST", "[I", .ref 1001), (RX0, "ABOVE", "[I", .ref 1002), (RX0, "OWN", "[I", .ref 1003), ("java/lang/String", "COMPACT_STRINGS", "Z", .int 1)]
def zk_sw (x : Int32) (jump : Int → Prop) (D : Prop) : Int → List Int → Prop
  | _, [] => D
  | v, o :: os => (x = Int32.ofInt v → jump o) ∧ (¬ x = Int32.ofInt v → zk_sw x jump D (v + 1) os)
def zk_lsw (x : Int32) (jump : Int → Prop) (D : Prop) : List (Int × Int) → Prop
  | [] => D
  | q :: qs => (x = Int32.ofInt q.1 → jump q.2) ∧ (¬ x = Int32.ofInt q.1 → zk_lsw x jump D qs)
/-- what an entry of a class' pool is: kind, two numbers, an int -/
abbrev zk_Ln : Type := Nat × Nat × Nat × Int
/-- a method's number leads to: its words, how many arguments it takes (receiver apart), its receiver's class (200: it has none; 100: the constant text) -/
abbrev zk_Mt : Type := Nat → zk_M × Nat × Nat
def zk_cats (r : List Value) : Nat := (r.map fun v => v.category).sum
def zk_cont (k : zk_K) (pc : Nat) (L : zk_L) (r : List Value) : zk_Q := (fun x h => k (pc + 3) L (.int x :: r) h, fun x h => k (pc + 3) L (.long x :: r) h, fun _ h => k (pc + 3) L r h, fun v h => k (pc + 3) L (v :: r) h)
def zk_recv (w : zk_Wd) (rc : Nat) (as : List Value) (f : Prop) : Prop := match as with
  | v :: _ => bif Nat.blt rc 100 then zk_iso w v rc (fun _ => f) else (match v with
    | .ref a => bif Nat.beq a 2000 then f else False
    | _ => False)
  | [] => False
def zk_callS (mt : zk_Mt) (cx : Nat → zk_P) (k : zk_K) (a pc : Nat) (L : zk_L) (st : List Value) (h : zk_H) : Prop :=
  bif Nat.ble (mt a).2.1 st.length && Nat.ble (zk_cats (st.drop (mt a).2.1)) 8 && Nat.beq (mt a).2.2 200 then cx a (st.take (mt a).2.1).reverse h (zk_cont k pc L (st.drop (mt a).2.1)) else False
def zk_callV (w : zk_Wd) (mt : zk_Mt) (cx : Nat → zk_P) (k : zk_K) (a pc : Nat) (L : zk_L) (st : List Value) (h : zk_H) : Prop :=
  bif Nat.ble ((mt a).2.1 + 1) st.length && Nat.ble (zk_cats (st.drop ((mt a).2.1 + 1))) 8 && Nat.ble (mt a).2.2 100 then zk_recv w (mt a).2.2 (st.take ((mt a).2.1 + 1)).reverse (cx a (st.take ((mt a).2.1 + 1)).reverse h (zk_cont k pc L (st.drop ((mt a).2.1 + 1)))) else False
def zk_len (ins : Instr) (l : Nat) : Nat := match ins with
  | .tableswitch .. => l
  | .lookupswitch .. => l
  | .aload _ | .iload _ | .lload _ | .astore _ | .istore _ | .lstore _ | .bipush _ | .ldc _ => 2
  | .sipush _ | .iinc .. | .ifCond .. | .if_icmp .. | .ifnull _ | .ifnonnull _ | .goto _ | .getfield _ | .putfield _ | .getstatic _ | .invokevirtual _ | .invokestatic _ | .ldc_w _ | .ldc2_w _ => 3
  | _ => 1
/-- a step. md: 1 where a place that is read is not a written number; a switch's length -/
def zk_S (w : zk_Wd) (lk : Nat → zk_Ln) (mt : zk_Mt) (cx : Nat → zk_P) (rt : Option FieldType) (Q : zk_Q) (k : zk_K) (ins : Instr) (md pc : Nat) (L : zk_L) (st : List Value) (h : zk_H) : Prop :=
  match ins with
  | .aload_n i => zk_lr (zk_gl L i) fun v => k (pc + 1) L (v :: st) h
  | .aload i => zk_lr (zk_gl L i) fun v => k (pc + 2) L (v :: st) h
  | .iload_n i => zk_li (zk_gl L i) fun x => k (pc + 1) L (.int x :: st) h
  | .iload i => zk_li (zk_gl L i) fun x => k (pc + 2) L (.int x :: st) h
  | .lload_n i => zk_ll (zk_gl L i) fun x => k (pc + 1) L (.long x :: st) h
  | .lload i => zk_ll (zk_gl L i) fun x => k (pc + 2) L (.long x :: st) h
  | .istore_n i => zk_p1i st fun x r => zk_on (zk_st1 L i (.int x)) fun L' => k (pc + 1) L' r h
  | .istore i => zk_p1i st fun x r => zk_on (zk_st1 L i (.int x)) fun L' => k (pc + 2) L' r h
  | .astore_n i => zk_pr st fun v r => zk_on (zk_st1 L i v) fun L' => k (pc + 1) L' r h
  | .astore i => zk_pr st fun v r => zk_on (zk_st1 L i v) fun L' => k (pc + 2) L' r h
  | .lstore_n i => zk_p1l st fun x r => zk_on (zk_st2 L i (.long x)) fun L' => k (pc + 1) L' r h
  | .lstore i => zk_p1l st fun x r => zk_on (zk_st2 L i (.long x)) fun L' => k (pc + 2) L' r h
  | .iinc i n => zk_li (zk_gl L i) fun x => zk_on (zk_st1 L i (.int (x + Int32.ofInt n))) fun L' => k (pc + 3) L' st h
  | .iconst n => k (pc + 1) L (.int (Int32.ofInt n) :: st) h
  | .bipush n => k (pc + 2) L (.int (Int8.ofInt n).toInt32 :: st) h
  | .sipush n => k (pc + 3) L (.int (Int16.ofInt n).toInt32 :: st) h
  | .lconst n => k (pc + 1) L (.long (Int64.ofNat n) :: st) h
  | .aconst_null => k (pc + 1) L (.null :: st) h
  | .ldc i => match lk i with
    | (7, _, _, z) => k (pc + 2) L (.int (Int32.ofInt z) :: st) h
    | (9, _, _, _) => k (pc + 2) L (.ref 2000 :: st) h
    | _ => False
  | .ldc_w i => match lk i with
    | (7, _, _, z) => k (pc + 3) L (.int (Int32.ofInt z) :: st) h
    | _ => False
  | .ldc2_w i => match lk i with
    | (8, _, _, z) => k (pc + 3) L (.long (Int64.ofInt z) :: st) h
    | _ => False
  | .iadd => zk_p2i st fun x y r => k (pc + 1) L (.int (x + y) :: r) h
  | .isub => zk_p2i st fun x y r => k (pc + 1) L (.int (x - y) :: r) h
  | .imul => zk_p2i st fun x y r => k (pc + 1) L (.int (x * y) :: r) h
  | .iand => zk_p2i st fun x y r => k (pc + 1) L (.int (x &&& y) :: r) h
  | .ior => zk_p2i st fun x y r => k (pc + 1) L (.int (x ||| y) :: r) h
  | .ixor => zk_p2i st fun x y r => k (pc + 1) L (.int (x ^^^ y) :: r) h
  | .ishl => zk_p2i st fun x y r => k (pc + 1) L (.int (x <<< (y &&& 31)) :: r) h
  | .ishr => zk_p2i st fun x y r => k (pc + 1) L (.int (x >>> (y &&& 31)) :: r) h
  | .iushr => zk_p2i st fun x y r => k (pc + 1) L (.int (x.toUInt32 >>> (y.toUInt32 &&& Int32.toUInt32 31)).toInt32 :: r) h
  | .ineg => zk_p1i st fun x r => k (pc + 1) L (.int (-x) :: r) h
  | .idiv => zk_p2i st fun x y r => ¬ y = 0 ∧ k (pc + 1) L (.int (x / y) :: r) h
  | .irem => zk_p2i st fun x y r => ¬ y = 0 ∧ k (pc + 1) L (.int (x - x / y * y) :: r) h
  | .ladd => zk_p2l st fun x y r => k (pc + 1) L (.long (x + y) :: r) h
  | .lmul => zk_p2l st fun x y r => k (pc + 1) L (.long (x * y) :: r) h
  | .land => zk_p2l st fun x y r => k (pc + 1) L (.long (x &&& y) :: r) h
  | .lor => zk_p2l st fun x y r => k (pc + 1) L (.long (x ||| y) :: r) h
  | .lshl => zk_pli st fun x y r => k (pc + 1) L (.long (x <<< (y.toInt64 &&& 63)) :: r) h
  | .lcmp => zk_p2l st fun x y r => k (pc + 1) L (.int (lg_cmp x y) :: r) h
  | .i2l => zk_p1i st fun x r => k (pc + 1) L (.long x.toInt64 :: r) h
  | .l2i => zk_p1l st fun x r => k (pc + 1) L (.int x.toInt32 :: r) h
  | .i2b => zk_p1i st fun x r => k (pc + 1) L (.int x.toInt8.toInt32 :: r) h
  | .i2s => zk_p1i st fun x r => k (pc + 1) L (.int x.toInt16.toInt32 :: r) h
  | .i2c => zk_p1i st fun x r => k (pc + 1) L (.int (x.toUInt32 % 65536).toInt32 :: r) h
  | .dup => zk_pv st fun v r => bif Nat.beq v.category 1 then k (pc + 1) L (v :: v :: r) h else False
  | .pop => zk_pv st fun v r => bif Nat.beq v.category 1 then k (pc + 1) L r h else False
  | .dup_x1 => zk_pv st fun v r => zk_pv r fun u r => bif Nat.beq v.category 1 && Nat.beq u.category 1 then k (pc + 1) L (v :: u :: v :: r) h else False
  | .dup2 => zk_pv st fun v r => zk_pv r fun u r => bif Nat.beq v.category 1 && Nat.beq u.category 1 then k (pc + 1) L (v :: u :: v :: u :: r) h else False
  | .goto o => zk_j pc o fun t => k t L st h
  | .ifCond c o => zk_p1i st fun x r => zk_j pc o fun t => match c with
    | .eq => (x = 0 → k t L r h) ∧ (¬ x = 0 → k (pc + 3) L r h)
    | .ne => (¬ x = 0 → k t L r h) ∧ (x = 0 → k (pc + 3) L r h)
    | .lt => (x < 0 → k t L r h) ∧ (¬ x < 0 → k (pc + 3) L r h)
    | .ge => (0 ≤ x → k t L r h) ∧ (¬ 0 ≤ x → k (pc + 3) L r h)
    | .gt => (0 < x → k t L r h) ∧ (¬ 0 < x → k (pc + 3) L r h)
    | .le => (x ≤ 0 → k t L r h) ∧ (¬ x ≤ 0 → k (pc + 3) L r h)
  | .if_icmp c o => zk_p2i st fun x y r => zk_j pc o fun t => match c with
    | .eq => (x = y → k t L r h) ∧ (¬ x = y → k (pc + 3) L r h)
    | .ne => (¬ x = y → k t L r h) ∧ (x = y → k (pc + 3) L r h)
    | .lt => (x < y → k t L r h) ∧ (¬ x < y → k (pc + 3) L r h)
    | .ge => (y ≤ x → k t L r h) ∧ (¬ y ≤ x → k (pc + 3) L r h)
    | .gt => (y < x → k t L r h) ∧ (¬ y < x → k (pc + 3) L r h)
    | .le => (x ≤ y → k t L r h) ∧ (¬ x ≤ y → k (pc + 3) L r h)
  | .ifnull o => zk_j pc o fun t => match st with
    | .null :: r => k t L r h
    | .ref _ :: r => k (pc + 3) L r h
    | .retAddr _ :: r => k (pc + 3) L r h
    | _ => False
  | .ifnonnull o => zk_j pc o fun t => match st with
    | .null :: r => k (pc + 3) L r h
    | .ref _ :: r => k t L r h
    | .retAddr _ :: r => k t L r h
    | _ => False
  | .tableswitch d lo hi os => zk_p1i st fun x r => bif decide (-2147483648 ≤ lo) && decide (lo + os.toList.length ≤ 2147483647) && decide (hi + 1 = lo + os.toList.length) then zk_sw x (fun o => zk_j pc o fun t => k t L r h) (zk_j pc d fun t => k t L r h) lo os.toList else False
  | .lookupswitch d ps => zk_p1i st fun x r => bif (ps.toList.zip (ps.toList.drop 1)).all (fun (a, next) => a.1 < next.1) && ps.toList.all (fun q => decide (-2147483648 ≤ q.1) && decide (q.1 ≤ 2147483647)) then zk_lsw x (fun o => zk_j pc o fun t => k t L r h) (zk_j pc d fun t => k t L r h) ps.toList else False
  | .getfield i => zk_pv st fun v r => match lk i with
    | (0, c, j, _) => zk_iso w v c fun a => k (pc + 3) L (.int (h.1 a j) :: r) h
    | (12, c, j, _) => zk_iso w v c fun a => k (pc + 3) L (.int (h.1 a j) :: r) h
    | (1, c, j, _) => zk_iso w v c fun a => match md with
      | 0 => k (pc + 3) L (va_rf (w.2 a j) :: r) h
      | _ => ∃ b, w.2 a j = some b ∧ k (pc + 3) L (.retAddr b :: r) h
    | (10, _, _, _) => match v with
      | .ref a => bif Nat.beq a 2000 then k (pc + 3) L (.ref 1004 :: r) h else False
      | _ => False
    | (11, _, _, _) => match v with
      | .ref a => bif Nat.beq a 2000 then k (pc + 3) L (.int 0 :: r) h else False
      | _ => False
    | _ => False
  | .putfield i => zk_piv st fun x v r => match lk i with
    | (0, c, j, _) => zk_iso w v c fun a => k (pc + 3) L r (zk_si h a j x)
    | (12, c, j, _) => zk_iso w v c fun a => (x = 0 ∨ x = 1) ∧ k (pc + 3) L r (zk_si h a j x)
    | _ => False
  | .getstatic i => match lk i with
    | (2, a, _, _) => zk_on zk_sta[a]? fun q => k (pc + 3) L (q.2.2.2 :: st) h
    | _ => False
  | .iaload => zk_pia st fun i v r => match v with
    | .ref a => bif Nat.blt a 1000 then zk_isa w (.ref a) 0 (fun a n => vp_in i n ∧ k (pc + 1) L (.int (h.1 a i.toNatClampNeg) :: r) h) else zk_on zk_rom[a - 1000]? fun q => bif decide (q.1 = .int) then vp_in i q.2.length ∧ k (pc + 1) L (.int (q.2.getD i.toNatClampNeg 0) :: r) h else False
    | v => zk_isa w v 0 fun a n => vp_in i n ∧ k (pc + 1) L (.int (h.1 a i.toNatClampNeg) :: r) h
  | .baload => zk_pia st fun i v r => match v with
    | .ref a => bif Nat.beq a 1004 then vp_in i 6 ∧ k (pc + 1) L (.int (([108, 104, 115, 107, 109, 99] : List Int32).getD i.toNatClampNeg 0) :: r) h else False
    | _ => False
  | .laload => zk_pia st fun i v r => zk_isa w v 1 fun a n => vp_in i n ∧ k (pc + 1) L (.long (h.2 a i.toNatClampNeg) :: r) h
  | .aaload => zk_pia st fun i v r => match md with
    | 0 => zk_isa w v 3 fun a n => vp_in i n ∧ k (pc + 1) L (va_rf (w.2 a i.toNatClampNeg) :: r) h
    | 1 => zk_isa w v 3 fun a n => vp_in i n ∧ ∃ b, w.2 a i.toNatClampNeg = some b ∧ k (pc + 1) L (.retAddr b :: r) h
    | _ => zk_isa w v 2 fun a n => vp_in i n ∧ ∃ b, w.2 a i.toNatClampNeg = some b ∧ k (pc + 1) L (.retAddr b :: r) h
  | .iastore => zk_piia st fun x i v r => zk_isa w v 0 fun a n => vp_in i n ∧ k (pc + 1) L r (zk_si h a i.toNatClampNeg x)
  | .lastore => zk_plia st fun x i v r => zk_isa w v 1 fun a n => vp_in i n ∧ k (pc + 1) L r (zk_sl h a i.toNatClampNeg x)
  | .arraylength => zk_pv st fun v r => match v with
    | .ref a => match w.1[a]? with
      | some s => bif Nat.blt s.1 2 then k (pc + 1) L (.int (Int32.ofNat s.2) :: r) h else False
      | none => bif Nat.beq a 1004 then k (pc + 1) L (.int 6 :: r) h else False
    | .retAddr a => ∃ kd n, kd < 2 ∧ w.1[a]? = some (kd, n) ∧ k (pc + 1) L (.int (Int32.ofNat n) :: r) h
    | _ => False
  | .invokestatic i => match lk i with
    | (3, a, _, _) => zk_callS mt cx k a pc L st h
    | (4, _, _, _) => zk_p2i st fun x y r => bif Nat.ble (zk_cats r) 8 then k (pc + 3) L (.int (if x < y then y else x) :: r) h else False
    | (5, _, _, _) => zk_p2i st fun x y r => bif Nat.ble (zk_cats r) 8 then k (pc + 3) L (.int (if y < x then y else x) :: r) h else False
    | (6, _, _, _) => match st with
      | [.int n, .int dp, v, .int sp, u] => match md with
        | 0 => zk_isa w u 0 fun a0 n0 => zk_isa w v 0 fun a n1 => (¬ sp < 0 ∧ ¬ dp < 0 ∧ ¬ n < 0 ∧ sp.toNatClampNeg + n.toNatClampNeg ≤ n0 ∧ dp.toNatClampNeg + n.toNatClampNeg ≤ n1) ∧ k (pc + 3) L [] (zk_wi h a (va_cpy (h.1 a0) (h.1 a) sp.toNatClampNeg dp.toNatClampNeg n.toNatClampNeg))
        | _ => zk_isa w u 1 fun a0 n0 => zk_isa w v 1 fun a n1 => (¬ sp < 0 ∧ ¬ dp < 0 ∧ ¬ n < 0 ∧ sp.toNatClampNeg + n.toNatClampNeg ≤ n0 ∧ dp.toNatClampNeg + n.toNatClampNeg ≤ n1) ∧ k (pc + 3) L [] (zk_wl h a (va_cpy (h.2 a0) (h.2 a) sp.toNatClampNeg dp.toNatClampNeg n.toNatClampNeg))
      | _ => False
    | _ => False
  | .invokevirtual i => match lk i with
    | (3, a, _, _) => zk_callV w mt cx k a pc L st h
    | _ => False
  | .ireturn => match st with
    | [.int v] => match rt with
      | some .int => Q.1 v h
      | some .boolean => (v = 0 ∨ v = 1) ∧ Q.1 v h
      | some .byte => v.toInt8.toInt32 = v ∧ Q.1 v h
      | _ => False
    | _ => False
  | .lreturn => match st with
    | [.long v] => match rt with
      | some .long => Q.2.1 v h
      | _ => False
    | _ => False
  | .return_ => match st with
    | [] => match rt with
      | none => Q.2.2.1 () h
      | _ => False
    | _ => False
  | .areturn => match st with
    | [v] => match rt with
      | some (.object _) => zk_pr [v] fun v _ => Q.2.2.2 v h
      | _ => False
    | _ => False
  | _ => False
/-- a step at a place of a method's code -/
def zk_Sp (w : zk_Wd) (lk : Nat → zk_Ln) (mt : zk_Mt) (cx : Nat → zk_P) (rt : Option FieldType) (cd : Nat → Option (Instr × Nat)) (Q : zk_Q) (k : zk_K) : zk_K := fun pc L st h => match cd pc with
  | some q => zk_S w lk mt cx rt Q k q.1 q.2 pc L st h
  | none => False
/-- from here the method comes to an end where Q holds: the least such -/
def zk_X (w : zk_Wd) (lk : Nat → zk_Ln) (mt : zk_Mt) (cx : Nat → zk_P) (rt : Option FieldType) (cd : Nat → Option (Instr × Nat)) (Q : zk_Q) : zk_K := fun pc L st h => ∀ Z : zk_K, (∀ pc L st h, zk_Sp w lk mt cx rt cd Q Z pc L st h → Z pc L st h) → Z pc L st h
/-- some steps, up to a place of stops -/
def zk_R (w : zk_Wd) (lk : Nat → zk_Ln) (mt : zk_Mt) (cx : Nat → zk_P) (rt : Option FieldType) (cd : Nat → Option (Instr × Nat)) (Q : zk_Q) (stops : List Nat) (k : zk_K) : Nat → zk_K
  | 0 => fun _ _ _ _ => False
  | n + 1 => zk_Sp w lk mt cx rt cd Q (fun pc L st h => bif stops.any (Nat.beq pc) then k pc L st h else zk_R w lk mt cx rt cd Q stops k n pc L st h)
end
section
/-! WHAT THE SMALL MACHINE SAYS HOLDS OF THE MACHINE -/
def zk_cv (E : zk_E) (v : Value) : Value := match v with
  | .ref a => .ref (E.2.2 a)
  | .retAddr a => .ref (E.2.2 a)
  | v => v
def zk_isr : FieldType → Bool
  | .object _ => true
  | .array _ => true
  | _ => false
def zk_fv (E : zk_E) (w : zk_Wd) (h : zk_H) (k : Nat) (ty : Nat → FieldType) (j : Nat) : Value := if zk_isr (ty j) = true then va_rf ((w.2 k j).map E.2.2) else .int (h.1 k j)
def zk_cell (E : zk_E) (w : zk_Wd) (h : zk_H) (k : Nat) (s : Nat × Nat) : va_E := match s.1 with
  | 0 => .inl (E.2.1 0, s.2, .inl (h.1 k))
  | 1 => .inl (E.2.1 1, s.2, .inr (.inl (h.2 k)))
  | 2 => .inl (E.2.1 2, s.2, .inr (.inr (.inr (.inr (fun j => (w.2 k j).map E.2.2)))))
  | 3 => .inl (E.2.1 3, s.2, .inr (.inr (.inr (.inr (fun j => (w.2 k j).map E.2.2)))))
  | c + 4 => .inr (c, (List.range s.2).map (zk_fv E w h k (zk_ty c)))
def zk_w (E : zk_E) (w : zk_Wd) (h : zk_H) : va_W := (List.range w.1.length).map (fun k => (E.2.2 k, zk_cell E w h k (w.1.getD k (0, 0))))
def zk_tys (E : zk_E) : List (ClassId × FieldType) := [(E.2.1 0, .int), (E.2.1 1, .long), (E.2.1 2, .object RX8), (E.2.1 3, .array .int)]
def zk_A (E : zk_E) (n sz : Nat) : Nat → Prop := fun q => (∃ k, k < n ∧ q = E.2.2 k) ∨ sz ≤ q
def zk_Bg (E : zk_E) (A : Nat → Prop) (U : State) : Prop :=
  (∀ t q, zk_rom[t]? = some q → va_T q.1 (E.2.2 (1000 + t)) q.2.length (fun j => .int (q.2.getD j 0)) A U U.heap) ∧ (∀ q ∈ zk_sta, va_Z q.1 q.2.1 q.2.2.1 (zk_cv E q.2.2.2) A U U.heap) ∧
  va_O "java/lang/String" (E.2.2 2000) A U U.heap ∧ va_OF "java/lang/String" "coder" "B" (.int 0) (E.2.2 2000) A U U.heap ∧ va_OF "java/lang/String" "value" "[B" (.ref (E.2.2 1004)) (E.2.2 2000) A U U.heap ∧ vk_R RX5 77 "lhskmc" (E.2.2 2000) U ∧ vk_R RX10 11 "lhskmc" (E.2.2 2000) U
theorem zk_Bg.moved {E : zk_E} {A B : Nat → Prop} {s U : State} (h : zk_Bg E A s) (hW : s.WarmedH U.vm) (hq : ∀ a : Nat, a < s.heap.size → ¬ A a → U.heap[a]? = s.heap[a]?) (hAB : ∀ q, B q → A q) : zk_Bg E B U := by
  obtain ⟨h1, h2, h3, h4, h5, h6, h7⟩ := h
  exact ⟨fun t q hq' => ((va_T.moved hW.alike (h1 t q hq')).kept hq).narrow hAB, fun q hq' => ((va_Z.moved hW.alike (h2 q hq')).kept hq).narrow hAB, ((va_O.moved hW.alike h3).kept hq).narrow hAB, ((va_OF.moved hW.alike h4).kept hq).narrow hAB, ((va_OF.moved hW.alike h5).kept hq).narrow hAB, h6.warm hW, h7.warm hW⟩
theorem zk_w_get {E : zk_E} {w : zk_Wd} {h : zk_H} {k : Nat} {s : Nat × Nat} (hs : w.1[k]? = some s) : (zk_w E w h)[k]? = some (E.2.2 k, zk_cell E w h k s) := by
  have hk : k < w.1.length := (List.getElem?_eq_some_iff.mp hs).1
  simp [zk_w, List.getElem?_map, List.getElem?_range hk, hs]
theorem zk_w_set {E : zk_E} {w : zk_Wd} {h h' : zk_H} {k : Nat} {s : Nat × Nat} (hs : w.1[k]? = some s) (ho : ∀ a, a ≠ k → h'.1 a = h.1 a ∧ h'.2 a = h.2 a) : (zk_w E w h).set k (E.2.2 k, zk_cell E w h' k s) = zk_w E w h' := by
  have hk : k < w.1.length := (List.getElem?_eq_some_iff.mp hs).1
  apply List.ext_getElem?
  intro i
  rw [List.getElem?_set]
  by_cases hi : k = i
  · subst hi
    rw [if_pos rfl, if_pos (by simp [zk_w, hk]), zk_w_get hs]
  · rw [if_neg hi]
    by_cases hl : i < w.1.length
    · obtain ⟨t, ht⟩ : ∃ t, w.1[i]? = some t := ⟨_, List.getElem?_eq_getElem hl⟩
      rw [zk_w_get ht, zk_w_get ht]
      obtain ⟨e1, e2⟩ := ho i (fun e => hi e.symm)
      have : zk_cell E w h i t = zk_cell E w h' i t := by
        unfold zk_cell zk_fv
        rw [e1, e2]
      rw [this]
    · simp [zk_w, hl]
theorem zk_A_D {E : zk_E} {w : zk_Wd} {h : zk_H} {n sz : Nat} {B : Nat → Prop} (hn : w.1.length = n) (hD : va_D B (zk_w E w h)) : va_D (zk_A E n sz) (zk_w E w h) := by
  refine ⟨hD.1, fun k q hq => Or.inl ?_⟩
  have hk : k < (zk_w E w h).length := (List.getElem?_eq_some_iff.mp hq).1
  have hk2 : k < w.1.length := by simpa [zk_w] using hk
  obtain ⟨t, ht⟩ : ∃ t, w.1[k]? = some t := ⟨_, List.getElem?_eq_getElem hk2⟩
  rw [zk_w_get ht] at hq
  cases hq
  exact ⟨k, by omega, rfl⟩
theorem zk_D_h {E : zk_E} {w : zk_Wd} {h h' : zk_H} {A : Nat → Prop} (hD : va_D A (zk_w E w h)) : va_D A (zk_w E w h') := by
  have key : ∀ (k : Nat) (q : Nat × va_E), (zk_w E w h')[k]? = some q → ∃ q', (zk_w E w h)[k]? = some q' ∧ q'.1 = q.1 := by
    intro k q hq
    have hk : k < (zk_w E w h').length := (List.getElem?_eq_some_iff.mp hq).1
    have hk2 : k < w.1.length := by simpa [zk_w] using hk
    obtain ⟨t, ht⟩ : ∃ t, w.1[k]? = some t := ⟨_, List.getElem?_eq_getElem hk2⟩
    rw [zk_w_get ht] at hq
    cases hq
    exact ⟨_, zk_w_get ht, rfl⟩
  refine ⟨fun i j p q hi hj e => ?_, fun k q hk => ?_⟩
  · obtain ⟨p', h1, e1⟩ := key i p hi
    obtain ⟨q', h2, e2⟩ := key j q hj
    exact hD.1 i j p' q' h1 h2 (by rw [e1, e2, e])
  · obtain ⟨q', h1, e1⟩ := key k q hk
    rw [← e1]
    exact hD.2 k q' h1
-- what a step asks for, told
theorem zk_on_s {α : Type} {o : Option α} {f : α → Prop} (h : zk_on o f) : ∃ a, o = some a ∧ f a := by
  cases o with
  | none => exact h.elim
  | some a => exact ⟨a, rfl, h⟩
theorem zk_p1i_s {st : List Value} {k : Int32 → List Value → Prop} (h : zk_p1i st k) : ∃ x r, st = .int x :: r ∧ k x r := by
  unfold zk_p1i at h
  split at h
  · exact ⟨_, _, rfl, h⟩
  · exact h.elim
theorem zk_p2i_s {st : List Value} {k : Int32 → Int32 → List Value → Prop} (h : zk_p2i st k) : ∃ x y r, st = .int y :: .int x :: r ∧ k x y r := by
  unfold zk_p2i at h
  split at h
  · exact ⟨_, _, _, rfl, h⟩
  · exact h.elim
theorem zk_p1l_s {st : List Value} {k : Int64 → List Value → Prop} (h : zk_p1l st k) : ∃ x r, st = .long x :: r ∧ k x r := by
  unfold zk_p1l at h
  split at h
  · exact ⟨_, _, rfl, h⟩
  · exact h.elim
theorem zk_p2l_s {st : List Value} {k : Int64 → Int64 → List Value → Prop} (h : zk_p2l st k) : ∃ x y r, st = .long y :: .long x :: r ∧ k x y r := by
  unfold zk_p2l at h
  split at h
  · exact ⟨_, _, _, rfl, h⟩
  · exact h.elim
theorem zk_pli_s {st : List Value} {k : Int64 → Int32 → List Value → Prop} (h : zk_pli st k) : ∃ x y r, st = .int y :: .long x :: r ∧ k x y r := by
  unfold zk_pli at h
  split at h
  · exact ⟨_, _, _, rfl, h⟩
  · exact h.elim
theorem zk_pia_s {st : List Value} {k : Int32 → Value → List Value → Prop} (h : zk_pia st k) : ∃ i a r, st = .int i :: a :: r ∧ k i a r := by
  unfold zk_pia at h
  split at h
  · exact ⟨_, _, _, rfl, h⟩
  · exact h.elim
theorem zk_piia_s {st : List Value} {k : Int32 → Int32 → Value → List Value → Prop} (h : zk_piia st k) : ∃ x i a r, st = .int x :: .int i :: a :: r ∧ k x i a r := by
  unfold zk_piia at h
  split at h
  · exact ⟨_, _, _, _, rfl, h⟩
  · exact h.elim
theorem zk_plia_s {st : List Value} {k : Int64 → Int32 → Value → List Value → Prop} (h : zk_plia st k) : ∃ x i a r, st = .long x :: .int i :: a :: r ∧ k x i a r := by
  unfold zk_plia at h
  split at h
  · exact ⟨_, _, _, _, rfl, h⟩
  · exact h.elim
theorem zk_pv_s {st : List Value} {k : Value → List Value → Prop} (h : zk_pv st k) : ∃ v r, st = v :: r ∧ k v r := by
  unfold zk_pv at h
  split at h
  · exact ⟨_, _, rfl, h⟩
  · exact h.elim
theorem zk_piv_s {st : List Value} {k : Int32 → Value → List Value → Prop} (h : zk_piv st k) : ∃ x v r, st = .int x :: v :: r ∧ k x v r := by
  unfold zk_piv at h
  split at h
  · exact ⟨_, _, _, rfl, h⟩
  · exact h.elim
theorem zk_pr_s {E : zk_E} {st : List Value} {k : Value → List Value → Prop} (h : zk_pr st k) : ∃ v r, st = v :: r ∧ k v r ∧ (zk_cv E v = .null ∨ ∃ a, zk_cv E v = .ref a) ∧ v.category = 1 := by
  unfold zk_pr at h
  split at h
  · exact ⟨_, _, rfl, h, Or.inr ⟨_, rfl⟩, rfl⟩
  · exact ⟨_, _, rfl, h, Or.inr ⟨_, rfl⟩, rfl⟩
  · exact ⟨_, _, rfl, h, Or.inl rfl, rfl⟩
  · exact h.elim
theorem zk_lr_s {E : zk_E} {o : Option Value} {k : Value → Prop} (h : zk_lr o k) : ∃ v, o = some v ∧ k v ∧ (zk_cv E v = .null ∨ ∃ a, zk_cv E v = .ref a) := by
  unfold zk_lr at h
  split at h
  · exact ⟨_, rfl, h, Or.inr ⟨_, rfl⟩⟩
  · exact ⟨_, rfl, h, Or.inr ⟨_, rfl⟩⟩
  · exact ⟨_, rfl, h, Or.inl rfl⟩
  · exact h.elim
theorem zk_li_s {o : Option Value} {k : Int32 → Prop} (h : zk_li o k) : ∃ x, o = some (.int x) ∧ k x := by
  unfold zk_li at h
  split at h
  · exact ⟨_, rfl, h⟩
  · exact h.elim
theorem zk_ll_s {o : Option Value} {k : Int64 → Prop} (h : zk_ll o k) : ∃ x, o = some (.long x) ∧ k x := by
  unfold zk_ll at h
  split at h
  · exact ⟨_, rfl, h⟩
  · exact h.elim
theorem zk_j_s {pc : Nat} {o : Int} {f : Nat → Prop} (h : zk_j pc o f) : ∃ t : Nat, (pc : Int) + o = (t : Int) ∧ f t := by
  unfold zk_j at h
  split at h
  next t e => exact ⟨t, e, h⟩
  · exact h.elim
theorem zk_bif {b : Bool} {P : Prop} (h : bif b then P else False) : b = true ∧ P := by
  cases b with
  | true => exact ⟨rfl, h⟩
  | false => exact h.elim
theorem zk_iso_s {E : zk_E} {w : zk_Wd} {v : Value} {c : Nat} {k : Nat → Prop} (h : zk_iso w v c k) : ∃ a, zk_cv E v = .ref (E.2.2 a) ∧ w.1[a]? = some (c + 4, zk_N c) ∧ k a := by
  unfold zk_iso at h
  split at h
  next a =>
    split at h
    next s hs =>
      obtain ⟨h1, h2⟩ := zk_bif h
      simp only [Bool.and_eq_true, Nat.beq_eq] at h1
      exact ⟨a, rfl, by rw [hs]; exact congrArg some (Prod.ext h1.1 h1.2), h2⟩
    · exact h.elim
  next a => exact ⟨a, rfl, h⟩
  · exact h.elim
theorem zk_isa_s {E : zk_E} {w : zk_Wd} {v : Value} {kd : Nat} {k : Nat → Nat → Prop} (h : zk_isa w v kd k) : ∃ a n, zk_cv E v = .ref (E.2.2 a) ∧ w.1[a]? = some (kd, n) ∧ k a n := by
  unfold zk_isa at h
  split at h
  next a =>
    split at h
    next s hs =>
      obtain ⟨h1, h2⟩ := zk_bif h
      simp only [Nat.beq_eq] at h1
      exact ⟨a, s.2, rfl, by rw [hs]; exact congrArg some (Prod.ext h1 rfl), h2⟩
    · exact h.elim
  next a =>
    obtain ⟨n, h1, h2⟩ := h
    exact ⟨a, n, rfl, h1, h2⟩
  · exact h.elim
theorem zk_cv_rf (E : zk_E) (o : Option Nat) : zk_cv E (va_rf o) = va_rf (o.map E.2.2) := by cases o <;> rfl
theorem zk_cv_cat (E : zk_E) (v : Value) : (zk_cv E v).category = v.category := by cases v <;> rfl
theorem zk_cats_cv (E : zk_E) (r : List Value) : ((r.map (zk_cv E)).map fun v => v.category).sum = zk_cats r := by
  unfold zk_cats
  rw [List.map_map]
  congr 1
  exact List.map_congr_left fun v _ => zk_cv_cat E v
-- locals
def zk_loc (E : zk_E) (L : zk_L) : List (Nat × Value) := (List.range L.length).filterMap (fun i => (zk_gl L i).map fun v => (i, zk_cv E v))
theorem zk_loc_mem {E : zk_E} {L : zk_L} {i : Nat} {u : Value} : (i, u) ∈ zk_loc E L ↔ ∃ v, zk_gl L i = some v ∧ u = zk_cv E v := by
  unfold zk_loc
  rw [List.mem_filterMap]
  constructor
  · rintro ⟨j, -, h⟩
    cases hg : zk_gl L j with
    | none => rw [hg] at h; cases h
    | some v => rw [hg] at h; cases h; exact ⟨v, hg, rfl⟩
  · rintro ⟨v, h, rfl⟩
    refine ⟨i, ?_, by rw [h]; rfl⟩
    rw [List.mem_range]
    unfold zk_gl at h
    split at h
    next o ho => exact (List.getElem?_eq_some_iff.mp ho).1
    · cases h
theorem zk_has_sub {ls : Array Slot} {nL : Nat} {l l' : List (Nat × Value)} (h : lv_has ls nL l) (hs : ∀ q ∈ l', q ∈ l) : lv_has ls nL l' := ⟨h.1, h.2.1, fun q hq => h.2.2 q (hs q hq)⟩
theorem zk_loc_get {E : zk_E} {ls : Array Slot} {nL : Nat} {L : zk_L} (h : lv_has ls nL (zk_loc E L)) {i : Nat} {v : Value} (hg : zk_gl L i = some v) : ls[i]? = some (.val (zk_cv E v)) := h.2.2 (i, zk_cv E v) (zk_loc_mem.mpr ⟨v, hg, rfl⟩)
theorem zk_gl_set {L : zk_L} {i j : Nat} {o : Option Value} {v : Value} (h : zk_gl (L.set i o) j = some v) : (j = i ∧ o = some v) ∨ (j ≠ i ∧ zk_gl L j = some v) := by
  unfold zk_gl at h
  rw [List.getElem?_set] at h
  by_cases e : i = j
  · subst e
    rw [if_pos rfl] at h
    split at h
    next o' ho =>
      split at ho
      · cases ho; exact Or.inl ⟨rfl, h⟩
      · cases ho
    · cases h
  · rw [if_neg e] at h
    exact Or.inr ⟨fun q => e q.symm, h⟩
theorem zk_notwide {L : zk_L} {i j : Nat} {v : Value} (hw : zk_wide L i = false) (hg : zk_gl L j = some v) (hj : j + 1 = i) : v.category ≠ 2 := by
  subst hj
  unfold zk_wide at hw
  dsimp only at hw
  rw [hg] at hw
  cases v <;> simp_all [Value.category]
theorem zk_st1_s {E : zk_E} {L L' : zk_L} {i : Nat} {v : Value} (h : zk_st1 L i v = some L') : i < L.length ∧ L'.length = L.length ∧ ∀ q ∈ zk_loc E L', q ∈ (i, zk_cv E v) :: (zk_loc E L).filter (fun q => !(q.1 == i) && !(q.1 + 1 == i && q.2.category == 2)) := by
  unfold zk_st1 at h
  cases hb : Nat.blt i L.length && !(zk_wide L i) with
  | false => rw [hb] at h; cases h
  | true =>
    rw [hb] at h
    cases h
    simp only [Bool.and_eq_true, Nat.blt_eq, Bool.not_eq_true'] at hb
    refine ⟨hb.1, by simp, fun q hq => ?_⟩
    obtain ⟨j, u⟩ := q
    obtain ⟨x, hx, rfl⟩ := zk_loc_mem.mp hq
    rcases zk_gl_set hx with ⟨rfl, e⟩ | ⟨hne, hx⟩
    · cases e; exact List.mem_cons_self
    · refine List.mem_cons_of_mem _ (List.mem_filter.mpr ⟨zk_loc_mem.mpr ⟨x, hx, rfl⟩, ?_⟩)
      have h2 : j + 1 = i → x.category ≠ 2 := zk_notwide hb.2 hx
      simp only [Bool.and_eq_true, Bool.not_eq_true', beq_eq_false_iff_ne, Bool.and_eq_false_iff, zk_cv_cat]
      exact ⟨hne, by by_cases e : j + 1 = i; exact Or.inr (h2 e); exact Or.inl e⟩
theorem zk_st2_s {E : zk_E} {L L' : zk_L} {i : Nat} {v : Value} (h : zk_st2 L i v = some L') : i + 1 < L.length ∧ L'.length = L.length ∧ ∀ q ∈ zk_loc E L', q ∈ (i, zk_cv E v) :: (zk_loc E L).filter (fun q => !(q.1 == i) && (!(q.1 == i + 1) && !(q.1 + 1 == i && q.2.category == 2))) := by
  unfold zk_st2 at h
  cases hb : Nat.blt (i + 1) L.length && !(zk_wide L i) with
  | false => rw [hb] at h; cases h
  | true =>
    rw [hb] at h
    cases h
    simp only [Bool.and_eq_true, Nat.blt_eq, Bool.not_eq_true'] at hb
    refine ⟨hb.1, by simp, fun q hq => ?_⟩
    obtain ⟨j, u⟩ := q
    obtain ⟨x, hx, rfl⟩ := zk_loc_mem.mp hq
    rcases zk_gl_set hx with ⟨-, e⟩ | ⟨hne1, hx⟩
    · cases e
    rcases zk_gl_set hx with ⟨rfl, e⟩ | ⟨hne, hx⟩
    · cases e; exact List.mem_cons_self
    · refine List.mem_cons_of_mem _ (List.mem_filter.mpr ⟨zk_loc_mem.mpr ⟨x, hx, rfl⟩, ?_⟩)
      have h2 : j + 1 = i → x.category ≠ 2 := zk_notwide hb.2 hx
      simp only [Bool.and_eq_true, Bool.not_eq_true', beq_eq_false_iff_ne, Bool.and_eq_false_iff, zk_cv_cat]
      exact ⟨hne, hne1, by by_cases e : j + 1 = i; exact Or.inr (h2 e); exact Or.inl e⟩
/-- the locals with which a method begins -/
def zk_L0 : List Value → Nat → zk_L
  | [], n => List.replicate n none
  | v :: vs, n => match v with
    | .long x => some (.long x) :: none :: zk_L0 vs (n - 2)
    | v => some v :: zk_L0 vs (n - 1)
def zk_wds : List Value → Nat
  | [] => 0
  | v :: vs => match v with
    | .long _ => 2 + zk_wds vs
    | _ => 1 + zk_wds vs
def zk_nod (v : Value) : Bool := match v with
  | .double _ => false
  | _ => true
theorem zk_L0_len : ∀ (vs : List Value) (n : Nat), zk_wds vs ≤ n → (zk_L0 vs n).length = n
  | [], n, _ => by simp [zk_L0]
  | v :: vs, n, h => by
    cases v <;> simp only [zk_wds] at h <;> simp only [zk_L0, List.length_cons] <;> (rw [zk_L0_len vs _ (by omega)]; omega)
theorem zk_L0_in {E : zk_E} : ∀ (vs : List Value) (n b : Nat), (∀ v ∈ vs, zk_nod v = true) → ∀ i v, zk_gl (zk_L0 vs n) i = some v → (b + i, zk_cv E v) ∈ lv_args b (vs.map (zk_cv E))
  | [], n, b, _, i, v, h => by
    unfold zk_gl zk_L0 at h
    rw [List.getElem?_replicate] at h
    split at h
    next o ho =>
      split at ho
      · cases ho; cases h
      · cases ho
    · cases h
  | u :: vs, n, b, hn, i, v, h => by
    have hn' : ∀ v ∈ vs, zk_nod v = true := fun v hv => hn v (List.mem_cons_of_mem _ hv)
    have hu := hn u List.mem_cons_self
    cases u with
    | double => simp [zk_nod] at hu
    | long x =>
      simp only [zk_L0] at h
      match i, h with
      | 0, h => cases (show some (Value.long x) = some v from h); exact List.mem_cons_self
      | 1, h => cases (show (none : Option Value) = some v from h)
      | i + 2, h =>
        have := zk_L0_in (E := E) vs (n - 2) (b + 2) hn' i v h
        refine List.mem_cons_of_mem _ ?_
        rw [show b + (i + 2) = b + 2 + i by omega]
        exact this
    | _ =>
      simp only [zk_L0] at h
      match i, h with
      | 0, h => cases (show some _ = some v from h); exact List.mem_cons_self
      | i + 1, h =>
        have := zk_L0_in (E := E) vs (n - 1) (b + 1) hn' i v h
        refine List.mem_cons_of_mem _ ?_
        rw [show b + (i + 1) = b + 1 + i by omega]
        exact this
theorem zk_wds_sl {E : zk_E} : ∀ (vs : List Value), (∀ v ∈ vs, zk_nod v = true) → (lg_sl (vs.map (zk_cv E))).length = zk_wds vs
  | [], _ => rfl
  | u :: vs, hn => by
    have ih := zk_wds_sl (E := E) vs fun v hv => hn v (List.mem_cons_of_mem _ hv)
    have hu := hn u List.mem_cons_self
    simp only [lg_sl, List.map_cons, List.flatMap_cons, List.length_append] at ih ⊢
    rw [ih]
    cases u <;> simp_all [zk_wds, zk_nod, zk_cv, Value.category]
end
section
/-! what the tables say of a method's number, of a pool's entry -/
def zk_ws (j : zk_M) : List Cond := .code j.1 j.2.1 j.2.2.1 j.2.2.2 :: zk_uw
def zk_rm (d : Nat) : Room := { frames := d, cells := 0, slots := 0, locals := 40 * d }
def zk_clOk : Prop := ∀ c q, zk_cl[c]? = some q → (∀ w ∈ u_ws q.1 q.2.1 q.2.2, w ∈ zk_uw) ∧ (∀ k, k < q.2.2 → parseFieldDescriptor (q.2.1 k).2.2.1 = some (zk_ty c k)) ∧ (∀ a, a < q.2.2 → ∀ b, b < q.2.2 → a ≠ b → (q.2.1 a).2.1 ≠ (q.2.1 b).2.1) ∧ q.2.2 = zk_N c
def zk_mtOk (q : zk_M × Nat × Nat) : Prop := Cond.code q.1.1 q.1.2.1 q.1.2.2.1 q.1.2.2.2 ∈ zk_uw ∧ Cond.initialized q.1.1.cls ∈ zk_uw ∧ (plainName q.1.1.cls = true ∧ q.1.1.cls ≠ "java/lang/invoke/MethodHandle" ∧ q.1.1.cls ≠ "java/lang/invoke/VarHandle" ∧ (parseMethodDescriptor q.1.1.desc).map (fun d => d.parameters.length) = some q.2.1 ∧ q.1.2.2.1 ≤ 20) ∧ ((q.2.2 = 200 ∧ Cond.static q.1.1 ∈ zk_uw) ∨ (q.2.2 = 100 ∧ (Cond.instanceMethod q.1.1 ∈ zk_uw ∧ Cond.selects q.1.1.cls q.1.1 q.1.1 ∈ zk_uw) ∧ q.1.1.cls = "java/lang/String") ∨ (q.2.2 < 100 ∧ (Cond.instanceMethod q.1.1 ∈ zk_uw ∧ Cond.selects q.1.1.cls q.1.1 q.1.1 ∈ zk_uw) ∧ ∃ r, zk_cl[q.2.2]? = some r ∧ r.1 = q.1.1.cls))
def zk_fo (own : String) (i c j : Nat) (P : u_T → Prop) : Prop := match zk_cl[c]? with
  | some q => j < zk_N c ∧ Cond.fieldLink own i (q.2.1 j).1 (q.2.1 j).2.1 (q.2.1 j).2.2.1 ∈ zk_uw ∧ P q.2.1
  | none => False
def zk_lk1 (own : String) (mt : zk_Mt) (i : Nat) (e : zk_Ln) : Prop := match e with
  | (0, c, j, _) => zk_fo own i c j (fun T => zk_ty c j = .int ∧ (T j).2.2.2 = false)
  | (12, c, j, _) => zk_fo own i c j (fun T => zk_ty c j = .boolean ∧ (T j).2.2.2 = false)
  | (1, c, j, _) => zk_fo own i c j (fun _ => zk_isr (zk_ty c j) = true)
  | (2, a, _, _) => match zk_sta[a]? with
    | some q => Cond.fieldLink own i q.1 q.2.1 q.2.2.1 ∈ zk_uw
    | none => True
  | (3, a, _, _) => Cond.methodLink own i (mt a).1.1 ∈ zk_uw
  | (4, _, _, _) => Cond.methodLink own i Lib.Math.max.name ∈ zk_uw
  | (5, _, _, _) => Cond.methodLink own i Lib.Math.min.name ∈ zk_uw
  | (6, _, _, _) => Cond.methodLink own i arraycopyName ∈ zk_uw
  | (7, _, _, z) => Cond.constant own i (Int32.ofInt z) ∈ zk_uw
  | (8, _, _, z) => Cond.constantLong own i (Int64.ofInt z) ∈ zk_uw
  | (9, _, _, _) => (own = RX5 ∧ i = 77) ∨ (own = RX10 ∧ i = 11)
  | (10, _, _, _) => Cond.fieldLink own i "java/lang/String" "value" "[B" ∈ zk_uw
  | (11, _, _, _) => Cond.fieldLink own i "java/lang/String" "coder" "B" ∈ zk_uw
  | _ => True
def zk_jdk : Prop := (Cond.static Lib.Math.max.name ∈ zk_uw ∧ Cond.code Lib.Math.max.name Lib.Math.max.code 2 (some .int) ∈ zk_uw ∧ Cond.static Lib.Math.min.name ∈ zk_uw ∧ Cond.code Lib.Math.min.name Lib.Math.min.code 2 (some .int) ∈ zk_uw ∧ Cond.initialized "java/lang/Math" ∈ zk_uw) ∧ (Cond.native arraycopyName ∈ zk_uw ∧ Cond.static arraycopyName ∈ zk_uw ∧ Cond.initialized "java/lang/System" ∈ zk_uw)
theorem zk_goodw {w : Cond} (h : w ∈ zk_uw) : (w.onTables && w.keeps) = true ∨ ∃ ty, w = .arrayClass ty := good_of_word (List.mem_filter.mp h).2
theorem zk_goodIn {j0 : zk_M} {ws : List Cond} (h : ∀ w ∈ ws, w ∈ zk_uw) : GoodIn (zk_ws j0) ws := fun w hw => ⟨List.mem_cons_of_mem _ (h w hw), zk_goodw (h w hw)⟩
theorem zk_ws_uw {j : zk_M} (h : Cond.code j.1 j.2.1 j.2.2.1 j.2.2.2 ∈ zk_uw) : ∀ w ∈ zk_ws j, w ∈ zk_uw := fun w hw => (List.mem_cons.mp hw).elim (fun e => e ▸ h) id
/-- a method's start -/
def zk_B (w : zk_Wd) (E : zk_E) (h : zk_H) (sz : Nat) (U : State) : Prop := U.heap.size = sz ∧ va_P E.1 zk_cl (zk_w E w h) U.heap ∧ va_K E.1 zk_cl (zk_tys E) U ∧ va_D (fun _ => True) (zk_w E w h) ∧ zk_Bg E (zk_A E w.1.length sz) U
def zk_Qr (Q : zk_Q) (r : Option Value) (h : zk_H) : Prop := match r with
  | none => Q.2.2.1 () h
  | some (.int v) => Q.1 v h
  | some (.long v) => Q.2.1 v h
  | some v => Q.2.2.2 v h
/-- a method's end -/
def zk_QX (w : zk_Wd) (E : zk_E) (Q : zk_Q) (A : Nat → Prop) : Array Value → State → Outcome → State → Prop := fun _ st oc t => (∃ r h, oc = .returned (r.map (zk_cv E)) ∧ zk_Qr Q r h ∧ va_P E.1 zk_cl (zk_w E w h) t.heap ∧ va_D A (zk_w E w h)) ∧ va_F A st t
/-- A CONTRACT: where P says that a call with these arguments, over these cells, ends in Q, it does, with room for d calls below -/
def zk_CT (w : zk_Wd) (d0 : Nat) (j : zk_M) (P : zk_P) : Prop := ∀ d, d0 ≤ d → ∀ (l : Launch) (E : zk_E) (sz : Nat) (as : List Value) (h : zk_H) (Q : zk_Q), P as h Q → Met l j.1 (zk_ws j) (zk_rm d) (va_Pc (as.map (zk_cv E)) (zk_B w E h sz)) (zk_QX w E Q (zk_A E w.1.length sz)) 0 0 (zk_A E w.1.length sz)
theorem zk_CT.mono {w : zk_Wd} {d0 d1 : Nat} {j : zk_M} {P : zk_P} (h : zk_CT w d0 j P) (hd : d0 ≤ d1) : zk_CT w d1 j P := fun d h1 => h d (Nat.le_trans hd h1)
theorem zk_CT.none {w : zk_Wd} {d0 : Nat} {j : zk_M} : zk_CT w d0 j (fun _ _ _ => False) := fun _ _ _ _ _ _ _ _ h => h.elim
theorem zk_CT.of {w : zk_Wd} {d0 : Nat} {j : zk_M} {P P' : zk_P} (h : zk_CT w d0 j P) (hP : ∀ as x Q, P' as x Q → P as x Q) : zk_CT w d0 j P' := fun d hd l E sz as x Q q => h d hd l E sz as x Q (hP as x Q q)
theorem zk_blind {w : zk_Wd} {E : zk_E} {h : zk_H} {sz : Nat} {av : List Value} : FrameBlind (va_Pc av (zk_B w E h sz)) := by
  intro a U g mk q
  obtain ⟨q0, q1, qP, qK, qD, b1, b2, b3, b4, b5, b6, b7⟩ := q
  exact ⟨q0, q1, qP, va_K.moved (u := U) (U := U.calling g mk a) (Vm.Alike.refl U.vm) qK, qD, fun t q hq => va_T.moved (u := U) (U := U.calling g mk a) (Vm.Alike.refl U.vm) (b1 t q hq), fun q hq => va_Z.moved (u := U) (U := U.calling g mk a) (Vm.Alike.refl U.vm) (b2 q hq), va_O.moved (u := U) (U := U.calling g mk a) (Vm.Alike.refl U.vm) b3, va_OF.moved (u := U) (U := U.calling g mk a) (Vm.Alike.refl U.vm) b4, va_OF.moved (u := U) (U := U.calling g mk a) (Vm.Alike.refl U.vm) b5, vk_R.same (u := U) (U := U.calling g mk a) rfl b6, vk_R.same (u := U) (U := U.calling g mk a) rfl b7⟩
section ZKA
variable {p : Program} {l : Launch} {e : Env} {R : Room} {s : State} {m : MethodId} {args : Array Value} {below : List Frame} {meth : Method} {c : Code} {H : Heap} {locs : List Loc} {cells slots : Nat} {Q' : State → Prop}
variable {pc : Nat} {ls : Array Slot} {rest st0 : List Value} {a : Array Value} {A0 A1 : Nat → Prop} {H0 : Heap} {mc ms : Nat} {free : Addr → Prop} {w : zk_Wd} {E : zk_E} {Q : zk_Q}
/-- behind a call -/
theorem zk_back (hr : va_Run p l e R s m args below meth c H locs cells slots mc ms (F0 m pc ls st0) rest (zk_QX w E Q A1 a) free) (hS : va_S A0 H0 H locs) (hA : ∀ q, A1 q → A0 q) (hf : ∀ q, free q → A0 q)
    (kk : ∀ (r : Option Value) (h : zk_H) (H1 : Heap) (locs1 : List Loc), zk_Qr Q r h → va_P E.1 zk_cl (zk_w E w h) H1 → va_D A0 (zk_w E w h) → va_S A0 H0 H1 locs1 → W p l e R s m args below meth c H1 locs1 (cells + mc) (slots + ms) Q' (F0 m (pc + 3) ls ((r.map (zk_cv E)).toList ++ rest))) : W p l e R s m args below meth c H locs cells slots Q' (F0 m pc ls st0) := by
  intro T hT X
  obtain ⟨v, st₀, t, T', L, h0, X', hL, e1, e2, ⟨⟨r, h, hv, hp, hP, hD⟩, hz, hk⟩, st⟩ := hr T hT X
  cases hv
  rw [h0] at hz hk
  obtain ⟨t2, a1, b1⟩ := kk r h T'.heap (locs ++ L) hp (by rw [e1]; exact hP) (hD.weaken fun _ _ _ hx => hA _ hx)
    ⟨Nat.le_trans hS.1 (by rw [e1]; exact hz), fun q h1 h2 => by rw [e1, hk q (Nat.lt_of_lt_of_le h1 hS.1) (fun z => h2 (hA q z))]; exact hS.2.1 q h1 h2, fun q hq => by
      rcases List.mem_append.mp hq with h | h
      · exact hS.2.2 q h
      · exact hf _ (hL q h)⟩ T' rfl X'
  exact ⟨t2, st t2 a1, b1⟩
theorem zk_aald {cc : ByteArray} {D : va_G} {cl : List vw_C} {tys : List (ClassId × FieldType)} {ws : va_W} {ad : Nat} (hexec : p.tables.exec = Jvm.exec) (hb : c.code = cc) (hK : va_K D cl tys s) (hP : va_P D cl ws H) (q0 t0 : Nat) {cA : ClassId} {ty : FieldType} {n : Nat} {f : Nat → Option Nat} (ha : ws[q0]? = some (ad, .inl (cA, n, .inr (.inr (.inr (.inr f)))))) (ht : tys[t0]? = some (cA, ty)) (hty : ty.isReference = true) {i : Int32} (hin : vp_in i n) (hdg : decode cc pc = .ok (.aaload, 1))
    (kk : W p l e R s m args below meth c H locs cells slots Q' (F0 m (pc + 1) ls (va_rf (f i.toNatClampNeg) :: rest))) : W p l e R s m args below meth c H locs cells slots Q' (F0 m pc ls (.int i :: .ref ad :: rest)) := by
  have hlt : i.toNatClampNeg < n := Nat.not_le.mp fun q => hin (Or.inr q)
  exact W.aald (v := va_rf (f i.toNatClampNeg)) (ty := ty) hexec hb (hP q0 _ ha) ((hK.2 t0 _ ht).1 n (fun j => va_rf (f j))) hty (fun q => by cases q) (by show ¬ (i < 0 ∨ (arrV _ _ _).slots.size ≤ _); rw [arrV_size]; exact hin) (by show (arrV _ _ _).slots[_]? = _; rw [arrV_read _ _ hlt]) rfl rfl hdg kk
end ZKA
/-- what stays, through a method -/
def zk_Fx (p : Program) (s : State) (m : MethodId) (args : Array Value) (meth : Method) (c : Code) (own : String) (j0 : zk_M) (A : Nat → Prop) (E : zk_E) : Prop := p.tables.exec = Jvm.exec ∧ c.code = j0.2.1 ∧ c.maxLocals = j0.2.2.1 ∧ meth.sig.returnType = j0.2.2.2 ∧ meth.locks = false ∧ s.vm.findClass own = some m.cls ∧ (∀ w ∈ zk_ws j0, w.before args s = true) ∧ (∀ q, s.heap.size ≤ q → A q) ∧ va_K E.1 zk_cl (zk_tys E) s ∧ zk_Bg E A s
def zk_Z (p : Program) (l : Launch) (e : Env) (d : Nat) (s : State) (m : MethodId) (args : Array Value) (below : List Frame) (meth : Method) (c : Code) (w : zk_Wd) (E : zk_E) (nL : Nat) (Q : zk_Q) : zk_K := fun pc L st h => ∀ (H : Heap) (locs : List Loc) (ls : Array Slot), va_P E.1 zk_cl (zk_w E w h) H → va_D (zk_A E w.1.length s.heap.size) (zk_w E w h) → va_S (zk_A E w.1.length s.heap.size) s.heap H locs → lv_has ls nL (zk_loc E L) → L.length = nL → W p l e (zk_rm (d + 1)) s m args below meth c H locs 0 0 (MQ below (zk_QX w E Q (zk_A E w.1.length s.heap.size)) args s 0 0 (zk_A E w.1.length s.heap.size)) (F0 m pc ls (st.map (zk_cv E)))
end
section
/-! CALLS of the small machine are calls of the machine -/
theorem zk_gapp {big a b : List Cond} (ha : GoodIn big a) (hb : GoodIn big b) : GoodIn big (a ++ b) := fun w h => (List.mem_append.mp h).elim (ha w) (hb w)
theorem zk_A_sub {E : zk_E} {n : Nat} {A : Nat → Prop} {H0 H : Heap} {locs : List Loc} (hS : va_S A H0 H locs) : ∀ q, zk_A E n H.size q → zk_A E n H0.size q := fun q h => h.elim Or.inl (fun h => Or.inr (Nat.le_trans hS.1 h))
section ZKC
variable {p : Program} {l : Launch} {e : Env} {s : State} {m : MethodId} {args : Array Value} {below : List Frame} {meth : Method} {c : Code} {H : Heap} {locs : List Loc} {Q' : State → Prop}
variable {pc : Nat} {ls : Array Slot} {own : String} {j0 : zk_M} {w : zk_Wd} {E : zk_E} {d d0 nL : Nat} {Q : zk_Q} {mt : zk_Mt} {cx : Nat → zk_P} {L : zk_L} {st : List Value} {h : zk_H} {a i : Nat}
theorem zk_pre (Fx : zk_Fx p s m args meth c own j0 (zk_A E w.1.length s.heap.size) E) (hP : va_P E.1 zk_cl (zk_w E w h) H) (hD : va_D (zk_A E w.1.length s.heap.size) (zk_w E w h)) (hS : va_S (zk_A E w.1.length s.heap.size) s.heap H locs) (U : State) (hU : U.heap = H) (hW : s.WarmedH U.vm) : zk_B w E h H.size U := by
  obtain ⟨hx, hb, hml, hr, hlk, hown, hts, hA, hK, hBg⟩ := Fx
  exact ⟨by rw [hU], by rw [hU]; exact hP, va_K.moved hW.alike hK, hD.weaken (fun _ _ _ _ => trivial), hBg.moved hW (fun q h1 h2 => by rw [hU]; exact hS.2.1 q h1 h2) (zk_A_sub hS)⟩
theorem zk_next {r : Option Value} {st' : List Value} (hQ : zk_Qr (zk_cont (zk_Z p l e d s m args below meth c w E nL Q) pc L st') r h) (hP : va_P E.1 zk_cl (zk_w E w h) H) (hD : va_D (zk_A E w.1.length s.heap.size) (zk_w E w h)) (hS : va_S (zk_A E w.1.length s.heap.size) s.heap H locs) (hl : lv_has ls nL (zk_loc E L)) (hL : L.length = nL) :
    W p l e (zk_rm (d + 1)) s m args below meth c H locs 0 0 (MQ below (zk_QX w E Q (zk_A E w.1.length s.heap.size)) args s 0 0 (zk_A E w.1.length s.heap.size)) (F0 m (pc + 3) ls ((r.map (zk_cv E)).toList ++ st'.map (zk_cv E))) := by
  cases r with
  | none => exact hQ H locs ls hP hD hS hl hL
  | some v => cases v <;> exact hQ H locs ls hP hD hS hl hL
theorem zk_goS (Fx : zk_Fx p s m args meth c own j0 (zk_A E w.1.length s.heap.size) E) (hn0 : j0.2.2.1 = nL) (hm : zk_mtOk (mt a)) (hlk : Cond.methodLink own i (mt a).1.1 ∈ zk_uw) (hc : zk_CT w d0 (mt a).1 (cx a)) (hd : d0 ≤ d) (hdg : decode j0.2.1 pc = .ok (.invokestatic i, 3))
    (hyp : zk_callS mt cx (zk_Z p l e d s m args below meth c w E nL Q) a pc L st h) : zk_Z p l e d s m args below meth c w E nL Q pc L st h := by
  intro H locs ls hP hD hS hl hL
  obtain ⟨hb1, hyp⟩ := zk_bif hyp
  simp only [Bool.and_eq_true, Nat.ble_eq, Nat.beq_eq] at hb1
  obtain ⟨⟨hlen, hcat⟩, hrc⟩ := hb1
  obtain ⟨m1, m2, ⟨m3, m4, m5, m6, m7⟩, m8⟩ := hm
  have m8 : Cond.static (mt a).1.1 ∈ zk_uw := by
    rcases m8 with h | h | h
    · exact h.2
    · omega
    · omega
  obtain ⟨hx, hb, hml, hr, hlocks, hown, hts, hA, hK, hBg⟩ := id Fx
  refine zk_back (rest := (st.drop (mt a).2.1).map (zk_cv E)) (va_runS (As := ((st.take (mt a).2.1).reverse).map (zk_cv E)) (ws := zk_ws (mt a).1) (rm := zk_rm d) (maxL := (mt a).1.2.2.1) (bytes := (mt a).1.2.1) (ret := (mt a).1.2.2.2) (n := (mt a).2.1) ⟨hx, hb, hml, hown, hts⟩ (hc d hd l E H.size _ h _ hyp)
    (va_cwS (mt a).2.1 hts (zk_gapp (zk_goodIn (by intro w hw; simp only [List.mem_cons, List.not_mem_nil, or_false] at hw; rcases hw with rfl | rfl | rfl; exact hlk; exact m8; exact m2)) (zk_goodIn (zk_ws_uw m1))) rfl rfl rfl ⟨m4, m5, m6⟩ ⟨Nat.le_refl _, by show 8 + ((mt a).1.2.2.1 + 11) + 40 * d ≤ 40 * (d + 1); omega⟩)
    ⟨zk_blind, fun U hU hW => ⟨rfl, zk_pre Fx hP hD hS U hU hW⟩⟩ rfl (by simp; omega) (hl.1.trans hn0.symm) (by
      show st.map (zk_cv E) = _
      rw [← List.map_reverse, List.reverse_reverse, ← List.map_append, List.take_append_drop]) (lv_room (by rw [zk_cats_cv]; exact hcat)) hdg ⟨Nat.le_refl _, Nat.le_refl _⟩) hS (zk_A_sub hS) (zk_A_sub hS) (fun r h1 H1 locs1 hQ hP1 hD1 hS1 => ?_)
  exact zk_next hQ hP1 hD1 hS1 hl hL
theorem zk_recv_s {rc : Nat} {as : List Value} {f : Prop} {H : Heap} {locs : List Loc} (hyp : zk_recv w rc as f) (hK : va_K E.1 zk_cl (zk_tys E) s) (hBg : zk_Bg E (zk_A E w.1.length s.heap.size) s) (hP : va_P E.1 zk_cl (zk_w E w h) H) (hS : va_S (zk_A E w.1.length s.heap.size) s.heap H locs) {C : String}
    (hC : (rc = 100 ∧ C = "java/lang/String") ∨ (rc < 100 ∧ ∃ r, zk_cl[rc]? = some r ∧ r.1 = C)) : ∃ v vs b, as = v :: vs ∧ zk_cv E v = .ref b ∧ (∃ cell : Cell, H[b]? = some cell ∧ cell.vm.isStatics = false ∧ s.vm.findClass C = some cell.cls) ∧ f := by
  unfold zk_recv at hyp
  split at hyp
  next v vs =>
    rcases hC with ⟨rfl, rfl⟩ | ⟨hrc, r, hq, hC2⟩
    · rw [show Nat.blt 100 100 = false from rfl] at hyp
      simp only [cond_false] at hyp
      split at hyp
      next b =>
        obtain ⟨h1, h2⟩ := zk_bif hyp
        simp only [Nat.beq_eq] at h1
        subst h1
        obtain ⟨cell, g1, g2, g3, -⟩ := hBg.2.2.1.kept hS.2.1
        exact ⟨_, vs, _, rfl, rfl, ⟨cell, g1, g2, g3⟩, h2⟩
      · exact hyp.elim
    · rw [show Nat.blt rc 100 = true from Nat.blt_eq.mpr hrc] at hyp
      have hyp : zk_iso w v rc (fun _ => f) := hyp
      obtain ⟨b, e1, e2, e3⟩ := zk_iso_s (E := E) hyp
      obtain ⟨cell, g1, g2, g3⟩ := va_recv hK hP hq (zk_w_get e2)
      exact ⟨v, vs, _, rfl, e1, ⟨cell, g1, g2, by rw [← hC2]; exact g3⟩, e3⟩
  · exact hyp.elim
theorem zk_goV (Fx : zk_Fx p s m args meth c own j0 (zk_A E w.1.length s.heap.size) E) (hn0 : j0.2.2.1 = nL) (hm : zk_mtOk (mt a)) (hlk : Cond.methodLink own i (mt a).1.1 ∈ zk_uw) (hc : zk_CT w d0 (mt a).1 (cx a)) (hd : d0 ≤ d) (hdg : decode j0.2.1 pc = .ok (.invokevirtual i, 3))
    (hyp : zk_callV w mt cx (zk_Z p l e d s m args below meth c w E nL Q) a pc L st h) : zk_Z p l e d s m args below meth c w E nL Q pc L st h := by
  intro H locs ls hP hD hS hl hL
  obtain ⟨hb1, hyp⟩ := zk_bif hyp
  simp only [Bool.and_eq_true, Nat.ble_eq] at hb1
  obtain ⟨⟨hlen, hcat⟩, hrc⟩ := hb1
  obtain ⟨m1, m2, ⟨m3, m4, m5, m6, m7⟩, m8⟩ := hm
  obtain ⟨hx, hb, hml, hr, hlocks, hown, hts, hA, hK, hBg⟩ := id Fx
  obtain ⟨hC, m9, m10⟩ : (((mt a).2.2 = 100 ∧ (mt a).1.1.cls = "java/lang/String") ∨ ((mt a).2.2 < 100 ∧ ∃ r, zk_cl[(mt a).2.2]? = some r ∧ r.1 = (mt a).1.1.cls)) ∧ Cond.instanceMethod (mt a).1.1 ∈ zk_uw ∧ Cond.selects (mt a).1.1.cls (mt a).1.1 (mt a).1.1 ∈ zk_uw := by
    rcases m8 with h | h | h
    · omega
    · exact ⟨Or.inl ⟨h.1, h.2.2⟩, h.2.1⟩
    · exact ⟨Or.inr ⟨h.1, h.2.2⟩, h.2.1⟩
  obtain ⟨v, vs, b, eas, ev, hcell, hcall⟩ := zk_recv_s hyp hK hBg hP hS hC
  rw [eas] at hcall
  have hM := hc d hd l E H.size _ h _ hcall
  rw [List.map_cons, ev] at hM
  have hvl : vs.length = (mt a).2.1 := by
    have h1 := congrArg List.length eas
    simp only [List.length_reverse, List.length_take, List.length_cons] at h1
    omega
  have est : st = vs.reverse ++ v :: st.drop ((mt a).2.1 + 1) := by
    have h1 : st.take ((mt a).2.1 + 1) = vs.reverse ++ [v] := by rw [← List.reverse_reverse (st.take _), eas, List.reverse_cons]
    have h2 := List.take_append_drop ((mt a).2.1 + 1) st
    rw [h1, List.append_assoc, List.singleton_append] at h2
    exact h2.symm
  refine zk_back (rest := (st.drop ((mt a).2.1 + 1)).map (zk_cv E)) (va_runV (C := (mt a).1.1.cls) (b := b) (As := vs.map (zk_cv E)) (ws := zk_ws (mt a).1) (rm := zk_rm d) (maxL := (mt a).1.2.2.1) (bytes := (mt a).1.2.1) (ret := (mt a).1.2.2.2) (n := (mt a).2.1) ⟨hx, hb, hml, hown, hts⟩ hM
    (cwV (mt a).2.1 hts (zk_gapp (zk_goodIn (by intro w hw; simp only [List.mem_cons, List.not_mem_nil, or_false] at hw; rcases hw with rfl | rfl | rfl | rfl; exact hlk; exact m9; exact m10; exact m2)) (zk_goodIn (zk_ws_uw m1))) rfl rfl rfl ⟨rfl, m4, m5, m6⟩ ⟨Nat.le_refl _, by show 8 + ((mt a).1.2.2.1 + 11) + 40 * d ≤ 40 * (d + 1); omega⟩)
    ⟨zk_blind, hcell, fun U hU hW => ⟨rfl, zk_pre Fx hP hD hS U hU hW⟩⟩ rfl (by rw [List.length_map]; exact hvl) (hl.1.trans hn0.symm) (by
      show st.map (zk_cv E) = _
      rw [← List.map_reverse, ← ev, ← List.map_cons, ← List.map_append, ← est]) (lv_room (by rw [zk_cats_cv]; exact hcat)) hdg ⟨Nat.le_refl _, Nat.le_refl _⟩) hS (zk_A_sub hS) (zk_A_sub hS) (fun r h1 H1 locs1 hQ hP1 hD1 hS1 => ?_)
  exact zk_next hQ hP1 hD1 hS1 hl hL
end ZKC
end
section
/-! EACH STEP of the small machine is a step of the machine -/
theorem zk_fo_s {own : String} {i c j : Nat} {P : u_T → Prop} (h : zk_fo own i c j P) : ∃ q, zk_cl[c]? = some q ∧ j < zk_N c ∧ Cond.fieldLink own i (q.2.1 j).1 (q.2.1 j).2.1 (q.2.1 j).2.2.1 ∈ zk_uw ∧ P q.2.1 := by
  unfold zk_fo at h
  split at h
  next q hq => exact ⟨q, hq, h⟩
  · exact h.elim
section ZKS
variable {p : Program} {l : Launch} {e : Env} {s : State} {m : MethodId} {args : Array Value} {below : List Frame} {meth : Method} {c : Code} {H : Heap} {locs : List Loc} {Q' : State → Prop}
variable {pc : Nat} {ls : Array Slot} {own : String} {j0 : zk_M} {w : zk_Wd} {E : zk_E} {d d0 nL : Nat} {Q : zk_Q} {mt : zk_Mt} {cx : Nat → zk_P} {L : zk_L} {st : List Value} {h : zk_H} {a i j ci n : Nat} {rest : List Value} {q : vw_C} {R : Room} {cells slots : Nat}
theorem zk_obj (hw : w.1[a]? = some (ci + 4, n)) : (zk_w E w h)[a]? = some (E.2.2 a, .inr (ci, (List.range n).map (zk_fv E w h a (zk_ty ci)))) := zk_w_get hw
theorem zk_getf (Fx : zk_Fx p s m args meth c own j0 (zk_A E w.1.length s.heap.size) E) (hcl : zk_clOk) (hq : zk_cl[ci]? = some q) (hj : j < zk_N ci) (hlink : Cond.fieldLink own i (q.2.1 j).1 (q.2.1 j).2.1 (q.2.1 j).2.2.1 ∈ zk_uw) (hP : va_P E.1 zk_cl (zk_w E w h) H) (hw : w.1[a]? = some (ci + 4, zk_N ci)) (hdg : decode j0.2.1 pc = .ok (.getfield i, 3))
    (kk : W p l e R s m args below meth c H locs cells slots Q' (F0 m (pc + 3) ls (zk_fv E w h a (zk_ty ci) j :: rest))) : W p l e R s m args below meth c H locs cells slots Q' (F0 m pc ls (.ref (E.2.2 a) :: rest)) := by
  obtain ⟨hx, hb, hml, hr, hlocks, hown, hts, hA, hK, hBg⟩ := Fx
  obtain ⟨k1, k2, k3, k4⟩ := hcl ci q hq
  exact va_get (D := E.1) (ci := ci) (C := q.1) (T := q.2.1) (N := q.2.2) (Ts := zk_ws j0) hx hb hts (fun w hw => List.mem_cons_of_mem _ (k1 w hw)) hown hK hP a (zk_obj hw) hq j (by rw [k4]; exact hj) (hts _ (List.mem_cons_of_mem _ hlink)) (fun _ h9 => h9) (by simp [List.getElem?_map, List.getElem?_range hj]) hdg kk
theorem zk_putf (Fx : zk_Fx p s m args meth c own j0 (zk_A E w.1.length s.heap.size) E) (hcl : zk_clOk) (hq : zk_cl[ci]? = some q) (hj : j < zk_N ci) (hlink : Cond.fieldLink own i (q.2.1 j).1 (q.2.1 j).2.1 (q.2.1 j).2.2.1 ∈ zk_uw) (hfin : (q.2.1 j).2.2.2 = false) {x : Int32} (hr : zk_isr (zk_ty ci j) = false) (hn : narrow (zk_ty ci j) (.int x) = .int x) (hfit : fits (zk_ty ci j) (.int x) = true)
    (hP : va_P E.1 zk_cl (zk_w E w h) H) (hD : va_D (zk_A E w.1.length s.heap.size) (zk_w E w h)) (hS : va_S (zk_A E w.1.length s.heap.size) s.heap H locs) (hw : w.1[a]? = some (ci + 4, zk_N ci)) (hdg : decode j0.2.1 pc = .ok (.putfield i, 3))
    (kk : ∀ (H1 : Heap) (locs1 : List Loc), va_P E.1 zk_cl (zk_w E w (zk_si h a j x)) H1 → va_D (zk_A E w.1.length s.heap.size) (zk_w E w (zk_si h a j x)) → va_S (zk_A E w.1.length s.heap.size) s.heap H1 locs1 → W p l e R s m args below meth c H1 locs1 cells slots Q' (F0 m (pc + 3) ls rest)) : W p l e R s m args below meth c H locs cells slots Q' (F0 m pc ls (.int x :: .ref (E.2.2 a) :: rest)) := by
  obtain ⟨hx, hb, hml, hrt, hlocks, hown, hts, hA, hK, hBg⟩ := Fx
  obtain ⟨k1, k2, k3, k4⟩ := hcl ci q hq
  refine va_put (D := E.1) (ci := ci) (C := q.1) (T := q.2.1) (N := q.2.2) (Ts := zk_ws j0) (v := .int x) (ty := zk_ty ci j) hx hb hts (fun w hw => List.mem_cons_of_mem _ (k1 w hw)) (zk_ty ci) k2 k3 hown hK hP hD hS a (zk_obj hw) hq j (by rw [k4]; exact hj) (hts _ (List.mem_cons_of_mem _ hlink)) (fun _ h9 => h9) hfin (k2 j (by rw [k4]; exact hj)) hn hfit (by simpa using hj) hdg (fun H1 locs1 hP1 hD1 hS1 => ?_)
  have e1 : (zk_w E w h).set a (E.2.2 a, .inr (ci, ((List.range (zk_N ci)).map (zk_fv E w h a (zk_ty ci))).set j (.int x))) = zk_w E w (zk_si h a j x) := by
    rw [← zk_w_set (h := h) (h' := zk_si h a j x) hw (fun b hb => ⟨funext fun z => by simp [zk_si, hb], rfl⟩)]
    suffices e0 : ((List.range (zk_N ci)).map (zk_fv E w h a (zk_ty ci))).set j (.int x) = (List.range (zk_N ci)).map (zk_fv E w (zk_si h a j x) a (zk_ty ci)) by
      rw [e0]
      rfl
    apply List.ext_getElem?
    intro k
    rw [List.getElem?_set, List.getElem?_map, List.getElem?_map]
    by_cases ek : j = k
    · subst ek
      simp [hj, zk_fv, hr, zk_si]
    · rw [if_neg ek]
      cases hk : (List.range (zk_N ci))[k]? with
      | none => rfl
      | some z =>
        have : z = k := by
          have := (List.getElem?_eq_some_iff.mp hk)
          obtain ⟨h1, h2⟩ := this
          simp at h2
          exact h2.symm
        subst this
        simp only [Option.map_some, zk_fv, zk_si]
        split
        · rfl
        · simp [show ¬ z = j from fun q => ek q.symm]
  rw [e1] at hP1 hD1
  exact kk H1 locs1 hP1 hD1 hS1
theorem zk_arri (hw : w.1[a]? = some (0, n)) : (zk_w E w h)[a]? = some (E.2.2 a, .inl (E.2.1 0, n, .inl (h.1 a))) := zk_w_get hw
theorem zk_arrl (hw : w.1[a]? = some (1, n)) : (zk_w E w h)[a]? = some (E.2.2 a, .inl (E.2.1 1, n, .inr (.inl (h.2 a)))) := zk_w_get hw
theorem zk_seti {f : Nat → Int32} {h' : zk_H} (hw : w.1[a]? = some (0, n)) (h1 : h'.1 a = f) (ho : ∀ b, b ≠ a → h'.1 b = h.1 b ∧ h'.2 b = h.2 b) : (zk_w E w h).set a (E.2.2 a, .inl (E.2.1 0, n, .inl f)) = zk_w E w h' := by
  rw [← zk_w_set hw ho, ← h1]
  rfl
theorem zk_setl {f : Nat → Int64} {h' : zk_H} (hw : w.1[a]? = some (1, n)) (h1 : h'.2 a = f) (ho : ∀ b, b ≠ a → h'.1 b = h.1 b ∧ h'.2 b = h.2 b) : (zk_w E w h).set a (E.2.2 a, .inl (E.2.1 1, n, .inr (.inl f))) = zk_w E w h' := by
  rw [← zk_w_set hw ho, ← h1]
  rfl
theorem zk_inI {v : Int} {x : Int32} (h1 : -2147483648 ≤ v) (h2 : v ≤ 2147483647) : x = Int32.ofInt v ↔ x.toInt = v := by
  constructor
  · rintro rfl
    rw [Int32.toInt_ofInt_of_le (by simpa using h1) (by simp; omega)]
  · intro h
    rw [← Int32.toInt_inj, Int32.toInt_ofInt_of_le (by simpa using h1) (by simp; omega)]
    exact h
theorem zk_sw_s {x : Int32} {jump : Int → Prop} {D : Prop} : ∀ (os : List Int) (lo : Int), -2147483648 ≤ lo → lo + os.length ≤ 2147483647 → zk_sw x jump D lo os → (∃ o, ¬ x.toInt < lo ∧ os[(x.toInt - lo).toNat]? = some o ∧ jump o) ∨ ((x.toInt < lo ∨ lo + os.length ≤ x.toInt) ∧ D)
  | [], lo, h1, h2, h => Or.inr ⟨by simp; omega, h⟩
  | o :: os, lo, h1, h2, h => by
    simp only [List.length_cons, Int.natCast_add, Int.natCast_one] at h2
    by_cases e : x = Int32.ofInt lo
    · refine Or.inl ⟨o, ?_, ?_, h.1 e⟩
      · rw [(zk_inI h1 (by omega)).mp e]; omega
      · rw [(zk_inI h1 (by omega)).mp e]; simp
    · have ne : x.toInt ≠ lo := fun q => e ((zk_inI h1 (by omega)).mpr q)
      rcases zk_sw_s os (lo + 1) (by omega) (by omega) (h.2 e) with ⟨o', g1, g2, g3⟩ | ⟨g1, g2⟩
      · refine Or.inl ⟨o', by omega, ?_, g3⟩
        rw [show (x.toInt - lo).toNat = (x.toInt - (lo + 1)).toNat + 1 by omega]
        exact g2
      · refine Or.inr ⟨?_, g2⟩
        simp only [List.length_cons, Int.natCast_add, Int.natCast_one]
        omega
theorem zk_lsw_s {x : Int32} {jump : Int → Prop} {dflt : Int} : ∀ (ps : List (Int × Int)), (∀ q ∈ ps, -2147483648 ≤ q.1 ∧ q.1 ≤ 2147483647) → zk_lsw x jump (jump dflt) ps → jump (Op.lookupswitch.offset ps dflt x.toInt)
  | [], _, h => h
  | q :: ps, hq, h => by
    obtain ⟨h1, h2⟩ := hq q List.mem_cons_self
    rw [Op.lookupswitch.offset_cons]
    split
    next e => exact h.1 ((zk_inI h1 h2).mpr e.symm)
    next e => exact zk_lsw_s ps (fun q hq' => hq q (List.mem_cons_of_mem _ hq')) (h.2 (fun z => e ((zk_inI h1 h2).mp z).symm))
theorem zk_S_sound {lk : Nat → zk_Ln} {ins : Instr} {md : Nat} (Fx : zk_Fx p s m args meth c own j0 (zk_A E w.1.length s.heap.size) E) (hn0 : j0.2.2.1 = nL) (hcl : zk_clOk) (hjdk : zk_jdk) (hmt : ∀ a, zk_mtOk (mt a) ∨ ∀ as h Q, ¬ cx a as h Q) (hlk : ∀ i, zk_lk1 own mt i (lk i)) (hcx : ∀ a, zk_CT w d0 (mt a).1 (cx a)) (hd : d0 ≤ d)
    (hdg : decode j0.2.1 pc = .ok (ins, zk_len ins md)) (hyp : zk_S w lk mt cx j0.2.2.2 Q (zk_Z p l e d s m args below meth c w E nL Q) ins md pc L st h) : zk_Z p l e d s m args below meth c w E nL Q pc L st h := by
  intro H locs ls hP hD hS hl hL
  obtain ⟨hx, hb, hml, hr, hlocks, hown, hts, hA, hK, hBg⟩ := id Fx
  have hlsz : c.maxLocals = ls.size := by rw [hml, hn0]; exact hl.1.symm
  have hw' : ∀ {w : Cond}, w ∈ zk_uw → w.before args s = true := fun h => hts _ (List.mem_cons_of_mem _ h)
  cases ins
  case aload_n i =>
    simp only [zk_S] at hyp
    obtain ⟨v, hg, hk, ev⟩ := zk_lr_s (E := E) hyp
    have hg := zk_loc_get hl hg
    have hk := hk H locs ls hP hD hS hl hL
    rw [List.map_cons] at hk
    rcases ev with ev | ⟨b, ev⟩ <;> rw [ev] at hg hk
    · exact lv_aload_nN hx hb hdg rfl hg hk
    · exact lv_aload_n hx hb hdg rfl hg hk
  case aload i =>
    simp only [zk_S] at hyp
    obtain ⟨v, hg, hk, ev⟩ := zk_lr_s (E := E) hyp
    have hg := zk_loc_get hl hg
    have hk := hk H locs ls hP hD hS hl hL
    rw [List.map_cons] at hk
    rcases ev with ev | ⟨b, ev⟩ <;> rw [ev] at hg hk
    · exact lv_aloadN hx hb hdg hg hk
    · exact lv_aload hx hb hdg hg hk
  case iload_n i =>
    obtain ⟨x, hg, hk⟩ := zk_li_s hyp
    exact lv_iload_n hx hb hdg rfl (zk_loc_get hl hg) (hk H locs ls hP hD hS hl hL)
  case iload i =>
    obtain ⟨x, hg, hk⟩ := zk_li_s hyp
    exact lv_iload hx hb hdg (zk_loc_get hl hg) (hk H locs ls hP hD hS hl hL)
  case lload_n i =>
    obtain ⟨x, hg, hk⟩ := zk_ll_s hyp
    exact lv_lload_n hx hb hdg rfl (zk_loc_get hl hg) (hk H locs ls hP hD hS hl hL)
  case lload i =>
    obtain ⟨x, hg, hk⟩ := zk_ll_s hyp
    exact lv_lload hx hb hdg (zk_loc_get hl hg) (hk H locs ls hP hD hS hl hL)
  case istore_n i =>
    obtain ⟨x, r, rfl, h2⟩ := zk_p1i_s hyp
    obtain ⟨L', hst, hk⟩ := zk_on_s h2
    obtain ⟨g1, g2, g3⟩ := zk_st1_s (E := E) hst
    exact lv_istore_n hx hb hdg rfl hl (by omega) rfl (fun ls' hl' => hk H locs ls' hP hD hS (zk_has_sub hl' g3) (by omega))
  case istore i =>
    obtain ⟨x, r, rfl, h2⟩ := zk_p1i_s hyp
    obtain ⟨L', hst, hk⟩ := zk_on_s h2
    obtain ⟨g1, g2, g3⟩ := zk_st1_s (E := E) hst
    exact lv_istore hx hb hdg hl (by omega) rfl (fun ls' hl' => hk H locs ls' hP hD hS (zk_has_sub hl' g3) (by omega))
  case astore_n i =>
    simp only [zk_S] at hyp
    obtain ⟨v, r, rfl, h2, ev, -⟩ := zk_pr_s (E := E) hyp
    obtain ⟨L', hst, hk⟩ := zk_on_s h2
    obtain ⟨g1, g2, g3⟩ := zk_st1_s (E := E) hst
    rw [List.map_cons]
    rcases ev with ev | ⟨b, ev⟩ <;> rw [ev] at g3 ⊢
    · exact lv_astore_nN hx hb hdg rfl hl (by omega) rfl (fun ls' hl' => hk H locs ls' hP hD hS (zk_has_sub hl' g3) (by omega))
    · exact lv_astore_n hx hb hdg rfl hl (by omega) rfl (fun ls' hl' => hk H locs ls' hP hD hS (zk_has_sub hl' g3) (by omega))
  case astore i =>
    simp only [zk_S] at hyp
    obtain ⟨v, r, rfl, h2, ev, -⟩ := zk_pr_s (E := E) hyp
    obtain ⟨L', hst, hk⟩ := zk_on_s h2
    obtain ⟨g1, g2, g3⟩ := zk_st1_s (E := E) hst
    rw [List.map_cons]
    rcases ev with ev | ⟨b, ev⟩ <;> rw [ev] at g3 ⊢
    · exact lv_astoreN hx hb hdg hl (by omega) rfl (fun ls' hl' => hk H locs ls' hP hD hS (zk_has_sub hl' g3) (by omega))
    · exact lv_astore hx hb hdg hl (by omega) rfl (fun ls' hl' => hk H locs ls' hP hD hS (zk_has_sub hl' g3) (by omega))
  case lstore_n i =>
    obtain ⟨x, r, rfl, h2⟩ := zk_p1l_s hyp
    obtain ⟨L', hst, hk⟩ := zk_on_s h2
    obtain ⟨g1, g2, g3⟩ := zk_st2_s (E := E) hst
    exact lv_lstore_n hx hb hdg rfl hl (by omega) rfl (fun ls' hl' => hk H locs ls' hP hD hS (zk_has_sub hl' g3) (by omega))
  case lstore i =>
    obtain ⟨x, r, rfl, h2⟩ := zk_p1l_s hyp
    obtain ⟨L', hst, hk⟩ := zk_on_s h2
    obtain ⟨g1, g2, g3⟩ := zk_st2_s (E := E) hst
    exact lv_lstore hx hb hdg hl (by omega) rfl (fun ls' hl' => hk H locs ls' hP hD hS (zk_has_sub hl' g3) (by omega))
  case iinc i n =>
    obtain ⟨x, hg, h2⟩ := zk_li_s hyp
    obtain ⟨L', hst, hk⟩ := zk_on_s h2
    obtain ⟨g1, g2, g3⟩ := zk_st1_s (E := E) hst
    obtain ⟨k0, hk0⟩ := List.getElem?_of_mem (zk_loc_mem.mpr ⟨_, hg, rfl⟩ : (i, zk_cv E (.int x)) ∈ zk_loc E L)
    exact lv_iinc hx hb hdg hl (k := k0) hk0 rfl (by omega) rfl (fun ls' hl' => hk H locs ls' hP hD hS (zk_has_sub hl' g3) (by omega))
  case iconst n => exact lv_iconst hx hb hdg rfl (hyp H locs ls hP hD hS hl hL)
  case bipush n => exact lv_bipush hx hb hdg rfl (hyp H locs ls hP hD hS hl hL)
  case sipush n => exact lv_sipush hx hb hdg rfl (hyp H locs ls hP hD hS hl hL)
  case lconst n => exact lv_lconst hx hb hdg rfl (hyp H locs ls hP hD hS hl hL)
  case aconst_null => exact lv_null hx hb hdg (hyp H locs ls hP hD hS hl hL)
  case ldc i =>
    have hq := hlk i
    simp only [zk_S] at hyp
    split at hyp
    next z e =>
      rw [e] at hq
      exact lv_ldc hx hb hown (hw' hq) hdg (hyp H locs ls hP hD hS hl hL)
    next e =>
      rw [e] at hq
      have hq : (own = RX5 ∧ i = 77) ∨ (own = RX10 ∧ i = 11) := hq
      rcases hq with ⟨rfl, rfl⟩ | ⟨rfl, rfl⟩
      · exact va_ldcS hx hb hown hBg.2.2.2.2.2.1 hdg (hyp H locs ls hP hD hS hl hL)
      · exact va_ldcS hx hb hown hBg.2.2.2.2.2.2 hdg (hyp H locs ls hP hD hS hl hL)
    · exact hyp.elim
  case ldc_w i =>
    have hq := hlk i
    simp only [zk_S] at hyp
    split at hyp
    next z e =>
      rw [e] at hq
      exact lv_ldcw hx hb hown (hw' hq) hdg (hyp H locs ls hP hD hS hl hL)
    · exact hyp.elim
  case ldc2_w i =>
    have hq := hlk i
    simp only [zk_S] at hyp
    split at hyp
    next z e =>
      rw [e] at hq
      exact lv_ldc2 hx hb hown (hw' hq) hdg (hyp H locs ls hP hD hS hl hL)
    · exact hyp.elim
  case iadd => obtain ⟨x, y, r, rfl, hk⟩ := zk_p2i_s hyp; exact lv_iadd hx hb hdg (hk H locs ls hP hD hS hl hL)
  case isub => obtain ⟨x, y, r, rfl, hk⟩ := zk_p2i_s hyp; exact lv_isub hx hb hdg (hk H locs ls hP hD hS hl hL)
  case imul => obtain ⟨x, y, r, rfl, hk⟩ := zk_p2i_s hyp; exact lv_imul hx hb hdg (hk H locs ls hP hD hS hl hL)
  case iand => obtain ⟨x, y, r, rfl, hk⟩ := zk_p2i_s hyp; exact lv_iand hx hb hdg (hk H locs ls hP hD hS hl hL)
  case ior => obtain ⟨x, y, r, rfl, hk⟩ := zk_p2i_s hyp; exact lv_ior hx hb hdg (hk H locs ls hP hD hS hl hL)
  case ixor => obtain ⟨x, y, r, rfl, hk⟩ := zk_p2i_s hyp; exact lv_ixor hx hb hdg (hk H locs ls hP hD hS hl hL)
  case ishl => obtain ⟨x, y, r, rfl, hk⟩ := zk_p2i_s hyp; exact lv_ishl hx hb hdg (hk H locs ls hP hD hS hl hL)
  case ishr => obtain ⟨x, y, r, rfl, hk⟩ := zk_p2i_s hyp; exact lv_ishr hx hb hdg (hk H locs ls hP hD hS hl hL)
  case iushr => obtain ⟨x, y, r, rfl, hk⟩ := zk_p2i_s hyp; exact lv_iushr hx hb hdg rfl (hk H locs ls hP hD hS hl hL)
  case ineg => obtain ⟨x, r, rfl, hk⟩ := zk_p1i_s hyp; exact lv_ineg hx hb hdg (hk H locs ls hP hD hS hl hL)
  case idiv => obtain ⟨x, y, r, rfl, hy, hk⟩ := zk_p2i_s hyp; exact lv_idiv hx hb hdg hy (hk H locs ls hP hD hS hl hL)
  case irem => obtain ⟨x, y, r, rfl, hy, hk⟩ := zk_p2i_s hyp; exact lv_irem hx hb hdg hy (hk H locs ls hP hD hS hl hL)
  case ladd => obtain ⟨x, y, r, rfl, hk⟩ := zk_p2l_s hyp; exact lv_ladd hx hb hdg (hk H locs ls hP hD hS hl hL)
  case lmul => obtain ⟨x, y, r, rfl, hk⟩ := zk_p2l_s hyp; exact lv_lmul hx hb hdg (hk H locs ls hP hD hS hl hL)
  case land => obtain ⟨x, y, r, rfl, hk⟩ := zk_p2l_s hyp; exact lv_land hx hb hdg (hk H locs ls hP hD hS hl hL)
  case lor => obtain ⟨x, y, r, rfl, hk⟩ := zk_p2l_s hyp; exact lv_lor hx hb hdg (hk H locs ls hP hD hS hl hL)
  case lshl => obtain ⟨x, y, r, rfl, hk⟩ := zk_pli_s hyp; exact lv_lshl hx hb hdg rfl (hk H locs ls hP hD hS hl hL)
  case lcmp => obtain ⟨x, y, r, rfl, hk⟩ := zk_p2l_s hyp; exact W.lcmp hx hb hdg (hk H locs ls hP hD hS hl hL)
  case i2l => obtain ⟨x, r, rfl, hk⟩ := zk_p1i_s hyp; exact lv_i2l hx hb hdg rfl (hk H locs ls hP hD hS hl hL)
  case l2i => obtain ⟨x, r, rfl, hk⟩ := zk_p1l_s hyp; exact lv_l2i hx hb hdg rfl (hk H locs ls hP hD hS hl hL)
  case i2b => obtain ⟨x, r, rfl, hk⟩ := zk_p1i_s hyp; exact lv_i2b hx hb hdg rfl (hk H locs ls hP hD hS hl hL)
  case i2s => obtain ⟨x, r, rfl, hk⟩ := zk_p1i_s hyp; exact lv_i2s hx hb hdg rfl (hk H locs ls hP hD hS hl hL)
  case i2c => obtain ⟨x, r, rfl, hk⟩ := zk_p1i_s hyp; exact lv_i2c hx hb hdg rfl (hk H locs ls hP hD hS hl hL)
  case dup =>
    obtain ⟨v, r, rfl, hk⟩ := zk_pv_s hyp
    obtain ⟨hv, hk⟩ := zk_bif hk
    exact lv_dup hx hb hdg (by rw [zk_cv_cat]; exact Nat.eq_of_beq_eq_true hv) (hk H locs ls hP hD hS hl hL)
  case pop =>
    obtain ⟨v, r, rfl, hk⟩ := zk_pv_s hyp
    obtain ⟨hv, hk⟩ := zk_bif hk
    exact lv_pop hx hb hdg (by rw [zk_cv_cat]; exact Nat.eq_of_beq_eq_true hv) (hk H locs ls hP hD hS hl hL)
  case dup_x1 =>
    obtain ⟨v, r, rfl, hk⟩ := zk_pv_s hyp
    obtain ⟨u, r, rfl, hk⟩ := zk_pv_s hk
    obtain ⟨hv, hk⟩ := zk_bif hk
    simp only [Bool.and_eq_true, Nat.beq_eq] at hv
    exact lv_dup_x1 hx hb hdg (by rw [zk_cv_cat]; exact hv.1) (by rw [zk_cv_cat]; exact hv.2) (hk H locs ls hP hD hS hl hL)
  case dup2 =>
    obtain ⟨v, r, rfl, hk⟩ := zk_pv_s hyp
    obtain ⟨u, r, rfl, hk⟩ := zk_pv_s hk
    obtain ⟨hv, hk⟩ := zk_bif hk
    simp only [Bool.and_eq_true, Nat.beq_eq] at hv
    exact lv_dup2_11 hx hb hdg (by rw [zk_cv_cat]; exact hv.1) (by rw [zk_cv_cat]; exact hv.2) (hk H locs ls hP hD hS hl hL)
  case goto o =>
    obtain ⟨t, ht, hk⟩ := zk_j_s hyp
    exact lv_goto hx hb hdg ht (hk H locs ls hP hD hS hl hL)
  case ifCond cd o =>
    obtain ⟨x, r, rfl, hk⟩ := zk_p1i_s hyp
    obtain ⟨t, ht, hk⟩ := zk_j_s hk
    cases cd
    · exact lv_if_eq hx hb hdg ht (fun q => hk.1 q H locs ls hP hD hS hl hL) (fun q => hk.2 q H locs ls hP hD hS hl hL)
    · exact lv_if_ne hx hb hdg ht (fun q => hk.1 q H locs ls hP hD hS hl hL) (fun q => hk.2 q H locs ls hP hD hS hl hL)
    · exact lv_if_lt hx hb hdg ht (fun q => hk.1 q H locs ls hP hD hS hl hL) (fun q => hk.2 q H locs ls hP hD hS hl hL)
    · exact lv_if_ge hx hb hdg ht (fun q => hk.1 q H locs ls hP hD hS hl hL) (fun q => hk.2 q H locs ls hP hD hS hl hL)
    · exact lv_if_gt hx hb hdg ht (fun q => hk.1 q H locs ls hP hD hS hl hL) (fun q => hk.2 q H locs ls hP hD hS hl hL)
    · exact lv_if_le hx hb hdg ht (fun q => hk.1 q H locs ls hP hD hS hl hL) (fun q => hk.2 q H locs ls hP hD hS hl hL)
  case if_icmp cd o =>
    obtain ⟨x, y, r, rfl, hk⟩ := zk_p2i_s hyp
    obtain ⟨t, ht, hk⟩ := zk_j_s hk
    cases cd
    · exact lv_icmp_eq hx hb hdg ht (fun q => hk.1 q H locs ls hP hD hS hl hL) (fun q => hk.2 q H locs ls hP hD hS hl hL)
    · exact lv_icmp_ne hx hb hdg ht (fun q => hk.1 q H locs ls hP hD hS hl hL) (fun q => hk.2 q H locs ls hP hD hS hl hL)
    · exact lv_icmp_lt hx hb hdg ht (fun q => hk.1 q H locs ls hP hD hS hl hL) (fun q => hk.2 q H locs ls hP hD hS hl hL)
    · exact lv_icmp_ge hx hb hdg ht (fun q => hk.1 q H locs ls hP hD hS hl hL) (fun q => hk.2 q H locs ls hP hD hS hl hL)
    · exact lv_icmp_gt hx hb hdg ht (fun q => hk.1 q H locs ls hP hD hS hl hL) (fun q => hk.2 q H locs ls hP hD hS hl hL)
    · exact lv_icmp_le hx hb hdg ht (fun q => hk.1 q H locs ls hP hD hS hl hL) (fun q => hk.2 q H locs ls hP hD hS hl hL)
  case ifnull o =>
    obtain ⟨t, ht, hk⟩ := zk_j_s hyp
    split at hk
    · exact lv_ifnullN hx hb hdg ht (hk H locs ls hP hD hS hl hL)
    · exact lv_ifnull hx hb hdg (hk H locs ls hP hD hS hl hL)
    · exact lv_ifnull hx hb hdg (hk H locs ls hP hD hS hl hL)
    · exact hk.elim
  case ifnonnull o =>
    obtain ⟨t, ht, hk⟩ := zk_j_s hyp
    split at hk
    · exact lv_ifnonnullN hx hb hdg (hk H locs ls hP hD hS hl hL)
    · exact lv_ifnonnull hx hb hdg ht (hk H locs ls hP hD hS hl hL)
    · exact lv_ifnonnull hx hb hdg ht (hk H locs ls hP hD hS hl hL)
    · exact hk.elim
  case tableswitch dd lo hi os =>
    obtain ⟨x, r, rfl, hk⟩ := zk_p1i_s hyp
    obtain ⟨hv, hk⟩ := zk_bif hk
    simp only [Bool.and_eq_true, decide_eq_true_eq] at hv
    rcases zk_sw_s os.toList lo hv.1.1 hv.1.2 hk with ⟨o, g1, g2, g3⟩ | ⟨g1, g2⟩
    · obtain ⟨t, ht, hk⟩ := zk_j_s g3
      have hlt := (List.getElem?_eq_some_iff.mp g2).1
      exact lv_tableIn hx hb hdg g1 (by omega) (by rw [← Array.getElem?_toList]; exact g2) ht (hk H locs ls hP hD hS hl hL)
    · obtain ⟨t, ht, hk⟩ := zk_j_s g2
      exact lv_tableOut hx hb hdg (by omega) ht (hk H locs ls hP hD hS hl hL)
  case lookupswitch dd ps =>
    obtain ⟨x, r, rfl, hk⟩ := zk_p1i_s hyp
    obtain ⟨hv, hk⟩ := zk_bif hk
    simp only [Bool.and_eq_true] at hv
    have hk := zk_lsw_s ps.toList (fun q hq => by simpa using List.all_eq_true.mp hv.2 q hq) hk
    obtain ⟨t, ht, hk⟩ := zk_j_s hk
    exact lv_lookup hx hb hdg hv.1 rfl ht (hk H locs ls hP hD hS hl hL)
  case getfield i =>
    obtain ⟨v, r, rfl, hk⟩ := zk_pv_s hyp
    have hq := hlk i
    rw [List.map_cons]
    split at hk
    next cc jj z e1 =>
      rw [e1] at hq
      simp only [zk_lk1] at hq
      obtain ⟨a, g1, g2, g3⟩ := zk_iso_s (E := E) hk
      obtain ⟨q, q1, q2, q3, q4, q5⟩ := zk_fo_s hq
      rw [g1]
      refine zk_getf Fx hcl q1 q2 q3 hP g2 hdg ?_
      rw [show zk_fv E w h a (zk_ty cc) jj = .int (h.1 a jj) by simp [zk_fv, q4, zk_isr]]
      exact g3 H locs ls hP hD hS hl hL
    next cc jj z e1 =>
      rw [e1] at hq
      simp only [zk_lk1] at hq
      obtain ⟨a, g1, g2, g3⟩ := zk_iso_s (E := E) hk
      obtain ⟨q, q1, q2, q3, q4, q5⟩ := zk_fo_s hq
      rw [g1]
      refine zk_getf Fx hcl q1 q2 q3 hP g2 hdg ?_
      rw [show zk_fv E w h a (zk_ty cc) jj = .int (h.1 a jj) by simp [zk_fv, q4, zk_isr]]
      exact g3 H locs ls hP hD hS hl hL
    next cc jj z e1 =>
      rw [e1] at hq
      simp only [zk_lk1] at hq
      obtain ⟨a, g1, g2, g3⟩ := zk_iso_s (E := E) hk
      obtain ⟨q, q1, q2, q3, q4⟩ := zk_fo_s hq
      rw [g1]
      refine zk_getf Fx hcl q1 q2 q3 hP g2 hdg ?_
      rw [show zk_fv E w h a (zk_ty cc) jj = va_rf ((w.2 a jj).map E.2.2) by simp [zk_fv, q4]]
      split at g3
      · have g3 := g3 H locs ls hP hD hS hl hL
        rw [List.map_cons, zk_cv_rf] at g3
        exact g3
      · obtain ⟨b, eb, g3⟩ := g3
        rw [eb]
        exact g3 H locs ls hP hD hS hl hL
    next e1 =>
      rw [e1] at hq
      simp only [zk_lk1] at hq
      split at hk
      next a =>
        obtain ⟨g1, g2⟩ := zk_bif hk
        simp only [Nat.beq_eq] at g1
        subst g1
        exact vk_getf hx hb hBg.2.2.2.2.1 hS hown (hw' hq) (fun _ h9 => h9) hdg (g2 H locs ls hP hD hS hl hL)
      · exact hk.elim
    next e1 =>
      rw [e1] at hq
      simp only [zk_lk1] at hq
      split at hk
      next a =>
        obtain ⟨g1, g2⟩ := zk_bif hk
        simp only [Nat.beq_eq] at g1
        subst g1
        exact vk_getf hx hb hBg.2.2.2.1 hS hown (hw' hq) (fun _ h9 => h9) hdg (g2 H locs ls hP hD hS hl hL)
      · exact hk.elim
    · exact hk.elim
  case putfield i =>
    obtain ⟨x, v, r, rfl, hk⟩ := zk_piv_s hyp
    have hq := hlk i
    rw [List.map_cons, List.map_cons]
    split at hk
    next cc jj z e1 =>
      rw [e1] at hq
      simp only [zk_lk1] at hq
      obtain ⟨a, g1, g2, g3⟩ := zk_iso_s (E := E) hk
      obtain ⟨q, q1, q2, q3, q4, q5⟩ := zk_fo_s hq
      rw [g1]
      exact zk_putf Fx hcl q1 q2 q3 q5 (by rw [q4]; rfl) (by rw [q4]; rfl) (by rw [q4]; rfl) hP hD hS g2 hdg (fun H1 locs1 hP1 hD1 hS1 => g3 H1 locs1 ls hP1 hD1 hS1 hl hL)
    next cc jj z e1 =>
      rw [e1] at hq
      simp only [zk_lk1] at hq
      obtain ⟨a, g1, g2, g4, g3⟩ := zk_iso_s (E := E) hk
      obtain ⟨q, q1, q2, q3, q4, q5⟩ := zk_fo_s hq
      rw [g1]
      exact zk_putf Fx hcl q1 q2 q3 q5 (by rw [q4]; rfl) (by rw [q4]; rcases g4 with rfl | rfl <;> rfl) (by rw [q4]; rcases g4 with rfl | rfl <;> rfl) hP hD hS g2 hdg (fun H1 locs1 hP1 hD1 hS1 => g3 H1 locs1 ls hP1 hD1 hS1 hl hL)
    · exact hk.elim
  case getstatic i =>
    have hq := hlk i
    simp only [zk_S] at hyp
    split at hyp
    next a1 z1 z2 e1 =>
      rw [e1] at hq
      simp only [zk_lk1] at hq
      obtain ⟨q, q1, hk⟩ := zk_on_s hyp
      rw [q1] at hq
      exact va_gets hx hb (hBg.2.1 q (List.mem_of_getElem? q1)) hS hown (hw' hq) (fun _ h9 => h9) hdg (hk H locs ls hP hD hS hl hL)
    · exact hyp.elim
  case iaload =>
    obtain ⟨i, v, r, rfl, hk⟩ := zk_pia_s hyp
    have key : ∀ {v : Value}, zk_isa w v 0 (fun a n => vp_in i n ∧ zk_Z p l e d s m args below meth c w E nL Q (pc + 1) L (.int (h.1 a i.toNatClampNeg) :: r) h) → W p l e (zk_rm (d + 1)) s m args below meth c H locs 0 0 (MQ below (zk_QX w E Q (zk_A E w.1.length s.heap.size)) args s 0 0 (zk_A E w.1.length s.heap.size)) (F0 m pc ls ((.int i :: v :: r).map (zk_cv E))) := by
      intro v hk
      obtain ⟨a, n, g1, g2, g3, g4⟩ := zk_isa_s (E := E) hk
      rw [List.map_cons, List.map_cons, g1]
      exact va_iald hx hb hK hP a 0 (zk_arri g2) rfl g3 hdg (g4 H locs ls hP hD hS hl hL)
    split at hk
    next a =>
      cases hb2 : Nat.blt a 1000 with
      | true =>
        rw [hb2] at hk
        exact key hk
      | false =>
        rw [hb2, cond_false] at hk
        generalize hro : zk_rom[a - 1000]? = o at hk
        obtain ⟨q, q1, hk⟩ := zk_on_s hk
        rw [q1] at hro
        obtain ⟨q2, q3, q4⟩ := zk_bif hk
        have q2 : q.1 = .int := of_decide_eq_true q2
        have ha : 1000 ≤ a := by
          rcases Nat.lt_or_ge a 1000 with z | z
          · rw [Nat.blt_eq.mpr z] at hb2; cases hb2
          · exact z
        have hT := hBg.1 (a - 1000) q hro
        rw [show 1000 + (a - 1000) = a from Nat.add_sub_of_le ha, q2] at hT
        exact va_ti hx hb hT hS q3 rfl hdg (q4 H locs ls hP hD hS hl hL)
    next => exact key hk
  case baload =>
    obtain ⟨i, v, r, rfl, hk⟩ := zk_pia_s hyp
    split at hk
    next a =>
      obtain ⟨g1, g2, g3⟩ := zk_bif hk
      simp only [Nat.beq_eq] at g1
      subst g1
      exact va_tb hx hb (hBg.1 4 _ rfl) hS g2 rfl hdg (g3 H locs ls hP hD hS hl hL)
    · exact hk.elim
  case laload =>
    obtain ⟨i, v, r, rfl, hk⟩ := zk_pia_s hyp
    obtain ⟨a, n, g1, g2, g3, g4⟩ := zk_isa_s (E := E) hk
    rw [List.map_cons, List.map_cons, g1]
    exact va_lald hx hb hK hP a 1 (zk_arrl g2) rfl g3 hdg (g4 H locs ls hP hD hS hl hL)
  case aaload =>
    obtain ⟨i, v, r, rfl, hk⟩ := zk_pia_s hyp
    rw [List.map_cons, List.map_cons]
    split at hk
    · obtain ⟨a, n, g1, g2, g3, g4⟩ := zk_isa_s (E := E) hk
      rw [g1]
      refine zk_aald hx hb hK hP a 3 (zk_w_get g2) rfl rfl g3 hdg ?_
      have g4 := g4 H locs ls hP hD hS hl hL
      rw [List.map_cons, zk_cv_rf] at g4
      exact g4
    · obtain ⟨a, n, g1, g2, g3, b, eb, g4⟩ := zk_isa_s (E := E) hk
      rw [g1]
      refine zk_aald hx hb hK hP a 3 (zk_w_get g2) rfl rfl g3 hdg ?_
      rw [eb]
      exact g4 H locs ls hP hD hS hl hL
    · obtain ⟨a, n, g1, g2, g3, b, eb, g4⟩ := zk_isa_s (E := E) hk
      rw [g1]
      refine zk_aald hx hb hK hP a 2 (zk_w_get g2) rfl rfl g3 hdg ?_
      rw [eb]
      exact g4 H locs ls hP hD hS hl hL
  case iastore =>
    obtain ⟨x, i, v, r, rfl, hk⟩ := zk_piia_s hyp
    obtain ⟨a, n, g1, g2, g3, g4⟩ := zk_isa_s (E := E) hk
    rw [List.map_cons, List.map_cons, List.map_cons, g1]
    refine va_iast hx hb hK hP hD hS a 0 (zk_arri g2) rfl g3 hdg (fun H1 locs1 hP1 hD1 hS1 => ?_)
    rw [zk_seti (E := E) (h := h) (f := upd (h.1 a) i.toNatClampNeg x) (h' := zk_si h a i.toNatClampNeg x) g2 (funext fun z => by simp [zk_si, upd]) (fun b hb => ⟨funext fun z => by simp [zk_si, hb], rfl⟩)] at hP1 hD1
    exact g4 H1 locs1 ls hP1 hD1 hS1 hl hL
  case lastore =>
    obtain ⟨x, i, v, r, rfl, hk⟩ := zk_plia_s hyp
    obtain ⟨a, n, g1, g2, g3, g4⟩ := zk_isa_s (E := E) hk
    rw [List.map_cons, List.map_cons, List.map_cons, g1]
    refine va_last hx hb hK hP hD hS a 1 (zk_arrl g2) rfl g3 hdg (fun H1 locs1 hP1 hD1 hS1 => ?_)
    rw [zk_setl (E := E) (h := h) (f := vp_updL (h.2 a) i.toNatClampNeg x) (h' := zk_sl h a i.toNatClampNeg x) g2 (funext fun z => by simp [zk_sl, vp_updL]) (fun b hb => ⟨rfl, funext fun z => by simp [zk_sl, hb]⟩)] at hP1 hD1
    exact g4 H1 locs1 ls hP1 hD1 hS1 hl hL
  case arraylength =>
    obtain ⟨v, r, rfl, hk⟩ := zk_pv_s hyp
    have key : ∀ {a kd n : Nat}, kd < 2 → w.1[a]? = some (kd, n) → zk_Z p l e d s m args below meth c w E nL Q (pc + 1) L (.int (Int32.ofNat n) :: r) h → W p l e (zk_rm (d + 1)) s m args below meth c H locs 0 0 (MQ below (zk_QX w E Q (zk_A E w.1.length s.heap.size)) args s 0 0 (zk_A E w.1.length s.heap.size)) (F0 m pc ls (.ref (E.2.2 a) :: r.map (zk_cv E))) := by
      intro a kd n h1 h2 h3
      match kd, h1, h2 with
      | 0, _, h2 => exact va_alen hx hb hK hP a 0 (zk_arri h2) rfl rfl hdg (h3 H locs ls hP hD hS hl hL)
      | 1, _, h2 => exact va_alen hx hb hK hP a 1 (zk_arrl h2) rfl rfl hdg (h3 H locs ls hP hD hS hl hL)
      | k + 2, h1, _ => omega
    split at hk
    next a =>
      split at hk
      next s1 es =>
        obtain ⟨g1, g2⟩ := zk_bif hk
        exact key (Nat.blt_eq.mp g1) es g2
      · obtain ⟨g1, g2⟩ := zk_bif hk
        simp only [Nat.beq_eq] at g1
        subst g1
        exact va_tlen hx hb (hBg.1 4 _ rfl) hS rfl hdg (g2 H locs ls hP hD hS hl hL)
    next a =>
      obtain ⟨kd, n, g1, g2, g3⟩ := hk
      exact key g1 g2 g3
    · exact hk.elim
  case ireturn =>
    simp only [zk_S] at hyp
    split at hyp
    next v =>
      have fin : Q.1 v h → ∀ t : State, t.heap = H → s.WarmedH t.vm → zk_QX w E Q (zk_A E w.1.length s.heap.size) args s (.returned (some (.int v))) t := fun hq t ht _ => ⟨⟨some (.int v), h, rfl, hq, by rw [ht]; exact hP, hD⟩, hS.F ht⟩
      split at hyp
      next e1 => exact W.iret hx hb (by rw [hr]; exact e1) (fin hyp) hS.2.2 hdg
      next e1 => exact W.zret hx hb (by rw [hr]; exact e1) (by rcases hyp.1 with rfl | rfl <;> rfl) (fin hyp.2) hS.2.2 hdg
      next e1 => exact W.zret hx hb (by rw [hr]; exact e1) (by show Value.int _ = _; rw [hyp.1]) (fin hyp.2) hS.2.2 hdg
      · exact hyp.elim
    · exact hyp.elim
  case lreturn =>
    simp only [zk_S] at hyp
    split at hyp
    next v =>
      split at hyp
      next e1 => exact W.lret hx hb (by rw [hr]; exact e1) (fun t ht _ => ⟨⟨some (.long v), h, rfl, hyp, by rw [ht]; exact hP, hD⟩, hS.F ht⟩) hS.2.2 hdg
      · exact hyp.elim
    · exact hyp.elim
  case return_ =>
    simp only [zk_S] at hyp
    split at hyp
    next =>
      split at hyp
      next e1 => exact W.vret hx hb (by rw [hr]; exact e1) (fun t ht _ => ⟨⟨none, h, rfl, hyp, by rw [ht]; exact hP, hD⟩, hS.F ht⟩) hS.2.2 hdg
      · exact hyp.elim
    · exact hyp.elim
  case areturn =>
    simp only [zk_S] at hyp
    split at hyp
    next v =>
      split at hyp
      next e1 =>
        obtain ⟨v', r', ev, hq, hv, hcat⟩ := zk_pr_s (E := E) hyp
        cases ev
        refine W.aret hx hb (by rw [hr]; exact e1) (Or.inl ⟨_, rfl⟩) hv (fun t ht _ => ⟨⟨some v, h, rfl, ?_, by rw [ht]; exact hP, hD⟩, hS.F ht⟩) hS.2.2 hdg
        cases v
        case int => rcases hv with hv | ⟨_, hv⟩ <;> cases hv
        case long => rcases hv with hv | ⟨_, hv⟩ <;> cases hv
        all_goals exact hq
      · exact hyp.elim
    · exact hyp.elim
  case invokestatic i =>
    have hq := hlk i
    simp only [zk_S] at hyp
    split at hyp
    next a1 z1 z2 e1 =>
      rw [e1] at hq
      simp only [zk_lk1] at hq
      rcases hmt a1 with hm | hm
      · exact zk_goS Fx hn0 hm hq (hcx a1) hd hdg hyp H locs ls hP hD hS hl hL
      · exact (hm _ _ _ (zk_bif hyp).2).elim
    next e1 =>
      rw [e1] at hq
      simp only [zk_lk1] at hq
      obtain ⟨x, y, r, rfl, hk⟩ := zk_p2i_s hyp
      obtain ⟨g1, g2⟩ := zk_bif hk
      have g1 := Nat.le_of_ble_eq_true g1
      exact va_mmax hx hb hlsz hown (hw' hq) (hw' hjdk.1.1) (hw' hjdk.1.2.2.2.2) (hw' hjdk.1.2.1) (Nat.le_add_left 1 d) (by rw [zk_cats_cv]; show _ ≤ 40 * (d + 1); omega) (Nat.le_refl _) (Nat.le_refl _) hdg (g2 H locs ls hP hD hS hl hL)
    next e1 =>
      rw [e1] at hq
      simp only [zk_lk1] at hq
      obtain ⟨x, y, r, rfl, hk⟩ := zk_p2i_s hyp
      obtain ⟨g1, g2⟩ := zk_bif hk
      have g1 := Nat.le_of_ble_eq_true g1
      exact va_mmin hx hb hlsz hown (hw' hq) (hw' hjdk.1.2.2.1) (hw' hjdk.1.2.2.2.2) (hw' hjdk.1.2.2.2.1) (Nat.le_add_left 1 d) (by rw [zk_cats_cv]; show _ ≤ 40 * (d + 1); omega) (Nat.le_refl _) (Nat.le_refl _) hdg (g2 H locs ls hP hD hS hl hL)
    next e1 =>
      rw [e1] at hq
      simp only [zk_lk1] at hq
      split at hyp
      next n dp v sp u =>
        split at hyp
        · obtain ⟨a0, n0, f1, f2, f3⟩ := zk_isa_s (E := E) hyp
          obtain ⟨a, n1, g1, g2, ⟨k1, k2, k3, k4, k5⟩, g4⟩ := zk_isa_s (E := E) f3
          rw [List.map_cons, List.map_cons, List.map_cons, List.map_cons, List.map_cons, f1, g1]
          refine va_copyi hx hb hlsz hown (hw' hq) (hw' hjdk.2.1) (hw' hjdk.2.2.1) (hw' hjdk.2.2.2) hK hP hD hS a0 a 0 0 (ty := .int) (zk_arri f2) (zk_arri g2) rfl rfl rfl k1 k2 k3 k4 k5 (fun _ _ => rfl) (Nat.le_add_left 1 d) (by show 0 + (nativeFrameWords "java/lang/System" "arraycopy" 5 + 11) ≤ 40 * (d + 1); exact Nat.le_trans (show _ ≤ 40 by decide +kernel) (by omega)) hdg (fun H1 locs1 hP1 hD1 hS1 => ?_)
          rw [zk_seti (E := E) (h := h) (f := va_cpy (h.1 a0) (h.1 a) sp.toNatClampNeg dp.toNatClampNeg n.toNatClampNeg) (h' := zk_wi h a (va_cpy (h.1 a0) (h.1 a) sp.toNatClampNeg dp.toNatClampNeg n.toNatClampNeg)) g2 (funext fun z => by simp [zk_wi]) (fun b hb => ⟨funext fun z => by simp [zk_wi, hb], rfl⟩)] at hP1 hD1
          exact g4 H1 locs1 ls hP1 hD1 hS1 hl hL
        · obtain ⟨a0, n0, f1, f2, f3⟩ := zk_isa_s (E := E) hyp
          obtain ⟨a, n1, g1, g2, ⟨k1, k2, k3, k4, k5⟩, g4⟩ := zk_isa_s (E := E) f3
          rw [List.map_cons, List.map_cons, List.map_cons, List.map_cons, List.map_cons, f1, g1]
          refine va_copyl hx hb hlsz hown (hw' hq) (hw' hjdk.2.1) (hw' hjdk.2.2.1) (hw' hjdk.2.2.2) hK hP hD hS a0 a 1 1 (ty := .long) (zk_arrl f2) (zk_arrl g2) rfl rfl rfl k1 k2 k3 k4 k5 (fun _ _ => rfl) (Nat.le_add_left 1 d) (by show 0 + (nativeFrameWords "java/lang/System" "arraycopy" 5 + 11) ≤ 40 * (d + 1); exact Nat.le_trans (show _ ≤ 40 by decide +kernel) (by omega)) hdg (fun H1 locs1 hP1 hD1 hS1 => ?_)
          rw [zk_setl (E := E) (h := h) (f := va_cpy (h.2 a0) (h.2 a) sp.toNatClampNeg dp.toNatClampNeg n.toNatClampNeg) (h' := zk_wl h a (va_cpy (h.2 a0) (h.2 a) sp.toNatClampNeg dp.toNatClampNeg n.toNatClampNeg)) g2 (funext fun z => by simp [zk_wl]) (fun b hb => ⟨rfl, funext fun z => by simp [zk_wl, hb]⟩)] at hP1 hD1
          exact g4 H1 locs1 ls hP1 hD1 hS1 hl hL
      · exact hyp.elim
    · exact hyp.elim
  case invokevirtual i =>
    have hq := hlk i
    simp only [zk_S] at hyp
    split at hyp
    next a1 z1 z2 e1 =>
      rw [e1] at hq
      simp only [zk_lk1] at hq
      rcases hmt a1 with hm | hm
      · exact zk_goV Fx hn0 hm hq (hcx a1) hd hdg hyp H locs ls hP hD hS hl hL
      · obtain ⟨-, hyp⟩ := zk_bif hyp
        unfold zk_recv at hyp
        split at hyp
        next v vs ev =>
          cases hb3 : Nat.blt (mt a1).2.2 100 with
          | true =>
            rw [hb3] at hyp
            obtain ⟨-, -, -, hyp⟩ := zk_iso_s (E := E) (show zk_iso w v _ _ from hyp)
            exact (hm _ _ _ hyp).elim
          | false =>
            rw [hb3] at hyp
            simp only [cond_false] at hyp
            split at hyp
            · exact (hm _ _ _ (zk_bif hyp).2).elim
            · exact hyp.elim
        · exact hyp.elim
    · exact hyp.elim
  all_goals exact (hyp : False).elim
end ZKS
end
section
/-! FROM THE SMALL MACHINE TO CONTRACTS -/
def zk_le (Q Q' : zk_Q) : Prop := (∀ x h, Q.1 x h → Q'.1 x h) ∧ (∀ x h, Q.2.1 x h → Q'.2.1 x h) ∧ (∀ x h, Q.2.2.1 x h → Q'.2.2.1 x h) ∧ (∀ x h, Q.2.2.2 x h → Q'.2.2.2 x h)
def zk_Mono (P : zk_P) : Prop := ∀ as h Q Q', zk_le Q Q' → P as h Q → P as h Q'
theorem zk_on_m {α : Type} {o : Option α} {f g : α → Prop} (m : ∀ a, f a → g a) (h : zk_on o f) : zk_on o g := by
  cases o with
  | none => exact h
  | some a => exact m a h
theorem zk_p1i_m {st : List Value} {k k' : Int32 → List Value → Prop} (m : ∀ x r, k x r → k' x r) (h : zk_p1i st k) : zk_p1i st k' := by
  obtain ⟨x, r, rfl, h⟩ := zk_p1i_s h; exact m _ _ h
theorem zk_p2i_m {st : List Value} {k k' : Int32 → Int32 → List Value → Prop} (m : ∀ x y r, k x y r → k' x y r) (h : zk_p2i st k) : zk_p2i st k' := by
  obtain ⟨x, y, r, rfl, h⟩ := zk_p2i_s h; exact m _ _ _ h
theorem zk_p1l_m {st : List Value} {k k' : Int64 → List Value → Prop} (m : ∀ x r, k x r → k' x r) (h : zk_p1l st k) : zk_p1l st k' := by
  obtain ⟨x, r, rfl, h⟩ := zk_p1l_s h; exact m _ _ h
theorem zk_p2l_m {st : List Value} {k k' : Int64 → Int64 → List Value → Prop} (m : ∀ x y r, k x y r → k' x y r) (h : zk_p2l st k) : zk_p2l st k' := by
  obtain ⟨x, y, r, rfl, h⟩ := zk_p2l_s h; exact m _ _ _ h
theorem zk_pli_m {st : List Value} {k k' : Int64 → Int32 → List Value → Prop} (m : ∀ x y r, k x y r → k' x y r) (h : zk_pli st k) : zk_pli st k' := by
  obtain ⟨x, y, r, rfl, h⟩ := zk_pli_s h; exact m _ _ _ h
theorem zk_pia_m {st : List Value} {k k' : Int32 → Value → List Value → Prop} (m : ∀ x y r, k x y r → k' x y r) (h : zk_pia st k) : zk_pia st k' := by
  obtain ⟨x, y, r, rfl, h⟩ := zk_pia_s h; exact m _ _ _ h
theorem zk_piia_m {st : List Value} {k k' : Int32 → Int32 → Value → List Value → Prop} (m : ∀ x y z r, k x y z r → k' x y z r) (h : zk_piia st k) : zk_piia st k' := by
  obtain ⟨x, y, z, r, rfl, h⟩ := zk_piia_s h; exact m _ _ _ _ h
theorem zk_plia_m {st : List Value} {k k' : Int64 → Int32 → Value → List Value → Prop} (m : ∀ x y z r, k x y z r → k' x y z r) (h : zk_plia st k) : zk_plia st k' := by
  obtain ⟨x, y, z, r, rfl, h⟩ := zk_plia_s h; exact m _ _ _ _ h
theorem zk_pv_m {st : List Value} {k k' : Value → List Value → Prop} (m : ∀ x r, k x r → k' x r) (h : zk_pv st k) : zk_pv st k' := by
  obtain ⟨x, r, rfl, h⟩ := zk_pv_s h; exact m _ _ h
theorem zk_piv_m {st : List Value} {k k' : Int32 → Value → List Value → Prop} (m : ∀ x y r, k x y r → k' x y r) (h : zk_piv st k) : zk_piv st k' := by
  obtain ⟨x, y, r, rfl, h⟩ := zk_piv_s h; exact m _ _ _ h
theorem zk_pr_m {st : List Value} {k k' : Value → List Value → Prop} (m : ∀ x r, k x r → k' x r) (h : zk_pr st k) : zk_pr st k' := by
  unfold zk_pr at h ⊢
  split at h
  · exact m _ _ h
  · exact m _ _ h
  · exact m _ _ h
  · exact h.elim
theorem zk_lr_m {o : Option Value} {k k' : Value → Prop} (m : ∀ x, k x → k' x) (h : zk_lr o k) : zk_lr o k' := by
  unfold zk_lr at h ⊢
  split at h
  · exact m _ h
  · exact m _ h
  · exact m _ h
  · exact h.elim
theorem zk_li_m {o : Option Value} {k k' : Int32 → Prop} (m : ∀ x, k x → k' x) (h : zk_li o k) : zk_li o k' := by
  obtain ⟨x, rfl, h⟩ := zk_li_s h; exact m _ h
theorem zk_ll_m {o : Option Value} {k k' : Int64 → Prop} (m : ∀ x, k x → k' x) (h : zk_ll o k) : zk_ll o k' := by
  obtain ⟨x, rfl, h⟩ := zk_ll_s h; exact m _ h
theorem zk_j_m {pc : Nat} {o : Int} {k k' : Nat → Prop} (m : ∀ x, k x → k' x) (h : zk_j pc o k) : zk_j pc o k' := by
  unfold zk_j at h ⊢
  split at h
  · exact m _ h
  · exact h.elim
theorem zk_bif_m {b : Bool} {P P' : Prop} (m : P → P') (h : bif b then P else False) : bif b then P' else False := by
  cases b with
  | true => exact m h
  | false => exact h
theorem zk_iso_m {w : zk_Wd} {v : Value} {c : Nat} {k k' : Nat → Prop} (m : ∀ x, k x → k' x) (h : zk_iso w v c k) : zk_iso w v c k' := by
  unfold zk_iso at h ⊢
  split at h
  · split at h
    · exact zk_bif_m (m _) h
    · exact h.elim
  · exact ⟨h.1, m _ h.2⟩
  · exact h.elim
theorem zk_isa_m {w : zk_Wd} {v : Value} {c : Nat} {k k' : Nat → Nat → Prop} (m : ∀ x n, k x n → k' x n) (h : zk_isa w v c k) : zk_isa w v c k' := by
  unfold zk_isa at h ⊢
  split at h
  · split at h
    · exact zk_bif_m (m _ _) h
    · exact h.elim
  · obtain ⟨n, h1, h2⟩ := h
    exact ⟨n, h1, m _ _ h2⟩
  · exact h.elim
theorem zk_sw_m {x : Int32} {jump jump' : Int → Prop} {D D' : Prop} (m : ∀ o, jump o → jump' o) (mD : D → D') : ∀ (os : List Int) (v : Int), zk_sw x jump D v os → zk_sw x jump' D' v os
  | [], _, h => mD h
  | _ :: os, v, h => ⟨fun e => m _ (h.1 e), fun e => zk_sw_m m mD os (v + 1) (h.2 e)⟩
theorem zk_lsw_m {x : Int32} {jump jump' : Int → Prop} {D D' : Prop} (m : ∀ o, jump o → jump' o) (mD : D → D') : ∀ (os : List (Int × Int)), zk_lsw x jump D os → zk_lsw x jump' D' os
  | [], h => mD h
  | _ :: os, h => ⟨fun e => m _ (h.1 e), fun e => zk_lsw_m m mD os (h.2 e)⟩
theorem zk_if_m {c A B A' B' : Prop} (f : A → A') (g : B → B') (h : (c → A) ∧ (¬ c → B)) : (c → A') ∧ (¬ c → B') := ⟨fun q => f (h.1 q), fun q => g (h.2 q)⟩
theorem zk_if_n {c A B A' B' : Prop} (f : A → A') (g : B → B') (h : (¬ c → A) ∧ (c → B)) : (¬ c → A') ∧ (c → B') := ⟨fun q => f (h.1 q), fun q => g (h.2 q)⟩
theorem zk_cont_le {k k' : zk_K} (hk : ∀ pc L st h, k pc L st h → k' pc L st h) {pc : Nat} {L : zk_L} {r : List Value} : zk_le (zk_cont k pc L r) (zk_cont k' pc L r) := ⟨fun _ _ => hk _ _ _ _, fun _ _ => hk _ _ _ _, fun _ _ => hk _ _ _ _, fun _ _ => hk _ _ _ _⟩
section ZKM
variable {w : zk_Wd} {lk : Nat → zk_Ln} {mt : zk_Mt} {cx : Nat → zk_P} {rt : Option FieldType} {Q : zk_Q} {cd : Nat → Option (Instr × Nat)}
theorem zk_S_mono (hcx : ∀ a, zk_Mono (cx a)) {k k' : zk_K} (hk : ∀ pc L st h, k pc L st h → k' pc L st h) {ins : Instr} {md pc : Nat} {L : zk_L} {st : List Value} {h : zk_H} (hyp : zk_S w lk mt cx rt Q k ins md pc L st h) : zk_S w lk mt cx rt Q k' ins md pc L st h := by
  cases ins <;> simp only [zk_S] at hyp ⊢
  case aload_n i => exact zk_lr_m (fun _ => hk _ _ _ _) hyp
  case aload i => exact zk_lr_m (fun _ => hk _ _ _ _) hyp
  case iload_n i => exact zk_li_m (fun _ => hk _ _ _ _) hyp
  case iload i => exact zk_li_m (fun _ => hk _ _ _ _) hyp
  case lload_n i => exact zk_ll_m (fun _ => hk _ _ _ _) hyp
  case lload i => exact zk_ll_m (fun _ => hk _ _ _ _) hyp
  case istore_n i => exact zk_p1i_m (fun _ _ => zk_on_m fun _ => hk _ _ _ _) hyp
  case istore i => exact zk_p1i_m (fun _ _ => zk_on_m fun _ => hk _ _ _ _) hyp
  case astore_n i => exact zk_pr_m (fun _ _ => zk_on_m fun _ => hk _ _ _ _) hyp
  case astore i => exact zk_pr_m (fun _ _ => zk_on_m fun _ => hk _ _ _ _) hyp
  case lstore_n i => exact zk_p1l_m (fun _ _ => zk_on_m fun _ => hk _ _ _ _) hyp
  case lstore i => exact zk_p1l_m (fun _ _ => zk_on_m fun _ => hk _ _ _ _) hyp
  case iinc i n => exact zk_li_m (fun _ => zk_on_m fun _ => hk _ _ _ _) hyp
  case iconst n => exact hk _ _ _ _ hyp
  case bipush n => exact hk _ _ _ _ hyp
  case sipush n => exact hk _ _ _ _ hyp
  case lconst n => exact hk _ _ _ _ hyp
  case aconst_null => exact hk _ _ _ _ hyp
  case ldc i => split at hyp <;> first | exact hk _ _ _ _ hyp | exact hyp
  case ldc_w i => split at hyp <;> first | exact hk _ _ _ _ hyp | exact hyp
  case ldc2_w i => split at hyp <;> first | exact hk _ _ _ _ hyp | exact hyp
  case iadd => exact zk_p2i_m (fun _ _ _ => hk _ _ _ _) hyp
  case isub => exact zk_p2i_m (fun _ _ _ => hk _ _ _ _) hyp
  case imul => exact zk_p2i_m (fun _ _ _ => hk _ _ _ _) hyp
  case iand => exact zk_p2i_m (fun _ _ _ => hk _ _ _ _) hyp
  case ior => exact zk_p2i_m (fun _ _ _ => hk _ _ _ _) hyp
  case ixor => exact zk_p2i_m (fun _ _ _ => hk _ _ _ _) hyp
  case ishl => exact zk_p2i_m (fun _ _ _ => hk _ _ _ _) hyp
  case ishr => exact zk_p2i_m (fun _ _ _ => hk _ _ _ _) hyp
  case iushr => exact zk_p2i_m (fun _ _ _ => hk _ _ _ _) hyp
  case ineg => exact zk_p1i_m (fun _ _ => hk _ _ _ _) hyp
  case idiv => exact zk_p2i_m (fun _ _ _ => And.imp_right (hk _ _ _ _)) hyp
  case irem => exact zk_p2i_m (fun _ _ _ => And.imp_right (hk _ _ _ _)) hyp
  case ladd => exact zk_p2l_m (fun _ _ _ => hk _ _ _ _) hyp
  case lmul => exact zk_p2l_m (fun _ _ _ => hk _ _ _ _) hyp
  case land => exact zk_p2l_m (fun _ _ _ => hk _ _ _ _) hyp
  case lor => exact zk_p2l_m (fun _ _ _ => hk _ _ _ _) hyp
  case lshl => exact zk_pli_m (fun _ _ _ => hk _ _ _ _) hyp
  case lcmp => exact zk_p2l_m (fun _ _ _ => hk _ _ _ _) hyp
  case i2l => exact zk_p1i_m (fun _ _ => hk _ _ _ _) hyp
  case l2i => exact zk_p1l_m (fun _ _ => hk _ _ _ _) hyp
  case i2b => exact zk_p1i_m (fun _ _ => hk _ _ _ _) hyp
  case i2s => exact zk_p1i_m (fun _ _ => hk _ _ _ _) hyp
  case i2c => exact zk_p1i_m (fun _ _ => hk _ _ _ _) hyp
  case dup => exact zk_pv_m (fun _ _ => zk_bif_m (hk _ _ _ _)) hyp
  case pop => exact zk_pv_m (fun _ _ => zk_bif_m (hk _ _ _ _)) hyp
  case dup_x1 => exact zk_pv_m (fun _ _ => zk_pv_m fun _ _ => zk_bif_m (hk _ _ _ _)) hyp
  case dup2 => exact zk_pv_m (fun _ _ => zk_pv_m fun _ _ => zk_bif_m (hk _ _ _ _)) hyp
  case goto o => exact zk_j_m (fun _ => hk _ _ _ _) hyp
  case ifCond cd o =>
    refine zk_p1i_m (fun _ _ => zk_j_m fun _ => ?_) hyp
    cases cd <;> first | exact zk_if_m (hk _ _ _ _) (hk _ _ _ _) | exact zk_if_n (hk _ _ _ _) (hk _ _ _ _)
  case if_icmp cd o =>
    refine zk_p2i_m (fun _ _ _ => zk_j_m fun _ => ?_) hyp
    cases cd <;> first | exact zk_if_m (hk _ _ _ _) (hk _ _ _ _) | exact zk_if_n (hk _ _ _ _) (hk _ _ _ _)
  case ifnull o =>
    refine zk_j_m (fun _ hyp => ?_) hyp
    split at hyp <;> first | exact hk _ _ _ _ hyp | exact hyp.elim
  case ifnonnull o =>
    refine zk_j_m (fun _ hyp => ?_) hyp
    split at hyp <;> first | exact hk _ _ _ _ hyp | exact hyp.elim
  case tableswitch dd lo hi os => exact zk_p1i_m (fun _ _ => zk_bif_m (zk_sw_m (fun _ => zk_j_m fun _ => hk _ _ _ _) (zk_j_m fun _ => hk _ _ _ _) _ _)) hyp
  case lookupswitch dd ps => exact zk_p1i_m (fun _ _ => zk_bif_m (zk_lsw_m (fun _ => zk_j_m fun _ => hk _ _ _ _) (zk_j_m fun _ => hk _ _ _ _) _)) hyp
  case getfield i =>
    refine zk_pv_m (fun v _ hyp => ?_) hyp
    split at hyp
    · exact zk_iso_m (fun _ => hk _ _ _ _) hyp
    · exact zk_iso_m (fun _ => hk _ _ _ _) hyp
    · refine zk_iso_m (fun _ hyp => ?_) hyp
      split at hyp
      · exact hk _ _ _ _ hyp
      · obtain ⟨b, h1, h2⟩ := hyp
        exact ⟨b, h1, hk _ _ _ _ h2⟩
    · split at hyp
      · exact zk_bif_m (hk _ _ _ _) hyp
      · exact hyp.elim
    · split at hyp
      · exact zk_bif_m (hk _ _ _ _) hyp
      · exact hyp.elim
    · exact hyp.elim
  case putfield i =>
    refine zk_piv_m (fun _ v _ hyp => ?_) hyp
    split at hyp
    · exact zk_iso_m (fun _ => hk _ _ _ _) hyp
    · exact zk_iso_m (fun _ => And.imp_right (hk _ _ _ _)) hyp
    · exact hyp.elim
  case getstatic i =>
    split at hyp
    · exact zk_on_m (fun _ => hk _ _ _ _) hyp
    · exact hyp.elim
  case iaload =>
    refine zk_pia_m (fun _ v _ hyp => ?_) hyp
    split at hyp
    next a =>
      cases hb : Nat.blt a 1000 with
      | true =>
        rw [hb, cond_true] at hyp
        rw [cond_true]
        exact zk_isa_m (fun _ _ => And.imp_right (hk _ _ _ _)) hyp
      | false =>
        rw [hb, cond_false] at hyp
        rw [cond_false]
        generalize zk_rom[a - 1000]? = o at hyp ⊢
        exact zk_on_m (fun _ => zk_bif_m (And.imp_right (hk _ _ _ _))) hyp
    · exact zk_isa_m (fun _ _ => And.imp_right (hk _ _ _ _)) hyp
  case baload =>
    refine zk_pia_m (fun _ v _ hyp => ?_) hyp
    split at hyp
    · exact zk_bif_m (And.imp_right (hk _ _ _ _)) hyp
    · exact hyp.elim
  case laload => exact zk_pia_m (fun _ _ _ => zk_isa_m (fun _ _ => And.imp_right (hk _ _ _ _))) hyp
  case aaload =>
    refine zk_pia_m (fun _ v _ hyp => ?_) hyp
    split at hyp
    · exact zk_isa_m (fun _ _ => And.imp_right (hk _ _ _ _)) hyp
    · exact zk_isa_m (fun _ _ => And.imp_right fun ⟨b, h1, h2⟩ => ⟨b, h1, hk _ _ _ _ h2⟩) hyp
    · exact zk_isa_m (fun _ _ => And.imp_right fun ⟨b, h1, h2⟩ => ⟨b, h1, hk _ _ _ _ h2⟩) hyp
  case iastore => exact zk_piia_m (fun _ _ _ _ => zk_isa_m (fun _ _ => And.imp_right (hk _ _ _ _))) hyp
  case lastore => exact zk_plia_m (fun _ _ _ _ => zk_isa_m (fun _ _ => And.imp_right (hk _ _ _ _))) hyp
  case arraylength =>
    refine zk_pv_m (fun v _ hyp => ?_) hyp
    split at hyp
    · split at hyp
      · exact zk_bif_m (hk _ _ _ _) hyp
      · exact zk_bif_m (hk _ _ _ _) hyp
    · obtain ⟨kd, n, h1, h2, h3⟩ := hyp
      exact ⟨kd, n, h1, h2, hk _ _ _ _ h3⟩
    · exact hyp.elim
  case invokestatic i =>
    split at hyp
    · exact zk_bif_m (hcx _ _ _ _ _ (zk_cont_le hk)) hyp
    · exact zk_p2i_m (fun _ _ _ => zk_bif_m (hk _ _ _ _)) hyp
    · exact zk_p2i_m (fun _ _ _ => zk_bif_m (hk _ _ _ _)) hyp
    · split at hyp
      · split at hyp
        · exact zk_isa_m (fun _ _ => zk_isa_m fun _ _ => And.imp_right (hk _ _ _ _)) hyp
        · exact zk_isa_m (fun _ _ => zk_isa_m fun _ _ => And.imp_right (hk _ _ _ _)) hyp
      · exact hyp.elim
    · exact hyp.elim
  case invokevirtual i =>
    split at hyp
    · refine zk_bif_m (fun hyp => ?_) hyp
      unfold zk_recv at hyp ⊢
      split at hyp
      next v vs ev =>
        cases hb : Nat.blt (mt _).2.2 100 with
        | true =>
          rw [hb] at hyp
          exact zk_iso_m (fun _ => hcx _ _ _ _ _ (zk_cont_le hk)) (show zk_iso w v _ _ from hyp)
        | false =>
          rw [hb] at hyp
          simp only [cond_false] at hyp ⊢
          split at hyp
          · exact zk_bif_m (hcx _ _ _ _ _ (zk_cont_le hk)) hyp
          · exact hyp.elim
      · exact hyp.elim
    · exact hyp.elim
  all_goals exact hyp
theorem zk_Sp_mono (hcx : ∀ a, zk_Mono (cx a)) {k k' : zk_K} (hk : ∀ pc L st h, k pc L st h → k' pc L st h) {pc : Nat} {L : zk_L} {st : List Value} {h : zk_H} (hyp : zk_Sp w lk mt cx rt cd Q k pc L st h) : zk_Sp w lk mt cx rt cd Q k' pc L st h := by
  unfold zk_Sp at hyp ⊢
  split at hyp
  · exact zk_S_mono hcx hk hyp
  · exact hyp.elim
theorem zk_X_step (hcx : ∀ a, zk_Mono (cx a)) {pc : Nat} {L : zk_L} {st : List Value} {h : zk_H} (hyp : zk_Sp w lk mt cx rt cd Q (zk_X w lk mt cx rt cd Q) pc L st h) : zk_X w lk mt cx rt cd Q pc L st h := fun Z hZ => hZ pc L st h (zk_Sp_mono hcx (fun _ _ _ _ hx => hx Z hZ) hyp)
theorem zk_go (hcx : ∀ a, zk_Mono (cx a)) {stops : List Nat} : ∀ (n : Nat) {pc : Nat} {L : zk_L} {st : List Value} {h : zk_H}, zk_R w lk mt cx rt cd Q stops (zk_X w lk mt cx rt cd Q) n pc L st h → zk_X w lk mt cx rt cd Q pc L st h
  | 0, _, _, _, _, hyp => hyp.elim
  | n + 1, pc, L, st, h, hyp => zk_X_step hcx (zk_Sp_mono hcx (fun pc L st h hx => by
      cases hb : stops.any (Nat.beq pc) with
      | true => rw [hb] at hx; exact hx
      | false => rw [hb] at hx; exact zk_go hcx n hx) hyp)
end ZKM
/-- A METHOD'S CONTRACT, out of the small machine's run of its code -/
theorem zk_met {w : zk_Wd} {lk : Nat → zk_Ln} {mt : zk_Mt} {cx : Nat → zk_P} {cd : Nat → Option (Instr × Nat)} {j0 : zk_M} {d0 : Nat} {P : zk_P} (hcl : zk_clOk) (hjdk : zk_jdk) (hmt : ∀ a, zk_mtOk (mt a) ∨ ∀ as h Q, ¬ cx a as h Q) (hlk : ∀ i, zk_lk1 j0.1.cls mt i (lk i)) (hpl : plainName j0.1.cls = true)
    (hcd : ∀ pc q, cd pc = some q → decode j0.2.1 pc = .ok (q.1, zk_len q.1 q.2)) (hcx : ∀ a, zk_CT w d0 (mt a).1 (cx a)) (hbody : ∀ as h Q, P as h Q → ((∀ v ∈ as, zk_nod v = true) ∧ zk_wds as ≤ j0.2.2.1) ∧ zk_X w lk mt cx j0.2.2.2 cd Q 0 (zk_L0 as j0.2.2.1) [] h) : zk_CT w (d0 + 1) j0 P := by
  intro d hd l E sz as h Q hP
  obtain ⟨d, rfl⟩ : ∃ d', d = d' + 1 := ⟨d - 1, by omega⟩
  obtain ⟨⟨hnod, hwds⟩, hX⟩ := hbody as h Q hP
  refine Met.ofW (cc := j0.2.1) (maxL := j0.2.2.1) (ret := j0.2.2.2) hpl rfl ?_
  intro p e s m args below meth c s₁ B hml hv
  obtain ⟨rfl, hsz, hP, hK, hD, hBg⟩ := hv
  subst hsz
  have hD := zk_A_D (sz := s.heap.size) rfl hD
  have hl := lv_entry (as.map (zk_cv E)) (n := j0.2.2.1) (by rw [zk_wds_sl as hnod]; exact hwds)
  have hl2 : lv_has _ j0.2.2.1 (zk_loc E (zk_L0 as j0.2.2.1)) := zk_has_sub hl (fun q hq => by
    obtain ⟨i, u⟩ := q
    obtain ⟨v, hv, rfl⟩ := zk_loc_mem.mp hq
    have := zk_L0_in (E := E) as j0.2.2.1 0 hnod i v hv
    rwa [Nat.zero_add] at this)
  rw [lg_entry_eq]
  have Fx : zk_Fx p s m (as.map (zk_cv E)).toArray meth c j0.1.cls j0 (zk_A E w.1.length s.heap.size) E := ⟨B.exec, B.bytes, hml, B.returns, B.notSynchronized, findClass_of_methodNamed B.named, atoms_spec (ws := zk_ws j0) B.pre, fun q hq => Or.inr hq, hK, hBg⟩
  exact hX (zk_Z p l e d s m (as.map (zk_cv E)).toArray below meth c w E j0.2.2.1 Q) (fun pc L st h hs => by
    unfold zk_Sp at hs
    split at hs
    next q hq => exact zk_S_sound Fx rfl hcl hjdk hmt hlk hcx (by omega) (hcd pc q hq) hs
    · exact hs.elim) s.heap [] _ hP hD va_S.rf hl2 (zk_L0_len as _ hwds)
end
