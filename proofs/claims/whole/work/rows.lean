section
-- ===== PART A: goes FIRST, ahead of the names: the tables' words, and 'selects' of the private methods out of them =====
/-- a private method of a class that the tables say can be made, by its rows of tables_1 -/
def lw_okq (q : MethodName × Nat) : Prop := (q.1.cls ≠ "java/lang/invoke/MethodHandle" ∧ q.1.cls ≠ "java/lang/invoke/VarHandle") ∧ Cond.instantiable q.1.cls q.2 ∈ tables_1 ∧ Cond.privateMethod q.1 ∈ tables_1 ∧ Cond.instanceMethod q.1 ∈ tables_1
theorem lw_p0 : lw_okq (⟨"CardUnsigned", "shelfAt", "(I)LCardUnsigned$Shelf;"⟩, 10) := ⟨⟨by decide +kernel, by decide +kernel⟩, List.mem_of_getElem? (i := 23) (by decide +kernel), List.mem_of_getElem? (i := 394) (by decide +kernel), List.mem_of_getElem? (i := 395) (by decide +kernel)⟩
theorem lw_p1 : lw_okq (⟨"CardUnsigned$Rows", "comesFrom", "(LCardUnsigned$Shelf;I)Z"⟩, 3) := ⟨⟨by decide +kernel, by decide +kernel⟩, List.mem_of_getElem? (i := 225) (by decide +kernel), List.mem_of_getElem? (i := 406) (by decide +kernel), List.mem_of_getElem? (i := 407) (by decide +kernel)⟩
theorem lw_p2 : lw_okq (⟨"CardUnsigned$Changes", "dropOldest", "()V"⟩, 7) := ⟨⟨by decide +kernel, by decide +kernel⟩, List.mem_of_getElem? (i := 65) (by decide +kernel), List.mem_of_getElem? (i := 450) (by decide +kernel), List.mem_of_getElem? (i := 451) (by decide +kernel)⟩
theorem lw_p3 : lw_okq (⟨"CardUnsigned$Parser", "begin", "()V"⟩, 12) := ⟨⟨by decide +kernel, by decide +kernel⟩, List.mem_of_getElem? (i := 95) (by decide +kernel), List.mem_of_getElem? (i := 477) (by decide +kernel), List.mem_of_getElem? (i := 478) (by decide +kernel)⟩
theorem lw_p4 : lw_okq (⟨"CardUnsigned$Parser", "takes", "(I)Z"⟩, 12) := ⟨⟨by decide +kernel, by decide +kernel⟩, List.mem_of_getElem? (i := 95) (by decide +kernel), List.mem_of_getElem? (i := 481) (by decide +kernel), List.mem_of_getElem? (i := 482) (by decide +kernel)⟩
theorem lw_p5 : lw_okq (⟨"CardUnsigned$Parser", "takesBehindOperand", "(I)Z"⟩, 12) := ⟨⟨by decide +kernel, by decide +kernel⟩, List.mem_of_getElem? (i := 95) (by decide +kernel), List.mem_of_getElem? (i := 485) (by decide +kernel), List.mem_of_getElem? (i := 486) (by decide +kernel)⟩
theorem lw_p6 : lw_okq (⟨"CardUnsigned$Parser", "closesBracket", "()Z"⟩, 12) := ⟨⟨by decide +kernel, by decide +kernel⟩, List.mem_of_getElem? (i := 95) (by decide +kernel), List.mem_of_getElem? (i := 489) (by decide +kernel), List.mem_of_getElem? (i := 490) (by decide +kernel)⟩
theorem lw_p7 : lw_okq (⟨"CardUnsigned$Parser", "emitWaiting", "(I)V"⟩, 12) := ⟨⟨by decide +kernel, by decide +kernel⟩, List.mem_of_getElem? (i := 95) (by decide +kernel), List.mem_of_getElem? (i := 493) (by decide +kernel), List.mem_of_getElem? (i := 494) (by decide +kernel)⟩
theorem lw_p8 : lw_okq (⟨"CardUnsigned$Parser", "rankOf", "(I)I"⟩, 12) := ⟨⟨by decide +kernel, by decide +kernel⟩, List.mem_of_getElem? (i := 95) (by decide +kernel), List.mem_of_getElem? (i := 497) (by decide +kernel), List.mem_of_getElem? (i := 498) (by decide +kernel)⟩
theorem lw_p9 : lw_okq (⟨"CardUnsigned$Parser", "emit", "(I)V"⟩, 12) := ⟨⟨by decide +kernel, by decide +kernel⟩, List.mem_of_getElem? (i := 95) (by decide +kernel), List.mem_of_getElem? (i := 501) (by decide +kernel), List.mem_of_getElem? (i := 502) (by decide +kernel)⟩
theorem lw_p10 : lw_okq (⟨"CardUnsigned$Parser", "endOperand", "()V"⟩, 12) := ⟨⟨by decide +kernel, by decide +kernel⟩, List.mem_of_getElem? (i := 95) (by decide +kernel), List.mem_of_getElem? (i := 505) (by decide +kernel), List.mem_of_getElem? (i := 506) (by decide +kernel)⟩
theorem lw_p11 : lw_okq (⟨"CardUnsigned$Parser", "endsExpression", "(IZ)Z"⟩, 12) := ⟨⟨by decide +kernel, by decide +kernel⟩, List.mem_of_getElem? (i := 95) (by decide +kernel), List.mem_of_getElem? (i := 509) (by decide +kernel), List.mem_of_getElem? (i := 510) (by decide +kernel)⟩
theorem lw_p12 : lw_okq (⟨"CardUnsigned$Parser", "takesBetween", "(I)Z"⟩, 12) := ⟨⟨by decide +kernel, by decide +kernel⟩, List.mem_of_getElem? (i := 95) (by decide +kernel), List.mem_of_getElem? (i := 513) (by decide +kernel), List.mem_of_getElem? (i := 514) (by decide +kernel)⟩
theorem lw_p13 : lw_okq (⟨"CardUnsigned$Parser", "await", "(I)V"⟩, 12) := ⟨⟨by decide +kernel, by decide +kernel⟩, List.mem_of_getElem? (i := 95) (by decide +kernel), List.mem_of_getElem? (i := 517) (by decide +kernel), List.mem_of_getElem? (i := 518) (by decide +kernel)⟩
theorem lw_p14 : lw_okq (⟨"CardUnsigned$Parser", "beginsNumber", "(I)Z"⟩, 12) := ⟨⟨by decide +kernel, by decide +kernel⟩, List.mem_of_getElem? (i := 95) (by decide +kernel), List.mem_of_getElem? (i := 521) (by decide +kernel), List.mem_of_getElem? (i := 522) (by decide +kernel)⟩
theorem lw_p15 : lw_okq (⟨"CardUnsigned$Parser", "takesAsOperand", "(I)Z"⟩, 12) := ⟨⟨by decide +kernel, by decide +kernel⟩, List.mem_of_getElem? (i := 95) (by decide +kernel), List.mem_of_getElem? (i := 525) (by decide +kernel), List.mem_of_getElem? (i := 526) (by decide +kernel)⟩
def lw_privs_1 : List (MethodName × Nat) := [(⟨"CardUnsigned", "shelfAt", "(I)LCardUnsigned$Shelf;"⟩, 10), (⟨"CardUnsigned$Rows", "comesFrom", "(LCardUnsigned$Shelf;I)Z"⟩, 3), (⟨"CardUnsigned$Changes", "dropOldest", "()V"⟩, 7), (⟨"CardUnsigned$Parser", "begin", "()V"⟩, 12), (⟨"CardUnsigned$Parser", "takes", "(I)Z"⟩, 12), (⟨"CardUnsigned$Parser", "takesBehindOperand", "(I)Z"⟩, 12), (⟨"CardUnsigned$Parser", "closesBracket", "()Z"⟩, 12), (⟨"CardUnsigned$Parser", "emitWaiting", "(I)V"⟩, 12), (⟨"CardUnsigned$Parser", "rankOf", "(I)I"⟩, 12), (⟨"CardUnsigned$Parser", "emit", "(I)V"⟩, 12), (⟨"CardUnsigned$Parser", "endOperand", "()V"⟩, 12), (⟨"CardUnsigned$Parser", "endsExpression", "(IZ)Z"⟩, 12), (⟨"CardUnsigned$Parser", "takesBetween", "(I)Z"⟩, 12), (⟨"CardUnsigned$Parser", "await", "(I)V"⟩, 12), (⟨"CardUnsigned$Parser", "beginsNumber", "(I)Z"⟩, 12), (⟨"CardUnsigned$Parser", "takesAsOperand", "(I)Z"⟩, 12)]
theorem lw_r1 : ∀ q ∈ lw_privs_1, lw_okq q := List.forall_mem_cons.mpr ⟨lw_p0, List.forall_mem_cons.mpr ⟨lw_p1, List.forall_mem_cons.mpr ⟨lw_p2, List.forall_mem_cons.mpr ⟨lw_p3, List.forall_mem_cons.mpr ⟨lw_p4, List.forall_mem_cons.mpr ⟨lw_p5, List.forall_mem_cons.mpr ⟨lw_p6, List.forall_mem_cons.mpr ⟨lw_p7, List.forall_mem_cons.mpr ⟨lw_p8, List.forall_mem_cons.mpr ⟨lw_p9, List.forall_mem_cons.mpr ⟨lw_p10, List.forall_mem_cons.mpr ⟨lw_p11, List.forall_mem_cons.mpr ⟨lw_p12, List.forall_mem_cons.mpr ⟨lw_p13, List.forall_mem_cons.mpr ⟨lw_p14, List.forall_mem_cons.mpr ⟨lw_p15, fun _ h => absurd h List.not_mem_nil⟩⟩⟩⟩⟩⟩⟩⟩⟩⟩⟩⟩⟩⟩⟩⟩
theorem lw_p16 : lw_okq (⟨"CardUnsigned$Office", "whoIsIn", "(I)I"⟩, 3) := ⟨⟨by decide +kernel, by decide +kernel⟩, List.mem_of_getElem? (i := 31) (by decide +kernel), List.mem_of_getElem? (i := 637) (by decide +kernel), List.mem_of_getElem? (i := 638) (by decide +kernel)⟩
theorem lw_p17 : lw_okq (⟨"CardUnsigned$Thought", "countFor", "(II)I"⟩, 6) := ⟨⟨by decide +kernel, by decide +kernel⟩, List.mem_of_getElem? (i := 157) (by decide +kernel), List.mem_of_getElem? (i := 665) (by decide +kernel), List.mem_of_getElem? (i := 666) (by decide +kernel)⟩
theorem lw_p18 : lw_okq (⟨"CardUnsigned$Thought", "likenessOfHand", "(II)I"⟩, 6) := ⟨⟨by decide +kernel, by decide +kernel⟩, List.mem_of_getElem? (i := 157) (by decide +kernel), List.mem_of_getElem? (i := 673) (by decide +kernel), List.mem_of_getElem? (i := 674) (by decide +kernel)⟩
theorem lw_p19 : lw_okq (⟨"CardUnsigned$Law", "operandsOf", "(I)I"⟩, 3) := ⟨⟨by decide +kernel, by decide +kernel⟩, List.mem_of_getElem? (i := 141) (by decide +kernel), List.mem_of_getElem? (i := 685) (by decide +kernel), List.mem_of_getElem? (i := 686) (by decide +kernel)⟩
theorem lw_p20 : lw_okq (⟨"CardUnsigned$Law", "worked", "(III)I"⟩, 3) := ⟨⟨by decide +kernel, by decide +kernel⟩, List.mem_of_getElem? (i := 141) (by decide +kernel), List.mem_of_getElem? (i := 690) (by decide +kernel), List.mem_of_getElem? (i := 691) (by decide +kernel)⟩
theorem lw_p21 : lw_okq (⟨"CardUnsigned$Thought", "valueWithoutLaw", "()I"⟩, 6) := ⟨⟨by decide +kernel, by decide +kernel⟩, List.mem_of_getElem? (i := 157) (by decide +kernel), List.mem_of_getElem? (i := 694) (by decide +kernel), List.mem_of_getElem? (i := 695) (by decide +kernel)⟩
theorem lw_p22 : lw_okq (⟨"CardUnsigned$Thought", "greatestDivisor", "(II)I"⟩, 6) := ⟨⟨by decide +kernel, by decide +kernel⟩, List.mem_of_getElem? (i := 157) (by decide +kernel), List.mem_of_getElem? (i := 712) (by decide +kernel), List.mem_of_getElem? (i := 713) (by decide +kernel)⟩
theorem lw_p23 : lw_okq (⟨"CardUnsigned$Thought", "couldAllBeBy", "(II)Z"⟩, 6) := ⟨⟨by decide +kernel, by decide +kernel⟩, List.mem_of_getElem? (i := 157) (by decide +kernel), List.mem_of_getElem? (i := 753) (by decide +kernel), List.mem_of_getElem? (i := 754) (by decide +kernel)⟩
theorem lw_p24 : lw_okq (⟨"CardUnsigned$Thought", "addWriter", "(I)I"⟩, 6) := ⟨⟨by decide +kernel, by decide +kernel⟩, List.mem_of_getElem? (i := 157) (by decide +kernel), List.mem_of_getElem? (i := 767) (by decide +kernel), List.mem_of_getElem? (i := 768) (by decide +kernel)⟩
theorem lw_p25 : lw_okq (⟨"CardUnsigned$Office", "toldOn", "(I)I"⟩, 3) := ⟨⟨by decide +kernel, by decide +kernel⟩, List.mem_of_getElem? (i := 31) (by decide +kernel), List.mem_of_getElem? (i := 783) (by decide +kernel), List.mem_of_getElem? (i := 784) (by decide +kernel)⟩
theorem lw_p26 : lw_okq (⟨"CardUnsigned$Plans", "sumOfYes", "(II)I"⟩, 6) := ⟨⟨by decide +kernel, by decide +kernel⟩, List.mem_of_getElem? (i := 197) (by decide +kernel), List.mem_of_getElem? (i := 804) (by decide +kernel), List.mem_of_getElem? (i := 805) (by decide +kernel)⟩
theorem lw_p27 : lw_okq (⟨"CardUnsigned$Plans", "saysYes", "(III)Z"⟩, 6) := ⟨⟨by decide +kernel, by decide +kernel⟩, List.mem_of_getElem? (i := 197) (by decide +kernel), List.mem_of_getElem? (i := 808) (by decide +kernel), List.mem_of_getElem? (i := 809) (by decide +kernel)⟩
theorem lw_p28 : lw_okq (⟨"CardUnsigned$Plans", "weighWay", "(III)V"⟩, 6) := ⟨⟨by decide +kernel, by decide +kernel⟩, List.mem_of_getElem? (i := 197) (by decide +kernel), List.mem_of_getElem? (i := 859) (by decide +kernel), List.mem_of_getElem? (i := 860) (by decide +kernel)⟩
theorem lw_p29 : lw_okq (⟨"CardUnsigned$Rows", "canBe", "(II)Z"⟩, 3) := ⟨⟨by decide +kernel, by decide +kernel⟩, List.mem_of_getElem? (i := 225) (by decide +kernel), List.mem_of_getElem? (i := 903) (by decide +kernel), List.mem_of_getElem? (i := 904) (by decide +kernel)⟩
theorem lw_p30 : lw_okq (⟨"CardUnsigned$Rows", "waysToFill", "(II)I"⟩, 3) := ⟨⟨by decide +kernel, by decide +kernel⟩, List.mem_of_getElem? (i := 225) (by decide +kernel), List.mem_of_getElem? (i := 917) (by decide +kernel), List.mem_of_getElem? (i := 918) (by decide +kernel)⟩
theorem lw_p31 : lw_okq (⟨"CardUnsigned$Rows", "countsTogether", "(II)I"⟩, 3) := ⟨⟨by decide +kernel, by decide +kernel⟩, List.mem_of_getElem? (i := 225) (by decide +kernel), List.mem_of_getElem? (i := 922) (by decide +kernel), List.mem_of_getElem? (i := 923) (by decide +kernel)⟩
def lw_privs_2 : List (MethodName × Nat) := [(⟨"CardUnsigned$Office", "whoIsIn", "(I)I"⟩, 3), (⟨"CardUnsigned$Thought", "countFor", "(II)I"⟩, 6), (⟨"CardUnsigned$Thought", "likenessOfHand", "(II)I"⟩, 6), (⟨"CardUnsigned$Law", "operandsOf", "(I)I"⟩, 3), (⟨"CardUnsigned$Law", "worked", "(III)I"⟩, 3), (⟨"CardUnsigned$Thought", "valueWithoutLaw", "()I"⟩, 6), (⟨"CardUnsigned$Thought", "greatestDivisor", "(II)I"⟩, 6), (⟨"CardUnsigned$Thought", "couldAllBeBy", "(II)Z"⟩, 6), (⟨"CardUnsigned$Thought", "addWriter", "(I)I"⟩, 6), (⟨"CardUnsigned$Office", "toldOn", "(I)I"⟩, 3), (⟨"CardUnsigned$Plans", "sumOfYes", "(II)I"⟩, 6), (⟨"CardUnsigned$Plans", "saysYes", "(III)Z"⟩, 6), (⟨"CardUnsigned$Plans", "weighWay", "(III)V"⟩, 6), (⟨"CardUnsigned$Rows", "canBe", "(II)Z"⟩, 3), (⟨"CardUnsigned$Rows", "waysToFill", "(II)I"⟩, 3), (⟨"CardUnsigned$Rows", "countsTogether", "(II)I"⟩, 3)]
theorem lw_r2 : ∀ q ∈ lw_privs_2, lw_okq q := List.forall_mem_cons.mpr ⟨lw_p16, List.forall_mem_cons.mpr ⟨lw_p17, List.forall_mem_cons.mpr ⟨lw_p18, List.forall_mem_cons.mpr ⟨lw_p19, List.forall_mem_cons.mpr ⟨lw_p20, List.forall_mem_cons.mpr ⟨lw_p21, List.forall_mem_cons.mpr ⟨lw_p22, List.forall_mem_cons.mpr ⟨lw_p23, List.forall_mem_cons.mpr ⟨lw_p24, List.forall_mem_cons.mpr ⟨lw_p25, List.forall_mem_cons.mpr ⟨lw_p26, List.forall_mem_cons.mpr ⟨lw_p27, List.forall_mem_cons.mpr ⟨lw_p28, List.forall_mem_cons.mpr ⟨lw_p29, List.forall_mem_cons.mpr ⟨lw_p30, List.forall_mem_cons.mpr ⟨lw_p31, fun _ h => absurd h List.not_mem_nil⟩⟩⟩⟩⟩⟩⟩⟩⟩⟩⟩⟩⟩⟩⟩⟩
theorem lw_p32 : lw_okq (⟨"CardUnsigned$Plans", "whoIsAt", "(I)I"⟩, 6) := ⟨⟨by decide +kernel, by decide +kernel⟩, List.mem_of_getElem? (i := 197) (by decide +kernel), List.mem_of_getElem? (i := 948) (by decide +kernel), List.mem_of_getElem? (i := 949) (by decide +kernel)⟩
theorem lw_p33 : lw_okq (⟨"CardUnsigned$Bodies", "own", "(III)I"⟩, 5) := ⟨⟨by decide +kernel, by decide +kernel⟩, List.mem_of_getElem? (i := 287) (by decide +kernel), List.mem_of_getElem? (i := 1043) (by decide +kernel), List.mem_of_getElem? (i := 1044) (by decide +kernel)⟩
theorem lw_p34 : lw_okq (⟨"CardUnsigned$Bodies", "bodyFrom", "(II)I"⟩, 5) := ⟨⟨by decide +kernel, by decide +kernel⟩, List.mem_of_getElem? (i := 287) (by decide +kernel), List.mem_of_getElem? (i := 1047) (by decide +kernel), List.mem_of_getElem? (i := 1048) (by decide +kernel)⟩
theorem lw_p35 : lw_okq (⟨"CardUnsigned$Bodies", "run", "(III)I"⟩, 5) := ⟨⟨by decide +kernel, by decide +kernel⟩, List.mem_of_getElem? (i := 287) (by decide +kernel), List.mem_of_getElem? (i := 1055) (by decide +kernel), List.mem_of_getElem? (i := 1056) (by decide +kernel)⟩
theorem lw_p36 : lw_okq (⟨"CardUnsigned$Bodies", "above", "(IIII)I"⟩, 5) := ⟨⟨by decide +kernel, by decide +kernel⟩, List.mem_of_getElem? (i := 287) (by decide +kernel), List.mem_of_getElem? (i := 1059) (by decide +kernel), List.mem_of_getElem? (i := 1060) (by decide +kernel)⟩
theorem lw_p37 : lw_okq (⟨"CardUnsignedModel", "newPerson", "(III)I"⟩, 56) := ⟨⟨by decide +kernel, by decide +kernel⟩, List.mem_of_getElem? (i := 1129) (by decide +kernel), List.mem_of_getElem? (i := 1311) (by decide +kernel), List.mem_of_getElem? (i := 1312) (by decide +kernel)⟩
theorem lw_p38 : lw_okq (⟨"CardUnsignedModel", "isOne", "(I)Z"⟩, 56) := ⟨⟨by decide +kernel, by decide +kernel⟩, List.mem_of_getElem? (i := 1129) (by decide +kernel), List.mem_of_getElem? (i := 1327) (by decide +kernel), List.mem_of_getElem? (i := 1328) (by decide +kernel)⟩
theorem lw_p39 : lw_okq (⟨"CardUnsignedModel", "newCard", "(III)I"⟩, 56) := ⟨⟨by decide +kernel, by decide +kernel⟩, List.mem_of_getElem? (i := 1129) (by decide +kernel), List.mem_of_getElem? (i := 1334) (by decide +kernel), List.mem_of_getElem? (i := 1335) (by decide +kernel)⟩
theorem lw_p40 : lw_okq (⟨"CardUnsignedModel", "tells", "(II)V"⟩, 56) := ⟨⟨by decide +kernel, by decide +kernel⟩, List.mem_of_getElem? (i := 1129) (by decide +kernel), List.mem_of_getElem? (i := 1338) (by decide +kernel), List.mem_of_getElem? (i := 1339) (by decide +kernel)⟩
theorem lw_p41 : lw_okq (⟨"CardUnsignedModel", "isOf", "(II)Z"⟩, 56) := ⟨⟨by decide +kernel, by decide +kernel⟩, List.mem_of_getElem? (i := 1129) (by decide +kernel), List.mem_of_getElem? (i := 1346) (by decide +kernel), List.mem_of_getElem? (i := 1347) (by decide +kernel)⟩
theorem lw_p42 : lw_okq (⟨"CardUnsignedModel", "isCard", "(I)Z"⟩, 56) := ⟨⟨by decide +kernel, by decide +kernel⟩, List.mem_of_getElem? (i := 1129) (by decide +kernel), List.mem_of_getElem? (i := 1350) (by decide +kernel), List.mem_of_getElem? (i := 1351) (by decide +kernel)⟩
theorem lw_p43 : lw_okq (⟨"CardUnsignedModel", "get", "(II)I"⟩, 56) := ⟨⟨by decide +kernel, by decide +kernel⟩, List.mem_of_getElem? (i := 1129) (by decide +kernel), List.mem_of_getElem? (i := 1361) (by decide +kernel), List.mem_of_getElem? (i := 1362) (by decide +kernel)⟩
theorem lw_p44 : lw_okq (⟨"CardUnsignedModel", "becomes", "(III)V"⟩, 56) := ⟨⟨by decide +kernel, by decide +kernel⟩, List.mem_of_getElem? (i := 1129) (by decide +kernel), List.mem_of_getElem? (i := 1365) (by decide +kernel), List.mem_of_getElem? (i := 1366) (by decide +kernel)⟩
theorem lw_p45 : lw_okq (⟨"CardUnsignedModel", "isLine", "()Z"⟩, 56) := ⟨⟨by decide +kernel, by decide +kernel⟩, List.mem_of_getElem? (i := 1129) (by decide +kernel), List.mem_of_getElem? (i := 1389) (by decide +kernel), List.mem_of_getElem? (i := 1390) (by decide +kernel)⟩
theorem lw_p46 : lw_okq (⟨"CardUnsignedModel", "isE", "()Z"⟩, 56) := ⟨⟨by decide +kernel, by decide +kernel⟩, List.mem_of_getElem? (i := 1129) (by decide +kernel), List.mem_of_getElem? (i := 1393) (by decide +kernel), List.mem_of_getElem? (i := 1394) (by decide +kernel)⟩
theorem lw_p47 : lw_okq (⟨"CardUnsignedModel", "isA", "()Z"⟩, 56) := ⟨⟨by decide +kernel, by decide +kernel⟩, List.mem_of_getElem? (i := 1129) (by decide +kernel), List.mem_of_getElem? (i := 1397) (by decide +kernel), List.mem_of_getElem? (i := 1398) (by decide +kernel)⟩
def lw_privs_3 : List (MethodName × Nat) := [(⟨"CardUnsigned$Plans", "whoIsAt", "(I)I"⟩, 6), (⟨"CardUnsigned$Bodies", "own", "(III)I"⟩, 5), (⟨"CardUnsigned$Bodies", "bodyFrom", "(II)I"⟩, 5), (⟨"CardUnsigned$Bodies", "run", "(III)I"⟩, 5), (⟨"CardUnsigned$Bodies", "above", "(IIII)I"⟩, 5), (⟨"CardUnsignedModel", "newPerson", "(III)I"⟩, 56), (⟨"CardUnsignedModel", "isOne", "(I)Z"⟩, 56), (⟨"CardUnsignedModel", "newCard", "(III)I"⟩, 56), (⟨"CardUnsignedModel", "tells", "(II)V"⟩, 56), (⟨"CardUnsignedModel", "isOf", "(II)Z"⟩, 56), (⟨"CardUnsignedModel", "isCard", "(I)Z"⟩, 56), (⟨"CardUnsignedModel", "get", "(II)I"⟩, 56), (⟨"CardUnsignedModel", "becomes", "(III)V"⟩, 56), (⟨"CardUnsignedModel", "isLine", "()Z"⟩, 56), (⟨"CardUnsignedModel", "isE", "()Z"⟩, 56), (⟨"CardUnsignedModel", "isA", "()Z"⟩, 56)]
theorem lw_r3 : ∀ q ∈ lw_privs_3, lw_okq q := List.forall_mem_cons.mpr ⟨lw_p32, List.forall_mem_cons.mpr ⟨lw_p33, List.forall_mem_cons.mpr ⟨lw_p34, List.forall_mem_cons.mpr ⟨lw_p35, List.forall_mem_cons.mpr ⟨lw_p36, List.forall_mem_cons.mpr ⟨lw_p37, List.forall_mem_cons.mpr ⟨lw_p38, List.forall_mem_cons.mpr ⟨lw_p39, List.forall_mem_cons.mpr ⟨lw_p40, List.forall_mem_cons.mpr ⟨lw_p41, List.forall_mem_cons.mpr ⟨lw_p42, List.forall_mem_cons.mpr ⟨lw_p43, List.forall_mem_cons.mpr ⟨lw_p44, List.forall_mem_cons.mpr ⟨lw_p45, List.forall_mem_cons.mpr ⟨lw_p46, List.forall_mem_cons.mpr ⟨lw_p47, fun _ h => absurd h List.not_mem_nil⟩⟩⟩⟩⟩⟩⟩⟩⟩⟩⟩⟩⟩⟩⟩⟩
theorem lw_p48 : lw_okq (⟨"CardUnsignedModel", "isB", "()Z"⟩, 56) := ⟨⟨by decide +kernel, by decide +kernel⟩, List.mem_of_getElem? (i := 1129) (by decide +kernel), List.mem_of_getElem? (i := 1401) (by decide +kernel), List.mem_of_getElem? (i := 1402) (by decide +kernel)⟩
theorem lw_p49 : lw_okq (⟨"CardUnsignedModel", "isS", "()Z"⟩, 56) := ⟨⟨by decide +kernel, by decide +kernel⟩, List.mem_of_getElem? (i := 1129) (by decide +kernel), List.mem_of_getElem? (i := 1405) (by decide +kernel), List.mem_of_getElem? (i := 1406) (by decide +kernel)⟩
theorem lw_p50 : lw_okq (⟨"CardUnsignedModel", "isP", "()Z"⟩, 56) := ⟨⟨by decide +kernel, by decide +kernel⟩, List.mem_of_getElem? (i := 1129) (by decide +kernel), List.mem_of_getElem? (i := 1409) (by decide +kernel), List.mem_of_getElem? (i := 1410) (by decide +kernel)⟩
theorem lw_p51 : lw_okq (⟨"CardUnsignedModel", "isO", "()Z"⟩, 56) := ⟨⟨by decide +kernel, by decide +kernel⟩, List.mem_of_getElem? (i := 1129) (by decide +kernel), List.mem_of_getElem? (i := 1413) (by decide +kernel), List.mem_of_getElem? (i := 1414) (by decide +kernel)⟩
theorem lw_p52 : lw_okq (⟨"CardUnsignedModel", "isDigit", "()Z"⟩, 56) := ⟨⟨by decide +kernel, by decide +kernel⟩, List.mem_of_getElem? (i := 1129) (by decide +kernel), List.mem_of_getElem? (i := 1417) (by decide +kernel), List.mem_of_getElem? (i := 1418) (by decide +kernel)⟩
theorem lw_p53 : lw_okq (⟨"CardUnsignedModel", "sign", "()I"⟩, 56) := ⟨⟨by decide +kernel, by decide +kernel⟩, List.mem_of_getElem? (i := 1129) (by decide +kernel), List.mem_of_getElem? (i := 1421) (by decide +kernel), List.mem_of_getElem? (i := 1422) (by decide +kernel)⟩
theorem lw_p54 : lw_okq (⟨"CardUnsignedModel", "codes", "(I)Z"⟩, 56) := ⟨⟨by decide +kernel, by decide +kernel⟩, List.mem_of_getElem? (i := 1129) (by decide +kernel), List.mem_of_getElem? (i := 1425) (by decide +kernel), List.mem_of_getElem? (i := 1426) (by decide +kernel)⟩
theorem lw_p55 : lw_okq (⟨"CardUnsignedModel", "is", "(I)Z"⟩, 56) := ⟨⟨by decide +kernel, by decide +kernel⟩, List.mem_of_getElem? (i := 1129) (by decide +kernel), List.mem_of_getElem? (i := 1432) (by decide +kernel), List.mem_of_getElem? (i := 1433) (by decide +kernel)⟩
theorem lw_p56 : lw_okq (⟨"CardUnsignedModel", "couldAll", "(I)I"⟩, 56) := ⟨⟨by decide +kernel, by decide +kernel⟩, List.mem_of_getElem? (i := 1129) (by decide +kernel), List.mem_of_getElem? (i := 1440) (by decide +kernel), List.mem_of_getElem? (i := 1441) (by decide +kernel)⟩
theorem lw_p57 : lw_okq (⟨"CardUnsignedModel", "could", "(II)Z"⟩, 56) := ⟨⟨by decide +kernel, by decide +kernel⟩, List.mem_of_getElem? (i := 1129) (by decide +kernel), List.mem_of_getElem? (i := 1444) (by decide +kernel), List.mem_of_getElem? (i := 1445) (by decide +kernel)⟩
theorem lw_p58 : lw_okq (⟨"CardUnsignedModel", "isIn", "(II)Z"⟩, 56) := ⟨⟨by decide +kernel, by decide +kernel⟩, List.mem_of_getElem? (i := 1129) (by decide +kernel), List.mem_of_getElem? (i := 1451) (by decide +kernel), List.mem_of_getElem? (i := 1452) (by decide +kernel)⟩
theorem lw_p59 : lw_okq (⟨"CardUnsignedModel", "isCardOf", "(I)Z"⟩, 56) := ⟨⟨by decide +kernel, by decide +kernel⟩, List.mem_of_getElem? (i := 1129) (by decide +kernel), List.mem_of_getElem? (i := 1459) (by decide +kernel), List.mem_of_getElem? (i := 1460) (by decide +kernel)⟩
theorem lw_p60 : lw_okq (⟨"CardUnsignedModel", "counted", "(II)I"⟩, 56) := ⟨⟨by decide +kernel, by decide +kernel⟩, List.mem_of_getElem? (i := 1129) (by decide +kernel), List.mem_of_getElem? (i := 1463) (by decide +kernel), List.mem_of_getElem? (i := 1464) (by decide +kernel)⟩
theorem lw_p61 : lw_okq (⟨"CardUnsignedModel", "knowers", "(I)I"⟩, 56) := ⟨⟨by decide +kernel, by decide +kernel⟩, List.mem_of_getElem? (i := 1129) (by decide +kernel), List.mem_of_getElem? (i := 1467) (by decide +kernel), List.mem_of_getElem? (i := 1468) (by decide +kernel)⟩
theorem lw_p62 : lw_okq (⟨"CardUnsignedModel", "worked", "(II)I"⟩, 56) := ⟨⟨by decide +kernel, by decide +kernel⟩, List.mem_of_getElem? (i := 1129) (by decide +kernel), List.mem_of_getElem? (i := 1472) (by decide +kernel), List.mem_of_getElem? (i := 1473) (by decide +kernel)⟩
theorem lw_p63 : lw_okq (⟨"CardUnsignedModel", "countedAll", "(I)I"⟩, 56) := ⟨⟨by decide +kernel, by decide +kernel⟩, List.mem_of_getElem? (i := 1129) (by decide +kernel), List.mem_of_getElem? (i := 1484) (by decide +kernel), List.mem_of_getElem? (i := 1485) (by decide +kernel)⟩
def lw_privs_4 : List (MethodName × Nat) := [(⟨"CardUnsignedModel", "isB", "()Z"⟩, 56), (⟨"CardUnsignedModel", "isS", "()Z"⟩, 56), (⟨"CardUnsignedModel", "isP", "()Z"⟩, 56), (⟨"CardUnsignedModel", "isO", "()Z"⟩, 56), (⟨"CardUnsignedModel", "isDigit", "()Z"⟩, 56), (⟨"CardUnsignedModel", "sign", "()I"⟩, 56), (⟨"CardUnsignedModel", "codes", "(I)Z"⟩, 56), (⟨"CardUnsignedModel", "is", "(I)Z"⟩, 56), (⟨"CardUnsignedModel", "couldAll", "(I)I"⟩, 56), (⟨"CardUnsignedModel", "could", "(II)Z"⟩, 56), (⟨"CardUnsignedModel", "isIn", "(II)Z"⟩, 56), (⟨"CardUnsignedModel", "isCardOf", "(I)Z"⟩, 56), (⟨"CardUnsignedModel", "counted", "(II)I"⟩, 56), (⟨"CardUnsignedModel", "knowers", "(I)I"⟩, 56), (⟨"CardUnsignedModel", "worked", "(II)I"⟩, 56), (⟨"CardUnsignedModel", "countedAll", "(I)I"⟩, 56)]
theorem lw_r4 : ∀ q ∈ lw_privs_4, lw_okq q := List.forall_mem_cons.mpr ⟨lw_p48, List.forall_mem_cons.mpr ⟨lw_p49, List.forall_mem_cons.mpr ⟨lw_p50, List.forall_mem_cons.mpr ⟨lw_p51, List.forall_mem_cons.mpr ⟨lw_p52, List.forall_mem_cons.mpr ⟨lw_p53, List.forall_mem_cons.mpr ⟨lw_p54, List.forall_mem_cons.mpr ⟨lw_p55, List.forall_mem_cons.mpr ⟨lw_p56, List.forall_mem_cons.mpr ⟨lw_p57, List.forall_mem_cons.mpr ⟨lw_p58, List.forall_mem_cons.mpr ⟨lw_p59, List.forall_mem_cons.mpr ⟨lw_p60, List.forall_mem_cons.mpr ⟨lw_p61, List.forall_mem_cons.mpr ⟨lw_p62, List.forall_mem_cons.mpr ⟨lw_p63, fun _ h => absurd h List.not_mem_nil⟩⟩⟩⟩⟩⟩⟩⟩⟩⟩⟩⟩⟩⟩⟩⟩
theorem lw_p64 : lw_okq (⟨"CardUnsignedModel", "likeliest", "(I)I"⟩, 56) := ⟨⟨by decide +kernel, by decide +kernel⟩, List.mem_of_getElem? (i := 1129) (by decide +kernel), List.mem_of_getElem? (i := 1496) (by decide +kernel), List.mem_of_getElem? (i := 1497) (by decide +kernel)⟩
theorem lw_p65 : lw_okq (⟨"CardUnsignedModel", "sure", "(I)I"⟩, 56) := ⟨⟨by decide +kernel, by decide +kernel⟩, List.mem_of_getElem? (i := 1129) (by decide +kernel), List.mem_of_getElem? (i := 1500) (by decide +kernel), List.mem_of_getElem? (i := 1501) (by decide +kernel)⟩
theorem lw_p66 : lw_okq (⟨"CardUnsignedModel", "areCards", "(I)Z"⟩, 56) := ⟨⟨by decide +kernel, by decide +kernel⟩, List.mem_of_getElem? (i := 1129) (by decide +kernel), List.mem_of_getElem? (i := 1508) (by decide +kernel), List.mem_of_getElem? (i := 1509) (by decide +kernel)⟩
theorem lw_p67 : lw_okq (⟨"CardUnsignedModel", "areHands", "(II)Z"⟩, 56) := ⟨⟨by decide +kernel, by decide +kernel⟩, List.mem_of_getElem? (i := 1129) (by decide +kernel), List.mem_of_getElem? (i := 1517) (by decide +kernel), List.mem_of_getElem? (i := 1518) (by decide +kernel)⟩
theorem lw_p68 : lw_okq (⟨"CardUnsignedModel", "unlikes", "(III)I"⟩, 56) := ⟨⟨by decide +kernel, by decide +kernel⟩, List.mem_of_getElem? (i := 1129) (by decide +kernel), List.mem_of_getElem? (i := 1525) (by decide +kernel), List.mem_of_getElem? (i := 1526) (by decide +kernel)⟩
theorem lw_p69 : lw_okq (⟨"CardUnsignedModel", "tellsOn", "(I)V"⟩, 56) := ⟨⟨by decide +kernel, by decide +kernel⟩, List.mem_of_getElem? (i := 1129) (by decide +kernel), List.mem_of_getElem? (i := 1536) (by decide +kernel), List.mem_of_getElem? (i := 1537) (by decide +kernel)⟩
theorem lw_p70 : lw_okq (⟨"CardUnsignedModel", "greater", "(II)I"⟩, 56) := ⟨⟨by decide +kernel, by decide +kernel⟩, List.mem_of_getElem? (i := 1129) (by decide +kernel), List.mem_of_getElem? (i := 1548) (by decide +kernel), List.mem_of_getElem? (i := 1549) (by decide +kernel)⟩
theorem lw_p71 : lw_okq (⟨"CardUnsignedModel", "saysYes", "(III)Z"⟩, 56) := ⟨⟨by decide +kernel, by decide +kernel⟩, List.mem_of_getElem? (i := 1129) (by decide +kernel), List.mem_of_getElem? (i := 1552) (by decide +kernel), List.mem_of_getElem? (i := 1553) (by decide +kernel)⟩
theorem lw_p72 : lw_okq (⟨"CardUnsignedModel", "worthOf", "(II)I"⟩, 56) := ⟨⟨by decide +kernel, by decide +kernel⟩, List.mem_of_getElem? (i := 1129) (by decide +kernel), List.mem_of_getElem? (i := 1560) (by decide +kernel), List.mem_of_getElem? (i := 1561) (by decide +kernel)⟩
theorem lw_p73 : lw_okq (⟨"CardUnsignedModel", "areTwo", "(I)Z"⟩, 56) := ⟨⟨by decide +kernel, by decide +kernel⟩, List.mem_of_getElem? (i := 1129) (by decide +kernel), List.mem_of_getElem? (i := 1576) (by decide +kernel), List.mem_of_getElem? (i := 1577) (by decide +kernel)⟩
theorem lw_p74 : lw_okq (⟨"CardUnsignedModel", "writes", "(IIII)V"⟩, 56) := ⟨⟨by decide +kernel, by decide +kernel⟩, List.mem_of_getElem? (i := 1129) (by decide +kernel), List.mem_of_getElem? (i := 1580) (by decide +kernel), List.mem_of_getElem? (i := 1581) (by decide +kernel)⟩
theorem lw_p75 : lw_okq (⟨"CardUnsignedModel", "noRow", "(II)I"⟩, 56) := ⟨⟨by decide +kernel, by decide +kernel⟩, List.mem_of_getElem? (i := 1129) (by decide +kernel), List.mem_of_getElem? (i := 1592) (by decide +kernel), List.mem_of_getElem? (i := 1593) (by decide +kernel)⟩
theorem lw_p76 : lw_okq (⟨"CardUnsignedModel", "lookedFrom", "(II)V"⟩, 56) := ⟨⟨by decide +kernel, by decide +kernel⟩, List.mem_of_getElem? (i := 1129) (by decide +kernel), List.mem_of_getElem? (i := 1596) (by decide +kernel), List.mem_of_getElem? (i := 1597) (by decide +kernel)⟩
theorem lw_p77 : lw_okq (⟨"CardUnsignedModel", "toldAt", "(II)I"⟩, 56) := ⟨⟨by decide +kernel, by decide +kernel⟩, List.mem_of_getElem? (i := 1129) (by decide +kernel), List.mem_of_getElem? (i := 1600) (by decide +kernel), List.mem_of_getElem? (i := 1601) (by decide +kernel)⟩
theorem lw_p78 : lw_okq (⟨"CardUnsignedModel", "most", "()I"⟩, 56) := ⟨⟨by decide +kernel, by decide +kernel⟩, List.mem_of_getElem? (i := 1129) (by decide +kernel), List.mem_of_getElem? (i := 1604) (by decide +kernel), List.mem_of_getElem? (i := 1605) (by decide +kernel)⟩
theorem lw_p79 : lw_okq (⟨"CardUnsignedModel", "strange", "(I)I"⟩, 56) := ⟨⟨by decide +kernel, by decide +kernel⟩, List.mem_of_getElem? (i := 1129) (by decide +kernel), List.mem_of_getElem? (i := 1608) (by decide +kernel), List.mem_of_getElem? (i := 1609) (by decide +kernel)⟩
def lw_privs_5 : List (MethodName × Nat) := [(⟨"CardUnsignedModel", "likeliest", "(I)I"⟩, 56), (⟨"CardUnsignedModel", "sure", "(I)I"⟩, 56), (⟨"CardUnsignedModel", "areCards", "(I)Z"⟩, 56), (⟨"CardUnsignedModel", "areHands", "(II)Z"⟩, 56), (⟨"CardUnsignedModel", "unlikes", "(III)I"⟩, 56), (⟨"CardUnsignedModel", "tellsOn", "(I)V"⟩, 56), (⟨"CardUnsignedModel", "greater", "(II)I"⟩, 56), (⟨"CardUnsignedModel", "saysYes", "(III)Z"⟩, 56), (⟨"CardUnsignedModel", "worthOf", "(II)I"⟩, 56), (⟨"CardUnsignedModel", "areTwo", "(I)Z"⟩, 56), (⟨"CardUnsignedModel", "writes", "(IIII)V"⟩, 56), (⟨"CardUnsignedModel", "noRow", "(II)I"⟩, 56), (⟨"CardUnsignedModel", "lookedFrom", "(II)V"⟩, 56), (⟨"CardUnsignedModel", "toldAt", "(II)I"⟩, 56), (⟨"CardUnsignedModel", "most", "()I"⟩, 56), (⟨"CardUnsignedModel", "strange", "(I)I"⟩, 56)]
theorem lw_r5 : ∀ q ∈ lw_privs_5, lw_okq q := List.forall_mem_cons.mpr ⟨lw_p64, List.forall_mem_cons.mpr ⟨lw_p65, List.forall_mem_cons.mpr ⟨lw_p66, List.forall_mem_cons.mpr ⟨lw_p67, List.forall_mem_cons.mpr ⟨lw_p68, List.forall_mem_cons.mpr ⟨lw_p69, List.forall_mem_cons.mpr ⟨lw_p70, List.forall_mem_cons.mpr ⟨lw_p71, List.forall_mem_cons.mpr ⟨lw_p72, List.forall_mem_cons.mpr ⟨lw_p73, List.forall_mem_cons.mpr ⟨lw_p74, List.forall_mem_cons.mpr ⟨lw_p75, List.forall_mem_cons.mpr ⟨lw_p76, List.forall_mem_cons.mpr ⟨lw_p77, List.forall_mem_cons.mpr ⟨lw_p78, List.forall_mem_cons.mpr ⟨lw_p79, fun _ h => absurd h List.not_mem_nil⟩⟩⟩⟩⟩⟩⟩⟩⟩⟩⟩⟩⟩⟩⟩⟩
theorem lw_p80 : lw_okq (⟨"CardUnsignedModel", "wrong", "(I)I"⟩, 56) := ⟨⟨by decide +kernel, by decide +kernel⟩, List.mem_of_getElem? (i := 1129) (by decide +kernel), List.mem_of_getElem? (i := 1620) (by decide +kernel), List.mem_of_getElem? (i := 1621) (by decide +kernel)⟩
theorem lw_p81 : lw_okq (⟨"CardUnsignedModel", "canBe", "(II)Z"⟩, 56) := ⟨⟨by decide +kernel, by decide +kernel⟩, List.mem_of_getElem? (i := 1129) (by decide +kernel), List.mem_of_getElem? (i := 1624) (by decide +kernel), List.mem_of_getElem? (i := 1625) (by decide +kernel)⟩
theorem lw_p82 : lw_okq (⟨"CardUnsignedModel", "looksBy", "(III)I"⟩, 56) := ⟨⟨by decide +kernel, by decide +kernel⟩, List.mem_of_getElem? (i := 1129) (by decide +kernel), List.mem_of_getElem? (i := 1674) (by decide +kernel), List.mem_of_getElem? (i := 1675) (by decide +kernel)⟩
theorem lw_p83 : lw_okq (⟨"CardUnsignedModel", "ran", "(I)V"⟩, 56) := ⟨⟨by decide +kernel, by decide +kernel⟩, List.mem_of_getElem? (i := 1129) (by decide +kernel), List.mem_of_getElem? (i := 1678) (by decide +kernel), List.mem_of_getElem? (i := 1679) (by decide +kernel)⟩
theorem lw_p84 : lw_okq (⟨"CardUnsignedModel", "writesBy", "(III)I"⟩, 56) := ⟨⟨by decide +kernel, by decide +kernel⟩, List.mem_of_getElem? (i := 1129) (by decide +kernel), List.mem_of_getElem? (i := 1685) (by decide +kernel), List.mem_of_getElem? (i := 1686) (by decide +kernel)⟩
theorem lw_p85 : lw_okq (⟨"CardUnsignedModel", "hidesBy", "(III)I"⟩, 56) := ⟨⟨by decide +kernel, by decide +kernel⟩, List.mem_of_getElem? (i := 1129) (by decide +kernel), List.mem_of_getElem? (i := 1689) (by decide +kernel), List.mem_of_getElem? (i := 1690) (by decide +kernel)⟩
theorem lw_p86 : lw_okq (⟨"CardUnsignedModel", "tells", "(III)I"⟩, 56) := ⟨⟨by decide +kernel, by decide +kernel⟩, List.mem_of_getElem? (i := 1129) (by decide +kernel), List.mem_of_getElem? (i := 1693) (by decide +kernel), List.mem_of_getElem? (i := 1694) (by decide +kernel)⟩
theorem lw_p87 : lw_okq (⟨"CardUnsignedModel", "isRow", "(I)Z"⟩, 56) := ⟨⟨by decide +kernel, by decide +kernel⟩, List.mem_of_getElem? (i := 1129) (by decide +kernel), List.mem_of_getElem? (i := 1713) (by decide +kernel), List.mem_of_getElem? (i := 1714) (by decide +kernel)⟩
def lw_privs_6 : List (MethodName × Nat) := [(⟨"CardUnsignedModel", "wrong", "(I)I"⟩, 56), (⟨"CardUnsignedModel", "canBe", "(II)Z"⟩, 56), (⟨"CardUnsignedModel", "looksBy", "(III)I"⟩, 56), (⟨"CardUnsignedModel", "ran", "(I)V"⟩, 56), (⟨"CardUnsignedModel", "writesBy", "(III)I"⟩, 56), (⟨"CardUnsignedModel", "hidesBy", "(III)I"⟩, 56), (⟨"CardUnsignedModel", "tells", "(III)I"⟩, 56), (⟨"CardUnsignedModel", "isRow", "(I)Z"⟩, 56)]
theorem lw_r6 : ∀ q ∈ lw_privs_6, lw_okq q := List.forall_mem_cons.mpr ⟨lw_p80, List.forall_mem_cons.mpr ⟨lw_p81, List.forall_mem_cons.mpr ⟨lw_p82, List.forall_mem_cons.mpr ⟨lw_p83, List.forall_mem_cons.mpr ⟨lw_p84, List.forall_mem_cons.mpr ⟨lw_p85, List.forall_mem_cons.mpr ⟨lw_p86, List.forall_mem_cons.mpr ⟨lw_p87, fun _ h => absurd h List.not_mem_nil⟩⟩⟩⟩⟩⟩⟩⟩
def lw_privs : List (MethodName × Nat) := lw_privs_1 ++ (lw_privs_2 ++ (lw_privs_3 ++ (lw_privs_4 ++ (lw_privs_5 ++ (lw_privs_6)))))
def lw_tbl : List Cond := k2_sels lw_privs ++ tables_1
theorem lw_privs_ok : ∀ q ∈ lw_privs, lw_okq q := by
  show ∀ q ∈ lw_privs_1 ++ (lw_privs_2 ++ (lw_privs_3 ++ (lw_privs_4 ++ (lw_privs_5 ++ (lw_privs_6))))), lw_okq q
  exact List.forall_mem_append.mpr ⟨lw_r1, List.forall_mem_append.mpr ⟨lw_r2, List.forall_mem_append.mpr ⟨lw_r3, List.forall_mem_append.mpr ⟨lw_r4, List.forall_mem_append.mpr ⟨lw_r5, lw_r6⟩⟩⟩⟩⟩
-- ===== end of PART A; then your names; then what follows =====
end
section
/-! THE CLASSES: names, fields in the order of the slots, types (begun from the printed names) -/
def RX0 : String := "CardUnsigned$Bodies"
def TX0 : u_T := fun k => match k with
  | 0 => ("CardUnsigned$Bodies", "kinds", "[I", true)
  | 1 => ("CardUnsigned$Bodies", "size", "I", false)
  | 2 => ("CardUnsigned$Bodies", "trace", "[I", true)
  | 3 => ("CardUnsigned$Bodies", "ran", "I", false)
  | _ => ("CardUnsigned$Bodies", "number", "I", false)
def tyX0 : Nat → FieldType := fun k => match k with
  | 0 => .array .int
  | 1 => .int
  | 2 => .array .int
  | 3 => .int
  | _ => .int
abbrev wsX00 : List Cond := u_ws RX0 TX0 5
theorem nmX0 : ∀ a, a < 5 → ∀ b, b < 5 → a ≠ b → (TX0 a).2.1 ≠ (TX0 b).2.1 := by decide +kernel
theorem tyX0_ok : ∀ k, k < 5 → parseFieldDescriptor (TX0 k).2.2.1 = some (tyX0 k) := by decide +kernel
def RX1 : String := "CardUnsigned$Changes"
def TX1 : u_T := fun k => match k with
  | 0 => ("CardUnsigned$Changes", "office", "LCardUnsigned$Office;", true)
  | 1 => ("CardUnsigned$Changes", "number", "[I", true)
  | 2 => ("CardUnsigned$Changes", "what", "[I", true)
  | 3 => ("CardUnsigned$Changes", "before", "[I", true)
  | 4 => ("CardUnsigned$Changes", "behind", "[I", true)
  | 5 => ("CardUnsigned$Changes", "done", "I", false)
  | _ => ("CardUnsigned$Changes", "undone", "I", false)
def tyX1 : Nat → FieldType := fun k => match k with
  | 0 => .object "CardUnsigned$Office"
  | 1 => .array .int
  | 2 => .array .int
  | 3 => .array .int
  | 4 => .array .int
  | 5 => .int
  | _ => .int
abbrev wsX10 : List Cond := u_ws RX1 TX1 7
theorem nmX1 : ∀ a, a < 7 → ∀ b, b < 7 → a ≠ b → (TX1 a).2.1 ≠ (TX1 b).2.1 := by decide +kernel
theorem tyX1_ok : ∀ k, k < 7 → parseFieldDescriptor (TX1 k).2.2.1 = some (tyX1 k) := by decide +kernel
def RX2 : String := "CardUnsigned$Deeds"
def TX2 : u_T := fun k => match k with
  | 0 => ("CardUnsigned$Deeds", "office", "LCardUnsigned$Office;", true)
  | 1 => ("CardUnsigned$Deeds", "now", "I", false)
  | 2 => ("CardUnsigned$Deeds", "sent", "I", false)
  | 3 => ("CardUnsigned$Deeds", "right", "I", false)
  | 4 => ("CardUnsigned$Deeds", "wrong", "I", false)
  | 5 => ("CardUnsigned$Deeds", "imageKept", "Z", false)
  | 6 => ("CardUnsigned$Deeds", "nowThen", "I", false)
  | 7 => ("CardUnsigned$Deeds", "sentThen", "I", false)
  | 8 => ("CardUnsigned$Deeds", "rightThen", "I", false)
  | 9 => ("CardUnsigned$Deeds", "wrongThen", "I", false)
  | _ => ("CardUnsigned$Deeds", "thankedThen", "[I", true)
def tyX2 : Nat → FieldType := fun k => match k with
  | 0 => .object "CardUnsigned$Office"
  | 1 => .int
  | 2 => .int
  | 3 => .int
  | 4 => .int
  | 5 => .boolean
  | 6 => .int
  | 7 => .int
  | 8 => .int
  | 9 => .int
  | _ => .array .int
abbrev wsX20 : List Cond := u_ws RX2 TX2 11
theorem nmX2 : ∀ a, a < 11 → ∀ b, b < 11 → a ≠ b → (TX2 a).2.1 ≠ (TX2 b).2.1 := by decide +kernel
theorem tyX2_ok : ∀ k, k < 11 → parseFieldDescriptor (TX2 k).2.2.1 = some (tyX2 k) := by decide +kernel
def RX3 : String := "CardUnsigned$Law"
def TX3 : u_T := fun k => match k with
  | 0 => ("CardUnsigned$Law", "steps", "[I", true)
  | 1 => ("CardUnsigned$Law", "size", "I", false)
  | _ => ("CardUnsigned$Law", "stack", "[I", true)
def tyX3 : Nat → FieldType := fun k => match k with
  | 0 => .array .int
  | 1 => .int
  | _ => .array .int
abbrev wsX30 : List Cond := u_ws RX3 TX3 3
theorem nmX3 : ∀ a, a < 3 → ∀ b, b < 3 → a ≠ b → (TX3 a).2.1 ≠ (TX3 b).2.1 := by decide +kernel
theorem tyX3_ok : ∀ k, k < 3 → parseFieldDescriptor (TX3 k).2.2.1 = some (tyX3 k) := by decide +kernel
def RX4 : String := "CardUnsigned$Office"
def TX4 : u_T := fun k => match k with
  | 0 => ("CardUnsigned$Office", "numbers", "[[I", true)
  | 1 => ("CardUnsigned$Office", "people", "I", false)
  | _ => ("CardUnsigned$Office", "cards", "I", false)
def tyX4 : Nat → FieldType := fun k => match k with
  | 0 => .array (.array .int)
  | 1 => .int
  | _ => .int
abbrev wsX40 : List Cond := u_ws RX4 TX4 3
theorem nmX4 : ∀ a, a < 3 → ∀ b, b < 3 → a ≠ b → (TX4 a).2.1 ≠ (TX4 b).2.1 := by decide +kernel
theorem tyX4_ok : ∀ k, k < 3 → parseFieldDescriptor (TX4 k).2.2.1 = some (tyX4 k) := by decide +kernel
def RX5 : String := "CardUnsigned$Parser"
def TX5 : u_T := fun k => match k with
  | 0 => ("CardUnsigned$Parser", "tape", "[I", true)
  | 1 => ("CardUnsigned$Parser", "tapeSize", "I", false)
  | 2 => ("CardUnsigned$Parser", "steps", "[I", true)
  | 3 => ("CardUnsigned$Parser", "size", "I", false)
  | 4 => ("CardUnsigned$Parser", "waiting", "[I", true)
  | 5 => ("CardUnsigned$Parser", "waits", "I", false)
  | 6 => ("CardUnsigned$Parser", "open", "I", false)
  | 7 => ("CardUnsigned$Parser", "brackets", "I", false)
  | 8 => ("CardUnsigned$Parser", "wantsOperand", "Z", false)
  | 9 => ("CardUnsigned$Parser", "guarded", "Z", false)
  | 10 => ("CardUnsigned$Parser", "digits", "I", false)
  | _ => ("CardUnsigned$Parser", "numberStep", "I", false)
def tyX5 : Nat → FieldType := fun k => match k with
  | 0 => .array .int
  | 1 => .int
  | 2 => .array .int
  | 3 => .int
  | 4 => .array .int
  | 5 => .int
  | 6 => .int
  | 7 => .int
  | 8 => .boolean
  | 9 => .boolean
  | 10 => .int
  | _ => .int
abbrev wsX50 : List Cond := u_ws RX5 TX5 12
theorem nmX5 : ∀ a, a < 12 → ∀ b, b < 12 → a ≠ b → (TX5 a).2.1 ≠ (TX5 b).2.1 := by decide +kernel
theorem tyX5_ok : ∀ k, k < 12 → parseFieldDescriptor (TX5 k).2.2.1 = some (tyX5 k) := by decide +kernel
def RX6 : String := "CardUnsigned$Plans"
def TX6 : u_T := fun k => match k with
  | 0 => ("CardUnsigned$Plans", "office", "LCardUnsigned$Office;", true)
  | 1 => ("CardUnsigned$Plans", "thought", "LCardUnsigned$Thought;", true)
  | 2 => ("CardUnsigned$Plans", "times", "[I", true)
  | 3 => ("CardUnsigned$Plans", "way", "I", false)
  | 4 => ("CardUnsigned$Plans", "wayTop", "I", false)
  | _ => ("CardUnsigned$Plans", "wayBelow", "I", false)
def tyX6 : Nat → FieldType := fun k => match k with
  | 0 => .object "CardUnsigned$Office"
  | 1 => .object "CardUnsigned$Thought"
  | 2 => .array .int
  | 3 => .int
  | 4 => .int
  | _ => .int
abbrev wsX60 : List Cond := u_ws RX6 TX6 6
theorem nmX6 : ∀ a, a < 6 → ∀ b, b < 6 → a ≠ b → (TX6 a).2.1 ≠ (TX6 b).2.1 := by decide +kernel
theorem tyX6_ok : ∀ k, k < 6 → parseFieldDescriptor (TX6 k).2.2.1 = some (tyX6 k) := by decide +kernel
def RX7 : String := "CardUnsigned$Rows"
def TX7 : u_T := fun k => match k with
  | 0 => ("CardUnsigned$Rows", "office", "LCardUnsigned$Office;", true)
  | 1 => ("CardUnsigned$Rows", "thought", "LCardUnsigned$Thought;", true)
  | _ => ("CardUnsigned$Rows", "tally", "[I", true)
def tyX7 : Nat → FieldType := fun k => match k with
  | 0 => .object "CardUnsigned$Office"
  | 1 => .object "CardUnsigned$Thought"
  | _ => .array .int
abbrev wsX70 : List Cond := u_ws RX7 TX7 3
theorem nmX7 : ∀ a, a < 3 → ∀ b, b < 3 → a ≠ b → (TX7 a).2.1 ≠ (TX7 b).2.1 := by decide +kernel
theorem tyX7_ok : ∀ k, k < 3 → parseFieldDescriptor (TX7 k).2.2.1 = some (tyX7 k) := by decide +kernel
def RX8 : String := "CardUnsigned$Shelf"
def TX8 : u_T := fun k => match k with
  | 0 => ("CardUnsigned$Shelf", "holds", "I", false)
  | 1 => ("CardUnsigned$Shelf", "body", "I", false)
  | 2 => ("CardUnsigned$Shelf", "sort", "I", false)
  | 3 => ("CardUnsigned$Shelf", "size", "I", false)
  | _ => ("CardUnsigned$Shelf", "row", "[J", true)
def tyX8 : Nat → FieldType := fun k => match k with
  | 0 => .int
  | 1 => .int
  | 2 => .int
  | 3 => .int
  | _ => .array .long
abbrev wsX80 : List Cond := u_ws RX8 TX8 5
theorem nmX8 : ∀ a, a < 5 → ∀ b, b < 5 → a ≠ b → (TX8 a).2.1 ≠ (TX8 b).2.1 := by decide +kernel
theorem tyX8_ok : ∀ k, k < 5 → parseFieldDescriptor (TX8 k).2.2.1 = some (tyX8 k) := by decide +kernel
def RX9 : String := "CardUnsigned$Steps"
def TX9 : u_T := fun k => match k with
  | _ => ("", "", "", false)
def tyX9 : Nat → FieldType := fun k => match k with
  | _ => .int
abbrev wsX90 : List Cond := u_ws RX9 TX9 0
theorem nmX9 : ∀ a, a < 0 → ∀ b, b < 0 → a ≠ b → (TX9 a).2.1 ≠ (TX9 b).2.1 := by decide +kernel
theorem tyX9_ok : ∀ k, k < 0 → parseFieldDescriptor (TX9 k).2.2.1 = some (tyX9 k) := by decide +kernel
def RX10 : String := "CardUnsigned$Thought"
def TX10 : u_T := fun k => match k with
  | 0 => ("CardUnsigned$Thought", "office", "LCardUnsigned$Office;", true)
  | 1 => ("CardUnsigned$Thought", "law", "LCardUnsigned$Law;", true)
  | 2 => ("CardUnsigned$Thought", "names", "[I", true)
  | 3 => ("CardUnsigned$Thought", "weights", "[I", true)
  | 4 => ("CardUnsigned$Thought", "could", "[I", true)
  | _ => ("CardUnsigned$Thought", "ways", "[I", true)
def tyX10 : Nat → FieldType := fun k => match k with
  | 0 => .object "CardUnsigned$Office"
  | 1 => .object "CardUnsigned$Law"
  | 2 => .array .int
  | 3 => .array .int
  | 4 => .array .int
  | _ => .array .int
abbrev wsX100 : List Cond := u_ws RX10 TX10 6
theorem nmX10 : ∀ a, a < 6 → ∀ b, b < 6 → a ≠ b → (TX10 a).2.1 ≠ (TX10 b).2.1 := by decide +kernel
theorem tyX10_ok : ∀ k, k < 6 → parseFieldDescriptor (TX10 k).2.2.1 = some (tyX10 k) := by decide +kernel
def RX11 : String := "CardUnsigned"
def TX11 : u_T := fun k => match k with
  | 0 => ("CardUnsigned", "office", "LCardUnsigned$Office;", true)
  | 1 => ("CardUnsigned", "changes", "LCardUnsigned$Changes;", true)
  | 2 => ("CardUnsigned", "parser", "LCardUnsigned$Parser;", true)
  | 3 => ("CardUnsigned", "law", "LCardUnsigned$Law;", true)
  | 4 => ("CardUnsigned", "thought", "LCardUnsigned$Thought;", true)
  | 5 => ("CardUnsigned", "plans", "LCardUnsigned$Plans;", true)
  | 6 => ("CardUnsigned", "rows", "LCardUnsigned$Rows;", true)
  | 7 => ("CardUnsigned", "deeds", "LCardUnsigned$Deeds;", true)
  | 8 => ("CardUnsigned", "bodies", "LCardUnsigned$Bodies;", true)
  | _ => ("CardUnsigned", "shelves", "[LCardUnsigned$Shelf;", true)
def tyX11 : Nat → FieldType := fun k => match k with
  | 0 => .object "CardUnsigned$Office"
  | 1 => .object "CardUnsigned$Changes"
  | 2 => .object "CardUnsigned$Parser"
  | 3 => .object "CardUnsigned$Law"
  | 4 => .object "CardUnsigned$Thought"
  | 5 => .object "CardUnsigned$Plans"
  | 6 => .object "CardUnsigned$Rows"
  | 7 => .object "CardUnsigned$Deeds"
  | 8 => .object "CardUnsigned$Bodies"
  | _ => .array (.object "CardUnsigned$Shelf")
abbrev wsX110 : List Cond := u_ws RX11 TX11 10
theorem nmX11 : ∀ a, a < 10 → ∀ b, b < 10 → a ≠ b → (TX11 a).2.1 ≠ (TX11 b).2.1 := by decide +kernel
theorem tyX11_ok : ∀ k, k < 10 → parseFieldDescriptor (TX11 k).2.2.1 = some (tyX11 k) := by decide +kernel
def RX12 : String := "CardUnsignedModel"
def TX12 : u_T := fun k => match k with
  | 0 => ("CardUnsignedModel", "many", "I", false)
  | 1 => ("CardUnsignedModel", "from", "[I", true)
  | 2 => ("CardUnsignedModel", "till", "[I", true)
  | 3 => ("CardUnsignedModel", "hand", "[I", true)
  | 4 => ("CardUnsignedModel", "shy", "[I", true)
  | 5 => ("CardUnsignedModel", "liked", "[I", true)
  | 6 => ("CardUnsignedModel", "knows", "[I", true)
  | 7 => ("CardUnsignedModel", "cards", "I", false)
  | 8 => ("CardUnsignedModel", "whom", "[I", true)
  | 9 => ("CardUnsignedModel", "minute", "[I", true)
  | 10 => ("CardUnsignedModel", "shown", "[I", true)
  | 11 => ("CardUnsignedModel", "secret", "[I", true)
  | 12 => ("CardUnsignedModel", "stamp", "[I", true)
  | 13 => ("CardUnsignedModel", "sender", "[I", true)
  | 14 => ("CardUnsignedModel", "thanks", "[I", true)
  | 15 => ("CardUnsignedModel", "ways", "[I", true)
  | 16 => ("CardUnsignedModel", "now", "I", false)
  | 17 => ("CardUnsignedModel", "taped", "I", false)
  | 18 => ("CardUnsignedModel", "tape", "[I", true)
  | 19 => ("CardUnsignedModel", "isTold", "Z", false)
  | 20 => ("CardUnsignedModel", "lines", "I", false)
  | 21 => ("CardUnsignedModel", "asks", "[I", true)
  | 22 => ("CardUnsignedModel", "says", "[I", true)
  | 23 => ("CardUnsignedModel", "ends", "[I", true)
  | 24 => ("CardUnsignedModel", "code", "[I", true)
  | 25 => ("CardUnsignedModel", "at", "I", false)
  | 26 => ("CardUnsignedModel", "open", "I", false)
  | 27 => ("CardUnsignedModel", "coded", "I", false)
  | 28 => ("CardUnsignedModel", "newLines", "I", false)
  | 29 => ("CardUnsignedModel", "newAsks", "[I", true)
  | 30 => ("CardUnsignedModel", "newSays", "[I", true)
  | 31 => ("CardUnsignedModel", "newEnds", "[I", true)
  | 32 => ("CardUnsignedModel", "newCode", "[I", true)
  | 33 => ("CardUnsignedModel", "stack", "[I", true)
  | 34 => ("CardUnsignedModel", "names", "[I", true)
  | 35 => ("CardUnsignedModel", "led", "[I", true)
  | 36 => ("CardUnsignedModel", "imaged", "Z", false)
  | 37 => ("CardUnsignedModel", "oldCards", "I", false)
  | 38 => ("CardUnsignedModel", "oldNow", "I", false)
  | 39 => ("CardUnsignedModel", "oldThanks", "[I", true)
  | 40 => ("CardUnsignedModel", "oldLed", "[I", true)
  | 41 => ("CardUnsignedModel", "changes", "I", false)
  | 42 => ("CardUnsignedModel", "done", "I", false)
  | 43 => ("CardUnsignedModel", "changed", "[I", true)
  | 44 => ("CardUnsignedModel", "bodies", "I", false)
  | 45 => ("CardUnsignedModel", "kind", "[I", true)
  | 46 => ("CardUnsignedModel", "traced", "I", false)
  | 47 => ("CardUnsignedModel", "traces", "[I", true)
  | 48 => ("CardUnsignedModel", "holding", "[I", true)
  | 49 => ("CardUnsignedModel", "rowLength", "[I", true)
  | 50 => ("CardUnsignedModel", "rowOf", "[J", true)
  | 51 => ("CardUnsignedModel", "told", "[I", true)
  | 52 => ("CardUnsignedModel", "often", "[I", true)
  | 53 => ("CardUnsignedModel", "bestWay", "I", false)
  | 54 => ("CardUnsignedModel", "bestAbove", "I", false)
  | _ => ("CardUnsignedModel", "bestBelow", "I", false)
def tyX12 : Nat → FieldType := fun k => match k with
  | 0 => .int
  | 1 => .array .int
  | 2 => .array .int
  | 3 => .array .int
  | 4 => .array .int
  | 5 => .array .int
  | 6 => .array .int
  | 7 => .int
  | 8 => .array .int
  | 9 => .array .int
  | 10 => .array .int
  | 11 => .array .int
  | 12 => .array .int
  | 13 => .array .int
  | 14 => .array .int
  | 15 => .array .int
  | 16 => .int
  | 17 => .int
  | 18 => .array .int
  | 19 => .boolean
  | 20 => .int
  | 21 => .array .int
  | 22 => .array .int
  | 23 => .array .int
  | 24 => .array .int
  | 25 => .int
  | 26 => .int
  | 27 => .int
  | 28 => .int
  | 29 => .array .int
  | 30 => .array .int
  | 31 => .array .int
  | 32 => .array .int
  | 33 => .array .int
  | 34 => .array .int
  | 35 => .array .int
  | 36 => .boolean
  | 37 => .int
  | 38 => .int
  | 39 => .array .int
  | 40 => .array .int
  | 41 => .int
  | 42 => .int
  | 43 => .array .int
  | 44 => .int
  | 45 => .array .int
  | 46 => .int
  | 47 => .array .int
  | 48 => .array .int
  | 49 => .array .int
  | 50 => .array .long
  | 51 => .array .int
  | 52 => .array .int
  | 53 => .int
  | 54 => .int
  | _ => .int
abbrev wsX120 : List Cond := u_ws RX12 TX12 56
theorem nmX12 : ∀ a, a < 56 → ∀ b, b < 56 → a ≠ b → (TX12 a).2.1 ≠ (TX12 b).2.1 := by decide +kernel
theorem tyX12_ok : ∀ k, k < 56 → parseFieldDescriptor (TX12 k).2.2.1 = some (tyX12 k) := by decide +kernel
def zk_uw : List Cond := lw_tbl.filter goodWord
theorem zk_uw_in {w : Cond} (h : w ∈ lw_tbl) (hg : goodWord w = true) : w ∈ zk_uw := List.mem_filter.mpr ⟨h, hg⟩
abbrev zk_cl : List vw_C := [(RX0, TX0, 5), (RX1, TX1, 7), (RX2, TX2, 11), (RX3, TX3, 3), (RX4, TX4, 3), (RX5, TX5, 12), (RX6, TX6, 6), (RX7, TX7, 3), (RX8, TX8, 5), (RX9, TX9, 0), (RX10, TX10, 6), (RX11, TX11, 10), (RX12, TX12, 56)]
def zk_ty (c : Nat) : Nat → FieldType := match c with
  | 0 => tyX0
  | 1 => tyX1
  | 2 => tyX2
  | 3 => tyX3
  | 4 => tyX4
  | 5 => tyX5
  | 6 => tyX6
  | 7 => tyX7
  | 8 => tyX8
  | 9 => tyX9
  | 10 => tyX10
  | 11 => tyX11
  | _ => tyX12
def zk_N (c : Nat) : Nat := match c with
  | 0 => 5
  | 1 => 7
  | 2 => 11
  | 3 => 3
  | 4 => 3
  | 5 => 12
  | 6 => 6
  | 7 => 3
  | 8 => 5
  | 9 => 0
  | 10 => 6
  | 11 => 10
  | _ => 56
end
