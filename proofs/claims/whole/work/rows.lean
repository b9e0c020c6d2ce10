section
-- ===== PART A: goes FIRST, ahead of the names: the tables' words, and 'selects' of the private methods out of them =====
/-- a private method of a class that the tables say can be made, by its rows of tables_1 -/
def lw_okq (q : MethodName × Nat) : Prop := (q.1.cls ≠ "java/lang/invoke/MethodHandle" ∧ q.1.cls ≠ "java/lang/invoke/VarHandle") ∧ Cond.instantiable q.1.cls q.2 ∈ tables_1 ∧ Cond.privateMethod q.1 ∈ tables_1 ∧ Cond.instanceMethod q.1 ∈ tables_1
theorem lw_p0 : lw_okq (⟨"DarnEggs", "takeText", "(II)V"⟩, 19) := ⟨⟨by decide +kernel, by decide +kernel⟩, List.mem_of_getElem? (i := 27) (by decide +kernel), List.mem_of_getElem? (i := 518) (by decide +kernel), List.mem_of_getElem? (i := 519) (by decide +kernel)⟩
theorem lw_p1 : lw_okq (⟨"DarnEggs", "needBetween", "(III)V"⟩, 19) := ⟨⟨by decide +kernel, by decide +kernel⟩, List.mem_of_getElem? (i := 27) (by decide +kernel), List.mem_of_getElem? (i := 525) (by decide +kernel), List.mem_of_getElem? (i := 526) (by decide +kernel)⟩
theorem lw_p2 : lw_okq (⟨"DarnEggs", "refuseArgument", "()I"⟩, 19) := ⟨⟨by decide +kernel, by decide +kernel⟩, List.mem_of_getElem? (i := 27) (by decide +kernel), List.mem_of_getElem? (i := 529) (by decide +kernel), List.mem_of_getElem? (i := 530) (by decide +kernel)⟩
theorem lw_p3 : lw_okq (⟨"java/lang/Throwable", "fillInStackTrace", "(I)Ljava/lang/Throwable;"⟩, 6) := ⟨⟨by decide +kernel, by decide +kernel⟩, List.mem_of_getElem? (i := 570) (by decide +kernel), List.mem_of_getElem? (i := 568) (by decide +kernel), List.mem_of_getElem? (i := 569) (by decide +kernel)⟩
theorem lw_p4 : lw_okq (⟨"DarnEggs$Village", "clear", "()V"⟩, 12) := ⟨⟨by decide +kernel, by decide +kernel⟩, List.mem_of_getElem? (i := 79) (by decide +kernel), List.mem_of_getElem? (i := 604) (by decide +kernel), List.mem_of_getElem? (i := 605) (by decide +kernel)⟩
theorem lw_p5 : lw_okq (⟨"DarnEggs$Village", "readClause", "(LDarnEggs$Tape;Z)Z"⟩, 12) := ⟨⟨by decide +kernel, by decide +kernel⟩, List.mem_of_getElem? (i := 79) (by decide +kernel), List.mem_of_getElem? (i := 616) (by decide +kernel), List.mem_of_getElem? (i := 617) (by decide +kernel)⟩
theorem lw_p6 : lw_okq (⟨"DarnEggs$Village", "isFull", "(I)Z"⟩, 12) := ⟨⟨by decide +kernel, by decide +kernel⟩, List.mem_of_getElem? (i := 79) (by decide +kernel), List.mem_of_getElem? (i := 689) (by decide +kernel), List.mem_of_getElem? (i := 690) (by decide +kernel)⟩
theorem lw_p7 : lw_okq (⟨"DarnEggs$Village", "readPath", "(LDarnEggs$Tape;)Z"⟩, 12) := ⟨⟨by decide +kernel, by decide +kernel⟩, List.mem_of_getElem? (i := 79) (by decide +kernel), List.mem_of_getElem? (i := 693) (by decide +kernel), List.mem_of_getElem? (i := 694) (by decide +kernel)⟩
theorem lw_p8 : lw_okq (⟨"DarnEggs$Village", "readOne", "(LDarnEggs$Tape;I)Z"⟩, 12) := ⟨⟨by decide +kernel, by decide +kernel⟩, List.mem_of_getElem? (i := 79) (by decide +kernel), List.mem_of_getElem? (i := 706) (by decide +kernel), List.mem_of_getElem? (i := 707) (by decide +kernel)⟩
theorem lw_p9 : lw_okq (⟨"DarnEggs", "faulted", "()I"⟩, 19) := ⟨⟨by decide +kernel, by decide +kernel⟩, List.mem_of_getElem? (i := 27) (by decide +kernel), List.mem_of_getElem? (i := 720) (by decide +kernel), List.mem_of_getElem? (i := 721) (by decide +kernel)⟩
theorem lw_p10 : lw_okq (⟨"DarnEggs$Law", "readSum", "(LDarnEggs$Tape;I)Z"⟩, 4) := ⟨⟨by decide +kernel, by decide +kernel⟩, List.mem_of_getElem? (i := 150) (by decide +kernel), List.mem_of_getElem? (i := 757) (by decide +kernel), List.mem_of_getElem? (i := 758) (by decide +kernel)⟩
theorem lw_p11 : lw_okq (⟨"DarnEggs$Law", "readProduct", "(LDarnEggs$Tape;I)Z"⟩, 4) := ⟨⟨by decide +kernel, by decide +kernel⟩, List.mem_of_getElem? (i := 150) (by decide +kernel), List.mem_of_getElem? (i := 761) (by decide +kernel), List.mem_of_getElem? (i := 762) (by decide +kernel)⟩
theorem lw_p12 : lw_okq (⟨"DarnEggs$Law", "readUnit", "(LDarnEggs$Tape;I)Z"⟩, 4) := ⟨⟨by decide +kernel, by decide +kernel⟩, List.mem_of_getElem? (i := 150) (by decide +kernel), List.mem_of_getElem? (i := 765) (by decide +kernel), List.mem_of_getElem? (i := 766) (by decide +kernel)⟩
theorem lw_p13 : lw_okq (⟨"DarnEggs$Law", "readNested", "(LDarnEggs$Tape;I)Z"⟩, 4) := ⟨⟨by decide +kernel, by decide +kernel⟩, List.mem_of_getElem? (i := 150) (by decide +kernel), List.mem_of_getElem? (i := 770) (by decide +kernel), List.mem_of_getElem? (i := 771) (by decide +kernel)⟩
theorem lw_p14 : lw_okq (⟨"DarnEggs$Law", "put", "(I)Z"⟩, 4) := ⟨⟨by decide +kernel, by decide +kernel⟩, List.mem_of_getElem? (i := 150) (by decide +kernel), List.mem_of_getElem? (i := 778) (by decide +kernel), List.mem_of_getElem? (i := 779) (by decide +kernel)⟩
theorem lw_p15 : lw_okq (⟨"DarnEggs$Law", "readChoice", "(LDarnEggs$Tape;II)Z"⟩, 4) := ⟨⟨by decide +kernel, by decide +kernel⟩, List.mem_of_getElem? (i := 150) (by decide +kernel), List.mem_of_getElem? (i := 785) (by decide +kernel), List.mem_of_getElem? (i := 786) (by decide +kernel)⟩
def lw_privs_1 : List (MethodName × Nat) := [(⟨"DarnEggs", "takeText", "(II)V"⟩, 19), (⟨"DarnEggs", "needBetween", "(III)V"⟩, 19), (⟨"DarnEggs", "refuseArgument", "()I"⟩, 19), (⟨"java/lang/Throwable", "fillInStackTrace", "(I)Ljava/lang/Throwable;"⟩, 6), (⟨"DarnEggs$Village", "clear", "()V"⟩, 12), (⟨"DarnEggs$Village", "readClause", "(LDarnEggs$Tape;Z)Z"⟩, 12), (⟨"DarnEggs$Village", "isFull", "(I)Z"⟩, 12), (⟨"DarnEggs$Village", "readPath", "(LDarnEggs$Tape;)Z"⟩, 12), (⟨"DarnEggs$Village", "readOne", "(LDarnEggs$Tape;I)Z"⟩, 12), (⟨"DarnEggs", "faulted", "()I"⟩, 19), (⟨"DarnEggs$Law", "readSum", "(LDarnEggs$Tape;I)Z"⟩, 4), (⟨"DarnEggs$Law", "readProduct", "(LDarnEggs$Tape;I)Z"⟩, 4), (⟨"DarnEggs$Law", "readUnit", "(LDarnEggs$Tape;I)Z"⟩, 4), (⟨"DarnEggs$Law", "readNested", "(LDarnEggs$Tape;I)Z"⟩, 4), (⟨"DarnEggs$Law", "put", "(I)Z"⟩, 4), (⟨"DarnEggs$Law", "readChoice", "(LDarnEggs$Tape;II)Z"⟩, 4)]
theorem lw_r1 : ∀ q ∈ lw_privs_1, lw_okq q := List.forall_mem_cons.mpr ⟨lw_p0, List.forall_mem_cons.mpr ⟨lw_p1, List.forall_mem_cons.mpr ⟨lw_p2, List.forall_mem_cons.mpr ⟨lw_p3, List.forall_mem_cons.mpr ⟨lw_p4, List.forall_mem_cons.mpr ⟨lw_p5, List.forall_mem_cons.mpr ⟨lw_p6, List.forall_mem_cons.mpr ⟨lw_p7, List.forall_mem_cons.mpr ⟨lw_p8, List.forall_mem_cons.mpr ⟨lw_p9, List.forall_mem_cons.mpr ⟨lw_p10, List.forall_mem_cons.mpr ⟨lw_p11, List.forall_mem_cons.mpr ⟨lw_p12, List.forall_mem_cons.mpr ⟨lw_p13, List.forall_mem_cons.mpr ⟨lw_p14, List.forall_mem_cons.mpr ⟨lw_p15, fun _ h => absurd h List.not_mem_nil⟩⟩⟩⟩⟩⟩⟩⟩⟩⟩⟩⟩⟩⟩⟩⟩
theorem lw_p16 : lw_okq (⟨"DarnEggs$Steps", "readSteps", "(LDarnEggs$Tape;LDarnEggs$Village;I)Z"⟩, 8) := ⟨⟨by decide +kernel, by decide +kernel⟩, List.mem_of_getElem? (i := 208) (by decide +kernel), List.mem_of_getElem? (i := 817) (by decide +kernel), List.mem_of_getElem? (i := 818) (by decide +kernel)⟩
theorem lw_p17 : lw_okq (⟨"DarnEggs$Steps", "readStep", "(LDarnEggs$Tape;LDarnEggs$Village;I)Z"⟩, 8) := ⟨⟨by decide +kernel, by decide +kernel⟩, List.mem_of_getElem? (i := 208) (by decide +kernel), List.mem_of_getElem? (i := 823) (by decide +kernel), List.mem_of_getElem? (i := 824) (by decide +kernel)⟩
theorem lw_p18 : lw_okq (⟨"DarnEggs$Steps", "put", "(I)I"⟩, 8) := ⟨⟨by decide +kernel, by decide +kernel⟩, List.mem_of_getElem? (i := 208) (by decide +kernel), List.mem_of_getElem? (i := 840) (by decide +kernel), List.mem_of_getElem? (i := 841) (by decide +kernel)⟩
theorem lw_p19 : lw_okq (⟨"DarnEggs$Steps", "readAgain", "(LDarnEggs$Tape;LDarnEggs$Village;II)Z"⟩, 8) := ⟨⟨by decide +kernel, by decide +kernel⟩, List.mem_of_getElem? (i := 208) (by decide +kernel), List.mem_of_getElem? (i := 849) (by decide +kernel), List.mem_of_getElem? (i := 850) (by decide +kernel)⟩
theorem lw_p20 : lw_okq (⟨"DarnEggs$Steps", "behindEnd", "(I)I"⟩, 8) := ⟨⟨by decide +kernel, by decide +kernel⟩, List.mem_of_getElem? (i := 208) (by decide +kernel), List.mem_of_getElem? (i := 862) (by decide +kernel), List.mem_of_getElem? (i := 863) (by decide +kernel)⟩
theorem lw_p21 : lw_okq (⟨"DarnEggs$Steps", "behindAgain", "(I)I"⟩, 8) := ⟨⟨by decide +kernel, by decide +kernel⟩, List.mem_of_getElem? (i := 208) (by decide +kernel), List.mem_of_getElem? (i := 866) (by decide +kernel), List.mem_of_getElem? (i := 867) (by decide +kernel)⟩
theorem lw_p22 : lw_okq (⟨"DarnEggs$Steps", "runOne", "(LDarnEggs$State;LDarnEggs$Village;LDarnEggs$Law;I)Z"⟩, 8) := ⟨⟨by decide +kernel, by decide +kernel⟩, List.mem_of_getElem? (i := 208) (by decide +kernel), List.mem_of_getElem? (i := 870) (by decide +kernel), List.mem_of_getElem? (i := 871) (by decide +kernel)⟩
theorem lw_p23 : lw_okq (⟨"DarnEggs$State", "doItsPart", "(LDarnEggs$Village;II)V"⟩, 9) := ⟨⟨by decide +kernel, by decide +kernel⟩, List.mem_of_getElem? (i := 241) (by decide +kernel), List.mem_of_getElem? (i := 939) (by decide +kernel), List.mem_of_getElem? (i := 940) (by decide +kernel)⟩
theorem lw_p24 : lw_okq (⟨"DarnEggs$Steps", "tally", "(Z)V"⟩, 8) := ⟨⟨by decide +kernel, by decide +kernel⟩, List.mem_of_getElem? (i := 208) (by decide +kernel), List.mem_of_getElem? (i := 951) (by decide +kernel), List.mem_of_getElem? (i := 952) (by decide +kernel)⟩
theorem lw_p25 : lw_okq (⟨"DarnEggs$Book", "readLine", "(LDarnEggs$Tape;I)Z"⟩, 9) := ⟨⟨by decide +kernel, by decide +kernel⟩, List.mem_of_getElem? (i := 169) (by decide +kernel), List.mem_of_getElem? (i := 968) (by decide +kernel), List.mem_of_getElem? (i := 969) (by decide +kernel)⟩
theorem lw_p26 : lw_okq (⟨"DarnEggs", "needEgg", "(I)V"⟩, 19) := ⟨⟨by decide +kernel, by decide +kernel⟩, List.mem_of_getElem? (i := 27) (by decide +kernel), List.mem_of_getElem? (i := 1002) (by decide +kernel), List.mem_of_getElem? (i := 1003) (by decide +kernel)⟩
theorem lw_p27 : lw_okq (⟨"DarnEggs", "refuseElement", "()I"⟩, 19) := ⟨⟨by decide +kernel, by decide +kernel⟩, List.mem_of_getElem? (i := 27) (by decide +kernel), List.mem_of_getElem? (i := 1006) (by decide +kernel), List.mem_of_getElem? (i := 1007) (by decide +kernel)⟩
theorem lw_p28 : lw_okq (⟨"DarnEggs", "needHand", "(I)V"⟩, 19) := ⟨⟨by decide +kernel, by decide +kernel⟩, List.mem_of_getElem? (i := 27) (by decide +kernel), List.mem_of_getElem? (i := 1034) (by decide +kernel), List.mem_of_getElem? (i := 1035) (by decide +kernel)⟩
theorem lw_p29 : lw_okq (⟨"DarnEggs", "needHole", "(I)V"⟩, 19) := ⟨⟨by decide +kernel, by decide +kernel⟩, List.mem_of_getElem? (i := 27) (by decide +kernel), List.mem_of_getElem? (i := 1046) (by decide +kernel), List.mem_of_getElem? (i := 1047) (by decide +kernel)⟩
theorem lw_p30 : lw_okq (⟨"DarnEggs$Giving", "mostFrom", "(LDarnEggs$State;LDarnEggs$Village;II)I"⟩, 2) := ⟨⟨by decide +kernel, by decide +kernel⟩, List.mem_of_getElem? (i := 335) (by decide +kernel), List.mem_of_getElem? (i := 1126) (by decide +kernel), List.mem_of_getElem? (i := 1127) (by decide +kernel)⟩
theorem lw_p31 : lw_okq (⟨"DarnEggs$Giving", "takenBy", "(III)I"⟩, 2) := ⟨⟨by decide +kernel, by decide +kernel⟩, List.mem_of_getElem? (i := 335) (by decide +kernel), List.mem_of_getElem? (i := 1131) (by decide +kernel), List.mem_of_getElem? (i := 1132) (by decide +kernel)⟩
def lw_privs_2 : List (MethodName × Nat) := [(⟨"DarnEggs$Steps", "readSteps", "(LDarnEggs$Tape;LDarnEggs$Village;I)Z"⟩, 8), (⟨"DarnEggs$Steps", "readStep", "(LDarnEggs$Tape;LDarnEggs$Village;I)Z"⟩, 8), (⟨"DarnEggs$Steps", "put", "(I)I"⟩, 8), (⟨"DarnEggs$Steps", "readAgain", "(LDarnEggs$Tape;LDarnEggs$Village;II)Z"⟩, 8), (⟨"DarnEggs$Steps", "behindEnd", "(I)I"⟩, 8), (⟨"DarnEggs$Steps", "behindAgain", "(I)I"⟩, 8), (⟨"DarnEggs$Steps", "runOne", "(LDarnEggs$State;LDarnEggs$Village;LDarnEggs$Law;I)Z"⟩, 8), (⟨"DarnEggs$State", "doItsPart", "(LDarnEggs$Village;II)V"⟩, 9), (⟨"DarnEggs$Steps", "tally", "(Z)V"⟩, 8), (⟨"DarnEggs$Book", "readLine", "(LDarnEggs$Tape;I)Z"⟩, 9), (⟨"DarnEggs", "needEgg", "(I)V"⟩, 19), (⟨"DarnEggs", "refuseElement", "()I"⟩, 19), (⟨"DarnEggs", "needHand", "(I)V"⟩, 19), (⟨"DarnEggs", "needHole", "(I)V"⟩, 19), (⟨"DarnEggs$Giving", "mostFrom", "(LDarnEggs$State;LDarnEggs$Village;II)I"⟩, 2), (⟨"DarnEggs$Giving", "takenBy", "(III)I"⟩, 2)]
theorem lw_r2 : ∀ q ∈ lw_privs_2, lw_okq q := List.forall_mem_cons.mpr ⟨lw_p16, List.forall_mem_cons.mpr ⟨lw_p17, List.forall_mem_cons.mpr ⟨lw_p18, List.forall_mem_cons.mpr ⟨lw_p19, List.forall_mem_cons.mpr ⟨lw_p20, List.forall_mem_cons.mpr ⟨lw_p21, List.forall_mem_cons.mpr ⟨lw_p22, List.forall_mem_cons.mpr ⟨lw_p23, List.forall_mem_cons.mpr ⟨lw_p24, List.forall_mem_cons.mpr ⟨lw_p25, List.forall_mem_cons.mpr ⟨lw_p26, List.forall_mem_cons.mpr ⟨lw_p27, List.forall_mem_cons.mpr ⟨lw_p28, List.forall_mem_cons.mpr ⟨lw_p29, List.forall_mem_cons.mpr ⟨lw_p30, List.forall_mem_cons.mpr ⟨lw_p31, fun _ h => absurd h List.not_mem_nil⟩⟩⟩⟩⟩⟩⟩⟩⟩⟩⟩⟩⟩⟩⟩⟩
theorem lw_p32 : lw_okq (⟨"DarnEggs$Giving", "firstHole", "(LDarnEggs$State;LDarnEggs$Village;II)I"⟩, 2) := ⟨⟨by decide +kernel, by decide +kernel⟩, List.mem_of_getElem? (i := 335) (by decide +kernel), List.mem_of_getElem? (i := 1151) (by decide +kernel), List.mem_of_getElem? (i := 1152) (by decide +kernel)⟩
theorem lw_p33 : lw_okq (⟨"DarnEggs$Walks", "reach", "(III)V"⟩, 3) := ⟨⟨by decide +kernel, by decide +kernel⟩, List.mem_of_getElem? (i := 348) (by decide +kernel), List.mem_of_getElem? (i := 1166) (by decide +kernel), List.mem_of_getElem? (i := 1167) (by decide +kernel)⟩
theorem lw_p34 : lw_okq (⟨"DarnEggs$Book", "isFit", "(LDarnEggs$State;LDarnEggs$Village;LDarnEggs$Law;II)Z"⟩, 9) := ⟨⟨by decide +kernel, by decide +kernel⟩, List.mem_of_getElem? (i := 169) (by decide +kernel), List.mem_of_getElem? (i := 1188) (by decide +kernel), List.mem_of_getElem? (i := 1189) (by decide +kernel)⟩
theorem lw_p35 : lw_okq (⟨"DarnEggs$Book", "mostLeftBy", "(LDarnEggs$State;LDarnEggs$Village;LDarnEggs$Law;I)I"⟩, 9) := ⟨⟨by decide +kernel, by decide +kernel⟩, List.mem_of_getElem? (i := 169) (by decide +kernel), List.mem_of_getElem? (i := 1211) (by decide +kernel), List.mem_of_getElem? (i := 1212) (by decide +kernel)⟩
theorem lw_p36 : lw_okq (⟨"DarnEggs", "greatestBound", "(II)I"⟩, 19) := ⟨⟨by decide +kernel, by decide +kernel⟩, List.mem_of_getElem? (i := 27) (by decide +kernel), List.mem_of_getElem? (i := 1245) (by decide +kernel), List.mem_of_getElem? (i := 1246) (by decide +kernel)⟩
theorem lw_p37 : lw_okq (⟨"DarnEggs", "live", "(III)V"⟩, 19) := ⟨⟨by decide +kernel, by decide +kernel⟩, List.mem_of_getElem? (i := 27) (by decide +kernel), List.mem_of_getElem? (i := 1282) (by decide +kernel), List.mem_of_getElem? (i := 1283) (by decide +kernel)⟩
theorem lw_p38 : lw_okq (⟨"DarnEggs", "liveOne", "(I)V"⟩, 19) := ⟨⟨by decide +kernel, by decide +kernel⟩, List.mem_of_getElem? (i := 27) (by decide +kernel), List.mem_of_getElem? (i := 1286) (by decide +kernel), List.mem_of_getElem? (i := 1287) (by decide +kernel)⟩
theorem lw_p39 : lw_okq (⟨"DarnEggsModel", "clears", "()V"⟩, 60) := ⟨⟨by decide +kernel, by decide +kernel⟩, List.mem_of_getElem? (i := 1309) (by decide +kernel), List.mem_of_getElem? (i := 1315) (by decide +kernel), List.mem_of_getElem? (i := 1316) (by decide +kernel)⟩
theorem lw_p40 : lw_okq (⟨"DarnEggsModel", "sets", "()V"⟩, 60) := ⟨⟨by decide +kernel, by decide +kernel⟩, List.mem_of_getElem? (i := 1309) (by decide +kernel), List.mem_of_getElem? (i := 1319) (by decide +kernel), List.mem_of_getElem? (i := 1320) (by decide +kernel)⟩
theorem lw_p41 : lw_okq (⟨"DarnEggsModel", "copies", "([I[II)V"⟩, 60) := ⟨⟨by decide +kernel, by decide +kernel⟩, List.mem_of_getElem? (i := 1309) (by decide +kernel), List.mem_of_getElem? (i := 1323) (by decide +kernel), List.mem_of_getElem? (i := 1324) (by decide +kernel)⟩
theorem lw_p42 : lw_okq (⟨"DarnEggsModel", "may", "(ZII)Z"⟩, 60) := ⟨⟨by decide +kernel, by decide +kernel⟩, List.mem_of_getElem? (i := 1309) (by decide +kernel), List.mem_of_getElem? (i := 1520) (by decide +kernel), List.mem_of_getElem? (i := 1521) (by decide +kernel)⟩
theorem lw_p43 : lw_okq (⟨"DarnEggsModel", "begins", "(I)V"⟩, 60) := ⟨⟨by decide +kernel, by decide +kernel⟩, List.mem_of_getElem? (i := 1309) (by decide +kernel), List.mem_of_getElem? (i := 1524) (by decide +kernel), List.mem_of_getElem? (i := 1525) (by decide +kernel)⟩
theorem lw_p44 : lw_okq (⟨"DarnEggsModel", "fine", "()Z"⟩, 60) := ⟨⟨by decide +kernel, by decide +kernel⟩, List.mem_of_getElem? (i := 1309) (by decide +kernel), List.mem_of_getElem? (i := 1528) (by decide +kernel), List.mem_of_getElem? (i := 1529) (by decide +kernel)⟩
theorem lw_p45 : lw_okq (⟨"DarnEggsModel", "isMore", "()Z"⟩, 60) := ⟨⟨by decide +kernel, by decide +kernel⟩, List.mem_of_getElem? (i := 1309) (by decide +kernel), List.mem_of_getElem? (i := 1532) (by decide +kernel), List.mem_of_getElem? (i := 1533) (by decide +kernel)⟩
theorem lw_p46 : lw_okq (⟨"DarnEggsModel", "here", "()I"⟩, 60) := ⟨⟨by decide +kernel, by decide +kernel⟩, List.mem_of_getElem? (i := 1309) (by decide +kernel), List.mem_of_getElem? (i := 1536) (by decide +kernel), List.mem_of_getElem? (i := 1537) (by decide +kernel)⟩
theorem lw_p47 : lw_okq (⟨"DarnEggsModel", "word", "()I"⟩, 60) := ⟨⟨by decide +kernel, by decide +kernel⟩, List.mem_of_getElem? (i := 1309) (by decide +kernel), List.mem_of_getElem? (i := 1540) (by decide +kernel), List.mem_of_getElem? (i := 1541) (by decide +kernel)⟩
def lw_privs_3 : List (MethodName × Nat) := [(⟨"DarnEggs$Giving", "firstHole", "(LDarnEggs$State;LDarnEggs$Village;II)I"⟩, 2), (⟨"DarnEggs$Walks", "reach", "(III)V"⟩, 3), (⟨"DarnEggs$Book", "isFit", "(LDarnEggs$State;LDarnEggs$Village;LDarnEggs$Law;II)Z"⟩, 9), (⟨"DarnEggs$Book", "mostLeftBy", "(LDarnEggs$State;LDarnEggs$Village;LDarnEggs$Law;I)I"⟩, 9), (⟨"DarnEggs", "greatestBound", "(II)I"⟩, 19), (⟨"DarnEggs", "live", "(III)V"⟩, 19), (⟨"DarnEggs", "liveOne", "(I)V"⟩, 19), (⟨"DarnEggsModel", "clears", "()V"⟩, 60), (⟨"DarnEggsModel", "sets", "()V"⟩, 60), (⟨"DarnEggsModel", "copies", "([I[II)V"⟩, 60), (⟨"DarnEggsModel", "may", "(ZII)Z"⟩, 60), (⟨"DarnEggsModel", "begins", "(I)V"⟩, 60), (⟨"DarnEggsModel", "fine", "()Z"⟩, 60), (⟨"DarnEggsModel", "isMore", "()Z"⟩, 60), (⟨"DarnEggsModel", "here", "()I"⟩, 60), (⟨"DarnEggsModel", "word", "()I"⟩, 60)]
theorem lw_r3 : ∀ q ∈ lw_privs_3, lw_okq q := List.forall_mem_cons.mpr ⟨lw_p32, List.forall_mem_cons.mpr ⟨lw_p33, List.forall_mem_cons.mpr ⟨lw_p34, List.forall_mem_cons.mpr ⟨lw_p35, List.forall_mem_cons.mpr ⟨lw_p36, List.forall_mem_cons.mpr ⟨lw_p37, List.forall_mem_cons.mpr ⟨lw_p38, List.forall_mem_cons.mpr ⟨lw_p39, List.forall_mem_cons.mpr ⟨lw_p40, List.forall_mem_cons.mpr ⟨lw_p41, List.forall_mem_cons.mpr ⟨lw_p42, List.forall_mem_cons.mpr ⟨lw_p43, List.forall_mem_cons.mpr ⟨lw_p44, List.forall_mem_cons.mpr ⟨lw_p45, List.forall_mem_cons.mpr ⟨lw_p46, List.forall_mem_cons.mpr ⟨lw_p47, fun _ h => absurd h List.not_mem_nil⟩⟩⟩⟩⟩⟩⟩⟩⟩⟩⟩⟩⟩⟩⟩⟩
theorem lw_p48 : lw_okq (⟨"DarnEggsModel", "wrong", "(II)V"⟩, 60) := ⟨⟨by decide +kernel, by decide +kernel⟩, List.mem_of_getElem? (i := 1309) (by decide +kernel), List.mem_of_getElem? (i := 1561) (by decide +kernel), List.mem_of_getElem? (i := 1562) (by decide +kernel)⟩
theorem lw_p49 : lw_okq (⟨"DarnEggsModel", "isFull", "(I)Z"⟩, 60) := ⟨⟨by decide +kernel, by decide +kernel⟩, List.mem_of_getElem? (i := 1309) (by decide +kernel), List.mem_of_getElem? (i := 1565) (by decide +kernel), List.mem_of_getElem? (i := 1566) (by decide +kernel)⟩
theorem lw_p50 : lw_okq (⟨"DarnEggsModel", "pass", "()V"⟩, 60) := ⟨⟨by decide +kernel, by decide +kernel⟩, List.mem_of_getElem? (i := 1309) (by decide +kernel), List.mem_of_getElem? (i := 1569) (by decide +kernel), List.mem_of_getElem? (i := 1570) (by decide +kernel)⟩
theorem lw_p51 : lw_okq (⟨"DarnEggsModel", "readRow", "(I)V"⟩, 60) := ⟨⟨by decide +kernel, by decide +kernel⟩, List.mem_of_getElem? (i := 1309) (by decide +kernel), List.mem_of_getElem? (i := 1573) (by decide +kernel), List.mem_of_getElem? (i := 1574) (by decide +kernel)⟩
theorem lw_p52 : lw_okq (⟨"DarnEggsModel", "readNumber", "(II)I"⟩, 60) := ⟨⟨by decide +kernel, by decide +kernel⟩, List.mem_of_getElem? (i := 1309) (by decide +kernel), List.mem_of_getElem? (i := 1577) (by decide +kernel), List.mem_of_getElem? (i := 1578) (by decide +kernel)⟩
theorem lw_p53 : lw_okq (⟨"DarnEggsModel", "readPath", "()V"⟩, 60) := ⟨⟨by decide +kernel, by decide +kernel⟩, List.mem_of_getElem? (i := 1309) (by decide +kernel), List.mem_of_getElem? (i := 1584) (by decide +kernel), List.mem_of_getElem? (i := 1585) (by decide +kernel)⟩
theorem lw_p54 : lw_okq (⟨"DarnEggsModel", "sign", "(I)V"⟩, 60) := ⟨⟨by decide +kernel, by decide +kernel⟩, List.mem_of_getElem? (i := 1309) (by decide +kernel), List.mem_of_getElem? (i := 1588) (by decide +kernel), List.mem_of_getElem? (i := 1589) (by decide +kernel)⟩
theorem lw_p55 : lw_okq (⟨"DarnEggsModel", "result", "(I)I"⟩, 60) := ⟨⟨by decide +kernel, by decide +kernel⟩, List.mem_of_getElem? (i := 1309) (by decide +kernel), List.mem_of_getElem? (i := 1592) (by decide +kernel), List.mem_of_getElem? (i := 1593) (by decide +kernel)⟩
theorem lw_p56 : lw_okq (⟨"DarnEggsModel", "readSum", "()V"⟩, 60) := ⟨⟨by decide +kernel, by decide +kernel⟩, List.mem_of_getElem? (i := 1309) (by decide +kernel), List.mem_of_getElem? (i := 1600) (by decide +kernel), List.mem_of_getElem? (i := 1601) (by decide +kernel)⟩
theorem lw_p57 : lw_okq (⟨"DarnEggsModel", "readProduct", "()V"⟩, 60) := ⟨⟨by decide +kernel, by decide +kernel⟩, List.mem_of_getElem? (i := 1309) (by decide +kernel), List.mem_of_getElem? (i := 1604) (by decide +kernel), List.mem_of_getElem? (i := 1605) (by decide +kernel)⟩
theorem lw_p58 : lw_okq (⟨"DarnEggsModel", "readUnit", "()V"⟩, 60) := ⟨⟨by decide +kernel, by decide +kernel⟩, List.mem_of_getElem? (i := 1309) (by decide +kernel), List.mem_of_getElem? (i := 1608) (by decide +kernel), List.mem_of_getElem? (i := 1609) (by decide +kernel)⟩
theorem lw_p59 : lw_okq (⟨"DarnEggsModel", "opensOne", "(I)V"⟩, 60) := ⟨⟨by decide +kernel, by decide +kernel⟩, List.mem_of_getElem? (i := 1309) (by decide +kernel), List.mem_of_getElem? (i := 1612) (by decide +kernel), List.mem_of_getElem? (i := 1613) (by decide +kernel)⟩
theorem lw_p60 : lw_okq (⟨"DarnEggsModel", "emit", "(II)V"⟩, 60) := ⟨⟨by decide +kernel, by decide +kernel⟩, List.mem_of_getElem? (i := 1309) (by decide +kernel), List.mem_of_getElem? (i := 1616) (by decide +kernel), List.mem_of_getElem? (i := 1617) (by decide +kernel)⟩
theorem lw_p61 : lw_okq (⟨"DarnEggsModel", "readTwo", "(II)V"⟩, 60) := ⟨⟨by decide +kernel, by decide +kernel⟩, List.mem_of_getElem? (i := 1309) (by decide +kernel), List.mem_of_getElem? (i := 1621) (by decide +kernel), List.mem_of_getElem? (i := 1622) (by decide +kernel)⟩
theorem lw_p62 : lw_okq (⟨"DarnEggsModel", "factHere", "()I"⟩, 60) := ⟨⟨by decide +kernel, by decide +kernel⟩, List.mem_of_getElem? (i := 1309) (by decide +kernel), List.mem_of_getElem? (i := 1626) (by decide +kernel), List.mem_of_getElem? (i := 1627) (by decide +kernel)⟩
theorem lw_p63 : lw_okq (⟨"DarnEggsModel", "readStep", "()V"⟩, 60) := ⟨⟨by decide +kernel, by decide +kernel⟩, List.mem_of_getElem? (i := 1309) (by decide +kernel), List.mem_of_getElem? (i := 1640) (by decide +kernel), List.mem_of_getElem? (i := 1641) (by decide +kernel)⟩
def lw_privs_4 : List (MethodName × Nat) := [(⟨"DarnEggsModel", "wrong", "(II)V"⟩, 60), (⟨"DarnEggsModel", "isFull", "(I)Z"⟩, 60), (⟨"DarnEggsModel", "pass", "()V"⟩, 60), (⟨"DarnEggsModel", "readRow", "(I)V"⟩, 60), (⟨"DarnEggsModel", "readNumber", "(II)I"⟩, 60), (⟨"DarnEggsModel", "readPath", "()V"⟩, 60), (⟨"DarnEggsModel", "sign", "(I)V"⟩, 60), (⟨"DarnEggsModel", "result", "(I)I"⟩, 60), (⟨"DarnEggsModel", "readSum", "()V"⟩, 60), (⟨"DarnEggsModel", "readProduct", "()V"⟩, 60), (⟨"DarnEggsModel", "readUnit", "()V"⟩, 60), (⟨"DarnEggsModel", "opensOne", "(I)V"⟩, 60), (⟨"DarnEggsModel", "emit", "(II)V"⟩, 60), (⟨"DarnEggsModel", "readTwo", "(II)V"⟩, 60), (⟨"DarnEggsModel", "factHere", "()I"⟩, 60), (⟨"DarnEggsModel", "readStep", "()V"⟩, 60)]
theorem lw_r4 : ∀ q ∈ lw_privs_4, lw_okq q := List.forall_mem_cons.mpr ⟨lw_p48, List.forall_mem_cons.mpr ⟨lw_p49, List.forall_mem_cons.mpr ⟨lw_p50, List.forall_mem_cons.mpr ⟨lw_p51, List.forall_mem_cons.mpr ⟨lw_p52, List.forall_mem_cons.mpr ⟨lw_p53, List.forall_mem_cons.mpr ⟨lw_p54, List.forall_mem_cons.mpr ⟨lw_p55, List.forall_mem_cons.mpr ⟨lw_p56, List.forall_mem_cons.mpr ⟨lw_p57, List.forall_mem_cons.mpr ⟨lw_p58, List.forall_mem_cons.mpr ⟨lw_p59, List.forall_mem_cons.mpr ⟨lw_p60, List.forall_mem_cons.mpr ⟨lw_p61, List.forall_mem_cons.mpr ⟨lw_p62, List.forall_mem_cons.mpr ⟨lw_p63, fun _ h => absurd h List.not_mem_nil⟩⟩⟩⟩⟩⟩⟩⟩⟩⟩⟩⟩⟩⟩⟩⟩
theorem lw_p64 : lw_okq (⟨"DarnEggsModel", "readEgg", "()I"⟩, 60) := ⟨⟨by decide +kernel, by decide +kernel⟩, List.mem_of_getElem? (i := 1309) (by decide +kernel), List.mem_of_getElem? (i := 1645) (by decide +kernel), List.mem_of_getElem? (i := 1646) (by decide +kernel)⟩
theorem lw_p65 : lw_okq (⟨"DarnEggsModel", "readHole", "()I"⟩, 60) := ⟨⟨by decide +kernel, by decide +kernel⟩, List.mem_of_getElem? (i := 1309) (by decide +kernel), List.mem_of_getElem? (i := 1649) (by decide +kernel), List.mem_of_getElem? (i := 1650) (by decide +kernel)⟩
theorem lw_p66 : lw_okq (⟨"DarnEggsModel", "tellsStep", "(IIII)V"⟩, 60) := ⟨⟨by decide +kernel, by decide +kernel⟩, List.mem_of_getElem? (i := 1309) (by decide +kernel), List.mem_of_getElem? (i := 1653) (by decide +kernel), List.mem_of_getElem? (i := 1654) (by decide +kernel)⟩
theorem lw_p67 : lw_okq (⟨"DarnEggsModel", "take", "()V"⟩, 60) := ⟨⟨by decide +kernel, by decide +kernel⟩, List.mem_of_getElem? (i := 1309) (by decide +kernel), List.mem_of_getElem? (i := 1662) (by decide +kernel), List.mem_of_getElem? (i := 1663) (by decide +kernel)⟩
theorem lw_p68 : lw_okq (⟨"DarnEggsModel", "goesSteps", "(II)V"⟩, 60) := ⟨⟨by decide +kernel, by decide +kernel⟩, List.mem_of_getElem? (i := 1309) (by decide +kernel), List.mem_of_getElem? (i := 1666) (by decide +kernel), List.mem_of_getElem? (i := 1667) (by decide +kernel)⟩
theorem lw_p69 : lw_okq (⟨"DarnEggsModel", "isDone", "(IIII)Z"⟩, 60) := ⟨⟨by decide +kernel, by decide +kernel⟩, List.mem_of_getElem? (i := 1309) (by decide +kernel), List.mem_of_getElem? (i := 1670) (by decide +kernel), List.mem_of_getElem? (i := 1671) (by decide +kernel)⟩
theorem lw_p70 : lw_okq (⟨"DarnEggsModel", "darns", "(III)Z"⟩, 60) := ⟨⟨by decide +kernel, by decide +kernel⟩, List.mem_of_getElem? (i := 1309) (by decide +kernel), List.mem_of_getElem? (i := 1674) (by decide +kernel), List.mem_of_getElem? (i := 1675) (by decide +kernel)⟩
theorem lw_p71 : lw_okq (⟨"DarnEggsModel", "canDarn", "(III)Z"⟩, 60) := ⟨⟨by decide +kernel, by decide +kernel⟩, List.mem_of_getElem? (i := 1309) (by decide +kernel), List.mem_of_getElem? (i := 1678) (by decide +kernel), List.mem_of_getElem? (i := 1679) (by decide +kernel)⟩
theorem lw_p72 : lw_okq (⟨"DarnEggsModel", "isHatched", "(I)Z"⟩, 60) := ⟨⟨by decide +kernel, by decide +kernel⟩, List.mem_of_getElem? (i := 1309) (by decide +kernel), List.mem_of_getElem? (i := 1682) (by decide +kernel), List.mem_of_getElem? (i := 1683) (by decide +kernel)⟩
theorem lw_p73 : lw_okq (⟨"DarnEggsModel", "mendBy", "(III)I"⟩, 60) := ⟨⟨by decide +kernel, by decide +kernel⟩, List.mem_of_getElem? (i := 1309) (by decide +kernel), List.mem_of_getElem? (i := 1686) (by decide +kernel), List.mem_of_getElem? (i := 1687) (by decide +kernel)⟩
theorem lw_p74 : lw_okq (⟨"DarnEggsModel", "mendOf", "(IIIIIIII)I"⟩, 60) := ⟨⟨by decide +kernel, by decide +kernel⟩, List.mem_of_getElem? (i := 1309) (by decide +kernel), List.mem_of_getElem? (i := 1690) (by decide +kernel), List.mem_of_getElem? (i := 1691) (by decide +kernel)⟩
theorem lw_p75 : lw_okq (⟨"DarnEggsModel", "mendNow", "()I"⟩, 60) := ⟨⟨by decide +kernel, by decide +kernel⟩, List.mem_of_getElem? (i := 1309) (by decide +kernel), List.mem_of_getElem? (i := 1694) (by decide +kernel), List.mem_of_getElem? (i := 1695) (by decide +kernel)⟩
theorem lw_p76 : lw_okq (⟨"DarnEggsModel", "valueNow", "()I"⟩, 60) := ⟨⟨by decide +kernel, by decide +kernel⟩, List.mem_of_getElem? (i := 1309) (by decide +kernel), List.mem_of_getElem? (i := 1698) (by decide +kernel), List.mem_of_getElem? (i := 1699) (by decide +kernel)⟩
theorem lw_p77 : lw_okq (⟨"DarnEggsModel", "lets", "(II)Z"⟩, 60) := ⟨⟨by decide +kernel, by decide +kernel⟩, List.mem_of_getElem? (i := 1309) (by decide +kernel), List.mem_of_getElem? (i := 1708) (by decide +kernel), List.mem_of_getElem? (i := 1709) (by decide +kernel)⟩
theorem lw_p78 : lw_okq (⟨"DarnEggsModel", "unpicks", "(I)Z"⟩, 60) := ⟨⟨by decide +kernel, by decide +kernel⟩, List.mem_of_getElem? (i := 1309) (by decide +kernel), List.mem_of_getElem? (i := 1712) (by decide +kernel), List.mem_of_getElem? (i := 1713) (by decide +kernel)⟩
theorem lw_p79 : lw_okq (⟨"DarnEggsModel", "passes", "()V"⟩, 60) := ⟨⟨by decide +kernel, by decide +kernel⟩, List.mem_of_getElem? (i := 1309) (by decide +kernel), List.mem_of_getElem? (i := 1716) (by decide +kernel), List.mem_of_getElem? (i := 1717) (by decide +kernel)⟩
def lw_privs_5 : List (MethodName × Nat) := [(⟨"DarnEggsModel", "readEgg", "()I"⟩, 60), (⟨"DarnEggsModel", "readHole", "()I"⟩, 60), (⟨"DarnEggsModel", "tellsStep", "(IIII)V"⟩, 60), (⟨"DarnEggsModel", "take", "()V"⟩, 60), (⟨"DarnEggsModel", "goesSteps", "(II)V"⟩, 60), (⟨"DarnEggsModel", "isDone", "(IIII)Z"⟩, 60), (⟨"DarnEggsModel", "darns", "(III)Z"⟩, 60), (⟨"DarnEggsModel", "canDarn", "(III)Z"⟩, 60), (⟨"DarnEggsModel", "isHatched", "(I)Z"⟩, 60), (⟨"DarnEggsModel", "mendBy", "(III)I"⟩, 60), (⟨"DarnEggsModel", "mendOf", "(IIIIIIII)I"⟩, 60), (⟨"DarnEggsModel", "mendNow", "()I"⟩, 60), (⟨"DarnEggsModel", "valueNow", "()I"⟩, 60), (⟨"DarnEggsModel", "lets", "(II)Z"⟩, 60), (⟨"DarnEggsModel", "unpicks", "(I)Z"⟩, 60), (⟨"DarnEggsModel", "passes", "()V"⟩, 60)]
theorem lw_r5 : ∀ q ∈ lw_privs_5, lw_okq q := List.forall_mem_cons.mpr ⟨lw_p64, List.forall_mem_cons.mpr ⟨lw_p65, List.forall_mem_cons.mpr ⟨lw_p66, List.forall_mem_cons.mpr ⟨lw_p67, List.forall_mem_cons.mpr ⟨lw_p68, List.forall_mem_cons.mpr ⟨lw_p69, List.forall_mem_cons.mpr ⟨lw_p70, List.forall_mem_cons.mpr ⟨lw_p71, List.forall_mem_cons.mpr ⟨lw_p72, List.forall_mem_cons.mpr ⟨lw_p73, List.forall_mem_cons.mpr ⟨lw_p74, List.forall_mem_cons.mpr ⟨lw_p75, List.forall_mem_cons.mpr ⟨lw_p76, List.forall_mem_cons.mpr ⟨lw_p77, List.forall_mem_cons.mpr ⟨lw_p78, List.forall_mem_cons.mpr ⟨lw_p79, fun _ h => absurd h List.not_mem_nil⟩⟩⟩⟩⟩⟩⟩⟩⟩⟩⟩⟩⟩⟩⟩⟩
theorem lw_p80 : lw_okq (⟨"DarnEggsModel", "acts", "(I)V"⟩, 60) := ⟨⟨by decide +kernel, by decide +kernel⟩, List.mem_of_getElem? (i := 1309) (by decide +kernel), List.mem_of_getElem? (i := 1720) (by decide +kernel), List.mem_of_getElem? (i := 1721) (by decide +kernel)⟩
theorem lw_p81 : lw_okq (⟨"DarnEggsModel", "isHooked", "(I)Z"⟩, 60) := ⟨⟨by decide +kernel, by decide +kernel⟩, List.mem_of_getElem? (i := 1309) (by decide +kernel), List.mem_of_getElem? (i := 1724) (by decide +kernel), List.mem_of_getElem? (i := 1725) (by decide +kernel)⟩
theorem lw_p82 : lw_okq (⟨"DarnEggsModel", "pathsOf", "(I)I"⟩, 60) := ⟨⟨by decide +kernel, by decide +kernel⟩, List.mem_of_getElem? (i := 1309) (by decide +kernel), List.mem_of_getElem? (i := 1728) (by decide +kernel), List.mem_of_getElem? (i := 1729) (by decide +kernel)⟩
theorem lw_p83 : lw_okq (⟨"DarnEggsModel", "hatchedNow", "()I"⟩, 60) := ⟨⟨by decide +kernel, by decide +kernel⟩, List.mem_of_getElem? (i := 1309) (by decide +kernel), List.mem_of_getElem? (i := 1747) (by decide +kernel), List.mem_of_getElem? (i := 1748) (by decide +kernel)⟩
theorem lw_p84 : lw_okq (⟨"DarnEggsModel", "outAt", "(I)I"⟩, 60) := ⟨⟨by decide +kernel, by decide +kernel⟩, List.mem_of_getElem? (i := 1309) (by decide +kernel), List.mem_of_getElem? (i := 1751) (by decide +kernel), List.mem_of_getElem? (i := 1752) (by decide +kernel)⟩
theorem lw_p85 : lw_okq (⟨"DarnEggsModel", "busyNow", "()I"⟩, 60) := ⟨⟨by decide +kernel, by decide +kernel⟩, List.mem_of_getElem? (i := 1309) (by decide +kernel), List.mem_of_getElem? (i := 1755) (by decide +kernel), List.mem_of_getElem? (i := 1756) (by decide +kernel)⟩
theorem lw_p86 : lw_okq (⟨"DarnEggsModel", "sumOf", "(I)I"⟩, 60) := ⟨⟨by decide +kernel, by decide +kernel⟩, List.mem_of_getElem? (i := 1309) (by decide +kernel), List.mem_of_getElem? (i := 1759) (by decide +kernel), List.mem_of_getElem? (i := 1760) (by decide +kernel)⟩
theorem lw_p87 : lw_okq (⟨"DarnEggsModel", "isEgg", "(II)Z"⟩, 60) := ⟨⟨by decide +kernel, by decide +kernel⟩, List.mem_of_getElem? (i := 1309) (by decide +kernel), List.mem_of_getElem? (i := 1767) (by decide +kernel), List.mem_of_getElem? (i := 1768) (by decide +kernel)⟩
theorem lw_p88 : lw_okq (⟨"DarnEggsModel", "isHand", "(II)Z"⟩, 60) := ⟨⟨by decide +kernel, by decide +kernel⟩, List.mem_of_getElem? (i := 1309) (by decide +kernel), List.mem_of_getElem? (i := 1775) (by decide +kernel), List.mem_of_getElem? (i := 1776) (by decide +kernel)⟩
theorem lw_p89 : lw_okq (⟨"DarnEggsModel", "isHole", "(II)Z"⟩, 60) := ⟨⟨by decide +kernel, by decide +kernel⟩, List.mem_of_getElem? (i := 1309) (by decide +kernel), List.mem_of_getElem? (i := 1783) (by decide +kernel), List.mem_of_getElem? (i := 1784) (by decide +kernel)⟩
theorem lw_p90 : lw_okq (⟨"DarnEggsModel", "mendedNow", "()I"⟩, 60) := ⟨⟨by decide +kernel, by decide +kernel⟩, List.mem_of_getElem? (i := 1309) (by decide +kernel), List.mem_of_getElem? (i := 1807) (by decide +kernel), List.mem_of_getElem? (i := 1808) (by decide +kernel)⟩
theorem lw_p91 : lw_okq (⟨"DarnEggsModel", "findBest", "(I)V"⟩, 60) := ⟨⟨by decide +kernel, by decide +kernel⟩, List.mem_of_getElem? (i := 1309) (by decide +kernel), List.mem_of_getElem? (i := 1823) (by decide +kernel), List.mem_of_getElem? (i := 1824) (by decide +kernel)⟩
theorem lw_p92 : lw_okq (⟨"DarnEggsModel", "mayTake", "(IIII)Z"⟩, 60) := ⟨⟨by decide +kernel, by decide +kernel⟩, List.mem_of_getElem? (i := 1309) (by decide +kernel), List.mem_of_getElem? (i := 1827) (by decide +kernel), List.mem_of_getElem? (i := 1828) (by decide +kernel)⟩
theorem lw_p93 : lw_okq (⟨"DarnEggsModel", "takenBy", "(III)I"⟩, 60) := ⟨⟨by decide +kernel, by decide +kernel⟩, List.mem_of_getElem? (i := 1309) (by decide +kernel), List.mem_of_getElem? (i := 1831) (by decide +kernel), List.mem_of_getElem? (i := 1832) (by decide +kernel)⟩
theorem lw_p94 : lw_okq (⟨"DarnEggsModel", "worn", "()I"⟩, 60) := ⟨⟨by decide +kernel, by decide +kernel⟩, List.mem_of_getElem? (i := 1309) (by decide +kernel), List.mem_of_getElem? (i := 1843) (by decide +kernel), List.mem_of_getElem? (i := 1844) (by decide +kernel)⟩
theorem lw_p95 : lw_okq (⟨"DarnEggsModel", "nearTo", "(I)I"⟩, 60) := ⟨⟨by decide +kernel, by decide +kernel⟩, List.mem_of_getElem? (i := 1309) (by decide +kernel), List.mem_of_getElem? (i := 1851) (by decide +kernel), List.mem_of_getElem? (i := 1852) (by decide +kernel)⟩
def lw_privs_6 : List (MethodName × Nat) := [(⟨"DarnEggsModel", "acts", "(I)V"⟩, 60), (⟨"DarnEggsModel", "isHooked", "(I)Z"⟩, 60), (⟨"DarnEggsModel", "pathsOf", "(I)I"⟩, 60), (⟨"DarnEggsModel", "hatchedNow", "()I"⟩, 60), (⟨"DarnEggsModel", "outAt", "(I)I"⟩, 60), (⟨"DarnEggsModel", "busyNow", "()I"⟩, 60), (⟨"DarnEggsModel", "sumOf", "(I)I"⟩, 60), (⟨"DarnEggsModel", "isEgg", "(II)Z"⟩, 60), (⟨"DarnEggsModel", "isHand", "(II)Z"⟩, 60), (⟨"DarnEggsModel", "isHole", "(II)Z"⟩, 60), (⟨"DarnEggsModel", "mendedNow", "()I"⟩, 60), (⟨"DarnEggsModel", "findBest", "(I)V"⟩, 60), (⟨"DarnEggsModel", "mayTake", "(IIII)Z"⟩, 60), (⟨"DarnEggsModel", "takenBy", "(III)I"⟩, 60), (⟨"DarnEggsModel", "worn", "()I"⟩, 60), (⟨"DarnEggsModel", "nearTo", "(I)I"⟩, 60)]
theorem lw_r6 : ∀ q ∈ lw_privs_6, lw_okq q := List.forall_mem_cons.mpr ⟨lw_p80, List.forall_mem_cons.mpr ⟨lw_p81, List.forall_mem_cons.mpr ⟨lw_p82, List.forall_mem_cons.mpr ⟨lw_p83, List.forall_mem_cons.mpr ⟨lw_p84, List.forall_mem_cons.mpr ⟨lw_p85, List.forall_mem_cons.mpr ⟨lw_p86, List.forall_mem_cons.mpr ⟨lw_p87, List.forall_mem_cons.mpr ⟨lw_p88, List.forall_mem_cons.mpr ⟨lw_p89, List.forall_mem_cons.mpr ⟨lw_p90, List.forall_mem_cons.mpr ⟨lw_p91, List.forall_mem_cons.mpr ⟨lw_p92, List.forall_mem_cons.mpr ⟨lw_p93, List.forall_mem_cons.mpr ⟨lw_p94, List.forall_mem_cons.mpr ⟨lw_p95, fun _ h => absurd h List.not_mem_nil⟩⟩⟩⟩⟩⟩⟩⟩⟩⟩⟩⟩⟩⟩⟩⟩
theorem lw_p96 : lw_okq (⟨"DarnEggsModel", "isFit", "(II)Z"⟩, 60) := ⟨⟨by decide +kernel, by decide +kernel⟩, List.mem_of_getElem? (i := 1309) (by decide +kernel), List.mem_of_getElem? (i := 1870) (by decide +kernel), List.mem_of_getElem? (i := 1871) (by decide +kernel)⟩
theorem lw_p97 : lw_okq (⟨"DarnEggsModel", "leaves", "(III)I"⟩, 60) := ⟨⟨by decide +kernel, by decide +kernel⟩, List.mem_of_getElem? (i := 1309) (by decide +kernel), List.mem_of_getElem? (i := 1874) (by decide +kernel), List.mem_of_getElem? (i := 1875) (by decide +kernel)⟩
theorem lw_p98 : lw_okq (⟨"DarnEggsModel", "worstOf", "(I)I"⟩, 60) := ⟨⟨by decide +kernel, by decide +kernel⟩, List.mem_of_getElem? (i := 1309) (by decide +kernel), List.mem_of_getElem? (i := 1882) (by decide +kernel), List.mem_of_getElem? (i := 1883) (by decide +kernel)⟩
theorem lw_p99 : lw_okq (⟨"DarnEggsModel", "woolBy", "(II)I"⟩, 60) := ⟨⟨by decide +kernel, by decide +kernel⟩, List.mem_of_getElem? (i := 1309) (by decide +kernel), List.mem_of_getElem? (i := 1905) (by decide +kernel), List.mem_of_getElem? (i := 1906) (by decide +kernel)⟩
theorem lw_p100 : lw_okq (⟨"DarnEggsModel", "greatest", "(I)I"⟩, 60) := ⟨⟨by decide +kernel, by decide +kernel⟩, List.mem_of_getElem? (i := 1309) (by decide +kernel), List.mem_of_getElem? (i := 1913) (by decide +kernel), List.mem_of_getElem? (i := 1914) (by decide +kernel)⟩
theorem lw_p101 : lw_okq (⟨"DarnEggsModel", "generationGoes", "(III)V"⟩, 60) := ⟨⟨by decide +kernel, by decide +kernel⟩, List.mem_of_getElem? (i := 1309) (by decide +kernel), List.mem_of_getElem? (i := 1928) (by decide +kernel), List.mem_of_getElem? (i := 1929) (by decide +kernel)⟩
theorem lw_p102 : lw_okq (⟨"DarnEggsModel", "draws", "(I)I"⟩, 60) := ⟨⟨by decide +kernel, by decide +kernel⟩, List.mem_of_getElem? (i := 1309) (by decide +kernel), List.mem_of_getElem? (i := 1932) (by decide +kernel), List.mem_of_getElem? (i := 1933) (by decide +kernel)⟩
theorem lw_p103 : lw_okq (⟨"DarnEggsModel", "keepsAll", "(IZ)V"⟩, 60) := ⟨⟨by decide +kernel, by decide +kernel⟩, List.mem_of_getElem? (i := 1309) (by decide +kernel), List.mem_of_getElem? (i := 1945) (by decide +kernel), List.mem_of_getElem? (i := 1946) (by decide +kernel)⟩
theorem lw_p104 : lw_okq (⟨"DarnEggsModel", "keepsRow", "(I[IIZ)I"⟩, 60) := ⟨⟨by decide +kernel, by decide +kernel⟩, List.mem_of_getElem? (i := 1309) (by decide +kernel), List.mem_of_getElem? (i := 1949) (by decide +kernel), List.mem_of_getElem? (i := 1950) (by decide +kernel)⟩
def lw_privs_7 : List (MethodName × Nat) := [(⟨"DarnEggsModel", "isFit", "(II)Z"⟩, 60), (⟨"DarnEggsModel", "leaves", "(III)I"⟩, 60), (⟨"DarnEggsModel", "worstOf", "(I)I"⟩, 60), (⟨"DarnEggsModel", "woolBy", "(II)I"⟩, 60), (⟨"DarnEggsModel", "greatest", "(I)I"⟩, 60), (⟨"DarnEggsModel", "generationGoes", "(III)V"⟩, 60), (⟨"DarnEggsModel", "draws", "(I)I"⟩, 60), (⟨"DarnEggsModel", "keepsAll", "(IZ)V"⟩, 60), (⟨"DarnEggsModel", "keepsRow", "(I[IIZ)I"⟩, 60)]
theorem lw_r7 : ∀ q ∈ lw_privs_7, lw_okq q := List.forall_mem_cons.mpr ⟨lw_p96, List.forall_mem_cons.mpr ⟨lw_p97, List.forall_mem_cons.mpr ⟨lw_p98, List.forall_mem_cons.mpr ⟨lw_p99, List.forall_mem_cons.mpr ⟨lw_p100, List.forall_mem_cons.mpr ⟨lw_p101, List.forall_mem_cons.mpr ⟨lw_p102, List.forall_mem_cons.mpr ⟨lw_p103, List.forall_mem_cons.mpr ⟨lw_p104, fun _ h => absurd h List.not_mem_nil⟩⟩⟩⟩⟩⟩⟩⟩⟩
def lw_privs : List (MethodName × Nat) := lw_privs_1 ++ (lw_privs_2 ++ (lw_privs_3 ++ (lw_privs_4 ++ (lw_privs_5 ++ (lw_privs_6 ++ (lw_privs_7))))))
def lw_tbl : List Cond := k2_sels lw_privs ++ tables_1
theorem lw_privs_ok : ∀ q ∈ lw_privs, lw_okq q := by
  show ∀ q ∈ lw_privs_1 ++ (lw_privs_2 ++ (lw_privs_3 ++ (lw_privs_4 ++ (lw_privs_5 ++ (lw_privs_6 ++ (lw_privs_7)))))), lw_okq q
  exact List.forall_mem_append.mpr ⟨lw_r1, List.forall_mem_append.mpr ⟨lw_r2, List.forall_mem_append.mpr ⟨lw_r3, List.forall_mem_append.mpr ⟨lw_r4, List.forall_mem_append.mpr ⟨lw_r5, List.forall_mem_append.mpr ⟨lw_r6, lw_r7⟩⟩⟩⟩⟩⟩
end
section
/-! ===== BEGIN words of one list among another's, by their places ===== -/
theorem goodIn_r {big : List Cond} (ws : List Cond) (ps : List Nat) (hp : ws = ps.filterMap (fun i => big[i]?)) (h : ws.all goodWord = true) : GoodIn big ws := by
  intro w hw
  have h1 := List.all_eq_true.mp h w hw
  rw [hp] at hw
  obtain ⟨i, -, hi⟩ := List.mem_filterMap.mp hw
  have hm : w ∈ big := by first | exact List.mem_of_getElem? hi | exact List.getElem?_mem hi
  exact ⟨hm, good_of_word h1⟩
theorem goodIn_app {big a b : List Cond} (ha : GoodIn big a) (hb : GoodIn big b) : GoodIn big (a ++ b) := fun w h => (List.mem_append.mp h).elim (ha w) (hb w)
theorem goodIn_ca {big a b : List Cond} {c : Cond} (ha : GoodIn big (c :: a)) (hb : GoodIn big b) : GoodIn big (c :: (a ++ b)) := fun w h => (List.mem_cons.mp h).elim (fun e => ha w (List.mem_cons.mpr (Or.inl e))) (fun h => (List.mem_append.mp h).elim (fun h => ha w (List.mem_cons.mpr (Or.inr h))) (hb w))
theorem goodIn_sub {big ws : List Cond} (hm : ∀ w ∈ ws, w ∈ big) (h : ws.all goodWord = true) : GoodIn big ws := fun w hw => ⟨hm w hw, good_of_word (List.all_eq_true.mp h w hw)⟩
/-! ===== END ===== -/

/-! ===== BEGIN exceptions that leave a method, and their catching by the caller (launches without stack traces) ===== -/
section VXA
/-! The laws vx_back, vx_callV, vx_callS, vx_callSW, vx_throw0, vx_throwS follow proofs of the library, with one case more: JvmDerived/Free/Laws.lean (Back.of_free), Shelf42/LK1.lean (callV, callS), Shelf/KitTraced.lean (throwNew0V, throwNewS). -/
/-- where a method has thrown q: the class by its name, the cell, what was written, the world -/
def vx_T (XC : String → State → State → Prop) (st : State) (q : Addr) (t : State) (mc ms : Nat) (free : Addr → Prop) : Prop :=
  ∃ (E : String) (ce : Cell) (L : List Loc), XC E st t ∧ t.heap[q]? = some ce ∧ ce.vm = .none ∧ st.vm.findClass E = some ce.cls ∧ st.WarmedH t.vm ∧ st.sameButNew ({ t with vm := st.vm } : State) L mc ms ∧ ∀ z ∈ L, free z.base
def vx_Q (Qc : Array Value → State → Outcome → State → Prop) (XC : String → State → State → Prop) (mc ms : Nat) (free : Addr → Prop) : Array Value → State → Outcome → State → Prop := fun a st o t =>
  (Qc a st o t ∧ ∃ L, FrameEnd st o t L mc ms ∧ ∀ q ∈ L, free q.base) ∨ ∃ q, o = .threw q ∧ vx_T XC st q t mc ms free
/-- a callee that returns or throws -/
def vx_Met (l : Launch) (y : MethodName) (ws : List Cond) (rm : Room) (Pc : Array Value → State → Prop) (Qc : Array Value → State → Outcome → State → Prop) (XC : String → State → State → Prop) (mc ms : Nat) (free : Addr → Prop) : Prop :=
  MetFree l y (headSpec ws rm) Pc (fun _ _ _ _ _ => True) (vx_Q Qc XC mc ms free)
def vx_Post (XC : String → State → State → Prop) (mc ms : Nat) (free : Addr → Prop) : Pt → Array Value → Addr → Pt → Prop := fun A a q B =>
  ∃ (g : JFrame) (mk : MethodId) (t : State) (L : List Loc) (E : String) (ce : Cell), B.U.heap = t.heap ∧ B.U.vm = t.vm ∧ XC E (A.U.calling g mk a) t ∧ t.heap[q]? = some ce ∧ ce.vm = .none ∧ A.U.vm.findClass E = some ce.cls ∧ B.locs = A.locs ++ L ∧ (∀ z ∈ L, free z.base) ∧ B.cells = A.cells + mc ∧ B.slots = A.slots + ms
def vx_Back (l : Launch) (R : Room) (p : Program) (e : Env) (below : List Frame) (s : State) (sargs : Array Value) (y : MethodName) (len W9 : Nat)
    (Pre : Pt → Array Value → Prop) (Post : Pt → Array Value → Option Value → Pt → Prop) (PostX : Pt → Array Value → Addr → Pt → Prop) : Prop :=
  ∀ (m : MethodId) (meth : Method) (c : Code) (A : Pt) (g : JFrame) (ig : Instr) (mk : MethodId) (a : Array Value),
    Stand p l e R s m sargs below meth c A.U A.locs A.cells A.slots → g.method = m → g.locals.size = c.maxLocals → decode c.code g.pc = .ok (ig, len) →
    2 * g.monitorRoom + (g.stack.map fun v => v.category).sum ≤ W9 → A.U.methodNamed? y = some mk → Pre A a →
    (∃ (v : Option Value) (B : Pt), Stand p l e R s m sargs below meth c B.U B.locs B.cells B.slots ∧ Post A a v B ∧
      Steps p.tables e below (doInvoke e (A.U.setTop g) [] mk a).1 (B.U.setTop { g with pc := g.pc + len, stack := v.toList ++ g.stack })) ∨
    (∃ (q : Addr) (B : Pt), Stand p l e R s m sargs below meth c B.U B.locs B.cells B.slots ∧ PostX A a q B ∧
      Steps p.tables e below (doInvoke e (A.U.setTop g) [] mk a).1 ((B.U.setTop g).pushFrame (.throwing q)))
section Payer
variable {l : Launch} {R : Room} {p : Program} {e : Env} {below : List Frame} {s : State} {sargs : Array Value} {y : MethodName} {len W9 : Nat}
theorem vx_back {ws : List Cond} {rm : Room} {Pc : Array Value → State → Prop} {Qc : Array Value → State → Outcome → State → Prop} {XC : String → State → State → Prop} {mc ms : Nat} {free : Addr → Prop} {bytes : ByteArray} {maxL : Nat} {ret : Option FieldType}
    (hM : vx_Met l y ws rm Pc Qc XC mc ms free) (hblind : FrameBlind Pc) (hrc : rm.cells = mc) (hrs : rm.slots = ms)
    (hframes : rm.frames + 1 ≤ R.frames) (hlocals : W9 + (maxL + 11) + rm.locals ≤ R.locals)
    (hws : ∀ w ∈ ws, ∀ a' U, s.WarmedH U.vm → w.before a' U = true) (hcode : Cond.code y bytes maxL ret ∈ ws) (hinit : ∀ a' U, s.WarmedH U.vm → (Cond.initialized y.cls).before a' U = true) :
    vx_Back l R p e below s sargs y len W9 (PreOf R mc ms Pc) (PostOf Qc mc ms free) (vx_Post XC mc ms free) := by
  intro m meth c A g ig mk a X hg hsize hdg hW hn hp
  have h1 : (headSpec ws rm).pre.before a A.U = true := atoms_intro fun w hw => hws w hw _ _ X.warmed
  have h2 : (Cond.code y bytes maxL ret).before a A.U = true := hws _ hcode _ _ X.warmed
  have h3 : (Cond.initialized y.cls).before a A.U = true := hinit _ _ X.warmed
  have h4 : A.cells + (headSpec ws rm).room.cells ≤ R.cells := by rw [show (headSpec ws rm).room.cells = mc from hrc]; exact hp.1
  have h5 : A.slots + (headSpec ws rm).room.slots ≤ R.slots := by rw [show (headSpec ws rm).room.slots = ms from hrs]; exact hp.2.1
  have hPc : Pc a (A.U.calling g mk a) := hblind _ _ _ _ hp.2.2
  obtain ⟨U, Ls, c0, s0⟩ := A
  dsimp only [Pt.U, Pt.locs, Pt.cells, Pt.slots] at h1 h2 h3 h4 h5 X hn hPc ⊢
  obtain ⟨methY, cY, hmY, hcY, -, hlY, -, -, -, -⟩ := Cond.code_spec hn h2
  obtain ⟨kY, hkY, -⟩ := className_of_methodNamed hn
  have hinitY : kY.init = .initialized := Cond.initialized_spec (findClass_of_methodNamed hn) hkY h3
  have h : At U g.method c below := by rw [hg]; exact X.here
  have hlocals9 : W9 + (maxL + 11) + (headSpec ws rm).room.locals ≤ R.locals := hlocals
  have happ : (headSpec ws rm).appliesLoose y e.platform (U.calling g mk a) = true :=
    Spec.appliesLoose_calling (g := g) h hdg hn hkY hinitY
      (X.room_calling (g := g) (R' := (headSpec ws rm).room) hsize hmY hcY hframes (by rw [hlY]; omega) h4 h5) h1
  obtain ⟨mid, hmid⟩ := h.above
  have hfr : (U.setTop g).frames = (.java g :: mid) ++ below := by rw [State.frames_setTop' g h.top, hmid]; rfl
  obtain ⟨o, s₂, hsteps, -, hend, hq⟩ := Steps.callFree hM p X.admits X.cas X.clock (acts := []) hfr happ hPc trivial
  have hq' : vx_Q Qc XC mc ms free a (U.calling g mk a) o s₂ := hq
  rw [State.frames_setTop' g h.top] at hend
  obtain ⟨g₀, hg0⟩ := Option.isSome_iff_exists.mp h.top
  obtain ⟨r, hr⟩ := State.topJava?_eq_some.mp hg0
  have hr' : (({ U with heap := s₂.heap, slotsUsed := s₂.slotsUsed } : State).setVm s₂.vm).frames = .java g₀ :: r := hr
  rcases hq' with ⟨hqc, L, hfe, hL⟩ | ⟨q, rfl, E, ce, L, hx, hce, hcv, hcl, hW₂, hsm, hL⟩
  · obtain ⟨⟨v, rfl⟩, hW₂, e2, q2, q3, q4, q5, q6⟩ := id hfe
    have e3 : s₂ = ({ (U.calling g mk a).setFrames s₂.frames with heap := s₂.heap, slotsUsed := s₂.slotsUsed } : State).setVm s₂.vm := by
      have : s₂ = ({ s₂ with vm := (U.calling g mk a).vm } : State).setVm s₂.vm := rfl
      rw [e2] at this
      exact this
    obtain ⟨c₂, i₂, len₂, hc₂, hd₂, hf₂⟩ := hend
    have hW' : U.WarmedH s₂.vm := hW₂
    have hcc : c₂ = c := by
      have h1 : s₂.code? g.method = U.code? g.method := by
        rw [State.code?_eq, State.code?_eq, hW'.alike.method?]
      exact Option.some.inj (hc₂.symm.trans (h1.trans h.code))
    subst hcc
    have hlen : len₂ = len := by rw [hdg] at hd₂; cases hd₂; rfl
    subst hlen
    have hs₂ : s₂ = (({ U with heap := s₂.heap, slotsUsed := s₂.slotsUsed } : State).setVm s₂.vm).setTop { g with pc := g.pc + len₂, stack := v.toList ++ g.stack } := by
      refine e3.trans ?_
      rw [hf₂, State.calling_eq h.top, State.setFrames_setFrames, State.setTop_of_frames _ hr', hr]
      rfl
    have hsame : U.sameButNew ({ U with heap := s₂.heap, slotsUsed := s₂.slotsUsed } : State) L mc ms := by
      refine ⟨?_, q2, q3, q4, q5, q6⟩
      obtain ⟨t, ht, -⟩ := State.frames_cons hr
      show ({ U with heap := s₂.heap, slotsUsed := s₂.slotsUsed } : State) = { U.setFrames U.frames with heap := s₂.heap, slotsUsed := s₂.slotsUsed }
      rw [State.setFrames_self ht]
    subst hg
    refine Or.inl ⟨v, ⟨(({ U with heap := s₂.heap, slotsUsed := s₂.slotsUsed } : State).setVm s₂.vm), Ls ++ L, c0 + mc, s0 + ms⟩,
      ⟨X.admits, X.cas, X.clock, X.frames, X.room, X.hears, X.method, X.code, (X.here.setHeapUsed s₂.heap s₂.slotsUsed).setVm hW'.alike, X.tail, State.WarmedH.trans X.warmed hW', X.limits, X.bytes, X.same.trans (hsame.setVm s.vm)⟩,
      ⟨g, mk, s₂, L, rfl, rfl, hqc, rfl, hL, rfl, rfl⟩, ?_⟩
    show Steps p.tables e below _ ((({ U with heap := s₂.heap, slotsUsed := s₂.slotsUsed } : State).setVm s₂.vm).setTop { g with pc := g.pc + len₂, stack := v.toList ++ g.stack })
    rw [← hs₂]
    exact hsteps
  · obtain ⟨e2, q2, q3, q4, q5, q6⟩ := id hsm
    have e3 : s₂ = ({ (U.calling g mk a).setFrames s₂.frames with heap := s₂.heap, slotsUsed := s₂.slotsUsed } : State).setVm s₂.vm := by
      have : s₂ = ({ s₂ with vm := (U.calling g mk a).vm } : State).setVm s₂.vm := rfl
      rw [e2] at this
      exact this
    have hf₂ : s₂.frames = .throwing q :: .java g :: U.frames.tail := hend
    have hW' : U.WarmedH s₂.vm := hW₂
    have hs₂ : s₂ = ((({ U with heap := s₂.heap, slotsUsed := s₂.slotsUsed } : State).setVm s₂.vm).setTop g).pushFrame (.throwing q) := by
      refine e3.trans ?_
      rw [hf₂, State.calling_eq h.top, State.setFrames_setFrames, State.pushFrame, State.frames_setTop _ hr', State.setTop_of_frames _ hr', State.setFrames_setFrames, hr]
      rfl
    have hsame : U.sameButNew ({ U with heap := s₂.heap, slotsUsed := s₂.slotsUsed } : State) L mc ms := by
      refine ⟨?_, q2, q3, q4, q5, q6⟩
      obtain ⟨t, ht, -⟩ := State.frames_cons hr
      show ({ U with heap := s₂.heap, slotsUsed := s₂.slotsUsed } : State) = { U.setFrames U.frames with heap := s₂.heap, slotsUsed := s₂.slotsUsed }
      rw [State.setFrames_self ht]
    subst hg
    refine Or.inr ⟨q, ⟨(({ U with heap := s₂.heap, slotsUsed := s₂.slotsUsed } : State).setVm s₂.vm), Ls ++ L, c0 + mc, s0 + ms⟩,
      ⟨X.admits, X.cas, X.clock, X.frames, X.room, X.hears, X.method, X.code, (X.here.setHeapUsed s₂.heap s₂.slotsUsed).setVm hW'.alike, X.tail, State.WarmedH.trans X.warmed hW', X.limits, X.bytes, X.same.trans (hsame.setVm s.vm)⟩,
      ⟨g, mk, s₂, L, E, ce, rfl, rfl, hx, hce, hcv, hcl, rfl, hL, rfl, rfl⟩, ?_⟩
    show Steps p.tables e below _ (((({ U with heap := s₂.heap, slotsUsed := s₂.slotsUsed } : State).setVm s₂.vm).setTop g).pushFrame (.throwing q))
    rw [← hs₂]
    exact hsteps
end Payer
section Calls
variable {p : Program} {l : Launch} {e : Env} {R : Room} {s : State} {m : MethodId} {args : Array Value} {below : List Frame} {meth : Method} {c : Code} {T : State} {locs : List Loc} {cells slots : Nat}
theorem vx_callV (X : Stand p l e R s m args below meth c T locs cells slots) (hexec : p.tables.exec = Jvm.exec) {own C : String} {index : Nat} {y : MethodName} {bytes : ByteArray} {maxL : Nat} {ret : Option FieldType}
    (hown : s.vm.findClass own = some m.cls) (hlink : (Cond.methodLink own index y).before args s = true) (hinst : (Cond.instanceMethod y).before args s = true) (hsel : (Cond.selects C y y).before args s = true)
    (hcode : (Cond.code y bytes maxL ret).before args s = true) (hy : y.cls ≠ "java/lang/invoke/MethodHandle" ∧ y.cls ≠ "java/lang/invoke/VarHandle")
    {W9 : Nat} {Pre : Pt → Array Value → Prop} {Post : Pt → Array Value → Option Value → Pt → Prop} {PostX : Pt → Array Value → Addr → Pt → Prop} (hK : vx_Back l R p e below s args y 3 W9 Pre Post PostX)
    {b : Addr} {cellB : Cell} (hcell : T.heap[b]? = some cellB) (hobj : cellB.vm.isStatics = false) (hcls : s.vm.findClass C = some cellB.cls)
    {g : JFrame} (hg : g.method = m) (hsize : g.locals.size = c.maxLocals) {argsL rest : List Value} (hlen : ∀ sig, parseMethodDescriptor y.desc = some sig → argsL.length = sig.parameters.length)
    (hstack : g.stack = argsL.reverse ++ .ref b :: rest) (hW : 2 * g.monitorRoom + (rest.map fun v => v.category).sum ≤ W9) (hdg : decode c.code g.pc = .ok (.invokevirtual index, 3))
    (hpre : ∀ vm₁, s.WarmedH vm₁ → Pre ⟨T.setVm vm₁, locs, cells, slots⟩ (Value.ref b :: argsL).toArray) :
    (∃ (v : Option Value) (vm₁ : Vm) (B : Pt), s.WarmedH vm₁ ∧ Stand p l e R s m args below meth c B.U B.locs B.cells B.slots ∧ Post ⟨T.setVm vm₁, locs, cells, slots⟩ (Value.ref b :: argsL).toArray v B ∧
      ∀ target, Steps p.tables e below (B.U.setTop { g with pc := g.pc + 3, stack := v.toList ++ rest }) target → Steps p.tables e below (T.setTop g) target) ∨
    (∃ (q : Addr) (vm₁ : Vm) (B : Pt), s.WarmedH vm₁ ∧ Stand p l e R s m args below meth c B.U B.locs B.cells B.slots ∧ PostX ⟨T.setVm vm₁, locs, cells, slots⟩ (Value.ref b :: argsL).toArray q B ∧
      Steps p.tables e below (T.setTop g) ((B.U.setTop { g with stack := rest }).pushFrame (.throwing q))) := by
  obtain ⟨mk, methM, hnamed, hmethM, hstM, habM⟩ := Cond.instanceMethod_spec hinst
  obtain ⟨methM', cM, hmethM', -, -, -, -, -, -, hsigM⟩ := Cond.code_spec hnamed hcode
  cases hmethM.symm.trans hmethM'
  obtain ⟨c2, r2, m2, q1, q2, q3, q4, kP, hkP, hkPi⟩ := Cond.selects_spec hsel
  cases hcls.symm.trans q1
  cases (State.methodFound?_of_named hnamed hy).symm.trans q2
  cases hnamed.symm.trans q3
  have hselP : selectMethod e.platform s.vm cellB.cls mk = .method mk := by rw [Launch.admits_selectMethod X.admits]; exact q4
  obtain ⟨vm₁, X₁, hstep₁⟩ := X.invokevirtual hexec hown hlink hnamed hmethM hstM hkP hkPi hy (a := b) (cell := cellB) hcell
    (fun z h => by rw [h] at hobj; cases hobj) hselP hmethM habM hkP hkPi (g := g) hg (argsL := argsL) (rest := rest) (hlen _ hsigM) hstack hdg
  rcases hK m meth c ⟨T.setVm vm₁, locs, cells, slots⟩ { g with stack := rest } (.invokevirtual index) mk (Value.ref b :: argsL).toArray X₁ hg hsize hdg hW (X₁.named hnamed) (hpre vm₁ X₁.warmed) with ⟨v, B, X', hpost, hsteps⟩ | ⟨q, B, X', hpost, hsteps⟩
  · exact Or.inl ⟨v, vm₁, B, X₁.warmed, X', hpost, fun target h => hstep₁ _ fun acts => by rw [doInvoke_state]; exact hsteps.trans h⟩
  · exact Or.inr ⟨q, vm₁, B, X₁.warmed, X', hpost, hstep₁ _ fun acts => by rw [doInvoke_state]; exact hsteps⟩
theorem vx_callS (X : Stand p l e R s m args below meth c T locs cells slots) (hexec : p.tables.exec = Jvm.exec) {own : String} {index : Nat} {y : MethodName} {bytes : ByteArray} {maxL : Nat} {ret : Option FieldType}
    (hown : s.vm.findClass own = some m.cls) (hlink : (Cond.methodLink own index y).before args s = true) (hstat : (Cond.static y).before args s = true) (hinit : (Cond.initialized y.cls).before args s = true)
    (hcode : (Cond.code y bytes maxL ret).before args s = true) (hy : y.cls ≠ "java/lang/invoke/MethodHandle" ∧ y.cls ≠ "java/lang/invoke/VarHandle")
    {W9 : Nat} {Pre : Pt → Array Value → Prop} {Post : Pt → Array Value → Option Value → Pt → Prop} {PostX : Pt → Array Value → Addr → Pt → Prop} (hK : vx_Back l R p e below s args y 3 W9 Pre Post PostX)
    {g : JFrame} (hg : g.method = m) (hsize : g.locals.size = c.maxLocals) {argsL rest : List Value} (hlen : ∀ sig, parseMethodDescriptor y.desc = some sig → argsL.length = sig.parameters.length)
    (hstack : g.stack = argsL.reverse ++ rest) (hW : 2 * g.monitorRoom + (rest.map fun v => v.category).sum ≤ W9) (hdg : decode c.code g.pc = .ok (.invokestatic index, 3))
    (hpre : ∀ vm₁, s.WarmedH vm₁ → Pre ⟨T.setVm vm₁, locs, cells, slots⟩ argsL.toArray) :
    (∃ (v : Option Value) (vm₁ : Vm) (B : Pt), s.WarmedH vm₁ ∧ Stand p l e R s m args below meth c B.U B.locs B.cells B.slots ∧ Post ⟨T.setVm vm₁, locs, cells, slots⟩ argsL.toArray v B ∧
      ∀ target, Steps p.tables e below (B.U.setTop { g with pc := g.pc + 3, stack := v.toList ++ rest }) target → Steps p.tables e below (T.setTop g) target) ∨
    (∃ (q : Addr) (vm₁ : Vm) (B : Pt), s.WarmedH vm₁ ∧ Stand p l e R s m args below meth c B.U B.locs B.cells B.slots ∧ PostX ⟨T.setVm vm₁, locs, cells, slots⟩ argsL.toArray q B ∧
      Steps p.tables e below (T.setTop g) ((B.U.setTop { g with stack := rest }).pushFrame (.throwing q))) := by
  obtain ⟨mk, hnamed⟩ := Cond.code_named hcode
  obtain ⟨methM, cM, hmethM, -, -, -, -, -, -, hsigM⟩ := Cond.code_spec hnamed hcode
  have hstatic : methM.isStatic = true := Cond.static_spec hnamed hmethM hstat
  obtain ⟨kP, hkP, -⟩ := className_of_methodNamed hnamed
  have hinitP : kP.init = .initialized := Cond.initialized_spec (findClass_of_methodNamed hnamed) hkP hinit
  obtain ⟨vm₁, X₁, hstep₁⟩ := X.invokestatic hexec hown hlink hnamed hmethM hstatic hkP hinitP hy (g := g) hg (argsL := argsL) (rest := rest) (hlen _ hsigM) hstack hdg
  rcases hK m meth c ⟨T.setVm vm₁, locs, cells, slots⟩ { g with stack := rest } (.invokestatic index) mk argsL.toArray X₁ hg hsize hdg hW (X₁.named hnamed) (hpre vm₁ X₁.warmed) with ⟨v, B, X', hpost, hsteps⟩ | ⟨q, B, X', hpost, hsteps⟩
  · exact Or.inl ⟨v, vm₁, B, X₁.warmed, X', hpost, fun target h => hstep₁ _ fun acts => by rw [doInvoke_state]; exact hsteps.trans h⟩
  · exact Or.inr ⟨q, vm₁, B, X₁.warmed, X', hpost, hstep₁ _ fun acts => by rw [doInvoke_state]; exact hsteps⟩
end Calls
theorem vx_cls {s : State} {T : State} {vm₁ : Vm} {E : String} {k : ClassId} (hW : s.WarmedH vm₁) (h : (T.setVm vm₁).vm.findClass E = some k) : s.vm.findClass E = some k := by
  have h1 : vm₁.findClass E = some k := h
  rw [hW.alike.findClass] at h1
  exact h1
/-- the method's frame g, with q thrown over it -/
def vx_W (p : Program) (l : Launch) (e : Env) (R : Room) (s : State) (m : MethodId) (args : Array Value) (below : List Frame) (meth : Method) (c : Code) (H : Heap) (locs : List Loc) (cells slots : Nat) (Q : State → Prop) (g : JFrame) (q : Addr) : Prop :=
  ∀ T : State, T.heap = H → Stand p l e R s m args below meth c T locs cells slots → ∃ t, Steps p.tables e below ((T.setTop g).pushFrame (.throwing q)) t ∧ Q t
def vx_Run (p : Program) (l : Launch) (e : Env) (R : Room) (s : State) (m : MethodId) (args : Array Value) (below : List Frame) (meth : Method) (c : Code) (H : Heap) (locs : List Loc) (cells slots mc ms : Nat) (g : JFrame) (rest : List Value) (Qa : State → Outcome → State → Prop) (XC : String → State → State → Prop) (free : Addr → Prop) : Prop :=
  ∀ T : State, T.heap = H → Stand p l e R s m args below meth c T locs cells slots →
    (∃ (v : Option Value) (st₀ t T' : State) (L : List Loc), st₀.heap = H ∧ Stand p l e R s m args below meth c T' (locs ++ L) (cells + mc) (slots + ms) ∧ (∀ q ∈ L, free q.base) ∧ T'.heap = t.heap ∧ T'.vm = t.vm ∧ Qa st₀ (.returned v) t ∧
      Goes p e below T g T' { g with pc := g.pc + 3, stack := v.toList ++ rest }) ∨
    (∃ (q : Addr) (st₀ t T' : State) (L : List Loc) (E : String) (ce : Cell), st₀.heap = H ∧ Stand p l e R s m args below meth c T' (locs ++ L) (cells + mc) (slots + ms) ∧ (∀ z ∈ L, free z.base) ∧ T'.heap = t.heap ∧ T'.vm = t.vm ∧ XC E st₀ t ∧ t.heap[q]? = some ce ∧ ce.vm = .none ∧ s.vm.findClass E = some ce.cls ∧
      Steps p.tables e below (T.setTop g) ((T'.setTop { g with stack := rest }).pushFrame (.throwing q)))
def vx_X {S : Type} (px : S → Prop) (B : String → S → State → Prop) (A : Nat → Prop) : String → State → State → Prop := fun E st t => ∃ u : S, px u ∧ B E u t ∧ va_F A st t
section Runs
variable {p : Program} {l : Launch} {e : Env} {R : Room} {s : State} {m : MethodId} {args : Array Value} {below : List Frame} {meth : Method} {c : Code} {H : Heap} {locs : List Loc} {cells slots : Nat}
variable {y : MethodName} {bytes cc : ByteArray} {maxL nL mc ms n index : Nat} {ret : Option FieldType} {ws : List Cond} {rm : Room} {Pc : Array Value → State → Prop} {Qc : Array Value → State → Outcome → State → Prop} {XC : String → State → State → Prop} {free : Addr → Prop} {Ts : List Cond} {own C : String} {b : Addr} {As rest : List Value} {g : JFrame}
theorem vx_callBack (cb : CallB R s args own index y bytes maxL ret ws rm mc ms n) (hM : vx_Met l y ws rm Pc Qc XC mc ms free) (hbl : FrameBlind Pc) : vx_Back l R p e below s args y 3 8 (PreOf R mc ms Pc) (PostOf Qc mc ms free) (vx_Post XC mc ms free) := by
  obtain ⟨hrc, hrs, hfr, hlo, hws, hcw, -, hini, -⟩ := cb
  exact vx_back (bytes := bytes) (maxL := maxL) (ret := ret) hM hbl hrc hrs hfr hlo hws hcw (fun a' U hW => word_at hW (Or.inl (by first | rfl | simp [Cond.onTables, Cond.keeps, Cond.steady])) hini)
theorem vx_runV (S : CallFix p m c cc nL s args Ts own) (hM : vx_Met l y ws rm Pc Qc XC mc ms free) (cw : CallW R s args own C index y bytes maxL ret ws rm mc ms n) (hp : PreV s H C b Pc As)
    (hg : g.method = m) (hn : As.length = n) (hsize : g.locals.size = nL) (hstack : g.stack = As.reverse ++ .ref b :: rest) (hW : 2 * g.monitorRoom + (rest.map fun v => v.category).sum ≤ 8) (hdg : decode cc g.pc = .ok (.invokevirtual index, 3)) (hf : cells + mc ≤ R.cells ∧ slots + ms ≤ R.slots) :
    vx_Run p l e R s m args below meth c H locs cells slots mc ms g rest (Qc (Value.ref b :: As).toArray) XC free := by
  have hK : vx_Back l R p e below s args y 3 8 (PreOf R mc ms Pc) (PostOf Qc mc ms free) (vx_Post XC mc ms free) := vx_callBack cw.1 hM hp.1
  obtain ⟨⟨-, -, -, -, -, -, hcode, -, hy, hlen, hl⟩, hin, hse⟩ := cw
  obtain ⟨hx, hb, hml, ho, -⟩ := S
  obtain ⟨-, ⟨cellB, hcB, hoB, hclB⟩, hPc⟩ := hp
  intro T hT X
  rcases vx_callV X hx (C := C) (bytes := bytes) (maxL := maxL) (ret := ret) ho hl hin hse hcode hy hK (by rw [hT]; exact hcB) hoB hclB hg (hsize.trans hml.symm) (argsL := As) (rest := rest) (fun sig h => hn.trans (hlen sig h)) hstack hW (by rw [hb]; exact hdg)
    (fun vm₁ hW₁ => ⟨hf.1, hf.2, hPc (T.setVm vm₁) hT hW₁⟩) with ⟨v, vm₁, ⟨U', l2, c2, s2⟩, hW₁, X', ⟨g', mk, t, L, e1, e2, hq, h1, hL, h2, h3⟩, st⟩ | ⟨q, vm₁, ⟨U', l2, c2, s2⟩, hW₁, X', ⟨g', mk, t, L, E, ce, e1, e2, hq, hce, hcv, hcl, h1, hL, h2, h3⟩, st⟩
  · dsimp only [Pt.U, Pt.locs, Pt.cells, Pt.slots] at X' e1 e2 h1 h2 h3 st
    subst h1; subst h2; subst h3
    exact Or.inl ⟨v, (T.setVm vm₁).calling g' mk (Value.ref b :: As).toArray, t, U', L, hT, X', hL, e1, e2, hq, st⟩
  · dsimp only [Pt.U, Pt.locs, Pt.cells, Pt.slots] at X' e1 e2 h1 h2 h3 st hcl
    subst h1; subst h2; subst h3
    exact Or.inr ⟨q, (T.setVm vm₁).calling g' mk (Value.ref b :: As).toArray, t, U', L, E, ce, hT, X', hL, e1, e2, hq, hce, hcv, vx_cls hW₁ hcl, st⟩
theorem vx_runS (S : CallFix p m c cc nL s args Ts own) (hM : vx_Met l y ws rm Pc Qc XC mc ms free) (cw : CallB R s args own index y bytes maxL ret ws rm mc ms n ∧ (Cond.static y).before args s = true) (hp : PreS s H Pc As)
    (hg : g.method = m) (hn : As.length = n) (hsize : g.locals.size = nL) (hstack : g.stack = As.reverse ++ rest) (hW : 2 * g.monitorRoom + (rest.map fun v => v.category).sum ≤ 8) (hdg : decode cc g.pc = .ok (.invokestatic index, 3)) (hf : cells + mc ≤ R.cells ∧ slots + ms ≤ R.slots) :
    vx_Run p l e R s m args below meth c H locs cells slots mc ms g rest (Qc As.toArray) XC free := by
  have hK : vx_Back l R p e below s args y 3 8 (PreOf R mc ms Pc) (PostOf Qc mc ms free) (vx_Post XC mc ms free) := vx_callBack cw.1 hM hp.1
  obtain ⟨⟨-, -, -, -, -, -, hcode, hini, hy, hlen, hl⟩, hstt⟩ := cw
  obtain ⟨hx, hb, hml, ho, -⟩ := S
  intro T hT X
  rcases vx_callS X hx (bytes := bytes) (maxL := maxL) (ret := ret) ho hl hstt hini hcode hy hK hg (hsize.trans hml.symm) (argsL := As) (rest := rest) (fun sig h => hn.trans (hlen sig h)) hstack hW (by rw [hb]; exact hdg)
    (fun vm₁ hW₁ => ⟨hf.1, hf.2, hp.2 (T.setVm vm₁) hT hW₁⟩) with ⟨v, vm₁, ⟨U', l2, c2, s2⟩, hW₁, X', ⟨g', mk, t, L, e1, e2, hq, h1, hL, h2, h3⟩, st⟩ | ⟨q, vm₁, ⟨U', l2, c2, s2⟩, hW₁, X', ⟨g', mk, t, L, E, ce, e1, e2, hq, hce, hcv, hcl, h1, hL, h2, h3⟩, st⟩
  · dsimp only [Pt.U, Pt.locs, Pt.cells, Pt.slots] at X' e1 e2 h1 h2 h3 st
    subst h1; subst h2; subst h3
    exact Or.inl ⟨v, (T.setVm vm₁).calling g' mk As.toArray, t, U', L, hT, X', hL, e1, e2, hq, st⟩
  · dsimp only [Pt.U, Pt.locs, Pt.cells, Pt.slots] at X' e1 e2 h1 h2 h3 st hcl
    subst h1; subst h2; subst h3
    exact Or.inr ⟨q, (T.setVm vm₁).calling g' mk As.toArray, t, U', L, E, ce, hT, X', hL, e1, e2, hq, hce, hcv, vx_cls hW₁ hcl, st⟩
end Runs
section Rows
variable {p : Program} {l : Launch} {e : Env} {R : Room} {s : State} {m : MethodId} {args : Array Value} {below : List Frame} {meth : Method} {c : Code} {H : Heap} {locs : List Loc} {cells slots : Nat} {Q : State → Prop}
variable {mc ms : Nat} {free : Addr → Prop} {A0 A1 : Nat → Prop} {H0 : Heap} {a : Array Value} {pc : Nat} {ls : Array Slot} {st0 rest : List Value}
theorem vx_keep {st₀ t T' : State} {L : List Loc} (h0 : st₀.heap = H) (e1 : T'.heap = t.heap) (hS : va_S A0 H0 H locs) (hA : ∀ q, q < H.size → A1 q → A0 q) (hf : ∀ q, free q → A0 q) (hL : ∀ q ∈ L, free q.base) (hF : va_F A1 st₀ t) :
    H.size ≤ T'.heap.size ∧ (∀ q : Nat, q < H.size → ¬ A1 q → T'.heap[q]? = H[q]?) ∧ va_S A0 H0 T'.heap (locs ++ L) := by
  obtain ⟨hz, hk⟩ := hF
  rw [h0] at hz hk
  exact ⟨by rw [e1]; exact hz, fun q h1 h2 => by rw [e1]; exact hk q h1 h2,
    ⟨Nat.le_trans hS.1 (by rw [e1]; exact hz), fun q h1 h2 => by rw [e1, hk q (Nat.lt_of_lt_of_le h1 hS.1) (fun z => h2 (hA q (Nat.lt_of_lt_of_le h1 hS.1) z))]; exact hS.2.1 q h1 h2, fun q hq => by
      rcases List.mem_append.mp hq with h | h
      · exact hS.2.2 q h
      · exact hf _ (hL q h)⟩⟩
theorem vx_calli {S SX : Type} {post : Int32 → S → Prop} {px : SX → Prop} {B : S → State → Prop} {BX : String → SX → State → Prop} {AX : Nat → Prop} (hr : vx_Run p l e R s m args below meth c H locs cells slots mc ms (F0 m pc ls st0) rest (va_Qi post B A1 a) (vx_X px BX AX) free) (hS : va_S A0 H0 H locs) (hA : ∀ q, q < H.size → A1 q → A0 q) (hf : ∀ q, free q → A0 q) (hAX : ∀ q, q < H.size → AX q → A0 q)
    (kx : ∀ (E : String) (ce : Cell) (q9 : Addr) (u : SX) (t : State) (H1 : Heap) (locs1 : List Loc), t.heap = H1 → s.vm.Alike t.vm → px u → BX E u t → H.size ≤ H1.size → (∀ q : Nat, q < H.size → ¬ AX q → H1[q]? = H[q]?) → va_S A0 H0 H1 locs1 → H1[q9]? = some ce → ce.vm = .none → s.vm.findClass E = some ce.cls → vx_W p l e R s m args below meth c H1 locs1 (cells + mc) (slots + ms) Q (F0 m pc ls rest) q9)
    (kk : ∀ (r : Int32) (u : S) (t : State) (H1 : Heap) (locs1 : List Loc), t.heap = H1 → s.vm.Alike t.vm → post r u → B u t → H.size ≤ H1.size → (∀ q : Nat, q < H.size → ¬ A1 q → H1[q]? = H[q]?) → va_S A0 H0 H1 locs1 → W p l e R s m args below meth c H1 locs1 (cells + mc) (slots + ms) Q (F0 m (pc + 3) ls (.int r :: rest))) : W p l e R s m args below meth c H locs cells slots Q (F0 m pc ls st0) := by
  intro T hT X
  rcases hr T hT X with ⟨v, st₀, t, T', L, h0, X', hL, e1, e2, ⟨⟨r, u, hv, hp, hb⟩, hF⟩, st⟩ | ⟨q, st₀, t, T', L, E, ce, h0, X', hL, e1, e2, ⟨u, hp, hb, hF⟩, hce, hcv, hcl, st⟩
  · cases hv
    obtain ⟨k1, k2, k3⟩ := vx_keep h0 e1 hS hA hf hL hF
    obtain ⟨t2, a1, b1⟩ := kk r u t T'.heap (locs ++ L) e1.symm (by rw [← e2]; exact X'.warmed.alike) hp hb k1 k2 k3 T' rfl X'
    exact ⟨t2, st t2 a1, b1⟩
  · obtain ⟨k1, k2, k3⟩ := vx_keep h0 e1 hS hAX hf hL hF
    obtain ⟨t2, a1, b1⟩ := kx E ce q u t T'.heap (locs ++ L) e1.symm (by rw [← e2]; exact X'.warmed.alike) hp hb k1 k2 k3 (by rw [e1]; exact hce) hcv hcl T' rfl X'
    exact ⟨t2, st.trans a1, b1⟩
theorem vx_calll {S SX : Type} {post : Int64 → S → Prop} {px : SX → Prop} {B : S → State → Prop} {BX : String → SX → State → Prop} {AX : Nat → Prop} (hr : vx_Run p l e R s m args below meth c H locs cells slots mc ms (F0 m pc ls st0) rest (va_Ql post B A1 a) (vx_X px BX AX) free) (hS : va_S A0 H0 H locs) (hA : ∀ q, q < H.size → A1 q → A0 q) (hf : ∀ q, free q → A0 q) (hAX : ∀ q, q < H.size → AX q → A0 q)
    (kx : ∀ (E : String) (ce : Cell) (q9 : Addr) (u : SX) (t : State) (H1 : Heap) (locs1 : List Loc), t.heap = H1 → s.vm.Alike t.vm → px u → BX E u t → H.size ≤ H1.size → (∀ q : Nat, q < H.size → ¬ AX q → H1[q]? = H[q]?) → va_S A0 H0 H1 locs1 → H1[q9]? = some ce → ce.vm = .none → s.vm.findClass E = some ce.cls → vx_W p l e R s m args below meth c H1 locs1 (cells + mc) (slots + ms) Q (F0 m pc ls rest) q9)
    (kk : ∀ (r : Int64) (u : S) (t : State) (H1 : Heap) (locs1 : List Loc), t.heap = H1 → s.vm.Alike t.vm → post r u → B u t → H.size ≤ H1.size → (∀ q : Nat, q < H.size → ¬ A1 q → H1[q]? = H[q]?) → va_S A0 H0 H1 locs1 → W p l e R s m args below meth c H1 locs1 (cells + mc) (slots + ms) Q (F0 m (pc + 3) ls (.long r :: rest))) : W p l e R s m args below meth c H locs cells slots Q (F0 m pc ls st0) := by
  intro T hT X
  rcases hr T hT X with ⟨v, st₀, t, T', L, h0, X', hL, e1, e2, ⟨⟨r, u, hv, hp, hb⟩, hF⟩, st⟩ | ⟨q, st₀, t, T', L, E, ce, h0, X', hL, e1, e2, ⟨u, hp, hb, hF⟩, hce, hcv, hcl, st⟩
  · cases hv
    obtain ⟨k1, k2, k3⟩ := vx_keep h0 e1 hS hA hf hL hF
    obtain ⟨t2, a1, b1⟩ := kk r u t T'.heap (locs ++ L) e1.symm (by rw [← e2]; exact X'.warmed.alike) hp hb k1 k2 k3 T' rfl X'
    exact ⟨t2, st t2 a1, b1⟩
  · obtain ⟨k1, k2, k3⟩ := vx_keep h0 e1 hS hAX hf hL hF
    obtain ⟨t2, a1, b1⟩ := kx E ce q u t T'.heap (locs ++ L) e1.symm (by rw [← e2]; exact X'.warmed.alike) hp hb k1 k2 k3 (by rw [e1]; exact hce) hcv hcl T' rfl X'
    exact ⟨t2, st.trans a1, b1⟩
theorem vx_callf {S SX : Type} {post : UInt32 → S → Prop} {px : SX → Prop} {B : S → State → Prop} {BX : String → SX → State → Prop} {AX : Nat → Prop} (hr : vx_Run p l e R s m args below meth c H locs cells slots mc ms (F0 m pc ls st0) rest (va_Qf post B A1 a) (vx_X px BX AX) free) (hS : va_S A0 H0 H locs) (hA : ∀ q, q < H.size → A1 q → A0 q) (hf : ∀ q, free q → A0 q) (hAX : ∀ q, q < H.size → AX q → A0 q)
    (kx : ∀ (E : String) (ce : Cell) (q9 : Addr) (u : SX) (t : State) (H1 : Heap) (locs1 : List Loc), t.heap = H1 → s.vm.Alike t.vm → px u → BX E u t → H.size ≤ H1.size → (∀ q : Nat, q < H.size → ¬ AX q → H1[q]? = H[q]?) → va_S A0 H0 H1 locs1 → H1[q9]? = some ce → ce.vm = .none → s.vm.findClass E = some ce.cls → vx_W p l e R s m args below meth c H1 locs1 (cells + mc) (slots + ms) Q (F0 m pc ls rest) q9)
    (kk : ∀ (r : UInt32) (u : S) (t : State) (H1 : Heap) (locs1 : List Loc), t.heap = H1 → s.vm.Alike t.vm → post r u → B u t → H.size ≤ H1.size → (∀ q : Nat, q < H.size → ¬ A1 q → H1[q]? = H[q]?) → va_S A0 H0 H1 locs1 → W p l e R s m args below meth c H1 locs1 (cells + mc) (slots + ms) Q (F0 m (pc + 3) ls (.float r :: rest))) : W p l e R s m args below meth c H locs cells slots Q (F0 m pc ls st0) := by
  intro T hT X
  rcases hr T hT X with ⟨v, st₀, t, T', L, h0, X', hL, e1, e2, ⟨⟨r, u, hv, hp, hb⟩, hF⟩, st⟩ | ⟨q, st₀, t, T', L, E, ce, h0, X', hL, e1, e2, ⟨u, hp, hb, hF⟩, hce, hcv, hcl, st⟩
  · cases hv
    obtain ⟨k1, k2, k3⟩ := vx_keep h0 e1 hS hA hf hL hF
    obtain ⟨t2, a1, b1⟩ := kk r u t T'.heap (locs ++ L) e1.symm (by rw [← e2]; exact X'.warmed.alike) hp hb k1 k2 k3 T' rfl X'
    exact ⟨t2, st t2 a1, b1⟩
  · obtain ⟨k1, k2, k3⟩ := vx_keep h0 e1 hS hAX hf hL hF
    obtain ⟨t2, a1, b1⟩ := kx E ce q u t T'.heap (locs ++ L) e1.symm (by rw [← e2]; exact X'.warmed.alike) hp hb k1 k2 k3 (by rw [e1]; exact hce) hcv hcl T' rfl X'
    exact ⟨t2, st.trans a1, b1⟩
theorem vx_calld {S SX : Type} {post : UInt64 → S → Prop} {px : SX → Prop} {B : S → State → Prop} {BX : String → SX → State → Prop} {AX : Nat → Prop} (hr : vx_Run p l e R s m args below meth c H locs cells slots mc ms (F0 m pc ls st0) rest (va_Qd post B A1 a) (vx_X px BX AX) free) (hS : va_S A0 H0 H locs) (hA : ∀ q, q < H.size → A1 q → A0 q) (hf : ∀ q, free q → A0 q) (hAX : ∀ q, q < H.size → AX q → A0 q)
    (kx : ∀ (E : String) (ce : Cell) (q9 : Addr) (u : SX) (t : State) (H1 : Heap) (locs1 : List Loc), t.heap = H1 → s.vm.Alike t.vm → px u → BX E u t → H.size ≤ H1.size → (∀ q : Nat, q < H.size → ¬ AX q → H1[q]? = H[q]?) → va_S A0 H0 H1 locs1 → H1[q9]? = some ce → ce.vm = .none → s.vm.findClass E = some ce.cls → vx_W p l e R s m args below meth c H1 locs1 (cells + mc) (slots + ms) Q (F0 m pc ls rest) q9)
    (kk : ∀ (r : UInt64) (u : S) (t : State) (H1 : Heap) (locs1 : List Loc), t.heap = H1 → s.vm.Alike t.vm → post r u → B u t → H.size ≤ H1.size → (∀ q : Nat, q < H.size → ¬ A1 q → H1[q]? = H[q]?) → va_S A0 H0 H1 locs1 → W p l e R s m args below meth c H1 locs1 (cells + mc) (slots + ms) Q (F0 m (pc + 3) ls (.double r :: rest))) : W p l e R s m args below meth c H locs cells slots Q (F0 m pc ls st0) := by
  intro T hT X
  rcases hr T hT X with ⟨v, st₀, t, T', L, h0, X', hL, e1, e2, ⟨⟨r, u, hv, hp, hb⟩, hF⟩, st⟩ | ⟨q, st₀, t, T', L, E, ce, h0, X', hL, e1, e2, ⟨u, hp, hb, hF⟩, hce, hcv, hcl, st⟩
  · cases hv
    obtain ⟨k1, k2, k3⟩ := vx_keep h0 e1 hS hA hf hL hF
    obtain ⟨t2, a1, b1⟩ := kk r u t T'.heap (locs ++ L) e1.symm (by rw [← e2]; exact X'.warmed.alike) hp hb k1 k2 k3 T' rfl X'
    exact ⟨t2, st t2 a1, b1⟩
  · obtain ⟨k1, k2, k3⟩ := vx_keep h0 e1 hS hAX hf hL hF
    obtain ⟨t2, a1, b1⟩ := kx E ce q u t T'.heap (locs ++ L) e1.symm (by rw [← e2]; exact X'.warmed.alike) hp hb k1 k2 k3 (by rw [e1]; exact hce) hcv hcl T' rfl X'
    exact ⟨t2, st.trans a1, b1⟩
theorem vx_callv {S SX : Type} {post : S → Prop} {px : SX → Prop} {B : S → State → Prop} {BX : String → SX → State → Prop} {AX : Nat → Prop} (hr : vx_Run p l e R s m args below meth c H locs cells slots mc ms (F0 m pc ls st0) rest (va_Qv post B A1 a) (vx_X px BX AX) free) (hS : va_S A0 H0 H locs) (hA : ∀ q, q < H.size → A1 q → A0 q) (hf : ∀ q, free q → A0 q) (hAX : ∀ q, q < H.size → AX q → A0 q)
    (kx : ∀ (E : String) (ce : Cell) (q9 : Addr) (u : SX) (t : State) (H1 : Heap) (locs1 : List Loc), t.heap = H1 → s.vm.Alike t.vm → px u → BX E u t → H.size ≤ H1.size → (∀ q : Nat, q < H.size → ¬ AX q → H1[q]? = H[q]?) → va_S A0 H0 H1 locs1 → H1[q9]? = some ce → ce.vm = .none → s.vm.findClass E = some ce.cls → vx_W p l e R s m args below meth c H1 locs1 (cells + mc) (slots + ms) Q (F0 m pc ls rest) q9)
    (kk : ∀ (u : S) (t : State) (H1 : Heap) (locs1 : List Loc), t.heap = H1 → s.vm.Alike t.vm → post u → B u t → H.size ≤ H1.size → (∀ q : Nat, q < H.size → ¬ A1 q → H1[q]? = H[q]?) → va_S A0 H0 H1 locs1 → W p l e R s m args below meth c H1 locs1 (cells + mc) (slots + ms) Q (F0 m (pc + 3) ls (rest))) : W p l e R s m args below meth c H locs cells slots Q (F0 m pc ls st0) := by
  intro T hT X
  rcases hr T hT X with ⟨v, st₀, t, T', L, h0, X', hL, e1, e2, ⟨⟨u, hv, hp, hb⟩, hF⟩, st⟩ | ⟨q, st₀, t, T', L, E, ce, h0, X', hL, e1, e2, ⟨u, hp, hb, hF⟩, hce, hcv, hcl, st⟩
  · cases hv
    obtain ⟨k1, k2, k3⟩ := vx_keep h0 e1 hS hA hf hL hF
    obtain ⟨t2, a1, b1⟩ := kk u t T'.heap (locs ++ L) e1.symm (by rw [← e2]; exact X'.warmed.alike) hp hb k1 k2 k3 T' rfl X'
    exact ⟨t2, st t2 a1, b1⟩
  · obtain ⟨k1, k2, k3⟩ := vx_keep h0 e1 hS hAX hf hL hF
    obtain ⟨t2, a1, b1⟩ := kx E ce q u t T'.heap (locs ++ L) e1.symm (by rw [← e2]; exact X'.warmed.alike) hp hb k1 k2 k3 (by rw [e1]; exact hce) hcv hcl T' rfl X'
    exact ⟨t2, st.trans a1, b1⟩
end Rows
section Ends
variable {p : Program} {l : Launch} {e : Env} {R : Room} {s : State} {m : MethodId} {args : Array Value} {below : List Frame} {meth : Method} {c : Code} {H : Heap} {locs : List Loc} {cells slots : Nat} {Q : State → Prop}
variable {mc ms : Nat} {free : Addr → Prop} {A0 A1 : Nat → Prop} {H0 : Heap} {a : Array Value} {ls : Array Slot} {st0 rest : List Value}
variable {Qc : Array Value → State → Outcome → State → Prop} {XC : String → State → State → Prop}
/-- what a body that may throw owes at its end -/
def vx_MQ (below : List Frame) (Qc : Array Value → State → Outcome → State → Prop) (XC : String → State → State → Prop) (a : Array Value) (s : State) (mc ms : Nat) (free : Addr → Prop) : State → Prop := fun t =>
  ∃ o, t.status = .running ∧ Ended t below o ∧ vx_Q Qc XC mc ms free a s o t
theorem vx_ret {g : JFrame} {mc ms : Nat} (k : W p l e R s m args below meth c H locs cells slots (MQ below Qc args s mc ms free) g) : W p l e R s m args below meth c H locs cells slots (vx_MQ below Qc XC args s mc ms free) g := by
  intro T hT X
  obtain ⟨t, a1, o, b1, b2, b3, b4⟩ := k T hT X
  exact ⟨t, a1, o, b1, b2, Or.inl ⟨b3, b4⟩⟩
/-- not caught here: it goes on to the caller -/
theorem vx_widen {g : JFrame} {q : Addr} {k n : Nat} (h1 : cells ≤ k) (h2 : slots ≤ n) (kk : vx_W p l e R s m args below meth c H locs k n Q g q) : vx_W p l e R s m args below meth c H locs cells slots Q g q := fun T hT X => kk T hT (stand_widen X h1 h2)
theorem vx_out {pc : Nat} {E : String} {ce : Cell} {q : Addr} {mc ms : Nat} (hout : ∀ x ∈ c.exceptionTable.toList, covers x pc = false) (hlocks : meth.locks = false) (hcell : H[q]? = some ce) (hv : ce.vm = .none) (hcl : s.vm.findClass E = some ce.cls)
    (hx : ∀ t : State, t.heap = H → s.vm.Alike t.vm → XC E s t) (hf : ∀ z ∈ locs, free z.base) (hc : cells ≤ mc) (hs : slots ≤ ms) :
    vx_W p l e R s m args below meth c H locs cells slots (vx_MQ below Qc XC args s mc ms free) (F0 m pc ls rest) q := by
  intro T hT X
  obtain ⟨st1, hrun, hend, hW, hsm⟩ := X.leaveThrown q (g := F0 m pc ls rest) rfl rfl rfl hout hlocks
  have hcell9 : (T.setFrames (.throwing q :: below)).heap[q]? = some ce := by
    show T.heap[q]? = some ce
    rw [hT]; exact hcell
  exact ⟨_, st1, .threw q, hrun, hend, Or.inr ⟨q, rfl, E, ce, locs, hx _ hT hW.alike, hcell9, hv, hcl, hW, hsm.mono hc hs, hf⟩⟩
theorem vx_frame {U : State} {k n : Nat} (h : s.sameButNew ({ U with vm := s.vm } : State) locs k n) : s.heap.size ≤ U.heap.size ∧ ∀ q : Nat, q < s.heap.size → (∀ z ∈ locs, z.base ≠ q) → U.heap[q]? = s.heap[q]? := by
  obtain ⟨-, h2, -, -, -, h6⟩ := h
  refine ⟨h2, fun q hq hz => ?_⟩
  obtain ⟨c9, e1, e2, e3, e4⟩ := h6 q _ (Array.getElem?_eq_getElem hq)
  have hs : c9.slots = (s.heap[q]).slots := Array.ext_getElem? fun i => e4 i fun hm => hz _ hm rfl
  have h9 : c9 = s.heap[q] := by
    rw [hs] at e2
    exact e2
  have e5 : U.heap[q]? = some c9 := e1
  rw [e5, h9, Array.getElem?_eq_getElem hq]
/-- the words of a throw but the four that speak of the heap -/
def vx_no (w : Cond) : Bool := decide (w ≠ .isRef (.static Bundle.tN "UNASSIGNED_STACK" Bundle.steD)) && decide (w ≠ .isRef (.static Bundle.tN "SUPPRESSED_SENTINEL" Bundle.listD)) && decide (w ≠ .laysStatic Bundle.tN "UNASSIGNED_STACK" Bundle.steD) && decide (w ≠ .laysStatic Bundle.tN "SUPPRESSED_SENTINEL" Bundle.listD)
def vx_at0 (own : String) (ic : Nat) (X : String) (names : List String) : List Cond := (Bundle.ownAtoms0 own ic X names).filter vx_no
def vx_atS (own : String) (ic : Nat) (X : String) (names : List String) : List Cond := (Bundle.ownAtoms own ic X names).filter vx_no
/-- a word that the tables alone decide, or a good one -/
def vx_ot (w : Cond) : Bool := w.onTables || goodWord w
theorem vx_ot_at {args a' : Array Value} {s U : State} {w : Cond} (hW : s.WarmedH U.vm) (hvm : s.vm = U.vm) (hg : vx_ot w = true) (h : w.before args s = true) : w.before a' U = true := by
  simp only [vx_ot, Bool.or_eq_true] at hg
  rcases hg with hg | hg
  · exact va_tabs hg hvm h
  · exact word_at hW (good_of_word hg) h
/-- a list's words: the good ones out of the method's own list, the others by premises of their own -/
theorem vx_hat {args : Array Value} {s : State} {L B : List Cond} (h1 : ∀ w ∈ L.filter goodWord, w.before args s = true) (h2 : ∀ w ∈ L.filter (fun w => !goodWord w), w ∈ B) (h3 : ∀ w ∈ B, w.before args s = true) : ∀ w ∈ L, w.before args s = true := by
  intro w hw
  by_cases g : goodWord w = true
  · exact h1 w (List.mem_filter.mpr ⟨hw, g⟩)
  · refine h3 w (h2 w (List.mem_filter.mpr ⟨hw, ?_⟩))
    show (!goodWord w) = true
    cases hgw : goodWord w
    · rfl
    · exact absurd hgw g
theorem vx_c {args : Array Value} {s : State} {w : Cond} {B : List Cond} (h : w.before args s = true) (t : ∀ w ∈ B, w.before args s = true) : ∀ w' ∈ w :: B, w'.before args s = true := fun w' h' => (List.mem_cons.mp h').elim (fun e => by rw [e]; exact h) (t w')
theorem vx_n {args : Array Value} {s : State} : ∀ w ∈ ([] : List Cond), w.before args s = true := fun _ h => nomatch h
theorem vx_own {args : Array Value} {s : State} {L : List Cond} (h1 : ∀ w ∈ L.filter vx_no, w.before args s = true)
    (hU : (Cond.isRef (.static Bundle.tN "UNASSIGNED_STACK" Bundle.steD)).before args s = true) (hN : (Cond.isRef (.static Bundle.tN "SUPPRESSED_SENTINEL" Bundle.listD)).before args s = true)
    (lU : (Cond.laysStatic Bundle.tN "UNASSIGNED_STACK" Bundle.steD).before args s = true) (lN : (Cond.laysStatic Bundle.tN "SUPPRESSED_SENTINEL" Bundle.listD).before args s = true) : ∀ w ∈ L, w.before args s = true := by
  intro w hw
  by_cases e1 : w = .isRef (.static Bundle.tN "UNASSIGNED_STACK" Bundle.steD)
  · rw [e1]; exact hU
  · by_cases e2 : w = .isRef (.static Bundle.tN "SUPPRESSED_SENTINEL" Bundle.listD)
    · rw [e2]; exact hN
    · by_cases e3 : w = .laysStatic Bundle.tN "UNASSIGNED_STACK" Bundle.steD
      · rw [e3]; exact lU
      · by_cases e4 : w = .laysStatic Bundle.tN "SUPPRESSED_SENTINEL" Bundle.listD
        · rw [e4]; exact lN
        · exact h1 w (List.mem_filter.mpr ⟨hw, by unfold vx_no; rw [decide_eq_true e1, decide_eq_true e2, decide_eq_true e3, decide_eq_true e4]; rfl⟩)
/-- where a static field lies, its class's statics cell in H -/
def vx_L (C n d : String) (A : Nat → Prop) (U : State) (H : Heap) : Prop := ∃ (c : ClassId) (k : Class) (i : Nat) (f : Field) (a : Nat) (cell : Cell), U.vm.findClass C = some c ∧ U.fieldFound? C n d = some (c, k, i, f) ∧ f.isStatic = true ∧ k.statics = some a ∧ H[a]? = some cell ∧ cell.vm.isStatics = true ∧ cell.cls = c ∧ f.slot < cell.slots.size ∧ k.staticTypes[f.slot]? = some f.type ∧ ¬ A a
theorem vx_L.moved {C n d : String} {A : Nat → Prop} {u U : State} {H : Heap} (hvm : u.vm.Alike U.vm) (h : vx_L C n d A u H) : vx_L C n d A U H := by
  obtain ⟨c, k, i, f, a, cell, h1, h2, h3, h4, h5, h6, h7, h8, h9, h10⟩ := h
  obtain ⟨k', hi', he⟩ := State.fieldFound?_setVm hvm h2
  exact ⟨c, k', i, f, a, cell, by rw [hvm.findClass]; exact h1, hi', h3, by rw [he]; exact h4, h5, h6, h7, h8, by rw [he]; exact h9, h10⟩
theorem vx_L.kept {C n d : String} {A : Nat → Prop} {U : State} {H H1 : Heap} (h : vx_L C n d A U H) (hq : ∀ a : Nat, a < H.size → ¬ A a → H1[a]? = H[a]?) : vx_L C n d A U H1 := by
  obtain ⟨c, k, i, f, a, cell, h1, h2, h3, h4, h5, h6, h7, h8, h9, h10⟩ := h
  exact ⟨c, k, i, f, a, cell, h1, h2, h3, h4, by rw [hq a (Array.getElem?_eq_some_iff.mp h5).1 h10]; exact h5, h6, h7, h8, h9, h10⟩
theorem vx_L.narrow {C n d : String} {A B : Nat → Prop} {U : State} {H : Heap} (h : vx_L C n d A U H) (hAB : ∀ q, B q → A q) : vx_L C n d B U H := by
  obtain ⟨c, k, i, f, a, cell, h1, h2, h3, h4, h5, h6, h7, h8, h9, h10⟩ := h
  exact ⟨c, k, i, f, a, cell, h1, h2, h3, h4, h5, h6, h7, h8, h9, fun z => h10 (hAB _ z)⟩
theorem vx_L.word {C n d : String} {A : Nat → Prop} {s : State} {args : Array Value} (h : vx_L C n d A s s.heap) : (Cond.laysStatic C n d).before args s = true := by
  obtain ⟨c, k, i, f, a, cell, h1, h2, h3, h4, h5, h6, h7, h8, h9, -⟩ := h
  show (Cond.laysStatic C n d).holds args s none s [] = true
  exact Cond.laysStatic_of h1 h2 h3 h4 h5 h6 h7 h8 h9
/-- .. and what it holds: null or some reference -/
def vx_Zq (C n d : String) (A : Nat → Prop) (U : State) (H : Heap) : Prop := va_Zq C n d A U H ∧ vx_L C n d A U H
theorem vx_Zq.moved {C n d : String} {A : Nat → Prop} {u U : State} {H : Heap} (hvm : u.vm.Alike U.vm) (h : vx_Zq C n d A u H) : vx_Zq C n d A U H := ⟨va_Zq.moved hvm h.1, vx_L.moved hvm h.2⟩
theorem vx_Zq.kept {C n d : String} {A : Nat → Prop} {U : State} {H H1 : Heap} (h : vx_Zq C n d A U H) (hq : ∀ a : Nat, a < H.size → ¬ A a → H1[a]? = H[a]?) : vx_Zq C n d A U H1 := ⟨va_Zq.kept h.1 hq, vx_L.kept h.2 hq⟩
theorem vx_Zq.narrow {C n d : String} {A B : Nat → Prop} {U : State} {H : Heap} (h : vx_Zq C n d A U H) (hAB : ∀ q, B q → A q) : vx_Zq C n d B U H := ⟨va_Zq.narrow h.1 hAB, vx_L.narrow h.2 hAB⟩
theorem vx_Zqof {args : Array Value} {s : State} {C n d : String} {A : Nat → Prop} (hl : (Cond.laysStatic C n d).before args s = true) (hini : (Cond.initialized C).before args s = true) (h : (Cond.isRef (.static C n d)).before args s = true) (hA : ∀ a : Nat, a < s.heap.size → ¬ A a) : vx_Zq C n d A s s.heap := by
  refine ⟨va_Zqof hl hini h hA, ?_⟩
  obtain ⟨c, k, i, f, a, cell, h1, h2, h3, h4, h5, h6, h7, h8, h9⟩ := Cond.laysStatic_spec hl
  exact ⟨c, k, i, f, a, cell, h1, h2, h3, h4, h5, h6, h7, h8, h9, hA a (Array.getElem?_eq_some_iff.mp h5).1⟩
theorem vx_isRef {C n d : String} {v : Value} {A : Nat → Prop} {s : State} {args : Array Value} (h : va_Z C n d v A s s.heap) (hv : v.isRef = true) : (Cond.isRef (.static C n d)).before args s = true := by
  obtain ⟨cf, kf, fi, f, a, cell, h1, h2, h3, h4, h5, h6, h7, -⟩ := h
  have he : (Term.static C n d).eval args s none [] s = some v := by
    simp [Term.eval, State.fieldNamed?, h1, h2, h4, h5, h6, h7]
  simp only [Cond.before, Cond.holds, Cond.value, he]
  cases v <;> simp_all [Value.isRef]
theorem vx_isRefq {C n d : String} {A : Nat → Prop} {s : State} {args : Array Value} (h : va_Zq C n d A s s.heap) : (Cond.isRef (.static C n d)).before args s = true := by
  rcases h with h | ⟨t, h⟩
  · exact vx_isRef h rfl
  · exact vx_isRef h rfl
/-- the same frame, seen from here: as if the method were called anew in this heap -/
theorem vx_rebase {T : State} (X : Stand p l e R s m args below meth c T locs cells slots) {R' : Room} (hf : R'.frames ≤ R.frames) (hl : R'.locals ≤ R.locals) (hc : cells + R'.cells ≤ R.cells) (hs : slots + R'.slots ≤ R.slots) :
    Stand p l e R' ((T.setVm s.vm).setFrames (.invoking m args :: below)) m args below meth c T [] 0 0 := by
  have htop : (T.setVm s.vm).topJava?.isSome := X.here.top
  have hF : ((T.setVm s.vm).setFrames (.invoking m args :: below)).frames = .invoking m args :: below := State.frames_setFrames _ (State.cur_lt_of_top htop)
  obtain ⟨g₀, hg0⟩ := Option.isSome_iff_exists.mp htop
  obtain ⟨r, hr⟩ := State.topJava?_eq_some.mp hg0
  have hl9 : e.platform.stackLimits (T.setVm s.vm).me = e.platform.stackLimits s.me := X.limits
  have hb9 : (T.setVm s.vm).me.stackBytes = s.me.stackBytes := X.bytes
  refine ⟨X.admits, X.cas, X.clock, hF, ?_, X.hears, X.method, X.code, X.here, X.tail, X.warmed, ?_, ?_, ?_⟩
  · have h := X.room
    have hU : ((T.setVm s.vm).setFrames (.invoking m args :: below)).localsInUse = s.localsInUse := by
      rw [State.localsInUse_invoking hF (meth := meth) (c := c) X.method X.code, State.localsInUse_invoking X.frames X.method X.code]
    simp only [State.hasRoom, Bool.and_eq_true, decide_eq_true_eq] at h ⊢
    obtain ⟨⟨⟨⟨h1, h2, h3, h4, h5, h6⟩, h7⟩, h8⟩, h9⟩ := h
    rw [X.frames, List.length_cons] at h2 h3
    have q1 := X.heapSize
    have q2 := X.used
    simp only [hF, hU, List.length_cons, State.stackLimits_setFrames, State.stackBytes_setFrames, hl9, hb9]
    refine ⟨⟨⟨⟨by omega, by omega, by omega, by omega, by omega, h6⟩, ?_⟩, ?_⟩, X.book⟩
    · show T.heap.size + R'.cells ≤ e.platform.maxCells
      omega
    · show T.slotsUsed + R'.slots ≤ e.platform.maxSlots
      omega
  · rw [State.stackLimits_setFrames]; rfl
  · rw [State.stackBytes_setFrames]; rfl
  · refine ⟨?_, Nat.le_refl _, Nat.le_refl _, ?_, ?_, fun a c9 h9 => ⟨c9, h9, rfl, rfl, fun _ _ => rfl⟩⟩
    · obtain ⟨t, ht, -⟩ := State.frames_cons hr
      show T.setVm s.vm = { ((T.setVm s.vm).setFrames (.invoking m args :: below)).setFrames (T.setVm s.vm).frames with heap := T.heap, slotsUsed := T.slotsUsed }
      rw [State.setFrames_setFrames, State.setFrames_self ht]
      rfl
    · show T.slotsUsed = T.slotsUsed + ((T.heap.toList.drop T.heap.size).map (·.slots.size)).sum
      rw [List.drop_eq_nil_of_le (Nat.le_of_eq Array.length_toList)]
      rfl
    · show ((T.heap.toList.drop T.heap.size).map (·.slots.size)).sum ≤ 0
      rw [List.drop_eq_nil_of_le (Nat.le_of_eq Array.length_toList)]
      exact Nat.le_refl _
/-- 'throw new E()': new; dup; invokespecial; athrow -/
theorem vx_throw0 {cc : ByteArray} {pc : Nat} (hexec : p.tables.exec = Jvm.exec) (hb : c.code = cc) (hl : l.stackTraces = false) {own cls : String} {names : List String} {ik ic mc ms : Nat} {A : Nat → Prop}
    (hown : s.vm.findClass own = some m.cls) (hcls : Bundle.fit cls = true) (hnames : ∀ n ∈ names, Bundle.fit n = true)
    (hk : (Cond.classLink own ik cls).before args s = true) (hini : (Cond.initialized cls).before args s = true) (hat : ∀ w ∈ vx_at0 own ic cls names, w.before args s = true)
    (hgood : ∀ w ∈ Cond.classLink own ik cls :: Cond.initialized cls :: vx_at0 own ic cls names, vx_ot w = true)
    (hU : vx_Zq Bundle.tN "UNASSIGNED_STACK" Bundle.steD A s s.heap) (hN : vx_Zq Bundle.tN "SUPPRESSED_SENTINEL" Bundle.listD A s s.heap) (hS : va_S A s.heap H locs) (hsize : ls.size = c.maxLocals)
    (d0 : decode cc pc = .ok (.new ik, 3)) (d3 : decode cc (pc + 3) = .ok (.dup, 1)) (d4 : decode cc (pc + 4) = .ok (.invokespecial ic, 3)) (d7 : decode cc (pc + 7) = .ok (.athrow, 1))
    (hout : ∀ x ∈ c.exceptionTable.toList, covers x (pc + 7) = false)
    (hRframes : names.length + 3 < R.frames) (hRlocals : (rest.map fun v => v.category).sum + (13 * (names.length + 1) + 42) ≤ R.locals) (hRcells : cells + 1 ≤ R.cells) (hRslots : slots + 6 ≤ R.slots) (hlocks : meth.locks = false)
    (hx : ∀ t : State, s.vm.Alike t.vm → H.size ≤ t.heap.size → (∀ q : Nat, q < H.size → t.heap[q]? = H[q]?) → XC cls s t)
    (hf : ∀ z ∈ locs, free z.base) (hc : cells + 1 ≤ mc) (hs : slots + 6 ≤ ms) :
    W p l e R s m args below meth c H locs cells slots (vx_MQ below Qc XC args s mc ms free) (F0 m pc ls rest) := by
  intro T hT X
  have htr : e.platform.stackTraces = false := (show e.platform.stackTraces = l.stackTraces by rw [X.admits.platform]).trans hl
  have Y := vx_rebase X (R' := { frames := R.frames, locals := R.locals, cells := 1, slots := 6 }) (Nat.le_refl _) (Nat.le_refl _) hRcells hRslots
  obtain ⟨s', hA⟩ : ∃ z, z = (T.setVm s.vm).setFrames (.invoking m args :: below) := ⟨_, rfl⟩
  rw [← hA] at Y
  have hvm : s'.vm = s.vm := by rw [hA]; rfl
  have hhp : s'.heap = H := by rw [hA]; exact hT
  have hW0 : s.WarmedH s'.vm := by rw [hvm]; exact State.WarmedH.refl s
  have hat' : ∀ w ∈ vx_at0 own ic cls names, w.before args s' = true := fun w hw => vx_ot_at hW0 hvm.symm (hgood w (List.mem_cons_of_mem _ (List.mem_cons_of_mem _ hw))) (hat w hw)
  have hk' : (Cond.classLink own ik cls).before args s' = true := vx_ot_at hW0 hvm.symm (hgood _ List.mem_cons_self) hk
  have hini' : (Cond.initialized cls).before args s' = true := vx_ot_at hW0 hvm.symm (hgood _ (List.mem_cons_of_mem _ List.mem_cons_self)) hini
  have hU' : vx_Zq Bundle.tN "UNASSIGNED_STACK" Bundle.steD A s' s'.heap := by rw [hhp]; exact vx_Zq.moved hW0.alike (hU.kept hS.2.1)
  have hN' : vx_Zq Bundle.tN "SUPPRESSED_SENTINEL" Bundle.listD A s' s'.heap := by rw [hhp]; exact vx_Zq.moved hW0.alike (hN.kept hS.2.1)
  have h : ∀ w ∈ Bundle.ownAtoms0 own ic cls names, w.before args s' = true := vx_own hat' (vx_isRefq hU'.1) (vx_isRefq hN'.1) hU'.2.word hN'.2.word
  have hown' : s'.vm.findClass own = some m.cls := by rw [hvm]; exact hown
  have hins : (Cond.instantiable cls 6).before args s' = true := h _ (by simp [Bundle.ownAtoms0])
  obtain ⟨vm₁, cX, kX, hfX, hkX, -, -, X₁, st1⟩ := Y.newCold hexec (own := own) (C := cls) (index := ik) (n := 6) hown' hk' hins hini'
    (g := F0 m pc ls rest) rfl (by rw [hb]; exact d0) (Nat.le_refl _) (Nat.le_refl _)
  generalize hT1 : (T.setVm vm₁).pushCell { cls := cX, slots := kX.instanceTypes.map defaultValue, vm := .none } = T1 at X₁ st1
  have hcat : (Value.ref T.heap.size).category = 1 := rfl
  have hcellA : T1.heap[T.heap.size]? = some (freshCell cX kX) := by rw [← hT1]; exact State.heap_pushCell_size _ _
  have d3' : decode c.code (pc + 3) = .ok (.dup, 1) := by rw [hb]; exact d3
  obtain ⟨U, hsteps, hrun, hend, hW, hsame, ce, hce, hO⟩ := X₁.ctorThrow0 hexec htr (own := own) (cls := cls) (names := names) (ic := ic) hown' hcls hnames h (fun x hx => nomatch hx) hfX hkX hcellA (by rw [hhp, hT]; exact Nat.le_refl _)
    (g := { method := m, pc := pc + 4, locals := ls, stack := .ref T.heap.size :: .ref T.heap.size :: rest, locked := none }) rfl hsize rfl rfl (rest := rest) rfl
    (by rw [hb]; exact d4) (by rw [hb]; exact d7) hout hRframes (by simp only [List.map_cons, List.sum_cons, hcat]; omega) hlocks
  obtain ⟨f1, f2⟩ := vx_frame hsame
  rw [hhp] at f1 f2
  have hWs : s.WarmedH U.vm := State.WarmedH.trans hW0 hW
  have hcl : s.vm.findClass cls = some ce.cls := by
    have h9 := hO.cls
    rw [hvm] at h9
    exact h9
  have hall : s.sameButNew ({ U with vm := s.vm } : State) locs mc ms := by
    subst hA
    obtain ⟨e1, e2⟩ := hsame
    rw [State.setFrames_setFrames] at e1
    have h2 : (T.setVm s.vm).sameButNew ({ U with vm := s.vm } : State) [] (0 + 1) (0 + 6) := ⟨e1, e2⟩
    have h3 := X.same.trans h2
    rw [List.append_nil] at h3
    exact h3.mono hc hs
  refine ⟨U, ?_, .threw T.heap.size, hrun, hend, Or.inr ⟨T.heap.size, rfl, cls, ce, locs, hx U hWs.alike f1 (fun q hq => f2 q hq (fun z hz => nomatch hz)), hce, hO.vm, hcl, hWs, hall, hf⟩⟩
  refine st1 _ ?_
  show Steps p.tables e below (T1.setTop { method := m, pc := pc + 3, locals := ls, stack := .ref T.heap.size :: rest, locked := none }) _
  jvm_step X₁.here [X₁.here.top, hexec, d3', Value.category]
  exact hsteps
/-- 'throw new E("text")': new; dup; ldc; invokespecial; athrow -/
theorem vx_throwS {cc : ByteArray} {pc : Nat} (hexec : p.tables.exec = Jvm.exec) (hb : c.code = cc) (hl : l.stackTraces = false) {own cls text : String} {names : List String} {ik is ic mc ms sa : Nat} {A : Nat → Prop}
    (hown : s.vm.findClass own = some m.cls) (hcls : Bundle.fit cls = true) (hnames : ∀ n ∈ names, Bundle.fit n = true)
    (hk : (Cond.classLink own ik cls).before args s = true) (hini : (Cond.initialized cls).before args s = true) (hstr : vk_R own is text sa s) (hat : ∀ w ∈ vx_atS own ic cls names, w.before args s = true)
    (hgood : ∀ w ∈ Cond.classLink own ik cls :: Cond.initialized cls :: vx_atS own ic cls names, vx_ot w = true)
    (hU : vx_Zq Bundle.tN "UNASSIGNED_STACK" Bundle.steD A s s.heap) (hN : vx_Zq Bundle.tN "SUPPRESSED_SENTINEL" Bundle.listD A s s.heap) (hS : va_S A s.heap H locs) (hsize : ls.size = c.maxLocals)
    (d0 : decode cc pc = .ok (.new ik, 3)) (d3 : decode cc (pc + 3) = .ok (.dup, 1)) (d4 : decode cc (pc + 4) = .ok (.ldc is, 2)) (d6 : decode cc (pc + 6) = .ok (.invokespecial ic, 3)) (d9 : decode cc (pc + 9) = .ok (.athrow, 1))
    (hout : ∀ x ∈ c.exceptionTable.toList, covers x (pc + 9) = false)
    (hRframes : names.length + 3 < R.frames) (hRlocals : (rest.map fun v => v.category).sum + (13 * (names.length + 1) + 43) ≤ R.locals) (hRcells : cells + 1 ≤ R.cells) (hRslots : slots + 6 ≤ R.slots) (hlocks : meth.locks = false)
    (hx : ∀ t : State, s.vm.Alike t.vm → H.size ≤ t.heap.size → (∀ q : Nat, q < H.size → t.heap[q]? = H[q]?) → XC cls s t)
    (hf : ∀ z ∈ locs, free z.base) (hc : cells + 1 ≤ mc) (hs : slots + 6 ≤ ms) :
    W p l e R s m args below meth c H locs cells slots (vx_MQ below Qc XC args s mc ms free) (F0 m pc ls rest) := by
  intro T hT X
  have htr : e.platform.stackTraces = false := (show e.platform.stackTraces = l.stackTraces by rw [X.admits.platform]).trans hl
  have Y := vx_rebase X (R' := { frames := R.frames, locals := R.locals, cells := 1, slots := 6 }) (Nat.le_refl _) (Nat.le_refl _) hRcells hRslots
  obtain ⟨s', hA⟩ : ∃ z, z = (T.setVm s.vm).setFrames (.invoking m args :: below) := ⟨_, rfl⟩
  rw [← hA] at Y
  have hvm : s'.vm = s.vm := by rw [hA]; rfl
  have hhp : s'.heap = H := by rw [hA]; exact hT
  have hW0 : s.WarmedH s'.vm := by rw [hvm]; exact State.WarmedH.refl s
  have hat' : ∀ w ∈ vx_atS own ic cls names, w.before args s' = true := fun w hw => vx_ot_at hW0 hvm.symm (hgood w (List.mem_cons_of_mem _ (List.mem_cons_of_mem _ hw))) (hat w hw)
  have hk' : (Cond.classLink own ik cls).before args s' = true := vx_ot_at hW0 hvm.symm (hgood _ List.mem_cons_self) hk
  have hini' : (Cond.initialized cls).before args s' = true := vx_ot_at hW0 hvm.symm (hgood _ (List.mem_cons_of_mem _ List.mem_cons_self)) hini
  have hU' : vx_Zq Bundle.tN "UNASSIGNED_STACK" Bundle.steD A s' s'.heap := by rw [hhp]; exact vx_Zq.moved hW0.alike (hU.kept hS.2.1)
  have hN' : vx_Zq Bundle.tN "SUPPRESSED_SENTINEL" Bundle.listD A s' s'.heap := by rw [hhp]; exact vx_Zq.moved hW0.alike (hN.kept hS.2.1)
  have h : ∀ w ∈ Bundle.ownAtoms own ic cls names, w.before args s' = true := vx_own hat' (vx_isRefq hU'.1) (vx_isRefq hN'.1) hU'.2.word hN'.2.word
  have hown' : s'.vm.findClass own = some m.cls := by rw [hvm]; exact hown
  have hins : (Cond.instantiable cls 6).before args s' = true := h _ (by simp [Bundle.ownAtoms])
  obtain ⟨vm₁, cX, kX, hfX, hkX, -, -, X₁, st1⟩ := Y.newCold hexec (own := own) (C := cls) (index := ik) (n := 6) hown' hk' hins hini'
    (g := F0 m pc ls rest) rfl (by rw [hb]; exact d0) (Nat.le_refl _) (Nat.le_refl _)
  generalize hT1 : (T.setVm vm₁).pushCell { cls := cX, slots := kX.instanceTypes.map defaultValue, vm := .none } = T1 at X₁ st1
  have hcat : (Value.ref T.heap.size).category = 1 := rfl
  have hcellA : T1.heap[T.heap.size]? = some (freshCell cX kX) := by rw [← hT1]; exact State.heap_pushCell_size _ _
  have d3' : decode c.code (pc + 3) = .ok (.dup, 1) := by rw [hb]; exact d3
  have d4' : decode c.code (pc + 4) = .ok (.ldc is, 2) := by rw [hb]; exact d4
  have hstr' : vk_R own is text sa s' := vk_R.warm hW0 hstr
  obtain ⟨U, hsteps, hrun, hend, hW, hsame, ce, hce, hO⟩ := X₁.ctorThrowS hexec htr (own := own) (cls := cls) (names := names) (ic := ic) hown' hcls hnames h (fun x hx => nomatch hx) hfX hkX hcellA (by rw [hhp, hT]; exact Nat.le_refl _) (msg := .ref sa) rfl
    (g := { method := m, pc := pc + 6, locals := ls, stack := .ref sa :: .ref T.heap.size :: .ref T.heap.size :: rest, locked := none }) rfl hsize rfl rfl (rest := rest) rfl
    (by rw [hb]; exact d6) (by rw [hb]; exact d9) hout hRframes (by simp only [List.map_cons, List.sum_cons, hcat]; omega) hlocks
  obtain ⟨f1, f2⟩ := vx_frame hsame
  rw [hhp] at f1 f2
  have hWs : s.WarmedH U.vm := State.WarmedH.trans hW0 hW
  have hcl : s.vm.findClass cls = some ce.cls := by
    have h9 := hO.cls
    rw [hvm] at h9
    exact h9
  have hall : s.sameButNew ({ U with vm := s.vm } : State) locs mc ms := by
    subst hA
    obtain ⟨e1, e2⟩ := hsame
    rw [State.setFrames_setFrames] at e1
    have h2 : (T.setVm s.vm).sameButNew ({ U with vm := s.vm } : State) [] (0 + 1) (0 + 6) := ⟨e1, e2⟩
    have h3 := X.same.trans h2
    rw [List.append_nil] at h3
    exact h3.mono hc hs
  refine ⟨U, ?_, .threw T.heap.size, hrun, hend, Or.inr ⟨T.heap.size, rfl, cls, ce, locs, hx U hWs.alike f1 (fun q hq => f2 q hq (fun z hz => nomatch hz)), hce, hO.vm, hcl, hWs, hall, hf⟩⟩
  refine st1 _ ?_
  show Steps p.tables e below (T1.setTop { method := m, pc := pc + 3, locals := ls, stack := .ref T.heap.size :: rest, locked := none }) _
  jvm_step X₁.here [X₁.here.top, hexec, d3', Value.category]
  exact X₁.ldcString hexec (own := own) (text := text) (index := is) (a := sa) hown' hstr'.1 hstr'.2
    (g := { method := m, pc := pc + 4, locals := ls, stack := .ref T.heap.size :: .ref T.heap.size :: rest, locked := none }) rfl d4' _ hsteps
/-- 'throw new E("text")', the text by a wide index -/
theorem vx_throwSW {cc : ByteArray} {pc : Nat} (hexec : p.tables.exec = Jvm.exec) (hb : c.code = cc) (hl : l.stackTraces = false) {own cls text : String} {names : List String} {ik is ic mc ms sa : Nat} {A : Nat → Prop}
    (hown : s.vm.findClass own = some m.cls) (hcls : Bundle.fit cls = true) (hnames : ∀ n ∈ names, Bundle.fit n = true)
    (hk : (Cond.classLink own ik cls).before args s = true) (hini : (Cond.initialized cls).before args s = true) (hstr : vk_R own is text sa s) (hat : ∀ w ∈ vx_atS own ic cls names, w.before args s = true)
    (hgood : ∀ w ∈ Cond.classLink own ik cls :: Cond.initialized cls :: vx_atS own ic cls names, vx_ot w = true)
    (hU : vx_Zq Bundle.tN "UNASSIGNED_STACK" Bundle.steD A s s.heap) (hN : vx_Zq Bundle.tN "SUPPRESSED_SENTINEL" Bundle.listD A s s.heap) (hS : va_S A s.heap H locs) (hsize : ls.size = c.maxLocals)
    (d0 : decode cc pc = .ok (.new ik, 3)) (d3 : decode cc (pc + 3) = .ok (.dup, 1)) (d4 : decode cc (pc + 4) = .ok (.ldc_w is, 3)) (d7 : decode cc (pc + 7) = .ok (.invokespecial ic, 3)) (d10 : decode cc (pc + 10) = .ok (.athrow, 1))
    (hout : ∀ x ∈ c.exceptionTable.toList, covers x (pc + 10) = false)
    (hRframes : names.length + 3 < R.frames) (hRlocals : (rest.map fun v => v.category).sum + (13 * (names.length + 1) + 43) ≤ R.locals) (hRcells : cells + 1 ≤ R.cells) (hRslots : slots + 6 ≤ R.slots) (hlocks : meth.locks = false)
    (hx : ∀ t : State, s.vm.Alike t.vm → H.size ≤ t.heap.size → (∀ q : Nat, q < H.size → t.heap[q]? = H[q]?) → XC cls s t)
    (hf : ∀ z ∈ locs, free z.base) (hc : cells + 1 ≤ mc) (hs : slots + 6 ≤ ms) :
    W p l e R s m args below meth c H locs cells slots (vx_MQ below Qc XC args s mc ms free) (F0 m pc ls rest) := by
  intro T hT X
  have htr : e.platform.stackTraces = false := (show e.platform.stackTraces = l.stackTraces by rw [X.admits.platform]).trans hl
  have Y := vx_rebase X (R' := { frames := R.frames, locals := R.locals, cells := 1, slots := 6 }) (Nat.le_refl _) (Nat.le_refl _) hRcells hRslots
  obtain ⟨s', hA⟩ : ∃ z, z = (T.setVm s.vm).setFrames (.invoking m args :: below) := ⟨_, rfl⟩
  rw [← hA] at Y
  have hvm : s'.vm = s.vm := by rw [hA]; rfl
  have hhp : s'.heap = H := by rw [hA]; exact hT
  have hW0 : s.WarmedH s'.vm := by rw [hvm]; exact State.WarmedH.refl s
  have hat' : ∀ w ∈ vx_atS own ic cls names, w.before args s' = true := fun w hw => vx_ot_at hW0 hvm.symm (hgood w (List.mem_cons_of_mem _ (List.mem_cons_of_mem _ hw))) (hat w hw)
  have hk' : (Cond.classLink own ik cls).before args s' = true := vx_ot_at hW0 hvm.symm (hgood _ List.mem_cons_self) hk
  have hini' : (Cond.initialized cls).before args s' = true := vx_ot_at hW0 hvm.symm (hgood _ (List.mem_cons_of_mem _ List.mem_cons_self)) hini
  have hU' : vx_Zq Bundle.tN "UNASSIGNED_STACK" Bundle.steD A s' s'.heap := by rw [hhp]; exact vx_Zq.moved hW0.alike (hU.kept hS.2.1)
  have hN' : vx_Zq Bundle.tN "SUPPRESSED_SENTINEL" Bundle.listD A s' s'.heap := by rw [hhp]; exact vx_Zq.moved hW0.alike (hN.kept hS.2.1)
  have h : ∀ w ∈ Bundle.ownAtoms own ic cls names, w.before args s' = true := vx_own hat' (vx_isRefq hU'.1) (vx_isRefq hN'.1) hU'.2.word hN'.2.word
  have hown' : s'.vm.findClass own = some m.cls := by rw [hvm]; exact hown
  have hins : (Cond.instantiable cls 6).before args s' = true := h _ (by simp [Bundle.ownAtoms])
  obtain ⟨vm₁, cX, kX, hfX, hkX, -, -, X₁, st1⟩ := Y.newCold hexec (own := own) (C := cls) (index := ik) (n := 6) hown' hk' hins hini'
    (g := F0 m pc ls rest) rfl (by rw [hb]; exact d0) (Nat.le_refl _) (Nat.le_refl _)
  generalize hT1 : (T.setVm vm₁).pushCell { cls := cX, slots := kX.instanceTypes.map defaultValue, vm := .none } = T1 at X₁ st1
  have hcat : (Value.ref T.heap.size).category = 1 := rfl
  have hcellA : T1.heap[T.heap.size]? = some (freshCell cX kX) := by rw [← hT1]; exact State.heap_pushCell_size _ _
  have d3' : decode c.code (pc + 3) = .ok (.dup, 1) := by rw [hb]; exact d3
  have d4' : decode c.code (pc + 4) = .ok (.ldc_w is, 3) := by rw [hb]; exact d4
  have hstr' : vk_R own is text sa s' := vk_R.warm hW0 hstr
  obtain ⟨U, hsteps, hrun, hend, hW, hsame, ce, hce, hO⟩ := X₁.ctorThrowS hexec htr (own := own) (cls := cls) (names := names) (ic := ic) hown' hcls hnames h (fun x hx => nomatch hx) hfX hkX hcellA (by rw [hhp, hT]; exact Nat.le_refl _) (msg := .ref sa) rfl
    (g := { method := m, pc := pc + 7, locals := ls, stack := .ref sa :: .ref T.heap.size :: .ref T.heap.size :: rest, locked := none }) rfl hsize rfl rfl (rest := rest) rfl
    (by rw [hb]; exact d7) (by rw [hb]; exact d10) hout hRframes (by simp only [List.map_cons, List.sum_cons, hcat]; omega) hlocks
  obtain ⟨f1, f2⟩ := vx_frame hsame
  rw [hhp] at f1 f2
  have hWs : s.WarmedH U.vm := State.WarmedH.trans hW0 hW
  have hcl : s.vm.findClass cls = some ce.cls := by
    have h9 := hO.cls
    rw [hvm] at h9
    exact h9
  have hall : s.sameButNew ({ U with vm := s.vm } : State) locs mc ms := by
    subst hA
    obtain ⟨e1, e2⟩ := hsame
    rw [State.setFrames_setFrames] at e1
    have h2 : (T.setVm s.vm).sameButNew ({ U with vm := s.vm } : State) [] (0 + 1) (0 + 6) := ⟨e1, e2⟩
    have h3 := X.same.trans h2
    rw [List.append_nil] at h3
    exact h3.mono hc hs
  refine ⟨U, ?_, .threw T.heap.size, hrun, hend, Or.inr ⟨T.heap.size, rfl, cls, ce, locs, hx U hWs.alike f1 (fun q hq => f2 q hq (fun z hz => nomatch hz)), hce, hO.vm, hcl, hWs, hall, hf⟩⟩
  refine st1 _ ?_
  show Steps p.tables e below (T1.setTop { method := m, pc := pc + 3, locals := ls, stack := .ref T.heap.size :: rest, locked := none }) _
  jvm_step X₁.here [X₁.here.top, hexec, d3', Value.category]
  exact X₁.ldcStringW hexec (own := own) (text := text) (index := is) (a := sa) hown' hstr'.1 hstr'.2
    (g := { method := m, pc := pc + 4, locals := ls, stack := .ref T.heap.size :: .ref T.heap.size :: rest, locked := none }) rfl d4' _ hsteps
end Ends
section Bodies
variable {l : Launch}
theorem vx_ofW {y : MethodName} {ws ws' : List Cond} {rm : Room} {Pc : Array Value → State → Prop} {Qc : Array Value → State → Outcome → State → Prop} {XC : String → State → State → Prop} {mc ms : Nat} {free : Addr → Prop} {cc : ByteArray} {maxL : Nat} {ret : Option FieldType}
    (hy : plainName y.cls = true) (hw : ws = Cond.code y cc maxL ret :: ws')
    (body : ∀ p e s m args below meth c s₁, BodyLoose p l y (headSpec ws rm) cc maxL ret e s m args below meth c s₁ → c.maxLocals = maxL → (∀ x ∈ c.exceptionTable.toList, False) → Pc args s →
      W p l e (headSpec ws rm).room s m args below meth c s.heap [] 0 0 (vx_MQ below Qc XC args s mc ms free) (entryFrame m args maxL)) : vx_Met l y ws rm Pc Qc XC mc ms free := by
  refine MetFree.of_bodyS (code := cc) (maxLocals := maxL) (ret := ret) hy ?_ ?_
  · intro args s m h hn
    obtain ⟨meth, c, h1, h2, h3, h4, h5, h6, -, -⟩ := Cond.code_spec hn (atoms_spec (ws := ws) h _ (by rw [hw]; exact List.mem_cons_self))
    exact ⟨meth, c, h1, h2, h3, h4, h5, h6⟩
  · intro p e s m args below meth c s₁ B hml hP _
    have hh0 : s₁.heap = s.heap := by rw [B.state]; rfl
    have ht : ∀ x ∈ c.exceptionTable.toList, False := by
      obtain ⟨meth9, c9, h1, h2, -, -, -, -, h7, -⟩ := Cond.code_spec B.named (atoms_spec (ws := ws) B.pre _ (by rw [hw]; exact List.mem_cons_self))
      cases Option.some.inj (h1.symm.trans B.method)
      cases Option.some.inj (h2.symm.trans (Stand.of_body B).code)
      intro x hx
      rw [Array.isEmpty_iff.mp h7] at hx
      cases hx
    obtain ⟨t, a1, o, b1, b2, b3⟩ := body p e s m args below meth c s₁ B hml ht hP s₁ hh0 (Stand.of_body B)
    exact ⟨t, o, a1, b1, b2, b3⟩
/-- the table of a body with handlers -/
theorem vx_table {p : Program} {x y : MethodName} {S : Spec} {cc bytes : ByteArray} {maxL maxL' : Nat} {ret ret' : Option FieldType} {e : Env} {s s₁ : State} {m : MethodId} {args : Array Value} {below : List Frame} {meth : Method} {c : Code} {hh : List (Nat × Nat × Nat × Nat)}
    (B : BodyLoose p l y S cc maxL ret e s m args below meth c s₁) (h : (Cond.codeWith y bytes maxL' ret' hh).before args s = true) : c.exceptionTable.toList = tableOf hh := by
  obtain ⟨m9, meth9, c9, hn9, h1, h2, -, -, h6, -⟩ := Cond.codeWith_spec h
  cases Option.some.inj (hn9.symm.trans B.named)
  cases Option.some.inj (h1.symm.trans B.method)
  cases Option.some.inj (h2.symm.trans (Stand.of_body B).code)
  rw [← h6, table_eq]
end Bodies
end VXA
/-! ===== END ===== -/
/-! ===== BEGIN a static call of a method with an exception table ===== -/
section VXS
variable {p : Program} {l : Launch} {e : Env} {R : Room} {s : State} {m : MethodId} {args : Array Value} {below : List Frame} {meth : Method} {c : Code} {T : State} {H : Heap} {locs : List Loc} {cells slots : Nat}
abbrev vx_CSW (R : Room) (s : State) (args : Array Value) (own : String) (index : Nat) (y : MethodName) (bytes : ByteArray) (maxL : Nat) (ret : Option FieldType) (hh : List (Nat × Nat × Nat × Nat)) (ws : List Cond) (rm : Room) (mc ms n : Nat) : Prop :=
  (rm.cells = mc ∧ rm.slots = ms ∧ rm.frames + 1 ≤ R.frames ∧ 8 + (maxL + 11) + rm.locals ≤ R.locals ∧ (∀ w ∈ ws, ∀ (a' : Array Value) (U : State), s.WarmedH U.vm → w.before a' U = true) ∧ Cond.codeWith y bytes maxL ret hh ∈ ws) ∧
  (Cond.codeWith y bytes maxL ret hh).before args s = true ∧ (Cond.initialized y.cls).before args s = true ∧ (y.cls ≠ "java/lang/invoke/MethodHandle" ∧ y.cls ≠ "java/lang/invoke/VarHandle") ∧
  (∀ sig, parseMethodDescriptor y.desc = some sig → n = sig.parameters.length) ∧ (Cond.methodLink own index y).before args s = true ∧ (Cond.static y).before args s = true
theorem vx_cwSW {own : String} {index maxL mc ms : Nat} {y : MethodName} {bytes : ByteArray} {ret : Option FieldType} {hh : List (Nat × Nat × Nat × Nat)} {Ts ws ws' : List Cond} {rm : Room} (n : Nat) (ht : ∀ w ∈ Ts, w.before args s = true) (hT : GoodIn Ts (va_wsS own index y ws)) (hw : ws = Cond.codeWith y bytes maxL ret hh :: ws') (hrc : rm.cells = mc) (hrs : rm.slots = ms)
    (hd : y.cls ≠ "java/lang/invoke/MethodHandle" ∧ y.cls ≠ "java/lang/invoke/VarHandle" ∧ (parseMethodDescriptor y.desc).map (fun d => d.parameters.length) = some n) (hR : rm.frames + 1 ≤ R.frames ∧ 8 + (maxL + 11) + rm.locals ≤ R.locals) :
    vx_CSW R s args own index y bytes maxL ret hh ws rm mc ms n := by
  have ok : ∀ w ∈ va_wsS own index y ws, w.before args s = true := fun w h => ht w (hT w h).1
  have hG : GoodIn Ts ws := fun w h => hT w (by unfold va_wsS; exact List.mem_append_right _ h)
  have hc : Cond.codeWith y bytes maxL ret hh ∈ ws := by rw [hw]; exact List.mem_cons_self
  refine ⟨⟨hrc, hrs, hR.1, hR.2, pay_in ht hG, hc⟩, ht _ (hG _ hc).1, ok _ (by simp [va_wsS]), ⟨hd.1, hd.2.1⟩, fun sig h => ?_, ok _ (by simp [va_wsS]), ok _ (by simp [va_wsS])⟩
  have h2 := hd.2.2
  rw [h] at h2
  exact (Option.some.inj h2).symm
theorem vx_callSW (X : Stand p l e R s m args below meth c T locs cells slots) (hexec : p.tables.exec = Jvm.exec) {own : String} {index : Nat} {y : MethodName} {bytes : ByteArray} {maxL : Nat} {ret : Option FieldType} {hh : List (Nat × Nat × Nat × Nat)}
    (hown : s.vm.findClass own = some m.cls) (hlink : (Cond.methodLink own index y).before args s = true) (hstat : (Cond.static y).before args s = true) (hinit : (Cond.initialized y.cls).before args s = true)
    (hcode : (Cond.codeWith y bytes maxL ret hh).before args s = true) (hy : y.cls ≠ "java/lang/invoke/MethodHandle" ∧ y.cls ≠ "java/lang/invoke/VarHandle")
    {W9 : Nat} {Pre : Pt → Array Value → Prop} {Post : Pt → Array Value → Option Value → Pt → Prop} (hK : Back l R p e below s args y 3 W9 Pre Post)
    {g : JFrame} (hg : g.method = m) (hsize : g.locals.size = c.maxLocals) {argsL rest : List Value} (hlen : ∀ sig, parseMethodDescriptor y.desc = some sig → argsL.length = sig.parameters.length)
    (hstack : g.stack = argsL.reverse ++ rest) (hW : 2 * g.monitorRoom + (rest.map fun v => v.category).sum ≤ W9) (hdg : decode c.code g.pc = .ok (.invokestatic index, 3))
    (hpre : ∀ vm₁, s.WarmedH vm₁ → Pre ⟨T.setVm vm₁, locs, cells, slots⟩ argsL.toArray) :
    ∃ (v : Option Value) (vm₁ : Vm) (B : Pt), s.WarmedH vm₁ ∧ Stand p l e R s m args below meth c B.U B.locs B.cells B.slots ∧ Post ⟨T.setVm vm₁, locs, cells, slots⟩ argsL.toArray v B ∧
      ∀ target, Steps p.tables e below (B.U.setTop { g with pc := g.pc + 3, stack := v.toList ++ rest }) target → Steps p.tables e below (T.setTop g) target := by
  obtain ⟨mk, methM, cM, hnamed, hmethM, -, -, -, -, -, -, hsigM⟩ := Cond.codeWith_spec hcode
  have hstatic : methM.isStatic = true := Cond.static_spec hnamed hmethM hstat
  obtain ⟨kP, hkP, -⟩ := className_of_methodNamed hnamed
  have hinitP : kP.init = .initialized := Cond.initialized_spec (findClass_of_methodNamed hnamed) hkP hinit
  obtain ⟨vm₁, X₁, hstep₁⟩ := X.invokestatic hexec hown hlink hnamed hmethM hstatic hkP hinitP hy (g := g) hg (argsL := argsL) (rest := rest) (hlen _ hsigM) hstack hdg
  obtain ⟨v, B, X', hpost, hsteps⟩ := hK m meth c ⟨T.setVm vm₁, locs, cells, slots⟩ { g with stack := rest } (.invokestatic index) mk argsL.toArray X₁ hg hsize hdg hW (X₁.named hnamed) (hpre vm₁ X₁.warmed)
  exact ⟨v, vm₁, B, X₁.warmed, X', hpost, fun target h => hstep₁ _ fun acts => by rw [doInvoke_state]; exact hsteps.trans h⟩
theorem vx_runSW {y : MethodName} {bytes cc : ByteArray} {maxL nL mc ms n index : Nat} {ret : Option FieldType} {hh : List (Nat × Nat × Nat × Nat)} {ws : List Cond} {rm : Room} {Pc : Array Value → State → Prop} {Qc : Array Value → State → Outcome → State → Prop} {free : Addr → Prop} {Ts : List Cond} {own : String} {As rest : List Value} {g : JFrame}
    (S : CallFix p m c cc nL s args Ts own) (hM : Met l y ws rm Pc Qc mc ms free) (cw : vx_CSW R s args own index y bytes maxL ret hh ws rm mc ms n) (hp : PreS s H Pc As)
    (hg : g.method = m) (hn : As.length = n) (hsize : g.locals.size = nL) (hstack : g.stack = As.reverse ++ rest) (hW : 2 * g.monitorRoom + (rest.map fun v => v.category).sum ≤ 8) (hdg : decode cc g.pc = .ok (.invokestatic index, 3)) (hf : cells + mc ≤ R.cells ∧ slots + ms ≤ R.slots) :
    va_Run p l e R s m args below meth c H locs cells slots mc ms g rest (Qc As.toArray) (free) := by
  obtain ⟨⟨hrc, hrs, hfr, hlo, hws, hcw⟩, hcode, hini, hy, hlen, hl, hstt⟩ := cw
  have hK : Back l R p e below s args y 3 8 (PreOf R mc ms Pc) (PostOf Qc mc ms free) := va_backW (hh := hh) (bytes := bytes) (maxL := maxL) (ret := ret) hM hp.1 hrc hrs hfr hlo hws hcw (fun a' U hW => word_at hW (Or.inl (by first | rfl | simp [Cond.onTables, Cond.keeps, Cond.steady])) hini)
  obtain ⟨hx, hb, hml, ho, -⟩ := S
  intro T hT X
  obtain ⟨v, vm₁, ⟨U', l2, c2, s2⟩, hW₁, X', ⟨g', mk, t, L, e1, e2, hq, h1, hL, h2, h3⟩, st⟩ := vx_callSW X hx (hh := hh) (bytes := bytes) (maxL := maxL) (ret := ret) ho hl hstt hini hcode hy hK hg (hsize.trans hml.symm) (argsL := As) (rest := rest) (fun sig h => hn.trans (hlen sig h)) hstack hW (by rw [hb]; exact hdg)
    (fun vm₁ hW₁ => ⟨hf.1, hf.2, hp.2 (T.setVm vm₁) hT hW₁⟩)
  dsimp only [Pt.U, Pt.locs, Pt.cells, Pt.slots] at X' e1 e2 h1 h2 h3 st
  subst h1; subst h2; subst h3
  exact ⟨v, (T.setVm vm₁).calling g' mk As.toArray, t, U', L, hT, X', hL, e1, e2, hq, st⟩
/-- a thing of a world lies in the heap -/
theorem vx_lt {D : va_G} {cl : List vw_C} {ws : va_W} {H1 : Heap} (h : va_P D cl ws H1) {k : Nat} {q : Nat × va_E} (hk : ws[k]? = some q) : q.1 < H1.size := (h k q hk).lt
end VXS
/-! ===== END ===== -/
/-! ===== BEGIN methods with a table of their own: called by a name, returning or throwing ===== -/
section VXH
/-! vx_backW, vx_callVX, vx_callSX, vx_callVW, vx_runVW, vx_runVX, vx_runSX, vx_ofWH follow the same proofs as their sisters above (Free/Laws.lean, Shelf42/LK1.lean); vx_outP calls Shelf42/NT130.lean (outThrough). -/
section
variable {l : Launch} {R : Room} {p : Program} {e : Env} {below : List Frame} {s : State} {sargs : Array Value} {y : MethodName} {len W9 : Nat}
theorem vx_backW {ws : List Cond} {rm : Room} {Pc : Array Value → State → Prop} {Qc : Array Value → State → Outcome → State → Prop} {XC : String → State → State → Prop} {mc ms : Nat} {free : Addr → Prop} {bytes : ByteArray} {maxL : Nat} {ret : Option FieldType} {hh : List (Nat × Nat × Nat × Nat)}
    (hM : vx_Met l y ws rm Pc Qc XC mc ms free) (hblind : FrameBlind Pc) (hrc : rm.cells = mc) (hrs : rm.slots = ms)
    (hframes : rm.frames + 1 ≤ R.frames) (hlocals : W9 + (maxL + 11) + rm.locals ≤ R.locals)
    (hws : ∀ w ∈ ws, ∀ a' U, s.WarmedH U.vm → w.before a' U = true) (hcode : Cond.codeWith y bytes maxL ret hh ∈ ws) (hinit : ∀ a' U, s.WarmedH U.vm → (Cond.initialized y.cls).before a' U = true) :
    vx_Back l R p e below s sargs y len W9 (PreOf R mc ms Pc) (PostOf Qc mc ms free) (vx_Post XC mc ms free) := by
  intro m meth c A g ig mk a X hg hsize hdg hW hn hp
  have h1 : (headSpec ws rm).pre.before a A.U = true := atoms_intro fun w hw => hws w hw _ _ X.warmed
  have h2 : (Cond.codeWith y bytes maxL ret hh).before a A.U = true := hws _ hcode _ _ X.warmed
  have h3 : (Cond.initialized y.cls).before a A.U = true := hinit _ _ X.warmed
  have h4 : A.cells + (headSpec ws rm).room.cells ≤ R.cells := by rw [show (headSpec ws rm).room.cells = mc from hrc]; exact hp.1
  have h5 : A.slots + (headSpec ws rm).room.slots ≤ R.slots := by rw [show (headSpec ws rm).room.slots = ms from hrs]; exact hp.2.1
  have hPc : Pc a (A.U.calling g mk a) := hblind _ _ _ _ hp.2.2
  obtain ⟨U, Ls, c0, s0⟩ := A
  dsimp only [Pt.U, Pt.locs, Pt.cells, Pt.slots] at h1 h2 h3 h4 h5 X hn hPc ⊢
  obtain ⟨m9, methY, cY, hn9, hmY, hcY, -, hlY, -⟩ := Cond.codeWith_spec h2
  cases Option.some.inj (hn9.symm.trans hn)
  obtain ⟨kY, hkY, -⟩ := className_of_methodNamed hn
  have hinitY : kY.init = .initialized := Cond.initialized_spec (findClass_of_methodNamed hn) hkY h3
  have h : At U g.method c below := by rw [hg]; exact X.here
  have hlocals9 : W9 + (maxL + 11) + (headSpec ws rm).room.locals ≤ R.locals := hlocals
  have happ : (headSpec ws rm).appliesLoose y e.platform (U.calling g mk a) = true :=
    Spec.appliesLoose_calling (g := g) h hdg hn hkY hinitY
      (X.room_calling (g := g) (R' := (headSpec ws rm).room) hsize hmY hcY hframes (by rw [hlY]; omega) h4 h5) h1
  obtain ⟨mid, hmid⟩ := h.above
  have hfr : (U.setTop g).frames = (.java g :: mid) ++ below := by rw [State.frames_setTop' g h.top, hmid]; rfl
  obtain ⟨o, s₂, hsteps, -, hend, hq⟩ := Steps.callFree hM p X.admits X.cas X.clock (acts := []) hfr happ hPc trivial
  have hq' : vx_Q Qc XC mc ms free a (U.calling g mk a) o s₂ := hq
  rw [State.frames_setTop' g h.top] at hend
  obtain ⟨g₀, hg0⟩ := Option.isSome_iff_exists.mp h.top
  obtain ⟨r, hr⟩ := State.topJava?_eq_some.mp hg0
  have hr' : (({ U with heap := s₂.heap, slotsUsed := s₂.slotsUsed } : State).setVm s₂.vm).frames = .java g₀ :: r := hr
  rcases hq' with ⟨hqc, L, hfe, hL⟩ | ⟨q, rfl, E, ce, L, hx, hce, hcv, hcl, hW₂, hsm, hL⟩
  · obtain ⟨⟨v, rfl⟩, hW₂, e2, q2, q3, q4, q5, q6⟩ := id hfe
    have e3 : s₂ = ({ (U.calling g mk a).setFrames s₂.frames with heap := s₂.heap, slotsUsed := s₂.slotsUsed } : State).setVm s₂.vm := by
      have : s₂ = ({ s₂ with vm := (U.calling g mk a).vm } : State).setVm s₂.vm := rfl
      rw [e2] at this
      exact this
    obtain ⟨c₂, i₂, len₂, hc₂, hd₂, hf₂⟩ := hend
    have hW' : U.WarmedH s₂.vm := hW₂
    have hcc : c₂ = c := by
      have h1 : s₂.code? g.method = U.code? g.method := by
        rw [State.code?_eq, State.code?_eq, hW'.alike.method?]
      exact Option.some.inj (hc₂.symm.trans (h1.trans h.code))
    subst hcc
    have hlen : len₂ = len := by rw [hdg] at hd₂; cases hd₂; rfl
    subst hlen
    have hs₂ : s₂ = (({ U with heap := s₂.heap, slotsUsed := s₂.slotsUsed } : State).setVm s₂.vm).setTop { g with pc := g.pc + len₂, stack := v.toList ++ g.stack } := by
      refine e3.trans ?_
      rw [hf₂, State.calling_eq h.top, State.setFrames_setFrames, State.setTop_of_frames _ hr', hr]
      rfl
    have hsame : U.sameButNew ({ U with heap := s₂.heap, slotsUsed := s₂.slotsUsed } : State) L mc ms := by
      refine ⟨?_, q2, q3, q4, q5, q6⟩
      obtain ⟨t, ht, -⟩ := State.frames_cons hr
      show ({ U with heap := s₂.heap, slotsUsed := s₂.slotsUsed } : State) = { U.setFrames U.frames with heap := s₂.heap, slotsUsed := s₂.slotsUsed }
      rw [State.setFrames_self ht]
    subst hg
    refine Or.inl ⟨v, ⟨(({ U with heap := s₂.heap, slotsUsed := s₂.slotsUsed } : State).setVm s₂.vm), Ls ++ L, c0 + mc, s0 + ms⟩,
      ⟨X.admits, X.cas, X.clock, X.frames, X.room, X.hears, X.method, X.code, (X.here.setHeapUsed s₂.heap s₂.slotsUsed).setVm hW'.alike, X.tail, State.WarmedH.trans X.warmed hW', X.limits, X.bytes, X.same.trans (hsame.setVm s.vm)⟩,
      ⟨g, mk, s₂, L, rfl, rfl, hqc, rfl, hL, rfl, rfl⟩, ?_⟩
    show Steps p.tables e below _ ((({ U with heap := s₂.heap, slotsUsed := s₂.slotsUsed } : State).setVm s₂.vm).setTop { g with pc := g.pc + len₂, stack := v.toList ++ g.stack })
    rw [← hs₂]
    exact hsteps
  · obtain ⟨e2, q2, q3, q4, q5, q6⟩ := id hsm
    have e3 : s₂ = ({ (U.calling g mk a).setFrames s₂.frames with heap := s₂.heap, slotsUsed := s₂.slotsUsed } : State).setVm s₂.vm := by
      have : s₂ = ({ s₂ with vm := (U.calling g mk a).vm } : State).setVm s₂.vm := rfl
      rw [e2] at this
      exact this
    have hf₂ : s₂.frames = .throwing q :: .java g :: U.frames.tail := hend
    have hW' : U.WarmedH s₂.vm := hW₂
    have hs₂ : s₂ = ((({ U with heap := s₂.heap, slotsUsed := s₂.slotsUsed } : State).setVm s₂.vm).setTop g).pushFrame (.throwing q) := by
      refine e3.trans ?_
      rw [hf₂, State.calling_eq h.top, State.setFrames_setFrames, State.pushFrame, State.frames_setTop _ hr', State.setTop_of_frames _ hr', State.setFrames_setFrames, hr]
      rfl
    have hsame : U.sameButNew ({ U with heap := s₂.heap, slotsUsed := s₂.slotsUsed } : State) L mc ms := by
      refine ⟨?_, q2, q3, q4, q5, q6⟩
      obtain ⟨t, ht, -⟩ := State.frames_cons hr
      show ({ U with heap := s₂.heap, slotsUsed := s₂.slotsUsed } : State) = { U.setFrames U.frames with heap := s₂.heap, slotsUsed := s₂.slotsUsed }
      rw [State.setFrames_self ht]
    subst hg
    refine Or.inr ⟨q, ⟨(({ U with heap := s₂.heap, slotsUsed := s₂.slotsUsed } : State).setVm s₂.vm), Ls ++ L, c0 + mc, s0 + ms⟩,
      ⟨X.admits, X.cas, X.clock, X.frames, X.room, X.hears, X.method, X.code, (X.here.setHeapUsed s₂.heap s₂.slotsUsed).setVm hW'.alike, X.tail, State.WarmedH.trans X.warmed hW', X.limits, X.bytes, X.same.trans (hsame.setVm s.vm)⟩,
      ⟨g, mk, s₂, L, E, ce, rfl, rfl, hx, hce, hcv, hcl, rfl, hL, rfl, rfl⟩, ?_⟩
    show Steps p.tables e below _ (((({ U with heap := s₂.heap, slotsUsed := s₂.slotsUsed } : State).setVm s₂.vm).setTop g).pushFrame (.throwing q))
    rw [← hs₂]
    exact hsteps
end
variable {p : Program} {l : Launch} {e : Env} {R : Room} {s : State} {m : MethodId} {args : Array Value} {below : List Frame} {meth : Method} {c : Code} {T : State} {H : Heap} {locs : List Loc} {cells slots : Nat}
theorem vx_callVX (X : Stand p l e R s m args below meth c T locs cells slots) (hexec : p.tables.exec = Jvm.exec) {own C : String} {index : Nat} {y : MethodName} {bytes : ByteArray} {maxL : Nat} {ret : Option FieldType} {hh : List (Nat × Nat × Nat × Nat)}
    (hown : s.vm.findClass own = some m.cls) (hlink : (Cond.methodLink own index y).before args s = true) (hinst : (Cond.instanceMethod y).before args s = true) (hsel : (Cond.selects C y y).before args s = true)
    (hcode : (Cond.codeWith y bytes maxL ret hh).before args s = true) (hy : y.cls ≠ "java/lang/invoke/MethodHandle" ∧ y.cls ≠ "java/lang/invoke/VarHandle")
    {W9 : Nat} {Pre : Pt → Array Value → Prop} {Post : Pt → Array Value → Option Value → Pt → Prop} {PostX : Pt → Array Value → Addr → Pt → Prop} (hK : vx_Back l R p e below s args y 3 W9 Pre Post PostX)
    {b : Addr} {cellB : Cell} (hcell : T.heap[b]? = some cellB) (hobj : cellB.vm.isStatics = false) (hcls : s.vm.findClass C = some cellB.cls)
    {g : JFrame} (hg : g.method = m) (hsize : g.locals.size = c.maxLocals) {argsL rest : List Value} (hlen : ∀ sig, parseMethodDescriptor y.desc = some sig → argsL.length = sig.parameters.length)
    (hstack : g.stack = argsL.reverse ++ .ref b :: rest) (hW : 2 * g.monitorRoom + (rest.map fun v => v.category).sum ≤ W9) (hdg : decode c.code g.pc = .ok (.invokevirtual index, 3))
    (hpre : ∀ vm₁, s.WarmedH vm₁ → Pre ⟨T.setVm vm₁, locs, cells, slots⟩ (Value.ref b :: argsL).toArray) :
    (∃ (v : Option Value) (vm₁ : Vm) (B : Pt), s.WarmedH vm₁ ∧ Stand p l e R s m args below meth c B.U B.locs B.cells B.slots ∧ Post ⟨T.setVm vm₁, locs, cells, slots⟩ (Value.ref b :: argsL).toArray v B ∧
      ∀ target, Steps p.tables e below (B.U.setTop { g with pc := g.pc + 3, stack := v.toList ++ rest }) target → Steps p.tables e below (T.setTop g) target) ∨
    (∃ (q : Addr) (vm₁ : Vm) (B : Pt), s.WarmedH vm₁ ∧ Stand p l e R s m args below meth c B.U B.locs B.cells B.slots ∧ PostX ⟨T.setVm vm₁, locs, cells, slots⟩ (Value.ref b :: argsL).toArray q B ∧
      Steps p.tables e below (T.setTop g) ((B.U.setTop { g with stack := rest }).pushFrame (.throwing q))) := by
  obtain ⟨mk, methM, hnamed, hmethM, hstM, habM⟩ := Cond.instanceMethod_spec hinst
  obtain ⟨m8, methM', cM, hn8, hmethM', -, -, -, -, -, -, hsigM⟩ := Cond.codeWith_spec hcode
  cases Option.some.inj (hn8.symm.trans hnamed)
  cases hmethM.symm.trans hmethM'
  obtain ⟨c2, r2, m2, q1, q2, q3, q4, kP, hkP, hkPi⟩ := Cond.selects_spec hsel
  cases hcls.symm.trans q1
  cases (State.methodFound?_of_named hnamed hy).symm.trans q2
  cases hnamed.symm.trans q3
  have hselP : selectMethod e.platform s.vm cellB.cls mk = .method mk := by rw [Launch.admits_selectMethod X.admits]; exact q4
  obtain ⟨vm₁, X₁, hstep₁⟩ := X.invokevirtual hexec hown hlink hnamed hmethM hstM hkP hkPi hy (a := b) (cell := cellB) hcell
    (fun z h => by rw [h] at hobj; cases hobj) hselP hmethM habM hkP hkPi (g := g) hg (argsL := argsL) (rest := rest) (hlen _ hsigM) hstack hdg
  rcases hK m meth c ⟨T.setVm vm₁, locs, cells, slots⟩ { g with stack := rest } (.invokevirtual index) mk (Value.ref b :: argsL).toArray X₁ hg hsize hdg hW (X₁.named hnamed) (hpre vm₁ X₁.warmed) with ⟨v, B, X', hpost, hsteps⟩ | ⟨q, B, X', hpost, hsteps⟩
  · exact Or.inl ⟨v, vm₁, B, X₁.warmed, X', hpost, fun target h => hstep₁ _ fun acts => by rw [doInvoke_state]; exact hsteps.trans h⟩
  · exact Or.inr ⟨q, vm₁, B, X₁.warmed, X', hpost, hstep₁ _ fun acts => by rw [doInvoke_state]; exact hsteps⟩
theorem vx_callSX (X : Stand p l e R s m args below meth c T locs cells slots) (hexec : p.tables.exec = Jvm.exec) {own : String} {index : Nat} {y : MethodName} {bytes : ByteArray} {maxL : Nat} {ret : Option FieldType} {hh : List (Nat × Nat × Nat × Nat)}
    (hown : s.vm.findClass own = some m.cls) (hlink : (Cond.methodLink own index y).before args s = true) (hstat : (Cond.static y).before args s = true) (hinit : (Cond.initialized y.cls).before args s = true)
    (hcode : (Cond.codeWith y bytes maxL ret hh).before args s = true) (hy : y.cls ≠ "java/lang/invoke/MethodHandle" ∧ y.cls ≠ "java/lang/invoke/VarHandle")
    {W9 : Nat} {Pre : Pt → Array Value → Prop} {Post : Pt → Array Value → Option Value → Pt → Prop} {PostX : Pt → Array Value → Addr → Pt → Prop} (hK : vx_Back l R p e below s args y 3 W9 Pre Post PostX)
    {g : JFrame} (hg : g.method = m) (hsize : g.locals.size = c.maxLocals) {argsL rest : List Value} (hlen : ∀ sig, parseMethodDescriptor y.desc = some sig → argsL.length = sig.parameters.length)
    (hstack : g.stack = argsL.reverse ++ rest) (hW : 2 * g.monitorRoom + (rest.map fun v => v.category).sum ≤ W9) (hdg : decode c.code g.pc = .ok (.invokestatic index, 3))
    (hpre : ∀ vm₁, s.WarmedH vm₁ → Pre ⟨T.setVm vm₁, locs, cells, slots⟩ argsL.toArray) :
    (∃ (v : Option Value) (vm₁ : Vm) (B : Pt), s.WarmedH vm₁ ∧ Stand p l e R s m args below meth c B.U B.locs B.cells B.slots ∧ Post ⟨T.setVm vm₁, locs, cells, slots⟩ argsL.toArray v B ∧
      ∀ target, Steps p.tables e below (B.U.setTop { g with pc := g.pc + 3, stack := v.toList ++ rest }) target → Steps p.tables e below (T.setTop g) target) ∨
    (∃ (q : Addr) (vm₁ : Vm) (B : Pt), s.WarmedH vm₁ ∧ Stand p l e R s m args below meth c B.U B.locs B.cells B.slots ∧ PostX ⟨T.setVm vm₁, locs, cells, slots⟩ argsL.toArray q B ∧
      Steps p.tables e below (T.setTop g) ((B.U.setTop { g with stack := rest }).pushFrame (.throwing q))) := by
  obtain ⟨mk, methM, cM, hnamed, hmethM, -, -, -, -, -, -, hsigM⟩ := Cond.codeWith_spec hcode
  have hstatic : methM.isStatic = true := Cond.static_spec hnamed hmethM hstat
  obtain ⟨kP, hkP, -⟩ := className_of_methodNamed hnamed
  have hinitP : kP.init = .initialized := Cond.initialized_spec (findClass_of_methodNamed hnamed) hkP hinit
  obtain ⟨vm₁, X₁, hstep₁⟩ := X.invokestatic hexec hown hlink hnamed hmethM hstatic hkP hinitP hy (g := g) hg (argsL := argsL) (rest := rest) (hlen _ hsigM) hstack hdg
  rcases hK m meth c ⟨T.setVm vm₁, locs, cells, slots⟩ { g with stack := rest } (.invokestatic index) mk argsL.toArray X₁ hg hsize hdg hW (X₁.named hnamed) (hpre vm₁ X₁.warmed) with ⟨v, B, X', hpost, hsteps⟩ | ⟨q, B, X', hpost, hsteps⟩
  · exact Or.inl ⟨v, vm₁, B, X₁.warmed, X', hpost, fun target h => hstep₁ _ fun acts => by rw [doInvoke_state]; exact hsteps.trans h⟩
  · exact Or.inr ⟨q, vm₁, B, X₁.warmed, X', hpost, hstep₁ _ fun acts => by rw [doInvoke_state]; exact hsteps⟩
theorem vx_callVW (X : Stand p l e R s m args below meth c T locs cells slots) (hexec : p.tables.exec = Jvm.exec) {own C : String} {index : Nat} {y : MethodName} {bytes : ByteArray} {maxL : Nat} {ret : Option FieldType} {hh : List (Nat × Nat × Nat × Nat)}
    (hown : s.vm.findClass own = some m.cls) (hlink : (Cond.methodLink own index y).before args s = true) (hinst : (Cond.instanceMethod y).before args s = true) (hsel : (Cond.selects C y y).before args s = true)
    (hcode : (Cond.codeWith y bytes maxL ret hh).before args s = true) (hy : y.cls ≠ "java/lang/invoke/MethodHandle" ∧ y.cls ≠ "java/lang/invoke/VarHandle")
    {W9 : Nat} {Pre : Pt → Array Value → Prop} {Post : Pt → Array Value → Option Value → Pt → Prop} (hK : Back l R p e below s args y 3 W9 Pre Post)
    {b : Addr} {cellB : Cell} (hcell : T.heap[b]? = some cellB) (hobj : cellB.vm.isStatics = false) (hcls : s.vm.findClass C = some cellB.cls)
    {g : JFrame} (hg : g.method = m) (hsize : g.locals.size = c.maxLocals) {argsL rest : List Value} (hlen : ∀ sig, parseMethodDescriptor y.desc = some sig → argsL.length = sig.parameters.length)
    (hstack : g.stack = argsL.reverse ++ .ref b :: rest) (hW : 2 * g.monitorRoom + (rest.map fun v => v.category).sum ≤ W9) (hdg : decode c.code g.pc = .ok (.invokevirtual index, 3))
    (hpre : ∀ vm₁, s.WarmedH vm₁ → Pre ⟨T.setVm vm₁, locs, cells, slots⟩ (Value.ref b :: argsL).toArray) :
    ∃ (v : Option Value) (vm₁ : Vm) (B : Pt), s.WarmedH vm₁ ∧ Stand p l e R s m args below meth c B.U B.locs B.cells B.slots ∧ Post ⟨T.setVm vm₁, locs, cells, slots⟩ (Value.ref b :: argsL).toArray v B ∧
      ∀ target, Steps p.tables e below (B.U.setTop { g with pc := g.pc + 3, stack := v.toList ++ rest }) target → Steps p.tables e below (T.setTop g) target := by
  obtain ⟨mk, methM, hnamed, hmethM, hstM, habM⟩ := Cond.instanceMethod_spec hinst
  obtain ⟨m8, methM', cM, hn8, hmethM', -, -, -, -, -, -, hsigM⟩ := Cond.codeWith_spec hcode
  cases Option.some.inj (hn8.symm.trans hnamed)
  cases hmethM.symm.trans hmethM'
  obtain ⟨c2, r2, m2, q1, q2, q3, q4, kP, hkP, hkPi⟩ := Cond.selects_spec hsel
  cases hcls.symm.trans q1
  cases (State.methodFound?_of_named hnamed hy).symm.trans q2
  cases hnamed.symm.trans q3
  have hselP : selectMethod e.platform s.vm cellB.cls mk = .method mk := by rw [Launch.admits_selectMethod X.admits]; exact q4
  obtain ⟨vm₁, X₁, hstep₁⟩ := X.invokevirtual hexec hown hlink hnamed hmethM hstM hkP hkPi hy (a := b) (cell := cellB) hcell
    (fun z h => by rw [h] at hobj; cases hobj) hselP hmethM habM hkP hkPi (g := g) hg (argsL := argsL) (rest := rest) (hlen _ hsigM) hstack hdg
  obtain ⟨v, B, X', hpost, hsteps⟩ := hK m meth c ⟨T.setVm vm₁, locs, cells, slots⟩ { g with stack := rest } (.invokevirtual index) mk (Value.ref b :: argsL).toArray X₁ hg hsize hdg hW (X₁.named hnamed) (hpre vm₁ X₁.warmed)
  exact ⟨v, vm₁, B, X₁.warmed, X', hpost, fun target h => hstep₁ _ fun acts => by rw [doInvoke_state]; exact hsteps.trans h⟩
abbrev vx_CVW (R : Room) (s : State) (args : Array Value) (own C : String) (index : Nat) (y : MethodName) (bytes : ByteArray) (maxL : Nat) (ret : Option FieldType) (hh : List (Nat × Nat × Nat × Nat)) (ws : List Cond) (rm : Room) (mc ms n : Nat) : Prop :=
  (rm.cells = mc ∧ rm.slots = ms ∧ rm.frames + 1 ≤ R.frames ∧ 8 + (maxL + 11) + rm.locals ≤ R.locals ∧ (∀ w ∈ ws, ∀ (a' : Array Value) (U : State), s.WarmedH U.vm → w.before a' U = true) ∧ Cond.codeWith y bytes maxL ret hh ∈ ws) ∧
  (Cond.codeWith y bytes maxL ret hh).before args s = true ∧ (Cond.initialized y.cls).before args s = true ∧ (y.cls ≠ "java/lang/invoke/MethodHandle" ∧ y.cls ≠ "java/lang/invoke/VarHandle") ∧
  (∀ sig, parseMethodDescriptor y.desc = some sig → n = sig.parameters.length) ∧ (Cond.methodLink own index y).before args s = true ∧ (Cond.instanceMethod y).before args s = true ∧ (Cond.selects C y y).before args s = true
theorem vx_cwVW {own C : String} {index maxL mc ms : Nat} {y : MethodName} {bytes : ByteArray} {ret : Option FieldType} {hh : List (Nat × Nat × Nat × Nat)} {Ts ws ws' : List Cond} {rm : Room} (n : Nat) (ht : ∀ w ∈ Ts, w.before args s = true) (hT : GoodIn Ts (wsV own index C y ws)) (hw : ws = Cond.codeWith y bytes maxL ret hh :: ws') (hrc : rm.cells = mc) (hrs : rm.slots = ms)
    (hd : y.cls = C ∧ y.cls ≠ "java/lang/invoke/MethodHandle" ∧ y.cls ≠ "java/lang/invoke/VarHandle" ∧ (parseMethodDescriptor y.desc).map (fun d => d.parameters.length) = some n) (hR : rm.frames + 1 ≤ R.frames ∧ 8 + (maxL + 11) + rm.locals ≤ R.locals) :
    vx_CVW R s args own C index y bytes maxL ret hh ws rm mc ms n := by
  obtain ⟨hC, hd⟩ := hd
  subst hC
  have ok : ∀ w ∈ wsV own index y.cls y ws, w.before args s = true := fun w h => ht w (hT w h).1
  have hG : GoodIn Ts ws := fun w h => hT w (by unfold wsV; exact List.mem_append_right _ h)
  have hc : Cond.codeWith y bytes maxL ret hh ∈ ws := by rw [hw]; exact List.mem_cons_self
  refine ⟨⟨hrc, hrs, hR.1, hR.2, pay_in ht hG, hc⟩, ht _ (hG _ hc).1, ok _ (by simp [wsV]), ⟨hd.1, hd.2.1⟩, fun sig h => ?_, ok _ (by simp [wsV]), ok _ (by simp [wsV]), ok _ (by simp [wsV])⟩
  have h2 := hd.2.2
  rw [h] at h2
  exact (Option.some.inj h2).symm
theorem vx_runVW {y : MethodName} {bytes cc : ByteArray} {maxL nL mc ms n index : Nat} {ret : Option FieldType} {hh : List (Nat × Nat × Nat × Nat)} {ws : List Cond} {rm : Room} {Pc : Array Value → State → Prop} {Qc : Array Value → State → Outcome → State → Prop} {free : Addr → Prop} {Ts : List Cond} {own C : String} {b : Addr} {As rest : List Value} {g : JFrame}
    (S : CallFix p m c cc nL s args Ts own) (hM : Met l y ws rm Pc Qc mc ms free) (cw : vx_CVW R s args own C index y bytes maxL ret hh ws rm mc ms n) (hp : PreV s H C b Pc As)
    (hg : g.method = m) (hn : As.length = n) (hsize : g.locals.size = nL) (hstack : g.stack = As.reverse ++ .ref b :: rest) (hW : 2 * g.monitorRoom + (rest.map fun v => v.category).sum ≤ 8) (hdg : decode cc g.pc = .ok (.invokevirtual index, 3)) (hf : cells + mc ≤ R.cells ∧ slots + ms ≤ R.slots) :
    va_Run p l e R s m args below meth c H locs cells slots mc ms g rest (Qc (Value.ref b :: As).toArray) free := by
  obtain ⟨⟨hrc, hrs, hfr, hlo, hws, hcw⟩, hcode, hini, hy, hlen, hl, hin, hse⟩ := cw
  have hK : Back l R p e below s args y 3 8 (PreOf R mc ms Pc) (PostOf Qc mc ms free) := va_backW (hh := hh) (bytes := bytes) (maxL := maxL) (ret := ret) hM hp.1 hrc hrs hfr hlo hws hcw (fun a' U hW => word_at hW (Or.inl (by first | rfl | simp [Cond.onTables, Cond.keeps, Cond.steady])) hini)
  obtain ⟨hx, hb, hml, ho, -⟩ := S
  obtain ⟨-, ⟨cellB, hcB, hoB, hclB⟩, hPc⟩ := hp
  intro T hT X
  obtain ⟨v, vm₁, ⟨U', l2, c2, s2⟩, hW₁, X', ⟨g', mk, t, L, e1, e2, hq, h1, hL, h2, h3⟩, st⟩ := vx_callVW X hx (C := C) (hh := hh) (bytes := bytes) (maxL := maxL) (ret := ret) ho hl hin hse hcode hy hK (by rw [hT]; exact hcB) hoB hclB hg (hsize.trans hml.symm) (argsL := As) (rest := rest) (fun sig h => hn.trans (hlen sig h)) hstack hW (by rw [hb]; exact hdg)
    (fun vm₁ hW₁ => ⟨hf.1, hf.2, hPc (T.setVm vm₁) hT hW₁⟩)
  dsimp only [Pt.U, Pt.locs, Pt.cells, Pt.slots] at X' e1 e2 h1 h2 h3 st
  subst h1; subst h2; subst h3
  exact ⟨v, (T.setVm vm₁).calling g' mk (Value.ref b :: As).toArray, t, U', L, hT, X', hL, e1, e2, hq, st⟩
section
variable {y : MethodName} {bytes cc : ByteArray} {maxL nL mc ms n index : Nat} {ret : Option FieldType} {ws : List Cond} {rm : Room} {Pc : Array Value → State → Prop} {Qc : Array Value → State → Outcome → State → Prop} {XC : String → State → State → Prop} {free : Addr → Prop} {Ts : List Cond} {own C : String} {b : Addr} {As rest : List Value} {g : JFrame}
theorem vx_runVX {hh : List (Nat × Nat × Nat × Nat)} (S : CallFix p m c cc nL s args Ts own) (hM : vx_Met l y ws rm Pc Qc XC mc ms free) (cw : vx_CVW R s args own C index y bytes maxL ret hh ws rm mc ms n) (hp : PreV s H C b Pc As)
    (hg : g.method = m) (hn : As.length = n) (hsize : g.locals.size = nL) (hstack : g.stack = As.reverse ++ .ref b :: rest) (hW : 2 * g.monitorRoom + (rest.map fun v => v.category).sum ≤ 8) (hdg : decode cc g.pc = .ok (.invokevirtual index, 3)) (hf : cells + mc ≤ R.cells ∧ slots + ms ≤ R.slots) :
    vx_Run p l e R s m args below meth c H locs cells slots mc ms g rest (Qc (Value.ref b :: As).toArray) XC free := by
  obtain ⟨⟨hrc, hrs, hfr, hlo, hws, hcw⟩, hcode, hini, hy, hlen, hl, hin, hse⟩ := cw
  have hK : vx_Back l R p e below s args y 3 8 (PreOf R mc ms Pc) (PostOf Qc mc ms free) (vx_Post XC mc ms free) := vx_backW (hh := hh) (bytes := bytes) (maxL := maxL) (ret := ret) hM hp.1 hrc hrs hfr hlo hws hcw (fun a' U hW => word_at hW (Or.inl (by first | rfl | simp [Cond.onTables, Cond.keeps, Cond.steady])) hini)
  obtain ⟨hx, hb, hml, ho, -⟩ := S
  obtain ⟨-, ⟨cellB, hcB, hoB, hclB⟩, hPc⟩ := hp
  intro T hT X
  rcases vx_callVX X hx (C := C) (hh := hh) (bytes := bytes) (maxL := maxL) (ret := ret) ho hl hin hse hcode hy hK (by rw [hT]; exact hcB) hoB hclB hg (hsize.trans hml.symm) (argsL := As) (rest := rest) (fun sig h => hn.trans (hlen sig h)) hstack hW (by rw [hb]; exact hdg)
    (fun vm₁ hW₁ => ⟨hf.1, hf.2, hPc (T.setVm vm₁) hT hW₁⟩) with ⟨v, vm₁, ⟨U', l2, c2, s2⟩, hW₁, X', ⟨g', mk, t, L, e1, e2, hq, h1, hL, h2, h3⟩, st⟩ | ⟨q, vm₁, ⟨U', l2, c2, s2⟩, hW₁, X', ⟨g', mk, t, L, E, ce, e1, e2, hq, hce, hcv, hcl, h1, hL, h2, h3⟩, st⟩
  · dsimp only [Pt.U, Pt.locs, Pt.cells, Pt.slots] at X' e1 e2 h1 h2 h3 st
    subst h1; subst h2; subst h3
    exact Or.inl ⟨v, (T.setVm vm₁).calling g' mk (Value.ref b :: As).toArray, t, U', L, hT, X', hL, e1, e2, hq, st⟩
  · dsimp only [Pt.U, Pt.locs, Pt.cells, Pt.slots] at X' e1 e2 h1 h2 h3 st hcl
    subst h1; subst h2; subst h3
    exact Or.inr ⟨q, (T.setVm vm₁).calling g' mk (Value.ref b :: As).toArray, t, U', L, E, ce, hT, X', hL, e1, e2, hq, hce, hcv, vx_cls hW₁ hcl, st⟩
theorem vx_runSX {hh : List (Nat × Nat × Nat × Nat)} (S : CallFix p m c cc nL s args Ts own) (hM : vx_Met l y ws rm Pc Qc XC mc ms free) (cw : vx_CSW R s args own index y bytes maxL ret hh ws rm mc ms n) (hp : PreS s H Pc As)
    (hg : g.method = m) (hn : As.length = n) (hsize : g.locals.size = nL) (hstack : g.stack = As.reverse ++ rest) (hW : 2 * g.monitorRoom + (rest.map fun v => v.category).sum ≤ 8) (hdg : decode cc g.pc = .ok (.invokestatic index, 3)) (hf : cells + mc ≤ R.cells ∧ slots + ms ≤ R.slots) :
    vx_Run p l e R s m args below meth c H locs cells slots mc ms g rest (Qc As.toArray) XC free := by
  obtain ⟨⟨hrc, hrs, hfr, hlo, hws, hcw⟩, hcode, hini, hy, hlen, hl, hstt⟩ := cw
  have hK : vx_Back l R p e below s args y 3 8 (PreOf R mc ms Pc) (PostOf Qc mc ms free) (vx_Post XC mc ms free) := vx_backW (hh := hh) (bytes := bytes) (maxL := maxL) (ret := ret) hM hp.1 hrc hrs hfr hlo hws hcw (fun a' U hW => word_at hW (Or.inl (by first | rfl | simp [Cond.onTables, Cond.keeps, Cond.steady])) hini)
  obtain ⟨hx, hb, hml, ho, -⟩ := S
  intro T hT X
  rcases vx_callSX X hx (hh := hh) (bytes := bytes) (maxL := maxL) (ret := ret) ho hl hstt hini hcode hy hK hg (hsize.trans hml.symm) (argsL := As) (rest := rest) (fun sig h => hn.trans (hlen sig h)) hstack hW (by rw [hb]; exact hdg)
    (fun vm₁ hW₁ => ⟨hf.1, hf.2, hp.2 (T.setVm vm₁) hT hW₁⟩) with ⟨v, vm₁, ⟨U', l2, c2, s2⟩, hW₁, X', ⟨g', mk, t, L, e1, e2, hq, h1, hL, h2, h3⟩, st⟩ | ⟨q, vm₁, ⟨U', l2, c2, s2⟩, hW₁, X', ⟨g', mk, t, L, E, ce, e1, e2, hq, hce, hcv, hcl, h1, hL, h2, h3⟩, st⟩
  · dsimp only [Pt.U, Pt.locs, Pt.cells, Pt.slots] at X' e1 e2 h1 h2 h3 st
    subst h1; subst h2; subst h3
    exact Or.inl ⟨v, (T.setVm vm₁).calling g' mk As.toArray, t, U', L, hT, X', hL, e1, e2, hq, st⟩
  · dsimp only [Pt.U, Pt.locs, Pt.cells, Pt.slots] at X' e1 e2 h1 h2 h3 st hcl
    subst h1; subst h2; subst h3
    exact Or.inr ⟨q, (T.setVm vm₁).calling g' mk As.toArray, t, U', L, E, ce, hT, X', hL, e1, e2, hq, hce, hcv, vx_cls hW₁ hcl, st⟩
end
end VXH
theorem vx_ofWH {l : Launch} {y : MethodName} {ws ws' : List Cond} {rm : Room} {Pc : Array Value → State → Prop} {Qc : Array Value → State → Outcome → State → Prop} {XC : String → State → State → Prop} {mc ms : Nat} {free : Addr → Prop} {cc : ByteArray} {maxL : Nat} {ret : Option FieldType} {hh : List (Nat × Nat × Nat × Nat)}
    (hy : plainName y.cls = true) (hw : ws = Cond.codeWith y cc maxL ret hh :: ws')
    (body : ∀ p e s m args below meth c s₁, BodyLoose p l y (headSpec ws rm) cc maxL ret e s m args below meth c s₁ → c.maxLocals = maxL → Pc args s →
      W p l e (headSpec ws rm).room s m args below meth c s.heap [] 0 0 (vx_MQ below Qc XC args s mc ms free) (entryFrame m args maxL)) : vx_Met l y ws rm Pc Qc XC mc ms free := by
  refine MetFree.of_bodyS (code := cc) (maxLocals := maxL) (ret := ret) hy ?_ ?_
  · intro args s m h hn
    obtain ⟨m9, meth, c, hn9, h1, h2, h3, h4, -, h5, h6, -⟩ := Cond.codeWith_spec (atoms_spec (ws := ws) h _ (by rw [hw]; exact List.mem_cons_self))
    cases hn.symm.trans hn9
    exact ⟨meth, c, h1, h2, h3, h4, h5, h6⟩
  · intro p e s m args below meth c s₁ B hml hP _
    have hh0 : s₁.heap = s.heap := by rw [B.state]; rfl
    obtain ⟨t, a1, o, b1, b2, b3⟩ := body p e s m args below meth c s₁ B hml hP s₁ hh0 (Stand.of_body B)
    exact ⟨t, o, a1, b1, b2, b3⟩
/-! ===== END ===== -/
end
section
def RX0 : String := "DarnEggs$Book"
def TX0 : u_T := fun k => match k with
  | 0 => ("DarnEggs$Book", "lines", "I", false)
  | 1 => ("DarnEggs$Book", "holes", "[I", true)
  | 2 => ("DarnEggs$Book", "left", "[I", true)
  | 3 => ("DarnEggs$Book", "listed", "I", false)
  | 4 => ("DarnEggs$Book", "fitting", "[Z", true)
  | 5 => ("DarnEggs$Book", "tally", "[I", true)
  | 6 => ("DarnEggs$Book", "pairs", "I", false)
  | 7 => ("DarnEggs$Book", "lookHole", "I", false)
  | _ => ("DarnEggs$Book", "lookLeft", "I", false)
def tyX0 : Nat → FieldType := fun k => match k with
  | 0 => .int
  | 1 => .array .int
  | 2 => .array .int
  | 3 => .int
  | 4 => .array .boolean
  | 5 => .array .int
  | 6 => .int
  | 7 => .int
  | _ => .int
theorem nmX0 : ∀ a, a < 9 → ∀ b, b < 9 → a ≠ b → (TX0 a).2.1 ≠ (TX0 b).2.1 := by decide +kernel
theorem tyX0_ok : ∀ k, k < 9 → parseFieldDescriptor (TX0 k).2.2.1 = some (tyX0 k) := by decide +kernel
abbrev cX0_init : ByteArray := prog_2_method_1_code
def yX0_init : MethodName := ⟨RX0, "<init>", "()V"⟩
abbrev cX0_forget : ByteArray := prog_2_method_2_code
def yX0_forget : MethodName := ⟨RX0, "forget", "()V"⟩
abbrev cX0_read : ByteArray := prog_2_method_3_code
def yX0_read : MethodName := ⟨RX0, "read", "(LDarnEggs$Tape;I)Z"⟩
abbrev cX0_readLine : ByteArray := prog_2_method_4_code
def yX0_readLine : MethodName := ⟨RX0, "readLine", "(LDarnEggs$Tape;I)Z"⟩
abbrev cX0_findPairs : ByteArray := prog_2_method_5_code
def yX0_findPairs : MethodName := ⟨RX0, "findPairs", "(LDarnEggs$State;LDarnEggs$Village;LDarnEggs$Law;)V"⟩
abbrev cX0_isFit : ByteArray := prog_2_method_6_code
def yX0_isFit : MethodName := ⟨RX0, "isFit", "(LDarnEggs$State;LDarnEggs$Village;LDarnEggs$Law;II)Z"⟩
abbrev cX0_firstPair : ByteArray := prog_2_method_7_code
def yX0_firstPair : MethodName := ⟨RX0, "firstPair", "()I"⟩
abbrev cX0_findLook : ByteArray := prog_2_method_8_code
def yX0_findLook : MethodName := ⟨RX0, "findLook", "(LDarnEggs$State;LDarnEggs$Village;LDarnEggs$Law;)V"⟩
abbrev cX0_mostLeftBy : ByteArray := prog_2_method_9_code
def yX0_mostLeftBy : MethodName := ⟨RX0, "mostLeftBy", "(LDarnEggs$State;LDarnEggs$Village;LDarnEggs$Law;I)I"⟩
def RX1 : String := "DarnEggs$Giving"
def TX1 : u_T := fun k => match k with
  | 0 => ("DarnEggs$Giving", "gains", "[I", true)
  | _ => ("DarnEggs$Giving", "most", "[I", true)
def tyX1 : Nat → FieldType := fun k => match k with
  | 0 => .array .int
  | _ => .array .int
theorem nmX1 : ∀ a, a < 2 → ∀ b, b < 2 → a ≠ b → (TX1 a).2.1 ≠ (TX1 b).2.1 := by decide +kernel
theorem tyX1_ok : ∀ k, k < 2 → parseFieldDescriptor (TX1 k).2.2.1 = some (tyX1 k) := by decide +kernel
abbrev cX1_init : ByteArray := prog_3_method_1_code
def yX1_init : MethodName := ⟨RX1, "<init>", "()V"⟩
abbrev cX1_settle : ByteArray := prog_3_method_2_code
def yX1_settle : MethodName := ⟨RX1, "settle", "(LDarnEggs$State;LDarnEggs$Village;LDarnEggs$Law;I)V"⟩
abbrev cX1_mostFrom : ByteArray := prog_3_method_3_code
def yX1_mostFrom : MethodName := ⟨RX1, "mostFrom", "(LDarnEggs$State;LDarnEggs$Village;II)I"⟩
abbrev cX1_takenBy : ByteArray := prog_3_method_4_code
def yX1_takenBy : MethodName := ⟨RX1, "takenBy", "(III)I"⟩
abbrev cX1_taken : ByteArray := prog_3_method_5_code
def yX1_taken : MethodName := ⟨RX1, "taken", "()I"⟩
abbrev cX1_holeOf : ByteArray := prog_3_method_6_code
def yX1_holeOf : MethodName := ⟨RX1, "holeOf", "(LDarnEggs$State;LDarnEggs$Village;I)I"⟩
abbrev cX1_firstHole : ByteArray := prog_3_method_7_code
def yX1_firstHole : MethodName := ⟨RX1, "firstHole", "(LDarnEggs$State;LDarnEggs$Village;II)I"⟩
def RX2 : String := "DarnEggs$Images"
def TX2 : u_T := fun k => match k with
  | 0 => ("DarnEggs$Images", "states", "[LDarnEggs$State;", true)
  | 1 => ("DarnEggs$Images", "pasts", "[LDarnEggs$Past;", true)
  | _ => ("DarnEggs$Images", "size", "I", false)
def tyX2 : Nat → FieldType := fun k => match k with
  | 0 => .array (.object "DarnEggs$State")
  | 1 => .array (.object "DarnEggs$Past")
  | _ => .int
theorem nmX2 : ∀ a, a < 3 → ∀ b, b < 3 → a ≠ b → (TX2 a).2.1 ≠ (TX2 b).2.1 := by decide +kernel
theorem tyX2_ok : ∀ k, k < 3 → parseFieldDescriptor (TX2 k).2.2.1 = some (tyX2 k) := by decide +kernel
abbrev cX2_init : ByteArray := prog_4_method_1_code
def yX2_init : MethodName := ⟨RX2, "<init>", "()V"⟩
abbrev cX2_forget : ByteArray := prog_4_method_2_code
def yX2_forget : MethodName := ⟨RX2, "forget", "()V"⟩
abbrev cX2_push : ByteArray := prog_4_method_3_code
def yX2_push : MethodName := ⟨RX2, "push", "(LDarnEggs$State;LDarnEggs$Past;)I"⟩
abbrev cX2_pop : ByteArray := prog_4_method_4_code
def yX2_pop : MethodName := ⟨RX2, "pop", "(LDarnEggs$State;LDarnEggs$Past;)Z"⟩
def RX3 : String := "DarnEggs$Law"
def TX3 : u_T := fun k => match k with
  | 0 => ("DarnEggs$Law", "code", "[I", true)
  | 1 => ("DarnEggs$Law", "size", "I", false)
  | 2 => ("DarnEggs$Law", "facts", "[I", true)
  | _ => ("DarnEggs$Law", "heap", "[I", true)
def tyX3 : Nat → FieldType := fun k => match k with
  | 0 => .array .int
  | 1 => .int
  | 2 => .array .int
  | _ => .array .int
theorem nmX3 : ∀ a, a < 4 → ∀ b, b < 4 → a ≠ b → (TX3 a).2.1 ≠ (TX3 b).2.1 := by decide +kernel
theorem tyX3_ok : ∀ k, k < 4 → parseFieldDescriptor (TX3 k).2.2.1 = some (tyX3 k) := by decide +kernel
abbrev cX3_init : ByteArray := prog_5_method_1_code
def yX3_init : MethodName := ⟨RX3, "<init>", "()V"⟩
abbrev cX3_forget : ByteArray := prog_5_method_2_code
def yX3_forget : MethodName := ⟨RX3, "forget", "()V"⟩
abbrev cX3_read : ByteArray := prog_5_method_3_code
def yX3_read : MethodName := ⟨RX3, "read", "(LDarnEggs$Tape;)Z"⟩
abbrev cX3_readSum : ByteArray := prog_5_method_4_code
def yX3_readSum : MethodName := ⟨RX3, "readSum", "(LDarnEggs$Tape;I)Z"⟩
abbrev cX3_readProduct : ByteArray := prog_5_method_5_code
def yX3_readProduct : MethodName := ⟨RX3, "readProduct", "(LDarnEggs$Tape;I)Z"⟩
abbrev cX3_readUnit : ByteArray := prog_5_method_6_code
def yX3_readUnit : MethodName := ⟨RX3, "readUnit", "(LDarnEggs$Tape;I)Z"⟩
abbrev cX3_readNested : ByteArray := prog_5_method_7_code
def yX3_readNested : MethodName := ⟨RX3, "readNested", "(LDarnEggs$Tape;I)Z"⟩
abbrev cX3_readChoice : ByteArray := prog_5_method_8_code
def yX3_readChoice : MethodName := ⟨RX3, "readChoice", "(LDarnEggs$Tape;II)Z"⟩
abbrev cX3_factOf : ByteArray := prog_5_method_9_code
def yX3_factOf : MethodName := ⟨RX3, "factOf", "(LDarnEggs$Tape;)I"⟩
abbrev cX3_put : ByteArray := prog_5_method_10_code
def yX3_put : MethodName := ⟨RX3, "put", "(I)Z"⟩
abbrev cX3_setThings : ByteArray := prog_5_method_11_code
def yX3_setThings : MethodName := ⟨RX3, "setThings", "(IIII)V"⟩
abbrev cX3_setPlace : ByteArray := prog_5_method_12_code
def yX3_setPlace : MethodName := ⟨RX3, "setPlace", "(IIII)V"⟩
abbrev cX3_mends : ByteArray := prog_5_method_13_code
def yX3_mends : MethodName := ⟨RX3, "mends", "()I"⟩
abbrev cX3_valueOf : ByteArray := prog_5_method_14_code
def yX3_valueOf : MethodName := ⟨RX3, "valueOf", "(III)I"⟩
def RX4 : String := "DarnEggs$Past"
def TX4 : u_T := fun k => match k with
  | 0 => ("DarnEggs$Past", "states", "[LDarnEggs$State;", true)
  | _ => ("DarnEggs$Past", "size", "I", false)
def tyX4 : Nat → FieldType := fun k => match k with
  | 0 => .array (.object "DarnEggs$State")
  | _ => .int
theorem nmX4 : ∀ a, a < 2 → ∀ b, b < 2 → a ≠ b → (TX4 a).2.1 ≠ (TX4 b).2.1 := by decide +kernel
theorem tyX4_ok : ∀ k, k < 2 → parseFieldDescriptor (TX4 k).2.2.1 = some (tyX4 k) := by decide +kernel
abbrev cX4_init : ByteArray := prog_6_method_1_code
def yX4_init : MethodName := ⟨RX4, "<init>", "()V"⟩
abbrev cX4_forget : ByteArray := prog_6_method_2_code
def yX4_forget : MethodName := ⟨RX4, "forget", "()V"⟩
abbrev cX4_isFull : ByteArray := prog_6_method_3_code
def yX4_isFull : MethodName := ⟨RX4, "isFull", "()Z"⟩
abbrev cX4_push : ByteArray := prog_6_method_4_code
def yX4_push : MethodName := ⟨RX4, "push", "(LDarnEggs$State;)V"⟩
abbrev cX4_pop : ByteArray := prog_6_method_5_code
def yX4_pop : MethodName := ⟨RX4, "pop", "(LDarnEggs$State;)Z"⟩
abbrev cX4_copy : ByteArray := prog_6_method_6_code
def yX4_copy : MethodName := ⟨RX4, "copy", "(LDarnEggs$Past;)V"⟩
def RX5 : String := "DarnEggs$Seed"
def TX5 : u_T := fun k => match k with
  | _ => ("DarnEggs$Seed", "seed", "I", false)
def tyX5 : Nat → FieldType := fun k => match k with
  | _ => .int
theorem nmX5 : ∀ a, a < 1 → ∀ b, b < 1 → a ≠ b → (TX5 a).2.1 ≠ (TX5 b).2.1 := by decide +kernel
theorem tyX5_ok : ∀ k, k < 1 → parseFieldDescriptor (TX5 k).2.2.1 = some (tyX5 k) := by decide +kernel
abbrev cX5_init : ByteArray := prog_7_method_1_code
def yX5_init : MethodName := ⟨RX5, "<init>", "()V"⟩
abbrev cX5_draw : ByteArray := prog_7_method_2_code
def yX5_draw : MethodName := ⟨RX5, "draw", "(I)I"⟩
def RX6 : String := "DarnEggs$State"
def TX6 : u_T := fun k => match k with
  | 0 => ("DarnEggs$State", "heels", "[I", true)
  | 1 => ("DarnEggs$State", "hooks", "[I", true)
  | 2 => ("DarnEggs$State", "at", "[I", true)
  | 3 => ("DarnEggs$State", "darns", "[I", true)
  | 4 => ("DarnEggs$State", "wear", "[I", true)
  | 5 => ("DarnEggs$State", "ridge", "[I", true)
  | 6 => ("DarnEggs$State", "darned", "I", false)
  | 7 => ("DarnEggs$State", "day", "I", false)
  | _ => ("DarnEggs$State", "wool", "I", false)
def tyX6 : Nat → FieldType := fun k => match k with
  | 0 => .array .int
  | 1 => .array .int
  | 2 => .array .int
  | 3 => .array .int
  | 4 => .array .int
  | 5 => .array .int
  | 6 => .int
  | 7 => .int
  | _ => .int
theorem nmX6 : ∀ a, a < 9 → ∀ b, b < 9 → a ≠ b → (TX6 a).2.1 ≠ (TX6 b).2.1 := by decide +kernel
theorem tyX6_ok : ∀ k, k < 9 → parseFieldDescriptor (TX6 k).2.2.1 = some (tyX6 k) := by decide +kernel
abbrev cX6_init : ByteArray := prog_8_method_1_code
def yX6_init : MethodName := ⟨RX6, "<init>", "()V"⟩
abbrev cX6_start : ByteArray := prog_8_method_2_code
def yX6_start : MethodName := ⟨RX6, "start", "(LDarnEggs$Village;)V"⟩
abbrev cX6_copy : ByteArray := prog_8_method_3_code
def yX6_copy : MethodName := ⟨RX6, "copy", "(LDarnEggs$State;)V"⟩
abbrev cX6_isHatched : ByteArray := prog_8_method_4_code
def yX6_isHatched : MethodName := ⟨RX6, "isHatched", "(LDarnEggs$Village;I)Z"⟩
abbrev cX6_isHooked : ByteArray := prog_8_method_5_code
def yX6_isHooked : MethodName := ⟨RX6, "isHooked", "(I)Z"⟩
abbrev cX6_darnedToday : ByteArray := prog_8_method_6_code
def yX6_darnedToday : MethodName := ⟨RX6, "darnedToday", "(I)Z"⟩
abbrev cX6_mendBy : ByteArray := prog_8_method_7_code
def yX6_mendBy : MethodName := ⟨RX6, "mendBy", "(LDarnEggs$Village;LDarnEggs$Law;III)I"⟩
abbrev cX6_wearLeft : ByteArray := prog_8_method_8_code
def yX6_wearLeft : MethodName := ⟨RX6, "wearLeft", "(LDarnEggs$Village;LDarnEggs$Law;III)I"⟩
abbrev cX6_canDarn : ByteArray := prog_8_method_9_code
def yX6_canDarn : MethodName := ⟨RX6, "canDarn", "(LDarnEggs$Village;III)Z"⟩
abbrev cX6_darn : ByteArray := prog_8_method_10_code
def yX6_darn : MethodName := ⟨RX6, "darn", "(LDarnEggs$Village;LDarnEggs$Law;III)Z"⟩
abbrev cX6_letOut : ByteArray := prog_8_method_11_code
def yX6_letOut : MethodName := ⟨RX6, "letOut", "(LDarnEggs$Village;II)Z"⟩
abbrev cX6_callIn : ByteArray := prog_8_method_12_code
def yX6_callIn : MethodName := ⟨RX6, "callIn", "(I)Z"⟩
abbrev cX6_unpick : ByteArray := prog_8_method_13_code
def yX6_unpick : MethodName := ⟨RX6, "unpick", "(I)Z"⟩
abbrev cX6_shear : ByteArray := prog_8_method_14_code
def yX6_shear : MethodName := ⟨RX6, "shear", "(I)Z"⟩
abbrev cX6_endDay : ByteArray := prog_8_method_15_code
def yX6_endDay : MethodName := ⟨RX6, "endDay", "(LDarnEggs$Village;)Z"⟩
abbrev cX6_passDay : ByteArray := prog_8_method_16_code
def yX6_passDay : MethodName := ⟨RX6, "passDay", "(LDarnEggs$Village;)V"⟩
abbrev cX6_doItsPart : ByteArray := prog_8_method_17_code
def yX6_doItsPart : MethodName := ⟨RX6, "doItsPart", "(LDarnEggs$Village;II)V"⟩
abbrev cX6_mostWorn : ByteArray := prog_8_method_18_code
def yX6_mostWorn : MethodName := ⟨RX6, "mostWorn", "(LDarnEggs$Village;I)I"⟩
abbrev cX6_mostRidged : ByteArray := prog_8_method_19_code
def yX6_mostRidged : MethodName := ⟨RX6, "mostRidged", "(LDarnEggs$Village;)I"⟩
abbrev cX6_allWear : ByteArray := prog_8_method_20_code
def yX6_allWear : MethodName := ⟨RX6, "allWear", "(LDarnEggs$Village;)I"⟩
abbrev cX6_allRidges : ByteArray := prog_8_method_21_code
def yX6_allRidges : MethodName := ⟨RX6, "allRidges", "(LDarnEggs$Village;)I"⟩
abbrev cX6_wornHoles : ByteArray := prog_8_method_22_code
def yX6_wornHoles : MethodName := ⟨RX6, "wornHoles", "(LDarnEggs$Village;)I"⟩
abbrev cX6_wholeHoles : ByteArray := prog_8_method_23_code
def yX6_wholeHoles : MethodName := ⟨RX6, "wholeHoles", "(LDarnEggs$Village;)I"⟩
abbrev cX6_hatchedEggs : ByteArray := prog_8_method_24_code
def yX6_hatchedEggs : MethodName := ⟨RX6, "hatchedEggs", "(LDarnEggs$Village;)I"⟩
abbrev cX6_eggsOut : ByteArray := prog_8_method_25_code
def yX6_eggsOut : MethodName := ⟨RX6, "eggsOut", "(LDarnEggs$Village;)I"⟩
abbrev cX6_eggsOutAt : ByteArray := prog_8_method_26_code
def yX6_eggsOutAt : MethodName := ⟨RX6, "eggsOutAt", "(LDarnEggs$Village;I)I"⟩
def RX7 : String := "DarnEggs$Steps"
def TX7 : u_T := fun k => match k with
  | 0 => ("DarnEggs$Steps", "done", "I", false)
  | 1 => ("DarnEggs$Steps", "refused", "I", false)
  | 2 => ("DarnEggs$Steps", "size", "I", false)
  | 3 => ("DarnEggs$Steps", "kinds", "[I", true)
  | 4 => ("DarnEggs$Steps", "firsts", "[I", true)
  | 5 => ("DarnEggs$Steps", "seconds", "[I", true)
  | 6 => ("DarnEggs$Steps", "thirds", "[I", true)
  | _ => ("DarnEggs$Steps", "turnsLeft", "[I", true)
def tyX7 : Nat → FieldType := fun k => match k with
  | 0 => .int
  | 1 => .int
  | 2 => .int
  | 3 => .array .int
  | 4 => .array .int
  | 5 => .array .int
  | 6 => .array .int
  | _ => .array .int
theorem nmX7 : ∀ a, a < 8 → ∀ b, b < 8 → a ≠ b → (TX7 a).2.1 ≠ (TX7 b).2.1 := by decide +kernel
theorem tyX7_ok : ∀ k, k < 8 → parseFieldDescriptor (TX7 k).2.2.1 = some (tyX7 k) := by decide +kernel
abbrev cX7_init : ByteArray := prog_9_method_1_code
def yX7_init : MethodName := ⟨RX7, "<init>", "()V"⟩
abbrev cX7_read : ByteArray := prog_9_method_2_code
def yX7_read : MethodName := ⟨RX7, "read", "(LDarnEggs$Tape;LDarnEggs$Village;)Z"⟩
abbrev cX7_readSteps : ByteArray := prog_9_method_3_code
def yX7_readSteps : MethodName := ⟨RX7, "readSteps", "(LDarnEggs$Tape;LDarnEggs$Village;I)Z"⟩
abbrev cX7_readStep : ByteArray := prog_9_method_4_code
def yX7_readStep : MethodName := ⟨RX7, "readStep", "(LDarnEggs$Tape;LDarnEggs$Village;I)Z"⟩
abbrev cX7_kindOf : ByteArray := prog_9_method_5_code
def yX7_kindOf : MethodName := ⟨RX7, "kindOf", "(LDarnEggs$Tape;)I"⟩
abbrev cX7_readAgain : ByteArray := prog_9_method_6_code
def yX7_readAgain : MethodName := ⟨RX7, "readAgain", "(LDarnEggs$Tape;LDarnEggs$Village;II)Z"⟩
abbrev cX7_readInto : ByteArray := prog_9_method_7_code
def yX7_readInto : MethodName := ⟨RX7, "readInto", "(LDarnEggs$Tape;[IIII)Z"⟩
abbrev cX7_put : ByteArray := prog_9_method_8_code
def yX7_put : MethodName := ⟨RX7, "put", "(I)I"⟩
abbrev cX7_run : ByteArray := prog_9_method_9_code
def yX7_run : MethodName := ⟨RX7, "run", "(LDarnEggs$State;LDarnEggs$Village;LDarnEggs$Law;)V"⟩
abbrev cX7_tally : ByteArray := prog_9_method_10_code
def yX7_tally : MethodName := ⟨RX7, "tally", "(Z)V"⟩
abbrev cX7_behindAgain : ByteArray := prog_9_method_11_code
def yX7_behindAgain : MethodName := ⟨RX7, "behindAgain", "(I)I"⟩
abbrev cX7_behindEnd : ByteArray := prog_9_method_12_code
def yX7_behindEnd : MethodName := ⟨RX7, "behindEnd", "(I)I"⟩
abbrev cX7_runOne : ByteArray := prog_9_method_13_code
def yX7_runOne : MethodName := ⟨RX7, "runOne", "(LDarnEggs$State;LDarnEggs$Village;LDarnEggs$Law;I)Z"⟩
def RX8 : String := "DarnEggs$Tape"
def TX8 : u_T := fun k => match k with
  | 0 => ("DarnEggs$Tape", "bytes", "[I", true)
  | 1 => ("DarnEggs$Tape", "size", "I", false)
  | 2 => ("DarnEggs$Tape", "length", "I", false)
  | 3 => ("DarnEggs$Tape", "at", "I", false)
  | 4 => ("DarnEggs$Tape", "start", "I", false)
  | 5 => ("DarnEggs$Tape", "value", "I", false)
  | 6 => ("DarnEggs$Tape", "fault", "I", false)
  | _ => ("DarnEggs$Tape", "faultPlace", "I", false)
def tyX8 : Nat → FieldType := fun k => match k with
  | 0 => .array .int
  | 1 => .int
  | 2 => .int
  | 3 => .int
  | 4 => .int
  | 5 => .int
  | 6 => .int
  | _ => .int
theorem nmX8 : ∀ a, a < 8 → ∀ b, b < 8 → a ≠ b → (TX8 a).2.1 ≠ (TX8 b).2.1 := by decide +kernel
theorem tyX8_ok : ∀ k, k < 8 → parseFieldDescriptor (TX8 k).2.2.1 = some (tyX8 k) := by decide +kernel
abbrev cX8_init : ByteArray := prog_10_method_1_code
def yX8_init : MethodName := ⟨RX8, "<init>", "()V"⟩
abbrev cX8_put : ByteArray := prog_10_method_2_code
def yX8_put : MethodName := ⟨RX8, "put", "(I)V"⟩
abbrev cX8_take : ByteArray := prog_10_method_3_code
def yX8_take : MethodName := ⟨RX8, "take", "(I)V"⟩
abbrev cX8_blame : ByteArray := prog_10_method_4_code
def yX8_blame : MethodName := ⟨RX8, "blame", "(II)Z"⟩
abbrev cX8_next : ByteArray := prog_10_method_5_code
def yX8_next : MethodName := ⟨RX8, "next", "()I"⟩
abbrev cX8_isEnded : ByteArray := prog_10_method_6_code
def yX8_isEnded : MethodName := ⟨RX8, "isEnded", "()Z"⟩
abbrev cX8_readSign : ByteArray := prog_10_method_7_code
def yX8_readSign : MethodName := ⟨RX8, "readSign", "(C)Z"⟩
abbrev cX8_readWord : ByteArray := prog_10_method_8_code
def yX8_readWord : MethodName := ⟨RX8, "readWord", "()V"⟩
abbrev cX8_wordIs : ByteArray := prog_10_method_9_code
def yX8_wordIs : MethodName := ⟨RX8, "wordIs", "(Ljava/lang/String;)Z"⟩
abbrev cX8_isAtDigit : ByteArray := prog_10_method_10_code
def yX8_isAtDigit : MethodName := ⟨RX8, "isAtDigit", "()Z"⟩
abbrev cX8_readNumber : ByteArray := prog_10_method_11_code
def yX8_readNumber : MethodName := ⟨RX8, "readNumber", "(II)Z"⟩
def RX9 : String := "DarnEggs$Village"
def TX9 : u_T := fun k => match k with
  | 0 => ("DarnEggs$Village", "eggs", "I", false)
  | 1 => ("DarnEggs$Village", "hands", "I", false)
  | 2 => ("DarnEggs$Village", "holes", "I", false)
  | 3 => ("DarnEggs$Village", "paths", "I", false)
  | 4 => ("DarnEggs$Village", "wool", "I", false)
  | 5 => ("DarnEggs$Village", "moths", "I", false)
  | 6 => ("DarnEggs$Village", "takes", "[I", true)
  | 7 => ("DarnEggs$Village", "anger", "[I", true)
  | 8 => ("DarnEggs$Village", "worn", "[I", true)
  | 9 => ("DarnEggs$Village", "pathFrom", "[I", true)
  | 10 => ("DarnEggs$Village", "pathTo", "[I", true)
  | _ => ("DarnEggs$Village", "near", "[I", true)
def tyX9 : Nat → FieldType := fun k => match k with
  | 0 => .int
  | 1 => .int
  | 2 => .int
  | 3 => .int
  | 4 => .int
  | 5 => .int
  | 6 => .array .int
  | 7 => .array .int
  | 8 => .array .int
  | 9 => .array .int
  | 10 => .array .int
  | _ => .array .int
theorem nmX9 : ∀ a, a < 12 → ∀ b, b < 12 → a ≠ b → (TX9 a).2.1 ≠ (TX9 b).2.1 := by decide +kernel
theorem tyX9_ok : ∀ k, k < 12 → parseFieldDescriptor (TX9 k).2.2.1 = some (tyX9 k) := by decide +kernel
abbrev cX9_init : ByteArray := prog_11_method_1_code
def yX9_init : MethodName := ⟨RX9, "<init>", "()V"⟩
abbrev cX9_clear : ByteArray := prog_11_method_2_code
def yX9_clear : MethodName := ⟨RX9, "clear", "()V"⟩
abbrev cX9_read : ByteArray := prog_11_method_3_code
def yX9_read : MethodName := ⟨RX9, "read", "(LDarnEggs$Tape;)Z"⟩
abbrev cX9_readClause : ByteArray := prog_11_method_4_code
def yX9_readClause : MethodName := ⟨RX9, "readClause", "(LDarnEggs$Tape;Z)Z"⟩
abbrev cX9_kindOf : ByteArray := prog_11_method_5_code
def yX9_kindOf : MethodName := ⟨RX9, "kindOf", "(LDarnEggs$Tape;)I"⟩
abbrev cX9_isFull : ByteArray := prog_11_method_6_code
def yX9_isFull : MethodName := ⟨RX9, "isFull", "(I)Z"⟩
abbrev cX9_readOne : ByteArray := prog_11_method_7_code
def yX9_readOne : MethodName := ⟨RX9, "readOne", "(LDarnEggs$Tape;I)Z"⟩
abbrev cX9_leastOf : ByteArray := prog_11_method_8_code
def yX9_leastOf : MethodName := ⟨RX9, "leastOf", "(I)I"⟩
abbrev cX9_mostOf : ByteArray := prog_11_method_9_code
def yX9_mostOf : MethodName := ⟨RX9, "mostOf", "(I)I"⟩
abbrev cX9_readPath : ByteArray := prog_11_method_10_code
def yX9_readPath : MethodName := ⟨RX9, "readPath", "(LDarnEggs$Tape;)Z"⟩
def RX10 : String := "DarnEggs$Walks"
def TX10 : u_T := fun k => match k with
  | 0 => ("DarnEggs$Walks", "far", "[I", true)
  | 1 => ("DarnEggs$Walks", "queue", "[I", true)
  | _ => ("DarnEggs$Walks", "queued", "I", false)
def tyX10 : Nat → FieldType := fun k => match k with
  | 0 => .array .int
  | 1 => .array .int
  | _ => .int
theorem nmX10 : ∀ a, a < 3 → ∀ b, b < 3 → a ≠ b → (TX10 a).2.1 ≠ (TX10 b).2.1 := by decide +kernel
theorem tyX10_ok : ∀ k, k < 3 → parseFieldDescriptor (TX10 k).2.2.1 = some (tyX10 k) := by decide +kernel
abbrev cX10_init : ByteArray := prog_12_method_1_code
def yX10_init : MethodName := ⟨RX10, "<init>", "()V"⟩
abbrev cX10_roundFrom : ByteArray := prog_12_method_2_code
def yX10_roundFrom : MethodName := ⟨RX10, "roundFrom", "(LDarnEggs$Village;II)I"⟩
abbrev cX10_reach : ByteArray := prog_12_method_3_code
def yX10_reach : MethodName := ⟨RX10, "reach", "(III)V"⟩
abbrev cX10_fewestGuards : ByteArray := prog_12_method_4_code
def yX10_fewestGuards : MethodName := ⟨RX10, "fewestGuards", "(LDarnEggs$Village;I)I"⟩
abbrev cX10_guardedBy : ByteArray := prog_12_method_5_code
def yX10_guardedBy : MethodName := ⟨RX10, "guardedBy", "(LDarnEggs$Village;I)I"⟩
abbrev cX10_sets : ByteArray := prog_12_method_6_code
def yX10_sets : MethodName := ⟨RX10, "sets", "(LDarnEggs$Village;)I"⟩
abbrev cX10_hangingWith : ByteArray := prog_12_method_7_code
def yX10_hangingWith : MethodName := ⟨RX10, "hangingWith", "(LDarnEggs$Village;I)I"⟩
def RX11 : String := "DarnEggs"
def TX11 : u_T := fun k => match k with
  | 0 => ("DarnEggs", "tape", "LDarnEggs$Tape;", true)
  | 1 => ("DarnEggs", "faultPlace", "I", false)
  | 2 => ("DarnEggs", "village", "LDarnEggs$Village;", false)
  | 3 => ("DarnEggs", "spareVillage", "LDarnEggs$Village;", false)
  | 4 => ("DarnEggs", "law", "LDarnEggs$Law;", false)
  | 5 => ("DarnEggs", "spareLaw", "LDarnEggs$Law;", false)
  | 6 => ("DarnEggs", "book", "LDarnEggs$Book;", false)
  | 7 => ("DarnEggs", "spareBook", "LDarnEggs$Book;", false)
  | 8 => ("DarnEggs", "steps", "LDarnEggs$Steps;", true)
  | 9 => ("DarnEggs", "now", "LDarnEggs$State;", true)
  | 10 => ("DarnEggs", "asked", "LDarnEggs$State;", true)
  | 11 => ("DarnEggs", "seeds", "LDarnEggs$Seed;", true)
  | 12 => ("DarnEggs", "past", "LDarnEggs$Past;", true)
  | 13 => ("DarnEggs", "images", "LDarnEggs$Images;", true)
  | 14 => ("DarnEggs", "giving", "LDarnEggs$Giving;", true)
  | 15 => ("DarnEggs", "walks", "LDarnEggs$Walks;", true)
  | 16 => ("DarnEggs", "refusedSteps", "I", false)
  | 17 => ("DarnEggs", "refusedElements", "I", false)
  | _ => ("DarnEggs", "refusedArguments", "I", false)
def tyX11 : Nat → FieldType := fun k => match k with
  | 0 => .object "DarnEggs$Tape"
  | 1 => .int
  | 2 => .object "DarnEggs$Village"
  | 3 => .object "DarnEggs$Village"
  | 4 => .object "DarnEggs$Law"
  | 5 => .object "DarnEggs$Law"
  | 6 => .object "DarnEggs$Book"
  | 7 => .object "DarnEggs$Book"
  | 8 => .object "DarnEggs$Steps"
  | 9 => .object "DarnEggs$State"
  | 10 => .object "DarnEggs$State"
  | 11 => .object "DarnEggs$Seed"
  | 12 => .object "DarnEggs$Past"
  | 13 => .object "DarnEggs$Images"
  | 14 => .object "DarnEggs$Giving"
  | 15 => .object "DarnEggs$Walks"
  | 16 => .int
  | 17 => .int
  | _ => .int
theorem nmX11 : ∀ a, a < 19 → ∀ b, b < 19 → a ≠ b → (TX11 a).2.1 ≠ (TX11 b).2.1 := by decide +kernel
theorem tyX11_ok : ∀ k, k < 19 → parseFieldDescriptor (TX11 k).2.2.1 = some (tyX11 k) := by decide +kernel
abbrev cX11_init : ByteArray := prog_1_method_1_code
def yX11_init : MethodName := ⟨RX11, "<init>", "()V"⟩
abbrev cX11_feed : ByteArray := prog_1_method_2_code
def yX11_feed : MethodName := ⟨RX11, "feed", "(IIIII)I"⟩
abbrev cX11_village : ByteArray := prog_1_method_3_code
def yX11_village : MethodName := ⟨RX11, "village", "(I)I"⟩
abbrev cX11_law : ByteArray := prog_1_method_4_code
def yX11_law : MethodName := ⟨RX11, "law", "(I)I"⟩
abbrev cX11_work : ByteArray := prog_1_method_5_code
def yX11_work : MethodName := ⟨RX11, "work", "(I)I"⟩
abbrev cX11_book : ByteArray := prog_1_method_6_code
def yX11_book : MethodName := ⟨RX11, "book", "(I)I"⟩
abbrev cX11_fault : ByteArray := prog_1_method_7_code
def yX11_fault : MethodName := ⟨RX11, "fault", "()I"⟩
abbrev cX11_undo : ByteArray := prog_1_method_8_code
def yX11_undo : MethodName := ⟨RX11, "undo", "()I"⟩
abbrev cX11_told : ByteArray := prog_1_method_9_code
def yX11_told : MethodName := ⟨RX11, "told", "(I)I"⟩
abbrev cX11_egg : ByteArray := prog_1_method_10_code
def yX11_egg : MethodName := ⟨RX11, "egg", "(II)I"⟩
abbrev cX11_hand : ByteArray := prog_1_method_11_code
def yX11_hand : MethodName := ⟨RX11, "hand", "(II)I"⟩
abbrev cX11_hole : ByteArray := prog_1_method_12_code
def yX11_hole : MethodName := ⟨RX11, "hole", "(II)I"⟩
abbrev cX11_path : ByteArray := prog_1_method_13_code
def yX11_path : MethodName := ⟨RX11, "path", "(II)I"⟩
abbrev cX11_mend : ByteArray := prog_1_method_14_code
def yX11_mend : MethodName := ⟨RX11, "mend", "(III)I"⟩
abbrev cX11_would : ByteArray := prog_1_method_15_code
def yX11_would : MethodName := ⟨RX11, "would", "(IIIIIIII)I"⟩
abbrev cX11_can : ByteArray := prog_1_method_16_code
def yX11_can : MethodName := ⟨RX11, "can", "(III)Z"⟩
abbrev cX11_ahead : ByteArray := prog_1_method_17_code
def yX11_ahead : MethodName := ⟨RX11, "ahead", "(II)I"⟩
abbrev cX11_whole : ByteArray := prog_1_method_18_code
def yX11_whole : MethodName := ⟨RX11, "whole", "(I)I"⟩
abbrev cX11_best : ByteArray := prog_1_method_19_code
def yX11_best : MethodName := ⟨RX11, "best", "(I)I"⟩
abbrev cX11_given : ByteArray := prog_1_method_20_code
def yX11_given : MethodName := ⟨RX11, "given", "(II)I"⟩
abbrev cX11_round : ByteArray := prog_1_method_21_code
def yX11_round : MethodName := ⟨RX11, "round", "(I)I"⟩
abbrev cX11_guards : ByteArray := prog_1_method_22_code
def yX11_guards : MethodName := ⟨RX11, "guards", "()I"⟩
abbrev cX11_way : ByteArray := prog_1_method_23_code
def yX11_way : MethodName := ⟨RX11, "way", "(II)I"⟩
abbrev cX11_fits : ByteArray := prog_1_method_24_code
def yX11_fits : MethodName := ⟨RX11, "fits", "(I)I"⟩
abbrev cX11_look : ByteArray := prog_1_method_25_code
def yX11_look : MethodName := ⟨RX11, "look", "(I)I"⟩
abbrev cX11_first : ByteArray := prog_1_method_26_code
def yX11_first : MethodName := ⟨RX11, "first", "(III)J"⟩
abbrev cX11_ridge : ByteArray := prog_1_method_27_code
def yX11_ridge : MethodName := ⟨RX11, "ridge", "(III)I"⟩
abbrev cX11_wool : ByteArray := prog_1_method_28_code
def yX11_wool : MethodName := ⟨RX11, "wool", "(III)I"⟩
abbrev cX11_worst : ByteArray := prog_1_method_29_code
def yX11_worst : MethodName := ⟨RX11, "worst", "(I)I"⟩
abbrev cX11_goes : ByteArray := prog_1_method_30_code
def yX11_goes : MethodName := ⟨RX11, "goes", "(I)I"⟩
abbrev cX11_parts : ByteArray := prog_1_method_31_code
def yX11_parts : MethodName := ⟨RX11, "parts", "()I"⟩
abbrev cX11_ridges : ByteArray := prog_1_method_32_code
def yX11_ridges : MethodName := ⟨RX11, "ridges", "(I)I"⟩
abbrev cX11_generation : ByteArray := prog_1_method_33_code
def yX11_generation : MethodName := ⟨RX11, "generation", "(IIII)I"⟩
abbrev cX11_span : ByteArray := prog_1_method_34_code
def yX11_span : MethodName := ⟨RX11, "span", "(IIIII)I"⟩
abbrev cX11_image : ByteArray := prog_1_method_35_code
def yX11_image : MethodName := ⟨RX11, "image", "()I"⟩
abbrev cX11_restore : ByteArray := prog_1_method_36_code
def yX11_restore : MethodName := ⟨RX11, "restore", "()I"⟩
abbrev cX11_status : ByteArray := prog_1_method_37_code
def yX11_status : MethodName := ⟨RX11, "status", "(I)I"⟩
abbrev cX11_count : ByteArray := prog_1_method_38_code
def yX11_count : MethodName := ⟨RX11, "count", "(I)I"⟩
abbrev cX11_takeText : ByteArray := prog_1_method_39_code
def yX11_takeText : MethodName := ⟨RX11, "takeText", "(II)V"⟩
abbrev cX11_faulted : ByteArray := prog_1_method_40_code
def yX11_faulted : MethodName := ⟨RX11, "faulted", "()I"⟩
abbrev cX11_refuseElement : ByteArray := prog_1_method_41_code
def yX11_refuseElement : MethodName := ⟨RX11, "refuseElement", "()I"⟩
abbrev cX11_refuseArgument : ByteArray := prog_1_method_42_code
def yX11_refuseArgument : MethodName := ⟨RX11, "refuseArgument", "()I"⟩
abbrev cX11_needEgg : ByteArray := prog_1_method_43_code
def yX11_needEgg : MethodName := ⟨RX11, "needEgg", "(I)V"⟩
abbrev cX11_needHand : ByteArray := prog_1_method_44_code
def yX11_needHand : MethodName := ⟨RX11, "needHand", "(I)V"⟩
abbrev cX11_needHole : ByteArray := prog_1_method_45_code
def yX11_needHole : MethodName := ⟨RX11, "needHole", "(I)V"⟩
abbrev cX11_needBetween : ByteArray := prog_1_method_46_code
def yX11_needBetween : MethodName := ⟨RX11, "needBetween", "(III)V"⟩
abbrev cX11_restsAt : ByteArray := prog_1_method_47_code
def yX11_restsAt : MethodName := ⟨RX11, "restsAt", "(IIII)Z"⟩
abbrev cX11_hasBy : ByteArray := prog_1_method_48_code
def yX11_hasBy : MethodName := ⟨RX11, "hasBy", "(IIII)I"⟩
abbrev cX11_greatestBound : ByteArray := prog_1_method_49_code
def yX11_greatestBound : MethodName := ⟨RX11, "greatestBound", "(II)I"⟩
abbrev cX11_live : ByteArray := prog_1_method_50_code
def yX11_live : MethodName := ⟨RX11, "live", "(III)V"⟩
abbrev cX11_liveOne : ByteArray := prog_1_method_51_code
def yX11_liveOne : MethodName := ⟨RX11, "liveOne", "(I)V"⟩
def RX12 : String := "DarnEggsModel"
def TX12 : u_T := fun k => match k with
  | 0 => ("DarnEggsModel", "thrown", "I", false)
  | 1 => ("DarnEggsModel", "refused", "[I", true)
  | 2 => ("DarnEggsModel", "taped", "I", false)
  | 3 => ("DarnEggsModel", "size", "I", false)
  | 4 => ("DarnEggsModel", "at", "I", false)
  | 5 => ("DarnEggsModel", "bad", "I", false)
  | 6 => ("DarnEggsModel", "badKind", "I", false)
  | 7 => ("DarnEggsModel", "opens", "I", false)
  | 8 => ("DarnEggsModel", "faultAt", "I", false)
  | 9 => ("DarnEggsModel", "tape", "[I", true)
  | 10 => ("DarnEggsModel", "newEgg", "[I", true)
  | 11 => ("DarnEggsModel", "newAnger", "[I", true)
  | 12 => ("DarnEggsModel", "newWear", "[I", true)
  | 13 => ("DarnEggsModel", "newPath", "[I", true)
  | 14 => ("DarnEggsModel", "takes", "[I", true)
  | 15 => ("DarnEggsModel", "anger", "[I", true)
  | 16 => ("DarnEggsModel", "wearTold", "[I", true)
  | 17 => ("DarnEggsModel", "path", "[I", true)
  | 18 => ("DarnEggsModel", "newEggs", "I", false)
  | 19 => ("DarnEggsModel", "newHands", "I", false)
  | 20 => ("DarnEggsModel", "newHoles", "I", false)
  | 21 => ("DarnEggsModel", "newPaths", "I", false)
  | 22 => ("DarnEggsModel", "newWool", "I", false)
  | 23 => ("DarnEggsModel", "newMoths", "I", false)
  | 24 => ("DarnEggsModel", "eggs", "I", false)
  | 25 => ("DarnEggsModel", "hands", "I", false)
  | 26 => ("DarnEggsModel", "holes", "I", false)
  | 27 => ("DarnEggsModel", "paths", "I", false)
  | 28 => ("DarnEggsModel", "moths", "I", false)
  | 29 => ("DarnEggsModel", "newCode", "[I", true)
  | 30 => ("DarnEggsModel", "newOf", "[I", true)
  | 31 => ("DarnEggsModel", "code", "[I", true)
  | 32 => ("DarnEggsModel", "ofCode", "[I", true)
  | 33 => ("DarnEggsModel", "stack", "[I", true)
  | 34 => ("DarnEggsModel", "newCodes", "I", false)
  | 35 => ("DarnEggsModel", "codes", "I", false)
  | 36 => ("DarnEggsModel", "facts", "[I", true)
  | 37 => ("DarnEggsModel", "newStep", "[I", true)
  | 38 => ("DarnEggsModel", "step", "[I", true)
  | 39 => ("DarnEggsModel", "newSteps", "I", false)
  | 40 => ("DarnEggsModel", "works", "I", false)
  | 41 => ("DarnEggsModel", "refusedSteps", "I", false)
  | 42 => ("DarnEggsModel", "begun", "I", false)
  | 43 => ("DarnEggsModel", "done", "I", false)
  | 44 => ("DarnEggsModel", "refusedNow", "I", false)
  | 45 => ("DarnEggsModel", "now", "[I", true)
  | 46 => ("DarnEggsModel", "s", "[I", true)
  | 47 => ("DarnEggsModel", "past", "[I", true)
  | 48 => ("DarnEggsModel", "newBook", "[I", true)
  | 49 => ("DarnEggsModel", "book", "[I", true)
  | 50 => ("DarnEggsModel", "books", "I", false)
  | 51 => ("DarnEggsModel", "mostOn", "[I", true)
  | 52 => ("DarnEggsModel", "gains", "[I", true)
  | 53 => ("DarnEggsModel", "givenTo", "[I", true)
  | 54 => ("DarnEggsModel", "farTo", "[I", true)
  | 55 => ("DarnEggsModel", "queue", "[I", true)
  | 56 => ("DarnEggsModel", "leftBy", "[I", true)
  | 57 => ("DarnEggsModel", "seedNow", "I", false)
  | 58 => ("DarnEggsModel", "image", "[I", true)
  | _ => ("DarnEggsModel", "images", "I", false)
def tyX12 : Nat → FieldType := fun k => match k with
  | 0 => .int
  | 1 => .array .int
  | 2 => .int
  | 3 => .int
  | 4 => .int
  | 5 => .int
  | 6 => .int
  | 7 => .int
  | 8 => .int
  | 9 => .array .int
  | 10 => .array .int
  | 11 => .array .int
  | 12 => .array .int
  | 13 => .array .int
  | 14 => .array .int
  | 15 => .array .int
  | 16 => .array .int
  | 17 => .array .int
  | 18 => .int
  | 19 => .int
  | 20 => .int
  | 21 => .int
  | 22 => .int
  | 23 => .int
  | 24 => .int
  | 25 => .int
  | 26 => .int
  | 27 => .int
  | 28 => .int
  | 29 => .array .int
  | 30 => .array .int
  | 31 => .array .int
  | 32 => .array .int
  | 33 => .array .int
  | 34 => .int
  | 35 => .int
  | 36 => .array .int
  | 37 => .array .int
  | 38 => .array .int
  | 39 => .int
  | 40 => .int
  | 41 => .int
  | 42 => .int
  | 43 => .int
  | 44 => .int
  | 45 => .array .int
  | 46 => .array .int
  | 47 => .array .int
  | 48 => .array .int
  | 49 => .array .int
  | 50 => .int
  | 51 => .array .int
  | 52 => .array .int
  | 53 => .array .int
  | 54 => .array .int
  | 55 => .array .int
  | 56 => .array .int
  | 57 => .int
  | 58 => .array .int
  | _ => .int
theorem nmX12 : ∀ a, a < 60 → ∀ b, b < 60 → a ≠ b → (TX12 a).2.1 ≠ (TX12 b).2.1 := by decide +kernel
theorem tyX12_ok : ∀ k, k < 60 → parseFieldDescriptor (TX12 k).2.2.1 = some (tyX12 k) := by decide +kernel
abbrev cX12_thrown : ByteArray := prog_14_method_1_code
def yX12_thrown : MethodName := ⟨RX12, "thrown", "()I"⟩
abbrev cX12_may : ByteArray := prog_14_method_2_code
def yX12_may : MethodName := ⟨RX12, "may", "(ZII)Z"⟩
abbrev cX12_within : ByteArray := prog_14_method_3_code
def yX12_within : MethodName := ⟨RX12, "within", "(III)Z"⟩
abbrev cX12_init : ByteArray := prog_14_method_4_code
def yX12_init : MethodName := ⟨RX12, "<init>", "()V"⟩
abbrev cX12_feed : ByteArray := prog_14_method_5_code
def yX12_feed : MethodName := ⟨RX12, "feed", "(IIIII)I"⟩
abbrev cX12_fine : ByteArray := prog_14_method_6_code
def yX12_fine : MethodName := ⟨RX12, "fine", "()Z"⟩
abbrev cX12_wrong : ByteArray := prog_14_method_7_code
def yX12_wrong : MethodName := ⟨RX12, "wrong", "(II)V"⟩
abbrev cX12_here : ByteArray := prog_14_method_8_code
def yX12_here : MethodName := ⟨RX12, "here", "()I"⟩
abbrev cX12_isSmall : ByteArray := prog_14_method_9_code
def yX12_isSmall : MethodName := ⟨RX12, "isSmall", "(I)Z"⟩
abbrev cX12_isDigit : ByteArray := prog_14_method_10_code
def yX12_isDigit : MethodName := ⟨RX12, "isDigit", "(I)Z"⟩
abbrev cX12_word : ByteArray := prog_14_method_11_code
def yX12_word : MethodName := ⟨RX12, "word", "()I"⟩
abbrev cX12_of : ByteArray := prog_14_method_12_code
def yX12_of : MethodName := ⟨RX12, "of", "(Ljava/lang/String;)I"⟩
abbrev cX12_pass : ByteArray := prog_14_method_13_code
def yX12_pass : MethodName := ⟨RX12, "pass", "()V"⟩
abbrev cX12_readNumber : ByteArray := prog_14_method_14_code
def yX12_readNumber : MethodName := ⟨RX12, "readNumber", "(II)I"⟩
abbrev cX12_sign : ByteArray := prog_14_method_15_code
def yX12_sign : MethodName := ⟨RX12, "sign", "(I)V"⟩
abbrev cX12_isMore : ByteArray := prog_14_method_16_code
def yX12_isMore : MethodName := ⟨RX12, "isMore", "()Z"⟩
abbrev cX12_begins : ByteArray := prog_14_method_17_code
def yX12_begins : MethodName := ⟨RX12, "begins", "(I)V"⟩
abbrev cX12_result : ByteArray := prog_14_method_18_code
def yX12_result : MethodName := ⟨RX12, "result", "(I)I"⟩
abbrev cX12_fault : ByteArray := prog_14_method_19_code
def yX12_fault : MethodName := ⟨RX12, "fault", "()I"⟩
abbrev cX12_copies : ByteArray := prog_14_method_20_code
def yX12_copies : MethodName := ⟨RX12, "copies", "([I[II)V"⟩
abbrev cX12_clears : ByteArray := prog_14_method_21_code
def yX12_clears : MethodName := ⟨RX12, "clears", "()V"⟩
abbrev cX12_sets : ByteArray := prog_14_method_22_code
def yX12_sets : MethodName := ⟨RX12, "sets", "()V"⟩
abbrev cX12_isRow : ByteArray := prog_14_method_23_code
def yX12_isRow : MethodName := ⟨RX12, "isRow", "(I)Z"⟩
abbrev cX12_isFull : ByteArray := prog_14_method_24_code
def yX12_isFull : MethodName := ⟨RX12, "isFull", "(I)Z"⟩
abbrev cX12_readPath : ByteArray := prog_14_method_25_code
def yX12_readPath : MethodName := ⟨RX12, "readPath", "()V"⟩
abbrev cX12_readRow : ByteArray := prog_14_method_26_code
def yX12_readRow : MethodName := ⟨RX12, "readRow", "(I)V"⟩
abbrev cX12_village : ByteArray := prog_14_method_27_code
def yX12_village : MethodName := ⟨RX12, "village", "(I)I"⟩
abbrev cX12_emit : ByteArray := prog_14_method_28_code
def yX12_emit : MethodName := ⟨RX12, "emit", "(II)V"⟩
abbrev cX12_opensOne : ByteArray := prog_14_method_29_code
def yX12_opensOne : MethodName := ⟨RX12, "opensOne", "(I)V"⟩
abbrev cX12_readSum : ByteArray := prog_14_method_30_code
def yX12_readSum : MethodName := ⟨RX12, "readSum", "()V"⟩
abbrev cX12_readProduct : ByteArray := prog_14_method_31_code
def yX12_readProduct : MethodName := ⟨RX12, "readProduct", "()V"⟩
abbrev cX12_readTwo : ByteArray := prog_14_method_32_code
def yX12_readTwo : MethodName := ⟨RX12, "readTwo", "(II)V"⟩
abbrev cX12_factHere : ByteArray := prog_14_method_34_code
def yX12_factHere : MethodName := ⟨RX12, "factHere", "()I"⟩
abbrev cX12_readUnit : ByteArray := prog_14_method_35_code
def yX12_readUnit : MethodName := ⟨RX12, "readUnit", "()V"⟩
abbrev cX12_law : ByteArray := prog_14_method_36_code
def yX12_law : MethodName := ⟨RX12, "law", "(I)I"⟩
abbrev cX12_valueNow : ByteArray := prog_14_method_37_code
def yX12_valueNow : MethodName := ⟨RX12, "valueNow", "()I"⟩
abbrev cX12_both : ByteArray := prog_14_method_38_code
def yX12_both : MethodName := ⟨RX12, "both", "(III)I"⟩
abbrev cX12_mendNow : ByteArray := prog_14_method_39_code
def yX12_mendNow : MethodName := ⟨RX12, "mendNow", "()I"⟩
abbrev cX12_tellsStep : ByteArray := prog_14_method_40_code
def yX12_tellsStep : MethodName := ⟨RX12, "tellsStep", "(IIII)V"⟩
abbrev cX12_readEgg : ByteArray := prog_14_method_41_code
def yX12_readEgg : MethodName := ⟨RX12, "readEgg", "()I"⟩
abbrev cX12_readHole : ByteArray := prog_14_method_42_code
def yX12_readHole : MethodName := ⟨RX12, "readHole", "()I"⟩
abbrev cX12_readStep : ByteArray := prog_14_method_43_code
def yX12_readStep : MethodName := ⟨RX12, "readStep", "()V"⟩
abbrev cX12_work : ByteArray := prog_14_method_44_code
def yX12_work : MethodName := ⟨RX12, "work", "(I)I"⟩
abbrev cX12_goesSteps : ByteArray := prog_14_method_45_code
def yX12_goesSteps : MethodName := ⟨RX12, "goesSteps", "(II)V"⟩
abbrev cX12_take : ByteArray := prog_14_method_46_code
def yX12_take : MethodName := ⟨RX12, "take", "()V"⟩
abbrev cX12_pathsOf : ByteArray := prog_14_method_47_code
def yX12_pathsOf : MethodName := ⟨RX12, "pathsOf", "(I)I"⟩
abbrev cX12_mendOf : ByteArray := prog_14_method_48_code
def yX12_mendOf : MethodName := ⟨RX12, "mendOf", "(IIIIIIII)I"⟩
abbrev cX12_mendBy : ByteArray := prog_14_method_49_code
def yX12_mendBy : MethodName := ⟨RX12, "mendBy", "(III)I"⟩
abbrev cX12_isHatched : ByteArray := prog_14_method_50_code
def yX12_isHatched : MethodName := ⟨RX12, "isHatched", "(I)Z"⟩
abbrev cX12_isHooked : ByteArray := prog_14_method_51_code
def yX12_isHooked : MethodName := ⟨RX12, "isHooked", "(I)Z"⟩
abbrev cX12_held : ByteArray := prog_14_method_52_code
def yX12_held : MethodName := ⟨RX12, "held", "(I)I"⟩
abbrev cX12_canDarn : ByteArray := prog_14_method_53_code
def yX12_canDarn : MethodName := ⟨RX12, "canDarn", "(III)Z"⟩
abbrev cX12_darns : ByteArray := prog_14_method_54_code
def yX12_darns : MethodName := ⟨RX12, "darns", "(III)Z"⟩
abbrev cX12_lets : ByteArray := prog_14_method_55_code
def yX12_lets : MethodName := ⟨RX12, "lets", "(II)Z"⟩
abbrev cX12_unpicks : ByteArray := prog_14_method_56_code
def yX12_unpicks : MethodName := ⟨RX12, "unpicks", "(I)Z"⟩
abbrev cX12_acts : ByteArray := prog_14_method_57_code
def yX12_acts : MethodName := ⟨RX12, "acts", "(I)V"⟩
abbrev cX12_passes : ByteArray := prog_14_method_58_code
def yX12_passes : MethodName := ⟨RX12, "passes", "()V"⟩
abbrev cX12_isDone : ByteArray := prog_14_method_59_code
def yX12_isDone : MethodName := ⟨RX12, "isDone", "(IIII)Z"⟩
abbrev cX12_book : ByteArray := prog_14_method_60_code
def yX12_book : MethodName := ⟨RX12, "book", "(I)I"⟩
abbrev cX12_undo : ByteArray := prog_14_method_61_code
def yX12_undo : MethodName := ⟨RX12, "undo", "()I"⟩
abbrev cX12_sumOf : ByteArray := prog_14_method_62_code
def yX12_sumOf : MethodName := ⟨RX12, "sumOf", "(I)I"⟩
abbrev cX12_hatchedNow : ByteArray := prog_14_method_63_code
def yX12_hatchedNow : MethodName := ⟨RX12, "hatchedNow", "()I"⟩
abbrev cX12_outAt : ByteArray := prog_14_method_64_code
def yX12_outAt : MethodName := ⟨RX12, "outAt", "(I)I"⟩
abbrev cX12_busyNow : ByteArray := prog_14_method_65_code
def yX12_busyNow : MethodName := ⟨RX12, "busyNow", "()I"⟩
abbrev cX12_told : ByteArray := prog_14_method_66_code
def yX12_told : MethodName := ⟨RX12, "told", "(I)I"⟩
abbrev cX12_isEgg : ByteArray := prog_14_method_67_code
def yX12_isEgg : MethodName := ⟨RX12, "isEgg", "(II)Z"⟩
abbrev cX12_isHand : ByteArray := prog_14_method_68_code
def yX12_isHand : MethodName := ⟨RX12, "isHand", "(II)Z"⟩
abbrev cX12_isHole : ByteArray := prog_14_method_69_code
def yX12_isHole : MethodName := ⟨RX12, "isHole", "(II)Z"⟩
abbrev cX12_egg : ByteArray := prog_14_method_70_code
def yX12_egg : MethodName := ⟨RX12, "egg", "(II)I"⟩
abbrev cX12_hand : ByteArray := prog_14_method_71_code
def yX12_hand : MethodName := ⟨RX12, "hand", "(II)I"⟩
abbrev cX12_hole : ByteArray := prog_14_method_72_code
def yX12_hole : MethodName := ⟨RX12, "hole", "(II)I"⟩
abbrev cX12_path : ByteArray := prog_14_method_73_code
def yX12_path : MethodName := ⟨RX12, "path", "(II)I"⟩
abbrev cX12_mend : ByteArray := prog_14_method_74_code
def yX12_mend : MethodName := ⟨RX12, "mend", "(III)I"⟩
abbrev cX12_would : ByteArray := prog_14_method_75_code
def yX12_would : MethodName := ⟨RX12, "would", "(IIIIIIII)I"⟩
abbrev cX12_can : ByteArray := prog_14_method_76_code
def yX12_can : MethodName := ⟨RX12, "can", "(III)Z"⟩
abbrev cX12_mendedNow : ByteArray := prog_14_method_77_code
def yX12_mendedNow : MethodName := ⟨RX12, "mendedNow", "()I"⟩
abbrev cX12_ahead : ByteArray := prog_14_method_78_code
def yX12_ahead : MethodName := ⟨RX12, "ahead", "(II)I"⟩
abbrev cX12_whole : ByteArray := prog_14_method_79_code
def yX12_whole : MethodName := ⟨RX12, "whole", "(I)I"⟩
abbrev cX12_goes : ByteArray := prog_14_method_80_code
def yX12_goes : MethodName := ⟨RX12, "goes", "(I)I"⟩
abbrev cX12_findBest : ByteArray := prog_14_method_81_code
def yX12_findBest : MethodName := ⟨RX12, "findBest", "(I)V"⟩
abbrev cX12_takenBy : ByteArray := prog_14_method_82_code
def yX12_takenBy : MethodName := ⟨RX12, "takenBy", "(III)I"⟩
abbrev cX12_mayTake : ByteArray := prog_14_method_83_code
def yX12_mayTake : MethodName := ⟨RX12, "mayTake", "(IIII)Z"⟩
abbrev cX12_best : ByteArray := prog_14_method_84_code
def yX12_best : MethodName := ⟨RX12, "best", "(I)I"⟩
abbrev cX12_given : ByteArray := prog_14_method_85_code
def yX12_given : MethodName := ⟨RX12, "given", "(II)I"⟩
abbrev cX12_worn : ByteArray := prog_14_method_86_code
def yX12_worn : MethodName := ⟨RX12, "worn", "()I"⟩
abbrev cX12_round : ByteArray := prog_14_method_87_code
def yX12_round : MethodName := ⟨RX12, "round", "(I)I"⟩
abbrev cX12_ones : ByteArray := prog_14_method_88_code
def yX12_ones : MethodName := ⟨RX12, "ones", "(I)I"⟩
abbrev cX12_nearTo : ByteArray := prog_14_method_89_code
def yX12_nearTo : MethodName := ⟨RX12, "nearTo", "(I)I"⟩
abbrev cX12_guards : ByteArray := prog_14_method_90_code
def yX12_guards : MethodName := ⟨RX12, "guards", "()I"⟩
abbrev cX12_way : ByteArray := prog_14_method_91_code
def yX12_way : MethodName := ⟨RX12, "way", "(II)I"⟩
abbrev cX12_parts : ByteArray := prog_14_method_92_code
def yX12_parts : MethodName := ⟨RX12, "parts", "()I"⟩
abbrev cX12_leaves : ByteArray := prog_14_method_93_code
def yX12_leaves : MethodName := ⟨RX12, "leaves", "(III)I"⟩
abbrev cX12_isFit : ByteArray := prog_14_method_94_code
def yX12_isFit : MethodName := ⟨RX12, "isFit", "(II)Z"⟩
abbrev cX12_fits : ByteArray := prog_14_method_95_code
def yX12_fits : MethodName := ⟨RX12, "fits", "(I)I"⟩
abbrev cX12_worstOf : ByteArray := prog_14_method_96_code
def yX12_worstOf : MethodName := ⟨RX12, "worstOf", "(I)I"⟩
abbrev cX12_look : ByteArray := prog_14_method_97_code
def yX12_look : MethodName := ⟨RX12, "look", "(I)I"⟩
abbrev cX12_least : ByteArray := prog_14_method_98_code
def yX12_least : MethodName := ⟨RX12, "least", "(JJI)J"⟩
abbrev cX12_first : ByteArray := prog_14_method_99_code
def yX12_first : MethodName := ⟨RX12, "first", "(III)J"⟩
abbrev cX12_hasBy : ByteArray := prog_14_method_100_code
def yX12_hasBy : MethodName := ⟨RX12, "hasBy", "(IIII)I"⟩
abbrev cX12_ridge : ByteArray := prog_14_method_101_code
def yX12_ridge : MethodName := ⟨RX12, "ridge", "(III)I"⟩
abbrev cX12_woolBy : ByteArray := prog_14_method_102_code
def yX12_woolBy : MethodName := ⟨RX12, "woolBy", "(II)I"⟩
abbrev cX12_wool : ByteArray := prog_14_method_103_code
def yX12_wool : MethodName := ⟨RX12, "wool", "(III)I"⟩
abbrev cX12_greatest : ByteArray := prog_14_method_104_code
def yX12_greatest : MethodName := ⟨RX12, "greatest", "(I)I"⟩
abbrev cX12_worst : ByteArray := prog_14_method_105_code
def yX12_worst : MethodName := ⟨RX12, "worst", "(I)I"⟩
abbrev cX12_ridges : ByteArray := prog_14_method_106_code
def yX12_ridges : MethodName := ⟨RX12, "ridges", "(I)I"⟩
abbrev cX12_draws : ByteArray := prog_14_method_107_code
def yX12_draws : MethodName := ⟨RX12, "draws", "(I)I"⟩
abbrev cX12_generationGoes : ByteArray := prog_14_method_108_code
def yX12_generationGoes : MethodName := ⟨RX12, "generationGoes", "(III)V"⟩
abbrev cX12_isGeneration : ByteArray := prog_14_method_109_code
def yX12_isGeneration : MethodName := ⟨RX12, "isGeneration", "(II)Z"⟩
abbrev cX12_generation : ByteArray := prog_14_method_110_code
def yX12_generation : MethodName := ⟨RX12, "generation", "(IIII)I"⟩
abbrev cX12_span : ByteArray := prog_14_method_111_code
def yX12_span : MethodName := ⟨RX12, "span", "(IIIII)I"⟩
abbrev cX12_keepsRow : ByteArray := prog_14_method_112_code
def yX12_keepsRow : MethodName := ⟨RX12, "keepsRow", "(I[IIZ)I"⟩
abbrev cX12_keepsAll : ByteArray := prog_14_method_113_code
def yX12_keepsAll : MethodName := ⟨RX12, "keepsAll", "(IZ)V"⟩
abbrev cX12_image : ByteArray := prog_14_method_114_code
def yX12_image : MethodName := ⟨RX12, "image", "()I"⟩
abbrev cX12_restore : ByteArray := prog_14_method_115_code
def yX12_restore : MethodName := ⟨RX12, "restore", "()I"⟩
abbrev cX12_status : ByteArray := prog_14_method_116_code
def yX12_status : MethodName := ⟨RX12, "status", "(I)I"⟩
abbrev cX12_count : ByteArray := prog_14_method_117_code
def yX12_count : MethodName := ⟨RX12, "count", "(I)I"⟩
def RJx145de : String := "java/io/Serializable"
def TJx145de : u_T := fun k => match k with
  | _ => ("", "", "", false)
def tyJx145de : Nat → FieldType := fun k => match k with
  | _ => .int
theorem nmJx145de : ∀ a, a < 0 → ∀ b, b < 0 → a ≠ b → (TJx145de a).2.1 ≠ (TJx145de b).2.1 := by decide +kernel
theorem tyJx145de_ok : ∀ k, k < 0 → parseFieldDescriptor (TJx145de k).2.2.1 = some (tyJx145de k) := by decide +kernel
def RJx9f9b0 : String := "java/lang/CharSequence"
def TJx9f9b0 : u_T := fun k => match k with
  | _ => ("", "", "", false)
def tyJx9f9b0 : Nat → FieldType := fun k => match k with
  | _ => .int
theorem nmJx9f9b0 : ∀ a, a < 0 → ∀ b, b < 0 → a ≠ b → (TJx9f9b0 a).2.1 ≠ (TJx9f9b0 b).2.1 := by decide +kernel
theorem tyJx9f9b0_ok : ∀ k, k < 0 → parseFieldDescriptor (TJx9f9b0 k).2.2.1 = some (tyJx9f9b0 k) := by decide +kernel
def RJxb160c : String := "java/lang/Comparable"
def TJxb160c : u_T := fun k => match k with
  | _ => ("", "", "", false)
def tyJxb160c : Nat → FieldType := fun k => match k with
  | _ => .int
theorem nmJxb160c : ∀ a, a < 0 → ∀ b, b < 0 → a ≠ b → (TJxb160c a).2.1 ≠ (TJxb160c b).2.1 := by decide +kernel
theorem tyJxb160c_ok : ∀ k, k < 0 → parseFieldDescriptor (TJxb160c k).2.2.1 = some (tyJxb160c k) := by decide +kernel
def RJ6 : String := "java/lang/Integer"
def TJ6 : u_T := fun k => match k with
  | _ => ("", "", "", false)
def tyJ6 : Nat → FieldType := fun k => match k with
  | _ => .int
theorem nmJ6 : ∀ a, a < 0 → ∀ b, b < 0 → a ≠ b → (TJ6 a).2.1 ≠ (TJ6 b).2.1 := by decide +kernel
theorem tyJ6_ok : ∀ k, k < 0 → parseFieldDescriptor (TJ6 k).2.2.1 = some (tyJ6 k) := by decide +kernel
abbrev cJ6_bitCount_0f7a4 : ByteArray := prog_20_method_49_code
def yJ6_bitCount_0f7a4 : MethodName := ⟨RJ6, "bitCount", "(I)I"⟩
def RJ9 : String := "java/lang/Math"
def TJ9 : u_T := fun k => match k with
  | _ => ("", "", "", false)
def tyJ9 : Nat → FieldType := fun k => match k with
  | _ => .int
theorem nmJ9 : ∀ a, a < 0 → ∀ b, b < 0 → a ≠ b → (TJ9 a).2.1 ≠ (TJ9 b).2.1 := by decide +kernel
theorem tyJ9_ok : ∀ k, k < 0 → parseFieldDescriptor (TJ9 k).2.2.1 = some (tyJ9 k) := by decide +kernel
abbrev cJ9_max_7cf53 : ByteArray := prog_21_method_65_code
def yJ9_max_7cf53 : MethodName := ⟨RJ9, "max", "(II)I"⟩
abbrev cJ9_min_7cf53 : ByteArray := prog_21_method_69_code
def yJ9_min_7cf53 : MethodName := ⟨RJ9, "min", "(II)I"⟩
def RJ0 : String := "java/lang/String"
def TJ0 : u_T := fun k => match k with
  | _ => ("", "", "", false)
def tyJ0 : Nat → FieldType := fun k => match k with
  | _ => .int
theorem nmJ0 : ∀ a, a < 0 → ∀ b, b < 0 → a ≠ b → (TJ0 a).2.1 ≠ (TJ0 b).2.1 := by decide +kernel
theorem tyJ0_ok : ∀ k, k < 0 → parseFieldDescriptor (TJ0 k).2.2.1 = some (tyJ0 k) := by decide +kernel
abbrev cJ0_length_8abf5 : ByteArray := prog_23_method_54_code
def yJ0_length_8abf5 : MethodName := ⟨RJ0, "length", "()I"⟩
abbrev cJ0_charAt_5068e : ByteArray := prog_23_method_56_code
def yJ0_charAt_5068e : MethodName := ⟨RJ0, "charAt", "(I)C"⟩
abbrev cJ0_coder_7d493 : ByteArray := prog_23_method_152_code
def yJ0_coder_7d493 : MethodName := ⟨RJ0, "coder", "()B"⟩
abbrev cJ0_isLatin1_aae02 : ByteArray := prog_23_method_154_code
def yJ0_isLatin1_aae02 : MethodName := ⟨RJ0, "isLatin1", "()Z"⟩
abbrev cJ0_checkIndex_df160 : ByteArray := prog_23_method_155_code
def yJ0_checkIndex_df160 : MethodName := ⟨RJ0, "checkIndex", "(II)V"⟩
def RJ1 : String := "java/lang/StringLatin1"
def TJ1 : u_T := fun k => match k with
  | _ => ("", "", "", false)
def tyJ1 : Nat → FieldType := fun k => match k with
  | _ => .int
theorem nmJ1 : ∀ a, a < 0 → ∀ b, b < 0 → a ≠ b → (TJ1 a).2.1 ≠ (TJ1 b).2.1 := by decide +kernel
theorem tyJ1_ok : ∀ k, k < 0 → parseFieldDescriptor (TJ1 k).2.2.1 = some (tyJ1 k) := by decide +kernel
abbrev cJ1_charAt_3b067 : ByteArray := prog_24_method_2_code
def yJ1_charAt_3b067 : MethodName := ⟨RJ1, "charAt", "([BI)C"⟩
def RJ2 : String := "java/lang/StringUTF16"
def TJ2 : u_T := fun k => match k with
  | _ => ("", "", "", false)
def tyJ2 : Nat → FieldType := fun k => match k with
  | _ => .int
theorem nmJ2 : ∀ a, a < 0 → ∀ b, b < 0 → a ≠ b → (TJ2 a).2.1 ≠ (TJ2 b).2.1 := by decide +kernel
theorem tyJ2_ok : ∀ k, k < 0 → parseFieldDescriptor (TJ2 k).2.2.1 = some (tyJ2 k) := by decide +kernel
abbrev cJ2_getChar_3b067 : ByteArray := prog_25_method_5_code
def yJ2_getChar_3b067 : MethodName := ⟨RJ2, "getChar", "([BI)C"⟩
abbrev cJ2_length_9d52b : ByteArray := prog_25_method_6_code
def yJ2_length_9d52b : MethodName := ⟨RJ2, "length", "([B)I"⟩
abbrev cJ2_charAt_3b067 : ByteArray := prog_25_method_83_code
def yJ2_charAt_3b067 : MethodName := ⟨RJ2, "charAt", "([BI)C"⟩
abbrev cJ2_checkIndex_2214a : ByteArray := prog_25_method_91_code
def yJ2_checkIndex_2214a : MethodName := ⟨RJ2, "checkIndex", "(I[B)V"⟩
def RJ10 : String := "java/lang/System"
def TJ10 : u_T := fun k => match k with
  | _ => ("", "", "", false)
def tyJ10 : Nat → FieldType := fun k => match k with
  | _ => .int
theorem nmJ10 : ∀ a, a < 0 → ∀ b, b < 0 → a ≠ b → (TJ10 a).2.1 ≠ (TJ10 b).2.1 := by decide +kernel
theorem tyJ10_ok : ∀ k, k < 0 → parseFieldDescriptor (TJ10 k).2.2.1 = some (tyJ10 k) := by decide +kernel
def RJxfd54e : String := "java/lang/constant/Constable"
def TJxfd54e : u_T := fun k => match k with
  | _ => ("", "", "", false)
def tyJxfd54e : Nat → FieldType := fun k => match k with
  | _ => .int
theorem nmJxfd54e : ∀ a, a < 0 → ∀ b, b < 0 → a ≠ b → (TJxfd54e a).2.1 ≠ (TJxfd54e b).2.1 := by decide +kernel
theorem tyJxfd54e_ok : ∀ k, k < 0 → parseFieldDescriptor (TJxfd54e k).2.2.1 = some (tyJxfd54e k) := by decide +kernel
def RJx3cf43 : String := "java/lang/constant/ConstantDesc"
def TJx3cf43 : u_T := fun k => match k with
  | _ => ("", "", "", false)
def tyJx3cf43 : Nat → FieldType := fun k => match k with
  | _ => .int
theorem nmJx3cf43 : ∀ a, a < 0 → ∀ b, b < 0 → a ≠ b → (TJx3cf43 a).2.1 ≠ (TJx3cf43 b).2.1 := by decide +kernel
theorem tyJx3cf43_ok : ∀ k, k < 0 → parseFieldDescriptor (TJx3cf43 k).2.2.1 = some (tyJx3cf43 k) := by decide +kernel
def RJ3 : String := "jdk/internal/util/Preconditions"
def TJ3 : u_T := fun k => match k with
  | _ => ("", "", "", false)
def tyJ3 : Nat → FieldType := fun k => match k with
  | _ => .int
theorem nmJ3 : ∀ a, a < 0 → ∀ b, b < 0 → a ≠ b → (TJ3 a).2.1 ≠ (TJ3 b).2.1 := by decide +kernel
theorem tyJ3_ok : ∀ k, k < 0 → parseFieldDescriptor (TJ3 k).2.2.1 = some (tyJ3 k) := by decide +kernel
abbrev cJ3_checkIndex_8e157 : ByteArray := prog_31_method_11_code
def yJ3_checkIndex_8e157 : MethodName := ⟨RJ3, "checkIndex", "(IILjava/util/function/BiFunction;)I"⟩
def RL : String := "DarnEggsLaw"
abbrev cL_village : ByteArray := method_3_code
def yL_village : MethodName := ⟨RL, "village", "(LDarnEggs;I[J)I"⟩
abbrev cL_law : ByteArray := method_4_code
def yL_law : MethodName := ⟨RL, "law", "(LDarnEggs;I[J)I"⟩
abbrev cL_work : ByteArray := method_5_code
def yL_work : MethodName := ⟨RL, "work", "(LDarnEggs;I[J)I"⟩
abbrev cL_book : ByteArray := method_6_code
def yL_book : MethodName := ⟨RL, "book", "(LDarnEggs;I[J)I"⟩
abbrev cL_told : ByteArray := method_7_code
def yL_told : MethodName := ⟨RL, "told", "(LDarnEggs;I[J)I"⟩
abbrev cL_egg : ByteArray := method_8_code
def yL_egg : MethodName := ⟨RL, "egg", "(LDarnEggs;II[J)I"⟩
abbrev cL_hand : ByteArray := method_9_code
def yL_hand : MethodName := ⟨RL, "hand", "(LDarnEggs;II[J)I"⟩
abbrev cL_hole : ByteArray := method_10_code
def yL_hole : MethodName := ⟨RL, "hole", "(LDarnEggs;II[J)I"⟩
abbrev cL_path : ByteArray := method_11_code
def yL_path : MethodName := ⟨RL, "path", "(LDarnEggs;II[J)I"⟩
abbrev cL_mend : ByteArray := method_12_code
def yL_mend : MethodName := ⟨RL, "mend", "(LDarnEggs;III[J)I"⟩
abbrev cL_would : ByteArray := method_13_code
def yL_would : MethodName := ⟨RL, "would", "(LDarnEggs;IIIIIIII[J)I"⟩
abbrev cL_can : ByteArray := method_14_code
def yL_can : MethodName := ⟨RL, "can", "(LDarnEggs;III[J)I"⟩
abbrev cL_ahead : ByteArray := method_15_code
def yL_ahead : MethodName := ⟨RL, "ahead", "(LDarnEggs;II[J)I"⟩
abbrev cL_whole : ByteArray := method_16_code
def yL_whole : MethodName := ⟨RL, "whole", "(LDarnEggs;I[J)I"⟩
abbrev cL_best : ByteArray := method_17_code
def yL_best : MethodName := ⟨RL, "best", "(LDarnEggs;I[J)I"⟩
abbrev cL_given : ByteArray := method_18_code
def yL_given : MethodName := ⟨RL, "given", "(LDarnEggs;II[J)I"⟩
abbrev cL_round : ByteArray := method_19_code
def yL_round : MethodName := ⟨RL, "round", "(LDarnEggs;I[J)I"⟩
abbrev cL_way : ByteArray := method_20_code
def yL_way : MethodName := ⟨RL, "way", "(LDarnEggs;II[J)I"⟩
abbrev cL_fits : ByteArray := method_21_code
def yL_fits : MethodName := ⟨RL, "fits", "(LDarnEggs;I[J)I"⟩
abbrev cL_look : ByteArray := method_22_code
def yL_look : MethodName := ⟨RL, "look", "(LDarnEggs;I[J)I"⟩
abbrev cL_first : ByteArray := method_23_code
def yL_first : MethodName := ⟨RL, "first", "(LDarnEggs;III[J)I"⟩
abbrev cL_ridge : ByteArray := method_24_code
def yL_ridge : MethodName := ⟨RL, "ridge", "(LDarnEggs;III[J)I"⟩
abbrev cL_wool : ByteArray := method_25_code
def yL_wool : MethodName := ⟨RL, "wool", "(LDarnEggs;III[J)I"⟩
abbrev cL_worst : ByteArray := method_26_code
def yL_worst : MethodName := ⟨RL, "worst", "(LDarnEggs;I[J)I"⟩
abbrev cL_goes : ByteArray := method_27_code
def yL_goes : MethodName := ⟨RL, "goes", "(LDarnEggs;I[J)I"⟩
abbrev cL_ridges : ByteArray := method_28_code
def yL_ridges : MethodName := ⟨RL, "ridges", "(LDarnEggs;I[J)I"⟩
abbrev cL_generation : ByteArray := method_29_code
def yL_generation : MethodName := ⟨RL, "generation", "(LDarnEggs;IIII[J)I"⟩
abbrev cL_span : ByteArray := method_30_code
def yL_span : MethodName := ⟨RL, "span", "(LDarnEggs;IIIII[J)I"⟩
abbrev cL_law_ : ByteArray := code
def yL_law_ : MethodName := ⟨RL, "law", "([I)Z"⟩
abbrev vwCl : List vw_C := [(RX0, TX0, 9), (RX1, TX1, 2), (RX2, TX2, 3), (RX3, TX3, 4), (RX4, TX4, 2), (RX5, TX5, 1), (RX6, TX6, 9), (RX7, TX7, 8), (RX8, TX8, 8), (RX9, TX9, 12), (RX10, TX10, 3), (RX11, TX11, 19), (RX12, TX12, 60)]
end
section
/-! A SMALL MACHINE of our own: numbers and references in plain functions, the bytecode's instructions resolved; it runs the methods of the class, of the reference and of the law. -/
/-- memory: int contents (cell, place), references, longs, the cells' shapes (kind, size), how many exceptions were thrown -/
abbrev mM : Type := (Nat → Nat → Int32) × (Nat → Nat → Option Nat) × (Nat → Nat → Int64) × List (Nat × Nat) × Nat
abbrev mL : Type := List (Option Value)
abbrev mC : Type := Nat × mL × List Value × mM
abbrev mOp : Type := Instr × Nat × Nat × Nat
/-- name, bytes, locals, return type, the number of its class, handlers (from, to, kind, target behind the store, handler, entry of the class caught), instructions -/
abbrev mH : Type := Nat × Nat × Nat × Nat × Nat × Nat
abbrev mMeth : Type := MethodName × ByteArray × Nat × Option FieldType × Nat × List mH × List (Nat × mOp)
abbrev mR : Type := (Option Value ⊕ Nat) × mM
def m_up {α : Type} (f : Nat → Nat → α) (a k : Nat) (v : α) : Nat → Nat → α := fun a' k' => if a' = a then (if k' = k then v else f a' k') else f a' k'
def m_row {α : Type} (f : Nat → Nat → α) (a : Nat) (g : Nat → α) : Nat → Nat → α := fun a' k' => if a' = a then g k' else f a' k'
def m_get (L : mL) (i : Nat) : Option Value := match L[i]? with
  | some (some v) => some v
  | _ => none
def m_kill (L : mL) (i : Nat) : mL := match i with
  | 0 => L
  | j + 1 => match L[j]? with
    | some (some w) => if w.category = 2 then L.set j none else L
    | _ => L
def m_set (L : mL) (i : Nat) (v : Value) : mL := (m_kill L i).set i (some v)
def m_setL (L : mL) (i : Nat) (v : Value) : mL := (m_set L i v).set (i + 1) none
def m_i1 {α : Type} (st : List Value) (k : Int32 → List Value → Option α) : Option α := match st with
  | .int x :: r => k x r
  | _ => none
def m_i2 {α : Type} (st : List Value) (k : Int32 → Int32 → List Value → Option α) : Option α := match st with
  | .int y :: .int x :: r => k x y r
  | _ => none
def m_l1 {α : Type} (st : List Value) (k : Int64 → List Value → Option α) : Option α := match st with
  | .long x :: r => k x r
  | _ => none
def m_l2 {α : Type} (st : List Value) (k : Int64 → Int64 → List Value → Option α) : Option α := match st with
  | .long y :: .long x :: r => k x y r
  | _ => none
def m_r1 {α : Type} (st : List Value) (k : Nat → List Value → Option α) : Option α := match st with
  | .ref a :: r => k a r
  | _ => none
def m_v1 {α : Type} (st : List Value) (k : Value → List Value → Option α) : Option α := match st with
  | v :: r => if v.category = 1 then k v r else none
  | _ => none
def m_jmp (pc : Nat) (off : Int) (L : mL) (st : List Value) (M : mM) : Option mC := match (pc : Int) + off with
  | .ofNat t => some (t, L, st, M)
  | .negSucc _ => none
def m_cc (c : ClassFile.Cond) (x y : Int32) : Bool := match c with
  | .eq => decide (x = y)
  | .ne => decide (¬ x = y)
  | .lt => decide (x < y)
  | .ge => decide (y ≤ x)
  | .gt => decide (y < x)
  | .le => decide (x ≤ y)
def m_br (c : Bool) (pc : Nat) (off : Int) (L : mL) (st : List Value) (M : mM) : Option mC := match (pc : Int) + off with
  | .ofNat t => if c = true then some (t, L, st, M) else some (pc + 3, L, st, M)
  | .negSucc _ => none
/-- a place of an array of a kind -/
def m_arr (M : mM) (kd a : Nat) (i : Int32) (k : Nat → Option mC) : Option mC := match M.2.2.2.1[a]? with
  | some (kd', n) => if kd' = kd then (if i < 0 ∨ n ≤ i.toNatClampNeg then none else k i.toNatClampNeg) else none
  | none => none
/-- the address of the script; behind it the text constants -/
def m_scr : Nat := 1000000
def m_len (X : Nat × (Nat → Int32)) (M : mM) (a : Nat) (k : Int32 → Option mC) : Option mC :=
  if a = m_scr then k (nI X.1) else match M.2.2.2.1[a]? with
  | some (kd, n) => if kd < 5 then k (nI n) else none
  | none => none
/-- an object of a class -/
def m_obj (M : mM) (ci j a : Nat) (k : Option mC) : Option mC := match M.2.2.2.1[a]? with
  | some (kd, n) => if kd = ci + 5 then (if j < n then k else none) else none
  | none => none
/-- a new cell -/
def m_mk (M : mM) (kd n : Nat) : mM := (m_row M.1 M.2.2.2.1.length (fun _ => 0), m_row M.2.1 M.2.2.2.1.length (fun _ => none), m_row M.2.2.1 M.2.2.2.1.length (fun _ => 0), M.2.2.2.1 ++ [(kd, n)], M.2.2.2.2)
def m_new (M : mM) (kd n : Nat) (k : Nat → mM → Option mC) : Option mC := if M.2.2.2.2 = 0 ∧ M.2.2.2.1.length < 1000 then k M.2.2.2.1.length (m_mk M kd n) else none
def m_akind (t : ArrayType) : Option Nat := match t with
  | .int => some 0
  | .boolean => some 1
  | .long => some 2
  | _ => none
def m_nstr (T : List (List Int32)) (a : Nat) : Option (List Int32) := if a ≤ m_scr then none else T[a - m_scr - 1]?
/-- an instruction that is no call, no return, no throw; tx: the texts -/
def m_step (tx : List (List Int32)) (X : Nat × (Nat → Int32)) (op : mOp) (pc : Nat) (L : mL) (st : List Value) (M : mM) : Option mC :=
  match op.1 with
  | .aload i => match m_get L i with
    | some (.ref a) => some (pc + 2, L, .ref a :: st, M)
    | _ => none
  | .aload_n i => match m_get L i with
    | some (.ref a) => some (pc + 1, L, .ref a :: st, M)
    | _ => none
  | .iload i => match m_get L i with
    | some (.int x) => some (pc + 2, L, .int x :: st, M)
    | _ => none
  | .iload_n i => match m_get L i with
    | some (.int x) => some (pc + 1, L, .int x :: st, M)
    | _ => none
  | .lload i => match m_get L i with
    | some (.long x) => some (pc + 2, L, .long x :: st, M)
    | _ => none
  | .lload_n i => match m_get L i with
    | some (.long x) => some (pc + 1, L, .long x :: st, M)
    | _ => none
  | .istore i => m_i1 st fun x r => if i < L.length then some (pc + 2, m_set L i (.int x), r, M) else none
  | .istore_n i => m_i1 st fun x r => if (i : Nat) < L.length then some (pc + 1, m_set L i (.int x), r, M) else none
  | .astore i => m_r1 st fun x r => if i < L.length then some (pc + 2, m_set L i (.ref x), r, M) else none
  | .astore_n i => m_r1 st fun x r => if (i : Nat) < L.length then some (pc + 1, m_set L i (.ref x), r, M) else none
  | .lstore i => m_l1 st fun x r => if i + 1 < L.length then some (pc + 2, m_setL L i (.long x), r, M) else none
  | .iinc i n => match m_get L i with
    | some (.int x) => if i < L.length then some (pc + 3, m_set L i (.int (x + Int32.ofInt n)), st, M) else none
    | _ => none
  | .iconst n => some (pc + 1, L, .int (Int32.ofInt n) :: st, M)
  | .bipush n => some (pc + 2, L, .int (Int8.ofInt n).toInt32 :: st, M)
  | .sipush n => some (pc + 3, L, .int (Int16.ofInt n).toInt32 :: st, M)
  | .lconst n => some (pc + 1, L, .long (Int64.ofNat (n : Nat)) :: st, M)
  | .ldc _ => if op.2.2.2 = 0 then some (pc + 2, L, .int (Int32.ofNat op.2.2.1) :: st, M) else some (pc + 2, L, .ref (m_scr + 1 + op.2.2.1) :: st, M)
  | .ldc_w _ => if op.2.2.2 = 0 then some (pc + 3, L, .int (Int32.ofNat op.2.2.1) :: st, M) else some (pc + 3, L, .ref (m_scr + 1 + op.2.2.1) :: st, M)
  | .ldc2_w _ => some (pc + 3, L, .long (Int64.ofNat op.2.2.1) :: st, M)
  | .iadd => m_i2 st fun x y r => some (pc + 1, L, .int (x + y) :: r, M)
  | .isub => m_i2 st fun x y r => some (pc + 1, L, .int (x - y) :: r, M)
  | .imul => m_i2 st fun x y r => some (pc + 1, L, .int (x * y) :: r, M)
  | .iand => m_i2 st fun x y r => some (pc + 1, L, .int (x &&& y) :: r, M)
  | .ior => m_i2 st fun x y r => some (pc + 1, L, .int (x ||| y) :: r, M)
  | .ixor => m_i2 st fun x y r => some (pc + 1, L, .int (x ^^^ y) :: r, M)
  | .idiv => m_i2 st fun x y r => if y = 0 then none else some (pc + 1, L, .int (x / y) :: r, M)
  | .irem => m_i2 st fun x y r => if y = 0 then none else some (pc + 1, L, .int (x - x / y * y) :: r, M)
  | .ishl => m_i2 st fun x y r => some (pc + 1, L, .int (x <<< (y &&& 31)) :: r, M)
  | .ishr => m_i2 st fun x y r => some (pc + 1, L, .int (x >>> (y &&& 31)) :: r, M)
  | .iushr => m_i2 st fun x y r => some (pc + 1, L, .int (x.toUInt32 >>> (y.toUInt32 &&& Int32.toUInt32 31)).toInt32 :: r, M)
  | .ineg => m_i1 st fun x r => some (pc + 1, L, .int (-x) :: r, M)
  | .i2l => m_i1 st fun x r => some (pc + 1, L, .long x.toInt64 :: r, M)
  | .lmul => m_l2 st fun x y r => some (pc + 1, L, .long (x * y) :: r, M)
  | .ldiv => m_l2 st fun x y r => if y = 0 then none else some (pc + 1, L, .long (x / y) :: r, M)
  | .lrem => m_l2 st fun x y r => if y = 0 then none else some (pc + 1, L, .long (x - x / y * y) :: r, M)
  | .lcmp => m_l2 st fun x y r => some (pc + 1, L, .int (lg_cmp x y) :: r, M)
  | .dup => m_v1 st fun v r => some (pc + 1, L, v :: v :: r, M)
  | .pop => m_v1 st fun _ r => some (pc + 1, L, r, M)
  | .dup2 => m_v1 st fun v r => m_v1 r fun w q => some (pc + 1, L, v :: w :: v :: w :: q, M)
  | .goto off => m_jmp pc off L st M
  | .if_icmp c off => m_i2 st fun x y r => m_br (m_cc c x y) pc off L r M
  | .ifCond c off => m_i1 st fun x r => m_br (m_cc c x 0) pc off L r M
  | .tableswitch dflt lo hi offs => m_i1 st fun x r => if x.toInt < lo ∨ hi < x.toInt then m_jmp pc dflt L r M else match offs[(x.toInt - lo).toNat]? with
    | some off => m_jmp pc off L r M
    | none => none
  | .lookupswitch dflt ps => m_i1 st fun x r => if (ps.toList.zip (ps.toList.drop 1)).all (fun (a, next) => a.1 < next.1) = true then m_jmp pc (Op.lookupswitch.offset ps.toList dflt x.toInt) L r M else none
  | .arraylength => m_r1 st fun a r => m_len X M a fun n => some (pc + 1, L, .int n :: r, M)
  | .iaload => m_i1 st fun i r => m_r1 r fun a q => if a = m_scr then (if i < 0 ∨ X.1 ≤ i.toNatClampNeg then none else some (pc + 1, L, .int (X.2 i.toNatClampNeg) :: q, M)) else m_arr M 0 a i fun k => some (pc + 1, L, .int (M.1 a k) :: q, M)
  | .baload => m_i1 st fun i r => m_r1 r fun a q => m_arr M 1 a i fun k => some (pc + 1, L, .int (M.1 a k) :: q, M)
  | .laload => m_i1 st fun i r => m_r1 r fun a q => m_arr M 2 a i fun k => some (pc + 1, L, .long (M.2.2.1 a k) :: q, M)
  | .aaload => m_i1 st fun i r => m_r1 r fun a q => m_arr M op.2.2.1 a i fun k => if op.2.2.1 = 3 ∨ op.2.2.1 = 4 then some (pc + 1, L, va_rf (M.2.1 a k) :: q, M) else none
  | .iastore => m_i2 st fun i x r => m_r1 r fun a q => m_arr M 0 a i fun k => some (pc + 1, L, q, (m_up M.1 a k x, M.2))
  | .bastore => m_i2 st fun i x r => m_r1 r fun a q => m_arr M 1 a i fun k => some (pc + 1, L, q, (m_up M.1 a k (vp_nar .boolean x), M.2))
  | .lastore => m_l1 st fun x r => m_i1 r fun i r => m_r1 r fun a q => m_arr M 2 a i fun k => some (pc + 1, L, q, (M.1, M.2.1, m_up M.2.2.1 a k x, M.2.2.2))
  | .aastore => m_r1 st fun v r => m_i1 r fun i r => m_r1 r fun a q => m_arr M op.2.2.1 a i fun k => m_obj M op.2.2.2 0 v (if op.2.2.1 = 3 ∧ op.2.2.2 = 6 ∨ op.2.2.1 = 4 ∧ op.2.2.2 = 4 then some (pc + 1, L, q, (M.1, m_up M.2.1 a k (some v), M.2.2)) else none)
  | .getfield _ => m_r1 st fun a r => m_obj M op.2.2.1 (op.2.2.2 / 2) a (if op.2.2.2 % 2 = 0 then some (pc + 3, L, .int (M.1 a (op.2.2.2 / 2)) :: r, M) else some (pc + 3, L, va_rf (M.2.1 a (op.2.2.2 / 2)) :: r, M))
  | .putfield _ => if op.2.2.2 % 2 = 0 then m_i1 st fun x r => m_r1 r fun a q => m_obj M op.2.2.1 (op.2.2.2 / 2) a (some (pc + 3, L, q, (m_up M.1 a (op.2.2.2 / 2) x, M.2)))
      else m_r1 st fun v r => m_r1 r fun a q => m_obj M op.2.2.1 (op.2.2.2 / 2) a (if v < 1000 then some (pc + 3, L, q, (M.1, m_up M.2.1 a (op.2.2.2 / 2) (some v), M.2.2)) else none)
  | .new _ => m_new M (op.2.2.1 + 5) op.2.2.2 fun a M1 => some (pc + 3, L, .ref a :: st, M1)
  | .newarray t => m_i1 st fun n r => match m_akind t with
    | some kd => if n < 0 ∨ 100000 < n.toNatClampNeg then none else m_new M kd n.toNatClampNeg fun a M1 => some (pc + 2, L, .ref a :: r, M1)
    | none => none
  | .anewarray _ => m_i1 st fun n r => if n < 0 ∨ 100000 < n.toNatClampNeg ∨ ¬ (op.2.2.1 = 3 ∨ op.2.2.1 = 4) then none else m_new M op.2.2.1 n.toNatClampNeg fun a M1 => some (pc + 3, L, .ref a :: r, M1)
  | .invokestatic _ => if op.2.2.1 = 1000 then m_i2 st fun x y r => if 8 < r.length then none else some (pc + 3, L, .int (if x < y then y else x) :: r, M)
      else if op.2.2.1 = 1001 then m_i2 st fun x y r => if 8 < r.length then none else some (pc + 3, L, .int (if y < x then y else x) :: r, M)
      else if op.2.2.1 = 1002 then m_i2 st fun dp n r => m_r1 r fun a1 r => m_i1 r fun sp r => m_r1 r fun a0 q => match M.2.2.2.1[a0]?, M.2.2.2.1[a1]? with
        | some (0, n0), some (0, n1) => if 8 < q.length ∨ sp < 0 ∨ dp < 0 ∨ n < 0 ∨ n0 < sp.toNatClampNeg + n.toNatClampNeg ∨ n1 < dp.toNatClampNeg + n.toNatClampNeg then none
            else some (pc + 3, L, q, (m_row M.1 a1 (va_cpy (M.1 a0) (M.1 a1) sp.toNatClampNeg dp.toNatClampNeg n.toNatClampNeg), M.2))
        | _, _ => none
      else none
  | .invokevirtual _ => if op.2.2.1 = 1003 then m_r1 st fun a r => match m_nstr tx a with
        | some t => if 4 < r.length then none else some (pc + 3, L, .int (nI t.length) :: r, M)
        | none => none
      else if op.2.2.1 = 1004 then m_i1 st fun i r => m_r1 r fun a q => match m_nstr tx a with
        | some t => if 4 < q.length ∨ i < 0 then none else match t[i.toNatClampNeg]? with
          | some x => some (pc + 3, L, .int x :: q, M)
          | none => none
        | none => none
      else none
  | .invokespecial _ => if op.2.2.1 = 1005 then m_r1 st fun _ r => if 8 < r.length then none else some (pc + 3, L, r, M) else none
  | _ => none
def m_ck (op : mOp) : Nat := match op.1 with
  | .ireturn => 1
  | .lreturn => 1
  | .return_ => 1
  | .invokevirtual _ => if op.2.2.1 < 1000 then 2 else 0
  | .invokestatic _ => if op.2.2.1 < 1000 then 2 else 0
  | .invokespecial _ => if op.2.2.1 < 1000 then 2 else 0
  | .new _ => if 2000 ≤ op.2.2.1 then 3 else 0
  | _ => 0
def m_ret (m : mMeth) (op : mOp) (st : List Value) : Option (Option Value) := match op.1, st with
  | .ireturn, [.int x] => match m.2.2.2.1 with
    | some .int => some (some (.int x))
    | some .boolean => if x = 0 ∨ x = 1 then some (some (.int x)) else none
    | _ => none
  | .lreturn, [.long x] => match m.2.2.2.1 with
    | some .long => some (some (.long x))
    | _ => none
  | .return_, [] => match m.2.2.2.1 with
    | none => some none
    | _ => none
  | _, _ => none
def m_slots (vs : List Value) : mL := vs.flatMap fun v => if v.category = 2 then [some v, none] else [some v]
def m_ent (n : Nat) (vs : List Value) : mL := m_slots vs ++ List.replicate (n - (m_slots vs).length) none
/-- the receiver of a call is an object of the method's class -/
def m_rcv (op : mOp) (m : mMeth) (M : mM) (As : List Value) : Bool := match op.1 with
  | .invokevirtual _ => match As with
    | .ref a :: _ => match M.2.2.2.1[a]? with
      | some (kd, _) => decide (kd = m.2.2.2.2.1 + 5)
      | none => false
    | _ => false
  | .invokespecial _ => match As with
    | .ref _ :: _ => true
    | _ => false
  | _ => true
def m_call (op : mOp) (m : mMeth) (st : List Value) (M : mM) : Bool := decide (op.2.2.2 ≤ st.length ∧ (st.drop op.2.2.2).length ≤ 4 ∧ (m_slots (st.take op.2.2.2).reverse).length ≤ m.2.2.1) && m_rcv op m M (st.take op.2.2.2).reverse
def m_hand (hh : List mH) (pc k : Nat) : Option Nat := (hh.find? fun h => decide (h.1 ≤ pc ∧ pc < h.2.1 ∧ h.2.2.1 = k)).map fun h => h.2.2.2.1
/-- a call that can't throw: of a constructor, of a method with handlers -/
def m_fixed (op : mOp) (m : mMeth) : Bool := match op.1 with
  | .invokespecial _ => true
  | _ => !m.2.2.2.2.2.1.isEmpty
def m_thr (M : mM) : mM := (M.1, M.2.1, M.2.2.1, M.2.2.2.1, M.2.2.2.2 + 1)
/-- n steps at most, d calls deep at most -/
def m_run (P : List mMeth) (tx : List (List Int32)) (X : Nat × (Nat → Int32)) : Nat → Nat → Nat → mC → Option mR
  | 0, _, _, _ => none
  | n + 1, d, y, c => match P[y]? with
    | none => none
    | some m => match m.2.2.2.2.2.2.lookup c.1 with
      | none => none
      | some op => match m_ck op with
        | 0 => match m_step tx X op c.1 c.2.1 c.2.2.1 c.2.2.2 with
          | some c1 => m_run P tx X n d y c1
          | none => none
        | 1 => match m_ret m op c.2.2.1 with
          | some v => some (.inl v, c.2.2.2)
          | none => none
        | 2 => match d with
          | 0 => none
          | d1 + 1 => match P[op.2.2.1]? with
            | none => none
            | some m1 => if m_call op m1 c.2.2.1 c.2.2.2 = true then
                match m_run P tx X n d1 op.2.2.1 (0, m_ent m1.2.2.1 (c.2.2.1.take op.2.2.2).reverse, [], c.2.2.2) with
                | some (.inl v, M1) => m_run P tx X n (d1 + 1) y (c.1 + 3, c.2.1, v.toList ++ c.2.2.1.drop op.2.2.2, M1)
                | some (.inr k, M1) => if m_fixed op m1 = true then none else match m.2.2.2.2.2.1 with
                  | [] => some (.inr k, M1)
                  | h :: hh => match m_hand (h :: hh) c.1 k with
                    | some t => m_run P tx X n (d1 + 1) y (t, List.replicate c.2.1.length none, [], M1)
                    | none => none
                | none => none
              else none
        | _ => if c.2.2.1.length ≤ 8 then some (.inr (op.2.2.1 - 2000), m_thr c.2.2.2) else none
end
section
/-! the program of the small machine (written by program out of the printed names) -/
noncomputable def po_0 : List (Nat × mOp) := [(0, (.aload_n 0, 1, 0, 0)), (1, (.invokespecial 3, 278, 1005, 0)), (4, (.aload_n 0, 1, 0, 0)), (5, (.bipush 8, 2, 0, 0)), (7, (.newarray .int, 182, 0, 0)), (9, (.putfield 9, 281, 0, 3)), (12, (.aload_n 0, 1, 0, 0)), (13, (.bipush 8, 2, 0, 0)), (15, (.newarray .int, 182, 0, 0)), (17, (.putfield 15, 282, 0, 5)), (20, (.aload_n 0, 1, 0, 0)), (21, (.bipush 36, 2, 0, 0)), (23, (.newarray .boolean, 311, 0, 0)), (25, (.putfield 18, 284, 0, 9)), (28, (.aload_n 0, 1, 0, 0)), (29, (.bipush 100, 2, 0, 0)), (31, (.newarray .int, 182, 0, 0)), (33, (.putfield 22, 285, 0, 11)), (36, (.return_, 1, 0, 0))]
noncomputable def po_1 : List (Nat × mOp) := [(0, (.aload_n 0, 1, 0, 0)), (1, (.iconst 0, 1, 0, 0)), (2, (.putfield 25, 279, 0, 0)), (5, (.aload_n 0, 1, 0, 0)), (6, (.iconst 0, 1, 0, 0)), (7, (.putfield 29, 283, 0, 6)), (10, (.return_, 1, 0, 0))]
noncomputable def po_2 : List (Nat × mOp) := [(0, (.aload_n 0, 1, 0, 0)), (1, (.invokevirtual 32, 1070, 1, 1)), (4, (.iconst 0, 1, 0, 0)), (5, (.istore_n 3, 1, 0, 0)), (6, (.iload_n 3, 1, 0, 0)), (7, (.bipush 8, 2, 0, 0)), (9, (.if_icmp .gt 29, 3, 0, 0)), (12, (.aload_n 1, 1, 0, 0)), (13, (.invokevirtual 35, 1071, 86, 1)), (16, (.ifCond .eq 5, 3, 0, 0)), (19, (.iconst 1, 1, 0, 0)), (20, (.ireturn, 1, 0, 0)), (21, (.aload_n 0, 1, 0, 0)), (22, (.aload_n 1, 1, 0, 0)), (23, (.iload_n 2, 1, 0, 0)), (24, (.invokevirtual 41, 1072, 3, 3)), (27, (.ifCond .ne 5, 3, 0, 0)), (30, (.iconst 0, 1, 0, 0)), (31, (.ireturn, 1, 0, 0)), (32, (.iinc 3 1, 3, 0, 0)), (35, (.goto (-29), 3, 0, 0)), (38, (.iconst 1, 1, 0, 0)), (39, (.ireturn, 1, 0, 0))]
noncomputable def po_3 : List (Nat × mOp) := [(0, (.aload_n 1, 1, 0, 0)), (1, (.iconst 0, 1, 0, 0)), (2, (.iload_n 2, 1, 0, 0)), (3, (.iconst 1, 1, 0, 0)), (4, (.isub, 1, 0, 0)), (5, (.invokevirtual 45, 1076, 91, 3)), (8, (.ifCond .ne 5, 3, 0, 0)), (11, (.iconst 0, 1, 0, 0)), (12, (.ireturn, 1, 0, 0)), (13, (.aload_n 1, 1, 0, 0)), (14, (.getfield 49, 156, 8, 10)), (17, (.istore_n 3, 1, 0, 0)), (18, (.aload_n 0, 1, 0, 0)), (19, (.getfield 29, 283, 0, 6)), (22, (.iload_n 3, 1, 0, 0)), (23, (.ishr, 1, 0, 0)), (24, (.iconst 1, 1, 0, 0)), (25, (.iand, 1, 0, 0)), (26, (.ifCond .eq 13, 3, 0, 0)), (29, (.aload_n 1, 1, 0, 0)), (30, (.iconst 2, 1, 0, 0)), (31, (.aload_n 1, 1, 0, 0)), (32, (.getfield 52, 154, 8, 8)), (35, (.invokevirtual 55, 1077, 84, 3)), (38, (.ireturn, 1, 0, 0)), (39, (.aload_n 0, 1, 0, 0)), (40, (.getfield 25, 279, 0, 0)), (43, (.bipush 8, 2, 0, 0)), (45, (.if_icmp .lt 13, 3, 0, 0)), (48, (.aload_n 1, 1, 0, 0)), (49, (.iconst 3, 1, 0, 0)), (50, (.aload_n 1, 1, 0, 0)), (51, (.getfield 52, 154, 8, 8)), (54, (.invokevirtual 55, 1077, 84, 3)), (57, (.ireturn, 1, 0, 0)), (58, (.aload_n 1, 1, 0, 0)), (59, (.iconst 0, 1, 0, 0)), (60, (.bipush 99, 2, 0, 0)), (62, (.invokevirtual 45, 1076, 91, 3)), (65, (.ifCond .ne 5, 3, 0, 0)), (68, (.iconst 0, 1, 0, 0)), (69, (.ireturn, 1, 0, 0)), (70, (.aload_n 0, 1, 0, 0)), (71, (.getfield 9, 281, 0, 3)), (74, (.aload_n 0, 1, 0, 0)), (75, (.getfield 25, 279, 0, 0)), (78, (.iload_n 3, 1, 0, 0)), (79, (.iastore, 1, 0, 0)), (80, (.aload_n 0, 1, 0, 0)), (81, (.getfield 15, 282, 0, 5)), (84, (.aload_n 0, 1, 0, 0)), (85, (.getfield 25, 279, 0, 0)), (88, (.aload_n 1, 1, 0, 0)), (89, (.getfield 49, 156, 8, 10)), (92, (.iastore, 1, 0, 0)), (93, (.aload_n 0, 1, 0, 0)), (94, (.dup, 1, 0, 0)), (95, (.getfield 25, 279, 0, 0)), (98, (.iconst 1, 1, 0, 0)), (99, (.iadd, 1, 0, 0)), (100, (.putfield 25, 279, 0, 0)), (103, (.aload_n 0, 1, 0, 0)), (104, (.dup, 1, 0, 0)), (105, (.getfield 29, 283, 0, 6)), (108, (.iconst 1, 1, 0, 0)), (109, (.iload_n 3, 1, 0, 0)), (110, (.ishl, 1, 0, 0)), (111, (.ior, 1, 0, 0)), (112, (.putfield 29, 283, 0, 6)), (115, (.aload_n 1, 1, 0, 0)), (116, (.bipush 59, 2, 0, 0)), (118, (.invokevirtual 58, 1078, 87, 2)), (121, (.ireturn, 1, 0, 0))]
noncomputable def po_4 : List (Nat × mOp) := [(0, (.aload_n 0, 1, 0, 0)), (1, (.iconst 0, 1, 0, 0)), (2, (.putfield 62, 286, 0, 12)), (5, (.iconst 0, 1, 0, 0)), (6, (.istore 4, 2, 0, 0)), (8, (.iload 4, 2, 0, 0)), (10, (.bipush 6, 2, 0, 0)), (12, (.if_icmp .ge 94, 3, 0, 0)), (15, (.iconst 0, 1, 0, 0)), (16, (.istore 5, 2, 0, 0)), (18, (.iload 5, 2, 0, 0)), (20, (.bipush 6, 2, 0, 0)), (22, (.if_icmp .ge 78, 3, 0, 0)), (25, (.iload 4, 2, 0, 0)), (27, (.aload_n 2, 1, 0, 0)), (28, (.getfield 65, 197, 9, 2)), (31, (.if_icmp .ge 30, 3, 0, 0)), (34, (.iload 5, 2, 0, 0)), (36, (.aload_n 2, 1, 0, 0)), (37, (.getfield 70, 191, 9, 0)), (40, (.if_icmp .ge 21, 3, 0, 0)), (43, (.aload_n 0, 1, 0, 0)), (44, (.aload_n 1, 1, 0, 0)), (45, (.aload_n 2, 1, 0, 0)), (46, (.aload_n 3, 1, 0, 0)), (47, (.iload 4, 2, 0, 0)), (49, (.iload 5, 2, 0, 0)), (51, (.invokevirtual 73, 1292, 5, 6)), (54, (.ifCond .eq 7, 3, 0, 0)), (57, (.iconst 1, 1, 0, 0)), (58, (.goto 4, 3, 0, 0)), (61, (.iconst 0, 1, 0, 0)), (62, (.istore 6, 2, 0, 0)), (64, (.aload_n 0, 1, 0, 0)), (65, (.getfield 18, 284, 0, 9)), (68, (.iload 4, 2, 0, 0)), (70, (.bipush 6, 2, 0, 0)), (72, (.imul, 1, 0, 0)), (73, (.iload 5, 2, 0, 0)), (75, (.iadd, 1, 0, 0)), (76, (.iload 6, 2, 0, 0)), (78, (.bastore, 1, 0, 0)), (79, (.iload 6, 2, 0, 0)), (81, (.ifCond .eq 13, 3, 0, 0)), (84, (.aload_n 0, 1, 0, 0)), (85, (.dup, 1, 0, 0)), (86, (.getfield 62, 286, 0, 12)), (89, (.iconst 1, 1, 0, 0)), (90, (.iadd, 1, 0, 0)), (91, (.putfield 62, 286, 0, 12)), (94, (.iinc 5 1, 3, 0, 0)), (97, (.goto (-79), 3, 0, 0)), (100, (.iinc 4 1, 3, 0, 0)), (103, (.goto (-95), 3, 0, 0)), (106, (.return_, 1, 0, 0))]
noncomputable def po_5 : List (Nat × mOp) := [(0, (.iconst 0, 1, 0, 0)), (1, (.istore 6, 2, 0, 0)), (3, (.iload 6, 2, 0, 0)), (5, (.aload_n 0, 1, 0, 0)), (6, (.getfield 25, 279, 0, 0)), (9, (.if_icmp .ge 38, 3, 0, 0)), (12, (.aload_n 1, 1, 0, 0)), (13, (.aload_n 2, 1, 0, 0)), (14, (.aload_n 3, 1, 0, 0)), (15, (.iload 4, 2, 0, 0)), (17, (.iload 5, 2, 0, 0)), (19, (.aload_n 0, 1, 0, 0)), (20, (.getfield 9, 281, 0, 3)), (23, (.iload 6, 2, 0, 0)), (25, (.iaload, 1, 0, 0)), (26, (.invokevirtual 77, 1296, 49, 6)), (29, (.aload_n 0, 1, 0, 0)), (30, (.getfield 15, 282, 0, 5)), (33, (.iload 6, 2, 0, 0)), (35, (.iaload, 1, 0, 0)), (36, (.if_icmp .eq 5, 3, 0, 0)), (39, (.iconst 0, 1, 0, 0)), (40, (.ireturn, 1, 0, 0)), (41, (.iinc 6 1, 3, 0, 0)), (44, (.goto (-41), 3, 0, 0)), (47, (.iconst 1, 1, 0, 0)), (48, (.ireturn, 1, 0, 0))]
noncomputable def po_6 : List (Nat × mOp) := [(0, (.iconst 0, 1, 0, 0)), (1, (.istore_n 1, 1, 0, 0)), (2, (.iload_n 1, 1, 0, 0)), (3, (.aload_n 0, 1, 0, 0)), (4, (.getfield 18, 284, 0, 9)), (7, (.arraylength, 1, 0, 0)), (8, (.if_icmp .ge 31, 3, 0, 0)), (11, (.aload_n 0, 1, 0, 0)), (12, (.getfield 18, 284, 0, 9)), (15, (.iload_n 1, 1, 0, 0)), (16, (.baload, 1, 0, 0)), (17, (.ifCond .eq 16, 3, 0, 0)), (20, (.iload_n 1, 1, 0, 0)), (21, (.bipush 6, 2, 0, 0)), (23, (.idiv, 1, 0, 0)), (24, (.bipush 10, 2, 0, 0)), (26, (.imul, 1, 0, 0)), (27, (.iload_n 1, 1, 0, 0)), (28, (.bipush 6, 2, 0, 0)), (30, (.irem, 1, 0, 0)), (31, (.iadd, 1, 0, 0)), (32, (.ireturn, 1, 0, 0)), (33, (.iinc 1 1, 3, 0, 0)), (36, (.goto (-34), 3, 0, 0)), (39, (.iconst (-1), 1, 0, 0)), (40, (.ireturn, 1, 0, 0))]
noncomputable def po_7 : List (Nat × mOp) := [(0, (.aload_n 0, 1, 0, 0)), (1, (.iconst (-1), 1, 0, 0)), (2, (.putfield 83, 288, 0, 14)), (5, (.aload_n 0, 1, 0, 0)), (6, (.iconst (-1), 1, 0, 0)), (7, (.putfield 86, 290, 0, 16)), (10, (.iconst 0, 1, 0, 0)), (11, (.istore 4, 2, 0, 0)), (13, (.iload 4, 2, 0, 0)), (15, (.aload_n 2, 1, 0, 0)), (16, (.getfield 89, 205, 9, 4)), (19, (.if_icmp .ge 61, 3, 0, 0)), (22, (.aload_n 0, 1, 0, 0)), (23, (.getfield 29, 283, 0, 6)), (26, (.iload 4, 2, 0, 0)), (28, (.ishr, 1, 0, 0)), (29, (.iconst 1, 1, 0, 0)), (30, (.iand, 1, 0, 0)), (31, (.ifCond .ne 43, 3, 0, 0)), (34, (.aload_n 0, 1, 0, 0)), (35, (.aload_n 1, 1, 0, 0)), (36, (.aload_n 2, 1, 0, 0)), (37, (.aload_n 3, 1, 0, 0)), (38, (.iload 4, 2, 0, 0)), (40, (.invokevirtual 91, 1315, 8, 5)), (43, (.istore 5, 2, 0, 0)), (45, (.aload_n 0, 1, 0, 0)), (46, (.getfield 83, 288, 0, 14)), (49, (.iconst (-1), 1, 0, 0)), (50, (.if_icmp .eq 12, 3, 0, 0)), (53, (.iload 5, 2, 0, 0)), (55, (.aload_n 0, 1, 0, 0)), (56, (.getfield 86, 290, 0, 16)), (59, (.if_icmp .ge 15, 3, 0, 0)), (62, (.aload_n 0, 1, 0, 0)), (63, (.iload 4, 2, 0, 0)), (65, (.putfield 83, 288, 0, 14)), (68, (.aload_n 0, 1, 0, 0)), (69, (.iload 5, 2, 0, 0)), (71, (.putfield 86, 290, 0, 16)), (74, (.iinc 4 1, 3, 0, 0)), (77, (.goto (-64), 3, 0, 0)), (80, (.return_, 1, 0, 0))]
noncomputable def po_8 : List (Nat × mOp) := [(0, (.iconst 0, 1, 0, 0)), (1, (.istore 5, 2, 0, 0)), (3, (.iload 5, 2, 0, 0)), (5, (.aload_n 0, 1, 0, 0)), (6, (.getfield 22, 285, 0, 11)), (9, (.arraylength, 1, 0, 0)), (10, (.if_icmp .ge 17, 3, 0, 0)), (13, (.aload_n 0, 1, 0, 0)), (14, (.getfield 22, 285, 0, 11)), (17, (.iload 5, 2, 0, 0)), (19, (.iconst 0, 1, 0, 0)), (20, (.iastore, 1, 0, 0)), (21, (.iinc 5 1, 3, 0, 0)), (24, (.goto (-21), 3, 0, 0)), (27, (.iconst 0, 1, 0, 0)), (28, (.istore 5, 2, 0, 0)), (30, (.iconst 0, 1, 0, 0)), (31, (.istore 6, 2, 0, 0)), (33, (.iload 6, 2, 0, 0)), (35, (.aload_n 0, 1, 0, 0)), (36, (.getfield 18, 284, 0, 9)), (39, (.arraylength, 1, 0, 0)), (40, (.if_icmp .ge 79, 3, 0, 0)), (43, (.aload_n 0, 1, 0, 0)), (44, (.getfield 18, 284, 0, 9)), (47, (.iload 6, 2, 0, 0)), (49, (.baload, 1, 0, 0)), (50, (.ifCond .eq 63, 3, 0, 0)), (53, (.aload_n 1, 1, 0, 0)), (54, (.aload_n 2, 1, 0, 0)), (55, (.aload_n 3, 1, 0, 0)), (56, (.iload 6, 2, 0, 0)), (58, (.bipush 6, 2, 0, 0)), (60, (.idiv, 1, 0, 0)), (61, (.iload 6, 2, 0, 0)), (63, (.bipush 6, 2, 0, 0)), (65, (.irem, 1, 0, 0)), (66, (.iload 4, 2, 0, 0)), (68, (.invokevirtual 77, 1296, 49, 6)), (71, (.istore 7, 2, 0, 0)), (73, (.iload 7, 2, 0, 0)), (75, (.ifCond .lt 38, 3, 0, 0)), (78, (.iload 7, 2, 0, 0)), (80, (.aload_n 0, 1, 0, 0)), (81, (.getfield 22, 285, 0, 11)), (84, (.arraylength, 1, 0, 0)), (85, (.if_icmp .ge 28, 3, 0, 0)), (88, (.aload_n 0, 1, 0, 0)), (89, (.getfield 22, 285, 0, 11)), (92, (.iload 7, 2, 0, 0)), (94, (.dup2, 1, 0, 0)), (95, (.iaload, 1, 0, 0)), (96, (.iconst 1, 1, 0, 0)), (97, (.iadd, 1, 0, 0)), (98, (.iastore, 1, 0, 0)), (99, (.iload 5, 2, 0, 0)), (101, (.aload_n 0, 1, 0, 0)), (102, (.getfield 22, 285, 0, 11)), (105, (.iload 7, 2, 0, 0)), (107, (.iaload, 1, 0, 0)), (108, (.invokestatic 95, 1319, 1000, 0)), (111, (.istore 5, 2, 0, 0)), (113, (.iinc 6 1, 3, 0, 0)), (116, (.goto (-83), 3, 0, 0)), (119, (.iload 5, 2, 0, 0)), (121, (.ireturn, 1, 0, 0))]
noncomputable def po_9 : List (Nat × mOp) := [(0, (.aload_n 0, 1, 0, 0)), (1, (.invokespecial 3, 444, 1005, 0)), (4, (.aload_n 0, 1, 0, 0)), (5, (.bipush 54, 2, 0, 0)), (7, (.newarray .int, 182, 0, 0)), (9, (.putfield 9, 445, 1, 1)), (12, (.aload_n 0, 1, 0, 0)), (13, (.sipush 3584, 3, 0, 0)), (16, (.newarray .int, 182, 0, 0)), (18, (.putfield 15, 446, 1, 3)), (21, (.return_, 1, 0, 0))]
noncomputable def po_10 : List (Nat × mOp) := [(0, (.iconst 0, 1, 0, 0)), (1, (.istore 5, 2, 0, 0)), (3, (.iload 5, 2, 0, 0)), (5, (.aload_n 2, 1, 0, 0)), (6, (.getfield 18, 194, 9, 2)), (9, (.if_icmp .ge 62, 3, 0, 0)), (12, (.iconst 0, 1, 0, 0)), (13, (.istore 6, 2, 0, 0)), (15, (.iload 6, 2, 0, 0)), (17, (.aload_n 2, 1, 0, 0)), (18, (.getfield 24, 201, 9, 4)), (21, (.if_icmp .ge 44, 3, 0, 0)), (24, (.aload_n 0, 1, 0, 0)), (25, (.getfield 9, 445, 1, 1)), (28, (.iload 5, 2, 0, 0)), (30, (.bipush 9, 2, 0, 0)), (32, (.imul, 1, 0, 0)), (33, (.iload 6, 2, 0, 0)), (35, (.iadd, 1, 0, 0)), (36, (.aload_n 1, 1, 0, 0)), (37, (.getfield 27, 360, 6, 9)), (40, (.iload 6, 2, 0, 0)), (42, (.iaload, 1, 0, 0)), (43, (.aload_n 1, 1, 0, 0)), (44, (.aload_n 2, 1, 0, 0)), (45, (.aload_n 3, 1, 0, 0)), (46, (.iload 5, 2, 0, 0)), (48, (.iload 4, 2, 0, 0)), (50, (.iload 6, 2, 0, 0)), (52, (.invokevirtual 32, 1227, 48, 6)), (55, (.invokestatic 36, 1228, 1001, 0)), (58, (.iastore, 1, 0, 0)), (59, (.iinc 6 1, 3, 0, 0)), (62, (.goto (-47), 3, 0, 0)), (65, (.iinc 5 1, 3, 0, 0)), (68, (.goto (-65), 3, 0, 0)), (71, (.iconst 1, 1, 0, 0)), (72, (.aload_n 2, 1, 0, 0)), (73, (.getfield 24, 201, 9, 4)), (76, (.ishl, 1, 0, 0)), (77, (.istore 5, 2, 0, 0)), (79, (.iconst 0, 1, 0, 0)), (80, (.istore 6, 2, 0, 0)), (82, (.iload 6, 2, 0, 0)), (84, (.iload 5, 2, 0, 0)), (86, (.if_icmp .ge 26, 3, 0, 0)), (89, (.aload_n 0, 1, 0, 0)), (90, (.getfield 15, 446, 1, 3)), (93, (.aload_n 2, 1, 0, 0)), (94, (.getfield 18, 194, 9, 2)), (97, (.sipush 512, 3, 0, 0)), (100, (.imul, 1, 0, 0)), (101, (.iload 6, 2, 0, 0)), (103, (.iadd, 1, 0, 0)), (104, (.iconst 0, 1, 0, 0)), (105, (.iastore, 1, 0, 0)), (106, (.iinc 6 1, 3, 0, 0)), (109, (.goto (-27), 3, 0, 0)), (112, (.aload_n 2, 1, 0, 0)), (113, (.getfield 18, 194, 9, 2)), (116, (.iconst 1, 1, 0, 0)), (117, (.isub, 1, 0, 0)), (118, (.istore 6, 2, 0, 0)), (120, (.iload 6, 2, 0, 0)), (122, (.ifCond .lt 59, 3, 0, 0)), (125, (.iconst 0, 1, 0, 0)), (126, (.istore 7, 2, 0, 0)), (128, (.iload 7, 2, 0, 0)), (130, (.iload 5, 2, 0, 0)), (132, (.if_icmp .ge 43, 3, 0, 0)), (135, (.iload 7, 2, 0, 0)), (137, (.invokestatic 42, 1229, 276, 1)), (140, (.iload 6, 2, 0, 0)), (142, (.if_icmp .gt 27, 3, 0, 0)), (145, (.aload_n 0, 1, 0, 0)), (146, (.getfield 15, 446, 1, 3)), (149, (.iload 6, 2, 0, 0)), (151, (.sipush 512, 3, 0, 0)), (154, (.imul, 1, 0, 0)), (155, (.iload 7, 2, 0, 0)), (157, (.iadd, 1, 0, 0)), (158, (.aload_n 0, 1, 0, 0)), (159, (.aload_n 1, 1, 0, 0)), (160, (.aload_n 2, 1, 0, 0)), (161, (.iload 6, 2, 0, 0)), (163, (.iload 7, 2, 0, 0)), (165, (.invokevirtual 48, 1230, 11, 5)), (168, (.iastore, 1, 0, 0)), (169, (.iinc 7 1, 3, 0, 0)), (172, (.goto (-44), 3, 0, 0)), (175, (.iinc 6 (-1), 3, 0, 0)), (178, (.goto (-58), 3, 0, 0)), (181, (.return_, 1, 0, 0))]
noncomputable def po_11 : List (Nat × mOp) := [(0, (.aload_n 0, 1, 0, 0)), (1, (.getfield 15, 446, 1, 3)), (4, (.iload_n 3, 1, 0, 0)), (5, (.iconst 1, 1, 0, 0)), (6, (.iadd, 1, 0, 0)), (7, (.sipush 512, 3, 0, 0)), (10, (.imul, 1, 0, 0)), (11, (.iload 4, 2, 0, 0)), (13, (.iadd, 1, 0, 0)), (14, (.iaload, 1, 0, 0)), (15, (.istore 5, 2, 0, 0)), (17, (.aload_n 1, 1, 0, 0)), (18, (.iload_n 3, 1, 0, 0)), (19, (.invokevirtual 52, 1234, 47, 2)), (22, (.ifCond .eq 6, 3, 0, 0)), (25, (.iload 5, 2, 0, 0)), (27, (.ireturn, 1, 0, 0)), (28, (.iconst 0, 1, 0, 0)), (29, (.istore 6, 2, 0, 0)), (31, (.iload 6, 2, 0, 0)), (33, (.aload_n 2, 1, 0, 0)), (34, (.getfield 24, 201, 9, 4)), (37, (.if_icmp .ge 35, 3, 0, 0)), (40, (.iload 4, 2, 0, 0)), (42, (.iload 6, 2, 0, 0)), (44, (.ishr, 1, 0, 0)), (45, (.iconst 1, 1, 0, 0)), (46, (.iand, 1, 0, 0)), (47, (.ifCond .ne 19, 3, 0, 0)), (50, (.iload 5, 2, 0, 0)), (52, (.aload_n 0, 1, 0, 0)), (53, (.iload_n 3, 1, 0, 0)), (54, (.iload 6, 2, 0, 0)), (56, (.iload 4, 2, 0, 0)), (58, (.invokevirtual 56, 1235, 12, 4)), (61, (.invokestatic 60, 1239, 1000, 0)), (64, (.istore 5, 2, 0, 0)), (66, (.iinc 6 1, 3, 0, 0)), (69, (.goto (-38), 3, 0, 0)), (72, (.iload 5, 2, 0, 0)), (74, (.ireturn, 1, 0, 0))]
noncomputable def po_12 : List (Nat × mOp) := [(0, (.aload_n 0, 1, 0, 0)), (1, (.getfield 9, 445, 1, 1)), (4, (.iload_n 1, 1, 0, 0)), (5, (.bipush 9, 2, 0, 0)), (7, (.imul, 1, 0, 0)), (8, (.iload_n 2, 1, 0, 0)), (9, (.iadd, 1, 0, 0)), (10, (.iaload, 1, 0, 0)), (11, (.aload_n 0, 1, 0, 0)), (12, (.getfield 15, 446, 1, 3)), (15, (.iload_n 1, 1, 0, 0)), (16, (.iconst 1, 1, 0, 0)), (17, (.iadd, 1, 0, 0)), (18, (.sipush 512, 3, 0, 0)), (21, (.imul, 1, 0, 0)), (22, (.iload_n 3, 1, 0, 0)), (23, (.iconst 1, 1, 0, 0)), (24, (.iload_n 2, 1, 0, 0)), (25, (.ishl, 1, 0, 0)), (26, (.ior, 1, 0, 0)), (27, (.iadd, 1, 0, 0)), (28, (.iaload, 1, 0, 0)), (29, (.iadd, 1, 0, 0)), (30, (.ireturn, 1, 0, 0))]
noncomputable def po_13 : List (Nat × mOp) := [(0, (.aload_n 0, 1, 0, 0)), (1, (.getfield 15, 446, 1, 3)), (4, (.iconst 0, 1, 0, 0)), (5, (.iaload, 1, 0, 0)), (6, (.ireturn, 1, 0, 0))]
noncomputable def po_14 : List (Nat × mOp) := [(0, (.iconst 0, 1, 0, 0)), (1, (.istore 4, 2, 0, 0)), (3, (.iconst (-1), 1, 0, 0)), (4, (.istore 5, 2, 0, 0)), (6, (.iconst 0, 1, 0, 0)), (7, (.istore 6, 2, 0, 0)), (9, (.iload 6, 2, 0, 0)), (11, (.iload_n 3, 1, 0, 0)), (12, (.if_icmp .gt 45, 3, 0, 0)), (15, (.iload 6, 2, 0, 0)), (17, (.aload_n 2, 1, 0, 0)), (18, (.getfield 18, 194, 9, 2)), (21, (.if_icmp .ge 36, 3, 0, 0)), (24, (.aload_n 0, 1, 0, 0)), (25, (.aload_n 1, 1, 0, 0)), (26, (.aload_n 2, 1, 0, 0)), (27, (.iload 6, 2, 0, 0)), (29, (.iload 4, 2, 0, 0)), (31, (.invokevirtual 63, 1255, 15, 5)), (34, (.istore 5, 2, 0, 0)), (36, (.iload 5, 2, 0, 0)), (38, (.iconst (-1), 1, 0, 0)), (39, (.if_icmp .eq 12, 3, 0, 0)), (42, (.iload 4, 2, 0, 0)), (44, (.iconst 1, 1, 0, 0)), (45, (.iload 5, 2, 0, 0)), (47, (.ishl, 1, 0, 0)), (48, (.ior, 1, 0, 0)), (49, (.istore 4, 2, 0, 0)), (51, (.iinc 6 1, 3, 0, 0)), (54, (.goto (-45), 3, 0, 0)), (57, (.iload 5, 2, 0, 0)), (59, (.ireturn, 1, 0, 0))]
noncomputable def po_15 : List (Nat × mOp) := [(0, (.aload_n 1, 1, 0, 0)), (1, (.iload_n 3, 1, 0, 0)), (2, (.invokevirtual 52, 1234, 47, 2)), (5, (.ifCond .eq 5, 3, 0, 0)), (8, (.iconst (-1), 1, 0, 0)), (9, (.ireturn, 1, 0, 0)), (10, (.iconst 0, 1, 0, 0)), (11, (.istore 5, 2, 0, 0)), (13, (.iload 5, 2, 0, 0)), (15, (.aload_n 2, 1, 0, 0)), (16, (.getfield 24, 201, 9, 4)), (19, (.if_icmp .ge 47, 3, 0, 0)), (22, (.iload 4, 2, 0, 0)), (24, (.iload 5, 2, 0, 0)), (26, (.ishr, 1, 0, 0)), (27, (.iconst 1, 1, 0, 0)), (28, (.iand, 1, 0, 0)), (29, (.ifCond .ne 31, 3, 0, 0)), (32, (.aload_n 0, 1, 0, 0)), (33, (.iload_n 3, 1, 0, 0)), (34, (.iload 5, 2, 0, 0)), (36, (.iload 4, 2, 0, 0)), (38, (.invokevirtual 56, 1235, 12, 4)), (41, (.aload_n 0, 1, 0, 0)), (42, (.getfield 15, 446, 1, 3)), (45, (.iload_n 3, 1, 0, 0)), (46, (.sipush 512, 3, 0, 0)), (49, (.imul, 1, 0, 0)), (50, (.iload 4, 2, 0, 0)), (52, (.iadd, 1, 0, 0)), (53, (.iaload, 1, 0, 0)), (54, (.if_icmp .ne 6, 3, 0, 0)), (57, (.iload 5, 2, 0, 0)), (59, (.ireturn, 1, 0, 0)), (60, (.iinc 5 1, 3, 0, 0)), (63, (.goto (-50), 3, 0, 0)), (66, (.iconst (-1), 1, 0, 0)), (67, (.ireturn, 1, 0, 0))]
noncomputable def po_16 : List (Nat × mOp) := [(0, (.aload_n 0, 1, 0, 0)), (1, (.invokespecial 3, 422, 1005, 0)), (4, (.aload_n 0, 1, 0, 0)), (5, (.iconst 3, 1, 0, 0)), (6, (.anewarray 9, 3, 3, 0)), (9, (.putfield 11, 428, 2, 1)), (12, (.aload_n 0, 1, 0, 0)), (13, (.iconst 3, 1, 0, 0)), (14, (.anewarray 17, 3, 4, 0)), (17, (.putfield 19, 429, 2, 3)), (20, (.iconst 0, 1, 0, 0)), (21, (.istore_n 1, 1, 0, 0)), (22, (.iload_n 1, 1, 0, 0)), (23, (.iconst 3, 1, 0, 0)), (24, (.if_icmp .ge 35, 3, 0, 0)), (27, (.aload_n 0, 1, 0, 0)), (28, (.getfield 11, 428, 2, 1)), (31, (.iload_n 1, 1, 0, 0)), (32, (.new 9, 423, 6, 9)), (35, (.dup, 1, 0, 0)), (36, (.invokespecial 23, 426, 42, 1)), (39, (.aastore, 1, 3, 6)), (40, (.aload_n 0, 1, 0, 0)), (41, (.getfield 19, 429, 2, 3)), (44, (.iload_n 1, 1, 0, 0)), (45, (.new 17, 424, 4, 2)), (48, (.dup, 1, 0, 0)), (49, (.invokespecial 24, 427, 34, 1)), (52, (.aastore, 1, 4, 4)), (53, (.iinc 1 1, 3, 0, 0)), (56, (.goto (-34), 3, 0, 0)), (59, (.return_, 1, 0, 0))]
noncomputable def po_17 : List (Nat × mOp) := [(0, (.aload_n 0, 1, 0, 0)), (1, (.iconst 0, 1, 0, 0)), (2, (.putfield 25, 430, 2, 4)), (5, (.return_, 1, 0, 0))]
noncomputable def po_18 : List (Nat × mOp) := [(0, (.aload_n 0, 1, 0, 0)), (1, (.getfield 25, 430, 2, 4)), (4, (.iconst 3, 1, 0, 0)), (5, (.if_icmp .lt 5, 3, 0, 0)), (8, (.iconst (-1), 1, 0, 0)), (9, (.ireturn, 1, 0, 0)), (10, (.aload_n 0, 1, 0, 0)), (11, (.getfield 11, 428, 2, 1)), (14, (.aload_n 0, 1, 0, 0)), (15, (.getfield 25, 430, 2, 4)), (18, (.aaload, 1, 3, 6)), (19, (.aload_n 1, 1, 0, 0)), (20, (.invokevirtual 29, 593, 44, 2)), (23, (.aload_n 0, 1, 0, 0)), (24, (.getfield 19, 429, 2, 3)), (27, (.aload_n 0, 1, 0, 0)), (28, (.getfield 25, 430, 2, 4)), (31, (.aaload, 1, 4, 4)), (32, (.aload_n 2, 1, 0, 0)), (33, (.invokevirtual 33, 594, 39, 2)), (36, (.aload_n 0, 1, 0, 0)), (37, (.dup, 1, 0, 0)), (38, (.getfield 25, 430, 2, 4)), (41, (.iconst 1, 1, 0, 0)), (42, (.iadd, 1, 0, 0)), (43, (.putfield 25, 430, 2, 4)), (46, (.aload_n 0, 1, 0, 0)), (47, (.getfield 25, 430, 2, 4)), (50, (.ireturn, 1, 0, 0))]
noncomputable def po_19 : List (Nat × mOp) := [(0, (.aload_n 0, 1, 0, 0)), (1, (.getfield 25, 430, 2, 4)), (4, (.ifCond .gt 5, 3, 0, 0)), (7, (.iconst 0, 1, 0, 0)), (8, (.ireturn, 1, 0, 0)), (9, (.aload_n 0, 1, 0, 0)), (10, (.dup, 1, 0, 0)), (11, (.getfield 25, 430, 2, 4)), (14, (.iconst 1, 1, 0, 0)), (15, (.isub, 1, 0, 0)), (16, (.putfield 25, 430, 2, 4)), (19, (.aload_n 1, 1, 0, 0)), (20, (.aload_n 0, 1, 0, 0)), (21, (.getfield 11, 428, 2, 1)), (24, (.aload_n 0, 1, 0, 0)), (25, (.getfield 25, 430, 2, 4)), (28, (.aaload, 1, 3, 6)), (29, (.invokevirtual 29, 593, 44, 2)), (32, (.aload_n 2, 1, 0, 0)), (33, (.aload_n 0, 1, 0, 0)), (34, (.getfield 19, 429, 2, 3)), (37, (.aload_n 0, 1, 0, 0)), (38, (.getfield 25, 430, 2, 4)), (41, (.aaload, 1, 4, 4)), (42, (.invokevirtual 33, 594, 39, 2)), (45, (.iconst 1, 1, 0, 0)), (46, (.ireturn, 1, 0, 0))]
noncomputable def po_20 : List (Nat × mOp) := [(0, (.aload_n 0, 1, 0, 0)), (1, (.invokespecial 3, 259, 1005, 0)), (4, (.aload_n 0, 1, 0, 0)), (5, (.sipush 150, 3, 0, 0)), (8, (.newarray .int, 182, 0, 0)), (10, (.putfield 9, 260, 3, 1)), (13, (.aload_n 0, 1, 0, 0)), (14, (.bipush 8, 2, 0, 0)), (16, (.newarray .int, 182, 0, 0)), (18, (.putfield 15, 262, 3, 5)), (21, (.aload_n 0, 1, 0, 0)), (22, (.bipush 40, 2, 0, 0)), (24, (.newarray .int, 182, 0, 0)), (26, (.putfield 18, 263, 3, 7)), (29, (.return_, 1, 0, 0))]
noncomputable def po_21 : List (Nat × mOp) := [(0, (.aload_n 0, 1, 0, 0)), (1, (.iconst 0, 1, 0, 0)), (2, (.putfield 21, 261, 3, 2)), (5, (.return_, 1, 0, 0))]
noncomputable def po_22 : List (Nat × mOp) := [(0, (.aload_n 0, 1, 0, 0)), (1, (.invokevirtual 25, 860, 21, 1)), (4, (.aload_n 0, 1, 0, 0)), (5, (.aload_n 1, 1, 0, 0)), (6, (.iconst 0, 1, 0, 0)), (7, (.invokevirtual 28, 861, 23, 3)), (10, (.ifCond .ne 5, 3, 0, 0)), (13, (.iconst 0, 1, 0, 0)), (14, (.ireturn, 1, 0, 0)), (15, (.aload_n 1, 1, 0, 0)), (16, (.invokevirtual 32, 905, 86, 1)), (19, (.ifCond .ne 15, 3, 0, 0)), (22, (.aload_n 1, 1, 0, 0)), (23, (.iconst 1, 1, 0, 0)), (24, (.aload_n 1, 1, 0, 0)), (25, (.getfield 38, 150, 8, 6)), (28, (.invokevirtual 41, 878, 84, 3)), (31, (.ifCond .eq 7, 3, 0, 0)), (34, (.iconst 1, 1, 0, 0)), (35, (.goto 4, 3, 0, 0)), (38, (.iconst 0, 1, 0, 0)), (39, (.ireturn, 1, 0, 0))]
noncomputable def po_23 : List (Nat × mOp) := [(0, (.aload_n 0, 1, 0, 0)), (1, (.aload_n 1, 1, 0, 0)), (2, (.iload_n 2, 1, 0, 0)), (3, (.invokevirtual 45, 865, 24, 3)), (6, (.ifCond .ne 5, 3, 0, 0)), (9, (.iconst 0, 1, 0, 0)), (10, (.ireturn, 1, 0, 0)), (11, (.iconst 0, 1, 0, 0)), (12, (.istore_n 3, 1, 0, 0)), (13, (.iload_n 3, 1, 0, 0)), (14, (.sipush 150, 3, 0, 0)), (17, (.if_icmp .ge 73, 3, 0, 0)), (20, (.aload_n 1, 1, 0, 0)), (21, (.invokevirtual 48, 873, 85, 1)), (24, (.istore 4, 2, 0, 0)), (26, (.iload 4, 2, 0, 0)), (28, (.bipush 43, 2, 0, 0)), (30, (.if_icmp .eq 12, 3, 0, 0)), (33, (.iload 4, 2, 0, 0)), (35, (.bipush 45, 2, 0, 0)), (37, (.if_icmp .eq 5, 3, 0, 0)), (40, (.iconst 1, 1, 0, 0)), (41, (.ireturn, 1, 0, 0)), (42, (.aload_n 1, 1, 0, 0)), (43, (.dup, 1, 0, 0)), (44, (.getfield 38, 150, 8, 6)), (47, (.iconst 1, 1, 0, 0)), (48, (.iadd, 1, 0, 0)), (49, (.putfield 38, 150, 8, 6)), (52, (.aload_n 0, 1, 0, 0)), (53, (.aload_n 1, 1, 0, 0)), (54, (.iload_n 2, 1, 0, 0)), (55, (.invokevirtual 45, 865, 24, 3)), (58, (.ifCond .ne 5, 3, 0, 0)), (61, (.iconst 0, 1, 0, 0)), (62, (.ireturn, 1, 0, 0)), (63, (.aload_n 0, 1, 0, 0)), (64, (.sipush 2000, 3, 0, 0)), (67, (.iload 4, 2, 0, 0)), (69, (.bipush 43, 2, 0, 0)), (71, (.if_icmp .ne 7, 3, 0, 0)), (74, (.iconst 0, 1, 0, 0)), (75, (.goto 4, 3, 0, 0)), (78, (.iconst 1, 1, 0, 0)), (79, (.iadd, 1, 0, 0)), (80, (.invokevirtual 52, 882, 29, 2)), (83, (.pop, 1, 0, 0)), (84, (.iinc 3 1, 3, 0, 0)), (87, (.goto (-74), 3, 0, 0)), (90, (.iconst 1, 1, 0, 0)), (91, (.ireturn, 1, 0, 0))]
noncomputable def po_24 : List (Nat × mOp) := [(0, (.aload_n 0, 1, 0, 0)), (1, (.aload_n 1, 1, 0, 0)), (2, (.iload_n 2, 1, 0, 0)), (3, (.invokevirtual 56, 869, 25, 3)), (6, (.ifCond .ne 5, 3, 0, 0)), (9, (.iconst 0, 1, 0, 0)), (10, (.ireturn, 1, 0, 0)), (11, (.iconst 0, 1, 0, 0)), (12, (.istore_n 3, 1, 0, 0)), (13, (.iload_n 3, 1, 0, 0)), (14, (.sipush 150, 3, 0, 0)), (17, (.if_icmp .ge 91, 3, 0, 0)), (20, (.aload_n 1, 1, 0, 0)), (21, (.invokevirtual 48, 873, 85, 1)), (24, (.istore 4, 2, 0, 0)), (26, (.iload 4, 2, 0, 0)), (28, (.bipush 42, 2, 0, 0)), (30, (.if_icmp .eq 19, 3, 0, 0)), (33, (.iload 4, 2, 0, 0)), (35, (.bipush 47, 2, 0, 0)), (37, (.if_icmp .eq 12, 3, 0, 0)), (40, (.iload 4, 2, 0, 0)), (42, (.bipush 37, 2, 0, 0)), (44, (.if_icmp .eq 5, 3, 0, 0)), (47, (.iconst 1, 1, 0, 0)), (48, (.ireturn, 1, 0, 0)), (49, (.aload_n 1, 1, 0, 0)), (50, (.dup, 1, 0, 0)), (51, (.getfield 38, 150, 8, 6)), (54, (.iconst 1, 1, 0, 0)), (55, (.iadd, 1, 0, 0)), (56, (.putfield 38, 150, 8, 6)), (59, (.aload_n 0, 1, 0, 0)), (60, (.aload_n 1, 1, 0, 0)), (61, (.iload_n 2, 1, 0, 0)), (62, (.invokevirtual 56, 869, 25, 3)), (65, (.ifCond .ne 5, 3, 0, 0)), (68, (.iconst 0, 1, 0, 0)), (69, (.ireturn, 1, 0, 0)), (70, (.aload_n 0, 1, 0, 0)), (71, (.sipush 2000, 3, 0, 0)), (74, (.iload 4, 2, 0, 0)), (76, (.bipush 42, 2, 0, 0)), (78, (.if_icmp .ne 7, 3, 0, 0)), (81, (.iconst 2, 1, 0, 0)), (82, (.goto 15, 3, 0, 0)), (85, (.iload 4, 2, 0, 0)), (87, (.bipush 47, 2, 0, 0)), (89, (.if_icmp .ne 7, 3, 0, 0)), (92, (.iconst 3, 1, 0, 0)), (93, (.goto 4, 3, 0, 0)), (96, (.iconst 4, 1, 0, 0)), (97, (.iadd, 1, 0, 0)), (98, (.invokevirtual 52, 882, 29, 2)), (101, (.pop, 1, 0, 0)), (102, (.iinc 3 1, 3, 0, 0)), (105, (.goto (-92), 3, 0, 0)), (108, (.iconst 1, 1, 0, 0)), (109, (.ireturn, 1, 0, 0))]
noncomputable def po_25 : List (Nat × mOp) := [(0, (.aload_n 1, 1, 0, 0)), (1, (.invokevirtual 48, 873, 85, 1)), (4, (.bipush 40, 2, 0, 0)), (6, (.if_icmp .ne 10, 3, 0, 0)), (9, (.aload_n 0, 1, 0, 0)), (10, (.aload_n 1, 1, 0, 0)), (11, (.iload_n 2, 1, 0, 0)), (12, (.invokevirtual 59, 874, 26, 3)), (15, (.ireturn, 1, 0, 0)), (16, (.aload_n 1, 1, 0, 0)), (17, (.invokevirtual 62, 880, 90, 1)), (20, (.ifCond .eq 31, 3, 0, 0)), (23, (.aload_n 1, 1, 0, 0)), (24, (.iconst 0, 1, 0, 0)), (25, (.sipush 999, 3, 0, 0)), (28, (.invokevirtual 65, 881, 91, 3)), (31, (.ifCond .eq 18, 3, 0, 0)), (34, (.aload_n 0, 1, 0, 0)), (35, (.aload_n 1, 1, 0, 0)), (36, (.getfield 68, 157, 8, 10)), (39, (.invokevirtual 52, 882, 29, 2)), (42, (.ifCond .eq 7, 3, 0, 0)), (45, (.iconst 1, 1, 0, 0)), (46, (.goto 4, 3, 0, 0)), (49, (.iconst 0, 1, 0, 0)), (50, (.ireturn, 1, 0, 0)), (51, (.aload_n 1, 1, 0, 0)), (52, (.invokevirtual 71, 886, 88, 1)), (55, (.aload_n 1, 1, 0, 0)), (56, (.ldc 74, 2, 6, 1)), (58, (.invokevirtual 76, 888, 89, 2)), (61, (.ifCond .eq 11, 3, 0, 0)), (64, (.aload_n 0, 1, 0, 0)), (65, (.aload_n 1, 1, 0, 0)), (66, (.iload_n 2, 1, 0, 0)), (67, (.iconst 5, 1, 0, 0)), (68, (.invokevirtual 80, 889, 27, 4)), (71, (.ireturn, 1, 0, 0)), (72, (.aload_n 1, 1, 0, 0)), (73, (.ldc 84, 2, 7, 1)), (75, (.invokevirtual 76, 888, 89, 2)), (78, (.ifCond .eq 12, 3, 0, 0)), (81, (.aload_n 0, 1, 0, 0)), (82, (.aload_n 1, 1, 0, 0)), (83, (.iload_n 2, 1, 0, 0)), (84, (.bipush 6, 2, 0, 0)), (86, (.invokevirtual 80, 889, 27, 4)), (89, (.ireturn, 1, 0, 0)), (90, (.aload_n 1, 1, 0, 0)), (91, (.invokestatic 86, 894, 28, 1)), (94, (.istore_n 3, 1, 0, 0)), (95, (.iload_n 3, 1, 0, 0)), (96, (.iconst (-1), 1, 0, 0)), (97, (.if_icmp .ne 13, 3, 0, 0)), (100, (.aload_n 1, 1, 0, 0)), (101, (.iconst 1, 1, 0, 0)), (102, (.aload_n 1, 1, 0, 0)), (103, (.getfield 90, 155, 8, 8)), (106, (.invokevirtual 41, 878, 84, 3)), (109, (.ireturn, 1, 0, 0)), (110, (.aload_n 0, 1, 0, 0)), (111, (.sipush 1000, 3, 0, 0)), (114, (.iload_n 3, 1, 0, 0)), (115, (.iadd, 1, 0, 0)), (116, (.invokevirtual 52, 882, 29, 2)), (119, (.ireturn, 1, 0, 0))]
noncomputable def po_26 : List (Nat × mOp) := [(0, (.iload_n 2, 1, 0, 0)), (1, (.bipush 6, 2, 0, 0)), (3, (.if_icmp .lt 13, 3, 0, 0)), (6, (.aload_n 1, 1, 0, 0)), (7, (.iconst 3, 1, 0, 0)), (8, (.aload_n 1, 1, 0, 0)), (9, (.getfield 38, 150, 8, 6)), (12, (.invokevirtual 41, 878, 84, 3)), (15, (.ireturn, 1, 0, 0)), (16, (.aload_n 1, 1, 0, 0)), (17, (.bipush 40, 2, 0, 0)), (19, (.invokevirtual 93, 879, 87, 2)), (22, (.ifCond .eq 27, 3, 0, 0)), (25, (.aload_n 0, 1, 0, 0)), (26, (.aload_n 1, 1, 0, 0)), (27, (.iload_n 2, 1, 0, 0)), (28, (.iconst 1, 1, 0, 0)), (29, (.iadd, 1, 0, 0)), (30, (.invokevirtual 28, 861, 23, 3)), (33, (.ifCond .eq 16, 3, 0, 0)), (36, (.aload_n 1, 1, 0, 0)), (37, (.bipush 41, 2, 0, 0)), (39, (.invokevirtual 93, 879, 87, 2)), (42, (.ifCond .eq 7, 3, 0, 0)), (45, (.iconst 1, 1, 0, 0)), (46, (.goto 4, 3, 0, 0)), (49, (.iconst 0, 1, 0, 0)), (50, (.ireturn, 1, 0, 0))]
noncomputable def po_27 : List (Nat × mOp) := [(0, (.iload_n 2, 1, 0, 0)), (1, (.bipush 6, 2, 0, 0)), (3, (.if_icmp .lt 13, 3, 0, 0)), (6, (.aload_n 1, 1, 0, 0)), (7, (.iconst 3, 1, 0, 0)), (8, (.aload_n 1, 1, 0, 0)), (9, (.getfield 90, 155, 8, 8)), (12, (.invokevirtual 41, 878, 84, 3)), (15, (.ireturn, 1, 0, 0)), (16, (.aload_n 1, 1, 0, 0)), (17, (.bipush 91, 2, 0, 0)), (19, (.invokevirtual 93, 879, 87, 2)), (22, (.ifCond .eq 59, 3, 0, 0)), (25, (.aload_n 0, 1, 0, 0)), (26, (.aload_n 1, 1, 0, 0)), (27, (.iload_n 2, 1, 0, 0)), (28, (.iconst 1, 1, 0, 0)), (29, (.iadd, 1, 0, 0)), (30, (.invokevirtual 28, 861, 23, 3)), (33, (.ifCond .eq 48, 3, 0, 0)), (36, (.aload_n 1, 1, 0, 0)), (37, (.bipush 44, 2, 0, 0)), (39, (.invokevirtual 93, 879, 87, 2)), (42, (.ifCond .eq 39, 3, 0, 0)), (45, (.aload_n 0, 1, 0, 0)), (46, (.aload_n 1, 1, 0, 0)), (47, (.iload_n 2, 1, 0, 0)), (48, (.iconst 1, 1, 0, 0)), (49, (.iadd, 1, 0, 0)), (50, (.invokevirtual 28, 861, 23, 3)), (53, (.ifCond .eq 28, 3, 0, 0)), (56, (.aload_n 1, 1, 0, 0)), (57, (.bipush 93, 2, 0, 0)), (59, (.invokevirtual 93, 879, 87, 2)), (62, (.ifCond .eq 19, 3, 0, 0)), (65, (.aload_n 0, 1, 0, 0)), (66, (.sipush 2000, 3, 0, 0)), (69, (.iload_n 3, 1, 0, 0)), (70, (.iadd, 1, 0, 0)), (71, (.invokevirtual 52, 882, 29, 2)), (74, (.ifCond .eq 7, 3, 0, 0)), (77, (.iconst 1, 1, 0, 0)), (78, (.goto 4, 3, 0, 0)), (81, (.iconst 0, 1, 0, 0)), (82, (.ireturn, 1, 0, 0))]
noncomputable def po_28 : List (Nat × mOp) := [(0, (.aload_n 0, 1, 0, 0)), (1, (.ldc 97, 2, 8, 1)), (3, (.invokevirtual 76, 888, 89, 2)), (6, (.ifCond .eq 5, 3, 0, 0)), (9, (.iconst 0, 1, 0, 0)), (10, (.ireturn, 1, 0, 0)), (11, (.aload_n 0, 1, 0, 0)), (12, (.ldc 99, 2, 9, 1)), (14, (.invokevirtual 76, 888, 89, 2)), (17, (.ifCond .eq 5, 3, 0, 0)), (20, (.iconst 1, 1, 0, 0)), (21, (.ireturn, 1, 0, 0)), (22, (.aload_n 0, 1, 0, 0)), (23, (.ldc 101, 2, 10, 1)), (25, (.invokevirtual 76, 888, 89, 2)), (28, (.ifCond .eq 5, 3, 0, 0)), (31, (.iconst 2, 1, 0, 0)), (32, (.ireturn, 1, 0, 0)), (33, (.aload_n 0, 1, 0, 0)), (34, (.ldc 103, 2, 11, 1)), (36, (.invokevirtual 76, 888, 89, 2)), (39, (.ifCond .eq 5, 3, 0, 0)), (42, (.iconst 3, 1, 0, 0)), (43, (.ireturn, 1, 0, 0)), (44, (.aload_n 0, 1, 0, 0)), (45, (.ldc 105, 2, 12, 1)), (47, (.invokevirtual 76, 888, 89, 2)), (50, (.ifCond .eq 5, 3, 0, 0)), (53, (.iconst 4, 1, 0, 0)), (54, (.ireturn, 1, 0, 0)), (55, (.aload_n 0, 1, 0, 0)), (56, (.ldc 107, 2, 13, 1)), (58, (.invokevirtual 76, 888, 89, 2)), (61, (.ifCond .eq 5, 3, 0, 0)), (64, (.iconst 5, 1, 0, 0)), (65, (.ireturn, 1, 0, 0)), (66, (.aload_n 0, 1, 0, 0)), (67, (.ldc 109, 2, 14, 1)), (69, (.invokevirtual 76, 888, 89, 2)), (72, (.ifCond .eq 6, 3, 0, 0)), (75, (.bipush 6, 2, 0, 0)), (77, (.ireturn, 1, 0, 0)), (78, (.aload_n 0, 1, 0, 0)), (79, (.ldc 111, 2, 15, 1)), (81, (.invokevirtual 76, 888, 89, 2)), (84, (.ifCond .eq 8, 3, 0, 0)), (87, (.bipush 7, 2, 0, 0)), (89, (.goto 4, 3, 0, 0)), (92, (.iconst (-1), 1, 0, 0)), (93, (.ireturn, 1, 0, 0))]
noncomputable def po_29 : List (Nat × mOp) := [(0, (.aload_n 0, 1, 0, 0)), (1, (.getfield 21, 261, 3, 2)), (4, (.aload_n 0, 1, 0, 0)), (5, (.getfield 9, 260, 3, 1)), (8, (.arraylength, 1, 0, 0)), (9, (.if_icmp .ge 23, 3, 0, 0)), (12, (.aload_n 0, 1, 0, 0)), (13, (.getfield 9, 260, 3, 1)), (16, (.aload_n 0, 1, 0, 0)), (17, (.getfield 21, 261, 3, 2)), (20, (.iload_n 1, 1, 0, 0)), (21, (.iastore, 1, 0, 0)), (22, (.aload_n 0, 1, 0, 0)), (23, (.dup, 1, 0, 0)), (24, (.getfield 21, 261, 3, 2)), (27, (.iconst 1, 1, 0, 0)), (28, (.iadd, 1, 0, 0)), (29, (.putfield 21, 261, 3, 2)), (32, (.iconst 1, 1, 0, 0)), (33, (.ireturn, 1, 0, 0))]
noncomputable def po_30 : List (Nat × mOp) := [(0, (.aload_n 0, 1, 0, 0)), (1, (.getfield 15, 262, 3, 5)), (4, (.iconst 0, 1, 0, 0)), (5, (.iload_n 1, 1, 0, 0)), (6, (.iastore, 1, 0, 0)), (7, (.aload_n 0, 1, 0, 0)), (8, (.getfield 15, 262, 3, 5)), (11, (.iconst 5, 1, 0, 0)), (12, (.iload_n 2, 1, 0, 0)), (13, (.iastore, 1, 0, 0)), (14, (.aload_n 0, 1, 0, 0)), (15, (.getfield 15, 262, 3, 5)), (18, (.iconst 1, 1, 0, 0)), (19, (.iload_n 3, 1, 0, 0)), (20, (.iastore, 1, 0, 0)), (21, (.aload_n 0, 1, 0, 0)), (22, (.getfield 15, 262, 3, 5)), (25, (.bipush 7, 2, 0, 0)), (27, (.iload 4, 2, 0, 0)), (29, (.iastore, 1, 0, 0)), (30, (.return_, 1, 0, 0))]
noncomputable def po_31 : List (Nat × mOp) := [(0, (.aload_n 0, 1, 0, 0)), (1, (.getfield 15, 262, 3, 5)), (4, (.iconst 2, 1, 0, 0)), (5, (.iload_n 1, 1, 0, 0)), (6, (.iastore, 1, 0, 0)), (7, (.aload_n 0, 1, 0, 0)), (8, (.getfield 15, 262, 3, 5)), (11, (.iconst 3, 1, 0, 0)), (12, (.iload_n 2, 1, 0, 0)), (13, (.iastore, 1, 0, 0)), (14, (.aload_n 0, 1, 0, 0)), (15, (.getfield 15, 262, 3, 5)), (18, (.iconst 4, 1, 0, 0)), (19, (.iload_n 3, 1, 0, 0)), (20, (.iastore, 1, 0, 0)), (21, (.aload_n 0, 1, 0, 0)), (22, (.getfield 15, 262, 3, 5)), (25, (.bipush 6, 2, 0, 0)), (27, (.iload 4, 2, 0, 0)), (29, (.iastore, 1, 0, 0)), (30, (.return_, 1, 0, 0))]
noncomputable def po_32 : List (Nat × mOp) := [(0, (.aload_n 0, 1, 0, 0)), (1, (.getfield 18, 263, 3, 7)), (4, (.iconst 0, 1, 0, 0)), (5, (.iconst 3, 1, 0, 0)), (6, (.aload_n 0, 1, 0, 0)), (7, (.getfield 15, 262, 3, 5)), (10, (.iconst 0, 1, 0, 0)), (11, (.iaload, 1, 0, 0)), (12, (.iconst 2, 1, 0, 0)), (13, (.idiv, 1, 0, 0)), (14, (.iadd, 1, 0, 0)), (15, (.aload_n 0, 1, 0, 0)), (16, (.getfield 15, 262, 3, 5)), (19, (.iconst 1, 1, 0, 0)), (20, (.iaload, 1, 0, 0)), (21, (.iconst 3, 1, 0, 0)), (22, (.idiv, 1, 0, 0)), (23, (.isub, 1, 0, 0)), (24, (.iastore, 1, 0, 0)), (25, (.iconst 0, 1, 0, 0)), (26, (.istore_n 1, 1, 0, 0)), (27, (.iconst 0, 1, 0, 0)), (28, (.istore_n 2, 1, 0, 0)), (29, (.iload_n 2, 1, 0, 0)), (30, (.aload_n 0, 1, 0, 0)), (31, (.getfield 21, 261, 3, 2)), (34, (.if_icmp .ge 105, 3, 0, 0)), (37, (.aload_n 0, 1, 0, 0)), (38, (.getfield 9, 260, 3, 1)), (41, (.iload_n 2, 1, 0, 0)), (42, (.iaload, 1, 0, 0)), (43, (.istore_n 3, 1, 0, 0)), (44, (.iload_n 3, 1, 0, 0)), (45, (.sipush 2000, 3, 0, 0)), (48, (.if_icmp .lt 46, 3, 0, 0)), (51, (.iload_n 1, 1, 0, 0)), (52, (.iconst 2, 1, 0, 0)), (53, (.if_icmp .lt 80, 3, 0, 0)), (56, (.aload_n 0, 1, 0, 0)), (57, (.getfield 18, 263, 3, 7)), (60, (.iload_n 1, 1, 0, 0)), (61, (.iconst 2, 1, 0, 0)), (62, (.isub, 1, 0, 0)), (63, (.iload_n 3, 1, 0, 0)), (64, (.sipush 2000, 3, 0, 0)), (67, (.isub, 1, 0, 0)), (68, (.aload_n 0, 1, 0, 0)), (69, (.getfield 18, 263, 3, 7)), (72, (.iload_n 1, 1, 0, 0)), (73, (.iconst 2, 1, 0, 0)), (74, (.isub, 1, 0, 0)), (75, (.iaload, 1, 0, 0)), (76, (.aload_n 0, 1, 0, 0)), (77, (.getfield 18, 263, 3, 7)), (80, (.iload_n 1, 1, 0, 0)), (81, (.iconst 1, 1, 0, 0)), (82, (.isub, 1, 0, 0)), (83, (.iaload, 1, 0, 0)), (84, (.invokestatic 113, 1010, 33, 3)), (87, (.iastore, 1, 0, 0)), (88, (.iinc 1 (-1), 3, 0, 0)), (91, (.goto 42, 3, 0, 0)), (94, (.iload_n 1, 1, 0, 0)), (95, (.bipush 40, 2, 0, 0)), (97, (.if_icmp .ge 36, 3, 0, 0)), (100, (.aload_n 0, 1, 0, 0)), (101, (.getfield 18, 263, 3, 7)), (104, (.iload_n 1, 1, 0, 0)), (105, (.iload_n 3, 1, 0, 0)), (106, (.sipush 1000, 3, 0, 0)), (109, (.if_icmp .ge 7, 3, 0, 0)), (112, (.iload_n 3, 1, 0, 0)), (113, (.goto 16, 3, 0, 0)), (116, (.aload_n 0, 1, 0, 0)), (117, (.getfield 15, 262, 3, 5)), (120, (.iload_n 3, 1, 0, 0)), (121, (.sipush 1000, 3, 0, 0)), (124, (.isub, 1, 0, 0)), (125, (.bipush 7, 2, 0, 0)), (127, (.iand, 1, 0, 0)), (128, (.iaload, 1, 0, 0)), (129, (.iastore, 1, 0, 0)), (130, (.iinc 1 1, 3, 0, 0)), (133, (.iinc 2 1, 3, 0, 0)), (136, (.goto (-107), 3, 0, 0)), (139, (.iconst 0, 1, 0, 0)), (140, (.bipush 20, 2, 0, 0)), (142, (.aload_n 0, 1, 0, 0)), (143, (.getfield 18, 263, 3, 7)), (146, (.iconst 0, 1, 0, 0)), (147, (.iaload, 1, 0, 0)), (148, (.invokestatic 117, 1013, 1001, 0)), (151, (.invokestatic 123, 1014, 1000, 0)), (154, (.ireturn, 1, 0, 0))]
noncomputable def po_33 : List (Nat × mOp) := [(0, (.iload_n 0, 1, 0, 0)), (1, (.tableswitch 86 0 5 #[39, 43, 47, 51, 63, 75], 39, 0, 0)), (40, (.iload_n 1, 1, 0, 0)), (41, (.iload_n 2, 1, 0, 0)), (42, (.iadd, 1, 0, 0)), (43, (.ireturn, 1, 0, 0)), (44, (.iload_n 1, 1, 0, 0)), (45, (.iload_n 2, 1, 0, 0)), (46, (.isub, 1, 0, 0)), (47, (.ireturn, 1, 0, 0)), (48, (.iload_n 1, 1, 0, 0)), (49, (.iload_n 2, 1, 0, 0)), (50, (.imul, 1, 0, 0)), (51, (.ireturn, 1, 0, 0)), (52, (.iload_n 2, 1, 0, 0)), (53, (.ifCond .ne 7, 3, 0, 0)), (56, (.iconst 0, 1, 0, 0)), (57, (.goto 6, 3, 0, 0)), (60, (.iload_n 1, 1, 0, 0)), (61, (.iload_n 2, 1, 0, 0)), (62, (.idiv, 1, 0, 0)), (63, (.ireturn, 1, 0, 0)), (64, (.iload_n 2, 1, 0, 0)), (65, (.ifCond .ne 7, 3, 0, 0)), (68, (.iconst 0, 1, 0, 0)), (69, (.goto 6, 3, 0, 0)), (72, (.iload_n 1, 1, 0, 0)), (73, (.iload_n 2, 1, 0, 0)), (74, (.irem, 1, 0, 0)), (75, (.ireturn, 1, 0, 0)), (76, (.iload_n 1, 1, 0, 0)), (77, (.iload_n 2, 1, 0, 0)), (78, (.if_icmp .ge 7, 3, 0, 0)), (81, (.iload_n 1, 1, 0, 0)), (82, (.goto 4, 3, 0, 0)), (85, (.iload_n 2, 1, 0, 0)), (86, (.ireturn, 1, 0, 0)), (87, (.iload_n 1, 1, 0, 0)), (88, (.iload_n 2, 1, 0, 0)), (89, (.if_icmp .le 7, 3, 0, 0)), (92, (.iload_n 1, 1, 0, 0)), (93, (.goto 4, 3, 0, 0)), (96, (.iload_n 2, 1, 0, 0)), (97, (.ireturn, 1, 0, 0))]
noncomputable def po_34 : List (Nat × mOp) := [(0, (.aload_n 0, 1, 0, 0)), (1, (.invokespecial 3, 405, 1005, 0)), (4, (.aload_n 0, 1, 0, 0)), (5, (.bipush 16, 2, 0, 0)), (7, (.anewarray 9, 3, 3, 0)), (10, (.putfield 11, 409, 4, 1)), (13, (.iconst 0, 1, 0, 0)), (14, (.istore_n 1, 1, 0, 0)), (15, (.iload_n 1, 1, 0, 0)), (16, (.bipush 16, 2, 0, 0)), (18, (.if_icmp .ge 22, 3, 0, 0)), (21, (.aload_n 0, 1, 0, 0)), (22, (.getfield 11, 409, 4, 1)), (25, (.iload_n 1, 1, 0, 0)), (26, (.new 9, 406, 6, 9)), (29, (.dup, 1, 0, 0)), (30, (.invokespecial 17, 408, 42, 1)), (33, (.aastore, 1, 3, 6)), (34, (.iinc 1 1, 3, 0, 0)), (37, (.goto (-22), 3, 0, 0)), (40, (.return_, 1, 0, 0))]
noncomputable def po_35 : List (Nat × mOp) := [(0, (.aload_n 0, 1, 0, 0)), (1, (.iconst 0, 1, 0, 0)), (2, (.putfield 18, 410, 4, 2)), (5, (.return_, 1, 0, 0))]
noncomputable def po_36 : List (Nat × mOp) := [(0, (.aload_n 0, 1, 0, 0)), (1, (.getfield 18, 410, 4, 2)), (4, (.bipush 16, 2, 0, 0)), (6, (.if_icmp .lt 7, 3, 0, 0)), (9, (.iconst 1, 1, 0, 0)), (10, (.goto 4, 3, 0, 0)), (13, (.iconst 0, 1, 0, 0)), (14, (.ireturn, 1, 0, 0))]
noncomputable def po_37 : List (Nat × mOp) := [(0, (.aload_n 0, 1, 0, 0)), (1, (.getfield 18, 410, 4, 2)), (4, (.bipush 16, 2, 0, 0)), (6, (.if_icmp .ge 26, 3, 0, 0)), (9, (.aload_n 0, 1, 0, 0)), (10, (.getfield 11, 409, 4, 1)), (13, (.aload_n 0, 1, 0, 0)), (14, (.getfield 18, 410, 4, 2)), (17, (.aaload, 1, 3, 6)), (18, (.aload_n 1, 1, 0, 0)), (19, (.invokevirtual 22, 546, 44, 2)), (22, (.aload_n 0, 1, 0, 0)), (23, (.dup, 1, 0, 0)), (24, (.getfield 18, 410, 4, 2)), (27, (.iconst 1, 1, 0, 0)), (28, (.iadd, 1, 0, 0)), (29, (.putfield 18, 410, 4, 2)), (32, (.return_, 1, 0, 0))]
noncomputable def po_38 : List (Nat × mOp) := [(0, (.aload_n 0, 1, 0, 0)), (1, (.getfield 18, 410, 4, 2)), (4, (.ifCond .gt 5, 3, 0, 0)), (7, (.iconst 0, 1, 0, 0)), (8, (.ireturn, 1, 0, 0)), (9, (.aload_n 0, 1, 0, 0)), (10, (.dup, 1, 0, 0)), (11, (.getfield 18, 410, 4, 2)), (14, (.iconst 1, 1, 0, 0)), (15, (.isub, 1, 0, 0)), (16, (.putfield 18, 410, 4, 2)), (19, (.aload_n 1, 1, 0, 0)), (20, (.aload_n 0, 1, 0, 0)), (21, (.getfield 11, 409, 4, 1)), (24, (.aload_n 0, 1, 0, 0)), (25, (.getfield 18, 410, 4, 2)), (28, (.aaload, 1, 3, 6)), (29, (.invokevirtual 22, 546, 44, 2)), (32, (.iconst 1, 1, 0, 0)), (33, (.ireturn, 1, 0, 0))]
noncomputable def po_39 : List (Nat × mOp) := [(0, (.iconst 0, 1, 0, 0)), (1, (.istore_n 2, 1, 0, 0)), (2, (.iload_n 2, 1, 0, 0)), (3, (.aload_n 1, 1, 0, 0)), (4, (.getfield 18, 410, 4, 2)), (7, (.if_icmp .ge 24, 3, 0, 0)), (10, (.aload_n 0, 1, 0, 0)), (11, (.getfield 11, 409, 4, 1)), (14, (.iload_n 2, 1, 0, 0)), (15, (.aaload, 1, 3, 6)), (16, (.aload_n 1, 1, 0, 0)), (17, (.getfield 11, 409, 4, 1)), (20, (.iload_n 2, 1, 0, 0)), (21, (.aaload, 1, 3, 6)), (22, (.invokevirtual 22, 546, 44, 2)), (25, (.iinc 2 1, 3, 0, 0)), (28, (.goto (-26), 3, 0, 0)), (31, (.aload_n 0, 1, 0, 0)), (32, (.aload_n 1, 1, 0, 0)), (33, (.getfield 18, 410, 4, 2)), (36, (.putfield 18, 410, 4, 2)), (39, (.return_, 1, 0, 0))]
noncomputable def po_40 : List (Nat × mOp) := [(0, (.aload_n 0, 1, 0, 0)), (1, (.invokespecial 1, 394, 1005, 0)), (4, (.return_, 1, 0, 0))]
noncomputable def po_41 : List (Nat × mOp) := [(0, (.aload_n 0, 1, 0, 0)), (1, (.aload_n 0, 1, 0, 0)), (2, (.getfield 7, 395, 5, 0)), (5, (.ldc 13, 1398, 1103515245, 0)), (7, (.imul, 1, 0, 0)), (8, (.sipush 12345, 3, 0, 0)), (11, (.iadd, 1, 0, 0)), (12, (.putfield 7, 395, 5, 0)), (15, (.iload_n 1, 1, 0, 0)), (16, (.ifCond .le 19, 3, 0, 0)), (19, (.aload_n 0, 1, 0, 0)), (20, (.getfield 7, 395, 5, 0)), (23, (.bipush 16, 2, 0, 0)), (25, (.ishr, 1, 0, 0)), (26, (.sipush 32767, 3, 0, 0)), (29, (.iand, 1, 0, 0)), (30, (.iload_n 1, 1, 0, 0)), (31, (.irem, 1, 0, 0)), (32, (.goto 4, 3, 0, 0)), (35, (.iconst 0, 1, 0, 0)), (36, (.ireturn, 1, 0, 0))]
noncomputable def po_42 : List (Nat × mOp) := [(0, (.aload_n 0, 1, 0, 0)), (1, (.invokespecial 3, 350, 1005, 0)), (4, (.aload_n 0, 1, 0, 0)), (5, (.bipush 6, 2, 0, 0)), (7, (.newarray .int, 182, 0, 0)), (9, (.putfield 9, 351, 6, 1)), (12, (.aload_n 0, 1, 0, 0)), (13, (.bipush 6, 2, 0, 0)), (15, (.newarray .int, 182, 0, 0)), (17, (.putfield 15, 353, 6, 3)), (20, (.aload_n 0, 1, 0, 0)), (21, (.bipush 6, 2, 0, 0)), (23, (.newarray .int, 182, 0, 0)), (25, (.putfield 18, 355, 6, 5)), (28, (.aload_n 0, 1, 0, 0)), (29, (.bipush 6, 2, 0, 0)), (31, (.newarray .int, 182, 0, 0)), (33, (.putfield 21, 357, 6, 7)), (36, (.aload_n 0, 1, 0, 0)), (37, (.bipush 9, 2, 0, 0)), (39, (.newarray .int, 182, 0, 0)), (41, (.putfield 24, 359, 6, 9)), (44, (.aload_n 0, 1, 0, 0)), (45, (.bipush 9, 2, 0, 0)), (47, (.newarray .int, 182, 0, 0)), (49, (.putfield 27, 362, 6, 11)), (52, (.aload_n 0, 1, 0, 0)), (53, (.bipush 12, 2, 0, 0)), (55, (.putfield 30, 368, 6, 16)), (58, (.iconst 0, 1, 0, 0)), (59, (.istore_n 1, 1, 0, 0)), (60, (.iload_n 1, 1, 0, 0)), (61, (.bipush 6, 2, 0, 0)), (63, (.if_icmp .ge 16, 3, 0, 0)), (66, (.aload_n 0, 1, 0, 0)), (67, (.getfield 18, 355, 6, 5)), (70, (.iload_n 1, 1, 0, 0)), (71, (.iconst (-1), 1, 0, 0)), (72, (.iastore, 1, 0, 0)), (73, (.iinc 1 1, 3, 0, 0)), (76, (.goto (-16), 3, 0, 0)), (79, (.return_, 1, 0, 0))]
noncomputable def po_43 : List (Nat × mOp) := [(0, (.iconst 0, 1, 0, 0)), (1, (.istore_n 2, 1, 0, 0)), (2, (.iload_n 2, 1, 0, 0)), (3, (.bipush 6, 2, 0, 0)), (5, (.if_icmp .ge 30, 3, 0, 0)), (8, (.aload_n 0, 1, 0, 0)), (9, (.getfield 9, 351, 6, 1)), (12, (.iload_n 2, 1, 0, 0)), (13, (.iconst 0, 1, 0, 0)), (14, (.iastore, 1, 0, 0)), (15, (.aload_n 0, 1, 0, 0)), (16, (.getfield 15, 353, 6, 3)), (19, (.iload_n 2, 1, 0, 0)), (20, (.iconst 0, 1, 0, 0)), (21, (.iastore, 1, 0, 0)), (22, (.aload_n 0, 1, 0, 0)), (23, (.getfield 18, 355, 6, 5)), (26, (.iload_n 2, 1, 0, 0)), (27, (.iconst (-1), 1, 0, 0)), (28, (.iastore, 1, 0, 0)), (29, (.iinc 2 1, 3, 0, 0)), (32, (.goto (-30), 3, 0, 0)), (35, (.iconst 0, 1, 0, 0)), (36, (.istore_n 2, 1, 0, 0)), (37, (.iload_n 2, 1, 0, 0)), (38, (.bipush 6, 2, 0, 0)), (40, (.if_icmp .ge 16, 3, 0, 0)), (43, (.aload_n 0, 1, 0, 0)), (44, (.getfield 21, 357, 6, 7)), (47, (.iload_n 2, 1, 0, 0)), (48, (.iconst 0, 1, 0, 0)), (49, (.iastore, 1, 0, 0)), (50, (.iinc 2 1, 3, 0, 0)), (53, (.goto (-16), 3, 0, 0)), (56, (.iconst 0, 1, 0, 0)), (57, (.istore_n 2, 1, 0, 0)), (58, (.iload_n 2, 1, 0, 0)), (59, (.bipush 9, 2, 0, 0)), (61, (.if_icmp .ge 40, 3, 0, 0)), (64, (.aload_n 0, 1, 0, 0)), (65, (.getfield 24, 359, 6, 9)), (68, (.iload_n 2, 1, 0, 0)), (69, (.iload_n 2, 1, 0, 0)), (70, (.aload_n 1, 1, 0, 0)), (71, (.getfield 34, 202, 9, 4)), (74, (.if_icmp .ge 12, 3, 0, 0)), (77, (.aload_n 1, 1, 0, 0)), (78, (.getfield 39, 219, 9, 17)), (81, (.iload_n 2, 1, 0, 0)), (82, (.iaload, 1, 0, 0)), (83, (.goto 4, 3, 0, 0)), (86, (.iconst 0, 1, 0, 0)), (87, (.iastore, 1, 0, 0)), (88, (.aload_n 0, 1, 0, 0)), (89, (.getfield 27, 362, 6, 11)), (92, (.iload_n 2, 1, 0, 0)), (93, (.iconst 0, 1, 0, 0)), (94, (.iastore, 1, 0, 0)), (95, (.iinc 2 1, 3, 0, 0)), (98, (.goto (-40), 3, 0, 0)), (101, (.aload_n 0, 1, 0, 0)), (102, (.iconst 0, 1, 0, 0)), (103, (.putfield 42, 364, 6, 12)), (106, (.aload_n 0, 1, 0, 0)), (107, (.iconst 0, 1, 0, 0)), (108, (.putfield 45, 366, 6, 14)), (111, (.aload_n 0, 1, 0, 0)), (112, (.aload_n 1, 1, 0, 0)), (113, (.getfield 48, 209, 9, 8)), (116, (.putfield 30, 368, 6, 16)), (119, (.return_, 1, 0, 0))]
noncomputable def po_44 : List (Nat × mOp) := [(0, (.aload_n 1, 1, 0, 0)), (1, (.getfield 9, 351, 6, 1)), (4, (.iconst 0, 1, 0, 0)), (5, (.aload_n 0, 1, 0, 0)), (6, (.getfield 9, 351, 6, 1)), (9, (.iconst 0, 1, 0, 0)), (10, (.bipush 6, 2, 0, 0)), (12, (.invokestatic 49, 550, 1002, 0)), (15, (.aload_n 1, 1, 0, 0)), (16, (.getfield 15, 353, 6, 3)), (19, (.iconst 0, 1, 0, 0)), (20, (.aload_n 0, 1, 0, 0)), (21, (.getfield 15, 353, 6, 3)), (24, (.iconst 0, 1, 0, 0)), (25, (.bipush 6, 2, 0, 0)), (27, (.invokestatic 49, 550, 1002, 0)), (30, (.aload_n 1, 1, 0, 0)), (31, (.getfield 18, 355, 6, 5)), (34, (.iconst 0, 1, 0, 0)), (35, (.aload_n 0, 1, 0, 0)), (36, (.getfield 18, 355, 6, 5)), (39, (.iconst 0, 1, 0, 0)), (40, (.bipush 6, 2, 0, 0)), (42, (.invokestatic 49, 550, 1002, 0)), (45, (.aload_n 1, 1, 0, 0)), (46, (.getfield 21, 357, 6, 7)), (49, (.iconst 0, 1, 0, 0)), (50, (.aload_n 0, 1, 0, 0)), (51, (.getfield 21, 357, 6, 7)), (54, (.iconst 0, 1, 0, 0)), (55, (.bipush 6, 2, 0, 0)), (57, (.invokestatic 49, 550, 1002, 0)), (60, (.aload_n 1, 1, 0, 0)), (61, (.getfield 24, 359, 6, 9)), (64, (.iconst 0, 1, 0, 0)), (65, (.aload_n 0, 1, 0, 0)), (66, (.getfield 24, 359, 6, 9)), (69, (.iconst 0, 1, 0, 0)), (70, (.bipush 9, 2, 0, 0)), (72, (.invokestatic 49, 550, 1002, 0)), (75, (.aload_n 1, 1, 0, 0)), (76, (.getfield 27, 362, 6, 11)), (79, (.iconst 0, 1, 0, 0)), (80, (.aload_n 0, 1, 0, 0)), (81, (.getfield 27, 362, 6, 11)), (84, (.iconst 0, 1, 0, 0)), (85, (.bipush 9, 2, 0, 0)), (87, (.invokestatic 49, 550, 1002, 0)), (90, (.aload_n 0, 1, 0, 0)), (91, (.aload_n 1, 1, 0, 0)), (92, (.getfield 42, 364, 6, 12)), (95, (.putfield 42, 364, 6, 12)), (98, (.aload_n 0, 1, 0, 0)), (99, (.aload_n 1, 1, 0, 0)), (100, (.getfield 45, 366, 6, 14)), (103, (.putfield 45, 366, 6, 14)), (106, (.aload_n 0, 1, 0, 0)), (107, (.aload_n 1, 1, 0, 0)), (108, (.getfield 30, 368, 6, 16)), (111, (.putfield 30, 368, 6, 16)), (114, (.return_, 1, 0, 0))]
noncomputable def po_45 : List (Nat × mOp) := [(0, (.aload_n 0, 1, 0, 0)), (1, (.getfield 9, 351, 6, 1)), (4, (.iload_n 2, 1, 0, 0)), (5, (.iaload, 1, 0, 0)), (6, (.aload_n 1, 1, 0, 0)), (7, (.getfield 55, 213, 9, 13)), (10, (.iload_n 2, 1, 0, 0)), (11, (.iaload, 1, 0, 0)), (12, (.if_icmp .lt 7, 3, 0, 0)), (15, (.iconst 1, 1, 0, 0)), (16, (.goto 4, 3, 0, 0)), (19, (.iconst 0, 1, 0, 0)), (20, (.ireturn, 1, 0, 0))]
noncomputable def po_46 : List (Nat × mOp) := [(0, (.iconst 2, 1, 0, 0)), (1, (.aload_n 0, 1, 0, 0)), (2, (.getfield 15, 353, 6, 3)), (5, (.iload_n 1, 1, 0, 0)), (6, (.iaload, 1, 0, 0)), (7, (.imul, 1, 0, 0)), (8, (.aload_n 0, 1, 0, 0)), (9, (.getfield 9, 351, 6, 1)), (12, (.iload_n 1, 1, 0, 0)), (13, (.iaload, 1, 0, 0)), (14, (.if_icmp .le 7, 3, 0, 0)), (17, (.iconst 1, 1, 0, 0)), (18, (.goto 4, 3, 0, 0)), (21, (.iconst 0, 1, 0, 0)), (22, (.ireturn, 1, 0, 0))]
noncomputable def po_47 : List (Nat × mOp) := [(0, (.aload_n 0, 1, 0, 0)), (1, (.getfield 42, 364, 6, 12)), (4, (.iload_n 1, 1, 0, 0)), (5, (.ishr, 1, 0, 0)), (6, (.iconst 1, 1, 0, 0)), (7, (.iand, 1, 0, 0)), (8, (.ifCond .eq 7, 3, 0, 0)), (11, (.iconst 1, 1, 0, 0)), (12, (.goto 4, 3, 0, 0)), (15, (.iconst 0, 1, 0, 0)), (16, (.ireturn, 1, 0, 0))]
noncomputable def po_48 : List (Nat × mOp) := [(0, (.aload_n 2, 1, 0, 0)), (1, (.aload_n 0, 1, 0, 0)), (2, (.getfield 9, 351, 6, 1)), (5, (.iload 4, 2, 0, 0)), (7, (.iaload, 1, 0, 0)), (8, (.aload_n 0, 1, 0, 0)), (9, (.getfield 15, 353, 6, 3)), (12, (.iload 4, 2, 0, 0)), (14, (.iaload, 1, 0, 0)), (15, (.aload_n 1, 1, 0, 0)), (16, (.getfield 58, 216, 9, 15)), (19, (.iload_n 3, 1, 0, 0)), (20, (.iaload, 1, 0, 0)), (21, (.iload_n 3, 1, 0, 0)), (22, (.invokevirtual 61, 998, 30, 5)), (25, (.aload_n 2, 1, 0, 0)), (26, (.aload_n 0, 1, 0, 0)), (27, (.getfield 24, 359, 6, 9)), (30, (.iload 5, 2, 0, 0)), (32, (.iaload, 1, 0, 0)), (33, (.aload_n 0, 1, 0, 0)), (34, (.getfield 27, 362, 6, 11)), (37, (.iload 5, 2, 0, 0)), (39, (.iaload, 1, 0, 0)), (40, (.aload_n 0, 1, 0, 0)), (41, (.getfield 30, 368, 6, 16)), (44, (.aload_n 0, 1, 0, 0)), (45, (.getfield 45, 366, 6, 14)), (48, (.invokevirtual 67, 1002, 31, 5)), (51, (.aload_n 2, 1, 0, 0)), (52, (.invokevirtual 70, 1006, 32, 1)), (55, (.ireturn, 1, 0, 0))]
noncomputable def po_49 : List (Nat × mOp) := [(0, (.iconst 0, 1, 0, 0)), (1, (.aload_n 0, 1, 0, 0)), (2, (.getfield 24, 359, 6, 9)), (5, (.iload 5, 2, 0, 0)), (7, (.iaload, 1, 0, 0)), (8, (.aload_n 0, 1, 0, 0)), (9, (.aload_n 1, 1, 0, 0)), (10, (.aload_n 2, 1, 0, 0)), (11, (.iload_n 3, 1, 0, 0)), (12, (.iload 4, 2, 0, 0)), (14, (.iload 5, 2, 0, 0)), (16, (.invokevirtual 74, 994, 48, 6)), (19, (.isub, 1, 0, 0)), (20, (.invokestatic 78, 1017, 1000, 0)), (23, (.ireturn, 1, 0, 0))]
noncomputable def po_50 : List (Nat × mOp) := [(0, (.aload_n 0, 1, 0, 0)), (1, (.getfield 30, 368, 6, 16)), (4, (.ifCond .le 34, 3, 0, 0)), (7, (.aload_n 0, 1, 0, 0)), (8, (.aload_n 1, 1, 0, 0)), (9, (.iload_n 3, 1, 0, 0)), (10, (.invokevirtual 84, 986, 45, 3)), (13, (.ifCond .ne 25, 3, 0, 0)), (16, (.aload_n 0, 1, 0, 0)), (17, (.iload_n 2, 1, 0, 0)), (18, (.invokevirtual 88, 990, 47, 2)), (21, (.ifCond .ne 17, 3, 0, 0)), (24, (.aload_n 0, 1, 0, 0)), (25, (.getfield 24, 359, 6, 9)), (28, (.iload 4, 2, 0, 0)), (30, (.iaload, 1, 0, 0)), (31, (.ifCond .le 7, 3, 0, 0)), (34, (.iconst 1, 1, 0, 0)), (35, (.goto 4, 3, 0, 0)), (38, (.iconst 0, 1, 0, 0)), (39, (.ireturn, 1, 0, 0))]
noncomputable def po_51 : List (Nat × mOp) := [(0, (.aload_n 0, 1, 0, 0)), (1, (.aload_n 1, 1, 0, 0)), (2, (.iload_n 3, 1, 0, 0)), (3, (.iload 4, 2, 0, 0)), (5, (.iload 5, 2, 0, 0)), (7, (.invokevirtual 92, 982, 50, 5)), (10, (.ifCond .ne 5, 3, 0, 0)), (13, (.iconst 0, 1, 0, 0)), (14, (.ireturn, 1, 0, 0)), (15, (.aload_n 0, 1, 0, 0)), (16, (.aload_n 1, 1, 0, 0)), (17, (.aload_n 2, 1, 0, 0)), (18, (.iload_n 3, 1, 0, 0)), (19, (.iload 4, 2, 0, 0)), (21, (.iload 5, 2, 0, 0)), (23, (.invokevirtual 74, 994, 48, 6)), (26, (.istore 6, 2, 0, 0)), (28, (.iconst 0, 1, 0, 0)), (29, (.iload 6, 2, 0, 0)), (31, (.aload_n 0, 1, 0, 0)), (32, (.getfield 24, 359, 6, 9)), (35, (.iload 5, 2, 0, 0)), (37, (.iaload, 1, 0, 0)), (38, (.isub, 1, 0, 0)), (39, (.invokestatic 78, 1017, 1000, 0)), (42, (.istore 7, 2, 0, 0)), (44, (.aload_n 0, 1, 0, 0)), (45, (.getfield 24, 359, 6, 9)), (48, (.iload 5, 2, 0, 0)), (50, (.iconst 0, 1, 0, 0)), (51, (.aload_n 0, 1, 0, 0)), (52, (.getfield 24, 359, 6, 9)), (55, (.iload 5, 2, 0, 0)), (57, (.iaload, 1, 0, 0)), (58, (.iload 6, 2, 0, 0)), (60, (.isub, 1, 0, 0)), (61, (.invokestatic 78, 1017, 1000, 0)), (64, (.iastore, 1, 0, 0)), (65, (.aload_n 0, 1, 0, 0)), (66, (.getfield 27, 362, 6, 11)), (69, (.iload 5, 2, 0, 0)), (71, (.bipush 99, 2, 0, 0)), (73, (.aload_n 0, 1, 0, 0)), (74, (.getfield 27, 362, 6, 11)), (77, (.iload 5, 2, 0, 0)), (79, (.iaload, 1, 0, 0)), (80, (.iload 7, 2, 0, 0)), (82, (.iadd, 1, 0, 0)), (83, (.invokestatic 96, 1018, 1001, 0)), (86, (.iastore, 1, 0, 0)), (87, (.aload_n 0, 1, 0, 0)), (88, (.dup, 1, 0, 0)), (89, (.getfield 30, 368, 6, 16)), (92, (.iconst 1, 1, 0, 0)), (93, (.isub, 1, 0, 0)), (94, (.putfield 30, 368, 6, 16)), (97, (.aload_n 0, 1, 0, 0)), (98, (.getfield 9, 351, 6, 1)), (101, (.iload 4, 2, 0, 0)), (103, (.dup2, 1, 0, 0)), (104, (.iaload, 1, 0, 0)), (105, (.iconst 1, 1, 0, 0)), (106, (.iadd, 1, 0, 0)), (107, (.iastore, 1, 0, 0)), (108, (.aload_n 1, 1, 0, 0)), (109, (.getfield 58, 216, 9, 15)), (112, (.iload_n 3, 1, 0, 0)), (113, (.iaload, 1, 0, 0)), (114, (.iconst 5, 1, 0, 0)), (115, (.if_icmp .lt 14, 3, 0, 0)), (118, (.aload_n 0, 1, 0, 0)), (119, (.getfield 15, 353, 6, 3)), (122, (.iload 4, 2, 0, 0)), (124, (.dup2, 1, 0, 0)), (125, (.iaload, 1, 0, 0)), (126, (.iconst 1, 1, 0, 0)), (127, (.iadd, 1, 0, 0)), (128, (.iastore, 1, 0, 0)), (129, (.aload_n 0, 1, 0, 0)), (130, (.getfield 21, 357, 6, 7)), (133, (.iload_n 3, 1, 0, 0)), (134, (.dup2, 1, 0, 0)), (135, (.iaload, 1, 0, 0)), (136, (.iconst 1, 1, 0, 0)), (137, (.iadd, 1, 0, 0)), (138, (.iastore, 1, 0, 0)), (139, (.aload_n 0, 1, 0, 0)), (140, (.dup, 1, 0, 0)), (141, (.getfield 42, 364, 6, 12)), (144, (.iconst 1, 1, 0, 0)), (145, (.iload_n 3, 1, 0, 0)), (146, (.ishl, 1, 0, 0)), (147, (.ior, 1, 0, 0)), (148, (.putfield 42, 364, 6, 12)), (151, (.iconst 1, 1, 0, 0)), (152, (.ireturn, 1, 0, 0))]
noncomputable def po_52 : List (Nat × mOp) := [(0, (.aload_n 0, 1, 0, 0)), (1, (.aload_n 1, 1, 0, 0)), (2, (.iload_n 2, 1, 0, 0)), (3, (.invokevirtual 84, 986, 45, 3)), (6, (.ifCond .eq 13, 3, 0, 0)), (9, (.aload_n 0, 1, 0, 0)), (10, (.getfield 18, 355, 6, 5)), (13, (.iload_n 2, 1, 0, 0)), (14, (.iaload, 1, 0, 0)), (15, (.iload_n 3, 1, 0, 0)), (16, (.if_icmp .ne 5, 3, 0, 0)), (19, (.iconst 0, 1, 0, 0)), (20, (.ireturn, 1, 0, 0)), (21, (.aload_n 0, 1, 0, 0)), (22, (.getfield 18, 355, 6, 5)), (25, (.iload_n 2, 1, 0, 0)), (26, (.iload_n 3, 1, 0, 0)), (27, (.iastore, 1, 0, 0)), (28, (.iconst 1, 1, 0, 0)), (29, (.ireturn, 1, 0, 0))]
noncomputable def po_53 : List (Nat × mOp) := [(0, (.aload_n 0, 1, 0, 0)), (1, (.getfield 18, 355, 6, 5)), (4, (.iload_n 1, 1, 0, 0)), (5, (.iaload, 1, 0, 0)), (6, (.iconst (-1), 1, 0, 0)), (7, (.if_icmp .ne 5, 3, 0, 0)), (10, (.iconst 0, 1, 0, 0)), (11, (.ireturn, 1, 0, 0)), (12, (.aload_n 0, 1, 0, 0)), (13, (.getfield 18, 355, 6, 5)), (16, (.iload_n 1, 1, 0, 0)), (17, (.iconst (-1), 1, 0, 0)), (18, (.iastore, 1, 0, 0)), (19, (.iconst 1, 1, 0, 0)), (20, (.ireturn, 1, 0, 0))]
noncomputable def po_54 : List (Nat × mOp) := [(0, (.aload_n 0, 1, 0, 0)), (1, (.getfield 27, 362, 6, 11)), (4, (.iload_n 1, 1, 0, 0)), (5, (.iaload, 1, 0, 0)), (6, (.istore_n 2, 1, 0, 0)), (7, (.iload_n 2, 1, 0, 0)), (8, (.ifCond .ne 5, 3, 0, 0)), (11, (.iconst 0, 1, 0, 0)), (12, (.ireturn, 1, 0, 0)), (13, (.aload_n 0, 1, 0, 0)), (14, (.getfield 24, 359, 6, 9)), (17, (.iload_n 1, 1, 0, 0)), (18, (.bipush 99, 2, 0, 0)), (20, (.aload_n 0, 1, 0, 0)), (21, (.getfield 24, 359, 6, 9)), (24, (.iload_n 1, 1, 0, 0)), (25, (.iaload, 1, 0, 0)), (26, (.iload_n 2, 1, 0, 0)), (27, (.iadd, 1, 0, 0)), (28, (.invokestatic 96, 1018, 1001, 0)), (31, (.iastore, 1, 0, 0)), (32, (.aload_n 0, 1, 0, 0)), (33, (.getfield 27, 362, 6, 11)), (36, (.iload_n 1, 1, 0, 0)), (37, (.iconst 0, 1, 0, 0)), (38, (.iastore, 1, 0, 0)), (39, (.aload_n 0, 1, 0, 0)), (40, (.bipush 99, 2, 0, 0)), (42, (.aload_n 0, 1, 0, 0)), (43, (.getfield 30, 368, 6, 16)), (46, (.iload_n 2, 1, 0, 0)), (47, (.iconst 2, 1, 0, 0)), (48, (.idiv, 1, 0, 0)), (49, (.iadd, 1, 0, 0)), (50, (.invokestatic 96, 1018, 1001, 0)), (53, (.putfield 30, 368, 6, 16)), (56, (.iconst 1, 1, 0, 0)), (57, (.ireturn, 1, 0, 0))]
noncomputable def po_55 : List (Nat × mOp) := [(0, (.aload_n 0, 1, 0, 0)), (1, (.getfield 30, 368, 6, 16)), (4, (.bipush 99, 2, 0, 0)), (6, (.if_icmp .lt 5, 3, 0, 0)), (9, (.iconst 0, 1, 0, 0)), (10, (.ireturn, 1, 0, 0)), (11, (.aload_n 0, 1, 0, 0)), (12, (.bipush 99, 2, 0, 0)), (14, (.aload_n 0, 1, 0, 0)), (15, (.getfield 30, 368, 6, 16)), (18, (.iload_n 1, 1, 0, 0)), (19, (.iadd, 1, 0, 0)), (20, (.invokestatic 96, 1018, 1001, 0)), (23, (.putfield 30, 368, 6, 16)), (26, (.iconst 1, 1, 0, 0)), (27, (.ireturn, 1, 0, 0))]
noncomputable def po_56 : List (Nat × mOp) := [(0, (.aload_n 0, 1, 0, 0)), (1, (.getfield 45, 366, 6, 14)), (4, (.sipush 600, 3, 0, 0)), (7, (.if_icmp .lt 5, 3, 0, 0)), (10, (.iconst 0, 1, 0, 0)), (11, (.ireturn, 1, 0, 0)), (12, (.aload_n 0, 1, 0, 0)), (13, (.aload_n 1, 1, 0, 0)), (14, (.invokevirtual 99, 1039, 57, 2)), (17, (.iconst 1, 1, 0, 0)), (18, (.ireturn, 1, 0, 0))]
noncomputable def po_57 : List (Nat × mOp) := [(0, (.iconst 0, 1, 0, 0)), (1, (.istore_n 2, 1, 0, 0)), (2, (.iload_n 2, 1, 0, 0)), (3, (.aload_n 1, 1, 0, 0)), (4, (.getfield 103, 193, 9, 0)), (7, (.if_icmp .ge 43, 3, 0, 0)), (10, (.aload_n 0, 1, 0, 0)), (11, (.getfield 18, 355, 6, 5)), (14, (.iload_n 2, 1, 0, 0)), (15, (.iaload, 1, 0, 0)), (16, (.ifCond .lt 28, 3, 0, 0)), (19, (.aload_n 0, 1, 0, 0)), (20, (.getfield 18, 355, 6, 5)), (23, (.iload_n 2, 1, 0, 0)), (24, (.iaload, 1, 0, 0)), (25, (.aload_n 1, 1, 0, 0)), (26, (.getfield 34, 202, 9, 4)), (29, (.if_icmp .ge 15, 3, 0, 0)), (32, (.aload_n 0, 1, 0, 0)), (33, (.aload_n 1, 1, 0, 0)), (34, (.iload_n 2, 1, 0, 0)), (35, (.aload_n 0, 1, 0, 0)), (36, (.getfield 18, 355, 6, 5)), (39, (.iload_n 2, 1, 0, 0)), (40, (.iaload, 1, 0, 0)), (41, (.invokevirtual 106, 1043, 58, 4)), (44, (.iinc 2 1, 3, 0, 0)), (47, (.goto (-45), 3, 0, 0)), (50, (.aload_n 0, 1, 0, 0)), (51, (.dup, 1, 0, 0)), (52, (.getfield 45, 366, 6, 14)), (55, (.iconst 1, 1, 0, 0)), (56, (.iadd, 1, 0, 0)), (57, (.putfield 45, 366, 6, 14)), (60, (.aload_n 1, 1, 0, 0)), (61, (.getfield 110, 211, 9, 10)), (64, (.ifCond .le 50, 3, 0, 0)), (67, (.aload_n 0, 1, 0, 0)), (68, (.getfield 45, 366, 6, 14)), (71, (.aload_n 1, 1, 0, 0)), (72, (.getfield 110, 211, 9, 10)), (75, (.irem, 1, 0, 0)), (76, (.ifCond .ne 38, 3, 0, 0)), (79, (.iconst 0, 1, 0, 0)), (80, (.istore_n 2, 1, 0, 0)), (81, (.iload_n 2, 1, 0, 0)), (82, (.aload_n 1, 1, 0, 0)), (83, (.getfield 34, 202, 9, 4)), (86, (.if_icmp .ge 28, 3, 0, 0)), (89, (.aload_n 0, 1, 0, 0)), (90, (.getfield 24, 359, 6, 9)), (93, (.iload_n 2, 1, 0, 0)), (94, (.bipush 99, 2, 0, 0)), (96, (.aload_n 0, 1, 0, 0)), (97, (.getfield 24, 359, 6, 9)), (100, (.iload_n 2, 1, 0, 0)), (101, (.iaload, 1, 0, 0)), (102, (.iconst 1, 1, 0, 0)), (103, (.iadd, 1, 0, 0)), (104, (.invokestatic 96, 1018, 1001, 0)), (107, (.iastore, 1, 0, 0)), (108, (.iinc 2 1, 3, 0, 0)), (111, (.goto (-30), 3, 0, 0)), (114, (.aload_n 0, 1, 0, 0)), (115, (.iconst 0, 1, 0, 0)), (116, (.putfield 42, 364, 6, 12)), (119, (.return_, 1, 0, 0))]
noncomputable def po_58 : List (Nat × mOp) := [(0, (.aload_n 0, 1, 0, 0)), (1, (.iload_n 2, 1, 0, 0)), (2, (.invokevirtual 113, 1047, 46, 2)), (5, (.ifCond .eq 25, 3, 0, 0)), (8, (.aload_n 0, 1, 0, 0)), (9, (.getfield 24, 359, 6, 9)), (12, (.iload_n 3, 1, 0, 0)), (13, (.bipush 99, 2, 0, 0)), (15, (.aload_n 0, 1, 0, 0)), (16, (.getfield 24, 359, 6, 9)), (19, (.iload_n 3, 1, 0, 0)), (20, (.iaload, 1, 0, 0)), (21, (.iconst 2, 1, 0, 0)), (22, (.iadd, 1, 0, 0)), (23, (.invokestatic 96, 1018, 1001, 0)), (26, (.iastore, 1, 0, 0)), (27, (.goto 44, 3, 0, 0)), (30, (.aload_n 0, 1, 0, 0)), (31, (.getfield 24, 359, 6, 9)), (34, (.iload_n 3, 1, 0, 0)), (35, (.iaload, 1, 0, 0)), (36, (.ifCond .le 16, 3, 0, 0)), (39, (.aload_n 0, 1, 0, 0)), (40, (.getfield 24, 359, 6, 9)), (43, (.iload_n 3, 1, 0, 0)), (44, (.dup2, 1, 0, 0)), (45, (.iaload, 1, 0, 0)), (46, (.iconst 1, 1, 0, 0)), (47, (.isub, 1, 0, 0)), (48, (.iastore, 1, 0, 0)), (49, (.goto 22, 3, 0, 0)), (52, (.aload_n 0, 1, 0, 0)), (53, (.getfield 27, 362, 6, 11)), (56, (.iload_n 3, 1, 0, 0)), (57, (.bipush 99, 2, 0, 0)), (59, (.aload_n 0, 1, 0, 0)), (60, (.getfield 27, 362, 6, 11)), (63, (.iload_n 3, 1, 0, 0)), (64, (.iaload, 1, 0, 0)), (65, (.iconst 1, 1, 0, 0)), (66, (.iadd, 1, 0, 0)), (67, (.invokestatic 96, 1018, 1001, 0)), (70, (.iastore, 1, 0, 0)), (71, (.aload_n 0, 1, 0, 0)), (72, (.getfield 24, 359, 6, 9)), (75, (.iload_n 3, 1, 0, 0)), (76, (.iaload, 1, 0, 0)), (77, (.ifCond .ne 34, 3, 0, 0)), (80, (.aload_n 0, 1, 0, 0)), (81, (.aload_n 1, 1, 0, 0)), (82, (.aload_n 1, 1, 0, 0)), (83, (.getfield 116, 228, 9, 23)), (86, (.iload_n 3, 1, 0, 0)), (87, (.iaload, 1, 0, 0)), (88, (.invokevirtual 119, 1051, 59, 3)), (91, (.istore 4, 2, 0, 0)), (93, (.aload_n 0, 1, 0, 0)), (94, (.getfield 18, 355, 6, 5)), (97, (.iload_n 2, 1, 0, 0)), (98, (.iload 4, 2, 0, 0)), (100, (.iconst (-1), 1, 0, 0)), (101, (.if_icmp .ne 7, 3, 0, 0)), (104, (.iload_n 3, 1, 0, 0)), (105, (.goto 5, 3, 0, 0)), (108, (.iload 4, 2, 0, 0)), (110, (.iastore, 1, 0, 0)), (111, (.return_, 1, 0, 0))]
noncomputable def po_59 : List (Nat × mOp) := [(0, (.iconst (-1), 1, 0, 0)), (1, (.istore_n 3, 1, 0, 0)), (2, (.iconst 0, 1, 0, 0)), (3, (.istore 4, 2, 0, 0)), (5, (.iconst 0, 1, 0, 0)), (6, (.istore 5, 2, 0, 0)), (8, (.iload 5, 2, 0, 0)), (10, (.aload_n 1, 1, 0, 0)), (11, (.getfield 34, 202, 9, 4)), (14, (.if_icmp .ge 42, 3, 0, 0)), (17, (.iload_n 2, 1, 0, 0)), (18, (.iload 5, 2, 0, 0)), (20, (.ishr, 1, 0, 0)), (21, (.iconst 1, 1, 0, 0)), (22, (.iand, 1, 0, 0)), (23, (.ifCond .eq 27, 3, 0, 0)), (26, (.aload_n 0, 1, 0, 0)), (27, (.getfield 24, 359, 6, 9)), (30, (.iload 5, 2, 0, 0)), (32, (.iaload, 1, 0, 0)), (33, (.iload 4, 2, 0, 0)), (35, (.if_icmp .le 15, 3, 0, 0)), (38, (.iload 5, 2, 0, 0)), (40, (.istore_n 3, 1, 0, 0)), (41, (.aload_n 0, 1, 0, 0)), (42, (.getfield 24, 359, 6, 9)), (45, (.iload 5, 2, 0, 0)), (47, (.iaload, 1, 0, 0)), (48, (.istore 4, 2, 0, 0)), (50, (.iinc 5 1, 3, 0, 0)), (53, (.goto (-45), 3, 0, 0)), (56, (.iload_n 3, 1, 0, 0)), (57, (.ireturn, 1, 0, 0))]
noncomputable def po_60 : List (Nat × mOp) := [(0, (.iconst (-1), 1, 0, 0)), (1, (.istore_n 2, 1, 0, 0)), (2, (.iconst 0, 1, 0, 0)), (3, (.istore_n 3, 1, 0, 0)), (4, (.iconst 0, 1, 0, 0)), (5, (.istore 4, 2, 0, 0)), (7, (.iload 4, 2, 0, 0)), (9, (.aload_n 1, 1, 0, 0)), (10, (.getfield 34, 202, 9, 4)), (13, (.if_icmp .ge 31, 3, 0, 0)), (16, (.aload_n 0, 1, 0, 0)), (17, (.getfield 27, 362, 6, 11)), (20, (.iload 4, 2, 0, 0)), (22, (.iaload, 1, 0, 0)), (23, (.iload_n 3, 1, 0, 0)), (24, (.if_icmp .le 14, 3, 0, 0)), (27, (.iload 4, 2, 0, 0)), (29, (.istore_n 2, 1, 0, 0)), (30, (.aload_n 0, 1, 0, 0)), (31, (.getfield 27, 362, 6, 11)), (34, (.iload 4, 2, 0, 0)), (36, (.iaload, 1, 0, 0)), (37, (.istore_n 3, 1, 0, 0)), (38, (.iinc 4 1, 3, 0, 0)), (41, (.goto (-34), 3, 0, 0)), (44, (.iload_n 2, 1, 0, 0)), (45, (.ireturn, 1, 0, 0))]
noncomputable def po_61 : List (Nat × mOp) := [(0, (.iconst 0, 1, 0, 0)), (1, (.istore_n 2, 1, 0, 0)), (2, (.iconst 0, 1, 0, 0)), (3, (.istore_n 3, 1, 0, 0)), (4, (.iload_n 3, 1, 0, 0)), (5, (.aload_n 1, 1, 0, 0)), (6, (.getfield 34, 202, 9, 4)), (9, (.if_icmp .ge 18, 3, 0, 0)), (12, (.iload_n 2, 1, 0, 0)), (13, (.aload_n 0, 1, 0, 0)), (14, (.getfield 24, 359, 6, 9)), (17, (.iload_n 3, 1, 0, 0)), (18, (.iaload, 1, 0, 0)), (19, (.iadd, 1, 0, 0)), (20, (.istore_n 2, 1, 0, 0)), (21, (.iinc 3 1, 3, 0, 0)), (24, (.goto (-20), 3, 0, 0)), (27, (.iload_n 2, 1, 0, 0)), (28, (.ireturn, 1, 0, 0))]
noncomputable def po_62 : List (Nat × mOp) := [(0, (.iconst 0, 1, 0, 0)), (1, (.istore_n 2, 1, 0, 0)), (2, (.iconst 0, 1, 0, 0)), (3, (.istore_n 3, 1, 0, 0)), (4, (.iload_n 3, 1, 0, 0)), (5, (.aload_n 1, 1, 0, 0)), (6, (.getfield 34, 202, 9, 4)), (9, (.if_icmp .ge 18, 3, 0, 0)), (12, (.iload_n 2, 1, 0, 0)), (13, (.aload_n 0, 1, 0, 0)), (14, (.getfield 27, 362, 6, 11)), (17, (.iload_n 3, 1, 0, 0)), (18, (.iaload, 1, 0, 0)), (19, (.iadd, 1, 0, 0)), (20, (.istore_n 2, 1, 0, 0)), (21, (.iinc 3 1, 3, 0, 0)), (24, (.goto (-20), 3, 0, 0)), (27, (.iload_n 2, 1, 0, 0)), (28, (.ireturn, 1, 0, 0))]
noncomputable def po_63 : List (Nat × mOp) := [(0, (.iconst 0, 1, 0, 0)), (1, (.istore_n 2, 1, 0, 0)), (2, (.iconst 0, 1, 0, 0)), (3, (.istore_n 3, 1, 0, 0)), (4, (.iload_n 3, 1, 0, 0)), (5, (.aload_n 1, 1, 0, 0)), (6, (.getfield 34, 202, 9, 4)), (9, (.if_icmp .ge 24, 3, 0, 0)), (12, (.aload_n 0, 1, 0, 0)), (13, (.getfield 24, 359, 6, 9)), (16, (.iload_n 3, 1, 0, 0)), (17, (.iaload, 1, 0, 0)), (18, (.ifCond .le 9, 3, 0, 0)), (21, (.iload_n 2, 1, 0, 0)), (22, (.iconst 1, 1, 0, 0)), (23, (.iload_n 3, 1, 0, 0)), (24, (.ishl, 1, 0, 0)), (25, (.ior, 1, 0, 0)), (26, (.istore_n 2, 1, 0, 0)), (27, (.iinc 3 1, 3, 0, 0)), (30, (.goto (-26), 3, 0, 0)), (33, (.iload_n 2, 1, 0, 0)), (34, (.ireturn, 1, 0, 0))]
noncomputable def po_64 : List (Nat × mOp) := [(0, (.iconst 1, 1, 0, 0)), (1, (.aload_n 1, 1, 0, 0)), (2, (.getfield 34, 202, 9, 4)), (5, (.ishl, 1, 0, 0)), (6, (.iconst 1, 1, 0, 0)), (7, (.isub, 1, 0, 0)), (8, (.aload_n 0, 1, 0, 0)), (9, (.aload_n 1, 1, 0, 0)), (10, (.invokevirtual 123, 1208, 63, 2)), (13, (.iconst (-1), 1, 0, 0)), (14, (.ixor, 1, 0, 0)), (15, (.iand, 1, 0, 0)), (16, (.ireturn, 1, 0, 0))]
noncomputable def po_65 : List (Nat × mOp) := [(0, (.iconst 0, 1, 0, 0)), (1, (.istore_n 2, 1, 0, 0)), (2, (.iconst 0, 1, 0, 0)), (3, (.istore_n 3, 1, 0, 0)), (4, (.iload_n 3, 1, 0, 0)), (5, (.aload_n 1, 1, 0, 0)), (6, (.getfield 103, 193, 9, 0)), (9, (.if_icmp .ge 24, 3, 0, 0)), (12, (.aload_n 0, 1, 0, 0)), (13, (.aload_n 1, 1, 0, 0)), (14, (.iload_n 3, 1, 0, 0)), (15, (.invokevirtual 84, 986, 45, 3)), (18, (.ifCond .eq 9, 3, 0, 0)), (21, (.iload_n 2, 1, 0, 0)), (22, (.iconst 1, 1, 0, 0)), (23, (.iload_n 3, 1, 0, 0)), (24, (.ishl, 1, 0, 0)), (25, (.ior, 1, 0, 0)), (26, (.istore_n 2, 1, 0, 0)), (27, (.iinc 3 1, 3, 0, 0)), (30, (.goto (-26), 3, 0, 0)), (33, (.iload_n 2, 1, 0, 0)), (34, (.ireturn, 1, 0, 0))]
noncomputable def po_66 : List (Nat × mOp) := [(0, (.iconst 0, 1, 0, 0)), (1, (.istore_n 2, 1, 0, 0)), (2, (.iconst 0, 1, 0, 0)), (3, (.istore_n 3, 1, 0, 0)), (4, (.iload_n 3, 1, 0, 0)), (5, (.aload_n 1, 1, 0, 0)), (6, (.getfield 103, 193, 9, 0)), (9, (.if_icmp .ge 25, 3, 0, 0)), (12, (.aload_n 0, 1, 0, 0)), (13, (.getfield 18, 355, 6, 5)), (16, (.iload_n 3, 1, 0, 0)), (17, (.iaload, 1, 0, 0)), (18, (.iconst (-1), 1, 0, 0)), (19, (.if_icmp .eq 9, 3, 0, 0)), (22, (.iload_n 2, 1, 0, 0)), (23, (.iconst 1, 1, 0, 0)), (24, (.iload_n 3, 1, 0, 0)), (25, (.ishl, 1, 0, 0)), (26, (.ior, 1, 0, 0)), (27, (.istore_n 2, 1, 0, 0)), (28, (.iinc 3 1, 3, 0, 0)), (31, (.goto (-27), 3, 0, 0)), (34, (.iload_n 2, 1, 0, 0)), (35, (.ireturn, 1, 0, 0))]
noncomputable def po_67 : List (Nat × mOp) := [(0, (.iconst 0, 1, 0, 0)), (1, (.istore_n 3, 1, 0, 0)), (2, (.iconst 0, 1, 0, 0)), (3, (.istore 4, 2, 0, 0)), (5, (.iload 4, 2, 0, 0)), (7, (.aload_n 1, 1, 0, 0)), (8, (.getfield 103, 193, 9, 0)), (11, (.if_icmp .ge 27, 3, 0, 0)), (14, (.aload_n 0, 1, 0, 0)), (15, (.getfield 18, 355, 6, 5)), (18, (.iload 4, 2, 0, 0)), (20, (.iaload, 1, 0, 0)), (21, (.iload_n 2, 1, 0, 0)), (22, (.if_icmp .ne 10, 3, 0, 0)), (25, (.iload_n 3, 1, 0, 0)), (26, (.iconst 1, 1, 0, 0)), (27, (.iload 4, 2, 0, 0)), (29, (.ishl, 1, 0, 0)), (30, (.ior, 1, 0, 0)), (31, (.istore_n 3, 1, 0, 0)), (32, (.iinc 4 1, 3, 0, 0)), (35, (.goto (-30), 3, 0, 0)), (38, (.iload_n 3, 1, 0, 0)), (39, (.ireturn, 1, 0, 0))]
noncomputable def po_68 : List (Nat × mOp) := [(0, (.aload_n 0, 1, 0, 0)), (1, (.invokespecial 3, 317, 1005, 0)), (4, (.aload_n 0, 1, 0, 0)), (5, (.sipush 150, 3, 0, 0)), (8, (.newarray .int, 182, 0, 0)), (10, (.putfield 9, 323, 7, 7)), (13, (.aload_n 0, 1, 0, 0)), (14, (.sipush 150, 3, 0, 0)), (17, (.newarray .int, 182, 0, 0)), (19, (.putfield 15, 324, 7, 9)), (22, (.aload_n 0, 1, 0, 0)), (23, (.sipush 150, 3, 0, 0)), (26, (.newarray .int, 182, 0, 0)), (28, (.putfield 18, 325, 7, 11)), (31, (.aload_n 0, 1, 0, 0)), (32, (.sipush 150, 3, 0, 0)), (35, (.newarray .int, 182, 0, 0)), (37, (.putfield 21, 326, 7, 13)), (40, (.aload_n 0, 1, 0, 0)), (41, (.sipush 150, 3, 0, 0)), (44, (.newarray .int, 182, 0, 0)), (46, (.putfield 24, 327, 7, 15)), (49, (.return_, 1, 0, 0))]
noncomputable def po_69 : List (Nat × mOp) := [(0, (.aload_n 0, 1, 0, 0)), (1, (.iconst 0, 1, 0, 0)), (2, (.putfield 27, 322, 7, 4)), (5, (.aload_n 0, 1, 0, 0)), (6, (.aload_n 1, 1, 0, 0)), (7, (.aload_n 2, 1, 0, 0)), (8, (.iconst 0, 1, 0, 0)), (9, (.invokevirtual 31, 921, 70, 4)), (12, (.ireturn, 1, 0, 0))]
noncomputable def po_70 : List (Nat × mOp) := [(0, (.iconst 0, 1, 0, 0)), (1, (.istore 4, 2, 0, 0)), (3, (.iload 4, 2, 0, 0)), (5, (.sipush 150, 3, 0, 0)), (8, (.if_icmp .gt 55, 3, 0, 0)), (11, (.iload_n 3, 1, 0, 0)), (12, (.ifCond .ne 13, 3, 0, 0)), (15, (.aload_n 1, 1, 0, 0)), (16, (.invokevirtual 35, 925, 86, 1)), (19, (.ifCond .eq 17, 3, 0, 0)), (22, (.goto 12, 3, 0, 0)), (25, (.aload_n 1, 1, 0, 0)), (26, (.invokevirtual 41, 926, 85, 1)), (29, (.bipush 93, 2, 0, 0)), (31, (.if_icmp .ne 5, 3, 0, 0)), (34, (.iconst 1, 1, 0, 0)), (35, (.ireturn, 1, 0, 0)), (36, (.aload_n 0, 1, 0, 0)), (37, (.aload_n 1, 1, 0, 0)), (38, (.aload_n 2, 1, 0, 0)), (39, (.iload_n 3, 1, 0, 0)), (40, (.invokevirtual 45, 927, 71, 4)), (43, (.ifCond .eq 12, 3, 0, 0)), (46, (.aload_n 1, 1, 0, 0)), (47, (.bipush 59, 2, 0, 0)), (49, (.invokevirtual 48, 957, 87, 2)), (52, (.ifCond .ne 5, 3, 0, 0)), (55, (.iconst 0, 1, 0, 0)), (56, (.ireturn, 1, 0, 0)), (57, (.iinc 4 1, 3, 0, 0)), (60, (.goto (-57), 3, 0, 0)), (63, (.iconst 1, 1, 0, 0)), (64, (.ireturn, 1, 0, 0))]
noncomputable def po_71 : List (Nat × mOp) := [(0, (.aload_n 1, 1, 0, 0)), (1, (.invokevirtual 52, 931, 88, 1)), (4, (.aload_n 1, 1, 0, 0)), (5, (.invokestatic 55, 932, 72, 1)), (8, (.istore 4, 2, 0, 0)), (10, (.iload 4, 2, 0, 0)), (12, (.iconst (-1), 1, 0, 0)), (13, (.if_icmp .ne 13, 3, 0, 0)), (16, (.aload_n 1, 1, 0, 0)), (17, (.iconst 1, 1, 0, 0)), (18, (.aload_n 1, 1, 0, 0)), (19, (.getfield 59, 153, 8, 8)), (22, (.invokevirtual 62, 943, 84, 3)), (25, (.ireturn, 1, 0, 0)), (26, (.iload 4, 2, 0, 0)), (28, (.bipush 6, 2, 0, 0)), (30, (.if_icmp .ne 19, 3, 0, 0)), (33, (.iload_n 3, 1, 0, 0)), (34, (.bipush 6, 2, 0, 0)), (36, (.if_icmp .lt 13, 3, 0, 0)), (39, (.aload_n 1, 1, 0, 0)), (40, (.iconst 3, 1, 0, 0)), (41, (.aload_n 1, 1, 0, 0)), (42, (.getfield 59, 153, 8, 8)), (45, (.invokevirtual 62, 943, 84, 3)), (48, (.ireturn, 1, 0, 0)), (49, (.aload_n 0, 1, 0, 0)), (50, (.iload 4, 2, 0, 0)), (52, (.invokevirtual 66, 944, 75, 2)), (55, (.istore 5, 2, 0, 0)), (57, (.iload 4, 2, 0, 0)), (59, (.tableswitch 213 0 6 #[41, 107, 153, 171, 189, 213, 203], 41, 0, 0)), (100, (.aload_n 1, 1, 0, 0)), (101, (.aload_n 0, 1, 0, 0)), (102, (.getfield 15, 324, 7, 9)), (105, (.iload 5, 2, 0, 0)), (107, (.iconst 0, 1, 0, 0)), (108, (.aload_n 2, 1, 0, 0)), (109, (.getfield 70, 196, 9, 2)), (112, (.iconst 1, 1, 0, 0)), (113, (.isub, 1, 0, 0)), (114, (.invokestatic 75, 949, 74, 5)), (117, (.ifCond .eq 47, 3, 0, 0)), (120, (.aload_n 1, 1, 0, 0)), (121, (.aload_n 0, 1, 0, 0)), (122, (.getfield 18, 325, 7, 11)), (125, (.iload 5, 2, 0, 0)), (127, (.iconst 0, 1, 0, 0)), (128, (.aload_n 2, 1, 0, 0)), (129, (.getfield 79, 190, 9, 0)), (132, (.iconst 1, 1, 0, 0)), (133, (.isub, 1, 0, 0)), (134, (.invokestatic 75, 949, 74, 5)), (137, (.ifCond .eq 27, 3, 0, 0)), (140, (.aload_n 1, 1, 0, 0)), (141, (.aload_n 0, 1, 0, 0)), (142, (.getfield 21, 326, 7, 13)), (145, (.iload 5, 2, 0, 0)), (147, (.iconst 0, 1, 0, 0)), (148, (.aload_n 2, 1, 0, 0)), (149, (.getfield 82, 204, 9, 4)), (152, (.iconst 1, 1, 0, 0)), (153, (.isub, 1, 0, 0)), (154, (.invokestatic 75, 949, 74, 5)), (157, (.ifCond .eq 7, 3, 0, 0)), (160, (.iconst 1, 1, 0, 0)), (161, (.goto 4, 3, 0, 0)), (164, (.iconst 0, 1, 0, 0)), (165, (.ireturn, 1, 0, 0)), (166, (.aload_n 1, 1, 0, 0)), (167, (.aload_n 0, 1, 0, 0)), (168, (.getfield 15, 324, 7, 9)), (171, (.iload 5, 2, 0, 0)), (173, (.iconst 0, 1, 0, 0)), (174, (.aload_n 2, 1, 0, 0)), (175, (.getfield 79, 190, 9, 0)), (178, (.iconst 1, 1, 0, 0)), (179, (.isub, 1, 0, 0)), (180, (.invokestatic 75, 949, 74, 5)), (183, (.ifCond .eq 27, 3, 0, 0)), (186, (.aload_n 1, 1, 0, 0)), (187, (.aload_n 0, 1, 0, 0)), (188, (.getfield 18, 325, 7, 11)), (191, (.iload 5, 2, 0, 0)), (193, (.iconst 0, 1, 0, 0)), (194, (.aload_n 2, 1, 0, 0)), (195, (.getfield 82, 204, 9, 4)), (198, (.iconst 1, 1, 0, 0)), (199, (.isub, 1, 0, 0)), (200, (.invokestatic 75, 949, 74, 5)), (203, (.ifCond .eq 7, 3, 0, 0)), (206, (.iconst 1, 1, 0, 0)), (207, (.goto 4, 3, 0, 0)), (210, (.iconst 0, 1, 0, 0)), (211, (.ireturn, 1, 0, 0)), (212, (.aload_n 1, 1, 0, 0)), (213, (.aload_n 0, 1, 0, 0)), (214, (.getfield 15, 324, 7, 9)), (217, (.iload 5, 2, 0, 0)), (219, (.iconst 0, 1, 0, 0)), (220, (.aload_n 2, 1, 0, 0)), (221, (.getfield 79, 190, 9, 0)), (224, (.iconst 1, 1, 0, 0)), (225, (.isub, 1, 0, 0)), (226, (.invokestatic 75, 949, 74, 5)), (229, (.ireturn, 1, 0, 0)), (230, (.aload_n 1, 1, 0, 0)), (231, (.aload_n 0, 1, 0, 0)), (232, (.getfield 15, 324, 7, 9)), (235, (.iload 5, 2, 0, 0)), (237, (.iconst 0, 1, 0, 0)), (238, (.aload_n 2, 1, 0, 0)), (239, (.getfield 82, 204, 9, 4)), (242, (.iconst 1, 1, 0, 0)), (243, (.isub, 1, 0, 0)), (244, (.invokestatic 75, 949, 74, 5)), (247, (.ireturn, 1, 0, 0)), (248, (.aload_n 1, 1, 0, 0)), (249, (.aload_n 0, 1, 0, 0)), (250, (.getfield 15, 324, 7, 9)), (253, (.iload 5, 2, 0, 0)), (255, (.iconst 1, 1, 0, 0)), (256, (.bipush 40, 2, 0, 0)), (258, (.invokestatic 75, 949, 74, 5)), (261, (.ireturn, 1, 0, 0)), (262, (.aload_n 0, 1, 0, 0)), (263, (.aload_n 1, 1, 0, 0)), (264, (.aload_n 2, 1, 0, 0)), (265, (.iload_n 3, 1, 0, 0)), (266, (.iload 5, 2, 0, 0)), (268, (.invokevirtual 85, 953, 73, 5)), (271, (.ireturn, 1, 0, 0)), (272, (.iconst 1, 1, 0, 0)), (273, (.ireturn, 1, 0, 0))]
noncomputable def po_72 : List (Nat × mOp) := [(0, (.aload_n 0, 1, 0, 0)), (1, (.ldc 89, 2, 16, 1)), (3, (.invokevirtual 91, 936, 89, 2)), (6, (.ifCond .eq 5, 3, 0, 0)), (9, (.iconst 0, 1, 0, 0)), (10, (.ireturn, 1, 0, 0)), (11, (.aload_n 0, 1, 0, 0)), (12, (.ldc 95, 2, 17, 1)), (14, (.invokevirtual 91, 936, 89, 2)), (17, (.ifCond .eq 5, 3, 0, 0)), (20, (.iconst 1, 1, 0, 0)), (21, (.ireturn, 1, 0, 0)), (22, (.aload_n 0, 1, 0, 0)), (23, (.ldc 97, 2, 18, 1)), (25, (.invokevirtual 91, 936, 89, 2)), (28, (.ifCond .eq 5, 3, 0, 0)), (31, (.iconst 2, 1, 0, 0)), (32, (.ireturn, 1, 0, 0)), (33, (.aload_n 0, 1, 0, 0)), (34, (.ldc 99, 2, 19, 1)), (36, (.invokevirtual 91, 936, 89, 2)), (39, (.ifCond .eq 5, 3, 0, 0)), (42, (.iconst 3, 1, 0, 0)), (43, (.ireturn, 1, 0, 0)), (44, (.aload_n 0, 1, 0, 0)), (45, (.ldc 101, 2, 20, 1)), (47, (.invokevirtual 91, 936, 89, 2)), (50, (.ifCond .eq 5, 3, 0, 0)), (53, (.iconst 4, 1, 0, 0)), (54, (.ireturn, 1, 0, 0)), (55, (.aload_n 0, 1, 0, 0)), (56, (.ldc 103, 2, 21, 1)), (58, (.invokevirtual 91, 936, 89, 2)), (61, (.ifCond .eq 5, 3, 0, 0)), (64, (.iconst 5, 1, 0, 0)), (65, (.ireturn, 1, 0, 0)), (66, (.aload_n 0, 1, 0, 0)), (67, (.ldc 105, 2, 22, 1)), (69, (.invokevirtual 91, 936, 89, 2)), (72, (.ifCond .eq 8, 3, 0, 0)), (75, (.bipush 6, 2, 0, 0)), (77, (.goto 4, 3, 0, 0)), (80, (.iconst (-1), 1, 0, 0)), (81, (.ireturn, 1, 0, 0))]
noncomputable def po_73 : List (Nat × mOp) := [(0, (.aload_n 1, 1, 0, 0)), (1, (.aload_n 0, 1, 0, 0)), (2, (.getfield 15, 324, 7, 9)), (5, (.iload 4, 2, 0, 0)), (7, (.iconst 0, 1, 0, 0)), (8, (.bipush 30, 2, 0, 0)), (10, (.invokestatic 75, 949, 74, 5)), (13, (.ifCond .eq 33, 3, 0, 0)), (16, (.aload_n 1, 1, 0, 0)), (17, (.bipush 91, 2, 0, 0)), (19, (.invokevirtual 48, 957, 87, 2)), (22, (.ifCond .eq 24, 3, 0, 0)), (25, (.aload_n 0, 1, 0, 0)), (26, (.aload_n 1, 1, 0, 0)), (27, (.aload_n 2, 1, 0, 0)), (28, (.iload_n 3, 1, 0, 0)), (29, (.iconst 1, 1, 0, 0)), (30, (.iadd, 1, 0, 0)), (31, (.invokevirtual 31, 921, 70, 4)), (34, (.ifCond .eq 12, 3, 0, 0)), (37, (.aload_n 1, 1, 0, 0)), (38, (.bipush 93, 2, 0, 0)), (40, (.invokevirtual 48, 957, 87, 2)), (43, (.ifCond .ne 5, 3, 0, 0)), (46, (.iconst 0, 1, 0, 0)), (47, (.ireturn, 1, 0, 0)), (48, (.aload_n 0, 1, 0, 0)), (49, (.bipush 7, 2, 0, 0)), (51, (.invokevirtual 66, 944, 75, 2)), (54, (.istore 5, 2, 0, 0)), (56, (.aload_n 0, 1, 0, 0)), (57, (.getfield 15, 324, 7, 9)), (60, (.iload 5, 2, 0, 0)), (62, (.iload 4, 2, 0, 0)), (64, (.iastore, 1, 0, 0)), (65, (.aload_n 0, 1, 0, 0)), (66, (.getfield 18, 325, 7, 11)), (69, (.iload 4, 2, 0, 0)), (71, (.iload 5, 2, 0, 0)), (73, (.iastore, 1, 0, 0)), (74, (.iconst 1, 1, 0, 0)), (75, (.ireturn, 1, 0, 0))]
noncomputable def po_74 : List (Nat × mOp) := [(0, (.aload_n 0, 1, 0, 0)), (1, (.iload_n 3, 1, 0, 0)), (2, (.iload 4, 2, 0, 0)), (4, (.invokevirtual 107, 952, 91, 3)), (7, (.ifCond .ne 5, 3, 0, 0)), (10, (.iconst 0, 1, 0, 0)), (11, (.ireturn, 1, 0, 0)), (12, (.aload_n 1, 1, 0, 0)), (13, (.iload_n 2, 1, 0, 0)), (14, (.aload_n 0, 1, 0, 0)), (15, (.getfield 110, 158, 8, 10)), (18, (.iastore, 1, 0, 0)), (19, (.iconst 1, 1, 0, 0)), (20, (.ireturn, 1, 0, 0))]
noncomputable def po_75 : List (Nat × mOp) := [(0, (.aload_n 0, 1, 0, 0)), (1, (.getfield 27, 322, 7, 4)), (4, (.sipush 149, 3, 0, 0)), (7, (.invokestatic 113, 948, 1001, 0)), (10, (.istore_n 2, 1, 0, 0)), (11, (.aload_n 0, 1, 0, 0)), (12, (.getfield 9, 323, 7, 7)), (15, (.iload_n 2, 1, 0, 0)), (16, (.iload_n 1, 1, 0, 0)), (17, (.iastore, 1, 0, 0)), (18, (.aload_n 0, 1, 0, 0)), (19, (.iload_n 2, 1, 0, 0)), (20, (.iconst 1, 1, 0, 0)), (21, (.iadd, 1, 0, 0)), (22, (.putfield 27, 322, 7, 4)), (25, (.iload_n 2, 1, 0, 0)), (26, (.ireturn, 1, 0, 0))]
noncomputable def po_76 : List (Nat × mOp) := [(0, (.aload_n 0, 1, 0, 0)), (1, (.iconst 0, 1, 0, 0)), (2, (.putfield 119, 319, 7, 0)), (5, (.aload_n 0, 1, 0, 0)), (6, (.iconst 0, 1, 0, 0)), (7, (.putfield 122, 321, 7, 2)), (10, (.iconst 0, 1, 0, 0)), (11, (.istore 4, 2, 0, 0)), (13, (.iconst 0, 1, 0, 0)), (14, (.istore 5, 2, 0, 0)), (16, (.iconst 0, 1, 0, 0)), (17, (.istore 6, 2, 0, 0)), (19, (.iload 6, 2, 0, 0)), (21, (.sipush 10000, 3, 0, 0)), (24, (.if_icmp .ge 100, 3, 0, 0)), (27, (.iload 5, 2, 0, 0)), (29, (.ifCond .lt 95, 3, 0, 0)), (32, (.iload 5, 2, 0, 0)), (34, (.aload_n 0, 1, 0, 0)), (35, (.getfield 27, 322, 7, 4)), (38, (.if_icmp .ge 86, 3, 0, 0)), (41, (.aload_n 0, 1, 0, 0)), (42, (.getfield 9, 323, 7, 7)), (45, (.iload 5, 2, 0, 0)), (47, (.iaload, 1, 0, 0)), (48, (.bipush 7, 2, 0, 0)), (50, (.if_icmp .ne 14, 3, 0, 0)), (53, (.aload_n 0, 1, 0, 0)), (54, (.iload 5, 2, 0, 0)), (56, (.invokevirtual 125, 966, 79, 2)), (59, (.istore 5, 2, 0, 0)), (61, (.goto 57, 3, 0, 0)), (64, (.iload 4, 2, 0, 0)), (66, (.sipush 200, 3, 0, 0)), (69, (.if_icmp .lt 4, 3, 0, 0)), (72, (.return_, 1, 0, 0)), (73, (.aload_n 0, 1, 0, 0)), (74, (.getfield 9, 323, 7, 7)), (77, (.iload 5, 2, 0, 0)), (79, (.iaload, 1, 0, 0)), (80, (.bipush 6, 2, 0, 0)), (82, (.if_icmp .ne 17, 3, 0, 0)), (85, (.iinc 4 1, 3, 0, 0)), (88, (.aload_n 0, 1, 0, 0)), (89, (.iload 5, 2, 0, 0)), (91, (.invokevirtual 128, 970, 78, 2)), (94, (.istore 5, 2, 0, 0)), (96, (.goto 22, 3, 0, 0)), (99, (.iinc 4 1, 3, 0, 0)), (102, (.aload_n 0, 1, 0, 0)), (103, (.aload_n 0, 1, 0, 0)), (104, (.aload_n 1, 1, 0, 0)), (105, (.aload_n 2, 1, 0, 0)), (106, (.aload_n 3, 1, 0, 0)), (107, (.iload 5, 2, 0, 0)), (109, (.invokevirtual 131, 974, 80, 5)), (112, (.invokevirtual 135, 1055, 77, 2)), (115, (.iinc 5 1, 3, 0, 0)), (118, (.iinc 6 1, 3, 0, 0)), (121, (.goto (-102), 3, 0, 0)), (124, (.return_, 1, 0, 0))]
noncomputable def po_77 : List (Nat × mOp) := [(0, (.iload_n 1, 1, 0, 0)), (1, (.ifCond .eq 16, 3, 0, 0)), (4, (.aload_n 0, 1, 0, 0)), (5, (.dup, 1, 0, 0)), (6, (.getfield 119, 319, 7, 0)), (9, (.iconst 1, 1, 0, 0)), (10, (.iadd, 1, 0, 0)), (11, (.putfield 119, 319, 7, 0)), (14, (.goto 13, 3, 0, 0)), (17, (.aload_n 0, 1, 0, 0)), (18, (.dup, 1, 0, 0)), (19, (.getfield 122, 321, 7, 2)), (22, (.iconst 1, 1, 0, 0)), (23, (.iadd, 1, 0, 0)), (24, (.putfield 122, 321, 7, 2)), (27, (.return_, 1, 0, 0))]
noncomputable def po_78 : List (Nat × mOp) := [(0, (.aload_n 0, 1, 0, 0)), (1, (.getfield 24, 327, 7, 15)), (4, (.iload_n 1, 1, 0, 0)), (5, (.aload_n 0, 1, 0, 0)), (6, (.getfield 15, 324, 7, 9)), (9, (.iload_n 1, 1, 0, 0)), (10, (.iaload, 1, 0, 0)), (11, (.iastore, 1, 0, 0)), (12, (.aload_n 0, 1, 0, 0)), (13, (.getfield 15, 324, 7, 9)), (16, (.iload_n 1, 1, 0, 0)), (17, (.iaload, 1, 0, 0)), (18, (.ifCond .le 9, 3, 0, 0)), (21, (.iload_n 1, 1, 0, 0)), (22, (.iconst 1, 1, 0, 0)), (23, (.iadd, 1, 0, 0)), (24, (.goto 11, 3, 0, 0)), (27, (.aload_n 0, 1, 0, 0)), (28, (.getfield 18, 325, 7, 11)), (31, (.iload_n 1, 1, 0, 0)), (32, (.iaload, 1, 0, 0)), (33, (.iconst 1, 1, 0, 0)), (34, (.iadd, 1, 0, 0)), (35, (.ireturn, 1, 0, 0))]
noncomputable def po_79 : List (Nat × mOp) := [(0, (.aload_n 0, 1, 0, 0)), (1, (.getfield 15, 324, 7, 9)), (4, (.iload_n 1, 1, 0, 0)), (5, (.iaload, 1, 0, 0)), (6, (.istore_n 2, 1, 0, 0)), (7, (.iload_n 2, 1, 0, 0)), (8, (.ifCond .lt 8, 3, 0, 0)), (11, (.iload_n 2, 1, 0, 0)), (12, (.iload_n 1, 1, 0, 0)), (13, (.if_icmp .lt 7, 3, 0, 0)), (16, (.iload_n 1, 1, 0, 0)), (17, (.iconst 1, 1, 0, 0)), (18, (.iadd, 1, 0, 0)), (19, (.ireturn, 1, 0, 0)), (20, (.aload_n 0, 1, 0, 0)), (21, (.getfield 24, 327, 7, 15)), (24, (.iload_n 2, 1, 0, 0)), (25, (.dup2, 1, 0, 0)), (26, (.iaload, 1, 0, 0)), (27, (.iconst 1, 1, 0, 0)), (28, (.isub, 1, 0, 0)), (29, (.iastore, 1, 0, 0)), (30, (.aload_n 0, 1, 0, 0)), (31, (.getfield 24, 327, 7, 15)), (34, (.iload_n 2, 1, 0, 0)), (35, (.iaload, 1, 0, 0)), (36, (.ifCond .le 9, 3, 0, 0)), (39, (.iload_n 2, 1, 0, 0)), (40, (.iconst 1, 1, 0, 0)), (41, (.iadd, 1, 0, 0)), (42, (.goto 6, 3, 0, 0)), (45, (.iload_n 1, 1, 0, 0)), (46, (.iconst 1, 1, 0, 0)), (47, (.iadd, 1, 0, 0)), (48, (.ireturn, 1, 0, 0))]
noncomputable def po_80 : List (Nat × mOp) := [(0, (.aload_n 0, 1, 0, 0)), (1, (.getfield 15, 324, 7, 9)), (4, (.iload 4, 2, 0, 0)), (6, (.iaload, 1, 0, 0)), (7, (.istore 5, 2, 0, 0)), (9, (.aload_n 0, 1, 0, 0)), (10, (.getfield 9, 323, 7, 7)), (13, (.iload 4, 2, 0, 0)), (15, (.iaload, 1, 0, 0)), (16, (.tableswitch 95 0 4 #[36, 59, 74, 81, 88], 36, 0, 0)), (52, (.aload_n 1, 1, 0, 0)), (53, (.aload_n 2, 1, 0, 0)), (54, (.aload_n 3, 1, 0, 0)), (55, (.iload 5, 2, 0, 0)), (57, (.aload_n 0, 1, 0, 0)), (58, (.getfield 18, 325, 7, 11)), (61, (.iload 4, 2, 0, 0)), (63, (.iaload, 1, 0, 0)), (64, (.aload_n 0, 1, 0, 0)), (65, (.getfield 21, 326, 7, 13)), (68, (.iload 4, 2, 0, 0)), (70, (.iaload, 1, 0, 0)), (71, (.invokevirtual 139, 978, 51, 6)), (74, (.ireturn, 1, 0, 0)), (75, (.aload_n 1, 1, 0, 0)), (76, (.aload_n 2, 1, 0, 0)), (77, (.iload 5, 2, 0, 0)), (79, (.aload_n 0, 1, 0, 0)), (80, (.getfield 18, 325, 7, 11)), (83, (.iload 4, 2, 0, 0)), (85, (.iaload, 1, 0, 0)), (86, (.invokevirtual 144, 1019, 52, 4)), (89, (.ireturn, 1, 0, 0)), (90, (.aload_n 1, 1, 0, 0)), (91, (.iload 5, 2, 0, 0)), (93, (.invokevirtual 148, 1023, 53, 2)), (96, (.ireturn, 1, 0, 0)), (97, (.aload_n 1, 1, 0, 0)), (98, (.iload 5, 2, 0, 0)), (100, (.invokevirtual 152, 1027, 54, 2)), (103, (.ireturn, 1, 0, 0)), (104, (.aload_n 1, 1, 0, 0)), (105, (.iload 5, 2, 0, 0)), (107, (.invokevirtual 154, 1031, 55, 2)), (110, (.ireturn, 1, 0, 0)), (111, (.aload_n 1, 1, 0, 0)), (112, (.aload_n 2, 1, 0, 0)), (113, (.invokevirtual 156, 1035, 56, 2)), (116, (.ireturn, 1, 0, 0))]
noncomputable def po_81 : List (Nat × mOp) := [(0, (.aload_n 0, 1, 0, 0)), (1, (.invokespecial 3, 144, 1005, 0)), (4, (.aload_n 0, 1, 0, 0)), (5, (.sipush 600, 3, 0, 0)), (8, (.newarray .int, 182, 0, 0)), (10, (.putfield 9, 145, 8, 1)), (13, (.aload_n 0, 1, 0, 0)), (14, (.iconst (-1), 1, 0, 0)), (15, (.putfield 15, 163, 8, 14)), (18, (.return_, 1, 0, 0))]
noncomputable def po_82 : List (Nat × mOp) := [(0, (.bipush 24, 2, 0, 0)), (2, (.istore_n 2, 1, 0, 0)), (3, (.iload_n 2, 1, 0, 0)), (4, (.ifCond .lt 45, 3, 0, 0)), (7, (.aload_n 0, 1, 0, 0)), (8, (.getfield 19, 147, 8, 2)), (11, (.sipush 600, 3, 0, 0)), (14, (.if_icmp .ge 35, 3, 0, 0)), (17, (.aload_n 0, 1, 0, 0)), (18, (.getfield 9, 145, 8, 1)), (21, (.aload_n 0, 1, 0, 0)), (22, (.getfield 19, 147, 8, 2)), (25, (.iload_n 1, 1, 0, 0)), (26, (.iload_n 2, 1, 0, 0)), (27, (.ishr, 1, 0, 0)), (28, (.sipush 255, 3, 0, 0)), (31, (.iand, 1, 0, 0)), (32, (.iastore, 1, 0, 0)), (33, (.aload_n 0, 1, 0, 0)), (34, (.dup, 1, 0, 0)), (35, (.getfield 19, 147, 8, 2)), (38, (.iconst 1, 1, 0, 0)), (39, (.iadd, 1, 0, 0)), (40, (.putfield 19, 147, 8, 2)), (43, (.iinc 2 (-8), 3, 0, 0)), (46, (.goto (-43), 3, 0, 0)), (49, (.return_, 1, 0, 0))]
noncomputable def po_83 : List (Nat × mOp) := [(0, (.aload_n 0, 1, 0, 0)), (1, (.iload_n 1, 1, 0, 0)), (2, (.aload_n 0, 1, 0, 0)), (3, (.getfield 19, 147, 8, 2)), (6, (.invokestatic 22, 703, 1001, 0)), (9, (.putfield 28, 148, 8, 4)), (12, (.aload_n 0, 1, 0, 0)), (13, (.iconst 0, 1, 0, 0)), (14, (.putfield 19, 147, 8, 2)), (17, (.aload_n 0, 1, 0, 0)), (18, (.iconst 0, 1, 0, 0)), (19, (.putfield 31, 149, 8, 6)), (22, (.aload_n 0, 1, 0, 0)), (23, (.iconst 0, 1, 0, 0)), (24, (.putfield 34, 151, 8, 8)), (27, (.aload_n 0, 1, 0, 0)), (28, (.iconst 0, 1, 0, 0)), (29, (.putfield 37, 161, 8, 12)), (32, (.aload_n 0, 1, 0, 0)), (33, (.iconst (-1), 1, 0, 0)), (34, (.putfield 15, 163, 8, 14)), (37, (.return_, 1, 0, 0))]
noncomputable def po_84 : List (Nat × mOp) := [(0, (.aload_n 0, 1, 0, 0)), (1, (.iload_n 1, 1, 0, 0)), (2, (.putfield 37, 161, 8, 12)), (5, (.aload_n 0, 1, 0, 0)), (6, (.iload_n 2, 1, 0, 0)), (7, (.putfield 15, 163, 8, 14)), (10, (.iconst 0, 1, 0, 0)), (11, (.ireturn, 1, 0, 0))]
noncomputable def po_85 : List (Nat × mOp) := [(0, (.aload_n 0, 1, 0, 0)), (1, (.getfield 31, 149, 8, 6)), (4, (.aload_n 0, 1, 0, 0)), (5, (.getfield 28, 148, 8, 4)), (8, (.if_icmp .ge 30, 3, 0, 0)), (11, (.aload_n 0, 1, 0, 0)), (12, (.getfield 9, 145, 8, 1)), (15, (.aload_n 0, 1, 0, 0)), (16, (.getfield 31, 149, 8, 6)), (19, (.iaload, 1, 0, 0)), (20, (.bipush 32, 2, 0, 0)), (22, (.if_icmp .ne 16, 3, 0, 0)), (25, (.aload_n 0, 1, 0, 0)), (26, (.dup, 1, 0, 0)), (27, (.getfield 31, 149, 8, 6)), (30, (.iconst 1, 1, 0, 0)), (31, (.iadd, 1, 0, 0)), (32, (.putfield 31, 149, 8, 6)), (35, (.goto (-35), 3, 0, 0)), (38, (.aload_n 0, 1, 0, 0)), (39, (.getfield 31, 149, 8, 6)), (42, (.aload_n 0, 1, 0, 0)), (43, (.getfield 28, 148, 8, 4)), (46, (.if_icmp .ge 15, 3, 0, 0)), (49, (.aload_n 0, 1, 0, 0)), (50, (.getfield 9, 145, 8, 1)), (53, (.aload_n 0, 1, 0, 0)), (54, (.getfield 31, 149, 8, 6)), (57, (.iaload, 1, 0, 0)), (58, (.goto 4, 3, 0, 0)), (61, (.iconst (-1), 1, 0, 0)), (62, (.ireturn, 1, 0, 0))]
noncomputable def po_86 : List (Nat × mOp) := [(0, (.aload_n 0, 1, 0, 0)), (1, (.invokevirtual 40, 716, 85, 1)), (4, (.iconst (-1), 1, 0, 0)), (5, (.if_icmp .ne 7, 3, 0, 0)), (8, (.iconst 1, 1, 0, 0)), (9, (.goto 4, 3, 0, 0)), (12, (.iconst 0, 1, 0, 0)), (13, (.ireturn, 1, 0, 0))]
noncomputable def po_87 : List (Nat × mOp) := [(0, (.aload_n 0, 1, 0, 0)), (1, (.invokevirtual 40, 716, 85, 1)), (4, (.iload_n 1, 1, 0, 0)), (5, (.if_icmp .eq 13, 3, 0, 0)), (8, (.aload_n 0, 1, 0, 0)), (9, (.iconst 1, 1, 0, 0)), (10, (.aload_n 0, 1, 0, 0)), (11, (.getfield 31, 149, 8, 6)), (14, (.invokevirtual 44, 809, 84, 3)), (17, (.ireturn, 1, 0, 0)), (18, (.aload_n 0, 1, 0, 0)), (19, (.dup, 1, 0, 0)), (20, (.getfield 31, 149, 8, 6)), (23, (.iconst 1, 1, 0, 0)), (24, (.iadd, 1, 0, 0)), (25, (.putfield 31, 149, 8, 6)), (28, (.iconst 1, 1, 0, 0)), (29, (.ireturn, 1, 0, 0))]
noncomputable def po_88 : List (Nat × mOp) := [(0, (.aload_n 0, 1, 0, 0)), (1, (.invokevirtual 40, 716, 85, 1)), (4, (.pop, 1, 0, 0)), (5, (.aload_n 0, 1, 0, 0)), (6, (.aload_n 0, 1, 0, 0)), (7, (.getfield 31, 149, 8, 6)), (10, (.putfield 34, 151, 8, 8)), (13, (.aload_n 0, 1, 0, 0)), (14, (.getfield 31, 149, 8, 6)), (17, (.aload_n 0, 1, 0, 0)), (18, (.getfield 28, 148, 8, 4)), (21, (.if_icmp .ge 44, 3, 0, 0)), (24, (.aload_n 0, 1, 0, 0)), (25, (.getfield 9, 145, 8, 1)), (28, (.aload_n 0, 1, 0, 0)), (29, (.getfield 31, 149, 8, 6)), (32, (.iaload, 1, 0, 0)), (33, (.bipush 97, 2, 0, 0)), (35, (.if_icmp .lt 30, 3, 0, 0)), (38, (.aload_n 0, 1, 0, 0)), (39, (.getfield 9, 145, 8, 1)), (42, (.aload_n 0, 1, 0, 0)), (43, (.getfield 31, 149, 8, 6)), (46, (.iaload, 1, 0, 0)), (47, (.bipush 122, 2, 0, 0)), (49, (.if_icmp .gt 16, 3, 0, 0)), (52, (.aload_n 0, 1, 0, 0)), (53, (.dup, 1, 0, 0)), (54, (.getfield 31, 149, 8, 6)), (57, (.iconst 1, 1, 0, 0)), (58, (.iadd, 1, 0, 0)), (59, (.putfield 31, 149, 8, 6)), (62, (.goto (-49), 3, 0, 0)), (65, (.return_, 1, 0, 0))]
noncomputable def po_89 : List (Nat × mOp) := [(0, (.aload_n 0, 1, 0, 0)), (1, (.getfield 31, 149, 8, 6)), (4, (.aload_n 0, 1, 0, 0)), (5, (.getfield 34, 151, 8, 8)), (8, (.isub, 1, 0, 0)), (9, (.aload_n 1, 1, 0, 0)), (10, (.invokevirtual 48, 736, 1003, 0)), (13, (.if_icmp .eq 5, 3, 0, 0)), (16, (.iconst 0, 1, 0, 0)), (17, (.ireturn, 1, 0, 0)), (18, (.iconst 0, 1, 0, 0)), (19, (.istore_n 2, 1, 0, 0)), (20, (.iload_n 2, 1, 0, 0)), (21, (.aload_n 1, 1, 0, 0)), (22, (.invokevirtual 48, 736, 1003, 0)), (25, (.if_icmp .ge 30, 3, 0, 0)), (28, (.aload_n 0, 1, 0, 0)), (29, (.getfield 9, 145, 8, 1)), (32, (.aload_n 0, 1, 0, 0)), (33, (.getfield 34, 151, 8, 8)), (36, (.iload_n 2, 1, 0, 0)), (37, (.iadd, 1, 0, 0)), (38, (.iaload, 1, 0, 0)), (39, (.aload_n 1, 1, 0, 0)), (40, (.iload_n 2, 1, 0, 0)), (41, (.invokevirtual 52, 746, 1004, 0)), (44, (.if_icmp .eq 5, 3, 0, 0)), (47, (.iconst 0, 1, 0, 0)), (48, (.ireturn, 1, 0, 0)), (49, (.iinc 2 1, 3, 0, 0)), (52, (.goto (-32), 3, 0, 0)), (55, (.iconst 1, 1, 0, 0)), (56, (.ireturn, 1, 0, 0))]
noncomputable def po_90 : List (Nat × mOp) := [(0, (.aload_n 0, 1, 0, 0)), (1, (.getfield 31, 149, 8, 6)), (4, (.aload_n 0, 1, 0, 0)), (5, (.getfield 28, 148, 8, 4)), (8, (.if_icmp .ge 35, 3, 0, 0)), (11, (.aload_n 0, 1, 0, 0)), (12, (.getfield 9, 145, 8, 1)), (15, (.aload_n 0, 1, 0, 0)), (16, (.getfield 31, 149, 8, 6)), (19, (.iaload, 1, 0, 0)), (20, (.bipush 48, 2, 0, 0)), (22, (.if_icmp .lt 21, 3, 0, 0)), (25, (.aload_n 0, 1, 0, 0)), (26, (.getfield 9, 145, 8, 1)), (29, (.aload_n 0, 1, 0, 0)), (30, (.getfield 31, 149, 8, 6)), (33, (.iaload, 1, 0, 0)), (34, (.bipush 57, 2, 0, 0)), (36, (.if_icmp .gt 7, 3, 0, 0)), (39, (.iconst 1, 1, 0, 0)), (40, (.goto 4, 3, 0, 0)), (43, (.iconst 0, 1, 0, 0)), (44, (.ireturn, 1, 0, 0))]
noncomputable def po_91 : List (Nat × mOp) := [(0, (.aload_n 0, 1, 0, 0)), (1, (.invokevirtual 40, 716, 85, 1)), (4, (.pop, 1, 0, 0)), (5, (.aload_n 0, 1, 0, 0)), (6, (.aload_n 0, 1, 0, 0)), (7, (.getfield 31, 149, 8, 6)), (10, (.putfield 34, 151, 8, 8)), (13, (.aload_n 0, 1, 0, 0)), (14, (.iconst 0, 1, 0, 0)), (15, (.putfield 56, 160, 8, 10)), (18, (.aload_n 0, 1, 0, 0)), (19, (.invokevirtual 59, 805, 90, 1)), (22, (.ifCond .ne 13, 3, 0, 0)), (25, (.aload_n 0, 1, 0, 0)), (26, (.iconst 1, 1, 0, 0)), (27, (.aload_n 0, 1, 0, 0)), (28, (.getfield 31, 149, 8, 6)), (31, (.invokevirtual 44, 809, 84, 3)), (34, (.ireturn, 1, 0, 0)), (35, (.aload_n 0, 1, 0, 0)), (36, (.getfield 31, 149, 8, 6)), (39, (.aload_n 0, 1, 0, 0)), (40, (.getfield 28, 148, 8, 4)), (43, (.if_icmp .ge 53, 3, 0, 0)), (46, (.aload_n 0, 1, 0, 0)), (47, (.invokevirtual 59, 805, 90, 1)), (50, (.ifCond .eq 46, 3, 0, 0)), (53, (.aload_n 0, 1, 0, 0)), (54, (.sipush 10000, 3, 0, 0)), (57, (.aload_n 0, 1, 0, 0)), (58, (.getfield 56, 160, 8, 10)), (61, (.bipush 10, 2, 0, 0)), (63, (.imul, 1, 0, 0)), (64, (.aload_n 0, 1, 0, 0)), (65, (.getfield 9, 145, 8, 1)), (68, (.aload_n 0, 1, 0, 0)), (69, (.getfield 31, 149, 8, 6)), (72, (.iaload, 1, 0, 0)), (73, (.iadd, 1, 0, 0)), (74, (.bipush 48, 2, 0, 0)), (76, (.isub, 1, 0, 0)), (77, (.invokestatic 22, 703, 1001, 0)), (80, (.putfield 56, 160, 8, 10)), (83, (.aload_n 0, 1, 0, 0)), (84, (.dup, 1, 0, 0)), (85, (.getfield 31, 149, 8, 6)), (88, (.iconst 1, 1, 0, 0)), (89, (.iadd, 1, 0, 0)), (90, (.putfield 31, 149, 8, 6)), (93, (.goto (-58), 3, 0, 0)), (96, (.aload_n 0, 1, 0, 0)), (97, (.getfield 56, 160, 8, 10)), (100, (.iload_n 1, 1, 0, 0)), (101, (.if_icmp .lt 11, 3, 0, 0)), (104, (.aload_n 0, 1, 0, 0)), (105, (.getfield 56, 160, 8, 10)), (108, (.iload_n 2, 1, 0, 0)), (109, (.if_icmp .le 15, 3, 0, 0)), (112, (.aload_n 0, 1, 0, 0)), (113, (.iconst 2, 1, 0, 0)), (114, (.aload_n 0, 1, 0, 0)), (115, (.getfield 34, 151, 8, 8)), (118, (.invokevirtual 44, 809, 84, 3)), (121, (.ifCond .eq 7, 3, 0, 0)), (124, (.iconst 1, 1, 0, 0)), (125, (.goto 4, 3, 0, 0)), (128, (.iconst 0, 1, 0, 0)), (129, (.ireturn, 1, 0, 0))]
noncomputable def po_92 : List (Nat × mOp) := [(0, (.aload_n 0, 1, 0, 0)), (1, (.invokespecial 3, 188, 1005, 0)), (4, (.aload_n 0, 1, 0, 0)), (5, (.bipush 6, 2, 0, 0)), (7, (.newarray .int, 182, 0, 0)), (9, (.putfield 9, 212, 9, 13)), (12, (.aload_n 0, 1, 0, 0)), (13, (.bipush 6, 2, 0, 0)), (15, (.newarray .int, 182, 0, 0)), (17, (.putfield 15, 215, 9, 15)), (20, (.aload_n 0, 1, 0, 0)), (21, (.bipush 9, 2, 0, 0)), (23, (.newarray .int, 182, 0, 0)), (25, (.putfield 18, 218, 9, 17)), (28, (.aload_n 0, 1, 0, 0)), (29, (.bipush 9, 2, 0, 0)), (31, (.newarray .int, 182, 0, 0)), (33, (.putfield 21, 225, 9, 23)), (36, (.aload_n 0, 1, 0, 0)), (37, (.bipush 14, 2, 0, 0)), (39, (.newarray .int, 182, 0, 0)), (41, (.putfield 24, 221, 9, 19)), (44, (.aload_n 0, 1, 0, 0)), (45, (.bipush 14, 2, 0, 0)), (47, (.newarray .int, 182, 0, 0)), (49, (.putfield 27, 223, 9, 21)), (52, (.aload_n 0, 1, 0, 0)), (53, (.bipush 12, 2, 0, 0)), (55, (.putfield 30, 208, 9, 8)), (58, (.return_, 1, 0, 0))]
noncomputable def po_93 : List (Nat × mOp) := [(0, (.aload_n 0, 1, 0, 0)), (1, (.iconst 0, 1, 0, 0)), (2, (.putfield 34, 189, 9, 0)), (5, (.aload_n 0, 1, 0, 0)), (6, (.iconst 0, 1, 0, 0)), (7, (.putfield 37, 195, 9, 2)), (10, (.aload_n 0, 1, 0, 0)), (11, (.iconst 0, 1, 0, 0)), (12, (.putfield 40, 200, 9, 4)), (15, (.aload_n 0, 1, 0, 0)), (16, (.iconst 0, 1, 0, 0)), (17, (.putfield 43, 206, 9, 6)), (20, (.aload_n 0, 1, 0, 0)), (21, (.bipush 12, 2, 0, 0)), (23, (.putfield 30, 208, 9, 8)), (26, (.aload_n 0, 1, 0, 0)), (27, (.iconst 0, 1, 0, 0)), (28, (.putfield 46, 210, 9, 10)), (31, (.iconst 0, 1, 0, 0)), (32, (.istore_n 1, 1, 0, 0)), (33, (.iload_n 1, 1, 0, 0)), (34, (.bipush 9, 2, 0, 0)), (36, (.if_icmp .ge 16, 3, 0, 0)), (39, (.aload_n 0, 1, 0, 0)), (40, (.getfield 21, 225, 9, 23)), (43, (.iload_n 1, 1, 0, 0)), (44, (.iconst 0, 1, 0, 0)), (45, (.iastore, 1, 0, 0)), (46, (.iinc 1 1, 3, 0, 0)), (49, (.goto (-16), 3, 0, 0)), (52, (.return_, 1, 0, 0))]
noncomputable def po_94 : List (Nat × mOp) := [(0, (.aload_n 0, 1, 0, 0)), (1, (.invokevirtual 49, 708, 93, 1)), (4, (.iconst 0, 1, 0, 0)), (5, (.istore_n 2, 1, 0, 0)), (6, (.iload_n 2, 1, 0, 0)), (7, (.bipush 60, 2, 0, 0)), (9, (.if_icmp .gt 48, 3, 0, 0)), (12, (.aload_n 1, 1, 0, 0)), (13, (.invokevirtual 52, 712, 86, 1)), (16, (.ifCond .eq 5, 3, 0, 0)), (19, (.iconst 1, 1, 0, 0)), (20, (.ireturn, 1, 0, 0)), (21, (.aload_n 0, 1, 0, 0)), (22, (.aload_n 1, 1, 0, 0)), (23, (.iload_n 2, 1, 0, 0)), (24, (.bipush 60, 2, 0, 0)), (26, (.if_icmp .ne 7, 3, 0, 0)), (29, (.iconst 1, 1, 0, 0)), (30, (.goto 4, 3, 0, 0)), (33, (.iconst 0, 1, 0, 0)), (34, (.invokevirtual 58, 720, 95, 3)), (37, (.ifCond .eq 12, 3, 0, 0)), (40, (.aload_n 1, 1, 0, 0)), (41, (.bipush 59, 2, 0, 0)), (43, (.invokevirtual 62, 820, 87, 2)), (46, (.ifCond .ne 5, 3, 0, 0)), (49, (.iconst 0, 1, 0, 0)), (50, (.ireturn, 1, 0, 0)), (51, (.iinc 2 1, 3, 0, 0)), (54, (.goto (-48), 3, 0, 0)), (57, (.iconst 1, 1, 0, 0)), (58, (.ireturn, 1, 0, 0))]
noncomputable def po_95 : List (Nat × mOp) := [(0, (.aload_n 1, 1, 0, 0)), (1, (.invokevirtual 66, 724, 88, 1)), (4, (.aload_n 1, 1, 0, 0)), (5, (.invokestatic 69, 728, 96, 1)), (8, (.istore_n 3, 1, 0, 0)), (9, (.iload_n 3, 1, 0, 0)), (10, (.iconst (-1), 1, 0, 0)), (11, (.if_icmp .ne 13, 3, 0, 0)), (14, (.aload_n 1, 1, 0, 0)), (15, (.iconst 1, 1, 0, 0)), (16, (.aload_n 1, 1, 0, 0)), (17, (.getfield 73, 152, 8, 8)), (20, (.invokevirtual 76, 789, 84, 3)), (23, (.ireturn, 1, 0, 0)), (24, (.iload_n 2, 1, 0, 0)), (25, (.ifCond .ne 11, 3, 0, 0)), (28, (.aload_n 0, 1, 0, 0)), (29, (.iload_n 3, 1, 0, 0)), (30, (.invokevirtual 80, 793, 97, 2)), (33, (.ifCond .eq 13, 3, 0, 0)), (36, (.aload_n 1, 1, 0, 0)), (37, (.iconst 3, 1, 0, 0)), (38, (.aload_n 1, 1, 0, 0)), (39, (.getfield 73, 152, 8, 8)), (42, (.invokevirtual 76, 789, 84, 3)), (45, (.ireturn, 1, 0, 0)), (46, (.iload_n 3, 1, 0, 0)), (47, (.iconst 3, 1, 0, 0)), (48, (.if_icmp .ne 11, 3, 0, 0)), (51, (.aload_n 0, 1, 0, 0)), (52, (.aload_n 1, 1, 0, 0)), (53, (.invokevirtual 84, 797, 101, 2)), (56, (.goto 9, 3, 0, 0)), (59, (.aload_n 0, 1, 0, 0)), (60, (.aload_n 1, 1, 0, 0)), (61, (.iload_n 3, 1, 0, 0)), (62, (.invokevirtual 88, 810, 98, 3)), (65, (.ireturn, 1, 0, 0))]
noncomputable def po_96 : List (Nat × mOp) := [(0, (.aload_n 0, 1, 0, 0)), (1, (.ldc 92, 2, 0, 1)), (3, (.invokevirtual 94, 732, 89, 2)), (6, (.ifCond .eq 5, 3, 0, 0)), (9, (.iconst 0, 1, 0, 0)), (10, (.ireturn, 1, 0, 0)), (11, (.aload_n 0, 1, 0, 0)), (12, (.ldc 98, 2, 1, 1)), (14, (.invokevirtual 94, 732, 89, 2)), (17, (.ifCond .eq 5, 3, 0, 0)), (20, (.iconst 1, 1, 0, 0)), (21, (.ireturn, 1, 0, 0)), (22, (.aload_n 0, 1, 0, 0)), (23, (.ldc 100, 2, 2, 1)), (25, (.invokevirtual 94, 732, 89, 2)), (28, (.ifCond .eq 5, 3, 0, 0)), (31, (.iconst 2, 1, 0, 0)), (32, (.ireturn, 1, 0, 0)), (33, (.aload_n 0, 1, 0, 0)), (34, (.ldc 102, 2, 3, 1)), (36, (.invokevirtual 94, 732, 89, 2)), (39, (.ifCond .eq 5, 3, 0, 0)), (42, (.iconst 3, 1, 0, 0)), (43, (.ireturn, 1, 0, 0)), (44, (.aload_n 0, 1, 0, 0)), (45, (.ldc 104, 2, 4, 1)), (47, (.invokevirtual 94, 732, 89, 2)), (50, (.ifCond .eq 5, 3, 0, 0)), (53, (.iconst 4, 1, 0, 0)), (54, (.ireturn, 1, 0, 0)), (55, (.aload_n 0, 1, 0, 0)), (56, (.ldc 105, 2, 5, 1)), (58, (.invokevirtual 94, 732, 89, 2)), (61, (.ifCond .eq 7, 3, 0, 0)), (64, (.iconst 5, 1, 0, 0)), (65, (.goto 4, 3, 0, 0)), (68, (.iconst (-1), 1, 0, 0)), (69, (.ireturn, 1, 0, 0))]
noncomputable def po_97 : List (Nat × mOp) := [(0, (.iload_n 1, 1, 0, 0)), (1, (.ifCond .ne 12, 3, 0, 0)), (4, (.aload_n 0, 1, 0, 0)), (5, (.getfield 34, 189, 9, 0)), (8, (.bipush 6, 2, 0, 0)), (10, (.if_icmp .ge 45, 3, 0, 0)), (13, (.iload_n 1, 1, 0, 0)), (14, (.iconst 1, 1, 0, 0)), (15, (.if_icmp .ne 12, 3, 0, 0)), (18, (.aload_n 0, 1, 0, 0)), (19, (.getfield 37, 195, 9, 2)), (22, (.bipush 6, 2, 0, 0)), (24, (.if_icmp .ge 31, 3, 0, 0)), (27, (.iload_n 1, 1, 0, 0)), (28, (.iconst 2, 1, 0, 0)), (29, (.if_icmp .ne 12, 3, 0, 0)), (32, (.aload_n 0, 1, 0, 0)), (33, (.getfield 40, 200, 9, 4)), (36, (.bipush 9, 2, 0, 0)), (38, (.if_icmp .ge 17, 3, 0, 0)), (41, (.iload_n 1, 1, 0, 0)), (42, (.iconst 3, 1, 0, 0)), (43, (.if_icmp .ne 16, 3, 0, 0)), (46, (.aload_n 0, 1, 0, 0)), (47, (.getfield 43, 206, 9, 6)), (50, (.bipush 14, 2, 0, 0)), (52, (.if_icmp .lt 7, 3, 0, 0)), (55, (.iconst 1, 1, 0, 0)), (56, (.goto 4, 3, 0, 0)), (59, (.iconst 0, 1, 0, 0)), (60, (.ireturn, 1, 0, 0))]
noncomputable def po_98 : List (Nat × mOp) := [(0, (.aload_n 1, 1, 0, 0)), (1, (.iload_n 2, 1, 0, 0)), (2, (.invokestatic 106, 814, 99, 1)), (5, (.iload_n 2, 1, 0, 0)), (6, (.invokestatic 110, 817, 100, 1)), (9, (.invokevirtual 113, 801, 91, 3)), (12, (.ifCond .ne 5, 3, 0, 0)), (15, (.iconst 0, 1, 0, 0)), (16, (.ireturn, 1, 0, 0)), (17, (.iload_n 2, 1, 0, 0)), (18, (.tableswitch 123 0 4 #[34, 60, 86, 123, 112], 34, 0, 0)), (52, (.aload_n 0, 1, 0, 0)), (53, (.getfield 9, 212, 9, 13)), (56, (.aload_n 0, 1, 0, 0)), (57, (.getfield 34, 189, 9, 0)), (60, (.aload_n 1, 1, 0, 0)), (61, (.getfield 116, 159, 8, 10)), (64, (.iastore, 1, 0, 0)), (65, (.aload_n 0, 1, 0, 0)), (66, (.dup, 1, 0, 0)), (67, (.getfield 34, 189, 9, 0)), (70, (.iconst 1, 1, 0, 0)), (71, (.iadd, 1, 0, 0)), (72, (.putfield 34, 189, 9, 0)), (75, (.goto 74, 3, 0, 0)), (78, (.aload_n 0, 1, 0, 0)), (79, (.getfield 15, 215, 9, 15)), (82, (.aload_n 0, 1, 0, 0)), (83, (.getfield 37, 195, 9, 2)), (86, (.aload_n 1, 1, 0, 0)), (87, (.getfield 116, 159, 8, 10)), (90, (.iastore, 1, 0, 0)), (91, (.aload_n 0, 1, 0, 0)), (92, (.dup, 1, 0, 0)), (93, (.getfield 37, 195, 9, 2)), (96, (.iconst 1, 1, 0, 0)), (97, (.iadd, 1, 0, 0)), (98, (.putfield 37, 195, 9, 2)), (101, (.goto 48, 3, 0, 0)), (104, (.aload_n 0, 1, 0, 0)), (105, (.getfield 18, 218, 9, 17)), (108, (.aload_n 0, 1, 0, 0)), (109, (.getfield 40, 200, 9, 4)), (112, (.aload_n 1, 1, 0, 0)), (113, (.getfield 116, 159, 8, 10)), (116, (.iastore, 1, 0, 0)), (117, (.aload_n 0, 1, 0, 0)), (118, (.dup, 1, 0, 0)), (119, (.getfield 40, 200, 9, 4)), (122, (.iconst 1, 1, 0, 0)), (123, (.iadd, 1, 0, 0)), (124, (.putfield 40, 200, 9, 4)), (127, (.goto 22, 3, 0, 0)), (130, (.aload_n 0, 1, 0, 0)), (131, (.aload_n 1, 1, 0, 0)), (132, (.getfield 116, 159, 8, 10)), (135, (.putfield 30, 208, 9, 8)), (138, (.goto 11, 3, 0, 0)), (141, (.aload_n 0, 1, 0, 0)), (142, (.aload_n 1, 1, 0, 0)), (143, (.getfield 116, 159, 8, 10)), (146, (.putfield 46, 210, 9, 10)), (149, (.iconst 1, 1, 0, 0)), (150, (.ireturn, 1, 0, 0))]
noncomputable def po_99 : List (Nat × mOp) := [(0, (.iload_n 0, 1, 0, 0)), (1, (.ifCond .eq 8, 3, 0, 0)), (4, (.iload_n 0, 1, 0, 0)), (5, (.iconst 5, 1, 0, 0)), (6, (.if_icmp .ne 7, 3, 0, 0)), (9, (.iconst 1, 1, 0, 0)), (10, (.goto 4, 3, 0, 0)), (13, (.iconst 0, 1, 0, 0)), (14, (.ireturn, 1, 0, 0))]
noncomputable def po_100 : List (Nat × mOp) := [(0, (.iload_n 0, 1, 0, 0)), (1, (.tableswitch 36 0 2 #[27, 30, 33], 27, 0, 0)), (28, (.bipush 20, 2, 0, 0)), (30, (.ireturn, 1, 0, 0)), (31, (.bipush 9, 2, 0, 0)), (33, (.ireturn, 1, 0, 0)), (34, (.bipush 60, 2, 0, 0)), (36, (.ireturn, 1, 0, 0)), (37, (.bipush 99, 2, 0, 0)), (39, (.ireturn, 1, 0, 0))]
noncomputable def po_101 : List (Nat × mOp) := [(0, (.aload_n 1, 1, 0, 0)), (1, (.iconst 0, 1, 0, 0)), (2, (.aload_n 0, 1, 0, 0)), (3, (.getfield 40, 200, 9, 4)), (6, (.iconst 1, 1, 0, 0)), (7, (.isub, 1, 0, 0)), (8, (.invokevirtual 113, 801, 91, 3)), (11, (.ifCond .ne 5, 3, 0, 0)), (14, (.iconst 0, 1, 0, 0)), (15, (.ireturn, 1, 0, 0)), (16, (.aload_n 1, 1, 0, 0)), (17, (.getfield 116, 159, 8, 10)), (20, (.istore_n 2, 1, 0, 0)), (21, (.aload_n 1, 1, 0, 0)), (22, (.iconst 0, 1, 0, 0)), (23, (.aload_n 0, 1, 0, 0)), (24, (.getfield 40, 200, 9, 4)), (27, (.iconst 1, 1, 0, 0)), (28, (.isub, 1, 0, 0)), (29, (.invokevirtual 113, 801, 91, 3)), (32, (.ifCond .ne 5, 3, 0, 0)), (35, (.iconst 0, 1, 0, 0)), (36, (.ireturn, 1, 0, 0)), (37, (.aload_n 1, 1, 0, 0)), (38, (.getfield 116, 159, 8, 10)), (41, (.istore_n 3, 1, 0, 0)), (42, (.iload_n 2, 1, 0, 0)), (43, (.iload_n 3, 1, 0, 0)), (44, (.if_icmp .eq 16, 3, 0, 0)), (47, (.aload_n 0, 1, 0, 0)), (48, (.getfield 21, 225, 9, 23)), (51, (.iload_n 2, 1, 0, 0)), (52, (.iaload, 1, 0, 0)), (53, (.iload_n 3, 1, 0, 0)), (54, (.ishr, 1, 0, 0)), (55, (.iconst 1, 1, 0, 0)), (56, (.iand, 1, 0, 0)), (57, (.ifCond .eq 13, 3, 0, 0)), (60, (.aload_n 1, 1, 0, 0)), (61, (.iconst 2, 1, 0, 0)), (62, (.aload_n 1, 1, 0, 0)), (63, (.getfield 73, 152, 8, 8)), (66, (.invokevirtual 76, 789, 84, 3)), (69, (.ireturn, 1, 0, 0)), (70, (.aload_n 0, 1, 0, 0)), (71, (.getfield 24, 221, 9, 19)), (74, (.aload_n 0, 1, 0, 0)), (75, (.getfield 43, 206, 9, 6)), (78, (.iload_n 2, 1, 0, 0)), (79, (.iastore, 1, 0, 0)), (80, (.aload_n 0, 1, 0, 0)), (81, (.getfield 27, 223, 9, 21)), (84, (.aload_n 0, 1, 0, 0)), (85, (.getfield 43, 206, 9, 6)), (88, (.iload_n 3, 1, 0, 0)), (89, (.iastore, 1, 0, 0)), (90, (.aload_n 0, 1, 0, 0)), (91, (.dup, 1, 0, 0)), (92, (.getfield 43, 206, 9, 6)), (95, (.iconst 1, 1, 0, 0)), (96, (.iadd, 1, 0, 0)), (97, (.putfield 43, 206, 9, 6)), (100, (.aload_n 0, 1, 0, 0)), (101, (.getfield 21, 225, 9, 23)), (104, (.iload_n 2, 1, 0, 0)), (105, (.dup2, 1, 0, 0)), (106, (.iaload, 1, 0, 0)), (107, (.iconst 1, 1, 0, 0)), (108, (.iload_n 3, 1, 0, 0)), (109, (.ishl, 1, 0, 0)), (110, (.ior, 1, 0, 0)), (111, (.iastore, 1, 0, 0)), (112, (.aload_n 0, 1, 0, 0)), (113, (.getfield 21, 225, 9, 23)), (116, (.iload_n 3, 1, 0, 0)), (117, (.dup2, 1, 0, 0)), (118, (.iaload, 1, 0, 0)), (119, (.iconst 1, 1, 0, 0)), (120, (.iload_n 2, 1, 0, 0)), (121, (.ishl, 1, 0, 0)), (122, (.ior, 1, 0, 0)), (123, (.iastore, 1, 0, 0)), (124, (.iconst 1, 1, 0, 0)), (125, (.ireturn, 1, 0, 0))]
noncomputable def po_102 : List (Nat × mOp) := [(0, (.aload_n 0, 1, 0, 0)), (1, (.invokespecial 3, 457, 1005, 0)), (4, (.aload_n 0, 1, 0, 0)), (5, (.sipush 4608, 3, 0, 0)), (8, (.newarray .int, 182, 0, 0)), (10, (.putfield 9, 458, 10, 1)), (13, (.aload_n 0, 1, 0, 0)), (14, (.sipush 4608, 3, 0, 0)), (17, (.newarray .int, 182, 0, 0)), (19, (.putfield 15, 459, 10, 3)), (22, (.return_, 1, 0, 0))]
noncomputable def po_103 : List (Nat × mOp) := [(0, (.aload_n 1, 1, 0, 0)), (1, (.getfield 18, 199, 9, 4)), (4, (.sipush 512, 3, 0, 0)), (7, (.imul, 1, 0, 0)), (8, (.istore 4, 2, 0, 0)), (10, (.iconst 0, 1, 0, 0)), (11, (.istore 5, 2, 0, 0)), (13, (.iload 5, 2, 0, 0)), (15, (.iload 4, 2, 0, 0)), (17, (.if_icmp .ge 17, 3, 0, 0)), (20, (.aload_n 0, 1, 0, 0)), (21, (.getfield 9, 458, 10, 1)), (24, (.iload 5, 2, 0, 0)), (26, (.iconst (-1), 1, 0, 0)), (27, (.iastore, 1, 0, 0)), (28, (.iinc 5 1, 3, 0, 0)), (31, (.goto (-18), 3, 0, 0)), (34, (.aload_n 0, 1, 0, 0)), (35, (.iconst 0, 1, 0, 0)), (36, (.putfield 24, 460, 10, 4)), (39, (.aload_n 0, 1, 0, 0)), (40, (.iload_n 3, 1, 0, 0)), (41, (.iconst 1, 1, 0, 0)), (42, (.iload_n 3, 1, 0, 0)), (43, (.ishl, 1, 0, 0)), (44, (.iload_n 2, 1, 0, 0)), (45, (.iand, 1, 0, 0)), (46, (.iconst 0, 1, 0, 0)), (47, (.invokevirtual 27, 1270, 104, 4)), (50, (.iconst 0, 1, 0, 0)), (51, (.istore 5, 2, 0, 0)), (53, (.iload 5, 2, 0, 0)), (55, (.aload_n 0, 1, 0, 0)), (56, (.getfield 24, 460, 10, 4)), (59, (.if_icmp .ge 126, 3, 0, 0)), (62, (.iload 5, 2, 0, 0)), (64, (.aload_n 0, 1, 0, 0)), (65, (.getfield 15, 459, 10, 3)), (68, (.arraylength, 1, 0, 0)), (69, (.if_icmp .ge 116, 3, 0, 0)), (72, (.aload_n 0, 1, 0, 0)), (73, (.getfield 15, 459, 10, 3)), (76, (.iload 5, 2, 0, 0)), (78, (.iaload, 1, 0, 0)), (79, (.sipush 512, 3, 0, 0)), (82, (.idiv, 1, 0, 0)), (83, (.istore 6, 2, 0, 0)), (85, (.aload_n 0, 1, 0, 0)), (86, (.getfield 15, 459, 10, 3)), (89, (.iload 5, 2, 0, 0)), (91, (.iaload, 1, 0, 0)), (92, (.sipush 512, 3, 0, 0)), (95, (.irem, 1, 0, 0)), (96, (.istore 7, 2, 0, 0)), (98, (.iload 7, 2, 0, 0)), (100, (.iload_n 2, 1, 0, 0)), (101, (.if_icmp .ne 16, 3, 0, 0)), (104, (.aload_n 0, 1, 0, 0)), (105, (.getfield 9, 458, 10, 1)), (108, (.aload_n 0, 1, 0, 0)), (109, (.getfield 15, 459, 10, 3)), (112, (.iload 5, 2, 0, 0)), (114, (.iaload, 1, 0, 0)), (115, (.iaload, 1, 0, 0)), (116, (.ireturn, 1, 0, 0)), (117, (.iconst 0, 1, 0, 0)), (118, (.istore 8, 2, 0, 0)), (120, (.iload 8, 2, 0, 0)), (122, (.aload_n 1, 1, 0, 0)), (123, (.getfield 18, 199, 9, 4)), (126, (.if_icmp .ge 53, 3, 0, 0)), (129, (.aload_n 1, 1, 0, 0)), (130, (.getfield 31, 226, 9, 23)), (133, (.iload 6, 2, 0, 0)), (135, (.iaload, 1, 0, 0)), (136, (.iload 8, 2, 0, 0)), (138, (.ishr, 1, 0, 0)), (139, (.iconst 1, 1, 0, 0)), (140, (.iand, 1, 0, 0)), (141, (.ifCond .eq 32, 3, 0, 0)), (144, (.aload_n 0, 1, 0, 0)), (145, (.iload 8, 2, 0, 0)), (147, (.iload 7, 2, 0, 0)), (149, (.iconst 1, 1, 0, 0)), (150, (.iload 8, 2, 0, 0)), (152, (.ishl, 1, 0, 0)), (153, (.iload_n 2, 1, 0, 0)), (154, (.iand, 1, 0, 0)), (155, (.ior, 1, 0, 0)), (156, (.aload_n 0, 1, 0, 0)), (157, (.getfield 9, 458, 10, 1)), (160, (.aload_n 0, 1, 0, 0)), (161, (.getfield 15, 459, 10, 3)), (164, (.iload 5, 2, 0, 0)), (166, (.iaload, 1, 0, 0)), (167, (.iaload, 1, 0, 0)), (168, (.iconst 1, 1, 0, 0)), (169, (.iadd, 1, 0, 0)), (170, (.invokevirtual 27, 1270, 104, 4)), (173, (.iinc 8 1, 3, 0, 0)), (176, (.goto (-56), 3, 0, 0)), (179, (.iinc 5 1, 3, 0, 0)), (182, (.goto (-129), 3, 0, 0)), (185, (.iconst (-1), 1, 0, 0)), (186, (.ireturn, 1, 0, 0))]
noncomputable def po_104 : List (Nat × mOp) := [(0, (.iload_n 1, 1, 0, 0)), (1, (.sipush 512, 3, 0, 0)), (4, (.imul, 1, 0, 0)), (5, (.iload_n 2, 1, 0, 0)), (6, (.iadd, 1, 0, 0)), (7, (.istore 4, 2, 0, 0)), (9, (.iload 4, 2, 0, 0)), (11, (.ifCond .lt 65, 3, 0, 0)), (14, (.iload 4, 2, 0, 0)), (16, (.aload_n 0, 1, 0, 0)), (17, (.getfield 9, 458, 10, 1)), (20, (.arraylength, 1, 0, 0)), (21, (.if_icmp .ge 55, 3, 0, 0)), (24, (.aload_n 0, 1, 0, 0)), (25, (.getfield 9, 458, 10, 1)), (28, (.iload 4, 2, 0, 0)), (30, (.iaload, 1, 0, 0)), (31, (.iconst (-1), 1, 0, 0)), (32, (.if_icmp .ne 44, 3, 0, 0)), (35, (.aload_n 0, 1, 0, 0)), (36, (.getfield 24, 460, 10, 4)), (39, (.aload_n 0, 1, 0, 0)), (40, (.getfield 15, 459, 10, 3)), (43, (.arraylength, 1, 0, 0)), (44, (.if_icmp .ge 32, 3, 0, 0)), (47, (.aload_n 0, 1, 0, 0)), (48, (.getfield 9, 458, 10, 1)), (51, (.iload 4, 2, 0, 0)), (53, (.iload_n 3, 1, 0, 0)), (54, (.iastore, 1, 0, 0)), (55, (.aload_n 0, 1, 0, 0)), (56, (.getfield 15, 459, 10, 3)), (59, (.aload_n 0, 1, 0, 0)), (60, (.getfield 24, 460, 10, 4)), (63, (.iload 4, 2, 0, 0)), (65, (.iastore, 1, 0, 0)), (66, (.aload_n 0, 1, 0, 0)), (67, (.dup, 1, 0, 0)), (68, (.getfield 24, 460, 10, 4)), (71, (.iconst 1, 1, 0, 0)), (72, (.iadd, 1, 0, 0)), (73, (.putfield 24, 460, 10, 4)), (76, (.return_, 1, 0, 0))]
noncomputable def po_105 : List (Nat × mOp) := [(0, (.iconst 0, 1, 0, 0)), (1, (.istore_n 3, 1, 0, 0)), (2, (.bipush 10, 2, 0, 0)), (4, (.istore 4, 2, 0, 0)), (6, (.iconst 1, 1, 0, 0)), (7, (.aload_n 1, 1, 0, 0)), (8, (.getfield 18, 199, 9, 4)), (11, (.ishl, 1, 0, 0)), (12, (.istore 5, 2, 0, 0)), (14, (.iconst 0, 1, 0, 0)), (15, (.istore 6, 2, 0, 0)), (17, (.iload 6, 2, 0, 0)), (19, (.iload 5, 2, 0, 0)), (21, (.if_icmp .ge 43, 3, 0, 0)), (24, (.iload 6, 2, 0, 0)), (26, (.invokestatic 34, 565, 276, 1)), (29, (.istore 7, 2, 0, 0)), (31, (.iload 7, 2, 0, 0)), (33, (.iload 4, 2, 0, 0)), (35, (.if_icmp .ge 23, 3, 0, 0)), (38, (.iload_n 2, 1, 0, 0)), (39, (.aload_n 1, 1, 0, 0)), (40, (.iload 6, 2, 0, 0)), (42, (.invokestatic 40, 571, 106, 2)), (45, (.iconst (-1), 1, 0, 0)), (46, (.ixor, 1, 0, 0)), (47, (.iand, 1, 0, 0)), (48, (.ifCond .ne 10, 3, 0, 0)), (51, (.iload 6, 2, 0, 0)), (53, (.istore_n 3, 1, 0, 0)), (54, (.iload 7, 2, 0, 0)), (56, (.istore 4, 2, 0, 0)), (58, (.iinc 6 1, 3, 0, 0)), (61, (.goto (-44), 3, 0, 0)), (64, (.iload_n 3, 1, 0, 0)), (65, (.ireturn, 1, 0, 0))]
noncomputable def po_106 : List (Nat × mOp) := [(0, (.iload_n 1, 1, 0, 0)), (1, (.istore_n 2, 1, 0, 0)), (2, (.iconst 0, 1, 0, 0)), (3, (.istore_n 3, 1, 0, 0)), (4, (.iload_n 3, 1, 0, 0)), (5, (.aload_n 0, 1, 0, 0)), (6, (.getfield 18, 199, 9, 4)), (9, (.if_icmp .ge 26, 3, 0, 0)), (12, (.iload_n 1, 1, 0, 0)), (13, (.iload_n 3, 1, 0, 0)), (14, (.ishr, 1, 0, 0)), (15, (.iconst 1, 1, 0, 0)), (16, (.iand, 1, 0, 0)), (17, (.ifCond .eq 12, 3, 0, 0)), (20, (.iload_n 2, 1, 0, 0)), (21, (.aload_n 0, 1, 0, 0)), (22, (.getfield 31, 226, 9, 23)), (25, (.iload_n 3, 1, 0, 0)), (26, (.iaload, 1, 0, 0)), (27, (.ior, 1, 0, 0)), (28, (.istore_n 2, 1, 0, 0)), (29, (.iinc 3 1, 3, 0, 0)), (32, (.goto (-28), 3, 0, 0)), (35, (.iload_n 2, 1, 0, 0)), (36, (.ireturn, 1, 0, 0))]
noncomputable def po_107 : List (Nat × mOp) := [(0, (.iconst 0, 1, 0, 0)), (1, (.istore_n 2, 1, 0, 0)), (2, (.iconst 0, 1, 0, 0)), (3, (.istore_n 3, 1, 0, 0)), (4, (.iconst 0, 1, 0, 0)), (5, (.istore 4, 2, 0, 0)), (7, (.iload 4, 2, 0, 0)), (9, (.aload_n 1, 1, 0, 0)), (10, (.getfield 18, 199, 9, 4)), (13, (.if_icmp .ge 30, 3, 0, 0)), (16, (.iload_n 2, 1, 0, 0)), (17, (.iload 4, 2, 0, 0)), (19, (.ishr, 1, 0, 0)), (20, (.iconst 1, 1, 0, 0)), (21, (.iand, 1, 0, 0)), (22, (.ifCond .ne 15, 3, 0, 0)), (25, (.iinc 3 1, 3, 0, 0)), (28, (.iload_n 2, 1, 0, 0)), (29, (.aload_n 1, 1, 0, 0)), (30, (.iload 4, 2, 0, 0)), (32, (.invokestatic 44, 582, 108, 2)), (35, (.ior, 1, 0, 0)), (36, (.istore_n 2, 1, 0, 0)), (37, (.iinc 4 1, 3, 0, 0)), (40, (.goto (-33), 3, 0, 0)), (43, (.iload_n 3, 1, 0, 0)), (44, (.ireturn, 1, 0, 0))]
noncomputable def po_108 : List (Nat × mOp) := [(0, (.iconst 1, 1, 0, 0)), (1, (.iload_n 1, 1, 0, 0)), (2, (.ishl, 1, 0, 0)), (3, (.istore_n 2, 1, 0, 0)), (4, (.iconst 0, 1, 0, 0)), (5, (.istore_n 3, 1, 0, 0)), (6, (.iload_n 3, 1, 0, 0)), (7, (.aload_n 0, 1, 0, 0)), (8, (.getfield 18, 199, 9, 4)), (11, (.if_icmp .ge 15, 3, 0, 0)), (14, (.aload_n 0, 1, 0, 0)), (15, (.iload_n 2, 1, 0, 0)), (16, (.invokestatic 40, 571, 106, 2)), (19, (.istore_n 2, 1, 0, 0)), (20, (.iinc 3 1, 3, 0, 0)), (23, (.goto (-17), 3, 0, 0)), (26, (.iload_n 2, 1, 0, 0)), (27, (.ireturn, 1, 0, 0))]
noncomputable def po_109 : List (Nat × mOp) := [(0, (.aload_n 0, 1, 0, 0)), (1, (.invokespecial 1, 136, 1005, 0)), (4, (.aload_n 0, 1, 0, 0)), (5, (.new 7, 139, 8, 8)), (8, (.dup, 1, 0, 0)), (9, (.invokespecial 9, 141, 81, 1)), (12, (.putfield 10, 468, 11, 1)), (15, (.aload_n 0, 1, 0, 0)), (16, (.iconst (-1), 1, 0, 0)), (17, (.putfield 16, 469, 11, 2)), (20, (.aload_n 0, 1, 0, 0)), (21, (.new 20, 183, 9, 12)), (24, (.dup, 1, 0, 0)), (25, (.invokespecial 22, 185, 92, 1)), (28, (.putfield 23, 470, 11, 5)), (31, (.aload_n 0, 1, 0, 0)), (32, (.new 20, 183, 9, 12)), (35, (.dup, 1, 0, 0)), (36, (.invokespecial 22, 185, 92, 1)), (39, (.putfield 27, 471, 11, 7)), (42, (.aload_n 0, 1, 0, 0)), (43, (.new 30, 254, 3, 4)), (46, (.dup, 1, 0, 0)), (47, (.invokespecial 32, 256, 20, 1)), (50, (.putfield 33, 472, 11, 9)), (53, (.aload_n 0, 1, 0, 0)), (54, (.new 30, 254, 3, 4)), (57, (.dup, 1, 0, 0)), (58, (.invokespecial 32, 256, 20, 1)), (61, (.putfield 37, 473, 11, 11)), (64, (.aload_n 0, 1, 0, 0)), (65, (.new 40, 273, 0, 9)), (68, (.dup, 1, 0, 0)), (69, (.invokespecial 42, 275, 0, 1)), (72, (.putfield 43, 474, 11, 13)), (75, (.aload_n 0, 1, 0, 0)), (76, (.new 40, 273, 0, 9)), (79, (.dup, 1, 0, 0)), (80, (.invokespecial 42, 275, 0, 1)), (83, (.putfield 47, 475, 11, 15)), (86, (.aload_n 0, 1, 0, 0)), (87, (.new 50, 312, 7, 8)), (90, (.dup, 1, 0, 0)), (91, (.invokespecial 52, 314, 68, 1)), (94, (.putfield 53, 476, 11, 17)), (97, (.aload_n 0, 1, 0, 0)), (98, (.new 57, 345, 6, 9)), (101, (.dup, 1, 0, 0)), (102, (.invokespecial 59, 347, 42, 1)), (105, (.putfield 60, 477, 11, 19)), (108, (.aload_n 0, 1, 0, 0)), (109, (.new 57, 345, 6, 9)), (112, (.dup, 1, 0, 0)), (113, (.invokespecial 59, 347, 42, 1)), (116, (.putfield 64, 478, 11, 21)), (119, (.aload_n 0, 1, 0, 0)), (120, (.new 67, 389, 5, 1)), (123, (.dup, 1, 0, 0)), (124, (.invokespecial 69, 3, 40, 1)), (127, (.putfield 70, 479, 11, 23)), (130, (.aload_n 0, 1, 0, 0)), (131, (.new 74, 400, 4, 2)), (134, (.dup, 1, 0, 0)), (135, (.invokespecial 76, 402, 34, 1)), (138, (.putfield 77, 480, 11, 25)), (141, (.aload_n 0, 1, 0, 0)), (142, (.new 81, 417, 2, 3)), (145, (.dup, 1, 0, 0)), (146, (.invokespecial 83, 419, 16, 1)), (149, (.putfield 84, 481, 11, 27)), (152, (.aload_n 0, 1, 0, 0)), (153, (.new 88, 439, 1, 2)), (156, (.dup, 1, 0, 0)), (157, (.invokespecial 90, 441, 9, 1)), (160, (.putfield 91, 482, 11, 29)), (163, (.aload_n 0, 1, 0, 0)), (164, (.new 95, 452, 10, 3)), (167, (.dup, 1, 0, 0)), (168, (.invokespecial 97, 454, 102, 1)), (171, (.putfield 98, 483, 11, 31)), (174, (.return_, 1, 0, 0))]
noncomputable def po_110 : List (Nat × mOp) := [(0, (.aload_n 0, 1, 0, 0)), (1, (.getfield 10, 468, 11, 1)), (4, (.getfield 102, 146, 8, 2)), (7, (.bipush 20, 2, 0, 0)), (9, (.iadd, 1, 0, 0)), (10, (.sipush 600, 3, 0, 0)), (13, (.if_icmp .le 5, 3, 0, 0)), (16, (.iconst (-1), 1, 0, 0)), (17, (.ireturn, 1, 0, 0)), (18, (.aload_n 0, 1, 0, 0)), (19, (.getfield 10, 468, 11, 1)), (22, (.iload_n 1, 1, 0, 0)), (23, (.invokevirtual 105, 530, 82, 2)), (26, (.aload_n 0, 1, 0, 0)), (27, (.getfield 10, 468, 11, 1)), (30, (.iload_n 2, 1, 0, 0)), (31, (.invokevirtual 105, 530, 82, 2)), (34, (.aload_n 0, 1, 0, 0)), (35, (.getfield 10, 468, 11, 1)), (38, (.iload_n 3, 1, 0, 0)), (39, (.invokevirtual 105, 530, 82, 2)), (42, (.aload_n 0, 1, 0, 0)), (43, (.getfield 10, 468, 11, 1)), (46, (.iload 4, 2, 0, 0)), (48, (.invokevirtual 105, 530, 82, 2)), (51, (.aload_n 0, 1, 0, 0)), (52, (.getfield 10, 468, 11, 1)), (55, (.iload 5, 2, 0, 0)), (57, (.invokevirtual 105, 530, 82, 2)), (60, (.aload_n 0, 1, 0, 0)), (61, (.getfield 10, 468, 11, 1)), (64, (.getfield 102, 146, 8, 2)), (67, (.ireturn, 1, 0, 0))]
noncomputable def po_111 : List (Nat × mOp) := [(0, (.aload_n 0, 1, 0, 0)), (1, (.iload_n 1, 1, 0, 0)), (2, (.sipush 600, 3, 0, 0)), (5, (.invokevirtual 109, 622, 147, 3)), (8, (.aload_n 0, 1, 0, 0)), (9, (.getfield 27, 471, 11, 7)), (12, (.aload_n 0, 1, 0, 0)), (13, (.getfield 10, 468, 11, 1)), (16, (.invokevirtual 113, 704, 94, 2)), (19, (.ifCond .ne 8, 3, 0, 0)), (22, (.aload_n 0, 1, 0, 0)), (23, (.invokevirtual 117, 824, 148, 1)), (26, (.ireturn, 1, 0, 0)), (27, (.aload_n 0, 1, 0, 0)), (28, (.getfield 23, 470, 11, 5)), (31, (.astore_n 2, 1, 0, 0)), (32, (.aload_n 0, 1, 0, 0)), (33, (.aload_n 0, 1, 0, 0)), (34, (.getfield 27, 471, 11, 7)), (37, (.putfield 23, 470, 11, 5)), (40, (.aload_n 0, 1, 0, 0)), (41, (.aload_n 2, 1, 0, 0)), (42, (.putfield 27, 471, 11, 7)), (45, (.aload_n 0, 1, 0, 0)), (46, (.getfield 33, 472, 11, 9)), (49, (.invokevirtual 121, 828, 21, 1)), (52, (.aload_n 0, 1, 0, 0)), (53, (.getfield 43, 474, 11, 13)), (56, (.invokevirtual 124, 832, 1, 1)), (59, (.aload_n 0, 1, 0, 0)), (60, (.getfield 77, 480, 11, 25)), (63, (.invokevirtual 125, 836, 35, 1)), (66, (.aload_n 0, 1, 0, 0)), (67, (.getfield 84, 481, 11, 27)), (70, (.invokevirtual 126, 840, 17, 1)), (73, (.aload_n 0, 1, 0, 0)), (74, (.iconst 0, 1, 0, 0)), (75, (.putfield 127, 484, 11, 32)), (78, (.aload_n 0, 1, 0, 0)), (79, (.getfield 60, 477, 11, 19)), (82, (.aload_n 0, 1, 0, 0)), (83, (.getfield 23, 470, 11, 5)), (86, (.invokevirtual 130, 844, 43, 2)), (89, (.aload_n 0, 1, 0, 0)), (90, (.getfield 23, 470, 11, 5)), (93, (.getfield 134, 203, 9, 4)), (96, (.ireturn, 1, 0, 0))]
noncomputable def po_112 : List (Nat × mOp) := [(0, (.aload_n 0, 1, 0, 0)), (1, (.iload_n 1, 1, 0, 0)), (2, (.sipush 150, 3, 0, 0)), (5, (.invokevirtual 109, 622, 147, 3)), (8, (.aload_n 0, 1, 0, 0)), (9, (.getfield 37, 473, 11, 11)), (12, (.aload_n 0, 1, 0, 0)), (13, (.getfield 10, 468, 11, 1)), (16, (.invokevirtual 137, 856, 22, 2)), (19, (.ifCond .ne 8, 3, 0, 0)), (22, (.aload_n 0, 1, 0, 0)), (23, (.invokevirtual 117, 824, 148, 1)), (26, (.ireturn, 1, 0, 0)), (27, (.aload_n 0, 1, 0, 0)), (28, (.getfield 33, 472, 11, 9)), (31, (.astore_n 2, 1, 0, 0)), (32, (.aload_n 0, 1, 0, 0)), (33, (.aload_n 0, 1, 0, 0)), (34, (.getfield 37, 473, 11, 11)), (37, (.putfield 33, 472, 11, 9)), (40, (.aload_n 0, 1, 0, 0)), (41, (.aload_n 2, 1, 0, 0)), (42, (.putfield 37, 473, 11, 11)), (45, (.iconst 1, 1, 0, 0)), (46, (.ireturn, 1, 0, 0))]
noncomputable def po_113 : List (Nat × mOp) := [(0, (.aload_n 0, 1, 0, 0)), (1, (.iload_n 1, 1, 0, 0)), (2, (.sipush 150, 3, 0, 0)), (5, (.invokevirtual 109, 622, 147, 3)), (8, (.aload_n 0, 1, 0, 0)), (9, (.getfield 77, 480, 11, 25)), (12, (.invokevirtual 138, 913, 36, 1)), (15, (.ifCond .eq 6, 3, 0, 0)), (18, (.bipush (-20), 2, 0, 0)), (20, (.ireturn, 1, 0, 0)), (21, (.aload_n 0, 1, 0, 0)), (22, (.getfield 53, 476, 11, 17)), (25, (.aload_n 0, 1, 0, 0)), (26, (.getfield 10, 468, 11, 1)), (29, (.aload_n 0, 1, 0, 0)), (30, (.getfield 23, 470, 11, 5)), (33, (.invokevirtual 142, 917, 69, 3)), (36, (.ifCond .ne 8, 3, 0, 0)), (39, (.aload_n 0, 1, 0, 0)), (40, (.invokevirtual 117, 824, 148, 1)), (43, (.ireturn, 1, 0, 0)), (44, (.aload_n 0, 1, 0, 0)), (45, (.getfield 77, 480, 11, 25)), (48, (.aload_n 0, 1, 0, 0)), (49, (.getfield 60, 477, 11, 19)), (52, (.invokevirtual 145, 958, 37, 2)), (55, (.aload_n 0, 1, 0, 0)), (56, (.getfield 53, 476, 11, 17)), (59, (.aload_n 0, 1, 0, 0)), (60, (.getfield 60, 477, 11, 19)), (63, (.aload_n 0, 1, 0, 0)), (64, (.getfield 23, 470, 11, 5)), (67, (.aload_n 0, 1, 0, 0)), (68, (.getfield 33, 472, 11, 9)), (71, (.invokevirtual 149, 962, 76, 4)), (74, (.aload_n 0, 1, 0, 0)), (75, (.aload_n 0, 1, 0, 0)), (76, (.getfield 53, 476, 11, 17)), (79, (.getfield 153, 320, 7, 2)), (82, (.putfield 127, 484, 11, 32)), (85, (.aload_n 0, 1, 0, 0)), (86, (.getfield 53, 476, 11, 17)), (89, (.getfield 156, 318, 7, 0)), (92, (.ireturn, 1, 0, 0))]
noncomputable def po_114 : List (Nat × mOp) := [(0, (.aload_n 0, 1, 0, 0)), (1, (.iload_n 1, 1, 0, 0)), (2, (.bipush 60, 2, 0, 0)), (4, (.invokevirtual 109, 622, 147, 3)), (7, (.aload_n 0, 1, 0, 0)), (8, (.getfield 47, 475, 11, 15)), (11, (.aload_n 0, 1, 0, 0)), (12, (.getfield 10, 468, 11, 1)), (15, (.aload_n 0, 1, 0, 0)), (16, (.getfield 23, 470, 11, 5)), (19, (.getfield 134, 203, 9, 4)), (22, (.invokevirtual 159, 1066, 2, 3)), (25, (.ifCond .ne 8, 3, 0, 0)), (28, (.aload_n 0, 1, 0, 0)), (29, (.invokevirtual 117, 824, 148, 1)), (32, (.ireturn, 1, 0, 0)), (33, (.aload_n 0, 1, 0, 0)), (34, (.getfield 43, 474, 11, 13)), (37, (.astore_n 2, 1, 0, 0)), (38, (.aload_n 0, 1, 0, 0)), (39, (.aload_n 0, 1, 0, 0)), (40, (.getfield 47, 475, 11, 15)), (43, (.putfield 43, 474, 11, 13)), (46, (.aload_n 0, 1, 0, 0)), (47, (.aload_n 2, 1, 0, 0)), (48, (.putfield 47, 475, 11, 15)), (51, (.aload_n 0, 1, 0, 0)), (52, (.getfield 43, 474, 11, 13)), (55, (.getfield 162, 280, 0, 0)), (58, (.ireturn, 1, 0, 0))]
noncomputable def po_115 : List (Nat × mOp) := [(0, (.aload_n 0, 1, 0, 0)), (1, (.getfield 16, 469, 11, 2)), (4, (.ireturn, 1, 0, 0))]
noncomputable def po_116 : List (Nat × mOp) := [(0, (.aload_n 0, 1, 0, 0)), (1, (.getfield 77, 480, 11, 25)), (4, (.aload_n 0, 1, 0, 0)), (5, (.getfield 60, 477, 11, 19)), (8, (.invokevirtual 165, 542, 38, 2)), (11, (.ifCond .ne 5, 3, 0, 0)), (14, (.iconst (-1), 1, 0, 0)), (15, (.ireturn, 1, 0, 0)), (16, (.aload_n 0, 1, 0, 0)), (17, (.iconst 0, 1, 0, 0)), (18, (.putfield 127, 484, 11, 32)), (21, (.aload_n 0, 1, 0, 0)), (22, (.getfield 77, 480, 11, 25)), (25, (.getfield 169, 411, 4, 2)), (28, (.ireturn, 1, 0, 0))]
noncomputable def po_117 : List (Nat × mOp) := [(0, (.iload_n 1, 1, 0, 0)), (1, (.tableswitch 168 0 11 #[63, 71, 79, 87, 95, 103, 111, 123, 135, 143, 155, 163], 63, 0, 0)), (64, (.aload_n 0, 1, 0, 0)), (65, (.getfield 23, 470, 11, 5)), (68, (.getfield 170, 192, 9, 0)), (71, (.ireturn, 1, 0, 0)), (72, (.aload_n 0, 1, 0, 0)), (73, (.getfield 23, 470, 11, 5)), (76, (.getfield 173, 198, 9, 2)), (79, (.ireturn, 1, 0, 0)), (80, (.aload_n 0, 1, 0, 0)), (81, (.getfield 23, 470, 11, 5)), (84, (.getfield 134, 203, 9, 4)), (87, (.ireturn, 1, 0, 0)), (88, (.aload_n 0, 1, 0, 0)), (89, (.getfield 23, 470, 11, 5)), (92, (.getfield 176, 207, 9, 6)), (95, (.ireturn, 1, 0, 0)), (96, (.aload_n 0, 1, 0, 0)), (97, (.getfield 60, 477, 11, 19)), (100, (.getfield 179, 367, 6, 14)), (103, (.ireturn, 1, 0, 0)), (104, (.aload_n 0, 1, 0, 0)), (105, (.getfield 60, 477, 11, 19)), (108, (.getfield 182, 369, 6, 16)), (111, (.ireturn, 1, 0, 0)), (112, (.aload_n 0, 1, 0, 0)), (113, (.getfield 60, 477, 11, 19)), (116, (.aload_n 0, 1, 0, 0)), (117, (.getfield 23, 470, 11, 5)), (120, (.invokevirtual 185, 1086, 65, 2)), (123, (.ireturn, 1, 0, 0)), (124, (.aload_n 0, 1, 0, 0)), (125, (.getfield 60, 477, 11, 19)), (128, (.aload_n 0, 1, 0, 0)), (129, (.getfield 23, 470, 11, 5)), (132, (.invokevirtual 189, 1090, 66, 2)), (135, (.ireturn, 1, 0, 0)), (136, (.aload_n 0, 1, 0, 0)), (137, (.getfield 60, 477, 11, 19)), (140, (.getfield 192, 365, 6, 12)), (143, (.ireturn, 1, 0, 0)), (144, (.aload_n 0, 1, 0, 0)), (145, (.getfield 60, 477, 11, 19)), (148, (.aload_n 0, 1, 0, 0)), (149, (.getfield 23, 470, 11, 5)), (152, (.invokevirtual 195, 1094, 61, 2)), (155, (.ireturn, 1, 0, 0)), (156, (.aload_n 0, 1, 0, 0)), (157, (.getfield 43, 474, 11, 13)), (160, (.getfield 162, 280, 0, 0)), (163, (.ireturn, 1, 0, 0)), (164, (.aload_n 0, 1, 0, 0)), (165, (.getfield 127, 484, 11, 32)), (168, (.ireturn, 1, 0, 0)), (169, (.aload_n 0, 1, 0, 0)), (170, (.invokevirtual 198, 633, 150, 1)), (173, (.ireturn, 1, 0, 0))]
noncomputable def po_118 : List (Nat × mOp) := [(0, (.aload_n 0, 1, 0, 0)), (1, (.iload_n 1, 1, 0, 0)), (2, (.invokevirtual 201, 1106, 151, 2)), (5, (.iload_n 2, 1, 0, 0)), (6, (.tableswitch 119 0 5 #[38, 48, 58, 68, 78, 95], 38, 0, 0)), (44, (.aload_n 0, 1, 0, 0)), (45, (.getfield 23, 470, 11, 5)), (48, (.getfield 204, 214, 9, 13)), (51, (.iload_n 1, 1, 0, 0)), (52, (.iaload, 1, 0, 0)), (53, (.ireturn, 1, 0, 0)), (54, (.aload_n 0, 1, 0, 0)), (55, (.getfield 60, 477, 11, 19)), (58, (.getfield 208, 352, 6, 1)), (61, (.iload_n 1, 1, 0, 0)), (62, (.iaload, 1, 0, 0)), (63, (.ireturn, 1, 0, 0)), (64, (.aload_n 0, 1, 0, 0)), (65, (.getfield 60, 477, 11, 19)), (68, (.getfield 211, 354, 6, 3)), (71, (.iload_n 1, 1, 0, 0)), (72, (.iaload, 1, 0, 0)), (73, (.ireturn, 1, 0, 0)), (74, (.aload_n 0, 1, 0, 0)), (75, (.getfield 60, 477, 11, 19)), (78, (.getfield 214, 356, 6, 5)), (81, (.iload_n 1, 1, 0, 0)), (82, (.iaload, 1, 0, 0)), (83, (.ireturn, 1, 0, 0)), (84, (.aload_n 0, 1, 0, 0)), (85, (.getfield 60, 477, 11, 19)), (88, (.iload_n 1, 1, 0, 0)), (89, (.invokevirtual 217, 1129, 46, 2)), (92, (.ifCond .eq 7, 3, 0, 0)), (95, (.iconst 1, 1, 0, 0)), (96, (.goto 4, 3, 0, 0)), (99, (.iconst 0, 1, 0, 0)), (100, (.ireturn, 1, 0, 0)), (101, (.iconst 0, 1, 0, 0)), (102, (.aload_n 0, 1, 0, 0)), (103, (.getfield 23, 470, 11, 5)), (106, (.getfield 204, 214, 9, 13)), (109, (.iload_n 1, 1, 0, 0)), (110, (.iaload, 1, 0, 0)), (111, (.aload_n 0, 1, 0, 0)), (112, (.getfield 60, 477, 11, 19)), (115, (.getfield 208, 352, 6, 1)), (118, (.iload_n 1, 1, 0, 0)), (119, (.iaload, 1, 0, 0)), (120, (.isub, 1, 0, 0)), (121, (.invokestatic 221, 1130, 1000, 0)), (124, (.ireturn, 1, 0, 0)), (125, (.aload_n 0, 1, 0, 0)), (126, (.invokevirtual 198, 633, 150, 1)), (129, (.ireturn, 1, 0, 0))]
noncomputable def po_119 : List (Nat × mOp) := [(0, (.aload_n 0, 1, 0, 0)), (1, (.iload_n 1, 1, 0, 0)), (2, (.invokevirtual 227, 1138, 152, 2)), (5, (.iload_n 2, 1, 0, 0)), (6, (.tableswitch 63 0 2 #[26, 36, 53], 26, 0, 0)), (32, (.aload_n 0, 1, 0, 0)), (33, (.getfield 23, 470, 11, 5)), (36, (.getfield 230, 217, 9, 15)), (39, (.iload_n 1, 1, 0, 0)), (40, (.iaload, 1, 0, 0)), (41, (.ireturn, 1, 0, 0)), (42, (.aload_n 0, 1, 0, 0)), (43, (.getfield 60, 477, 11, 19)), (46, (.iload_n 1, 1, 0, 0)), (47, (.invokevirtual 233, 1142, 47, 2)), (50, (.ifCond .eq 7, 3, 0, 0)), (53, (.iconst 1, 1, 0, 0)), (54, (.goto 4, 3, 0, 0)), (57, (.iconst 0, 1, 0, 0)), (58, (.ireturn, 1, 0, 0)), (59, (.aload_n 0, 1, 0, 0)), (60, (.getfield 60, 477, 11, 19)), (63, (.getfield 236, 358, 6, 7)), (66, (.iload_n 1, 1, 0, 0)), (67, (.iaload, 1, 0, 0)), (68, (.ireturn, 1, 0, 0)), (69, (.aload_n 0, 1, 0, 0)), (70, (.invokevirtual 198, 633, 150, 1)), (73, (.ireturn, 1, 0, 0))]
noncomputable def po_120 : List (Nat × mOp) := [(0, (.aload_n 0, 1, 0, 0)), (1, (.iload_n 1, 1, 0, 0)), (2, (.invokevirtual 239, 1150, 153, 2)), (5, (.iload_n 2, 1, 0, 0)), (6, (.tableswitch 87 0 4 #[34, 44, 54, 64, 74], 34, 0, 0)), (40, (.aload_n 0, 1, 0, 0)), (41, (.getfield 60, 477, 11, 19)), (44, (.getfield 242, 361, 6, 9)), (47, (.iload_n 1, 1, 0, 0)), (48, (.iaload, 1, 0, 0)), (49, (.ireturn, 1, 0, 0)), (50, (.aload_n 0, 1, 0, 0)), (51, (.getfield 60, 477, 11, 19)), (54, (.getfield 245, 363, 6, 11)), (57, (.iload_n 1, 1, 0, 0)), (58, (.iaload, 1, 0, 0)), (59, (.ireturn, 1, 0, 0)), (60, (.aload_n 0, 1, 0, 0)), (61, (.getfield 23, 470, 11, 5)), (64, (.getfield 248, 220, 9, 17)), (67, (.iload_n 1, 1, 0, 0)), (68, (.iaload, 1, 0, 0)), (69, (.ireturn, 1, 0, 0)), (70, (.aload_n 0, 1, 0, 0)), (71, (.getfield 23, 470, 11, 5)), (74, (.getfield 251, 227, 9, 23)), (77, (.iload_n 1, 1, 0, 0)), (78, (.iaload, 1, 0, 0)), (79, (.ireturn, 1, 0, 0)), (80, (.aload_n 0, 1, 0, 0)), (81, (.getfield 60, 477, 11, 19)), (84, (.aload_n 0, 1, 0, 0)), (85, (.getfield 23, 470, 11, 5)), (88, (.iload_n 1, 1, 0, 0)), (89, (.invokevirtual 254, 1154, 67, 3)), (92, (.ireturn, 1, 0, 0)), (93, (.aload_n 0, 1, 0, 0)), (94, (.invokevirtual 198, 633, 150, 1)), (97, (.ireturn, 1, 0, 0))]
noncomputable def po_121 : List (Nat × mOp) := [(0, (.iload_n 1, 1, 0, 0)), (1, (.ifCond .lt 14, 3, 0, 0)), (4, (.iload_n 1, 1, 0, 0)), (5, (.aload_n 0, 1, 0, 0)), (6, (.getfield 23, 470, 11, 5)), (9, (.getfield 176, 207, 9, 6)), (12, (.if_icmp .lt 8, 3, 0, 0)), (15, (.aload_n 0, 1, 0, 0)), (16, (.invokevirtual 258, 1110, 149, 1)), (19, (.ireturn, 1, 0, 0)), (20, (.iload_n 2, 1, 0, 0)), (21, (.lookupswitch 47 #[(0, 27), (1, 37)], 27, 0, 0)), (48, (.aload_n 0, 1, 0, 0)), (49, (.getfield 23, 470, 11, 5)), (52, (.getfield 261, 222, 9, 19)), (55, (.iload_n 1, 1, 0, 0)), (56, (.iaload, 1, 0, 0)), (57, (.ireturn, 1, 0, 0)), (58, (.aload_n 0, 1, 0, 0)), (59, (.getfield 23, 470, 11, 5)), (62, (.getfield 264, 224, 9, 21)), (65, (.iload_n 1, 1, 0, 0)), (66, (.iaload, 1, 0, 0)), (67, (.ireturn, 1, 0, 0)), (68, (.aload_n 0, 1, 0, 0)), (69, (.invokevirtual 198, 633, 150, 1)), (72, (.ireturn, 1, 0, 0))]
noncomputable def po_122 : List (Nat × mOp) := [(0, (.aload_n 0, 1, 0, 0)), (1, (.iload_n 1, 1, 0, 0)), (2, (.invokevirtual 227, 1138, 152, 2)), (5, (.aload_n 0, 1, 0, 0)), (6, (.iload_n 2, 1, 0, 0)), (7, (.invokevirtual 201, 1106, 151, 2)), (10, (.aload_n 0, 1, 0, 0)), (11, (.iload_n 3, 1, 0, 0)), (12, (.invokevirtual 239, 1150, 153, 2)), (15, (.aload_n 0, 1, 0, 0)), (16, (.getfield 60, 477, 11, 19)), (19, (.aload_n 0, 1, 0, 0)), (20, (.getfield 23, 470, 11, 5)), (23, (.aload_n 0, 1, 0, 0)), (24, (.getfield 33, 472, 11, 9)), (27, (.iload_n 1, 1, 0, 0)), (28, (.iload_n 2, 1, 0, 0)), (29, (.iload_n 3, 1, 0, 0)), (30, (.invokevirtual 267, 1172, 48, 6)), (33, (.ireturn, 1, 0, 0))]
noncomputable def po_123 : List (Nat × mOp) := [(0, (.aload_n 0, 1, 0, 0)), (1, (.iload_n 1, 1, 0, 0)), (2, (.iconst 0, 1, 0, 0)), (3, (.bipush 20, 2, 0, 0)), (5, (.invokevirtual 271, 629, 154, 4)), (8, (.aload_n 0, 1, 0, 0)), (9, (.iload_n 2, 1, 0, 0)), (10, (.iconst 0, 1, 0, 0)), (11, (.bipush 9, 2, 0, 0)), (13, (.invokevirtual 271, 629, 154, 4)), (16, (.aload_n 0, 1, 0, 0)), (17, (.iload_n 3, 1, 0, 0)), (18, (.iconst 0, 1, 0, 0)), (19, (.bipush 99, 2, 0, 0)), (21, (.invokevirtual 271, 629, 154, 4)), (24, (.aload_n 0, 1, 0, 0)), (25, (.iload 4, 2, 0, 0)), (27, (.iconst 0, 1, 0, 0)), (28, (.bipush 99, 2, 0, 0)), (30, (.invokevirtual 271, 629, 154, 4)), (33, (.aload_n 0, 1, 0, 0)), (34, (.iload 5, 2, 0, 0)), (36, (.iconst 0, 1, 0, 0)), (37, (.bipush 99, 2, 0, 0)), (39, (.invokevirtual 271, 629, 154, 4)), (42, (.aload_n 0, 1, 0, 0)), (43, (.iload 6, 2, 0, 0)), (45, (.iconst 0, 1, 0, 0)), (46, (.bipush 20, 2, 0, 0)), (48, (.invokevirtual 271, 629, 154, 4)), (51, (.aload_n 0, 1, 0, 0)), (52, (.iload 7, 2, 0, 0)), (54, (.iconst 0, 1, 0, 0)), (55, (.sipush 600, 3, 0, 0)), (58, (.invokevirtual 271, 629, 154, 4)), (61, (.aload_n 0, 1, 0, 0)), (62, (.iload 8, 2, 0, 0)), (64, (.iconst 0, 1, 0, 0)), (65, (.iconst 5, 1, 0, 0)), (66, (.invokevirtual 271, 629, 154, 4)), (69, (.aload_n 0, 1, 0, 0)), (70, (.getfield 33, 472, 11, 9)), (73, (.iload_n 1, 1, 0, 0)), (74, (.iload 6, 2, 0, 0)), (76, (.iload_n 2, 1, 0, 0)), (77, (.iload 8, 2, 0, 0)), (79, (.invokevirtual 275, 1180, 30, 5)), (82, (.aload_n 0, 1, 0, 0)), (83, (.getfield 33, 472, 11, 9)), (86, (.iload_n 3, 1, 0, 0)), (87, (.iload 4, 2, 0, 0)), (89, (.iload 5, 2, 0, 0)), (91, (.iload 7, 2, 0, 0)), (93, (.invokevirtual 279, 1181, 31, 5)), (96, (.aload_n 0, 1, 0, 0)), (97, (.getfield 33, 472, 11, 9)), (100, (.invokevirtual 282, 1182, 32, 1)), (103, (.ireturn, 1, 0, 0))]
noncomputable def po_124 : List (Nat × mOp) := [(0, (.aload_n 0, 1, 0, 0)), (1, (.iload_n 1, 1, 0, 0)), (2, (.invokevirtual 227, 1138, 152, 2)), (5, (.aload_n 0, 1, 0, 0)), (6, (.iload_n 2, 1, 0, 0)), (7, (.invokevirtual 201, 1106, 151, 2)), (10, (.aload_n 0, 1, 0, 0)), (11, (.iload_n 3, 1, 0, 0)), (12, (.invokevirtual 239, 1150, 153, 2)), (15, (.aload_n 0, 1, 0, 0)), (16, (.getfield 60, 477, 11, 19)), (19, (.aload_n 0, 1, 0, 0)), (20, (.getfield 23, 470, 11, 5)), (23, (.iload_n 1, 1, 0, 0)), (24, (.iload_n 2, 1, 0, 0)), (25, (.iload_n 3, 1, 0, 0)), (26, (.invokevirtual 285, 1190, 50, 5)), (29, (.ireturn, 1, 0, 0))]
noncomputable def po_125 : List (Nat × mOp) := [(0, (.aload_n 0, 1, 0, 0)), (1, (.iload_n 1, 1, 0, 0)), (2, (.iconst 0, 1, 0, 0)), (3, (.bipush 99, 2, 0, 0)), (5, (.invokevirtual 271, 629, 154, 4)), (8, (.aload_n 0, 1, 0, 0)), (9, (.iload_n 2, 1, 0, 0)), (10, (.iconst 0, 1, 0, 0)), (11, (.iconst 2, 1, 0, 0)), (12, (.invokevirtual 271, 629, 154, 4)), (15, (.aload_n 0, 1, 0, 0)), (16, (.getfield 64, 478, 11, 21)), (19, (.aload_n 0, 1, 0, 0)), (20, (.getfield 60, 477, 11, 19)), (23, (.invokevirtual 289, 1198, 44, 2)), (26, (.iconst 0, 1, 0, 0)), (27, (.istore_n 3, 1, 0, 0)), (28, (.iload_n 3, 1, 0, 0)), (29, (.iload_n 1, 1, 0, 0)), (30, (.if_icmp .ge 20, 3, 0, 0)), (33, (.aload_n 0, 1, 0, 0)), (34, (.getfield 64, 478, 11, 21)), (37, (.aload_n 0, 1, 0, 0)), (38, (.getfield 23, 470, 11, 5)), (41, (.invokevirtual 292, 1199, 57, 2)), (44, (.iinc 3 1, 3, 0, 0)), (47, (.goto (-19), 3, 0, 0)), (50, (.iload_n 2, 1, 0, 0)), (51, (.ifCond .ne 15, 3, 0, 0)), (54, (.aload_n 0, 1, 0, 0)), (55, (.getfield 64, 478, 11, 21)), (58, (.aload_n 0, 1, 0, 0)), (59, (.getfield 23, 470, 11, 5)), (62, (.invokevirtual 195, 1094, 61, 2)), (65, (.ireturn, 1, 0, 0)), (66, (.iload_n 2, 1, 0, 0)), (67, (.iconst 1, 1, 0, 0)), (68, (.if_icmp .ne 17, 3, 0, 0)), (71, (.aload_n 0, 1, 0, 0)), (72, (.getfield 64, 478, 11, 21)), (75, (.aload_n 0, 1, 0, 0)), (76, (.getfield 23, 470, 11, 5)), (79, (.invokevirtual 295, 1200, 62, 2)), (82, (.goto 14, 3, 0, 0)), (85, (.aload_n 0, 1, 0, 0)), (86, (.getfield 64, 478, 11, 21)), (89, (.aload_n 0, 1, 0, 0)), (90, (.getfield 23, 470, 11, 5)), (93, (.invokevirtual 298, 1204, 64, 2)), (96, (.ireturn, 1, 0, 0))]
noncomputable def po_126 : List (Nat × mOp) := [(0, (.aload_n 0, 1, 0, 0)), (1, (.iload_n 1, 1, 0, 0)), (2, (.invokevirtual 239, 1150, 153, 2)), (5, (.aload_n 0, 1, 0, 0)), (6, (.getfield 64, 478, 11, 21)), (9, (.aload_n 0, 1, 0, 0)), (10, (.getfield 60, 477, 11, 19)), (13, (.invokevirtual 289, 1198, 44, 2)), (16, (.iconst 0, 1, 0, 0)), (17, (.istore_n 2, 1, 0, 0)), (18, (.iload_n 2, 1, 0, 0)), (19, (.sipush 200, 3, 0, 0)), (22, (.if_icmp .gt 34, 3, 0, 0)), (25, (.aload_n 0, 1, 0, 0)), (26, (.getfield 64, 478, 11, 21)), (29, (.getfield 242, 361, 6, 9)), (32, (.iload_n 1, 1, 0, 0)), (33, (.iaload, 1, 0, 0)), (34, (.ifCond .ne 5, 3, 0, 0)), (37, (.iload_n 2, 1, 0, 0)), (38, (.ireturn, 1, 0, 0)), (39, (.aload_n 0, 1, 0, 0)), (40, (.getfield 64, 478, 11, 21)), (43, (.aload_n 0, 1, 0, 0)), (44, (.getfield 23, 470, 11, 5)), (47, (.invokevirtual 292, 1199, 57, 2)), (50, (.iinc 2 1, 3, 0, 0)), (53, (.goto (-35), 3, 0, 0)), (56, (.iconst (-1), 1, 0, 0)), (57, (.ireturn, 1, 0, 0))]
noncomputable def po_127 : List (Nat × mOp) := [(0, (.aload_n 0, 1, 0, 0)), (1, (.iload_n 1, 1, 0, 0)), (2, (.invokevirtual 201, 1106, 151, 2)), (5, (.aload_n 0, 1, 0, 0)), (6, (.getfield 91, 482, 11, 29)), (9, (.aload_n 0, 1, 0, 0)), (10, (.getfield 60, 477, 11, 19)), (13, (.aload_n 0, 1, 0, 0)), (14, (.getfield 23, 470, 11, 5)), (17, (.aload_n 0, 1, 0, 0)), (18, (.getfield 33, 472, 11, 9)), (21, (.iload_n 1, 1, 0, 0)), (22, (.invokevirtual 301, 1223, 10, 5)), (25, (.aload_n 0, 1, 0, 0)), (26, (.getfield 91, 482, 11, 29)), (29, (.invokevirtual 305, 1240, 13, 1)), (32, (.ireturn, 1, 0, 0))]
noncomputable def po_128 : List (Nat × mOp) := [(0, (.aload_n 0, 1, 0, 0)), (1, (.iload_n 1, 1, 0, 0)), (2, (.invokevirtual 201, 1106, 151, 2)), (5, (.aload_n 0, 1, 0, 0)), (6, (.iload_n 2, 1, 0, 0)), (7, (.invokevirtual 227, 1138, 152, 2)), (10, (.aload_n 0, 1, 0, 0)), (11, (.getfield 91, 482, 11, 29)), (14, (.aload_n 0, 1, 0, 0)), (15, (.getfield 60, 477, 11, 19)), (18, (.aload_n 0, 1, 0, 0)), (19, (.getfield 23, 470, 11, 5)), (22, (.aload_n 0, 1, 0, 0)), (23, (.getfield 33, 472, 11, 9)), (26, (.iload_n 1, 1, 0, 0)), (27, (.invokevirtual 301, 1223, 10, 5)), (30, (.aload_n 0, 1, 0, 0)), (31, (.getfield 91, 482, 11, 29)), (34, (.aload_n 0, 1, 0, 0)), (35, (.getfield 60, 477, 11, 19)), (38, (.aload_n 0, 1, 0, 0)), (39, (.getfield 23, 470, 11, 5)), (42, (.iload_n 2, 1, 0, 0)), (43, (.invokevirtual 308, 1251, 14, 4)), (46, (.ireturn, 1, 0, 0))]
noncomputable def po_129 : List (Nat × mOp) := [(0, (.aload_n 0, 1, 0, 0)), (1, (.iload_n 1, 1, 0, 0)), (2, (.invokevirtual 239, 1150, 153, 2)), (5, (.aload_n 0, 1, 0, 0)), (6, (.getfield 98, 483, 11, 31)), (9, (.aload_n 0, 1, 0, 0)), (10, (.getfield 23, 470, 11, 5)), (13, (.aload_n 0, 1, 0, 0)), (14, (.getfield 60, 477, 11, 19)), (17, (.aload_n 0, 1, 0, 0)), (18, (.getfield 23, 470, 11, 5)), (21, (.invokevirtual 312, 557, 63, 2)), (24, (.iload_n 1, 1, 0, 0)), (25, (.invokevirtual 315, 1266, 103, 4)), (28, (.ireturn, 1, 0, 0))]
noncomputable def po_130 : List (Nat × mOp) := [(0, (.aload_n 0, 1, 0, 0)), (1, (.getfield 98, 483, 11, 31)), (4, (.aload_n 0, 1, 0, 0)), (5, (.getfield 23, 470, 11, 5)), (8, (.aload_n 0, 1, 0, 0)), (9, (.getfield 60, 477, 11, 19)), (12, (.aload_n 0, 1, 0, 0)), (13, (.getfield 23, 470, 11, 5)), (16, (.invokevirtual 312, 557, 63, 2)), (19, (.invokevirtual 319, 561, 105, 3)), (22, (.ireturn, 1, 0, 0))]
noncomputable def po_131 : List (Nat × mOp) := [(0, (.aload_n 0, 1, 0, 0)), (1, (.iload_n 1, 1, 0, 0)), (2, (.invokevirtual 239, 1150, 153, 2)), (5, (.aload_n 0, 1, 0, 0)), (6, (.iload_n 2, 1, 0, 0)), (7, (.invokevirtual 239, 1150, 153, 2)), (10, (.aload_n 0, 1, 0, 0)), (11, (.getfield 98, 483, 11, 31)), (14, (.aload_n 0, 1, 0, 0)), (15, (.getfield 23, 470, 11, 5)), (18, (.iconst 1, 1, 0, 0)), (19, (.iload_n 2, 1, 0, 0)), (20, (.ishl, 1, 0, 0)), (21, (.iload_n 1, 1, 0, 0)), (22, (.invokevirtual 315, 1266, 103, 4)), (25, (.ireturn, 1, 0, 0))]
noncomputable def po_132 : List (Nat × mOp) := [(0, (.aload_n 0, 1, 0, 0)), (1, (.iload_n 1, 1, 0, 0)), (2, (.iconst 0, 1, 0, 0)), (3, (.iconst 1, 1, 0, 0)), (4, (.invokevirtual 271, 629, 154, 4)), (7, (.aload_n 0, 1, 0, 0)), (8, (.getfield 43, 474, 11, 13)), (11, (.aload_n 0, 1, 0, 0)), (12, (.getfield 60, 477, 11, 19)), (15, (.aload_n 0, 1, 0, 0)), (16, (.getfield 23, 470, 11, 5)), (19, (.aload_n 0, 1, 0, 0)), (20, (.getfield 33, 472, 11, 9)), (23, (.invokevirtual 322, 1288, 4, 4)), (26, (.iload_n 1, 1, 0, 0)), (27, (.ifCond .ne 13, 3, 0, 0)), (30, (.aload_n 0, 1, 0, 0)), (31, (.getfield 43, 474, 11, 13)), (34, (.getfield 325, 287, 0, 12)), (37, (.goto 10, 3, 0, 0)), (40, (.aload_n 0, 1, 0, 0)), (41, (.getfield 43, 474, 11, 13)), (44, (.invokevirtual 328, 1300, 6, 1)), (47, (.ireturn, 1, 0, 0))]
noncomputable def po_133 : List (Nat × mOp) := [(0, (.aload_n 0, 1, 0, 0)), (1, (.iload_n 1, 1, 0, 0)), (2, (.iconst 0, 1, 0, 0)), (3, (.iconst 1, 1, 0, 0)), (4, (.invokevirtual 271, 629, 154, 4)), (7, (.aload_n 0, 1, 0, 0)), (8, (.getfield 43, 474, 11, 13)), (11, (.aload_n 0, 1, 0, 0)), (12, (.getfield 60, 477, 11, 19)), (15, (.aload_n 0, 1, 0, 0)), (16, (.getfield 23, 470, 11, 5)), (19, (.aload_n 0, 1, 0, 0)), (20, (.getfield 33, 472, 11, 9)), (23, (.invokevirtual 322, 1288, 4, 4)), (26, (.aload_n 0, 1, 0, 0)), (27, (.getfield 43, 474, 11, 13)), (30, (.aload_n 0, 1, 0, 0)), (31, (.getfield 60, 477, 11, 19)), (34, (.aload_n 0, 1, 0, 0)), (35, (.getfield 23, 470, 11, 5)), (38, (.aload_n 0, 1, 0, 0)), (39, (.getfield 33, 472, 11, 9)), (42, (.invokevirtual 331, 1311, 7, 4)), (45, (.iload_n 1, 1, 0, 0)), (46, (.ifCond .ne 13, 3, 0, 0)), (49, (.aload_n 0, 1, 0, 0)), (50, (.getfield 43, 474, 11, 13)), (53, (.getfield 334, 289, 0, 14)), (56, (.goto 10, 3, 0, 0)), (59, (.aload_n 0, 1, 0, 0)), (60, (.getfield 43, 474, 11, 13)), (63, (.getfield 337, 291, 0, 16)), (66, (.ireturn, 1, 0, 0))]
noncomputable def po_134 : List (Nat × mOp) := [(0, (.aload_n 0, 1, 0, 0)), (1, (.iload_n 1, 1, 0, 0)), (2, (.iconst 1, 1, 0, 0)), (3, (.bipush 12, 2, 0, 0)), (5, (.invokevirtual 271, 629, 154, 4)), (8, (.aload_n 0, 1, 0, 0)), (9, (.iload_n 2, 1, 0, 0)), (10, (.iconst 0, 1, 0, 0)), (11, (.bipush 16, 2, 0, 0)), (13, (.invokevirtual 271, 629, 154, 4)), (16, (.aload_n 0, 1, 0, 0)), (17, (.iload_n 3, 1, 0, 0)), (18, (.iconst 0, 1, 0, 0)), (19, (.iconst 1, 1, 0, 0)), (20, (.invokevirtual 271, 629, 154, 4)), (23, (.iload_n 2, 1, 0, 0)), (24, (.i2l, 1, 0, 0)), (25, (.lstore 4, 2, 0, 0)), (27, (.ldc2_w 340, 1327, 16, 0)), (30, (.lstore 6, 2, 0, 0)), (32, (.iconst 1, 1, 0, 0)), (33, (.istore 8, 2, 0, 0)), (35, (.iload 8, 2, 0, 0)), (37, (.iload_n 1, 1, 0, 0)), (38, (.if_icmp .ge 27, 3, 0, 0)), (41, (.lload 4, 2, 0, 0)), (43, (.bipush 16, 2, 0, 0)), (45, (.iload_n 2, 1, 0, 0)), (46, (.isub, 1, 0, 0)), (47, (.i2l, 1, 0, 0)), (48, (.lmul, 1, 0, 0)), (49, (.lstore 4, 2, 0, 0)), (51, (.lload 6, 2, 0, 0)), (53, (.ldc2_w 340, 1327, 16, 0)), (56, (.lmul, 1, 0, 0)), (57, (.lstore 6, 2, 0, 0)), (59, (.iinc 8 1, 3, 0, 0)), (62, (.goto (-27), 3, 0, 0)), (65, (.iconst 0, 1, 0, 0)), (66, (.istore 8, 2, 0, 0)), (68, (.iload 8, 2, 0, 0)), (70, (.iconst 4, 1, 0, 0)), (71, (.iload_n 1, 1, 0, 0)), (72, (.imul, 1, 0, 0)), (73, (.if_icmp .ge 43, 3, 0, 0)), (76, (.lload 4, 2, 0, 0)), (78, (.ldc2_w 342, 1328, 2, 0)), (81, (.lrem, 1, 0, 0)), (82, (.lconst 0, 1, 0, 0)), (83, (.lcmp, 1, 0, 0)), (84, (.ifCond .ne 32, 3, 0, 0)), (87, (.lload 6, 2, 0, 0)), (89, (.lconst 1, 1, 0, 0)), (90, (.lcmp, 1, 0, 0)), (91, (.ifCond .le 25, 3, 0, 0)), (94, (.lload 4, 2, 0, 0)), (96, (.ldc2_w 342, 1328, 2, 0)), (99, (.ldiv, 1, 0, 0)), (100, (.lstore 4, 2, 0, 0)), (102, (.lload 6, 2, 0, 0)), (104, (.ldc2_w 342, 1328, 2, 0)), (107, (.ldiv, 1, 0, 0)), (108, (.lstore 6, 2, 0, 0)), (110, (.iinc 8 1, 3, 0, 0)), (113, (.goto (-45), 3, 0, 0)), (116, (.iload_n 3, 1, 0, 0)), (117, (.ifCond .ne 8, 3, 0, 0)), (120, (.lload 4, 2, 0, 0)), (122, (.goto 5, 3, 0, 0)), (125, (.lload 6, 2, 0, 0)), (127, (.lreturn, 1, 0, 0))]
noncomputable def po_135 : List (Nat × mOp) := [(0, (.aload_n 0, 1, 0, 0)), (1, (.iload_n 1, 1, 0, 0)), (2, (.iconst 0, 1, 0, 0)), (3, (.bipush 99, 2, 0, 0)), (5, (.invokevirtual 271, 629, 154, 4)), (8, (.aload_n 0, 1, 0, 0)), (9, (.iload_n 2, 1, 0, 0)), (10, (.iconst 0, 1, 0, 0)), (11, (.bipush 99, 2, 0, 0)), (13, (.invokevirtual 271, 629, 154, 4)), (16, (.aload_n 0, 1, 0, 0)), (17, (.iload_n 3, 1, 0, 0)), (18, (.iconst 0, 1, 0, 0)), (19, (.iconst 2, 1, 0, 0)), (20, (.invokevirtual 271, 629, 154, 4)), (23, (.iconst 0, 1, 0, 0)), (24, (.istore 4, 2, 0, 0)), (26, (.iconst (-1), 1, 0, 0)), (27, (.istore 5, 2, 0, 0)), (29, (.iconst 0, 1, 0, 0)), (30, (.istore 6, 2, 0, 0)), (32, (.iconst 0, 1, 0, 0)), (33, (.istore 7, 2, 0, 0)), (35, (.iload 7, 2, 0, 0)), (37, (.iconst 4, 1, 0, 0)), (38, (.if_icmp .ge 72, 3, 0, 0)), (41, (.iload 7, 2, 0, 0)), (43, (.iconst 2, 1, 0, 0)), (44, (.idiv, 1, 0, 0)), (45, (.istore 8, 2, 0, 0)), (47, (.iload 7, 2, 0, 0)), (49, (.iconst 2, 1, 0, 0)), (50, (.irem, 1, 0, 0)), (51, (.istore 9, 2, 0, 0)), (53, (.iload_n 1, 1, 0, 0)), (54, (.iload_n 2, 1, 0, 0)), (55, (.iload 8, 2, 0, 0)), (57, (.iload 9, 2, 0, 0)), (59, (.invokestatic 344, 1336, 155, 4)), (62, (.ifCond .eq 42, 3, 0, 0)), (65, (.iload 4, 2, 0, 0)), (67, (.ifCond .ne 34, 3, 0, 0)), (70, (.bipush 10, 2, 0, 0)), (72, (.iload 8, 2, 0, 0)), (74, (.imul, 1, 0, 0)), (75, (.iload 9, 2, 0, 0)), (77, (.iadd, 1, 0, 0)), (78, (.istore 5, 2, 0, 0)), (80, (.iload_n 1, 1, 0, 0)), (81, (.iload_n 2, 1, 0, 0)), (82, (.iload 8, 2, 0, 0)), (84, (.iload 9, 2, 0, 0)), (86, (.invokestatic 348, 1339, 156, 4)), (89, (.iload_n 1, 1, 0, 0)), (90, (.iload_n 2, 1, 0, 0)), (91, (.iload 9, 2, 0, 0)), (93, (.iload 8, 2, 0, 0)), (95, (.invokestatic 348, 1339, 156, 4)), (98, (.iadd, 1, 0, 0)), (99, (.istore 6, 2, 0, 0)), (101, (.iinc 4 1, 3, 0, 0)), (104, (.iinc 7 1, 3, 0, 0)), (107, (.goto (-72), 3, 0, 0)), (110, (.iload_n 3, 1, 0, 0)), (111, (.ifCond .ne 6, 3, 0, 0)), (114, (.iload 4, 2, 0, 0)), (116, (.ireturn, 1, 0, 0)), (117, (.iload_n 3, 1, 0, 0)), (118, (.iconst 1, 1, 0, 0)), (119, (.if_icmp .ne 8, 3, 0, 0)), (122, (.iload 5, 2, 0, 0)), (124, (.goto 5, 3, 0, 0)), (127, (.iload 6, 2, 0, 0)), (129, (.ireturn, 1, 0, 0))]
noncomputable def po_136 : List (Nat × mOp) := [(0, (.aload_n 0, 1, 0, 0)), (1, (.iload_n 1, 1, 0, 0)), (2, (.invokevirtual 239, 1150, 153, 2)), (5, (.aload_n 0, 1, 0, 0)), (6, (.iload_n 2, 1, 0, 0)), (7, (.iconst 0, 1, 0, 0)), (8, (.iconst 1, 1, 0, 0)), (9, (.aload_n 0, 1, 0, 0)), (10, (.getfield 23, 470, 11, 5)), (13, (.getfield 134, 203, 9, 4)), (16, (.ishl, 1, 0, 0)), (17, (.iconst 1, 1, 0, 0)), (18, (.isub, 1, 0, 0)), (19, (.invokevirtual 271, 629, 154, 4)), (22, (.aload_n 0, 1, 0, 0)), (23, (.iload_n 3, 1, 0, 0)), (24, (.iconst 0, 1, 0, 0)), (25, (.sipush 999, 3, 0, 0)), (28, (.invokevirtual 271, 629, 154, 4)), (31, (.iload_n 2, 1, 0, 0)), (32, (.iload_n 1, 1, 0, 0)), (33, (.ishr, 1, 0, 0)), (34, (.iconst 1, 1, 0, 0)), (35, (.iand, 1, 0, 0)), (36, (.ifCond .ne 5, 3, 0, 0)), (39, (.iconst 0, 1, 0, 0)), (40, (.ireturn, 1, 0, 0)), (41, (.aload_n 0, 1, 0, 0)), (42, (.getfield 60, 477, 11, 19)), (45, (.getfield 242, 361, 6, 9)), (48, (.iload_n 1, 1, 0, 0)), (49, (.iaload, 1, 0, 0)), (50, (.aload_n 0, 1, 0, 0)), (51, (.iload_n 2, 1, 0, 0)), (52, (.iload_n 3, 1, 0, 0)), (53, (.invokevirtual 352, 1349, 157, 3)), (56, (.invokestatic 355, 626, 1001, 0)), (59, (.ireturn, 1, 0, 0))]
noncomputable def po_137 : List (Nat × mOp) := [(0, (.aload_n 0, 1, 0, 0)), (1, (.iload_n 1, 1, 0, 0)), (2, (.iconst 0, 1, 0, 0)), (3, (.iconst 1, 1, 0, 0)), (4, (.invokevirtual 271, 629, 154, 4)), (7, (.aload_n 0, 1, 0, 0)), (8, (.getfield 60, 477, 11, 19)), (11, (.aload_n 0, 1, 0, 0)), (12, (.getfield 23, 470, 11, 5)), (15, (.iconst 1, 1, 0, 0)), (16, (.aload_n 0, 1, 0, 0)), (17, (.getfield 23, 470, 11, 5)), (20, (.getfield 134, 203, 9, 4)), (23, (.ishl, 1, 0, 0)), (24, (.iconst 1, 1, 0, 0)), (25, (.isub, 1, 0, 0)), (26, (.invokevirtual 358, 1360, 59, 3)), (29, (.istore_n 2, 1, 0, 0)), (30, (.iload_n 2, 1, 0, 0)), (31, (.iconst (-1), 1, 0, 0)), (32, (.if_icmp .ne 5, 3, 0, 0)), (35, (.iconst (-1), 1, 0, 0)), (36, (.ireturn, 1, 0, 0)), (37, (.iload_n 1, 1, 0, 0)), (38, (.ifCond .ne 7, 3, 0, 0)), (41, (.iload_n 2, 1, 0, 0)), (42, (.goto 12, 3, 0, 0)), (45, (.aload_n 0, 1, 0, 0)), (46, (.getfield 60, 477, 11, 19)), (49, (.getfield 242, 361, 6, 9)), (52, (.iload_n 2, 1, 0, 0)), (53, (.iaload, 1, 0, 0)), (54, (.ireturn, 1, 0, 0))]
noncomputable def po_138 : List (Nat × mOp) := [(0, (.aload_n 0, 1, 0, 0)), (1, (.iload_n 1, 1, 0, 0)), (2, (.invokevirtual 201, 1106, 151, 2)), (5, (.aload_n 0, 1, 0, 0)), (6, (.getfield 64, 478, 11, 21)), (9, (.aload_n 0, 1, 0, 0)), (10, (.getfield 60, 477, 11, 19)), (13, (.invokevirtual 289, 1198, 44, 2)), (16, (.aload_n 0, 1, 0, 0)), (17, (.getfield 64, 478, 11, 21)), (20, (.aload_n 0, 1, 0, 0)), (21, (.getfield 23, 470, 11, 5)), (24, (.invokevirtual 292, 1199, 57, 2)), (27, (.aload_n 0, 1, 0, 0)), (28, (.getfield 64, 478, 11, 21)), (31, (.getfield 214, 356, 6, 5)), (34, (.iload_n 1, 1, 0, 0)), (35, (.iaload, 1, 0, 0)), (36, (.ireturn, 1, 0, 0))]
noncomputable def po_139 : List (Nat × mOp) := [(0, (.aload_n 0, 1, 0, 0)), (1, (.getfield 98, 483, 11, 31)), (4, (.aload_n 0, 1, 0, 0)), (5, (.getfield 23, 470, 11, 5)), (8, (.invokevirtual 361, 578, 107, 2)), (11, (.ireturn, 1, 0, 0))]
noncomputable def po_140 : List (Nat × mOp) := [(0, (.aload_n 0, 1, 0, 0)), (1, (.iload_n 1, 1, 0, 0)), (2, (.iconst 0, 1, 0, 0)), (3, (.iconst 1, 1, 0, 0)), (4, (.invokevirtual 271, 629, 154, 4)), (7, (.iload_n 1, 1, 0, 0)), (8, (.ifCond .ne 17, 3, 0, 0)), (11, (.aload_n 0, 1, 0, 0)), (12, (.getfield 60, 477, 11, 19)), (15, (.aload_n 0, 1, 0, 0)), (16, (.getfield 23, 470, 11, 5)), (19, (.invokevirtual 295, 1200, 62, 2)), (22, (.goto 14, 3, 0, 0)), (25, (.aload_n 0, 1, 0, 0)), (26, (.getfield 60, 477, 11, 19)), (29, (.aload_n 0, 1, 0, 0)), (30, (.getfield 23, 470, 11, 5)), (33, (.invokevirtual 364, 1375, 60, 2)), (36, (.ireturn, 1, 0, 0))]
noncomputable def po_141 : List (Nat × mOp) := [(0, (.aload_n 0, 1, 0, 0)), (1, (.iload_n 2, 1, 0, 0)), (2, (.iconst 0, 1, 0, 0)), (3, (.bipush 16, 2, 0, 0)), (5, (.invokevirtual 271, 629, 154, 4)), (8, (.aload_n 0, 1, 0, 0)), (9, (.iload_n 3, 1, 0, 0)), (10, (.iconst 1, 1, 0, 0)), (11, (.bipush 96, 2, 0, 0)), (13, (.invokevirtual 271, 629, 154, 4)), (16, (.aload_n 0, 1, 0, 0)), (17, (.iload 4, 2, 0, 0)), (19, (.iconst 0, 1, 0, 0)), (20, (.iconst 3, 1, 0, 0)), (21, (.invokevirtual 271, 629, 154, 4)), (24, (.aload_n 0, 1, 0, 0)), (25, (.iload_n 1, 1, 0, 0)), (26, (.iload_n 2, 1, 0, 0)), (27, (.iload_n 3, 1, 0, 0)), (28, (.invokevirtual 367, 1386, 158, 4)), (31, (.iload 4, 2, 0, 0)), (33, (.tableswitch 63 0 2 #[27, 39, 51], 27, 0, 0)), (60, (.aload_n 0, 1, 0, 0)), (61, (.getfield 64, 478, 11, 21)), (64, (.aload_n 0, 1, 0, 0)), (65, (.getfield 23, 470, 11, 5)), (68, (.invokevirtual 195, 1094, 61, 2)), (71, (.ireturn, 1, 0, 0)), (72, (.aload_n 0, 1, 0, 0)), (73, (.getfield 64, 478, 11, 21)), (76, (.aload_n 0, 1, 0, 0)), (77, (.getfield 23, 470, 11, 5)), (80, (.invokevirtual 295, 1200, 62, 2)), (83, (.ireturn, 1, 0, 0)), (84, (.aload_n 0, 1, 0, 0)), (85, (.getfield 64, 478, 11, 21)), (88, (.aload_n 0, 1, 0, 0)), (89, (.getfield 23, 470, 11, 5)), (92, (.invokevirtual 185, 1086, 65, 2)), (95, (.ireturn, 1, 0, 0)), (96, (.aload_n 0, 1, 0, 0)), (97, (.getfield 64, 478, 11, 21)), (100, (.getfield 182, 369, 6, 16)), (103, (.ireturn, 1, 0, 0))]
noncomputable def po_142 : List (Nat × mOp) := [(0, (.aload_n 0, 1, 0, 0)), (1, (.iload_n 2, 1, 0, 0)), (2, (.iconst 1, 1, 0, 0)), (3, (.bipush 20, 2, 0, 0)), (5, (.invokevirtual 271, 629, 154, 4)), (8, (.aload_n 0, 1, 0, 0)), (9, (.iload_n 3, 1, 0, 0)), (10, (.iconst 0, 1, 0, 0)), (11, (.bipush 16, 2, 0, 0)), (13, (.invokevirtual 271, 629, 154, 4)), (16, (.aload_n 0, 1, 0, 0)), (17, (.iload 4, 2, 0, 0)), (19, (.iconst 1, 1, 0, 0)), (20, (.bipush 96, 2, 0, 0)), (22, (.invokevirtual 271, 629, 154, 4)), (25, (.aload_n 0, 1, 0, 0)), (26, (.iload 5, 2, 0, 0)), (28, (.iconst 0, 1, 0, 0)), (29, (.iconst 2, 1, 0, 0)), (30, (.invokevirtual 271, 629, 154, 4)), (33, (.ldc_w 372, 1408, 2147483647, 0)), (36, (.istore 6, 2, 0, 0)), (38, (.iconst 0, 1, 0, 0)), (39, (.istore 7, 2, 0, 0)), (41, (.iconst 0, 1, 0, 0)), (42, (.istore 8, 2, 0, 0)), (44, (.iconst 0, 1, 0, 0)), (45, (.istore 9, 2, 0, 0)), (47, (.iload 9, 2, 0, 0)), (49, (.iload_n 2, 1, 0, 0)), (50, (.if_icmp .ge 79, 3, 0, 0)), (53, (.aload_n 0, 1, 0, 0)), (54, (.iload_n 1, 1, 0, 0)), (55, (.iload 9, 2, 0, 0)), (57, (.iadd, 1, 0, 0)), (58, (.iload_n 3, 1, 0, 0)), (59, (.iload 4, 2, 0, 0)), (61, (.invokevirtual 367, 1386, 158, 4)), (64, (.aload_n 0, 1, 0, 0)), (65, (.getfield 64, 478, 11, 21)), (68, (.aload_n 0, 1, 0, 0)), (69, (.getfield 23, 470, 11, 5)), (72, (.invokevirtual 195, 1094, 61, 2)), (75, (.istore 10, 2, 0, 0)), (77, (.iload 6, 2, 0, 0)), (79, (.iload 10, 2, 0, 0)), (81, (.invokestatic 355, 626, 1001, 0)), (84, (.istore 6, 2, 0, 0)), (86, (.iload 7, 2, 0, 0)), (88, (.iload 10, 2, 0, 0)), (90, (.invokestatic 221, 1130, 1000, 0)), (93, (.istore 7, 2, 0, 0)), (95, (.aload_n 0, 1, 0, 0)), (96, (.getfield 64, 478, 11, 21)), (99, (.aload_n 0, 1, 0, 0)), (100, (.getfield 23, 470, 11, 5)), (103, (.invokevirtual 185, 1086, 65, 2)), (106, (.iconst 1, 1, 0, 0)), (107, (.aload_n 0, 1, 0, 0)), (108, (.getfield 23, 470, 11, 5)), (111, (.getfield 170, 192, 9, 0)), (114, (.ishl, 1, 0, 0)), (115, (.iconst 1, 1, 0, 0)), (116, (.isub, 1, 0, 0)), (117, (.if_icmp .ne 6, 3, 0, 0)), (120, (.iinc 8 1, 3, 0, 0)), (123, (.iinc 9 1, 3, 0, 0)), (126, (.goto (-79), 3, 0, 0)), (129, (.iload 5, 2, 0, 0)), (131, (.ifCond .ne 6, 3, 0, 0)), (134, (.iload 6, 2, 0, 0)), (136, (.ireturn, 1, 0, 0)), (137, (.iload 5, 2, 0, 0)), (139, (.iconst 1, 1, 0, 0)), (140, (.if_icmp .ne 8, 3, 0, 0)), (143, (.iload 7, 2, 0, 0)), (145, (.goto 5, 3, 0, 0)), (148, (.iload 8, 2, 0, 0)), (150, (.ireturn, 1, 0, 0))]
noncomputable def po_143 : List (Nat × mOp) := [(0, (.aload_n 0, 1, 0, 0)), (1, (.getfield 84, 481, 11, 27)), (4, (.aload_n 0, 1, 0, 0)), (5, (.getfield 60, 477, 11, 19)), (8, (.aload_n 0, 1, 0, 0)), (9, (.getfield 77, 480, 11, 25)), (12, (.invokevirtual 373, 589, 18, 3)), (15, (.ireturn, 1, 0, 0))]
noncomputable def po_144 : List (Nat × mOp) := [(0, (.aload_n 0, 1, 0, 0)), (1, (.getfield 84, 481, 11, 27)), (4, (.aload_n 0, 1, 0, 0)), (5, (.getfield 60, 477, 11, 19)), (8, (.aload_n 0, 1, 0, 0)), (9, (.getfield 77, 480, 11, 25)), (12, (.invokevirtual 376, 602, 19, 3)), (15, (.ifCond .ne 5, 3, 0, 0)), (18, (.iconst (-1), 1, 0, 0)), (19, (.ireturn, 1, 0, 0)), (20, (.aload_n 0, 1, 0, 0)), (21, (.iconst 0, 1, 0, 0)), (22, (.putfield 127, 484, 11, 32)), (25, (.aload_n 0, 1, 0, 0)), (26, (.getfield 84, 481, 11, 27)), (29, (.getfield 379, 431, 2, 4)), (32, (.ireturn, 1, 0, 0))]
noncomputable def po_145 : List (Nat × mOp) := [(0, (.iload_n 1, 1, 0, 0)), (1, (.ifCond .ne 8, 3, 0, 0)), (4, (.aload_n 0, 1, 0, 0)), (5, (.getfield 380, 485, 11, 34)), (8, (.ireturn, 1, 0, 0)), (9, (.iload_n 1, 1, 0, 0)), (10, (.iconst 1, 1, 0, 0)), (11, (.if_icmp .ne 10, 3, 0, 0)), (14, (.aload_n 0, 1, 0, 0)), (15, (.getfield 383, 486, 11, 36)), (18, (.goto 4, 3, 0, 0)), (21, (.iconst (-1), 1, 0, 0)), (22, (.ireturn, 1, 0, 0))]
noncomputable def po_146 : List (Nat × mOp) := [(0, (.iload_n 1, 1, 0, 0)), (1, (.tableswitch 51 0 2 #[27, 35, 43], 27, 0, 0)), (28, (.aload_n 0, 1, 0, 0)), (29, (.getfield 84, 481, 11, 27)), (32, (.getfield 379, 431, 2, 4)), (35, (.ireturn, 1, 0, 0)), (36, (.aload_n 0, 1, 0, 0)), (37, (.getfield 10, 468, 11, 1)), (40, (.getfield 102, 146, 8, 2)), (43, (.ireturn, 1, 0, 0)), (44, (.aload_n 0, 1, 0, 0)), (45, (.getfield 77, 480, 11, 25)), (48, (.getfield 169, 411, 4, 2)), (51, (.ireturn, 1, 0, 0)), (52, (.iconst (-1), 1, 0, 0)), (53, (.ireturn, 1, 0, 0))]
noncomputable def po_147 : List (Nat × mOp) := [(0, (.aload_n 0, 1, 0, 0)), (1, (.iload_n 1, 1, 0, 0)), (2, (.iconst 0, 1, 0, 0)), (3, (.aload_n 0, 1, 0, 0)), (4, (.getfield 10, 468, 11, 1)), (7, (.getfield 102, 146, 8, 2)), (10, (.iload_n 2, 1, 0, 0)), (11, (.invokestatic 355, 626, 1001, 0)), (14, (.invokevirtual 271, 629, 154, 4)), (17, (.aload_n 0, 1, 0, 0)), (18, (.getfield 10, 468, 11, 1)), (21, (.iload_n 1, 1, 0, 0)), (22, (.invokevirtual 386, 699, 83, 2)), (25, (.aload_n 0, 1, 0, 0)), (26, (.iconst (-1), 1, 0, 0)), (27, (.putfield 16, 469, 11, 2)), (30, (.return_, 1, 0, 0))]
noncomputable def po_148 : List (Nat × mOp) := [(0, (.aload_n 0, 1, 0, 0)), (1, (.aload_n 0, 1, 0, 0)), (2, (.getfield 10, 468, 11, 1)), (5, (.getfield 389, 164, 8, 14)), (8, (.putfield 16, 469, 11, 2)), (11, (.aload_n 0, 1, 0, 0)), (12, (.getfield 10, 468, 11, 1)), (15, (.getfield 390, 162, 8, 12)), (18, (.bipush 10, 2, 0, 0)), (20, (.isub, 1, 0, 0)), (21, (.ireturn, 1, 0, 0))]
noncomputable def po_149 : List (Nat × mOp) := [(0, (.aload_n 0, 1, 0, 0)), (1, (.dup, 1, 0, 0)), (2, (.getfield 380, 485, 11, 34)), (5, (.iconst 1, 1, 0, 0)), (6, (.iadd, 1, 0, 0)), (7, (.putfield 380, 485, 11, 34)), (10, (.new 393, 3, 2001, 395))]
noncomputable def po_150 : List (Nat × mOp) := [(0, (.aload_n 0, 1, 0, 0)), (1, (.dup, 1, 0, 0)), (2, (.getfield 383, 486, 11, 36)), (5, (.iconst 1, 1, 0, 0)), (6, (.iadd, 1, 0, 0)), (7, (.putfield 383, 486, 11, 36)), (10, (.new 396, 3, 2002, 398))]
noncomputable def po_151 : List (Nat × mOp) := [(0, (.iload_n 1, 1, 0, 0)), (1, (.ifCond .lt 14, 3, 0, 0)), (4, (.iload_n 1, 1, 0, 0)), (5, (.aload_n 0, 1, 0, 0)), (6, (.getfield 23, 470, 11, 5)), (9, (.getfield 170, 192, 9, 0)), (12, (.if_icmp .lt 8, 3, 0, 0)), (15, (.aload_n 0, 1, 0, 0)), (16, (.invokevirtual 258, 1110, 149, 1)), (19, (.pop, 1, 0, 0)), (20, (.return_, 1, 0, 0))]
noncomputable def po_152 : List (Nat × mOp) := [(0, (.iload_n 1, 1, 0, 0)), (1, (.ifCond .lt 14, 3, 0, 0)), (4, (.iload_n 1, 1, 0, 0)), (5, (.aload_n 0, 1, 0, 0)), (6, (.getfield 23, 470, 11, 5)), (9, (.getfield 173, 198, 9, 2)), (12, (.if_icmp .lt 8, 3, 0, 0)), (15, (.aload_n 0, 1, 0, 0)), (16, (.invokevirtual 258, 1110, 149, 1)), (19, (.pop, 1, 0, 0)), (20, (.return_, 1, 0, 0))]
noncomputable def po_153 : List (Nat × mOp) := [(0, (.iload_n 1, 1, 0, 0)), (1, (.ifCond .lt 14, 3, 0, 0)), (4, (.iload_n 1, 1, 0, 0)), (5, (.aload_n 0, 1, 0, 0)), (6, (.getfield 23, 470, 11, 5)), (9, (.getfield 134, 203, 9, 4)), (12, (.if_icmp .lt 8, 3, 0, 0)), (15, (.aload_n 0, 1, 0, 0)), (16, (.invokevirtual 258, 1110, 149, 1)), (19, (.pop, 1, 0, 0)), (20, (.return_, 1, 0, 0))]
noncomputable def po_154 : List (Nat × mOp) := [(0, (.iload_n 1, 1, 0, 0)), (1, (.iload_n 2, 1, 0, 0)), (2, (.if_icmp .lt 8, 3, 0, 0)), (5, (.iload_n 1, 1, 0, 0)), (6, (.iload_n 3, 1, 0, 0)), (7, (.if_icmp .le 8, 3, 0, 0)), (10, (.aload_n 0, 1, 0, 0)), (11, (.invokevirtual 198, 633, 150, 1)), (14, (.pop, 1, 0, 0)), (15, (.return_, 1, 0, 0))]
noncomputable def po_155 : List (Nat × mOp) := [(0, (.iload_n 0, 1, 0, 0)), (1, (.iload_n 1, 1, 0, 0)), (2, (.iload_n 2, 1, 0, 0)), (3, (.iload_n 3, 1, 0, 0)), (4, (.invokestatic 348, 1339, 156, 4)), (7, (.iload_n 0, 1, 0, 0)), (8, (.iload_n 1, 1, 0, 0)), (9, (.iconst 1, 1, 0, 0)), (10, (.iload_n 2, 1, 0, 0)), (11, (.isub, 1, 0, 0)), (12, (.iload_n 3, 1, 0, 0)), (13, (.invokestatic 348, 1339, 156, 4)), (16, (.if_icmp .lt 26, 3, 0, 0)), (19, (.iload_n 0, 1, 0, 0)), (20, (.iload_n 1, 1, 0, 0)), (21, (.iload_n 3, 1, 0, 0)), (22, (.iload_n 2, 1, 0, 0)), (23, (.invokestatic 348, 1339, 156, 4)), (26, (.iload_n 0, 1, 0, 0)), (27, (.iload_n 1, 1, 0, 0)), (28, (.iconst 1, 1, 0, 0)), (29, (.iload_n 3, 1, 0, 0)), (30, (.isub, 1, 0, 0)), (31, (.iload_n 2, 1, 0, 0)), (32, (.invokestatic 348, 1339, 156, 4)), (35, (.if_icmp .lt 7, 3, 0, 0)), (38, (.iconst 1, 1, 0, 0)), (39, (.goto 4, 3, 0, 0)), (42, (.iconst 0, 1, 0, 0)), (43, (.ireturn, 1, 0, 0))]
noncomputable def po_156 : List (Nat × mOp) := [(0, (.iload_n 2, 1, 0, 0)), (1, (.ifCond .ne 14, 3, 0, 0)), (4, (.iload_n 3, 1, 0, 0)), (5, (.ifCond .ne 8, 3, 0, 0)), (8, (.iload_n 1, 1, 0, 0)), (9, (.ineg, 1, 0, 0)), (10, (.goto 4, 3, 0, 0)), (13, (.iload_n 1, 1, 0, 0)), (14, (.ireturn, 1, 0, 0)), (15, (.iload_n 3, 1, 0, 0)), (16, (.ifCond .ne 9, 3, 0, 0)), (19, (.iload_n 0, 1, 0, 0)), (20, (.iconst 2, 1, 0, 0)), (21, (.idiv, 1, 0, 0)), (22, (.goto 4, 3, 0, 0)), (25, (.iload_n 0, 1, 0, 0)), (26, (.ireturn, 1, 0, 0))]
noncomputable def po_157 : List (Nat × mOp) := [(0, (.bipush 99, 2, 0, 0)), (2, (.istore_n 3, 1, 0, 0)), (3, (.iload_n 3, 1, 0, 0)), (4, (.ifCond .le 69, 3, 0, 0)), (7, (.iconst 0, 1, 0, 0)), (8, (.istore 4, 2, 0, 0)), (10, (.iconst 0, 1, 0, 0)), (11, (.istore 5, 2, 0, 0)), (13, (.iload 5, 2, 0, 0)), (15, (.aload_n 0, 1, 0, 0)), (16, (.getfield 23, 470, 11, 5)), (19, (.getfield 134, 203, 9, 4)), (22, (.if_icmp .ge 37, 3, 0, 0)), (25, (.iload_n 1, 1, 0, 0)), (26, (.iload 5, 2, 0, 0)), (28, (.ishr, 1, 0, 0)), (29, (.iconst 1, 1, 0, 0)), (30, (.iand, 1, 0, 0)), (31, (.ifCond .eq 22, 3, 0, 0)), (34, (.iload 4, 2, 0, 0)), (36, (.aload_n 0, 1, 0, 0)), (37, (.getfield 60, 477, 11, 19)), (40, (.getfield 242, 361, 6, 9)), (43, (.iload 5, 2, 0, 0)), (45, (.iaload, 1, 0, 0)), (46, (.iload_n 3, 1, 0, 0)), (47, (.invokestatic 355, 626, 1001, 0)), (50, (.iadd, 1, 0, 0)), (51, (.istore 4, 2, 0, 0)), (53, (.iinc 5 1, 3, 0, 0)), (56, (.goto (-43), 3, 0, 0)), (59, (.iload 4, 2, 0, 0)), (61, (.iload_n 2, 1, 0, 0)), (62, (.if_icmp .gt 5, 3, 0, 0)), (65, (.iload_n 3, 1, 0, 0)), (66, (.ireturn, 1, 0, 0)), (67, (.iinc 3 (-1), 3, 0, 0)), (70, (.goto (-67), 3, 0, 0)), (73, (.iconst 0, 1, 0, 0)), (74, (.ireturn, 1, 0, 0))]
noncomputable def po_158 : List (Nat × mOp) := [(0, (.aload_n 0, 1, 0, 0)), (1, (.getfield 64, 478, 11, 21)), (4, (.aload_n 0, 1, 0, 0)), (5, (.getfield 60, 477, 11, 19)), (8, (.invokevirtual 289, 1198, 44, 2)), (11, (.aload_n 0, 1, 0, 0)), (12, (.getfield 70, 479, 11, 23)), (15, (.iload_n 1, 1, 0, 0)), (16, (.putfield 399, 396, 5, 0)), (19, (.aload_n 0, 1, 0, 0)), (20, (.getfield 23, 470, 11, 5)), (23, (.getfield 173, 198, 9, 2)), (26, (.ifCond .le 27, 3, 0, 0)), (29, (.aload_n 0, 1, 0, 0)), (30, (.getfield 23, 470, 11, 5)), (33, (.getfield 170, 192, 9, 0)), (36, (.ifCond .le 17, 3, 0, 0)), (39, (.aload_n 0, 1, 0, 0)), (40, (.getfield 23, 470, 11, 5)), (43, (.getfield 134, 203, 9, 4)), (46, (.ifCond .le 7, 3, 0, 0)), (49, (.iconst 1, 1, 0, 0)), (50, (.goto 4, 3, 0, 0)), (53, (.iconst 0, 1, 0, 0)), (54, (.istore 4, 2, 0, 0)), (56, (.iconst 0, 1, 0, 0)), (57, (.istore 5, 2, 0, 0)), (59, (.iload 5, 2, 0, 0)), (61, (.iload_n 3, 1, 0, 0)), (62, (.if_icmp .ge 30, 3, 0, 0)), (65, (.iload 4, 2, 0, 0)), (67, (.ifCond .eq 8, 3, 0, 0)), (70, (.aload_n 0, 1, 0, 0)), (71, (.iload_n 2, 1, 0, 0)), (72, (.invokevirtual 402, 1390, 159, 2)), (75, (.aload_n 0, 1, 0, 0)), (76, (.getfield 64, 478, 11, 21)), (79, (.aload_n 0, 1, 0, 0)), (80, (.getfield 23, 470, 11, 5)), (83, (.invokevirtual 292, 1199, 57, 2)), (86, (.iinc 5 1, 3, 0, 0)), (89, (.goto (-30), 3, 0, 0)), (92, (.return_, 1, 0, 0))]
noncomputable def po_159 : List (Nat × mOp) := [(0, (.aload_n 0, 1, 0, 0)), (1, (.getfield 70, 479, 11, 23)), (4, (.aload_n 0, 1, 0, 0)), (5, (.getfield 23, 470, 11, 5)), (8, (.getfield 173, 198, 9, 2)), (11, (.invokevirtual 405, 1394, 41, 2)), (14, (.istore_n 2, 1, 0, 0)), (15, (.aload_n 0, 1, 0, 0)), (16, (.getfield 70, 479, 11, 23)), (19, (.aload_n 0, 1, 0, 0)), (20, (.getfield 23, 470, 11, 5)), (23, (.getfield 170, 192, 9, 0)), (26, (.invokevirtual 405, 1394, 41, 2)), (29, (.istore_n 3, 1, 0, 0)), (30, (.aload_n 0, 1, 0, 0)), (31, (.getfield 70, 479, 11, 23)), (34, (.aload_n 0, 1, 0, 0)), (35, (.getfield 23, 470, 11, 5)), (38, (.getfield 134, 203, 9, 4)), (41, (.invokevirtual 405, 1394, 41, 2)), (44, (.istore 4, 2, 0, 0)), (46, (.aload_n 0, 1, 0, 0)), (47, (.getfield 64, 478, 11, 21)), (50, (.aload_n 0, 1, 0, 0)), (51, (.getfield 23, 470, 11, 5)), (54, (.aload_n 0, 1, 0, 0)), (55, (.getfield 33, 472, 11, 9)), (58, (.iload_n 2, 1, 0, 0)), (59, (.iload_n 3, 1, 0, 0)), (60, (.iload 4, 2, 0, 0)), (62, (.invokevirtual 409, 1399, 51, 6)), (65, (.pop, 1, 0, 0)), (66, (.aload_n 0, 1, 0, 0)), (67, (.getfield 70, 479, 11, 23)), (70, (.bipush 16, 2, 0, 0)), (72, (.invokevirtual 405, 1394, 41, 2)), (75, (.iload_n 1, 1, 0, 0)), (76, (.if_icmp .ge 18, 3, 0, 0)), (79, (.aload_n 0, 1, 0, 0)), (80, (.getfield 64, 478, 11, 21)), (83, (.aload_n 0, 1, 0, 0)), (84, (.getfield 23, 470, 11, 5)), (87, (.iload_n 3, 1, 0, 0)), (88, (.iload 4, 2, 0, 0)), (90, (.invokevirtual 413, 1400, 52, 4)), (93, (.pop, 1, 0, 0)), (94, (.return_, 1, 0, 0))]
noncomputable def po_160 : List (Nat × mOp) := [(0, (.aload_n 0, 1, 0, 0)), (1, (.getfield 3, 1431, 12, 0)), (4, (.ireturn, 1, 0, 0))]
noncomputable def po_161 : List (Nat × mOp) := [(0, (.iload_n 1, 1, 0, 0)), (1, (.ifCond .ne 25, 3, 0, 0)), (4, (.aload_n 0, 1, 0, 0)), (5, (.getfield 3, 1431, 12, 0)), (8, (.ifCond .ne 18, 3, 0, 0)), (11, (.aload_n 0, 1, 0, 0)), (12, (.iload_n 2, 1, 0, 0)), (13, (.putfield 3, 1431, 12, 0)), (16, (.aload_n 0, 1, 0, 0)), (17, (.getfield 7, 1432, 12, 3)), (20, (.iload_n 3, 1, 0, 0)), (21, (.dup2, 1, 0, 0)), (22, (.iaload, 1, 0, 0)), (23, (.iconst 1, 1, 0, 0)), (24, (.iadd, 1, 0, 0)), (25, (.iastore, 1, 0, 0)), (26, (.aload_n 0, 1, 0, 0)), (27, (.getfield 3, 1431, 12, 0)), (30, (.ifCond .ne 7, 3, 0, 0)), (33, (.iconst 1, 1, 0, 0)), (34, (.goto 4, 3, 0, 0)), (37, (.iconst 0, 1, 0, 0)), (38, (.ireturn, 1, 0, 0))]
noncomputable def po_162 : List (Nat × mOp) := [(0, (.iload_n 0, 1, 0, 0)), (1, (.iload_n 1, 1, 0, 0)), (2, (.if_icmp .lt 12, 3, 0, 0)), (5, (.iload_n 0, 1, 0, 0)), (6, (.iload_n 2, 1, 0, 0)), (7, (.if_icmp .gt 7, 3, 0, 0)), (10, (.iconst 1, 1, 0, 0)), (11, (.goto 4, 3, 0, 0)), (14, (.iconst 0, 1, 0, 0)), (15, (.ireturn, 1, 0, 0))]
noncomputable def po_163 : List (Nat × mOp) := [(0, (.aload_n 0, 1, 0, 0)), (1, (.invokespecial 11, 1418, 1005, 0)), (4, (.aload_n 0, 1, 0, 0)), (5, (.iconst 2, 1, 0, 0)), (6, (.newarray .int, 182, 0, 0)), (8, (.putfield 7, 1432, 12, 3)), (11, (.aload_n 0, 1, 0, 0)), (12, (.iconst (-1), 1, 0, 0)), (13, (.putfield 17, 1439, 12, 16)), (16, (.aload_n 0, 1, 0, 0)), (17, (.sipush 600, 3, 0, 0)), (20, (.newarray .int, 182, 0, 0)), (22, (.putfield 20, 1440, 12, 19)), (25, (.aload_n 0, 1, 0, 0)), (26, (.bipush 6, 2, 0, 0)), (28, (.newarray .int, 182, 0, 0)), (30, (.putfield 23, 1441, 12, 21)), (33, (.aload_n 0, 1, 0, 0)), (34, (.bipush 6, 2, 0, 0)), (36, (.newarray .int, 182, 0, 0)), (38, (.putfield 26, 1442, 12, 23)), (41, (.aload_n 0, 1, 0, 0)), (42, (.bipush 9, 2, 0, 0)), (44, (.newarray .int, 182, 0, 0)), (46, (.putfield 29, 1443, 12, 25)), (49, (.aload_n 0, 1, 0, 0)), (50, (.bipush 28, 2, 0, 0)), (52, (.newarray .int, 182, 0, 0)), (54, (.putfield 32, 1444, 12, 27)), (57, (.aload_n 0, 1, 0, 0)), (58, (.bipush 6, 2, 0, 0)), (60, (.newarray .int, 182, 0, 0)), (62, (.putfield 35, 1445, 12, 29)), (65, (.aload_n 0, 1, 0, 0)), (66, (.bipush 6, 2, 0, 0)), (68, (.newarray .int, 182, 0, 0)), (70, (.putfield 38, 1446, 12, 31)), (73, (.aload_n 0, 1, 0, 0)), (74, (.bipush 9, 2, 0, 0)), (76, (.newarray .int, 182, 0, 0)), (78, (.putfield 41, 1447, 12, 33)), (81, (.aload_n 0, 1, 0, 0)), (82, (.bipush 28, 2, 0, 0)), (84, (.newarray .int, 182, 0, 0)), (86, (.putfield 44, 1448, 12, 35)), (89, (.aload_n 0, 1, 0, 0)), (90, (.sipush 150, 3, 0, 0)), (93, (.newarray .int, 182, 0, 0)), (95, (.putfield 47, 1460, 12, 59)), (98, (.aload_n 0, 1, 0, 0)), (99, (.sipush 150, 3, 0, 0)), (102, (.newarray .int, 182, 0, 0)), (104, (.putfield 50, 1461, 12, 61)), (107, (.aload_n 0, 1, 0, 0)), (108, (.sipush 150, 3, 0, 0)), (111, (.newarray .int, 182, 0, 0)), (113, (.putfield 53, 1462, 12, 63)), (116, (.aload_n 0, 1, 0, 0)), (117, (.sipush 150, 3, 0, 0)), (120, (.newarray .int, 182, 0, 0)), (122, (.putfield 56, 1463, 12, 65)), (125, (.aload_n 0, 1, 0, 0)), (126, (.sipush 150, 3, 0, 0)), (129, (.newarray .int, 182, 0, 0)), (131, (.putfield 59, 1464, 12, 67)), (134, (.aload_n 0, 1, 0, 0)), (135, (.bipush 8, 2, 0, 0)), (137, (.newarray .int, 182, 0, 0)), (139, (.putfield 62, 1467, 12, 73)), (142, (.aload_n 0, 1, 0, 0)), (143, (.sipush 200, 3, 0, 0)), (146, (.newarray .int, 182, 0, 0)), (148, (.putfield 65, 1468, 12, 75)), (151, (.aload_n 0, 1, 0, 0)), (152, (.sipush 200, 3, 0, 0)), (155, (.newarray .int, 182, 0, 0)), (157, (.putfield 68, 1469, 12, 77)), (160, (.aload_n 0, 1, 0, 0)), (161, (.bipush 50, 2, 0, 0)), (163, (.newarray .int, 182, 0, 0)), (165, (.putfield 71, 1476, 12, 91)), (168, (.aload_n 0, 1, 0, 0)), (169, (.bipush 50, 2, 0, 0)), (171, (.newarray .int, 182, 0, 0)), (173, (.putfield 74, 1477, 12, 93)), (176, (.aload_n 0, 1, 0, 0)), (177, (.sipush 800, 3, 0, 0)), (180, (.newarray .int, 182, 0, 0)), (182, (.putfield 77, 1478, 12, 95)), (185, (.aload_n 0, 1, 0, 0)), (186, (.bipush 9, 2, 0, 0)), (188, (.newarray .int, 182, 0, 0)), (190, (.putfield 80, 1479, 12, 97)), (193, (.aload_n 0, 1, 0, 0)), (194, (.bipush 9, 2, 0, 0)), (196, (.newarray .int, 182, 0, 0)), (198, (.putfield 83, 1480, 12, 99)), (201, (.aload_n 0, 1, 0, 0)), (202, (.sipush 3584, 3, 0, 0)), (205, (.newarray .int, 182, 0, 0)), (207, (.putfield 86, 1482, 12, 103)), (210, (.aload_n 0, 1, 0, 0)), (211, (.bipush 54, 2, 0, 0)), (213, (.newarray .int, 182, 0, 0)), (215, (.putfield 89, 1483, 12, 105)), (218, (.aload_n 0, 1, 0, 0)), (219, (.bipush 6, 2, 0, 0)), (221, (.newarray .int, 182, 0, 0)), (223, (.putfield 92, 1484, 12, 107)), (226, (.aload_n 0, 1, 0, 0)), (227, (.sipush 4608, 3, 0, 0)), (230, (.newarray .int, 182, 0, 0)), (232, (.putfield 95, 1485, 12, 109)), (235, (.aload_n 0, 1, 0, 0)), (236, (.sipush 4608, 3, 0, 0)), (239, (.newarray .int, 182, 0, 0)), (241, (.putfield 98, 1486, 12, 111)), (244, (.aload_n 0, 1, 0, 0)), (245, (.bipush 100, 2, 0, 0)), (247, (.newarray .int, 182, 0, 0)), (249, (.putfield 101, 1487, 12, 113)), (252, (.aload_n 0, 1, 0, 0)), (253, (.sipush 2553, 3, 0, 0)), (256, (.newarray .int, 182, 0, 0)), (258, (.putfield 104, 1489, 12, 117)), (261, (.aload_n 0, 1, 0, 0)), (262, (.invokevirtual 107, 1419, 180, 1)), (265, (.aload_n 0, 1, 0, 0)), (266, (.invokevirtual 110, 1423, 181, 1)), (269, (.return_, 1, 0, 0))]
noncomputable def po_164 : List (Nat × mOp) := [(0, (.aload_n 0, 1, 0, 0)), (1, (.iconst 0, 1, 0, 0)), (2, (.putfield 3, 1431, 12, 0)), (5, (.aload_n 0, 1, 0, 0)), (6, (.getfield 113, 1433, 12, 4)), (9, (.bipush 20, 2, 0, 0)), (11, (.iadd, 1, 0, 0)), (12, (.sipush 600, 3, 0, 0)), (15, (.if_icmp .le 5, 3, 0, 0)), (18, (.iconst (-1), 1, 0, 0)), (19, (.ireturn, 1, 0, 0)), (20, (.iconst 0, 1, 0, 0)), (21, (.istore 6, 2, 0, 0)), (23, (.iload 6, 2, 0, 0)), (25, (.bipush 20, 2, 0, 0)), (27, (.if_icmp .ge 93, 3, 0, 0)), (30, (.iload 6, 2, 0, 0)), (32, (.iconst 4, 1, 0, 0)), (33, (.if_icmp .ge 7, 3, 0, 0)), (36, (.iload_n 1, 1, 0, 0)), (37, (.goto 39, 3, 0, 0)), (40, (.iload 6, 2, 0, 0)), (42, (.bipush 8, 2, 0, 0)), (44, (.if_icmp .ge 7, 3, 0, 0)), (47, (.iload_n 2, 1, 0, 0)), (48, (.goto 28, 3, 0, 0)), (51, (.iload 6, 2, 0, 0)), (53, (.bipush 12, 2, 0, 0)), (55, (.if_icmp .ge 7, 3, 0, 0)), (58, (.iload_n 3, 1, 0, 0)), (59, (.goto 17, 3, 0, 0)), (62, (.iload 6, 2, 0, 0)), (64, (.bipush 16, 2, 0, 0)), (66, (.if_icmp .ge 8, 3, 0, 0)), (69, (.iload 4, 2, 0, 0)), (71, (.goto 5, 3, 0, 0)), (74, (.iload 5, 2, 0, 0)), (76, (.istore 7, 2, 0, 0)), (78, (.aload_n 0, 1, 0, 0)), (79, (.getfield 20, 1440, 12, 19)), (82, (.aload_n 0, 1, 0, 0)), (83, (.getfield 113, 1433, 12, 4)), (86, (.iload 7, 2, 0, 0)), (88, (.bipush 24, 2, 0, 0)), (90, (.bipush 8, 2, 0, 0)), (92, (.iload 6, 2, 0, 0)), (94, (.iconst 4, 1, 0, 0)), (95, (.irem, 1, 0, 0)), (96, (.imul, 1, 0, 0)), (97, (.isub, 1, 0, 0)), (98, (.ishr, 1, 0, 0)), (99, (.sipush 255, 3, 0, 0)), (102, (.iand, 1, 0, 0)), (103, (.iastore, 1, 0, 0)), (104, (.aload_n 0, 1, 0, 0)), (105, (.dup, 1, 0, 0)), (106, (.getfield 113, 1433, 12, 4)), (109, (.iconst 1, 1, 0, 0)), (110, (.iadd, 1, 0, 0)), (111, (.putfield 113, 1433, 12, 4)), (114, (.iinc 6 1, 3, 0, 0)), (117, (.goto (-94), 3, 0, 0)), (120, (.aload_n 0, 1, 0, 0)), (121, (.getfield 113, 1433, 12, 4)), (124, (.ireturn, 1, 0, 0))]
noncomputable def po_165 : List (Nat × mOp) := [(0, (.aload_n 0, 1, 0, 0)), (1, (.getfield 116, 1436, 12, 10)), (4, (.iconst (-1), 1, 0, 0)), (5, (.if_icmp .ne 7, 3, 0, 0)), (8, (.iconst 1, 1, 0, 0)), (9, (.goto 4, 3, 0, 0)), (12, (.iconst 0, 1, 0, 0)), (13, (.ireturn, 1, 0, 0))]
noncomputable def po_166 : List (Nat × mOp) := [(0, (.aload_n 0, 1, 0, 0)), (1, (.getfield 116, 1436, 12, 10)), (4, (.iconst (-1), 1, 0, 0)), (5, (.if_icmp .eq 4, 3, 0, 0)), (8, (.return_, 1, 0, 0)), (9, (.aload_n 0, 1, 0, 0)), (10, (.iload_n 2, 1, 0, 0)), (11, (.putfield 116, 1436, 12, 10)), (14, (.aload_n 0, 1, 0, 0)), (15, (.iload_n 1, 1, 0, 0)), (16, (.putfield 119, 1437, 12, 12)), (19, (.return_, 1, 0, 0))]
noncomputable def po_167 : List (Nat × mOp) := [(0, (.aload_n 0, 1, 0, 0)), (1, (.getfield 122, 1435, 12, 8)), (4, (.aload_n 0, 1, 0, 0)), (5, (.getfield 125, 1434, 12, 6)), (8, (.if_icmp .ge 30, 3, 0, 0)), (11, (.aload_n 0, 1, 0, 0)), (12, (.getfield 20, 1440, 12, 19)), (15, (.aload_n 0, 1, 0, 0)), (16, (.getfield 122, 1435, 12, 8)), (19, (.iaload, 1, 0, 0)), (20, (.bipush 32, 2, 0, 0)), (22, (.if_icmp .ne 16, 3, 0, 0)), (25, (.aload_n 0, 1, 0, 0)), (26, (.dup, 1, 0, 0)), (27, (.getfield 122, 1435, 12, 8)), (30, (.iconst 1, 1, 0, 0)), (31, (.iadd, 1, 0, 0)), (32, (.putfield 122, 1435, 12, 8)), (35, (.goto (-35), 3, 0, 0)), (38, (.aload_n 0, 1, 0, 0)), (39, (.getfield 122, 1435, 12, 8)), (42, (.aload_n 0, 1, 0, 0)), (43, (.getfield 125, 1434, 12, 6)), (46, (.if_icmp .ge 15, 3, 0, 0)), (49, (.aload_n 0, 1, 0, 0)), (50, (.getfield 20, 1440, 12, 19)), (53, (.aload_n 0, 1, 0, 0)), (54, (.getfield 122, 1435, 12, 8)), (57, (.iaload, 1, 0, 0)), (58, (.goto 4, 3, 0, 0)), (61, (.iconst 0, 1, 0, 0)), (62, (.ireturn, 1, 0, 0))]
noncomputable def po_168 : List (Nat × mOp) := [(0, (.iload_n 0, 1, 0, 0)), (1, (.bipush 97, 2, 0, 0)), (3, (.if_icmp .lt 13, 3, 0, 0)), (6, (.iload_n 0, 1, 0, 0)), (7, (.bipush 122, 2, 0, 0)), (9, (.if_icmp .gt 7, 3, 0, 0)), (12, (.iconst 1, 1, 0, 0)), (13, (.goto 4, 3, 0, 0)), (16, (.iconst 0, 1, 0, 0)), (17, (.ireturn, 1, 0, 0))]
noncomputable def po_169 : List (Nat × mOp) := [(0, (.iload_n 0, 1, 0, 0)), (1, (.bipush 48, 2, 0, 0)), (3, (.if_icmp .lt 13, 3, 0, 0)), (6, (.iload_n 0, 1, 0, 0)), (7, (.bipush 57, 2, 0, 0)), (9, (.if_icmp .gt 7, 3, 0, 0)), (12, (.iconst 1, 1, 0, 0)), (13, (.goto 4, 3, 0, 0)), (16, (.iconst 0, 1, 0, 0)), (17, (.ireturn, 1, 0, 0))]
noncomputable def po_170 : List (Nat × mOp) := [(0, (.aload_n 0, 1, 0, 0)), (1, (.invokevirtual 128, 1640, 167, 1)), (4, (.pop, 1, 0, 0)), (5, (.iconst 0, 1, 0, 0)), (6, (.istore_n 1, 1, 0, 0)), (7, (.iconst 0, 1, 0, 0)), (8, (.istore_n 2, 1, 0, 0)), (9, (.aload_n 0, 1, 0, 0)), (10, (.getfield 122, 1435, 12, 8)), (13, (.istore_n 3, 1, 0, 0)), (14, (.iload_n 3, 1, 0, 0)), (15, (.aload_n 0, 1, 0, 0)), (16, (.getfield 125, 1434, 12, 6)), (19, (.if_icmp .ge 48, 3, 0, 0)), (22, (.aload_n 0, 1, 0, 0)), (23, (.getfield 20, 1440, 12, 19)), (26, (.iload_n 3, 1, 0, 0)), (27, (.iaload, 1, 0, 0)), (28, (.invokestatic 132, 1648, 168, 1)), (31, (.ifCond .eq 36, 3, 0, 0)), (34, (.iload_n 2, 1, 0, 0)), (35, (.bipush 6, 2, 0, 0)), (37, (.if_icmp .ge 19, 3, 0, 0)), (40, (.iload_n 1, 1, 0, 0)), (41, (.iconst 5, 1, 0, 0)), (42, (.ishl, 1, 0, 0)), (43, (.aload_n 0, 1, 0, 0)), (44, (.getfield 20, 1440, 12, 19)), (47, (.iload_n 3, 1, 0, 0)), (48, (.iaload, 1, 0, 0)), (49, (.bipush 96, 2, 0, 0)), (51, (.isub, 1, 0, 0)), (52, (.ior, 1, 0, 0)), (53, (.goto 4, 3, 0, 0)), (56, (.iconst 0, 1, 0, 0)), (57, (.istore_n 1, 1, 0, 0)), (58, (.iinc 2 1, 3, 0, 0)), (61, (.iinc 3 1, 3, 0, 0)), (64, (.goto (-50), 3, 0, 0)), (67, (.iload_n 2, 1, 0, 0)), (68, (.bipush 6, 2, 0, 0)), (70, (.if_icmp .le 7, 3, 0, 0)), (73, (.iconst 0, 1, 0, 0)), (74, (.goto 4, 3, 0, 0)), (77, (.iload_n 1, 1, 0, 0)), (78, (.ireturn, 1, 0, 0))]
noncomputable def po_171 : List (Nat × mOp) := [(0, (.iconst 0, 1, 0, 0)), (1, (.istore_n 1, 1, 0, 0)), (2, (.iconst 0, 1, 0, 0)), (3, (.istore_n 2, 1, 0, 0)), (4, (.iload_n 2, 1, 0, 0)), (5, (.aload_n 0, 1, 0, 0)), (6, (.invokevirtual 136, 1658, 1003, 0)), (9, (.if_icmp .ge 22, 3, 0, 0)), (12, (.iload_n 1, 1, 0, 0)), (13, (.iconst 5, 1, 0, 0)), (14, (.ishl, 1, 0, 0)), (15, (.aload_n 0, 1, 0, 0)), (16, (.iload_n 2, 1, 0, 0)), (17, (.invokevirtual 141, 1659, 1004, 0)), (20, (.bipush 96, 2, 0, 0)), (22, (.isub, 1, 0, 0)), (23, (.ior, 1, 0, 0)), (24, (.istore_n 1, 1, 0, 0)), (25, (.iinc 2 1, 3, 0, 0)), (28, (.goto (-24), 3, 0, 0)), (31, (.iload_n 1, 1, 0, 0)), (32, (.ireturn, 1, 0, 0))]
noncomputable def po_172 : List (Nat × mOp) := [(0, (.aload_n 0, 1, 0, 0)), (1, (.getfield 122, 1435, 12, 8)), (4, (.aload_n 0, 1, 0, 0)), (5, (.getfield 125, 1434, 12, 6)), (8, (.if_icmp .ge 31, 3, 0, 0)), (11, (.aload_n 0, 1, 0, 0)), (12, (.getfield 20, 1440, 12, 19)), (15, (.aload_n 0, 1, 0, 0)), (16, (.getfield 122, 1435, 12, 8)), (19, (.iaload, 1, 0, 0)), (20, (.invokestatic 132, 1648, 168, 1)), (23, (.ifCond .eq 16, 3, 0, 0)), (26, (.aload_n 0, 1, 0, 0)), (27, (.dup, 1, 0, 0)), (28, (.getfield 122, 1435, 12, 8)), (31, (.iconst 1, 1, 0, 0)), (32, (.iadd, 1, 0, 0)), (33, (.putfield 122, 1435, 12, 8)), (36, (.goto (-36), 3, 0, 0)), (39, (.return_, 1, 0, 0))]
noncomputable def po_173 : List (Nat × mOp) := [(0, (.aload_n 0, 1, 0, 0)), (1, (.invokevirtual 145, 1632, 165, 1)), (4, (.ifCond .ne 5, 3, 0, 0)), (7, (.iconst 0, 1, 0, 0)), (8, (.ireturn, 1, 0, 0)), (9, (.aload_n 0, 1, 0, 0)), (10, (.invokevirtual 128, 1640, 167, 1)), (13, (.istore_n 3, 1, 0, 0)), (14, (.aload_n 0, 1, 0, 0)), (15, (.getfield 122, 1435, 12, 8)), (18, (.istore 4, 2, 0, 0)), (20, (.iconst 0, 1, 0, 0)), (21, (.istore 5, 2, 0, 0)), (23, (.iload_n 3, 1, 0, 0)), (24, (.invokestatic 149, 1685, 169, 1)), (27, (.ifCond .ne 14, 3, 0, 0)), (30, (.aload_n 0, 1, 0, 0)), (31, (.iconst 1, 1, 0, 0)), (32, (.aload_n 0, 1, 0, 0)), (33, (.getfield 122, 1435, 12, 8)), (36, (.invokevirtual 152, 1665, 166, 3)), (39, (.iconst 0, 1, 0, 0)), (40, (.ireturn, 1, 0, 0)), (41, (.aload_n 0, 1, 0, 0)), (42, (.getfield 122, 1435, 12, 8)), (45, (.aload_n 0, 1, 0, 0)), (46, (.getfield 125, 1434, 12, 6)), (49, (.if_icmp .ge 65, 3, 0, 0)), (52, (.aload_n 0, 1, 0, 0)), (53, (.getfield 20, 1440, 12, 19)), (56, (.aload_n 0, 1, 0, 0)), (57, (.getfield 122, 1435, 12, 8)), (60, (.iaload, 1, 0, 0)), (61, (.invokestatic 149, 1685, 169, 1)), (64, (.ifCond .eq 50, 3, 0, 0)), (67, (.iload 5, 2, 0, 0)), (69, (.sipush 9999, 3, 0, 0)), (72, (.if_icmp .le 9, 3, 0, 0)), (75, (.sipush 10000, 3, 0, 0)), (78, (.goto 21, 3, 0, 0)), (81, (.bipush 10, 2, 0, 0)), (83, (.iload 5, 2, 0, 0)), (85, (.imul, 1, 0, 0)), (86, (.aload_n 0, 1, 0, 0)), (87, (.getfield 20, 1440, 12, 19)), (90, (.aload_n 0, 1, 0, 0)), (91, (.getfield 122, 1435, 12, 8)), (94, (.iaload, 1, 0, 0)), (95, (.iadd, 1, 0, 0)), (96, (.bipush 48, 2, 0, 0)), (98, (.isub, 1, 0, 0)), (99, (.istore 5, 2, 0, 0)), (101, (.aload_n 0, 1, 0, 0)), (102, (.dup, 1, 0, 0)), (103, (.getfield 122, 1435, 12, 8)), (106, (.iconst 1, 1, 0, 0)), (107, (.iadd, 1, 0, 0)), (108, (.putfield 122, 1435, 12, 8)), (111, (.goto (-70), 3, 0, 0)), (114, (.iload 5, 2, 0, 0)), (116, (.iload_n 1, 1, 0, 0)), (117, (.if_icmp .lt 9, 3, 0, 0)), (120, (.iload 5, 2, 0, 0)), (122, (.iload_n 2, 1, 0, 0)), (123, (.if_icmp .le 12, 3, 0, 0)), (126, (.aload_n 0, 1, 0, 0)), (127, (.iconst 2, 1, 0, 0)), (128, (.iload 4, 2, 0, 0)), (130, (.invokevirtual 152, 1665, 166, 3)), (133, (.iconst 0, 1, 0, 0)), (134, (.ireturn, 1, 0, 0)), (135, (.iload 5, 2, 0, 0)), (137, (.ireturn, 1, 0, 0))]
noncomputable def po_174 : List (Nat × mOp) := [(0, (.aload_n 0, 1, 0, 0)), (1, (.invokevirtual 145, 1632, 165, 1)), (4, (.ifCond .eq 20, 3, 0, 0)), (7, (.aload_n 0, 1, 0, 0)), (8, (.invokevirtual 128, 1640, 167, 1)), (11, (.iload_n 1, 1, 0, 0)), (12, (.if_icmp .eq 12, 3, 0, 0)), (15, (.aload_n 0, 1, 0, 0)), (16, (.iconst 1, 1, 0, 0)), (17, (.aload_n 0, 1, 0, 0)), (18, (.getfield 122, 1435, 12, 8)), (21, (.invokevirtual 152, 1665, 166, 3)), (24, (.aload_n 0, 1, 0, 0)), (25, (.invokevirtual 145, 1632, 165, 1)), (28, (.ifCond .eq 13, 3, 0, 0)), (31, (.aload_n 0, 1, 0, 0)), (32, (.dup, 1, 0, 0)), (33, (.getfield 122, 1435, 12, 8)), (36, (.iconst 1, 1, 0, 0)), (37, (.iadd, 1, 0, 0)), (38, (.putfield 122, 1435, 12, 8)), (41, (.return_, 1, 0, 0))]
noncomputable def po_175 : List (Nat × mOp) := [(0, (.aload_n 0, 1, 0, 0)), (1, (.invokevirtual 128, 1640, 167, 1)), (4, (.pop, 1, 0, 0)), (5, (.aload_n 0, 1, 0, 0)), (6, (.getfield 122, 1435, 12, 8)), (9, (.aload_n 0, 1, 0, 0)), (10, (.getfield 125, 1434, 12, 6)), (13, (.if_icmp .ge 7, 3, 0, 0)), (16, (.iconst 1, 1, 0, 0)), (17, (.goto 4, 3, 0, 0)), (20, (.iconst 0, 1, 0, 0)), (21, (.ireturn, 1, 0, 0))]
noncomputable def po_176 : List (Nat × mOp) := [(0, (.aload_n 0, 1, 0, 0)), (1, (.iconst 0, 1, 0, 0)), (2, (.putfield 113, 1433, 12, 4)), (5, (.aload_n 0, 1, 0, 0)), (6, (.iconst (-1), 1, 0, 0)), (7, (.putfield 17, 1439, 12, 16)), (10, (.aload_n 0, 1, 0, 0)), (11, (.iload_n 1, 1, 0, 0)), (12, (.putfield 125, 1434, 12, 6)), (15, (.aload_n 0, 1, 0, 0)), (16, (.iconst 0, 1, 0, 0)), (17, (.putfield 122, 1435, 12, 8)), (20, (.aload_n 0, 1, 0, 0)), (21, (.iconst (-1), 1, 0, 0)), (22, (.putfield 116, 1436, 12, 10)), (25, (.aload_n 0, 1, 0, 0)), (26, (.iconst 0, 1, 0, 0)), (27, (.putfield 156, 1438, 12, 14)), (30, (.return_, 1, 0, 0))]
noncomputable def po_177 : List (Nat × mOp) := [(0, (.aload_n 0, 1, 0, 0)), (1, (.aload_n 0, 1, 0, 0)), (2, (.getfield 116, 1436, 12, 10)), (5, (.putfield 17, 1439, 12, 16)), (8, (.aload_n 0, 1, 0, 0)), (9, (.invokevirtual 145, 1632, 165, 1)), (12, (.ifCond .eq 7, 3, 0, 0)), (15, (.iload_n 1, 1, 0, 0)), (16, (.goto 10, 3, 0, 0)), (19, (.aload_n 0, 1, 0, 0)), (20, (.getfield 119, 1437, 12, 12)), (23, (.bipush 10, 2, 0, 0)), (25, (.isub, 1, 0, 0)), (26, (.ireturn, 1, 0, 0))]
noncomputable def po_178 : List (Nat × mOp) := [(0, (.aload_n 0, 1, 0, 0)), (1, (.iconst 0, 1, 0, 0)), (2, (.putfield 3, 1431, 12, 0)), (5, (.aload_n 0, 1, 0, 0)), (6, (.getfield 17, 1439, 12, 16)), (9, (.ireturn, 1, 0, 0))]
noncomputable def po_179 : List (Nat × mOp) := [(0, (.iconst 0, 1, 0, 0)), (1, (.istore 4, 2, 0, 0)), (3, (.iload 4, 2, 0, 0)), (5, (.iload_n 3, 1, 0, 0)), (6, (.if_icmp .ge 17, 3, 0, 0)), (9, (.aload_n 2, 1, 0, 0)), (10, (.iload 4, 2, 0, 0)), (12, (.aload_n 1, 1, 0, 0)), (13, (.iload 4, 2, 0, 0)), (15, (.iaload, 1, 0, 0)), (16, (.iastore, 1, 0, 0)), (17, (.iinc 4 1, 3, 0, 0)), (20, (.goto (-17), 3, 0, 0)), (23, (.return_, 1, 0, 0))]
noncomputable def po_180 : List (Nat × mOp) := [(0, (.aload_n 0, 1, 0, 0)), (1, (.iconst 0, 1, 0, 0)), (2, (.putfield 159, 1449, 12, 36)), (5, (.aload_n 0, 1, 0, 0)), (6, (.iconst 0, 1, 0, 0)), (7, (.putfield 162, 1450, 12, 38)), (10, (.aload_n 0, 1, 0, 0)), (11, (.iconst 0, 1, 0, 0)), (12, (.putfield 165, 1451, 12, 40)), (15, (.aload_n 0, 1, 0, 0)), (16, (.iconst 0, 1, 0, 0)), (17, (.putfield 168, 1452, 12, 42)), (20, (.aload_n 0, 1, 0, 0)), (21, (.bipush 12, 2, 0, 0)), (23, (.putfield 171, 1453, 12, 44)), (26, (.aload_n 0, 1, 0, 0)), (27, (.iconst 0, 1, 0, 0)), (28, (.putfield 174, 1454, 12, 46)), (31, (.return_, 1, 0, 0))]
noncomputable def po_181 : List (Nat × mOp) := [(0, (.aload_n 0, 1, 0, 0)), (1, (.aload_n 0, 1, 0, 0)), (2, (.getfield 159, 1449, 12, 36)), (5, (.putfield 177, 1455, 12, 48)), (8, (.aload_n 0, 1, 0, 0)), (9, (.aload_n 0, 1, 0, 0)), (10, (.getfield 162, 1450, 12, 38)), (13, (.putfield 180, 1456, 12, 50)), (16, (.aload_n 0, 1, 0, 0)), (17, (.aload_n 0, 1, 0, 0)), (18, (.getfield 165, 1451, 12, 40)), (21, (.putfield 183, 1457, 12, 52)), (24, (.aload_n 0, 1, 0, 0)), (25, (.aload_n 0, 1, 0, 0)), (26, (.getfield 168, 1452, 12, 42)), (29, (.putfield 186, 1458, 12, 54)), (32, (.aload_n 0, 1, 0, 0)), (33, (.aload_n 0, 1, 0, 0)), (34, (.getfield 174, 1454, 12, 46)), (37, (.putfield 189, 1459, 12, 56)), (40, (.aload_n 0, 1, 0, 0)), (41, (.aload_n 0, 1, 0, 0)), (42, (.getfield 23, 1441, 12, 21)), (45, (.aload_n 0, 1, 0, 0)), (46, (.getfield 35, 1445, 12, 29)), (49, (.bipush 6, 2, 0, 0)), (51, (.invokevirtual 192, 1427, 179, 4)), (54, (.aload_n 0, 1, 0, 0)), (55, (.aload_n 0, 1, 0, 0)), (56, (.getfield 26, 1442, 12, 23)), (59, (.aload_n 0, 1, 0, 0)), (60, (.getfield 38, 1446, 12, 31)), (63, (.bipush 6, 2, 0, 0)), (65, (.invokevirtual 192, 1427, 179, 4)), (68, (.aload_n 0, 1, 0, 0)), (69, (.aload_n 0, 1, 0, 0)), (70, (.getfield 29, 1443, 12, 25)), (73, (.aload_n 0, 1, 0, 0)), (74, (.getfield 41, 1447, 12, 33)), (77, (.bipush 9, 2, 0, 0)), (79, (.invokevirtual 192, 1427, 179, 4)), (82, (.aload_n 0, 1, 0, 0)), (83, (.aload_n 0, 1, 0, 0)), (84, (.getfield 32, 1444, 12, 27)), (87, (.aload_n 0, 1, 0, 0)), (88, (.getfield 44, 1448, 12, 35)), (91, (.bipush 28, 2, 0, 0)), (93, (.invokevirtual 192, 1427, 179, 4)), (96, (.aload_n 0, 1, 0, 0)), (97, (.iconst 0, 1, 0, 0)), (98, (.putfield 196, 1466, 12, 70)), (101, (.aload_n 0, 1, 0, 0)), (102, (.iconst 0, 1, 0, 0)), (103, (.putfield 199, 1481, 12, 100)), (106, (.aload_n 0, 1, 0, 0)), (107, (.iconst 0, 1, 0, 0)), (108, (.putfield 202, 1471, 12, 80)), (111, (.aload_n 0, 1, 0, 0)), (112, (.iconst 0, 1, 0, 0)), (113, (.putfield 205, 1490, 12, 118)), (116, (.aload_n 0, 1, 0, 0)), (117, (.iconst 0, 1, 0, 0)), (118, (.putfield 208, 1472, 12, 82)), (121, (.iconst 0, 1, 0, 0)), (122, (.istore_n 1, 1, 0, 0)), (123, (.iload_n 1, 1, 0, 0)), (124, (.bipush 9, 2, 0, 0)), (126, (.if_icmp .ge 16, 3, 0, 0)), (129, (.aload_n 0, 1, 0, 0)), (130, (.getfield 83, 1480, 12, 99)), (133, (.iload_n 1, 1, 0, 0)), (134, (.iconst (-1), 1, 0, 0)), (135, (.iastore, 1, 0, 0)), (136, (.iinc 1 1, 3, 0, 0)), (139, (.goto (-16), 3, 0, 0)), (142, (.iconst 0, 1, 0, 0)), (143, (.istore_n 1, 1, 0, 0)), (144, (.iload_n 1, 1, 0, 0)), (145, (.bipush 50, 2, 0, 0)), (147, (.if_icmp .ge 16, 3, 0, 0)), (150, (.aload_n 0, 1, 0, 0)), (151, (.getfield 71, 1476, 12, 91)), (154, (.iload_n 1, 1, 0, 0)), (155, (.iconst 0, 1, 0, 0)), (156, (.iastore, 1, 0, 0)), (157, (.iinc 1 1, 3, 0, 0)), (160, (.goto (-16), 3, 0, 0)), (163, (.iconst 0, 1, 0, 0)), (164, (.istore_n 1, 1, 0, 0)), (165, (.iload_n 1, 1, 0, 0)), (166, (.bipush 6, 2, 0, 0)), (168, (.if_icmp .ge 19, 3, 0, 0)), (171, (.aload_n 0, 1, 0, 0)), (172, (.getfield 71, 1476, 12, 91)), (175, (.bipush 12, 2, 0, 0)), (177, (.iload_n 1, 1, 0, 0)), (178, (.iadd, 1, 0, 0)), (179, (.iconst (-1), 1, 0, 0)), (180, (.iastore, 1, 0, 0)), (181, (.iinc 1 1, 3, 0, 0)), (184, (.goto (-19), 3, 0, 0)), (187, (.iconst 0, 1, 0, 0)), (188, (.istore_n 1, 1, 0, 0)), (189, (.iload_n 1, 1, 0, 0)), (190, (.aload_n 0, 1, 0, 0)), (191, (.getfield 183, 1457, 12, 52)), (194, (.if_icmp .ge 24, 3, 0, 0)), (197, (.aload_n 0, 1, 0, 0)), (198, (.getfield 71, 1476, 12, 91)), (201, (.bipush 30, 2, 0, 0)), (203, (.iload_n 1, 1, 0, 0)), (204, (.iadd, 1, 0, 0)), (205, (.aload_n 0, 1, 0, 0)), (206, (.getfield 29, 1443, 12, 25)), (209, (.iload_n 1, 1, 0, 0)), (210, (.iaload, 1, 0, 0)), (211, (.iastore, 1, 0, 0)), (212, (.iinc 1 1, 3, 0, 0)), (215, (.goto (-26), 3, 0, 0)), (218, (.aload_n 0, 1, 0, 0)), (219, (.getfield 71, 1476, 12, 91)), (222, (.bipush 48, 2, 0, 0)), (224, (.aload_n 0, 1, 0, 0)), (225, (.getfield 171, 1453, 12, 44)), (228, (.iastore, 1, 0, 0)), (229, (.return_, 1, 0, 0))]
noncomputable def po_182 : List (Nat × mOp) := [(0, (.iload_n 0, 1, 0, 0)), (1, (.ldc 211, 2, 23, 1)), (3, (.invokestatic 213, 1655, 171, 1)), (6, (.if_icmp .eq 48, 3, 0, 0)), (9, (.iload_n 0, 1, 0, 0)), (10, (.ldc 217, 2, 24, 1)), (12, (.invokestatic 213, 1655, 171, 1)), (15, (.if_icmp .eq 39, 3, 0, 0)), (18, (.iload_n 0, 1, 0, 0)), (19, (.ldc 219, 2, 25, 1)), (21, (.invokestatic 213, 1655, 171, 1)), (24, (.if_icmp .eq 30, 3, 0, 0)), (27, (.iload_n 0, 1, 0, 0)), (28, (.ldc 221, 2, 26, 1)), (30, (.invokestatic 213, 1655, 171, 1)), (33, (.if_icmp .eq 21, 3, 0, 0)), (36, (.iload_n 0, 1, 0, 0)), (37, (.ldc 222, 2, 27, 1)), (39, (.invokestatic 213, 1655, 171, 1)), (42, (.if_icmp .eq 12, 3, 0, 0)), (45, (.iload_n 0, 1, 0, 0)), (46, (.ldc 224, 2, 28, 1)), (48, (.invokestatic 213, 1655, 171, 1)), (51, (.if_icmp .ne 7, 3, 0, 0)), (54, (.iconst 1, 1, 0, 0)), (55, (.goto 4, 3, 0, 0)), (58, (.iconst 0, 1, 0, 0)), (59, (.ireturn, 1, 0, 0))]
noncomputable def po_183 : List (Nat × mOp) := [(0, (.iload_n 1, 1, 0, 0)), (1, (.ldc 211, 2, 23, 1)), (3, (.invokestatic 213, 1655, 171, 1)), (6, (.if_icmp .ne 20, 3, 0, 0)), (9, (.aload_n 0, 1, 0, 0)), (10, (.getfield 159, 1449, 12, 36)), (13, (.bipush 6, 2, 0, 0)), (15, (.if_icmp .ne 7, 3, 0, 0)), (18, (.iconst 1, 1, 0, 0)), (19, (.goto 82, 3, 0, 0)), (22, (.iconst 0, 1, 0, 0)), (23, (.goto 78, 3, 0, 0)), (26, (.iload_n 1, 1, 0, 0)), (27, (.ldc 217, 2, 24, 1)), (29, (.invokestatic 213, 1655, 171, 1)), (32, (.if_icmp .ne 20, 3, 0, 0)), (35, (.aload_n 0, 1, 0, 0)), (36, (.getfield 162, 1450, 12, 38)), (39, (.bipush 6, 2, 0, 0)), (41, (.if_icmp .ne 7, 3, 0, 0)), (44, (.iconst 1, 1, 0, 0)), (45, (.goto 56, 3, 0, 0)), (48, (.iconst 0, 1, 0, 0)), (49, (.goto 52, 3, 0, 0)), (52, (.iload_n 1, 1, 0, 0)), (53, (.ldc 219, 2, 25, 1)), (55, (.invokestatic 213, 1655, 171, 1)), (58, (.if_icmp .ne 20, 3, 0, 0)), (61, (.aload_n 0, 1, 0, 0)), (62, (.getfield 165, 1451, 12, 40)), (65, (.bipush 9, 2, 0, 0)), (67, (.if_icmp .ne 7, 3, 0, 0)), (70, (.iconst 1, 1, 0, 0)), (71, (.goto 30, 3, 0, 0)), (74, (.iconst 0, 1, 0, 0)), (75, (.goto 26, 3, 0, 0)), (78, (.iload_n 1, 1, 0, 0)), (79, (.ldc 221, 2, 26, 1)), (81, (.invokestatic 213, 1655, 171, 1)), (84, (.if_icmp .ne 16, 3, 0, 0)), (87, (.aload_n 0, 1, 0, 0)), (88, (.getfield 168, 1452, 12, 42)), (91, (.bipush 14, 2, 0, 0)), (93, (.if_icmp .ne 7, 3, 0, 0)), (96, (.iconst 1, 1, 0, 0)), (97, (.goto 4, 3, 0, 0)), (100, (.iconst 0, 1, 0, 0)), (101, (.ireturn, 1, 0, 0))]
noncomputable def po_184 : List (Nat × mOp) := [(0, (.aload_n 0, 1, 0, 0)), (1, (.iconst 0, 1, 0, 0)), (2, (.aload_n 0, 1, 0, 0)), (3, (.getfield 165, 1451, 12, 40)), (6, (.iconst 1, 1, 0, 0)), (7, (.isub, 1, 0, 0)), (8, (.invokevirtual 225, 1681, 173, 3)), (11, (.istore_n 1, 1, 0, 0)), (12, (.aload_n 0, 1, 0, 0)), (13, (.invokevirtual 128, 1640, 167, 1)), (16, (.pop, 1, 0, 0)), (17, (.aload_n 0, 1, 0, 0)), (18, (.getfield 122, 1435, 12, 8)), (21, (.istore_n 2, 1, 0, 0)), (22, (.aload_n 0, 1, 0, 0)), (23, (.iconst 0, 1, 0, 0)), (24, (.aload_n 0, 1, 0, 0)), (25, (.getfield 165, 1451, 12, 40)), (28, (.iconst 1, 1, 0, 0)), (29, (.isub, 1, 0, 0)), (30, (.invokevirtual 225, 1681, 173, 3)), (33, (.istore_n 3, 1, 0, 0)), (34, (.aload_n 0, 1, 0, 0)), (35, (.invokevirtual 145, 1632, 165, 1)), (38, (.ifCond .eq 14, 3, 0, 0)), (41, (.iload_n 1, 1, 0, 0)), (42, (.iload_n 3, 1, 0, 0)), (43, (.if_icmp .ne 9, 3, 0, 0)), (46, (.aload_n 0, 1, 0, 0)), (47, (.iconst 2, 1, 0, 0)), (48, (.iload_n 2, 1, 0, 0)), (49, (.invokevirtual 152, 1665, 166, 3)), (52, (.iconst 0, 1, 0, 0)), (53, (.istore 4, 2, 0, 0)), (55, (.iload 4, 2, 0, 0)), (57, (.aload_n 0, 1, 0, 0)), (58, (.getfield 168, 1452, 12, 42)), (61, (.if_icmp .ge 78, 3, 0, 0)), (64, (.aload_n 0, 1, 0, 0)), (65, (.invokevirtual 145, 1632, 165, 1)), (68, (.ifCond .eq 71, 3, 0, 0)), (71, (.aload_n 0, 1, 0, 0)), (72, (.getfield 32, 1444, 12, 27)), (75, (.iconst 2, 1, 0, 0)), (76, (.iload 4, 2, 0, 0)), (78, (.imul, 1, 0, 0)), (79, (.iaload, 1, 0, 0)), (80, (.iload_n 1, 1, 0, 0)), (81, (.if_icmp .ne 18, 3, 0, 0)), (84, (.aload_n 0, 1, 0, 0)), (85, (.getfield 32, 1444, 12, 27)), (88, (.iconst 2, 1, 0, 0)), (89, (.iload 4, 2, 0, 0)), (91, (.imul, 1, 0, 0)), (92, (.iconst 1, 1, 0, 0)), (93, (.iadd, 1, 0, 0)), (94, (.iaload, 1, 0, 0)), (95, (.iload_n 3, 1, 0, 0)), (96, (.if_icmp .eq 31, 3, 0, 0)), (99, (.aload_n 0, 1, 0, 0)), (100, (.getfield 32, 1444, 12, 27)), (103, (.iconst 2, 1, 0, 0)), (104, (.iload 4, 2, 0, 0)), (106, (.imul, 1, 0, 0)), (107, (.iaload, 1, 0, 0)), (108, (.iload_n 3, 1, 0, 0)), (109, (.if_icmp .ne 24, 3, 0, 0)), (112, (.aload_n 0, 1, 0, 0)), (113, (.getfield 32, 1444, 12, 27)), (116, (.iconst 2, 1, 0, 0)), (117, (.iload 4, 2, 0, 0)), (119, (.imul, 1, 0, 0)), (120, (.iconst 1, 1, 0, 0)), (121, (.iadd, 1, 0, 0)), (122, (.iaload, 1, 0, 0)), (123, (.iload_n 1, 1, 0, 0)), (124, (.if_icmp .ne 9, 3, 0, 0)), (127, (.aload_n 0, 1, 0, 0)), (128, (.iconst 2, 1, 0, 0)), (129, (.iload_n 2, 1, 0, 0)), (130, (.invokevirtual 152, 1665, 166, 3)), (133, (.iinc 4 1, 3, 0, 0)), (136, (.goto (-81), 3, 0, 0)), (139, (.aload_n 0, 1, 0, 0)), (140, (.getfield 32, 1444, 12, 27)), (143, (.iconst 2, 1, 0, 0)), (144, (.aload_n 0, 1, 0, 0)), (145, (.getfield 168, 1452, 12, 42)), (148, (.imul, 1, 0, 0)), (149, (.iload_n 1, 1, 0, 0)), (150, (.iastore, 1, 0, 0)), (151, (.aload_n 0, 1, 0, 0)), (152, (.getfield 32, 1444, 12, 27)), (155, (.iconst 2, 1, 0, 0)), (156, (.aload_n 0, 1, 0, 0)), (157, (.getfield 168, 1452, 12, 42)), (160, (.imul, 1, 0, 0)), (161, (.iconst 1, 1, 0, 0)), (162, (.iadd, 1, 0, 0)), (163, (.iload_n 3, 1, 0, 0)), (164, (.iastore, 1, 0, 0)), (165, (.aload_n 0, 1, 0, 0)), (166, (.dup, 1, 0, 0)), (167, (.getfield 168, 1452, 12, 42)), (170, (.iconst 1, 1, 0, 0)), (171, (.iadd, 1, 0, 0)), (172, (.putfield 168, 1452, 12, 42)), (175, (.return_, 1, 0, 0))]
noncomputable def po_185 : List (Nat × mOp) := [(0, (.iload_n 1, 1, 0, 0)), (1, (.ldc 211, 2, 23, 1)), (3, (.invokestatic 213, 1655, 171, 1)), (6, (.if_icmp .ne 32, 3, 0, 0)), (9, (.aload_n 0, 1, 0, 0)), (10, (.getfield 23, 1441, 12, 21)), (13, (.aload_n 0, 1, 0, 0)), (14, (.getfield 159, 1449, 12, 36)), (17, (.aload_n 0, 1, 0, 0)), (18, (.iconst 1, 1, 0, 0)), (19, (.bipush 20, 2, 0, 0)), (21, (.invokevirtual 225, 1681, 173, 3)), (24, (.iastore, 1, 0, 0)), (25, (.aload_n 0, 1, 0, 0)), (26, (.dup, 1, 0, 0)), (27, (.getfield 159, 1449, 12, 36)), (30, (.iconst 1, 1, 0, 0)), (31, (.iadd, 1, 0, 0)), (32, (.putfield 159, 1449, 12, 36)), (35, (.goto 129, 3, 0, 0)), (38, (.iload_n 1, 1, 0, 0)), (39, (.ldc 217, 2, 24, 1)), (41, (.invokestatic 213, 1655, 171, 1)), (44, (.if_icmp .ne 32, 3, 0, 0)), (47, (.aload_n 0, 1, 0, 0)), (48, (.getfield 26, 1442, 12, 23)), (51, (.aload_n 0, 1, 0, 0)), (52, (.getfield 162, 1450, 12, 38)), (55, (.aload_n 0, 1, 0, 0)), (56, (.iconst 0, 1, 0, 0)), (57, (.bipush 9, 2, 0, 0)), (59, (.invokevirtual 225, 1681, 173, 3)), (62, (.iastore, 1, 0, 0)), (63, (.aload_n 0, 1, 0, 0)), (64, (.dup, 1, 0, 0)), (65, (.getfield 162, 1450, 12, 38)), (68, (.iconst 1, 1, 0, 0)), (69, (.iadd, 1, 0, 0)), (70, (.putfield 162, 1450, 12, 38)), (73, (.goto 91, 3, 0, 0)), (76, (.iload_n 1, 1, 0, 0)), (77, (.ldc 219, 2, 25, 1)), (79, (.invokestatic 213, 1655, 171, 1)), (82, (.if_icmp .ne 32, 3, 0, 0)), (85, (.aload_n 0, 1, 0, 0)), (86, (.getfield 29, 1443, 12, 25)), (89, (.aload_n 0, 1, 0, 0)), (90, (.getfield 165, 1451, 12, 40)), (93, (.aload_n 0, 1, 0, 0)), (94, (.iconst 0, 1, 0, 0)), (95, (.bipush 60, 2, 0, 0)), (97, (.invokevirtual 225, 1681, 173, 3)), (100, (.iastore, 1, 0, 0)), (101, (.aload_n 0, 1, 0, 0)), (102, (.dup, 1, 0, 0)), (103, (.getfield 165, 1451, 12, 40)), (106, (.iconst 1, 1, 0, 0)), (107, (.iadd, 1, 0, 0)), (108, (.putfield 165, 1451, 12, 40)), (111, (.goto 53, 3, 0, 0)), (114, (.iload_n 1, 1, 0, 0)), (115, (.ldc 221, 2, 26, 1)), (117, (.invokestatic 213, 1655, 171, 1)), (120, (.if_icmp .ne 10, 3, 0, 0)), (123, (.aload_n 0, 1, 0, 0)), (124, (.invokevirtual 229, 1688, 184, 1)), (127, (.goto 37, 3, 0, 0)), (130, (.iload_n 1, 1, 0, 0)), (131, (.ldc 222, 2, 27, 1)), (133, (.invokestatic 213, 1655, 171, 1)), (136, (.if_icmp .ne 17, 3, 0, 0)), (139, (.aload_n 0, 1, 0, 0)), (140, (.aload_n 0, 1, 0, 0)), (141, (.iconst 0, 1, 0, 0)), (142, (.bipush 99, 2, 0, 0)), (144, (.invokevirtual 225, 1681, 173, 3)), (147, (.putfield 171, 1453, 12, 44)), (150, (.goto 14, 3, 0, 0)), (153, (.aload_n 0, 1, 0, 0)), (154, (.aload_n 0, 1, 0, 0)), (155, (.iconst 1, 1, 0, 0)), (156, (.bipush 99, 2, 0, 0)), (158, (.invokevirtual 225, 1681, 173, 3)), (161, (.putfield 174, 1454, 12, 46)), (164, (.return_, 1, 0, 0))]
noncomputable def po_186 : List (Nat × mOp) := [(0, (.aload_n 0, 1, 0, 0)), (1, (.iconst 0, 1, 0, 0)), (2, (.putfield 3, 1431, 12, 0)), (5, (.aload_n 0, 1, 0, 0)), (6, (.iload_n 1, 1, 0, 0)), (7, (.ifCond .lt 15, 3, 0, 0)), (10, (.iload_n 1, 1, 0, 0)), (11, (.aload_n 0, 1, 0, 0)), (12, (.getfield 113, 1433, 12, 4)), (15, (.if_icmp .gt 7, 3, 0, 0)), (18, (.iconst 1, 1, 0, 0)), (19, (.goto 4, 3, 0, 0)), (22, (.iconst 0, 1, 0, 0)), (23, (.iconst 1, 1, 0, 0)), (24, (.iconst 1, 1, 0, 0)), (25, (.invokevirtual 232, 1624, 161, 4)), (28, (.ifCond .ne 5, 3, 0, 0)), (31, (.iconst 0, 1, 0, 0)), (32, (.ireturn, 1, 0, 0)), (33, (.aload_n 0, 1, 0, 0)), (34, (.iload_n 1, 1, 0, 0)), (35, (.invokevirtual 236, 1628, 176, 2)), (38, (.aload_n 0, 1, 0, 0)), (39, (.invokevirtual 107, 1419, 180, 1)), (42, (.iconst 0, 1, 0, 0)), (43, (.istore_n 2, 1, 0, 0)), (44, (.aload_n 0, 1, 0, 0)), (45, (.invokevirtual 145, 1632, 165, 1)), (48, (.ifCond .eq 88, 3, 0, 0)), (51, (.aload_n 0, 1, 0, 0)), (52, (.invokevirtual 240, 1636, 175, 1)), (55, (.ifCond .eq 81, 3, 0, 0)), (58, (.aload_n 0, 1, 0, 0)), (59, (.invokevirtual 243, 1644, 170, 1)), (62, (.istore_n 3, 1, 0, 0)), (63, (.iload_n 3, 1, 0, 0)), (64, (.invokestatic 246, 1651, 182, 1)), (67, (.ifCond .ne 15, 3, 0, 0)), (70, (.aload_n 0, 1, 0, 0)), (71, (.iconst 1, 1, 0, 0)), (72, (.aload_n 0, 1, 0, 0)), (73, (.getfield 122, 1435, 12, 8)), (76, (.invokevirtual 152, 1665, 166, 3)), (79, (.goto 26, 3, 0, 0)), (82, (.iload_n 2, 1, 0, 0)), (83, (.bipush 60, 2, 0, 0)), (85, (.if_icmp .eq 11, 3, 0, 0)), (88, (.aload_n 0, 1, 0, 0)), (89, (.iload_n 3, 1, 0, 0)), (90, (.invokevirtual 249, 1669, 183, 2)), (93, (.ifCond .eq 12, 3, 0, 0)), (96, (.aload_n 0, 1, 0, 0)), (97, (.iconst 3, 1, 0, 0)), (98, (.aload_n 0, 1, 0, 0)), (99, (.getfield 122, 1435, 12, 8)), (102, (.invokevirtual 152, 1665, 166, 3)), (105, (.aload_n 0, 1, 0, 0)), (106, (.invokevirtual 145, 1632, 165, 1)), (109, (.ifCond .ne 6, 3, 0, 0)), (112, (.goto 24, 3, 0, 0)), (115, (.aload_n 0, 1, 0, 0)), (116, (.invokevirtual 252, 1673, 172, 1)), (119, (.aload_n 0, 1, 0, 0)), (120, (.iload_n 3, 1, 0, 0)), (121, (.invokevirtual 255, 1677, 185, 2)), (124, (.aload_n 0, 1, 0, 0)), (125, (.bipush 59, 2, 0, 0)), (127, (.invokevirtual 258, 1692, 174, 2)), (130, (.iinc 2 1, 3, 0, 0)), (133, (.goto (-89), 3, 0, 0)), (136, (.aload_n 0, 1, 0, 0)), (137, (.aload_n 0, 1, 0, 0)), (138, (.getfield 165, 1451, 12, 40)), (141, (.invokevirtual 261, 1696, 177, 2)), (144, (.istore_n 3, 1, 0, 0)), (145, (.aload_n 0, 1, 0, 0)), (146, (.getfield 116, 1436, 12, 10)), (149, (.iconst (-1), 1, 0, 0)), (150, (.if_icmp .ne 7, 3, 0, 0)), (153, (.aload_n 0, 1, 0, 0)), (154, (.invokevirtual 110, 1423, 181, 1)), (157, (.iload_n 3, 1, 0, 0)), (158, (.ireturn, 1, 0, 0))]
noncomputable def po_187 : List (Nat × mOp) := [(0, (.aload_n 0, 1, 0, 0)), (1, (.invokevirtual 145, 1632, 165, 1)), (4, (.ifCond .ne 4, 3, 0, 0)), (7, (.return_, 1, 0, 0)), (8, (.aload_n 0, 1, 0, 0)), (9, (.getfield 47, 1460, 12, 59)), (12, (.aload_n 0, 1, 0, 0)), (13, (.getfield 265, 1465, 12, 68)), (16, (.iload_n 1, 1, 0, 0)), (17, (.iastore, 1, 0, 0)), (18, (.aload_n 0, 1, 0, 0)), (19, (.getfield 50, 1461, 12, 61)), (22, (.aload_n 0, 1, 0, 0)), (23, (.getfield 265, 1465, 12, 68)), (26, (.iload_n 2, 1, 0, 0)), (27, (.iastore, 1, 0, 0)), (28, (.aload_n 0, 1, 0, 0)), (29, (.dup, 1, 0, 0)), (30, (.getfield 265, 1465, 12, 68)), (33, (.iconst 1, 1, 0, 0)), (34, (.iadd, 1, 0, 0)), (35, (.putfield 265, 1465, 12, 68)), (38, (.return_, 1, 0, 0))]
noncomputable def po_188 : List (Nat × mOp) := [(0, (.aload_n 0, 1, 0, 0)), (1, (.invokevirtual 145, 1632, 165, 1)), (4, (.ifCond .eq 21, 3, 0, 0)), (7, (.aload_n 0, 1, 0, 0)), (8, (.getfield 156, 1438, 12, 14)), (11, (.bipush 6, 2, 0, 0)), (13, (.if_icmp .ne 12, 3, 0, 0)), (16, (.aload_n 0, 1, 0, 0)), (17, (.iconst 3, 1, 0, 0)), (18, (.aload_n 0, 1, 0, 0)), (19, (.getfield 122, 1435, 12, 8)), (22, (.invokevirtual 152, 1665, 166, 3)), (25, (.aload_n 0, 1, 0, 0)), (26, (.invokevirtual 145, 1632, 165, 1)), (29, (.ifCond .eq 13, 3, 0, 0)), (32, (.aload_n 0, 1, 0, 0)), (33, (.dup, 1, 0, 0)), (34, (.getfield 122, 1435, 12, 8)), (37, (.iload_n 1, 1, 0, 0)), (38, (.iadd, 1, 0, 0)), (39, (.putfield 122, 1435, 12, 8)), (42, (.aload_n 0, 1, 0, 0)), (43, (.dup, 1, 0, 0)), (44, (.getfield 156, 1438, 12, 14)), (47, (.iconst 1, 1, 0, 0)), (48, (.iadd, 1, 0, 0)), (49, (.putfield 156, 1438, 12, 14)), (52, (.return_, 1, 0, 0))]
noncomputable def po_189 : List (Nat × mOp) := [(0, (.aload_n 0, 1, 0, 0)), (1, (.invokevirtual 268, 1708, 190, 1)), (4, (.aload_n 0, 1, 0, 0)), (5, (.invokevirtual 145, 1632, 165, 1)), (8, (.ifCond .eq 59, 3, 0, 0)), (11, (.aload_n 0, 1, 0, 0)), (12, (.invokevirtual 128, 1640, 167, 1)), (15, (.bipush 43, 2, 0, 0)), (17, (.if_icmp .eq 12, 3, 0, 0)), (20, (.aload_n 0, 1, 0, 0)), (21, (.invokevirtual 128, 1640, 167, 1)), (24, (.bipush 45, 2, 0, 0)), (26, (.if_icmp .ne 41, 3, 0, 0)), (29, (.aload_n 0, 1, 0, 0)), (30, (.invokevirtual 128, 1640, 167, 1)), (33, (.bipush 43, 2, 0, 0)), (35, (.if_icmp .ne 7, 3, 0, 0)), (38, (.iconst 2, 1, 0, 0)), (39, (.goto 4, 3, 0, 0)), (42, (.iconst 3, 1, 0, 0)), (43, (.istore_n 1, 1, 0, 0)), (44, (.aload_n 0, 1, 0, 0)), (45, (.dup, 1, 0, 0)), (46, (.getfield 122, 1435, 12, 8)), (49, (.iconst 1, 1, 0, 0)), (50, (.iadd, 1, 0, 0)), (51, (.putfield 122, 1435, 12, 8)), (54, (.aload_n 0, 1, 0, 0)), (55, (.invokevirtual 268, 1708, 190, 1)), (58, (.aload_n 0, 1, 0, 0)), (59, (.iload_n 1, 1, 0, 0)), (60, (.iconst 0, 1, 0, 0)), (61, (.invokevirtual 271, 1720, 187, 3)), (64, (.goto (-60), 3, 0, 0)), (67, (.return_, 1, 0, 0))]
noncomputable def po_190 : List (Nat × mOp) := [(0, (.aload_n 0, 1, 0, 0)), (1, (.invokevirtual 274, 1712, 193, 1)), (4, (.aload_n 0, 1, 0, 0)), (5, (.invokevirtual 145, 1632, 165, 1)), (8, (.ifCond .eq 82, 3, 0, 0)), (11, (.aload_n 0, 1, 0, 0)), (12, (.invokevirtual 128, 1640, 167, 1)), (15, (.bipush 42, 2, 0, 0)), (17, (.if_icmp .eq 21, 3, 0, 0)), (20, (.aload_n 0, 1, 0, 0)), (21, (.invokevirtual 128, 1640, 167, 1)), (24, (.bipush 47, 2, 0, 0)), (26, (.if_icmp .eq 12, 3, 0, 0)), (29, (.aload_n 0, 1, 0, 0)), (30, (.invokevirtual 128, 1640, 167, 1)), (33, (.bipush 37, 2, 0, 0)), (35, (.if_icmp .ne 55, 3, 0, 0)), (38, (.aload_n 0, 1, 0, 0)), (39, (.invokevirtual 128, 1640, 167, 1)), (42, (.bipush 42, 2, 0, 0)), (44, (.if_icmp .ne 7, 3, 0, 0)), (47, (.iconst 4, 1, 0, 0)), (48, (.goto 18, 3, 0, 0)), (51, (.aload_n 0, 1, 0, 0)), (52, (.invokevirtual 128, 1640, 167, 1)), (55, (.bipush 47, 2, 0, 0)), (57, (.if_icmp .ne 7, 3, 0, 0)), (60, (.iconst 5, 1, 0, 0)), (61, (.goto 5, 3, 0, 0)), (64, (.bipush 8, 2, 0, 0)), (66, (.istore_n 1, 1, 0, 0)), (67, (.aload_n 0, 1, 0, 0)), (68, (.dup, 1, 0, 0)), (69, (.getfield 122, 1435, 12, 8)), (72, (.iconst 1, 1, 0, 0)), (73, (.iadd, 1, 0, 0)), (74, (.putfield 122, 1435, 12, 8)), (77, (.aload_n 0, 1, 0, 0)), (78, (.invokevirtual 274, 1712, 193, 1)), (81, (.aload_n 0, 1, 0, 0)), (82, (.iload_n 1, 1, 0, 0)), (83, (.iconst 0, 1, 0, 0)), (84, (.invokevirtual 271, 1720, 187, 3)), (87, (.goto (-83), 3, 0, 0)), (90, (.return_, 1, 0, 0))]
noncomputable def po_191 : List (Nat × mOp) := [(0, (.aload_n 0, 1, 0, 0)), (1, (.iload_n 1, 1, 0, 0)), (2, (.invokevirtual 277, 1716, 188, 2)), (5, (.aload_n 0, 1, 0, 0)), (6, (.bipush 91, 2, 0, 0)), (8, (.invokevirtual 258, 1692, 174, 2)), (11, (.aload_n 0, 1, 0, 0)), (12, (.invokevirtual 280, 1704, 189, 1)), (15, (.aload_n 0, 1, 0, 0)), (16, (.bipush 44, 2, 0, 0)), (18, (.invokevirtual 258, 1692, 174, 2)), (21, (.aload_n 0, 1, 0, 0)), (22, (.invokevirtual 280, 1704, 189, 1)), (25, (.aload_n 0, 1, 0, 0)), (26, (.bipush 93, 2, 0, 0)), (28, (.invokevirtual 258, 1692, 174, 2)), (31, (.aload_n 0, 1, 0, 0)), (32, (.dup, 1, 0, 0)), (33, (.getfield 156, 1438, 12, 14)), (36, (.iconst 1, 1, 0, 0)), (37, (.isub, 1, 0, 0)), (38, (.putfield 156, 1438, 12, 14)), (41, (.aload_n 0, 1, 0, 0)), (42, (.iload_n 2, 1, 0, 0)), (43, (.iconst 0, 1, 0, 0)), (44, (.invokevirtual 271, 1720, 187, 3)), (47, (.return_, 1, 0, 0))]
noncomputable def po_192 : List (Nat × mOp) := [(0, (.aload_n 0, 1, 0, 0)), (1, (.invokevirtual 243, 1644, 170, 1)), (4, (.istore_n 1, 1, 0, 0)), (5, (.iload_n 1, 1, 0, 0)), (6, (.ldc_w 283, 3, 31, 1)), (9, (.invokestatic 213, 1655, 171, 1)), (12, (.if_icmp .ne 7, 3, 0, 0)), (15, (.iconst 0, 1, 0, 0)), (16, (.goto 102, 3, 0, 0)), (19, (.iload_n 1, 1, 0, 0)), (20, (.ldc_w 285, 3, 32, 1)), (23, (.invokestatic 213, 1655, 171, 1)), (26, (.if_icmp .ne 7, 3, 0, 0)), (29, (.iconst 1, 1, 0, 0)), (30, (.goto 88, 3, 0, 0)), (33, (.iload_n 1, 1, 0, 0)), (34, (.ldc_w 286, 3, 33, 1)), (37, (.invokestatic 213, 1655, 171, 1)), (40, (.if_icmp .ne 7, 3, 0, 0)), (43, (.iconst 2, 1, 0, 0)), (44, (.goto 74, 3, 0, 0)), (47, (.iload_n 1, 1, 0, 0)), (48, (.ldc_w 288, 3, 34, 1)), (51, (.invokestatic 213, 1655, 171, 1)), (54, (.if_icmp .ne 7, 3, 0, 0)), (57, (.iconst 3, 1, 0, 0)), (58, (.goto 60, 3, 0, 0)), (61, (.iload_n 1, 1, 0, 0)), (62, (.ldc 222, 2, 27, 1)), (64, (.invokestatic 213, 1655, 171, 1)), (67, (.if_icmp .ne 7, 3, 0, 0)), (70, (.iconst 4, 1, 0, 0)), (71, (.goto 47, 3, 0, 0)), (74, (.iload_n 1, 1, 0, 0)), (75, (.ldc_w 290, 3, 35, 1)), (78, (.invokestatic 213, 1655, 171, 1)), (81, (.if_icmp .ne 7, 3, 0, 0)), (84, (.iconst 5, 1, 0, 0)), (85, (.goto 33, 3, 0, 0)), (88, (.iload_n 1, 1, 0, 0)), (89, (.ldc_w 292, 3, 36, 1)), (92, (.invokestatic 213, 1655, 171, 1)), (95, (.if_icmp .ne 8, 3, 0, 0)), (98, (.bipush 6, 2, 0, 0)), (100, (.goto 18, 3, 0, 0)), (103, (.iload_n 1, 1, 0, 0)), (104, (.ldc 217, 2, 24, 1)), (106, (.invokestatic 213, 1655, 171, 1)), (109, (.if_icmp .ne 8, 3, 0, 0)), (112, (.bipush 7, 2, 0, 0)), (114, (.goto 4, 3, 0, 0)), (117, (.iconst (-1), 1, 0, 0)), (118, (.ireturn, 1, 0, 0))]
noncomputable def po_193 : List (Nat × mOp) := [(0, (.aload_n 0, 1, 0, 0)), (1, (.invokevirtual 145, 1632, 165, 1)), (4, (.ifCond .ne 4, 3, 0, 0)), (7, (.return_, 1, 0, 0)), (8, (.aload_n 0, 1, 0, 0)), (9, (.invokevirtual 128, 1640, 167, 1)), (12, (.bipush 40, 2, 0, 0)), (14, (.if_icmp .ne 31, 3, 0, 0)), (17, (.aload_n 0, 1, 0, 0)), (18, (.iconst 1, 1, 0, 0)), (19, (.invokevirtual 277, 1716, 188, 2)), (22, (.aload_n 0, 1, 0, 0)), (23, (.invokevirtual 280, 1704, 189, 1)), (26, (.aload_n 0, 1, 0, 0)), (27, (.bipush 41, 2, 0, 0)), (29, (.invokevirtual 258, 1692, 174, 2)), (32, (.aload_n 0, 1, 0, 0)), (33, (.dup, 1, 0, 0)), (34, (.getfield 156, 1438, 12, 14)), (37, (.iconst 1, 1, 0, 0)), (38, (.isub, 1, 0, 0)), (39, (.putfield 156, 1438, 12, 14)), (42, (.goto 112, 3, 0, 0)), (45, (.aload_n 0, 1, 0, 0)), (46, (.invokevirtual 128, 1640, 167, 1)), (49, (.invokestatic 149, 1685, 169, 1)), (52, (.ifCond .eq 19, 3, 0, 0)), (55, (.aload_n 0, 1, 0, 0)), (56, (.iconst 0, 1, 0, 0)), (57, (.aload_n 0, 1, 0, 0)), (58, (.iconst 0, 1, 0, 0)), (59, (.sipush 999, 3, 0, 0)), (62, (.invokevirtual 225, 1681, 173, 3)), (65, (.invokevirtual 271, 1720, 187, 3)), (68, (.goto 86, 3, 0, 0)), (71, (.aload_n 0, 1, 0, 0)), (72, (.invokevirtual 243, 1644, 170, 1)), (75, (.ldc_w 294, 3, 29, 1)), (78, (.invokestatic 213, 1655, 171, 1)), (81, (.if_icmp .ne 13, 3, 0, 0)), (84, (.aload_n 0, 1, 0, 0)), (85, (.iconst 5, 1, 0, 0)), (86, (.bipush 6, 2, 0, 0)), (88, (.invokevirtual 296, 1725, 191, 3)), (91, (.goto 63, 3, 0, 0)), (94, (.aload_n 0, 1, 0, 0)), (95, (.invokevirtual 243, 1644, 170, 1)), (98, (.ldc_w 299, 3, 30, 1)), (101, (.invokestatic 213, 1655, 171, 1)), (104, (.if_icmp .ne 13, 3, 0, 0)), (107, (.aload_n 0, 1, 0, 0)), (108, (.iconst 4, 1, 0, 0)), (109, (.bipush 7, 2, 0, 0)), (111, (.invokevirtual 296, 1725, 191, 3)), (114, (.goto 40, 3, 0, 0)), (117, (.aload_n 0, 1, 0, 0)), (118, (.invokevirtual 301, 1730, 192, 1)), (121, (.istore_n 1, 1, 0, 0)), (122, (.iload_n 1, 1, 0, 0)), (123, (.iconst (-1), 1, 0, 0)), (124, (.if_icmp .ne 12, 3, 0, 0)), (127, (.aload_n 0, 1, 0, 0)), (128, (.iconst 1, 1, 0, 0)), (129, (.aload_n 0, 1, 0, 0)), (130, (.getfield 122, 1435, 12, 8)), (133, (.invokevirtual 152, 1665, 166, 3)), (136, (.aload_n 0, 1, 0, 0)), (137, (.invokevirtual 145, 1632, 165, 1)), (140, (.ifCond .ne 4, 3, 0, 0)), (143, (.return_, 1, 0, 0)), (144, (.aload_n 0, 1, 0, 0)), (145, (.invokevirtual 252, 1673, 172, 1)), (148, (.aload_n 0, 1, 0, 0)), (149, (.iconst 1, 1, 0, 0)), (150, (.iload_n 1, 1, 0, 0)), (151, (.invokevirtual 271, 1720, 187, 3)), (154, (.return_, 1, 0, 0))]
noncomputable def po_194 : List (Nat × mOp) := [(0, (.aload_n 0, 1, 0, 0)), (1, (.iconst 0, 1, 0, 0)), (2, (.putfield 3, 1431, 12, 0)), (5, (.aload_n 0, 1, 0, 0)), (6, (.iload_n 1, 1, 0, 0)), (7, (.ifCond .lt 22, 3, 0, 0)), (10, (.iload_n 1, 1, 0, 0)), (11, (.aload_n 0, 1, 0, 0)), (12, (.getfield 113, 1433, 12, 4)), (15, (.if_icmp .gt 14, 3, 0, 0)), (18, (.iload_n 1, 1, 0, 0)), (19, (.sipush 150, 3, 0, 0)), (22, (.if_icmp .gt 7, 3, 0, 0)), (25, (.iconst 1, 1, 0, 0)), (26, (.goto 4, 3, 0, 0)), (29, (.iconst 0, 1, 0, 0)), (30, (.iconst 1, 1, 0, 0)), (31, (.iconst 1, 1, 0, 0)), (32, (.invokevirtual 232, 1624, 161, 4)), (35, (.ifCond .ne 5, 3, 0, 0)), (38, (.iconst 0, 1, 0, 0)), (39, (.ireturn, 1, 0, 0)), (40, (.aload_n 0, 1, 0, 0)), (41, (.iload_n 1, 1, 0, 0)), (42, (.invokevirtual 236, 1628, 176, 2)), (45, (.aload_n 0, 1, 0, 0)), (46, (.iconst 0, 1, 0, 0)), (47, (.putfield 265, 1465, 12, 68)), (50, (.aload_n 0, 1, 0, 0)), (51, (.invokevirtual 280, 1704, 189, 1)), (54, (.aload_n 0, 1, 0, 0)), (55, (.invokevirtual 145, 1632, 165, 1)), (58, (.ifCond .eq 19, 3, 0, 0)), (61, (.aload_n 0, 1, 0, 0)), (62, (.invokevirtual 240, 1636, 175, 1)), (65, (.ifCond .eq 12, 3, 0, 0)), (68, (.aload_n 0, 1, 0, 0)), (69, (.iconst 1, 1, 0, 0)), (70, (.aload_n 0, 1, 0, 0)), (71, (.getfield 122, 1435, 12, 8)), (74, (.invokevirtual 152, 1665, 166, 3)), (77, (.aload_n 0, 1, 0, 0)), (78, (.iconst 1, 1, 0, 0)), (79, (.invokevirtual 261, 1696, 177, 2)), (82, (.istore_n 2, 1, 0, 0)), (83, (.aload_n 0, 1, 0, 0)), (84, (.getfield 116, 1436, 12, 10)), (87, (.iconst (-1), 1, 0, 0)), (88, (.if_icmp .eq 5, 3, 0, 0)), (91, (.iload_n 2, 1, 0, 0)), (92, (.ireturn, 1, 0, 0)), (93, (.aload_n 0, 1, 0, 0)), (94, (.aload_n 0, 1, 0, 0)), (95, (.getfield 265, 1465, 12, 68)), (98, (.putfield 196, 1466, 12, 70)), (101, (.aload_n 0, 1, 0, 0)), (102, (.aload_n 0, 1, 0, 0)), (103, (.getfield 47, 1460, 12, 59)), (106, (.aload_n 0, 1, 0, 0)), (107, (.getfield 53, 1462, 12, 63)), (110, (.aload_n 0, 1, 0, 0)), (111, (.getfield 265, 1465, 12, 68)), (114, (.invokevirtual 192, 1427, 179, 4)), (117, (.aload_n 0, 1, 0, 0)), (118, (.aload_n 0, 1, 0, 0)), (119, (.getfield 50, 1461, 12, 61)), (122, (.aload_n 0, 1, 0, 0)), (123, (.getfield 56, 1463, 12, 65)), (126, (.aload_n 0, 1, 0, 0)), (127, (.getfield 265, 1465, 12, 68)), (130, (.invokevirtual 192, 1427, 179, 4)), (133, (.iload_n 2, 1, 0, 0)), (134, (.ireturn, 1, 0, 0))]
noncomputable def po_195 : List (Nat × mOp) := [(0, (.iconst 0, 1, 0, 0)), (1, (.istore_n 1, 1, 0, 0)), (2, (.iconst 0, 1, 0, 0)), (3, (.istore_n 2, 1, 0, 0)), (4, (.iload_n 2, 1, 0, 0)), (5, (.aload_n 0, 1, 0, 0)), (6, (.getfield 196, 1466, 12, 70)), (9, (.if_icmp .ge 86, 3, 0, 0)), (12, (.aload_n 0, 1, 0, 0)), (13, (.getfield 53, 1462, 12, 63)), (16, (.iload_n 2, 1, 0, 0)), (17, (.iaload, 1, 0, 0)), (18, (.istore_n 3, 1, 0, 0)), (19, (.iload_n 3, 1, 0, 0)), (20, (.iconst 1, 1, 0, 0)), (21, (.if_icmp .gt 39, 3, 0, 0)), (24, (.aload_n 0, 1, 0, 0)), (25, (.getfield 59, 1464, 12, 67)), (28, (.iload_n 1, 1, 0, 0)), (29, (.iload_n 3, 1, 0, 0)), (30, (.ifCond .ne 12, 3, 0, 0)), (33, (.aload_n 0, 1, 0, 0)), (34, (.getfield 56, 1463, 12, 65)), (37, (.iload_n 2, 1, 0, 0)), (38, (.iaload, 1, 0, 0)), (39, (.goto 14, 3, 0, 0)), (42, (.aload_n 0, 1, 0, 0)), (43, (.getfield 62, 1467, 12, 73)), (46, (.aload_n 0, 1, 0, 0)), (47, (.getfield 56, 1463, 12, 65)), (50, (.iload_n 2, 1, 0, 0)), (51, (.iaload, 1, 0, 0)), (52, (.iaload, 1, 0, 0)), (53, (.iastore, 1, 0, 0)), (54, (.iinc 1 1, 3, 0, 0)), (57, (.goto 32, 3, 0, 0)), (60, (.iinc 1 (-1), 3, 0, 0)), (63, (.aload_n 0, 1, 0, 0)), (64, (.getfield 59, 1464, 12, 67)), (67, (.iload_n 1, 1, 0, 0)), (68, (.iconst 1, 1, 0, 0)), (69, (.isub, 1, 0, 0)), (70, (.iload_n 3, 1, 0, 0)), (71, (.aload_n 0, 1, 0, 0)), (72, (.getfield 59, 1464, 12, 67)), (75, (.iload_n 1, 1, 0, 0)), (76, (.iconst 1, 1, 0, 0)), (77, (.isub, 1, 0, 0)), (78, (.iaload, 1, 0, 0)), (79, (.aload_n 0, 1, 0, 0)), (80, (.getfield 59, 1464, 12, 67)), (83, (.iload_n 1, 1, 0, 0)), (84, (.iaload, 1, 0, 0)), (85, (.invokestatic 304, 1806, 196, 3)), (88, (.iastore, 1, 0, 0)), (89, (.iinc 2 1, 3, 0, 0)), (92, (.goto (-88), 3, 0, 0)), (95, (.aload_n 0, 1, 0, 0)), (96, (.getfield 59, 1464, 12, 67)), (99, (.iconst 0, 1, 0, 0)), (100, (.iaload, 1, 0, 0)), (101, (.ireturn, 1, 0, 0))]
noncomputable def po_196 : List (Nat × mOp) := [(0, (.iload_n 0, 1, 0, 0)), (1, (.iconst 2, 1, 0, 0)), (2, (.if_icmp .ne 7, 3, 0, 0)), (5, (.iload_n 1, 1, 0, 0)), (6, (.iload_n 2, 1, 0, 0)), (7, (.iadd, 1, 0, 0)), (8, (.ireturn, 1, 0, 0)), (9, (.iload_n 0, 1, 0, 0)), (10, (.iconst 3, 1, 0, 0)), (11, (.if_icmp .ne 7, 3, 0, 0)), (14, (.iload_n 1, 1, 0, 0)), (15, (.iload_n 2, 1, 0, 0)), (16, (.isub, 1, 0, 0)), (17, (.ireturn, 1, 0, 0)), (18, (.iload_n 0, 1, 0, 0)), (19, (.iconst 4, 1, 0, 0)), (20, (.if_icmp .ne 7, 3, 0, 0)), (23, (.iload_n 1, 1, 0, 0)), (24, (.iload_n 2, 1, 0, 0)), (25, (.imul, 1, 0, 0)), (26, (.ireturn, 1, 0, 0)), (27, (.iload_n 0, 1, 0, 0)), (28, (.iconst 5, 1, 0, 0)), (29, (.if_icmp .eq 9, 3, 0, 0)), (32, (.iload_n 0, 1, 0, 0)), (33, (.bipush 8, 2, 0, 0)), (35, (.if_icmp .ne 26, 3, 0, 0)), (38, (.iload_n 2, 1, 0, 0)), (39, (.ifCond .ne 7, 3, 0, 0)), (42, (.iconst 0, 1, 0, 0)), (43, (.goto 17, 3, 0, 0)), (46, (.iload_n 0, 1, 0, 0)), (47, (.iconst 5, 1, 0, 0)), (48, (.if_icmp .ne 9, 3, 0, 0)), (51, (.iload_n 1, 1, 0, 0)), (52, (.iload_n 2, 1, 0, 0)), (53, (.idiv, 1, 0, 0)), (54, (.goto 6, 3, 0, 0)), (57, (.iload_n 1, 1, 0, 0)), (58, (.iload_n 2, 1, 0, 0)), (59, (.irem, 1, 0, 0)), (60, (.ireturn, 1, 0, 0)), (61, (.iload_n 1, 1, 0, 0)), (62, (.iload_n 2, 1, 0, 0)), (63, (.if_icmp .ge 7, 3, 0, 0)), (66, (.iconst 1, 1, 0, 0)), (67, (.goto 4, 3, 0, 0)), (70, (.iconst 0, 1, 0, 0)), (71, (.iload_n 0, 1, 0, 0)), (72, (.bipush 6, 2, 0, 0)), (74, (.if_icmp .ne 7, 3, 0, 0)), (77, (.iconst 1, 1, 0, 0)), (78, (.goto 4, 3, 0, 0)), (81, (.iconst 0, 1, 0, 0)), (82, (.if_icmp .ne 7, 3, 0, 0)), (85, (.iload_n 1, 1, 0, 0)), (86, (.goto 4, 3, 0, 0)), (89, (.iload_n 2, 1, 0, 0)), (90, (.ireturn, 1, 0, 0))]
noncomputable def po_197 : List (Nat × mOp) := [(0, (.aload_n 0, 1, 0, 0)), (1, (.getfield 196, 1466, 12, 70)), (4, (.ifCond .ne 25, 3, 0, 0)), (7, (.iconst 3, 1, 0, 0)), (8, (.aload_n 0, 1, 0, 0)), (9, (.getfield 62, 1467, 12, 73)), (12, (.iconst 0, 1, 0, 0)), (13, (.iaload, 1, 0, 0)), (14, (.iconst 2, 1, 0, 0)), (15, (.idiv, 1, 0, 0)), (16, (.iadd, 1, 0, 0)), (17, (.aload_n 0, 1, 0, 0)), (18, (.getfield 62, 1467, 12, 73)), (21, (.iconst 1, 1, 0, 0)), (22, (.iaload, 1, 0, 0)), (23, (.iconst 3, 1, 0, 0)), (24, (.idiv, 1, 0, 0)), (25, (.isub, 1, 0, 0)), (26, (.goto 7, 3, 0, 0)), (29, (.aload_n 0, 1, 0, 0)), (30, (.invokevirtual 308, 1802, 195, 1)), (33, (.istore_n 1, 1, 0, 0)), (34, (.iload_n 1, 1, 0, 0)), (35, (.ifCond .ge 7, 3, 0, 0)), (38, (.iconst 0, 1, 0, 0)), (39, (.goto 15, 3, 0, 0)), (42, (.iload_n 1, 1, 0, 0)), (43, (.bipush 20, 2, 0, 0)), (45, (.if_icmp .le 8, 3, 0, 0)), (48, (.bipush 20, 2, 0, 0)), (50, (.goto 4, 3, 0, 0)), (53, (.iload_n 1, 1, 0, 0)), (54, (.ireturn, 1, 0, 0))]
noncomputable def po_198 : List (Nat × mOp) := [(0, (.aload_n 0, 1, 0, 0)), (1, (.invokevirtual 145, 1632, 165, 1)), (4, (.ifCond .ne 4, 3, 0, 0)), (7, (.return_, 1, 0, 0)), (8, (.aload_n 0, 1, 0, 0)), (9, (.getfield 65, 1468, 12, 75)), (12, (.aload_n 0, 1, 0, 0)), (13, (.getfield 311, 1470, 12, 78)), (16, (.iload_n 1, 1, 0, 0)), (17, (.iastore, 1, 0, 0)), (18, (.aload_n 0, 1, 0, 0)), (19, (.getfield 65, 1468, 12, 75)), (22, (.aload_n 0, 1, 0, 0)), (23, (.getfield 311, 1470, 12, 78)), (26, (.iconst 1, 1, 0, 0)), (27, (.iadd, 1, 0, 0)), (28, (.iload_n 2, 1, 0, 0)), (29, (.iastore, 1, 0, 0)), (30, (.aload_n 0, 1, 0, 0)), (31, (.getfield 65, 1468, 12, 75)), (34, (.aload_n 0, 1, 0, 0)), (35, (.getfield 311, 1470, 12, 78)), (38, (.iconst 2, 1, 0, 0)), (39, (.iadd, 1, 0, 0)), (40, (.iload_n 3, 1, 0, 0)), (41, (.iastore, 1, 0, 0)), (42, (.aload_n 0, 1, 0, 0)), (43, (.getfield 65, 1468, 12, 75)), (46, (.aload_n 0, 1, 0, 0)), (47, (.getfield 311, 1470, 12, 78)), (50, (.iconst 3, 1, 0, 0)), (51, (.iadd, 1, 0, 0)), (52, (.iload 4, 2, 0, 0)), (54, (.iastore, 1, 0, 0)), (55, (.aload_n 0, 1, 0, 0)), (56, (.dup, 1, 0, 0)), (57, (.getfield 311, 1470, 12, 78)), (60, (.iconst 4, 1, 0, 0)), (61, (.iadd, 1, 0, 0)), (62, (.putfield 311, 1470, 12, 78)), (65, (.return_, 1, 0, 0))]
noncomputable def po_199 : List (Nat × mOp) := [(0, (.aload_n 0, 1, 0, 0)), (1, (.iconst 0, 1, 0, 0)), (2, (.aload_n 0, 1, 0, 0)), (3, (.getfield 177, 1455, 12, 48)), (6, (.iconst 1, 1, 0, 0)), (7, (.isub, 1, 0, 0)), (8, (.invokevirtual 225, 1681, 173, 3)), (11, (.ireturn, 1, 0, 0))]
noncomputable def po_200 : List (Nat × mOp) := [(0, (.aload_n 0, 1, 0, 0)), (1, (.iconst 0, 1, 0, 0)), (2, (.aload_n 0, 1, 0, 0)), (3, (.getfield 183, 1457, 12, 52)), (6, (.iconst 1, 1, 0, 0)), (7, (.isub, 1, 0, 0)), (8, (.invokevirtual 225, 1681, 173, 3)), (11, (.ireturn, 1, 0, 0))]
noncomputable def po_201 : List (Nat × mOp) := [(0, (.aload_n 0, 1, 0, 0)), (1, (.invokevirtual 243, 1644, 170, 1)), (4, (.istore_n 1, 1, 0, 0)), (5, (.iload_n 1, 1, 0, 0)), (6, (.ldc_w 314, 3, 37, 1)), (9, (.invokestatic 213, 1655, 171, 1)), (12, (.if_icmp .ne 38, 3, 0, 0)), (15, (.aload_n 0, 1, 0, 0)), (16, (.invokevirtual 252, 1673, 172, 1)), (19, (.aload_n 0, 1, 0, 0)), (20, (.iconst 0, 1, 0, 0)), (21, (.aload_n 0, 1, 0, 0)), (22, (.getfield 180, 1456, 12, 50)), (25, (.iconst 1, 1, 0, 0)), (26, (.isub, 1, 0, 0)), (27, (.invokevirtual 225, 1681, 173, 3)), (30, (.istore_n 2, 1, 0, 0)), (31, (.aload_n 0, 1, 0, 0)), (32, (.invokevirtual 316, 1749, 199, 1)), (35, (.istore_n 3, 1, 0, 0)), (36, (.aload_n 0, 1, 0, 0)), (37, (.iconst 0, 1, 0, 0)), (38, (.iload_n 2, 1, 0, 0)), (39, (.iload_n 3, 1, 0, 0)), (40, (.aload_n 0, 1, 0, 0)), (41, (.invokevirtual 319, 1753, 200, 1)), (44, (.invokevirtual 322, 1757, 198, 5)), (47, (.goto 261, 3, 0, 0)), (50, (.iload_n 1, 1, 0, 0)), (51, (.ldc_w 326, 3, 38, 1)), (54, (.invokestatic 213, 1655, 171, 1)), (57, (.if_icmp .ne 26, 3, 0, 0)), (60, (.aload_n 0, 1, 0, 0)), (61, (.invokevirtual 252, 1673, 172, 1)), (64, (.aload_n 0, 1, 0, 0)), (65, (.invokevirtual 316, 1749, 199, 1)), (68, (.istore_n 2, 1, 0, 0)), (69, (.aload_n 0, 1, 0, 0)), (70, (.iconst 1, 1, 0, 0)), (71, (.iload_n 2, 1, 0, 0)), (72, (.aload_n 0, 1, 0, 0)), (73, (.invokevirtual 319, 1753, 200, 1)), (76, (.iconst 0, 1, 0, 0)), (77, (.invokevirtual 322, 1757, 198, 5)), (80, (.goto 228, 3, 0, 0)), (83, (.iload_n 1, 1, 0, 0)), (84, (.ldc_w 328, 3, 39, 1)), (87, (.invokestatic 213, 1655, 171, 1)), (90, (.if_icmp .ne 21, 3, 0, 0)), (93, (.aload_n 0, 1, 0, 0)), (94, (.invokevirtual 252, 1673, 172, 1)), (97, (.aload_n 0, 1, 0, 0)), (98, (.iconst 2, 1, 0, 0)), (99, (.aload_n 0, 1, 0, 0)), (100, (.invokevirtual 316, 1749, 199, 1)), (103, (.iconst 0, 1, 0, 0)), (104, (.iconst 0, 1, 0, 0)), (105, (.invokevirtual 322, 1757, 198, 5)), (108, (.goto 200, 3, 0, 0)), (111, (.iload_n 1, 1, 0, 0)), (112, (.ldc_w 330, 3, 40, 1)), (115, (.invokestatic 213, 1655, 171, 1)), (118, (.if_icmp .ne 21, 3, 0, 0)), (121, (.aload_n 0, 1, 0, 0)), (122, (.invokevirtual 252, 1673, 172, 1)), (125, (.aload_n 0, 1, 0, 0)), (126, (.iconst 3, 1, 0, 0)), (127, (.aload_n 0, 1, 0, 0)), (128, (.invokevirtual 319, 1753, 200, 1)), (131, (.iconst 0, 1, 0, 0)), (132, (.iconst 0, 1, 0, 0)), (133, (.invokevirtual 322, 1757, 198, 5)), (136, (.goto 172, 3, 0, 0)), (139, (.iload_n 1, 1, 0, 0)), (140, (.ldc_w 332, 3, 41, 1)), (143, (.invokestatic 213, 1655, 171, 1)), (146, (.if_icmp .ne 24, 3, 0, 0)), (149, (.aload_n 0, 1, 0, 0)), (150, (.invokevirtual 252, 1673, 172, 1)), (153, (.aload_n 0, 1, 0, 0)), (154, (.iconst 4, 1, 0, 0)), (155, (.aload_n 0, 1, 0, 0)), (156, (.iconst 1, 1, 0, 0)), (157, (.bipush 40, 2, 0, 0)), (159, (.invokevirtual 225, 1681, 173, 3)), (162, (.iconst 0, 1, 0, 0)), (163, (.iconst 0, 1, 0, 0)), (164, (.invokevirtual 322, 1757, 198, 5)), (167, (.goto 141, 3, 0, 0)), (170, (.iload_n 1, 1, 0, 0)), (171, (.ldc_w 292, 3, 36, 1)), (174, (.invokestatic 213, 1655, 171, 1)), (177, (.if_icmp .ne 18, 3, 0, 0)), (180, (.aload_n 0, 1, 0, 0)), (181, (.invokevirtual 252, 1673, 172, 1)), (184, (.aload_n 0, 1, 0, 0)), (185, (.iconst 5, 1, 0, 0)), (186, (.iconst 0, 1, 0, 0)), (187, (.iconst 0, 1, 0, 0)), (188, (.iconst 0, 1, 0, 0)), (189, (.invokevirtual 322, 1757, 198, 5)), (192, (.goto 116, 3, 0, 0)), (195, (.iload_n 1, 1, 0, 0)), (196, (.ldc_w 334, 3, 42, 1)), (199, (.invokestatic 213, 1655, 171, 1)), (202, (.if_icmp .ne 97, 3, 0, 0)), (205, (.aload_n 0, 1, 0, 0)), (206, (.iconst 5, 1, 0, 0)), (207, (.invokevirtual 277, 1716, 188, 2)), (210, (.aload_n 0, 1, 0, 0)), (211, (.iconst 0, 1, 0, 0)), (212, (.bipush 30, 2, 0, 0)), (214, (.invokevirtual 225, 1681, 173, 3)), (217, (.istore_n 2, 1, 0, 0)), (218, (.aload_n 0, 1, 0, 0)), (219, (.bipush 91, 2, 0, 0)), (221, (.invokevirtual 258, 1692, 174, 2)), (224, (.aload_n 0, 1, 0, 0)), (225, (.getfield 311, 1470, 12, 78)), (228, (.istore_n 3, 1, 0, 0)), (229, (.aload_n 0, 1, 0, 0)), (230, (.bipush 6, 2, 0, 0)), (232, (.iload_n 2, 1, 0, 0)), (233, (.iconst 0, 1, 0, 0)), (234, (.iconst 0, 1, 0, 0)), (235, (.invokevirtual 322, 1757, 198, 5)), (238, (.aload_n 0, 1, 0, 0)), (239, (.invokevirtual 145, 1632, 165, 1)), (242, (.ifCond .eq 19, 3, 0, 0)), (245, (.aload_n 0, 1, 0, 0)), (246, (.invokevirtual 128, 1640, 167, 1)), (249, (.bipush 93, 2, 0, 0)), (251, (.if_icmp .eq 10, 3, 0, 0)), (254, (.aload_n 0, 1, 0, 0)), (255, (.invokevirtual 336, 1744, 201, 1)), (258, (.goto (-20), 3, 0, 0)), (261, (.aload_n 0, 1, 0, 0)), (262, (.bipush 93, 2, 0, 0)), (264, (.invokevirtual 258, 1692, 174, 2)), (267, (.aload_n 0, 1, 0, 0)), (268, (.dup, 1, 0, 0)), (269, (.getfield 156, 1438, 12, 14)), (272, (.iconst 1, 1, 0, 0)), (273, (.isub, 1, 0, 0)), (274, (.putfield 156, 1438, 12, 14)), (277, (.aload_n 0, 1, 0, 0)), (278, (.invokevirtual 145, 1632, 165, 1)), (281, (.ifCond .eq 15, 3, 0, 0)), (284, (.aload_n 0, 1, 0, 0)), (285, (.getfield 65, 1468, 12, 75)), (288, (.iload_n 3, 1, 0, 0)), (289, (.iconst 2, 1, 0, 0)), (290, (.iadd, 1, 0, 0)), (291, (.aload_n 0, 1, 0, 0)), (292, (.getfield 311, 1470, 12, 78)), (295, (.iastore, 1, 0, 0)), (296, (.goto 12, 3, 0, 0)), (299, (.aload_n 0, 1, 0, 0)), (300, (.iconst 1, 1, 0, 0)), (301, (.aload_n 0, 1, 0, 0)), (302, (.getfield 122, 1435, 12, 8)), (305, (.invokevirtual 152, 1665, 166, 3)), (308, (.aload_n 0, 1, 0, 0)), (309, (.bipush 59, 2, 0, 0)), (311, (.invokevirtual 258, 1692, 174, 2)), (314, (.return_, 1, 0, 0))]
noncomputable def po_202 : List (Nat × mOp) := [(0, (.aload_n 0, 1, 0, 0)), (1, (.iconst 0, 1, 0, 0)), (2, (.putfield 3, 1431, 12, 0)), (5, (.aload_n 0, 1, 0, 0)), (6, (.iload_n 1, 1, 0, 0)), (7, (.ifCond .lt 22, 3, 0, 0)), (10, (.iload_n 1, 1, 0, 0)), (11, (.aload_n 0, 1, 0, 0)), (12, (.getfield 113, 1433, 12, 4)), (15, (.if_icmp .gt 14, 3, 0, 0)), (18, (.iload_n 1, 1, 0, 0)), (19, (.sipush 150, 3, 0, 0)), (22, (.if_icmp .gt 7, 3, 0, 0)), (25, (.iconst 1, 1, 0, 0)), (26, (.goto 4, 3, 0, 0)), (29, (.iconst 0, 1, 0, 0)), (30, (.iconst 1, 1, 0, 0)), (31, (.iconst 1, 1, 0, 0)), (32, (.invokevirtual 232, 1624, 161, 4)), (35, (.ifCond .ne 5, 3, 0, 0)), (38, (.iconst 0, 1, 0, 0)), (39, (.ireturn, 1, 0, 0)), (40, (.aload_n 0, 1, 0, 0)), (41, (.iload_n 1, 1, 0, 0)), (42, (.invokevirtual 236, 1628, 176, 2)), (45, (.aload_n 0, 1, 0, 0)), (46, (.getfield 202, 1471, 12, 80)), (49, (.bipush 16, 2, 0, 0)), (51, (.if_icmp .ne 12, 3, 0, 0)), (54, (.aload_n 0, 1, 0, 0)), (55, (.iconst 0, 1, 0, 0)), (56, (.invokevirtual 261, 1696, 177, 2)), (59, (.pop, 1, 0, 0)), (60, (.bipush (-20), 2, 0, 0)), (62, (.ireturn, 1, 0, 0)), (63, (.aload_n 0, 1, 0, 0)), (64, (.iconst 0, 1, 0, 0)), (65, (.putfield 311, 1470, 12, 78)), (68, (.aload_n 0, 1, 0, 0)), (69, (.invokevirtual 145, 1632, 165, 1)), (72, (.ifCond .eq 17, 3, 0, 0)), (75, (.aload_n 0, 1, 0, 0)), (76, (.invokevirtual 240, 1636, 175, 1)), (79, (.ifCond .eq 10, 3, 0, 0)), (82, (.aload_n 0, 1, 0, 0)), (83, (.invokevirtual 336, 1744, 201, 1)), (86, (.goto (-18), 3, 0, 0)), (89, (.aload_n 0, 1, 0, 0)), (90, (.iconst 0, 1, 0, 0)), (91, (.invokevirtual 261, 1696, 177, 2)), (94, (.istore_n 2, 1, 0, 0)), (95, (.aload_n 0, 1, 0, 0)), (96, (.getfield 116, 1436, 12, 10)), (99, (.iconst (-1), 1, 0, 0)), (100, (.if_icmp .eq 5, 3, 0, 0)), (103, (.iload_n 2, 1, 0, 0)), (104, (.ireturn, 1, 0, 0)), (105, (.aload_n 0, 1, 0, 0)), (106, (.aload_n 0, 1, 0, 0)), (107, (.getfield 65, 1468, 12, 75)), (110, (.aload_n 0, 1, 0, 0)), (111, (.getfield 68, 1469, 12, 77)), (114, (.aload_n 0, 1, 0, 0)), (115, (.getfield 311, 1470, 12, 78)), (118, (.invokevirtual 192, 1427, 179, 4)), (121, (.iconst 0, 1, 0, 0)), (122, (.istore_n 3, 1, 0, 0)), (123, (.iload_n 3, 1, 0, 0)), (124, (.bipush 50, 2, 0, 0)), (126, (.if_icmp .ge 29, 3, 0, 0)), (129, (.aload_n 0, 1, 0, 0)), (130, (.getfield 77, 1478, 12, 95)), (133, (.bipush 50, 2, 0, 0)), (135, (.aload_n 0, 1, 0, 0)), (136, (.getfield 202, 1471, 12, 80)), (139, (.imul, 1, 0, 0)), (140, (.iload_n 3, 1, 0, 0)), (141, (.iadd, 1, 0, 0)), (142, (.aload_n 0, 1, 0, 0)), (143, (.getfield 71, 1476, 12, 91)), (146, (.iload_n 3, 1, 0, 0)), (147, (.iaload, 1, 0, 0)), (148, (.iastore, 1, 0, 0)), (149, (.iinc 3 1, 3, 0, 0)), (152, (.goto (-29), 3, 0, 0)), (155, (.aload_n 0, 1, 0, 0)), (156, (.dup, 1, 0, 0)), (157, (.getfield 202, 1471, 12, 80)), (160, (.iconst 1, 1, 0, 0)), (161, (.iadd, 1, 0, 0)), (162, (.putfield 202, 1471, 12, 80)), (165, (.aload_n 0, 1, 0, 0)), (166, (.invokevirtual 339, 1766, 204, 1)), (169, (.aload_n 0, 1, 0, 0)), (170, (.iconst 0, 1, 0, 0)), (171, (.putfield 342, 1473, 12, 84)), (174, (.aload_n 0, 1, 0, 0)), (175, (.iconst 0, 1, 0, 0)), (176, (.putfield 345, 1474, 12, 86)), (179, (.aload_n 0, 1, 0, 0)), (180, (.iconst 0, 1, 0, 0)), (181, (.putfield 348, 1475, 12, 88)), (184, (.aload_n 0, 1, 0, 0)), (185, (.iconst 0, 1, 0, 0)), (186, (.aload_n 0, 1, 0, 0)), (187, (.getfield 311, 1470, 12, 78)), (190, (.invokevirtual 351, 1770, 203, 3)), (193, (.aload_n 0, 1, 0, 0)), (194, (.aload_n 0, 1, 0, 0)), (195, (.getfield 74, 1477, 12, 93)), (198, (.aload_n 0, 1, 0, 0)), (199, (.getfield 71, 1476, 12, 91)), (202, (.bipush 50, 2, 0, 0)), (204, (.invokevirtual 192, 1427, 179, 4)), (207, (.aload_n 0, 1, 0, 0)), (208, (.aload_n 0, 1, 0, 0)), (209, (.getfield 348, 1475, 12, 88)), (212, (.putfield 208, 1472, 12, 82)), (215, (.aload_n 0, 1, 0, 0)), (216, (.getfield 345, 1474, 12, 86)), (219, (.ireturn, 1, 0, 0))]
noncomputable def po_203 : List (Nat × mOp) := [(0, (.iload_n 1, 1, 0, 0)), (1, (.istore_n 3, 1, 0, 0)), (2, (.iload_n 3, 1, 0, 0)), (3, (.iload_n 2, 1, 0, 0)), (4, (.if_icmp .ge 157, 3, 0, 0)), (7, (.aload_n 0, 1, 0, 0)), (8, (.getfield 342, 1473, 12, 84)), (11, (.sipush 200, 3, 0, 0)), (14, (.if_icmp .ge 147, 3, 0, 0)), (17, (.aload_n 0, 1, 0, 0)), (18, (.dup, 1, 0, 0)), (19, (.getfield 342, 1473, 12, 84)), (22, (.iconst 1, 1, 0, 0)), (23, (.iadd, 1, 0, 0)), (24, (.putfield 342, 1473, 12, 84)), (27, (.aload_n 0, 1, 0, 0)), (28, (.getfield 68, 1469, 12, 77)), (31, (.iload_n 3, 1, 0, 0)), (32, (.iaload, 1, 0, 0)), (33, (.bipush 6, 2, 0, 0)), (35, (.if_icmp .ne 60, 3, 0, 0)), (38, (.aload_n 0, 1, 0, 0)), (39, (.getfield 68, 1469, 12, 77)), (42, (.iload_n 3, 1, 0, 0)), (43, (.iconst 2, 1, 0, 0)), (44, (.iadd, 1, 0, 0)), (45, (.iaload, 1, 0, 0)), (46, (.istore 4, 2, 0, 0)), (48, (.iconst 0, 1, 0, 0)), (49, (.istore 5, 2, 0, 0)), (51, (.iload 5, 2, 0, 0)), (53, (.aload_n 0, 1, 0, 0)), (54, (.getfield 68, 1469, 12, 77)), (57, (.iload_n 3, 1, 0, 0)), (58, (.iconst 1, 1, 0, 0)), (59, (.iadd, 1, 0, 0)), (60, (.iaload, 1, 0, 0)), (61, (.if_icmp .ge 28, 3, 0, 0)), (64, (.aload_n 0, 1, 0, 0)), (65, (.getfield 342, 1473, 12, 84)), (68, (.sipush 200, 3, 0, 0)), (71, (.if_icmp .ge 18, 3, 0, 0)), (74, (.aload_n 0, 1, 0, 0)), (75, (.iload_n 3, 1, 0, 0)), (76, (.iconst 4, 1, 0, 0)), (77, (.iadd, 1, 0, 0)), (78, (.iload 4, 2, 0, 0)), (80, (.invokevirtual 351, 1770, 203, 3)), (83, (.iinc 5 1, 3, 0, 0)), (86, (.goto (-35), 3, 0, 0)), (89, (.iload 4, 2, 0, 0)), (91, (.istore_n 3, 1, 0, 0)), (92, (.goto (-90), 3, 0, 0)), (95, (.aload_n 0, 1, 0, 0)), (96, (.aload_n 0, 1, 0, 0)), (97, (.getfield 68, 1469, 12, 77)), (100, (.iload_n 3, 1, 0, 0)), (101, (.iaload, 1, 0, 0)), (102, (.aload_n 0, 1, 0, 0)), (103, (.getfield 68, 1469, 12, 77)), (106, (.iload_n 3, 1, 0, 0)), (107, (.iconst 1, 1, 0, 0)), (108, (.iadd, 1, 0, 0)), (109, (.iaload, 1, 0, 0)), (110, (.aload_n 0, 1, 0, 0)), (111, (.getfield 68, 1469, 12, 77)), (114, (.iload_n 3, 1, 0, 0)), (115, (.iconst 2, 1, 0, 0)), (116, (.iadd, 1, 0, 0)), (117, (.iaload, 1, 0, 0)), (118, (.aload_n 0, 1, 0, 0)), (119, (.getfield 68, 1469, 12, 77)), (122, (.iload_n 3, 1, 0, 0)), (123, (.iconst 3, 1, 0, 0)), (124, (.iadd, 1, 0, 0)), (125, (.iaload, 1, 0, 0)), (126, (.invokevirtual 354, 1774, 217, 5)), (129, (.ifCond .eq 16, 3, 0, 0)), (132, (.aload_n 0, 1, 0, 0)), (133, (.dup, 1, 0, 0)), (134, (.getfield 345, 1474, 12, 86)), (137, (.iconst 1, 1, 0, 0)), (138, (.iadd, 1, 0, 0)), (139, (.putfield 345, 1474, 12, 86)), (142, (.goto 13, 3, 0, 0)), (145, (.aload_n 0, 1, 0, 0)), (146, (.dup, 1, 0, 0)), (147, (.getfield 348, 1475, 12, 88)), (150, (.iconst 1, 1, 0, 0)), (151, (.iadd, 1, 0, 0)), (152, (.putfield 348, 1475, 12, 88)), (155, (.iinc 3 4, 3, 0, 0)), (158, (.goto (-156), 3, 0, 0)), (161, (.return_, 1, 0, 0))]
noncomputable def po_204 : List (Nat × mOp) := [(0, (.aload_n 0, 1, 0, 0)), (1, (.aload_n 0, 1, 0, 0)), (2, (.getfield 71, 1476, 12, 91)), (5, (.aload_n 0, 1, 0, 0)), (6, (.getfield 74, 1477, 12, 93)), (9, (.bipush 50, 2, 0, 0)), (11, (.invokevirtual 192, 1427, 179, 4)), (14, (.return_, 1, 0, 0))]
noncomputable def po_205 : List (Nat × mOp) := [(0, (.iconst 0, 1, 0, 0)), (1, (.istore_n 2, 1, 0, 0)), (2, (.iconst 0, 1, 0, 0)), (3, (.istore_n 3, 1, 0, 0)), (4, (.iload_n 3, 1, 0, 0)), (5, (.aload_n 0, 1, 0, 0)), (6, (.getfield 186, 1458, 12, 54)), (9, (.if_icmp .ge 63, 3, 0, 0)), (12, (.aload_n 0, 1, 0, 0)), (13, (.getfield 44, 1448, 12, 35)), (16, (.iconst 2, 1, 0, 0)), (17, (.iload_n 3, 1, 0, 0)), (18, (.imul, 1, 0, 0)), (19, (.iaload, 1, 0, 0)), (20, (.iload_n 1, 1, 0, 0)), (21, (.if_icmp .ne 18, 3, 0, 0)), (24, (.iload_n 2, 1, 0, 0)), (25, (.iconst 1, 1, 0, 0)), (26, (.aload_n 0, 1, 0, 0)), (27, (.getfield 44, 1448, 12, 35)), (30, (.iconst 2, 1, 0, 0)), (31, (.iload_n 3, 1, 0, 0)), (32, (.imul, 1, 0, 0)), (33, (.iconst 1, 1, 0, 0)), (34, (.iadd, 1, 0, 0)), (35, (.iaload, 1, 0, 0)), (36, (.ishl, 1, 0, 0)), (37, (.ior, 1, 0, 0)), (38, (.istore_n 2, 1, 0, 0)), (39, (.aload_n 0, 1, 0, 0)), (40, (.getfield 44, 1448, 12, 35)), (43, (.iconst 2, 1, 0, 0)), (44, (.iload_n 3, 1, 0, 0)), (45, (.imul, 1, 0, 0)), (46, (.iconst 1, 1, 0, 0)), (47, (.iadd, 1, 0, 0)), (48, (.iaload, 1, 0, 0)), (49, (.iload_n 1, 1, 0, 0)), (50, (.if_icmp .ne 16, 3, 0, 0)), (53, (.iload_n 2, 1, 0, 0)), (54, (.iconst 1, 1, 0, 0)), (55, (.aload_n 0, 1, 0, 0)), (56, (.getfield 44, 1448, 12, 35)), (59, (.iconst 2, 1, 0, 0)), (60, (.iload_n 3, 1, 0, 0)), (61, (.imul, 1, 0, 0)), (62, (.iaload, 1, 0, 0)), (63, (.ishl, 1, 0, 0)), (64, (.ior, 1, 0, 0)), (65, (.istore_n 2, 1, 0, 0)), (66, (.iinc 3 1, 3, 0, 0)), (69, (.goto (-65), 3, 0, 0)), (72, (.iload_n 2, 1, 0, 0)), (73, (.ireturn, 1, 0, 0))]
noncomputable def po_206 : List (Nat × mOp) := [(0, (.aload_n 0, 1, 0, 0)), (1, (.getfield 62, 1467, 12, 73)), (4, (.iconst 0, 1, 0, 0)), (5, (.iload_n 1, 1, 0, 0)), (6, (.iastore, 1, 0, 0)), (7, (.aload_n 0, 1, 0, 0)), (8, (.getfield 62, 1467, 12, 73)), (11, (.iconst 1, 1, 0, 0)), (12, (.iload_n 2, 1, 0, 0)), (13, (.iastore, 1, 0, 0)), (14, (.aload_n 0, 1, 0, 0)), (15, (.getfield 62, 1467, 12, 73)), (18, (.iconst 2, 1, 0, 0)), (19, (.iload_n 3, 1, 0, 0)), (20, (.iastore, 1, 0, 0)), (21, (.aload_n 0, 1, 0, 0)), (22, (.getfield 62, 1467, 12, 73)), (25, (.iconst 3, 1, 0, 0)), (26, (.iload 4, 2, 0, 0)), (28, (.iastore, 1, 0, 0)), (29, (.aload_n 0, 1, 0, 0)), (30, (.getfield 62, 1467, 12, 73)), (33, (.iconst 4, 1, 0, 0)), (34, (.iload 5, 2, 0, 0)), (36, (.iastore, 1, 0, 0)), (37, (.aload_n 0, 1, 0, 0)), (38, (.getfield 62, 1467, 12, 73)), (41, (.iconst 5, 1, 0, 0)), (42, (.iload 6, 2, 0, 0)), (44, (.iastore, 1, 0, 0)), (45, (.aload_n 0, 1, 0, 0)), (46, (.getfield 62, 1467, 12, 73)), (49, (.bipush 6, 2, 0, 0)), (51, (.iload 7, 2, 0, 0)), (53, (.iastore, 1, 0, 0)), (54, (.aload_n 0, 1, 0, 0)), (55, (.getfield 62, 1467, 12, 73)), (58, (.bipush 7, 2, 0, 0)), (60, (.iload 8, 2, 0, 0)), (62, (.iastore, 1, 0, 0)), (63, (.aload_n 0, 1, 0, 0)), (64, (.invokevirtual 358, 1798, 197, 1)), (67, (.ireturn, 1, 0, 0))]
noncomputable def po_207 : List (Nat × mOp) := [(0, (.aload_n 0, 1, 0, 0)), (1, (.aload_n 0, 1, 0, 0)), (2, (.getfield 74, 1477, 12, 93)), (5, (.iconst 0, 1, 0, 0)), (6, (.iload_n 2, 1, 0, 0)), (7, (.iadd, 1, 0, 0)), (8, (.iaload, 1, 0, 0)), (9, (.aload_n 0, 1, 0, 0)), (10, (.getfield 38, 1446, 12, 31)), (13, (.iload_n 1, 1, 0, 0)), (14, (.iaload, 1, 0, 0)), (15, (.aload_n 0, 1, 0, 0)), (16, (.getfield 74, 1477, 12, 93)), (19, (.bipush 30, 2, 0, 0)), (21, (.iload_n 3, 1, 0, 0)), (22, (.iadd, 1, 0, 0)), (23, (.iaload, 1, 0, 0)), (24, (.aload_n 0, 1, 0, 0)), (25, (.getfield 74, 1477, 12, 93)), (28, (.bipush 39, 2, 0, 0)), (30, (.iload_n 3, 1, 0, 0)), (31, (.iadd, 1, 0, 0)), (32, (.iaload, 1, 0, 0)), (33, (.aload_n 0, 1, 0, 0)), (34, (.getfield 74, 1477, 12, 93)), (37, (.bipush 48, 2, 0, 0)), (39, (.iaload, 1, 0, 0)), (40, (.aload_n 0, 1, 0, 0)), (41, (.getfield 74, 1477, 12, 93)), (44, (.bipush 6, 2, 0, 0)), (46, (.iload_n 2, 1, 0, 0)), (47, (.iadd, 1, 0, 0)), (48, (.iaload, 1, 0, 0)), (49, (.aload_n 0, 1, 0, 0)), (50, (.getfield 74, 1477, 12, 93)), (53, (.bipush 49, 2, 0, 0)), (55, (.iaload, 1, 0, 0)), (56, (.iload_n 1, 1, 0, 0)), (57, (.invokevirtual 361, 1794, 206, 9)), (60, (.ireturn, 1, 0, 0))]
noncomputable def po_208 : List (Nat × mOp) := [(0, (.aload_n 0, 1, 0, 0)), (1, (.getfield 74, 1477, 12, 93)), (4, (.iconst 0, 1, 0, 0)), (5, (.iload_n 1, 1, 0, 0)), (6, (.iadd, 1, 0, 0)), (7, (.iaload, 1, 0, 0)), (8, (.aload_n 0, 1, 0, 0)), (9, (.getfield 35, 1445, 12, 29)), (12, (.iload_n 1, 1, 0, 0)), (13, (.iaload, 1, 0, 0)), (14, (.if_icmp .lt 7, 3, 0, 0)), (17, (.iconst 1, 1, 0, 0)), (18, (.goto 4, 3, 0, 0)), (21, (.iconst 0, 1, 0, 0)), (22, (.ireturn, 1, 0, 0))]
noncomputable def po_209 : List (Nat × mOp) := [(0, (.iconst 2, 1, 0, 0)), (1, (.aload_n 0, 1, 0, 0)), (2, (.getfield 74, 1477, 12, 93)), (5, (.bipush 6, 2, 0, 0)), (7, (.iload_n 1, 1, 0, 0)), (8, (.iadd, 1, 0, 0)), (9, (.iaload, 1, 0, 0)), (10, (.imul, 1, 0, 0)), (11, (.aload_n 0, 1, 0, 0)), (12, (.getfield 74, 1477, 12, 93)), (15, (.iconst 0, 1, 0, 0)), (16, (.iload_n 1, 1, 0, 0)), (17, (.iadd, 1, 0, 0)), (18, (.iaload, 1, 0, 0)), (19, (.if_icmp .le 7, 3, 0, 0)), (22, (.iconst 1, 1, 0, 0)), (23, (.goto 4, 3, 0, 0)), (26, (.iconst 0, 1, 0, 0)), (27, (.ireturn, 1, 0, 0))]
noncomputable def po_210 : List (Nat × mOp) := [(0, (.iload_n 0, 1, 0, 0)), (1, (.ifCond .ge 7, 3, 0, 0)), (4, (.iconst 0, 1, 0, 0)), (5, (.goto 15, 3, 0, 0)), (8, (.iload_n 0, 1, 0, 0)), (9, (.bipush 99, 2, 0, 0)), (11, (.if_icmp .le 8, 3, 0, 0)), (14, (.bipush 99, 2, 0, 0)), (16, (.goto 4, 3, 0, 0)), (19, (.iload_n 0, 1, 0, 0)), (20, (.ireturn, 1, 0, 0))]
noncomputable def po_211 : List (Nat × mOp) := [(0, (.aload_n 0, 1, 0, 0)), (1, (.getfield 74, 1477, 12, 93)), (4, (.bipush 48, 2, 0, 0)), (6, (.iaload, 1, 0, 0)), (7, (.ifCond .le 39, 3, 0, 0)), (10, (.aload_n 0, 1, 0, 0)), (11, (.iload_n 2, 1, 0, 0)), (12, (.invokevirtual 365, 1786, 208, 2)), (15, (.ifCond .ne 31, 3, 0, 0)), (18, (.aload_n 0, 1, 0, 0)), (19, (.getfield 74, 1477, 12, 93)), (22, (.bipush 18, 2, 0, 0)), (24, (.iload_n 1, 1, 0, 0)), (25, (.iadd, 1, 0, 0)), (26, (.iaload, 1, 0, 0)), (27, (.ifCond .ne 19, 3, 0, 0)), (30, (.aload_n 0, 1, 0, 0)), (31, (.getfield 74, 1477, 12, 93)), (34, (.bipush 30, 2, 0, 0)), (36, (.iload_n 3, 1, 0, 0)), (37, (.iadd, 1, 0, 0)), (38, (.iaload, 1, 0, 0)), (39, (.ifCond .le 7, 3, 0, 0)), (42, (.iconst 1, 1, 0, 0)), (43, (.goto 4, 3, 0, 0)), (46, (.iconst 0, 1, 0, 0)), (47, (.ireturn, 1, 0, 0))]
noncomputable def po_212 : List (Nat × mOp) := [(0, (.aload_n 0, 1, 0, 0)), (1, (.iload_n 1, 1, 0, 0)), (2, (.iload_n 2, 1, 0, 0)), (3, (.iload_n 3, 1, 0, 0)), (4, (.invokevirtual 368, 1782, 211, 4)), (7, (.ifCond .ne 5, 3, 0, 0)), (10, (.iconst 0, 1, 0, 0)), (11, (.ireturn, 1, 0, 0)), (12, (.aload_n 0, 1, 0, 0)), (13, (.iload_n 1, 1, 0, 0)), (14, (.iload_n 2, 1, 0, 0)), (15, (.iload_n 3, 1, 0, 0)), (16, (.invokevirtual 372, 1790, 207, 4)), (19, (.aload_n 0, 1, 0, 0)), (20, (.getfield 74, 1477, 12, 93)), (23, (.bipush 30, 2, 0, 0)), (25, (.iload_n 3, 1, 0, 0)), (26, (.iadd, 1, 0, 0)), (27, (.iaload, 1, 0, 0)), (28, (.isub, 1, 0, 0)), (29, (.istore 4, 2, 0, 0)), (31, (.aload_n 0, 1, 0, 0)), (32, (.getfield 74, 1477, 12, 93)), (35, (.bipush 30, 2, 0, 0)), (37, (.iload_n 3, 1, 0, 0)), (38, (.iadd, 1, 0, 0)), (39, (.iload 4, 2, 0, 0)), (41, (.ifCond .ge 9, 3, 0, 0)), (44, (.iload 4, 2, 0, 0)), (46, (.ineg, 1, 0, 0)), (47, (.goto 4, 3, 0, 0)), (50, (.iconst 0, 1, 0, 0)), (51, (.iastore, 1, 0, 0)), (52, (.aload_n 0, 1, 0, 0)), (53, (.getfield 74, 1477, 12, 93)), (56, (.bipush 39, 2, 0, 0)), (58, (.iload_n 3, 1, 0, 0)), (59, (.iadd, 1, 0, 0)), (60, (.aload_n 0, 1, 0, 0)), (61, (.getfield 74, 1477, 12, 93)), (64, (.bipush 39, 2, 0, 0)), (66, (.iload_n 3, 1, 0, 0)), (67, (.iadd, 1, 0, 0)), (68, (.iaload, 1, 0, 0)), (69, (.iload 4, 2, 0, 0)), (71, (.ifCond .le 8, 3, 0, 0)), (74, (.iload 4, 2, 0, 0)), (76, (.goto 4, 3, 0, 0)), (79, (.iconst 0, 1, 0, 0)), (80, (.iadd, 1, 0, 0)), (81, (.invokestatic 375, 1809, 210, 1)), (84, (.iastore, 1, 0, 0)), (85, (.aload_n 0, 1, 0, 0)), (86, (.getfield 74, 1477, 12, 93)), (89, (.bipush 48, 2, 0, 0)), (91, (.dup2, 1, 0, 0)), (92, (.iaload, 1, 0, 0)), (93, (.iconst 1, 1, 0, 0)), (94, (.isub, 1, 0, 0)), (95, (.iastore, 1, 0, 0)), (96, (.aload_n 0, 1, 0, 0)), (97, (.getfield 74, 1477, 12, 93)), (100, (.iconst 0, 1, 0, 0)), (101, (.iload_n 2, 1, 0, 0)), (102, (.iadd, 1, 0, 0)), (103, (.dup2, 1, 0, 0)), (104, (.iaload, 1, 0, 0)), (105, (.iconst 1, 1, 0, 0)), (106, (.iadd, 1, 0, 0)), (107, (.iastore, 1, 0, 0)), (108, (.aload_n 0, 1, 0, 0)), (109, (.getfield 74, 1477, 12, 93)), (112, (.bipush 6, 2, 0, 0)), (114, (.iload_n 2, 1, 0, 0)), (115, (.iadd, 1, 0, 0)), (116, (.dup2, 1, 0, 0)), (117, (.iaload, 1, 0, 0)), (118, (.aload_n 0, 1, 0, 0)), (119, (.getfield 38, 1446, 12, 31)), (122, (.iload_n 1, 1, 0, 0)), (123, (.iaload, 1, 0, 0)), (124, (.iconst 5, 1, 0, 0)), (125, (.if_icmp .lt 7, 3, 0, 0)), (128, (.iconst 1, 1, 0, 0)), (129, (.goto 4, 3, 0, 0)), (132, (.iconst 0, 1, 0, 0)), (133, (.iadd, 1, 0, 0)), (134, (.iastore, 1, 0, 0)), (135, (.aload_n 0, 1, 0, 0)), (136, (.getfield 74, 1477, 12, 93)), (139, (.bipush 18, 2, 0, 0)), (141, (.iload_n 1, 1, 0, 0)), (142, (.iadd, 1, 0, 0)), (143, (.iconst 1, 1, 0, 0)), (144, (.iastore, 1, 0, 0)), (145, (.aload_n 0, 1, 0, 0)), (146, (.getfield 74, 1477, 12, 93)), (149, (.bipush 24, 2, 0, 0)), (151, (.iload_n 1, 1, 0, 0)), (152, (.iadd, 1, 0, 0)), (153, (.dup2, 1, 0, 0)), (154, (.iaload, 1, 0, 0)), (155, (.iconst 1, 1, 0, 0)), (156, (.iadd, 1, 0, 0)), (157, (.iastore, 1, 0, 0)), (158, (.iconst 1, 1, 0, 0)), (159, (.ireturn, 1, 0, 0))]
noncomputable def po_213 : List (Nat × mOp) := [(0, (.aload_n 0, 1, 0, 0)), (1, (.iload_n 1, 1, 0, 0)), (2, (.invokevirtual 365, 1786, 208, 2)), (5, (.ifCond .eq 16, 3, 0, 0)), (8, (.aload_n 0, 1, 0, 0)), (9, (.getfield 74, 1477, 12, 93)), (12, (.bipush 12, 2, 0, 0)), (14, (.iload_n 1, 1, 0, 0)), (15, (.iadd, 1, 0, 0)), (16, (.iaload, 1, 0, 0)), (17, (.iload_n 2, 1, 0, 0)), (18, (.if_icmp .ne 5, 3, 0, 0)), (21, (.iconst 0, 1, 0, 0)), (22, (.ireturn, 1, 0, 0)), (23, (.aload_n 0, 1, 0, 0)), (24, (.getfield 74, 1477, 12, 93)), (27, (.bipush 12, 2, 0, 0)), (29, (.iload_n 1, 1, 0, 0)), (30, (.iadd, 1, 0, 0)), (31, (.iload_n 2, 1, 0, 0)), (32, (.iastore, 1, 0, 0)), (33, (.iconst 1, 1, 0, 0)), (34, (.ireturn, 1, 0, 0))]
noncomputable def po_214 : List (Nat × mOp) := [(0, (.aload_n 0, 1, 0, 0)), (1, (.getfield 74, 1477, 12, 93)), (4, (.bipush 39, 2, 0, 0)), (6, (.iload_n 1, 1, 0, 0)), (7, (.iadd, 1, 0, 0)), (8, (.iaload, 1, 0, 0)), (9, (.istore_n 2, 1, 0, 0)), (10, (.iload_n 2, 1, 0, 0)), (11, (.ifCond .ne 5, 3, 0, 0)), (14, (.iconst 0, 1, 0, 0)), (15, (.ireturn, 1, 0, 0)), (16, (.aload_n 0, 1, 0, 0)), (17, (.getfield 74, 1477, 12, 93)), (20, (.bipush 30, 2, 0, 0)), (22, (.iload_n 1, 1, 0, 0)), (23, (.iadd, 1, 0, 0)), (24, (.aload_n 0, 1, 0, 0)), (25, (.getfield 74, 1477, 12, 93)), (28, (.bipush 30, 2, 0, 0)), (30, (.iload_n 1, 1, 0, 0)), (31, (.iadd, 1, 0, 0)), (32, (.iaload, 1, 0, 0)), (33, (.iload_n 2, 1, 0, 0)), (34, (.iadd, 1, 0, 0)), (35, (.invokestatic 375, 1809, 210, 1)), (38, (.iastore, 1, 0, 0)), (39, (.aload_n 0, 1, 0, 0)), (40, (.getfield 74, 1477, 12, 93)), (43, (.bipush 39, 2, 0, 0)), (45, (.iload_n 1, 1, 0, 0)), (46, (.iadd, 1, 0, 0)), (47, (.iconst 0, 1, 0, 0)), (48, (.iastore, 1, 0, 0)), (49, (.aload_n 0, 1, 0, 0)), (50, (.getfield 74, 1477, 12, 93)), (53, (.bipush 48, 2, 0, 0)), (55, (.aload_n 0, 1, 0, 0)), (56, (.getfield 74, 1477, 12, 93)), (59, (.bipush 48, 2, 0, 0)), (61, (.iaload, 1, 0, 0)), (62, (.iload_n 2, 1, 0, 0)), (63, (.iconst 2, 1, 0, 0)), (64, (.idiv, 1, 0, 0)), (65, (.iadd, 1, 0, 0)), (66, (.invokestatic 375, 1809, 210, 1)), (69, (.iastore, 1, 0, 0)), (70, (.iconst 1, 1, 0, 0)), (71, (.ireturn, 1, 0, 0))]
noncomputable def po_215 : List (Nat × mOp) := [(0, (.aload_n 0, 1, 0, 0)), (1, (.getfield 74, 1477, 12, 93)), (4, (.bipush 12, 2, 0, 0)), (6, (.iload_n 1, 1, 0, 0)), (7, (.iadd, 1, 0, 0)), (8, (.iaload, 1, 0, 0)), (9, (.istore_n 2, 1, 0, 0)), (10, (.iload_n 2, 1, 0, 0)), (11, (.iconst (-1), 1, 0, 0)), (12, (.if_icmp .ne 4, 3, 0, 0)), (15, (.return_, 1, 0, 0)), (16, (.aload_n 0, 1, 0, 0)), (17, (.iload_n 1, 1, 0, 0)), (18, (.invokevirtual 378, 1828, 209, 2)), (21, (.ifCond .eq 29, 3, 0, 0)), (24, (.aload_n 0, 1, 0, 0)), (25, (.getfield 74, 1477, 12, 93)), (28, (.bipush 30, 2, 0, 0)), (30, (.iload_n 2, 1, 0, 0)), (31, (.iadd, 1, 0, 0)), (32, (.aload_n 0, 1, 0, 0)), (33, (.getfield 74, 1477, 12, 93)), (36, (.bipush 30, 2, 0, 0)), (38, (.iload_n 2, 1, 0, 0)), (39, (.iadd, 1, 0, 0)), (40, (.iaload, 1, 0, 0)), (41, (.iconst 2, 1, 0, 0)), (42, (.iadd, 1, 0, 0)), (43, (.invokestatic 375, 1809, 210, 1)), (46, (.iastore, 1, 0, 0)), (47, (.goto 54, 3, 0, 0)), (50, (.aload_n 0, 1, 0, 0)), (51, (.getfield 74, 1477, 12, 93)), (54, (.bipush 30, 2, 0, 0)), (56, (.iload_n 2, 1, 0, 0)), (57, (.iadd, 1, 0, 0)), (58, (.iaload, 1, 0, 0)), (59, (.ifCond .le 19, 3, 0, 0)), (62, (.aload_n 0, 1, 0, 0)), (63, (.getfield 74, 1477, 12, 93)), (66, (.bipush 30, 2, 0, 0)), (68, (.iload_n 2, 1, 0, 0)), (69, (.iadd, 1, 0, 0)), (70, (.dup2, 1, 0, 0)), (71, (.iaload, 1, 0, 0)), (72, (.iconst 1, 1, 0, 0)), (73, (.isub, 1, 0, 0)), (74, (.iastore, 1, 0, 0)), (75, (.goto 26, 3, 0, 0)), (78, (.aload_n 0, 1, 0, 0)), (79, (.getfield 74, 1477, 12, 93)), (82, (.bipush 39, 2, 0, 0)), (84, (.iload_n 2, 1, 0, 0)), (85, (.iadd, 1, 0, 0)), (86, (.aload_n 0, 1, 0, 0)), (87, (.getfield 74, 1477, 12, 93)), (90, (.bipush 39, 2, 0, 0)), (92, (.iload_n 2, 1, 0, 0)), (93, (.iadd, 1, 0, 0)), (94, (.iaload, 1, 0, 0)), (95, (.iconst 1, 1, 0, 0)), (96, (.iadd, 1, 0, 0)), (97, (.invokestatic 375, 1809, 210, 1)), (100, (.iastore, 1, 0, 0)), (101, (.aload_n 0, 1, 0, 0)), (102, (.getfield 74, 1477, 12, 93)), (105, (.bipush 30, 2, 0, 0)), (107, (.iload_n 2, 1, 0, 0)), (108, (.iadd, 1, 0, 0)), (109, (.iaload, 1, 0, 0)), (110, (.ifCond .le 4, 3, 0, 0)), (113, (.return_, 1, 0, 0)), (114, (.aload_n 0, 1, 0, 0)), (115, (.iload_n 2, 1, 0, 0)), (116, (.invokevirtual 381, 1832, 205, 2)), (119, (.istore_n 3, 1, 0, 0)), (120, (.iconst 0, 1, 0, 0)), (121, (.istore 4, 2, 0, 0)), (123, (.iload 4, 2, 0, 0)), (125, (.aload_n 0, 1, 0, 0)), (126, (.getfield 183, 1457, 12, 52)), (129, (.if_icmp .ge 60, 3, 0, 0)), (132, (.iload_n 3, 1, 0, 0)), (133, (.iload 4, 2, 0, 0)), (135, (.ishr, 1, 0, 0)), (136, (.iconst 1, 1, 0, 0)), (137, (.iand, 1, 0, 0)), (138, (.iconst 1, 1, 0, 0)), (139, (.if_icmp .ne 44, 3, 0, 0)), (142, (.aload_n 0, 1, 0, 0)), (143, (.getfield 74, 1477, 12, 93)), (146, (.bipush 30, 2, 0, 0)), (148, (.iload 4, 2, 0, 0)), (150, (.iadd, 1, 0, 0)), (151, (.iaload, 1, 0, 0)), (152, (.aload_n 0, 1, 0, 0)), (153, (.getfield 74, 1477, 12, 93)), (156, (.bipush 30, 2, 0, 0)), (158, (.aload_n 0, 1, 0, 0)), (159, (.getfield 74, 1477, 12, 93)), (162, (.bipush 12, 2, 0, 0)), (164, (.iload_n 1, 1, 0, 0)), (165, (.iadd, 1, 0, 0)), (166, (.iaload, 1, 0, 0)), (167, (.iadd, 1, 0, 0)), (168, (.iaload, 1, 0, 0)), (169, (.if_icmp .le 14, 3, 0, 0)), (172, (.aload_n 0, 1, 0, 0)), (173, (.getfield 74, 1477, 12, 93)), (176, (.bipush 12, 2, 0, 0)), (178, (.iload_n 1, 1, 0, 0)), (179, (.iadd, 1, 0, 0)), (180, (.iload 4, 2, 0, 0)), (182, (.iastore, 1, 0, 0)), (183, (.iinc 4 1, 3, 0, 0)), (186, (.goto (-63), 3, 0, 0)), (189, (.return_, 1, 0, 0))]
noncomputable def po_216 : List (Nat × mOp) := [(0, (.iconst 0, 1, 0, 0)), (1, (.istore_n 1, 1, 0, 0)), (2, (.iload_n 1, 1, 0, 0)), (3, (.aload_n 0, 1, 0, 0)), (4, (.getfield 177, 1455, 12, 48)), (7, (.if_icmp .ge 14, 3, 0, 0)), (10, (.aload_n 0, 1, 0, 0)), (11, (.iload_n 1, 1, 0, 0)), (12, (.invokevirtual 384, 1824, 215, 2)), (15, (.iinc 1 1, 3, 0, 0)), (18, (.goto (-16), 3, 0, 0)), (21, (.aload_n 0, 1, 0, 0)), (22, (.getfield 74, 1477, 12, 93)), (25, (.bipush 49, 2, 0, 0)), (27, (.dup2, 1, 0, 0)), (28, (.iaload, 1, 0, 0)), (29, (.iconst 1, 1, 0, 0)), (30, (.iadd, 1, 0, 0)), (31, (.iastore, 1, 0, 0)), (32, (.aload_n 0, 1, 0, 0)), (33, (.getfield 189, 1459, 12, 56)), (36, (.ifCond .le 22, 3, 0, 0)), (39, (.aload_n 0, 1, 0, 0)), (40, (.getfield 74, 1477, 12, 93)), (43, (.bipush 49, 2, 0, 0)), (45, (.iaload, 1, 0, 0)), (46, (.aload_n 0, 1, 0, 0)), (47, (.getfield 189, 1459, 12, 56)), (50, (.irem, 1, 0, 0)), (51, (.ifCond .ne 7, 3, 0, 0)), (54, (.iconst 1, 1, 0, 0)), (55, (.goto 4, 3, 0, 0)), (58, (.iconst 0, 1, 0, 0)), (59, (.istore_n 1, 1, 0, 0)), (60, (.iconst 0, 1, 0, 0)), (61, (.istore_n 2, 1, 0, 0)), (62, (.iload_n 2, 1, 0, 0)), (63, (.aload_n 0, 1, 0, 0)), (64, (.getfield 183, 1457, 12, 52)), (67, (.if_icmp .ge 36, 3, 0, 0)), (70, (.iload_n 1, 1, 0, 0)), (71, (.ifCond .eq 32, 3, 0, 0)), (74, (.aload_n 0, 1, 0, 0)), (75, (.getfield 74, 1477, 12, 93)), (78, (.bipush 30, 2, 0, 0)), (80, (.iload_n 2, 1, 0, 0)), (81, (.iadd, 1, 0, 0)), (82, (.aload_n 0, 1, 0, 0)), (83, (.getfield 74, 1477, 12, 93)), (86, (.bipush 30, 2, 0, 0)), (88, (.iload_n 2, 1, 0, 0)), (89, (.iadd, 1, 0, 0)), (90, (.iaload, 1, 0, 0)), (91, (.iconst 1, 1, 0, 0)), (92, (.iadd, 1, 0, 0)), (93, (.invokestatic 375, 1809, 210, 1)), (96, (.iastore, 1, 0, 0)), (97, (.iinc 2 1, 3, 0, 0)), (100, (.goto (-38), 3, 0, 0)), (103, (.iconst 0, 1, 0, 0)), (104, (.istore_n 2, 1, 0, 0)), (105, (.iload_n 2, 1, 0, 0)), (106, (.bipush 6, 2, 0, 0)), (108, (.if_icmp .ge 19, 3, 0, 0)), (111, (.aload_n 0, 1, 0, 0)), (112, (.getfield 74, 1477, 12, 93)), (115, (.bipush 18, 2, 0, 0)), (117, (.iload_n 2, 1, 0, 0)), (118, (.iadd, 1, 0, 0)), (119, (.iconst 0, 1, 0, 0)), (120, (.iastore, 1, 0, 0)), (121, (.iinc 2 1, 3, 0, 0)), (124, (.goto (-19), 3, 0, 0)), (127, (.return_, 1, 0, 0))]
noncomputable def po_217 : List (Nat × mOp) := [(0, (.iload_n 1, 1, 0, 0)), (1, (.ifCond .ne 12, 3, 0, 0)), (4, (.aload_n 0, 1, 0, 0)), (5, (.iload_n 2, 1, 0, 0)), (6, (.iload_n 3, 1, 0, 0)), (7, (.iload 4, 2, 0, 0)), (9, (.invokevirtual 387, 1778, 212, 4)), (12, (.ireturn, 1, 0, 0)), (13, (.iload_n 1, 1, 0, 0)), (14, (.iconst 1, 1, 0, 0)), (15, (.if_icmp .ne 10, 3, 0, 0)), (18, (.aload_n 0, 1, 0, 0)), (19, (.iload_n 2, 1, 0, 0)), (20, (.iload_n 3, 1, 0, 0)), (21, (.invokevirtual 390, 1812, 213, 3)), (24, (.ireturn, 1, 0, 0)), (25, (.iload_n 1, 1, 0, 0)), (26, (.iconst 3, 1, 0, 0)), (27, (.if_icmp .ne 9, 3, 0, 0)), (30, (.aload_n 0, 1, 0, 0)), (31, (.iload_n 2, 1, 0, 0)), (32, (.invokevirtual 394, 1816, 214, 2)), (35, (.ireturn, 1, 0, 0)), (36, (.iload_n 1, 1, 0, 0)), (37, (.iconst 2, 1, 0, 0)), (38, (.if_icmp .ne 30, 3, 0, 0)), (41, (.aload_n 0, 1, 0, 0)), (42, (.getfield 74, 1477, 12, 93)), (45, (.bipush 12, 2, 0, 0)), (47, (.iload_n 2, 1, 0, 0)), (48, (.iadd, 1, 0, 0)), (49, (.iaload, 1, 0, 0)), (50, (.iconst (-1), 1, 0, 0)), (51, (.if_icmp .ne 5, 3, 0, 0)), (54, (.iconst 0, 1, 0, 0)), (55, (.ireturn, 1, 0, 0)), (56, (.aload_n 0, 1, 0, 0)), (57, (.getfield 74, 1477, 12, 93)), (60, (.bipush 12, 2, 0, 0)), (62, (.iload_n 2, 1, 0, 0)), (63, (.iadd, 1, 0, 0)), (64, (.iconst (-1), 1, 0, 0)), (65, (.iastore, 1, 0, 0)), (66, (.iconst 1, 1, 0, 0)), (67, (.ireturn, 1, 0, 0)), (68, (.iload_n 1, 1, 0, 0)), (69, (.iconst 4, 1, 0, 0)), (70, (.if_icmp .ne 38, 3, 0, 0)), (73, (.aload_n 0, 1, 0, 0)), (74, (.getfield 74, 1477, 12, 93)), (77, (.bipush 48, 2, 0, 0)), (79, (.iaload, 1, 0, 0)), (80, (.bipush 99, 2, 0, 0)), (82, (.if_icmp .ne 5, 3, 0, 0)), (85, (.iconst 0, 1, 0, 0)), (86, (.ireturn, 1, 0, 0)), (87, (.aload_n 0, 1, 0, 0)), (88, (.getfield 74, 1477, 12, 93)), (91, (.bipush 48, 2, 0, 0)), (93, (.aload_n 0, 1, 0, 0)), (94, (.getfield 74, 1477, 12, 93)), (97, (.bipush 48, 2, 0, 0)), (99, (.iaload, 1, 0, 0)), (100, (.iload_n 2, 1, 0, 0)), (101, (.iadd, 1, 0, 0)), (102, (.invokestatic 375, 1809, 210, 1)), (105, (.iastore, 1, 0, 0)), (106, (.iconst 1, 1, 0, 0)), (107, (.ireturn, 1, 0, 0)), (108, (.aload_n 0, 1, 0, 0)), (109, (.getfield 74, 1477, 12, 93)), (112, (.bipush 49, 2, 0, 0)), (114, (.iaload, 1, 0, 0)), (115, (.sipush 600, 3, 0, 0)), (118, (.if_icmp .ne 5, 3, 0, 0)), (121, (.iconst 0, 1, 0, 0)), (122, (.ireturn, 1, 0, 0)), (123, (.aload_n 0, 1, 0, 0)), (124, (.invokevirtual 397, 1820, 216, 1)), (127, (.iconst 1, 1, 0, 0)), (128, (.ireturn, 1, 0, 0))]
noncomputable def po_218 : List (Nat × mOp) := [(0, (.aload_n 0, 1, 0, 0)), (1, (.iconst 0, 1, 0, 0)), (2, (.putfield 3, 1431, 12, 0)), (5, (.aload_n 0, 1, 0, 0)), (6, (.iload_n 1, 1, 0, 0)), (7, (.ifCond .lt 21, 3, 0, 0)), (10, (.iload_n 1, 1, 0, 0)), (11, (.aload_n 0, 1, 0, 0)), (12, (.getfield 113, 1433, 12, 4)), (15, (.if_icmp .gt 13, 3, 0, 0)), (18, (.iload_n 1, 1, 0, 0)), (19, (.bipush 60, 2, 0, 0)), (21, (.if_icmp .gt 7, 3, 0, 0)), (24, (.iconst 1, 1, 0, 0)), (25, (.goto 4, 3, 0, 0)), (28, (.iconst 0, 1, 0, 0)), (29, (.iconst 1, 1, 0, 0)), (30, (.iconst 1, 1, 0, 0)), (31, (.invokevirtual 232, 1624, 161, 4)), (34, (.ifCond .ne 5, 3, 0, 0)), (37, (.iconst 0, 1, 0, 0)), (38, (.ireturn, 1, 0, 0)), (39, (.aload_n 0, 1, 0, 0)), (40, (.iload_n 1, 1, 0, 0)), (41, (.invokevirtual 236, 1628, 176, 2)), (44, (.iconst 0, 1, 0, 0)), (45, (.istore_n 2, 1, 0, 0)), (46, (.iload_n 2, 1, 0, 0)), (47, (.bipush 9, 2, 0, 0)), (49, (.if_icmp .ge 16, 3, 0, 0)), (52, (.aload_n 0, 1, 0, 0)), (53, (.getfield 80, 1479, 12, 97)), (56, (.iload_n 2, 1, 0, 0)), (57, (.iconst (-1), 1, 0, 0)), (58, (.iastore, 1, 0, 0)), (59, (.iinc 2 1, 3, 0, 0)), (62, (.goto (-16), 3, 0, 0)), (65, (.iconst 0, 1, 0, 0)), (66, (.istore_n 2, 1, 0, 0)), (67, (.aload_n 0, 1, 0, 0)), (68, (.invokevirtual 145, 1632, 165, 1)), (71, (.ifCond .eq 109, 3, 0, 0)), (74, (.aload_n 0, 1, 0, 0)), (75, (.invokevirtual 240, 1636, 175, 1)), (78, (.ifCond .eq 102, 3, 0, 0)), (81, (.aload_n 0, 1, 0, 0)), (82, (.invokevirtual 128, 1640, 167, 1)), (85, (.pop, 1, 0, 0)), (86, (.aload_n 0, 1, 0, 0)), (87, (.getfield 122, 1435, 12, 8)), (90, (.istore_n 3, 1, 0, 0)), (91, (.aload_n 0, 1, 0, 0)), (92, (.invokevirtual 319, 1753, 200, 1)), (95, (.istore 4, 2, 0, 0)), (97, (.aload_n 0, 1, 0, 0)), (98, (.invokevirtual 145, 1632, 165, 1)), (101, (.ifCond .eq 20, 3, 0, 0)), (104, (.aload_n 0, 1, 0, 0)), (105, (.getfield 80, 1479, 12, 97)), (108, (.iload 4, 2, 0, 0)), (110, (.iaload, 1, 0, 0)), (111, (.iconst (-1), 1, 0, 0)), (112, (.if_icmp .eq 9, 3, 0, 0)), (115, (.aload_n 0, 1, 0, 0)), (116, (.iconst 2, 1, 0, 0)), (117, (.iload_n 3, 1, 0, 0)), (118, (.invokevirtual 152, 1665, 166, 3)), (121, (.aload_n 0, 1, 0, 0)), (122, (.invokevirtual 145, 1632, 165, 1)), (125, (.ifCond .eq 15, 3, 0, 0)), (128, (.iload_n 2, 1, 0, 0)), (129, (.bipush 8, 2, 0, 0)), (131, (.if_icmp .ne 9, 3, 0, 0)), (134, (.aload_n 0, 1, 0, 0)), (135, (.iconst 3, 1, 0, 0)), (136, (.iload_n 3, 1, 0, 0)), (137, (.invokevirtual 152, 1665, 166, 3)), (140, (.aload_n 0, 1, 0, 0)), (141, (.iconst 0, 1, 0, 0)), (142, (.bipush 99, 2, 0, 0)), (144, (.invokevirtual 225, 1681, 173, 3)), (147, (.istore 5, 2, 0, 0)), (149, (.aload_n 0, 1, 0, 0)), (150, (.bipush 59, 2, 0, 0)), (152, (.invokevirtual 258, 1692, 174, 2)), (155, (.aload_n 0, 1, 0, 0)), (156, (.invokevirtual 145, 1632, 165, 1)), (159, (.ifCond .ne 6, 3, 0, 0)), (162, (.goto 18, 3, 0, 0)), (165, (.aload_n 0, 1, 0, 0)), (166, (.getfield 80, 1479, 12, 97)), (169, (.iload 4, 2, 0, 0)), (171, (.iload 5, 2, 0, 0)), (173, (.iastore, 1, 0, 0)), (174, (.iinc 2 1, 3, 0, 0)), (177, (.goto (-110), 3, 0, 0)), (180, (.aload_n 0, 1, 0, 0)), (181, (.iload_n 2, 1, 0, 0)), (182, (.invokevirtual 261, 1696, 177, 2)), (185, (.istore_n 3, 1, 0, 0)), (186, (.aload_n 0, 1, 0, 0)), (187, (.getfield 116, 1436, 12, 10)), (190, (.iconst (-1), 1, 0, 0)), (191, (.if_icmp .eq 5, 3, 0, 0)), (194, (.iload_n 3, 1, 0, 0)), (195, (.ireturn, 1, 0, 0)), (196, (.aload_n 0, 1, 0, 0)), (197, (.iload_n 2, 1, 0, 0)), (198, (.putfield 199, 1481, 12, 100)), (201, (.aload_n 0, 1, 0, 0)), (202, (.aload_n 0, 1, 0, 0)), (203, (.getfield 80, 1479, 12, 97)), (206, (.aload_n 0, 1, 0, 0)), (207, (.getfield 83, 1480, 12, 99)), (210, (.bipush 9, 2, 0, 0)), (212, (.invokevirtual 192, 1427, 179, 4)), (215, (.iload_n 3, 1, 0, 0)), (216, (.ireturn, 1, 0, 0))]
noncomputable def po_219 : List (Nat × mOp) := [(0, (.aload_n 0, 1, 0, 0)), (1, (.iconst 0, 1, 0, 0)), (2, (.putfield 3, 1431, 12, 0)), (5, (.aload_n 0, 1, 0, 0)), (6, (.getfield 202, 1471, 12, 80)), (9, (.ifCond .ne 5, 3, 0, 0)), (12, (.iconst (-1), 1, 0, 0)), (13, (.ireturn, 1, 0, 0)), (14, (.aload_n 0, 1, 0, 0)), (15, (.dup, 1, 0, 0)), (16, (.getfield 202, 1471, 12, 80)), (19, (.iconst 1, 1, 0, 0)), (20, (.isub, 1, 0, 0)), (21, (.putfield 202, 1471, 12, 80)), (24, (.iconst 0, 1, 0, 0)), (25, (.istore_n 1, 1, 0, 0)), (26, (.iload_n 1, 1, 0, 0)), (27, (.bipush 50, 2, 0, 0)), (29, (.if_icmp .ge 29, 3, 0, 0)), (32, (.aload_n 0, 1, 0, 0)), (33, (.getfield 71, 1476, 12, 91)), (36, (.iload_n 1, 1, 0, 0)), (37, (.aload_n 0, 1, 0, 0)), (38, (.getfield 77, 1478, 12, 95)), (41, (.bipush 50, 2, 0, 0)), (43, (.aload_n 0, 1, 0, 0)), (44, (.getfield 202, 1471, 12, 80)), (47, (.imul, 1, 0, 0)), (48, (.iload_n 1, 1, 0, 0)), (49, (.iadd, 1, 0, 0)), (50, (.iaload, 1, 0, 0)), (51, (.iastore, 1, 0, 0)), (52, (.iinc 1 1, 3, 0, 0)), (55, (.goto (-29), 3, 0, 0)), (58, (.aload_n 0, 1, 0, 0)), (59, (.iconst 0, 1, 0, 0)), (60, (.putfield 208, 1472, 12, 82)), (63, (.aload_n 0, 1, 0, 0)), (64, (.getfield 202, 1471, 12, 80)), (67, (.ireturn, 1, 0, 0))]
noncomputable def po_220 : List (Nat × mOp) := [(0, (.iconst 0, 1, 0, 0)), (1, (.istore_n 2, 1, 0, 0)), (2, (.iconst 0, 1, 0, 0)), (3, (.istore_n 3, 1, 0, 0)), (4, (.iload_n 3, 1, 0, 0)), (5, (.aload_n 0, 1, 0, 0)), (6, (.getfield 183, 1457, 12, 52)), (9, (.if_icmp .ge 20, 3, 0, 0)), (12, (.iload_n 2, 1, 0, 0)), (13, (.aload_n 0, 1, 0, 0)), (14, (.getfield 74, 1477, 12, 93)), (17, (.iload_n 1, 1, 0, 0)), (18, (.iload_n 3, 1, 0, 0)), (19, (.iadd, 1, 0, 0)), (20, (.iaload, 1, 0, 0)), (21, (.iadd, 1, 0, 0)), (22, (.istore_n 2, 1, 0, 0)), (23, (.iinc 3 1, 3, 0, 0)), (26, (.goto (-22), 3, 0, 0)), (29, (.iload_n 2, 1, 0, 0)), (30, (.ireturn, 1, 0, 0))]
noncomputable def po_221 : List (Nat × mOp) := [(0, (.iconst 0, 1, 0, 0)), (1, (.istore_n 1, 1, 0, 0)), (2, (.iconst 0, 1, 0, 0)), (3, (.istore_n 2, 1, 0, 0)), (4, (.iload_n 2, 1, 0, 0)), (5, (.aload_n 0, 1, 0, 0)), (6, (.getfield 177, 1455, 12, 48)), (9, (.if_icmp .ge 27, 3, 0, 0)), (12, (.iload_n 1, 1, 0, 0)), (13, (.aload_n 0, 1, 0, 0)), (14, (.iload_n 2, 1, 0, 0)), (15, (.invokevirtual 365, 1786, 208, 2)), (18, (.ifCond .eq 9, 3, 0, 0)), (21, (.iconst 1, 1, 0, 0)), (22, (.iload_n 2, 1, 0, 0)), (23, (.ishl, 1, 0, 0)), (24, (.goto 4, 3, 0, 0)), (27, (.iconst 0, 1, 0, 0)), (28, (.ior, 1, 0, 0)), (29, (.istore_n 1, 1, 0, 0)), (30, (.iinc 2 1, 3, 0, 0)), (33, (.goto (-29), 3, 0, 0)), (36, (.iload_n 1, 1, 0, 0)), (37, (.ireturn, 1, 0, 0))]
noncomputable def po_222 : List (Nat × mOp) := [(0, (.iconst 0, 1, 0, 0)), (1, (.istore_n 2, 1, 0, 0)), (2, (.iconst 0, 1, 0, 0)), (3, (.istore_n 3, 1, 0, 0)), (4, (.iload_n 3, 1, 0, 0)), (5, (.aload_n 0, 1, 0, 0)), (6, (.getfield 177, 1455, 12, 48)), (9, (.if_icmp .ge 50, 3, 0, 0)), (12, (.iload_n 2, 1, 0, 0)), (13, (.aload_n 0, 1, 0, 0)), (14, (.getfield 74, 1477, 12, 93)), (17, (.bipush 12, 2, 0, 0)), (19, (.iload_n 3, 1, 0, 0)), (20, (.iadd, 1, 0, 0)), (21, (.iaload, 1, 0, 0)), (22, (.iconst (-1), 1, 0, 0)), (23, (.if_icmp .eq 27, 3, 0, 0)), (26, (.iload_n 1, 1, 0, 0)), (27, (.iconst (-1), 1, 0, 0)), (28, (.if_icmp .eq 16, 3, 0, 0)), (31, (.aload_n 0, 1, 0, 0)), (32, (.getfield 74, 1477, 12, 93)), (35, (.bipush 12, 2, 0, 0)), (37, (.iload_n 3, 1, 0, 0)), (38, (.iadd, 1, 0, 0)), (39, (.iaload, 1, 0, 0)), (40, (.iload_n 1, 1, 0, 0)), (41, (.if_icmp .ne 9, 3, 0, 0)), (44, (.iconst 1, 1, 0, 0)), (45, (.iload_n 3, 1, 0, 0)), (46, (.ishl, 1, 0, 0)), (47, (.goto 4, 3, 0, 0)), (50, (.iconst 0, 1, 0, 0)), (51, (.ior, 1, 0, 0)), (52, (.istore_n 2, 1, 0, 0)), (53, (.iinc 3 1, 3, 0, 0)), (56, (.goto (-52), 3, 0, 0)), (59, (.iload_n 2, 1, 0, 0)), (60, (.ireturn, 1, 0, 0))]
noncomputable def po_223 : List (Nat × mOp) := [(0, (.iconst 0, 1, 0, 0)), (1, (.istore_n 1, 1, 0, 0)), (2, (.iconst 0, 1, 0, 0)), (3, (.istore_n 2, 1, 0, 0)), (4, (.iload_n 2, 1, 0, 0)), (5, (.aload_n 0, 1, 0, 0)), (6, (.getfield 180, 1456, 12, 50)), (9, (.if_icmp .ge 23, 3, 0, 0)), (12, (.iload_n 1, 1, 0, 0)), (13, (.aload_n 0, 1, 0, 0)), (14, (.getfield 74, 1477, 12, 93)), (17, (.bipush 18, 2, 0, 0)), (19, (.iload_n 2, 1, 0, 0)), (20, (.iadd, 1, 0, 0)), (21, (.iaload, 1, 0, 0)), (22, (.iload_n 2, 1, 0, 0)), (23, (.ishl, 1, 0, 0)), (24, (.ior, 1, 0, 0)), (25, (.istore_n 1, 1, 0, 0)), (26, (.iinc 2 1, 3, 0, 0)), (29, (.goto (-25), 3, 0, 0)), (32, (.iload_n 1, 1, 0, 0)), (33, (.ireturn, 1, 0, 0))]
noncomputable def po_224 : List (Nat × mOp) := [(0, (.aload_n 0, 1, 0, 0)), (1, (.iconst 0, 1, 0, 0)), (2, (.putfield 3, 1431, 12, 0)), (5, (.aload_n 0, 1, 0, 0)), (6, (.iload_n 1, 1, 0, 0)), (7, (.iconst 0, 1, 0, 0)), (8, (.bipush 11, 2, 0, 0)), (10, (.invokestatic 400, 1848, 162, 3)), (13, (.iconst 1, 1, 0, 0)), (14, (.iconst 1, 1, 0, 0)), (15, (.invokevirtual 232, 1624, 161, 4)), (18, (.ifCond .ne 5, 3, 0, 0)), (21, (.iconst 0, 1, 0, 0)), (22, (.ireturn, 1, 0, 0)), (23, (.aload_n 0, 1, 0, 0)), (24, (.invokevirtual 339, 1766, 204, 1)), (27, (.iload_n 1, 1, 0, 0)), (28, (.iconst 4, 1, 0, 0)), (29, (.if_icmp .ge 43, 3, 0, 0)), (32, (.iload_n 1, 1, 0, 0)), (33, (.ifCond .ne 10, 3, 0, 0)), (36, (.aload_n 0, 1, 0, 0)), (37, (.getfield 177, 1455, 12, 48)), (40, (.goto 31, 3, 0, 0)), (43, (.iload_n 1, 1, 0, 0)), (44, (.iconst 1, 1, 0, 0)), (45, (.if_icmp .ne 10, 3, 0, 0)), (48, (.aload_n 0, 1, 0, 0)), (49, (.getfield 180, 1456, 12, 50)), (52, (.goto 19, 3, 0, 0)), (55, (.iload_n 1, 1, 0, 0)), (56, (.iconst 2, 1, 0, 0)), (57, (.if_icmp .ne 10, 3, 0, 0)), (60, (.aload_n 0, 1, 0, 0)), (61, (.getfield 183, 1457, 12, 52)), (64, (.goto 7, 3, 0, 0)), (67, (.aload_n 0, 1, 0, 0)), (68, (.getfield 186, 1458, 12, 54)), (71, (.ireturn, 1, 0, 0)), (72, (.iload_n 1, 1, 0, 0)), (73, (.bipush 8, 2, 0, 0)), (75, (.if_icmp .ge 52, 3, 0, 0)), (78, (.iload_n 1, 1, 0, 0)), (79, (.iconst 4, 1, 0, 0)), (80, (.if_icmp .ne 13, 3, 0, 0)), (83, (.aload_n 0, 1, 0, 0)), (84, (.getfield 74, 1477, 12, 93)), (87, (.bipush 49, 2, 0, 0)), (89, (.iaload, 1, 0, 0)), (90, (.goto 36, 3, 0, 0)), (93, (.iload_n 1, 1, 0, 0)), (94, (.iconst 5, 1, 0, 0)), (95, (.if_icmp .ne 13, 3, 0, 0)), (98, (.aload_n 0, 1, 0, 0)), (99, (.getfield 74, 1477, 12, 93)), (102, (.bipush 48, 2, 0, 0)), (104, (.iaload, 1, 0, 0)), (105, (.goto 21, 3, 0, 0)), (108, (.iload_n 1, 1, 0, 0)), (109, (.bipush 6, 2, 0, 0)), (111, (.if_icmp .ne 10, 3, 0, 0)), (114, (.aload_n 0, 1, 0, 0)), (115, (.invokevirtual 403, 1851, 221, 1)), (118, (.goto 8, 3, 0, 0)), (121, (.aload_n 0, 1, 0, 0)), (122, (.iconst (-1), 1, 0, 0)), (123, (.invokevirtual 406, 1855, 222, 2)), (126, (.ireturn, 1, 0, 0)), (127, (.iload_n 1, 1, 0, 0)), (128, (.bipush 8, 2, 0, 0)), (130, (.if_icmp .ne 10, 3, 0, 0)), (133, (.aload_n 0, 1, 0, 0)), (134, (.invokevirtual 409, 1859, 223, 1)), (137, (.goto 35, 3, 0, 0)), (140, (.iload_n 1, 1, 0, 0)), (141, (.bipush 9, 2, 0, 0)), (143, (.if_icmp .ne 12, 3, 0, 0)), (146, (.aload_n 0, 1, 0, 0)), (147, (.bipush 30, 2, 0, 0)), (149, (.invokevirtual 412, 1863, 220, 2)), (152, (.goto 20, 3, 0, 0)), (155, (.iload_n 1, 1, 0, 0)), (156, (.bipush 10, 2, 0, 0)), (158, (.if_icmp .ne 10, 3, 0, 0)), (161, (.aload_n 0, 1, 0, 0)), (162, (.getfield 199, 1481, 12, 100)), (165, (.goto 7, 3, 0, 0)), (168, (.aload_n 0, 1, 0, 0)), (169, (.getfield 208, 1472, 12, 82)), (172, (.ireturn, 1, 0, 0))]
noncomputable def po_225 : List (Nat × mOp) := [(0, (.aload_n 0, 1, 0, 0)), (1, (.iload_n 1, 1, 0, 0)), (2, (.iconst 0, 1, 0, 0)), (3, (.aload_n 0, 1, 0, 0)), (4, (.getfield 177, 1455, 12, 48)), (7, (.iconst 1, 1, 0, 0)), (8, (.isub, 1, 0, 0)), (9, (.invokestatic 400, 1848, 162, 3)), (12, (.iload_n 2, 1, 0, 0)), (13, (.iconst 0, 1, 0, 0)), (14, (.invokevirtual 232, 1624, 161, 4)), (17, (.ireturn, 1, 0, 0))]
noncomputable def po_226 : List (Nat × mOp) := [(0, (.aload_n 0, 1, 0, 0)), (1, (.iload_n 1, 1, 0, 0)), (2, (.iconst 0, 1, 0, 0)), (3, (.aload_n 0, 1, 0, 0)), (4, (.getfield 180, 1456, 12, 50)), (7, (.iconst 1, 1, 0, 0)), (8, (.isub, 1, 0, 0)), (9, (.invokestatic 400, 1848, 162, 3)), (12, (.iload_n 2, 1, 0, 0)), (13, (.iconst 0, 1, 0, 0)), (14, (.invokevirtual 232, 1624, 161, 4)), (17, (.ireturn, 1, 0, 0))]
noncomputable def po_227 : List (Nat × mOp) := [(0, (.aload_n 0, 1, 0, 0)), (1, (.iload_n 1, 1, 0, 0)), (2, (.iconst 0, 1, 0, 0)), (3, (.aload_n 0, 1, 0, 0)), (4, (.getfield 183, 1457, 12, 52)), (7, (.iconst 1, 1, 0, 0)), (8, (.isub, 1, 0, 0)), (9, (.invokestatic 400, 1848, 162, 3)), (12, (.iload_n 2, 1, 0, 0)), (13, (.iconst 0, 1, 0, 0)), (14, (.invokevirtual 232, 1624, 161, 4)), (17, (.ireturn, 1, 0, 0))]
noncomputable def po_228 : List (Nat × mOp) := [(0, (.aload_n 0, 1, 0, 0)), (1, (.iconst 0, 1, 0, 0)), (2, (.putfield 3, 1431, 12, 0)), (5, (.aload_n 0, 1, 0, 0)), (6, (.iload_n 1, 1, 0, 0)), (7, (.iconst 1, 1, 0, 0)), (8, (.invokevirtual 415, 1871, 225, 3)), (11, (.ifCond .eq 18, 3, 0, 0)), (14, (.aload_n 0, 1, 0, 0)), (15, (.iload_n 2, 1, 0, 0)), (16, (.iconst 0, 1, 0, 0)), (17, (.iconst 5, 1, 0, 0)), (18, (.invokestatic 400, 1848, 162, 3)), (21, (.iconst 2, 1, 0, 0)), (22, (.iconst 1, 1, 0, 0)), (23, (.invokevirtual 232, 1624, 161, 4)), (26, (.ifCond .ne 5, 3, 0, 0)), (29, (.iconst 0, 1, 0, 0)), (30, (.ireturn, 1, 0, 0)), (31, (.aload_n 0, 1, 0, 0)), (32, (.invokevirtual 339, 1766, 204, 1)), (35, (.iload_n 2, 1, 0, 0)), (36, (.iconst 4, 1, 0, 0)), (37, (.if_icmp .ge 45, 3, 0, 0)), (40, (.iload_n 2, 1, 0, 0)), (41, (.ifCond .ne 12, 3, 0, 0)), (44, (.aload_n 0, 1, 0, 0)), (45, (.getfield 35, 1445, 12, 29)), (48, (.iload_n 1, 1, 0, 0)), (49, (.iaload, 1, 0, 0)), (50, (.goto 31, 3, 0, 0)), (53, (.aload_n 0, 1, 0, 0)), (54, (.getfield 74, 1477, 12, 93)), (57, (.iload_n 2, 1, 0, 0)), (58, (.iconst 1, 1, 0, 0)), (59, (.if_icmp .ne 7, 3, 0, 0)), (62, (.iconst 0, 1, 0, 0)), (63, (.goto 15, 3, 0, 0)), (66, (.iload_n 2, 1, 0, 0)), (67, (.iconst 2, 1, 0, 0)), (68, (.if_icmp .ne 8, 3, 0, 0)), (71, (.bipush 6, 2, 0, 0)), (73, (.goto 5, 3, 0, 0)), (76, (.bipush 12, 2, 0, 0)), (78, (.iload_n 1, 1, 0, 0)), (79, (.iadd, 1, 0, 0)), (80, (.iaload, 1, 0, 0)), (81, (.ireturn, 1, 0, 0)), (82, (.iload_n 2, 1, 0, 0)), (83, (.iconst 4, 1, 0, 0)), (84, (.if_icmp .ne 19, 3, 0, 0)), (87, (.aload_n 0, 1, 0, 0)), (88, (.iload_n 1, 1, 0, 0)), (89, (.invokevirtual 378, 1828, 209, 2)), (92, (.ifCond .eq 7, 3, 0, 0)), (95, (.iconst 1, 1, 0, 0)), (96, (.goto 34, 3, 0, 0)), (99, (.iconst 0, 1, 0, 0)), (100, (.goto 30, 3, 0, 0)), (103, (.aload_n 0, 1, 0, 0)), (104, (.iload_n 1, 1, 0, 0)), (105, (.invokevirtual 365, 1786, 208, 2)), (108, (.ifCond .eq 7, 3, 0, 0)), (111, (.iconst 0, 1, 0, 0)), (112, (.goto 18, 3, 0, 0)), (115, (.aload_n 0, 1, 0, 0)), (116, (.getfield 35, 1445, 12, 29)), (119, (.iload_n 1, 1, 0, 0)), (120, (.iaload, 1, 0, 0)), (121, (.aload_n 0, 1, 0, 0)), (122, (.getfield 74, 1477, 12, 93)), (125, (.iconst 0, 1, 0, 0)), (126, (.iload_n 1, 1, 0, 0)), (127, (.iadd, 1, 0, 0)), (128, (.iaload, 1, 0, 0)), (129, (.isub, 1, 0, 0)), (130, (.ireturn, 1, 0, 0))]
noncomputable def po_229 : List (Nat × mOp) := [(0, (.aload_n 0, 1, 0, 0)), (1, (.iconst 0, 1, 0, 0)), (2, (.putfield 3, 1431, 12, 0)), (5, (.aload_n 0, 1, 0, 0)), (6, (.iload_n 1, 1, 0, 0)), (7, (.iconst 1, 1, 0, 0)), (8, (.invokevirtual 418, 1879, 226, 3)), (11, (.ifCond .eq 18, 3, 0, 0)), (14, (.aload_n 0, 1, 0, 0)), (15, (.iload_n 2, 1, 0, 0)), (16, (.iconst 0, 1, 0, 0)), (17, (.iconst 2, 1, 0, 0)), (18, (.invokestatic 400, 1848, 162, 3)), (21, (.iconst 2, 1, 0, 0)), (22, (.iconst 1, 1, 0, 0)), (23, (.invokevirtual 232, 1624, 161, 4)), (26, (.ifCond .ne 5, 3, 0, 0)), (29, (.iconst 0, 1, 0, 0)), (30, (.ireturn, 1, 0, 0)), (31, (.iload_n 2, 1, 0, 0)), (32, (.ifCond .ne 12, 3, 0, 0)), (35, (.aload_n 0, 1, 0, 0)), (36, (.getfield 38, 1446, 12, 31)), (39, (.iload_n 1, 1, 0, 0)), (40, (.iaload, 1, 0, 0)), (41, (.goto 22, 3, 0, 0)), (44, (.aload_n 0, 1, 0, 0)), (45, (.getfield 71, 1476, 12, 91)), (48, (.iload_n 2, 1, 0, 0)), (49, (.iconst 1, 1, 0, 0)), (50, (.if_icmp .ne 8, 3, 0, 0)), (53, (.bipush 18, 2, 0, 0)), (55, (.goto 5, 3, 0, 0)), (58, (.bipush 24, 2, 0, 0)), (60, (.iload_n 1, 1, 0, 0)), (61, (.iadd, 1, 0, 0)), (62, (.iaload, 1, 0, 0)), (63, (.ireturn, 1, 0, 0))]
noncomputable def po_230 : List (Nat × mOp) := [(0, (.aload_n 0, 1, 0, 0)), (1, (.iconst 0, 1, 0, 0)), (2, (.putfield 3, 1431, 12, 0)), (5, (.aload_n 0, 1, 0, 0)), (6, (.iload_n 1, 1, 0, 0)), (7, (.iconst 1, 1, 0, 0)), (8, (.invokevirtual 421, 1887, 227, 3)), (11, (.ifCond .eq 18, 3, 0, 0)), (14, (.aload_n 0, 1, 0, 0)), (15, (.iload_n 2, 1, 0, 0)), (16, (.iconst 0, 1, 0, 0)), (17, (.iconst 4, 1, 0, 0)), (18, (.invokestatic 400, 1848, 162, 3)), (21, (.iconst 2, 1, 0, 0)), (22, (.iconst 1, 1, 0, 0)), (23, (.invokevirtual 232, 1624, 161, 4)), (26, (.ifCond .ne 5, 3, 0, 0)), (29, (.iconst 0, 1, 0, 0)), (30, (.ireturn, 1, 0, 0)), (31, (.aload_n 0, 1, 0, 0)), (32, (.invokevirtual 339, 1766, 204, 1)), (35, (.iload_n 2, 1, 0, 0)), (36, (.ifCond .ne 15, 3, 0, 0)), (39, (.aload_n 0, 1, 0, 0)), (40, (.getfield 74, 1477, 12, 93)), (43, (.bipush 30, 2, 0, 0)), (45, (.iload_n 1, 1, 0, 0)), (46, (.iadd, 1, 0, 0)), (47, (.iaload, 1, 0, 0)), (48, (.goto 52, 3, 0, 0)), (51, (.iload_n 2, 1, 0, 0)), (52, (.iconst 1, 1, 0, 0)), (53, (.if_icmp .ne 15, 3, 0, 0)), (56, (.aload_n 0, 1, 0, 0)), (57, (.getfield 74, 1477, 12, 93)), (60, (.bipush 39, 2, 0, 0)), (62, (.iload_n 1, 1, 0, 0)), (63, (.iadd, 1, 0, 0)), (64, (.iaload, 1, 0, 0)), (65, (.goto 35, 3, 0, 0)), (68, (.iload_n 2, 1, 0, 0)), (69, (.iconst 2, 1, 0, 0)), (70, (.if_icmp .ne 12, 3, 0, 0)), (73, (.aload_n 0, 1, 0, 0)), (74, (.getfield 41, 1447, 12, 33)), (77, (.iload_n 1, 1, 0, 0)), (78, (.iaload, 1, 0, 0)), (79, (.goto 21, 3, 0, 0)), (82, (.iload_n 2, 1, 0, 0)), (83, (.iconst 3, 1, 0, 0)), (84, (.if_icmp .ne 11, 3, 0, 0)), (87, (.aload_n 0, 1, 0, 0)), (88, (.iload_n 1, 1, 0, 0)), (89, (.invokevirtual 381, 1832, 205, 2)), (92, (.goto 8, 3, 0, 0)), (95, (.aload_n 0, 1, 0, 0)), (96, (.iload_n 1, 1, 0, 0)), (97, (.invokevirtual 406, 1855, 222, 2)), (100, (.ireturn, 1, 0, 0))]
noncomputable def po_231 : List (Nat × mOp) := [(0, (.aload_n 0, 1, 0, 0)), (1, (.iconst 0, 1, 0, 0)), (2, (.putfield 3, 1431, 12, 0)), (5, (.aload_n 0, 1, 0, 0)), (6, (.iload_n 1, 1, 0, 0)), (7, (.iconst 0, 1, 0, 0)), (8, (.aload_n 0, 1, 0, 0)), (9, (.getfield 186, 1458, 12, 54)), (12, (.iconst 1, 1, 0, 0)), (13, (.isub, 1, 0, 0)), (14, (.invokestatic 400, 1848, 162, 3)), (17, (.iconst 1, 1, 0, 0)), (18, (.iconst 0, 1, 0, 0)), (19, (.invokevirtual 232, 1624, 161, 4)), (22, (.ifCond .eq 18, 3, 0, 0)), (25, (.aload_n 0, 1, 0, 0)), (26, (.iload_n 2, 1, 0, 0)), (27, (.iconst 0, 1, 0, 0)), (28, (.iconst 1, 1, 0, 0)), (29, (.invokestatic 400, 1848, 162, 3)), (32, (.iconst 2, 1, 0, 0)), (33, (.iconst 1, 1, 0, 0)), (34, (.invokevirtual 232, 1624, 161, 4)), (37, (.ifCond .ne 5, 3, 0, 0)), (40, (.iconst 0, 1, 0, 0)), (41, (.ireturn, 1, 0, 0)), (42, (.aload_n 0, 1, 0, 0)), (43, (.getfield 44, 1448, 12, 35)), (46, (.iconst 2, 1, 0, 0)), (47, (.iload_n 1, 1, 0, 0)), (48, (.imul, 1, 0, 0)), (49, (.iload_n 2, 1, 0, 0)), (50, (.iadd, 1, 0, 0)), (51, (.iaload, 1, 0, 0)), (52, (.ireturn, 1, 0, 0))]
noncomputable def po_232 : List (Nat × mOp) := [(0, (.aload_n 0, 1, 0, 0)), (1, (.iconst 0, 1, 0, 0)), (2, (.putfield 3, 1431, 12, 0)), (5, (.aload_n 0, 1, 0, 0)), (6, (.iload_n 1, 1, 0, 0)), (7, (.iconst 1, 1, 0, 0)), (8, (.invokevirtual 418, 1879, 226, 3)), (11, (.ifCond .eq 21, 3, 0, 0)), (14, (.aload_n 0, 1, 0, 0)), (15, (.iload_n 2, 1, 0, 0)), (16, (.iconst 1, 1, 0, 0)), (17, (.invokevirtual 415, 1871, 225, 3)), (20, (.ifCond .eq 12, 3, 0, 0)), (23, (.aload_n 0, 1, 0, 0)), (24, (.iload_n 3, 1, 0, 0)), (25, (.iconst 1, 1, 0, 0)), (26, (.invokevirtual 421, 1887, 227, 3)), (29, (.ifCond .ne 5, 3, 0, 0)), (32, (.iconst 0, 1, 0, 0)), (33, (.ireturn, 1, 0, 0)), (34, (.aload_n 0, 1, 0, 0)), (35, (.invokevirtual 339, 1766, 204, 1)), (38, (.aload_n 0, 1, 0, 0)), (39, (.iload_n 1, 1, 0, 0)), (40, (.iload_n 2, 1, 0, 0)), (41, (.iload_n 3, 1, 0, 0)), (42, (.invokevirtual 372, 1790, 207, 4)), (45, (.ireturn, 1, 0, 0))]
noncomputable def po_233 : List (Nat × mOp) := [(0, (.aload_n 0, 1, 0, 0)), (1, (.iconst 0, 1, 0, 0)), (2, (.putfield 3, 1431, 12, 0)), (5, (.aload_n 0, 1, 0, 0)), (6, (.iload_n 1, 1, 0, 0)), (7, (.iconst 0, 1, 0, 0)), (8, (.bipush 20, 2, 0, 0)), (10, (.invokestatic 400, 1848, 162, 3)), (13, (.ifCond .eq 82, 3, 0, 0)), (16, (.iload_n 2, 1, 0, 0)), (17, (.iconst 0, 1, 0, 0)), (18, (.bipush 9, 2, 0, 0)), (20, (.invokestatic 400, 1848, 162, 3)), (23, (.ifCond .eq 72, 3, 0, 0)), (26, (.iload_n 3, 1, 0, 0)), (27, (.iconst 0, 1, 0, 0)), (28, (.bipush 99, 2, 0, 0)), (30, (.invokestatic 400, 1848, 162, 3)), (33, (.ifCond .eq 62, 3, 0, 0)), (36, (.iload 4, 2, 0, 0)), (38, (.iconst 0, 1, 0, 0)), (39, (.bipush 99, 2, 0, 0)), (41, (.invokestatic 400, 1848, 162, 3)), (44, (.ifCond .eq 51, 3, 0, 0)), (47, (.iload 5, 2, 0, 0)), (49, (.iconst 0, 1, 0, 0)), (50, (.bipush 99, 2, 0, 0)), (52, (.invokestatic 400, 1848, 162, 3)), (55, (.ifCond .eq 40, 3, 0, 0)), (58, (.iload 6, 2, 0, 0)), (60, (.iconst 0, 1, 0, 0)), (61, (.bipush 20, 2, 0, 0)), (63, (.invokestatic 400, 1848, 162, 3)), (66, (.ifCond .eq 29, 3, 0, 0)), (69, (.iload 7, 2, 0, 0)), (71, (.iconst 0, 1, 0, 0)), (72, (.sipush 600, 3, 0, 0)), (75, (.invokestatic 400, 1848, 162, 3)), (78, (.ifCond .eq 17, 3, 0, 0)), (81, (.iload 8, 2, 0, 0)), (83, (.iconst 0, 1, 0, 0)), (84, (.iconst 5, 1, 0, 0)), (85, (.invokestatic 400, 1848, 162, 3)), (88, (.ifCond .eq 7, 3, 0, 0)), (91, (.iconst 1, 1, 0, 0)), (92, (.goto 4, 3, 0, 0)), (95, (.iconst 0, 1, 0, 0)), (96, (.iconst 1, 1, 0, 0)), (97, (.iconst 1, 1, 0, 0)), (98, (.invokevirtual 232, 1624, 161, 4)), (101, (.ifCond .ne 5, 3, 0, 0)), (104, (.iconst 0, 1, 0, 0)), (105, (.ireturn, 1, 0, 0)), (106, (.aload_n 0, 1, 0, 0)), (107, (.iload_n 1, 1, 0, 0)), (108, (.iload_n 2, 1, 0, 0)), (109, (.iload_n 3, 1, 0, 0)), (110, (.iload 4, 2, 0, 0)), (112, (.iload 5, 2, 0, 0)), (114, (.iload 6, 2, 0, 0)), (116, (.iload 7, 2, 0, 0)), (118, (.iload 8, 2, 0, 0)), (120, (.invokevirtual 361, 1794, 206, 9)), (123, (.ireturn, 1, 0, 0))]
noncomputable def po_234 : List (Nat × mOp) := [(0, (.aload_n 0, 1, 0, 0)), (1, (.iconst 0, 1, 0, 0)), (2, (.putfield 3, 1431, 12, 0)), (5, (.aload_n 0, 1, 0, 0)), (6, (.iload_n 1, 1, 0, 0)), (7, (.iconst 1, 1, 0, 0)), (8, (.invokevirtual 418, 1879, 226, 3)), (11, (.ifCond .eq 21, 3, 0, 0)), (14, (.aload_n 0, 1, 0, 0)), (15, (.iload_n 2, 1, 0, 0)), (16, (.iconst 1, 1, 0, 0)), (17, (.invokevirtual 415, 1871, 225, 3)), (20, (.ifCond .eq 12, 3, 0, 0)), (23, (.aload_n 0, 1, 0, 0)), (24, (.iload_n 3, 1, 0, 0)), (25, (.iconst 1, 1, 0, 0)), (26, (.invokevirtual 421, 1887, 227, 3)), (29, (.ifCond .ne 5, 3, 0, 0)), (32, (.iconst 0, 1, 0, 0)), (33, (.ireturn, 1, 0, 0)), (34, (.aload_n 0, 1, 0, 0)), (35, (.invokevirtual 339, 1766, 204, 1)), (38, (.aload_n 0, 1, 0, 0)), (39, (.iload_n 1, 1, 0, 0)), (40, (.iload_n 2, 1, 0, 0)), (41, (.iload_n 3, 1, 0, 0)), (42, (.invokevirtual 368, 1782, 211, 4)), (45, (.ireturn, 1, 0, 0))]
noncomputable def po_235 : List (Nat × mOp) := [(0, (.iconst 0, 1, 0, 0)), (1, (.istore_n 1, 1, 0, 0)), (2, (.iconst 0, 1, 0, 0)), (3, (.istore_n 2, 1, 0, 0)), (4, (.iload_n 2, 1, 0, 0)), (5, (.aload_n 0, 1, 0, 0)), (6, (.getfield 183, 1457, 12, 52)), (9, (.if_icmp .ge 31, 3, 0, 0)), (12, (.iload_n 1, 1, 0, 0)), (13, (.aload_n 0, 1, 0, 0)), (14, (.getfield 74, 1477, 12, 93)), (17, (.bipush 30, 2, 0, 0)), (19, (.iload_n 2, 1, 0, 0)), (20, (.iadd, 1, 0, 0)), (21, (.iaload, 1, 0, 0)), (22, (.ifCond .ne 9, 3, 0, 0)), (25, (.iconst 1, 1, 0, 0)), (26, (.iload_n 2, 1, 0, 0)), (27, (.ishl, 1, 0, 0)), (28, (.goto 4, 3, 0, 0)), (31, (.iconst 0, 1, 0, 0)), (32, (.ior, 1, 0, 0)), (33, (.istore_n 1, 1, 0, 0)), (34, (.iinc 2 1, 3, 0, 0)), (37, (.goto (-33), 3, 0, 0)), (40, (.iload_n 1, 1, 0, 0)), (41, (.ireturn, 1, 0, 0))]
noncomputable def po_236 : List (Nat × mOp) := [(0, (.aload_n 0, 1, 0, 0)), (1, (.iconst 0, 1, 0, 0)), (2, (.putfield 3, 1431, 12, 0)), (5, (.aload_n 0, 1, 0, 0)), (6, (.iload_n 1, 1, 0, 0)), (7, (.iconst 0, 1, 0, 0)), (8, (.bipush 99, 2, 0, 0)), (10, (.invokestatic 400, 1848, 162, 3)), (13, (.ifCond .eq 16, 3, 0, 0)), (16, (.iload_n 2, 1, 0, 0)), (17, (.iconst 0, 1, 0, 0)), (18, (.iconst 2, 1, 0, 0)), (19, (.invokestatic 400, 1848, 162, 3)), (22, (.ifCond .eq 7, 3, 0, 0)), (25, (.iconst 1, 1, 0, 0)), (26, (.goto 4, 3, 0, 0)), (29, (.iconst 0, 1, 0, 0)), (30, (.iconst 1, 1, 0, 0)), (31, (.iconst 1, 1, 0, 0)), (32, (.invokevirtual 232, 1624, 161, 4)), (35, (.ifCond .ne 5, 3, 0, 0)), (38, (.iconst 0, 1, 0, 0)), (39, (.ireturn, 1, 0, 0)), (40, (.aload_n 0, 1, 0, 0)), (41, (.invokevirtual 339, 1766, 204, 1)), (44, (.iconst 0, 1, 0, 0)), (45, (.istore_n 3, 1, 0, 0)), (46, (.iload_n 3, 1, 0, 0)), (47, (.iload_n 1, 1, 0, 0)), (48, (.if_icmp .ge 13, 3, 0, 0)), (51, (.aload_n 0, 1, 0, 0)), (52, (.invokevirtual 397, 1820, 216, 1)), (55, (.iinc 3 1, 3, 0, 0)), (58, (.goto (-12), 3, 0, 0)), (61, (.iload_n 2, 1, 0, 0)), (62, (.iconst 2, 1, 0, 0)), (63, (.if_icmp .ne 10, 3, 0, 0)), (66, (.aload_n 0, 1, 0, 0)), (67, (.invokevirtual 424, 1911, 235, 1)), (70, (.goto 18, 3, 0, 0)), (73, (.aload_n 0, 1, 0, 0)), (74, (.iload_n 2, 1, 0, 0)), (75, (.ifCond .ne 8, 3, 0, 0)), (78, (.bipush 30, 2, 0, 0)), (80, (.goto 5, 3, 0, 0)), (83, (.bipush 39, 2, 0, 0)), (85, (.invokevirtual 412, 1863, 220, 2)), (88, (.ireturn, 1, 0, 0))]
noncomputable def po_237 : List (Nat × mOp) := [(0, (.aload_n 0, 1, 0, 0)), (1, (.iconst 0, 1, 0, 0)), (2, (.putfield 3, 1431, 12, 0)), (5, (.aload_n 0, 1, 0, 0)), (6, (.iload_n 1, 1, 0, 0)), (7, (.iconst 1, 1, 0, 0)), (8, (.invokevirtual 421, 1887, 227, 3)), (11, (.ifCond .ne 5, 3, 0, 0)), (14, (.iconst 0, 1, 0, 0)), (15, (.ireturn, 1, 0, 0)), (16, (.aload_n 0, 1, 0, 0)), (17, (.invokevirtual 339, 1766, 204, 1)), (20, (.iconst 0, 1, 0, 0)), (21, (.istore_n 2, 1, 0, 0)), (22, (.iload_n 2, 1, 0, 0)), (23, (.sipush 200, 3, 0, 0)), (26, (.if_icmp .gt 27, 3, 0, 0)), (29, (.aload_n 0, 1, 0, 0)), (30, (.getfield 74, 1477, 12, 93)), (33, (.bipush 30, 2, 0, 0)), (35, (.iload_n 1, 1, 0, 0)), (36, (.iadd, 1, 0, 0)), (37, (.iaload, 1, 0, 0)), (38, (.ifCond .ne 5, 3, 0, 0)), (41, (.iload_n 2, 1, 0, 0)), (42, (.ireturn, 1, 0, 0)), (43, (.aload_n 0, 1, 0, 0)), (44, (.invokevirtual 397, 1820, 216, 1)), (47, (.iinc 2 1, 3, 0, 0)), (50, (.goto (-28), 3, 0, 0)), (53, (.iconst (-1), 1, 0, 0)), (54, (.ireturn, 1, 0, 0))]
noncomputable def po_238 : List (Nat × mOp) := [(0, (.aload_n 0, 1, 0, 0)), (1, (.iconst 0, 1, 0, 0)), (2, (.putfield 3, 1431, 12, 0)), (5, (.aload_n 0, 1, 0, 0)), (6, (.iload_n 1, 1, 0, 0)), (7, (.iconst 1, 1, 0, 0)), (8, (.invokevirtual 415, 1871, 225, 3)), (11, (.ifCond .ne 5, 3, 0, 0)), (14, (.iconst 0, 1, 0, 0)), (15, (.ireturn, 1, 0, 0)), (16, (.aload_n 0, 1, 0, 0)), (17, (.invokevirtual 339, 1766, 204, 1)), (20, (.aload_n 0, 1, 0, 0)), (21, (.invokevirtual 397, 1820, 216, 1)), (24, (.aload_n 0, 1, 0, 0)), (25, (.getfield 74, 1477, 12, 93)), (28, (.bipush 12, 2, 0, 0)), (30, (.iload_n 1, 1, 0, 0)), (31, (.iadd, 1, 0, 0)), (32, (.iaload, 1, 0, 0)), (33, (.ireturn, 1, 0, 0))]
noncomputable def po_239 : List (Nat × mOp) := [(0, (.aload_n 0, 1, 0, 0)), (1, (.invokevirtual 339, 1766, 204, 1)), (4, (.iconst 0, 1, 0, 0)), (5, (.istore_n 2, 1, 0, 0)), (6, (.iload_n 2, 1, 0, 0)), (7, (.aload_n 0, 1, 0, 0)), (8, (.getfield 180, 1456, 12, 50)), (11, (.if_icmp .ge 73, 3, 0, 0)), (14, (.iconst 0, 1, 0, 0)), (15, (.istore_n 3, 1, 0, 0)), (16, (.iload_n 3, 1, 0, 0)), (17, (.aload_n 0, 1, 0, 0)), (18, (.getfield 183, 1457, 12, 52)), (21, (.if_icmp .ge 57, 3, 0, 0)), (24, (.aload_n 0, 1, 0, 0)), (25, (.iload_n 2, 1, 0, 0)), (26, (.iload_n 1, 1, 0, 0)), (27, (.iload_n 3, 1, 0, 0)), (28, (.invokevirtual 372, 1790, 207, 4)), (31, (.istore 4, 2, 0, 0)), (33, (.aload_n 0, 1, 0, 0)), (34, (.getfield 89, 1483, 12, 105)), (37, (.bipush 9, 2, 0, 0)), (39, (.iload_n 2, 1, 0, 0)), (40, (.imul, 1, 0, 0)), (41, (.iload_n 3, 1, 0, 0)), (42, (.iadd, 1, 0, 0)), (43, (.iload 4, 2, 0, 0)), (45, (.aload_n 0, 1, 0, 0)), (46, (.getfield 74, 1477, 12, 93)), (49, (.bipush 30, 2, 0, 0)), (51, (.iload_n 3, 1, 0, 0)), (52, (.iadd, 1, 0, 0)), (53, (.iaload, 1, 0, 0)), (54, (.if_icmp .le 15, 3, 0, 0)), (57, (.aload_n 0, 1, 0, 0)), (58, (.getfield 74, 1477, 12, 93)), (61, (.bipush 30, 2, 0, 0)), (63, (.iload_n 3, 1, 0, 0)), (64, (.iadd, 1, 0, 0)), (65, (.iaload, 1, 0, 0)), (66, (.goto 5, 3, 0, 0)), (69, (.iload 4, 2, 0, 0)), (71, (.iastore, 1, 0, 0)), (72, (.iinc 3 1, 3, 0, 0)), (75, (.goto (-59), 3, 0, 0)), (78, (.iinc 2 1, 3, 0, 0)), (81, (.goto (-75), 3, 0, 0)), (84, (.iconst 0, 1, 0, 0)), (85, (.istore_n 2, 1, 0, 0)), (86, (.iload_n 2, 1, 0, 0)), (87, (.iconst 1, 1, 0, 0)), (88, (.aload_n 0, 1, 0, 0)), (89, (.getfield 183, 1457, 12, 52)), (92, (.ishl, 1, 0, 0)), (93, (.if_icmp .ge 24, 3, 0, 0)), (96, (.aload_n 0, 1, 0, 0)), (97, (.getfield 86, 1482, 12, 103)), (100, (.aload_n 0, 1, 0, 0)), (101, (.getfield 180, 1456, 12, 50)), (104, (.bipush 9, 2, 0, 0)), (106, (.ishl, 1, 0, 0)), (107, (.iload_n 2, 1, 0, 0)), (108, (.ior, 1, 0, 0)), (109, (.iconst 0, 1, 0, 0)), (110, (.iastore, 1, 0, 0)), (111, (.iinc 2 1, 3, 0, 0)), (114, (.goto (-28), 3, 0, 0)), (117, (.aload_n 0, 1, 0, 0)), (118, (.getfield 180, 1456, 12, 50)), (121, (.iconst 1, 1, 0, 0)), (122, (.isub, 1, 0, 0)), (123, (.istore_n 2, 1, 0, 0)), (124, (.iload_n 2, 1, 0, 0)), (125, (.ifCond .lt 113, 3, 0, 0)), (128, (.iconst 0, 1, 0, 0)), (129, (.istore_n 3, 1, 0, 0)), (130, (.iload_n 3, 1, 0, 0)), (131, (.iconst 1, 1, 0, 0)), (132, (.aload_n 0, 1, 0, 0)), (133, (.getfield 183, 1457, 12, 52)), (136, (.ishl, 1, 0, 0)), (137, (.if_icmp .ge 95, 3, 0, 0)), (140, (.aload_n 0, 1, 0, 0)), (141, (.getfield 86, 1482, 12, 103)), (144, (.iload_n 2, 1, 0, 0)), (145, (.iconst 1, 1, 0, 0)), (146, (.iadd, 1, 0, 0)), (147, (.bipush 9, 2, 0, 0)), (149, (.ishl, 1, 0, 0)), (150, (.iload_n 3, 1, 0, 0)), (151, (.ior, 1, 0, 0)), (152, (.iaload, 1, 0, 0)), (153, (.istore 4, 2, 0, 0)), (155, (.iconst 0, 1, 0, 0)), (156, (.istore 5, 2, 0, 0)), (158, (.iload 5, 2, 0, 0)), (160, (.aload_n 0, 1, 0, 0)), (161, (.getfield 183, 1457, 12, 52)), (164, (.if_icmp .ge 49, 3, 0, 0)), (167, (.aload_n 0, 1, 0, 0)), (168, (.getfield 74, 1477, 12, 93)), (171, (.bipush 18, 2, 0, 0)), (173, (.iload_n 2, 1, 0, 0)), (174, (.iadd, 1, 0, 0)), (175, (.iaload, 1, 0, 0)), (176, (.ifCond .ne 37, 3, 0, 0)), (179, (.aload_n 0, 1, 0, 0)), (180, (.iload_n 2, 1, 0, 0)), (181, (.iload 5, 2, 0, 0)), (183, (.iload_n 3, 1, 0, 0)), (184, (.iload 4, 2, 0, 0)), (186, (.invokevirtual 427, 1931, 241, 5)), (189, (.ifCond .eq 14, 3, 0, 0)), (192, (.aload_n 0, 1, 0, 0)), (193, (.iload_n 2, 1, 0, 0)), (194, (.iload 5, 2, 0, 0)), (196, (.iload_n 3, 1, 0, 0)), (197, (.invokevirtual 430, 1935, 240, 4)), (200, (.goto 5, 3, 0, 0)), (203, (.iload 4, 2, 0, 0)), (205, (.istore 4, 2, 0, 0)), (207, (.iinc 5 1, 3, 0, 0)), (210, (.goto (-52), 3, 0, 0)), (213, (.aload_n 0, 1, 0, 0)), (214, (.getfield 86, 1482, 12, 103)), (217, (.iload_n 2, 1, 0, 0)), (218, (.bipush 9, 2, 0, 0)), (220, (.ishl, 1, 0, 0)), (221, (.iload_n 3, 1, 0, 0)), (222, (.ior, 1, 0, 0)), (223, (.iload 4, 2, 0, 0)), (225, (.iastore, 1, 0, 0)), (226, (.iinc 3 1, 3, 0, 0)), (229, (.goto (-99), 3, 0, 0)), (232, (.iinc 2 (-1), 3, 0, 0)), (235, (.goto (-111), 3, 0, 0)), (238, (.iconst 0, 1, 0, 0)), (239, (.istore_n 2, 1, 0, 0)), (240, (.iconst 0, 1, 0, 0)), (241, (.istore_n 3, 1, 0, 0)), (242, (.iload_n 3, 1, 0, 0)), (243, (.aload_n 0, 1, 0, 0)), (244, (.getfield 180, 1456, 12, 50)), (247, (.if_icmp .ge 107, 3, 0, 0)), (250, (.aload_n 0, 1, 0, 0)), (251, (.getfield 92, 1484, 12, 107)), (254, (.iload_n 3, 1, 0, 0)), (255, (.iconst (-1), 1, 0, 0)), (256, (.iastore, 1, 0, 0)), (257, (.aload_n 0, 1, 0, 0)), (258, (.getfield 183, 1457, 12, 52)), (261, (.iconst 1, 1, 0, 0)), (262, (.isub, 1, 0, 0)), (263, (.istore 4, 2, 0, 0)), (265, (.iload 4, 2, 0, 0)), (267, (.ifCond .lt 60, 3, 0, 0)), (270, (.aload_n 0, 1, 0, 0)), (271, (.getfield 74, 1477, 12, 93)), (274, (.bipush 18, 2, 0, 0)), (276, (.iload_n 3, 1, 0, 0)), (277, (.iadd, 1, 0, 0)), (278, (.iaload, 1, 0, 0)), (279, (.ifCond .ne 48, 3, 0, 0)), (282, (.iload_n 2, 1, 0, 0)), (283, (.iload 4, 2, 0, 0)), (285, (.ishr, 1, 0, 0)), (286, (.iconst 1, 1, 0, 0)), (287, (.iand, 1, 0, 0)), (288, (.ifCond .ne 33, 3, 0, 0)), (291, (.aload_n 0, 1, 0, 0)), (292, (.iload_n 3, 1, 0, 0)), (293, (.iload 4, 2, 0, 0)), (295, (.iload_n 2, 1, 0, 0)), (296, (.invokevirtual 430, 1935, 240, 4)), (299, (.aload_n 0, 1, 0, 0)), (300, (.getfield 86, 1482, 12, 103)), (303, (.iload_n 3, 1, 0, 0)), (304, (.bipush 9, 2, 0, 0)), (306, (.ishl, 1, 0, 0)), (307, (.iload_n 2, 1, 0, 0)), (308, (.ior, 1, 0, 0)), (309, (.iaload, 1, 0, 0)), (310, (.if_icmp .ne 11, 3, 0, 0)), (313, (.aload_n 0, 1, 0, 0)), (314, (.getfield 92, 1484, 12, 107)), (317, (.iload_n 3, 1, 0, 0)), (318, (.iload 4, 2, 0, 0)), (320, (.iastore, 1, 0, 0)), (321, (.iinc 4 (-1), 3, 0, 0)), (324, (.goto (-59), 3, 0, 0)), (327, (.aload_n 0, 1, 0, 0)), (328, (.getfield 92, 1484, 12, 107)), (331, (.iload_n 3, 1, 0, 0)), (332, (.iaload, 1, 0, 0)), (333, (.iconst (-1), 1, 0, 0)), (334, (.if_icmp .eq 14, 3, 0, 0)), (337, (.iload_n 2, 1, 0, 0)), (338, (.iconst 1, 1, 0, 0)), (339, (.aload_n 0, 1, 0, 0)), (340, (.getfield 92, 1484, 12, 107)), (343, (.iload_n 3, 1, 0, 0)), (344, (.iaload, 1, 0, 0)), (345, (.ishl, 1, 0, 0)), (346, (.ior, 1, 0, 0)), (347, (.istore_n 2, 1, 0, 0)), (348, (.iinc 3 1, 3, 0, 0)), (351, (.goto (-109), 3, 0, 0)), (354, (.return_, 1, 0, 0))]
noncomputable def po_240 : List (Nat × mOp) := [(0, (.aload_n 0, 1, 0, 0)), (1, (.getfield 89, 1483, 12, 105)), (4, (.bipush 9, 2, 0, 0)), (6, (.iload_n 1, 1, 0, 0)), (7, (.imul, 1, 0, 0)), (8, (.iload_n 2, 1, 0, 0)), (9, (.iadd, 1, 0, 0)), (10, (.iaload, 1, 0, 0)), (11, (.aload_n 0, 1, 0, 0)), (12, (.getfield 86, 1482, 12, 103)), (15, (.iload_n 1, 1, 0, 0)), (16, (.iconst 1, 1, 0, 0)), (17, (.iadd, 1, 0, 0)), (18, (.bipush 9, 2, 0, 0)), (20, (.ishl, 1, 0, 0)), (21, (.iload_n 3, 1, 0, 0)), (22, (.ior, 1, 0, 0)), (23, (.iconst 1, 1, 0, 0)), (24, (.iload_n 2, 1, 0, 0)), (25, (.ishl, 1, 0, 0)), (26, (.ior, 1, 0, 0)), (27, (.iaload, 1, 0, 0)), (28, (.iadd, 1, 0, 0)), (29, (.ireturn, 1, 0, 0))]
noncomputable def po_241 : List (Nat × mOp) := [(0, (.iload_n 3, 1, 0, 0)), (1, (.iload_n 2, 1, 0, 0)), (2, (.ishr, 1, 0, 0)), (3, (.iconst 1, 1, 0, 0)), (4, (.iand, 1, 0, 0)), (5, (.ifCond .ne 19, 3, 0, 0)), (8, (.aload_n 0, 1, 0, 0)), (9, (.iload_n 1, 1, 0, 0)), (10, (.iload_n 2, 1, 0, 0)), (11, (.iload_n 3, 1, 0, 0)), (12, (.invokevirtual 430, 1935, 240, 4)), (15, (.iload 4, 2, 0, 0)), (17, (.if_icmp .le 7, 3, 0, 0)), (20, (.iconst 1, 1, 0, 0)), (21, (.goto 4, 3, 0, 0)), (24, (.iconst 0, 1, 0, 0)), (25, (.ireturn, 1, 0, 0))]
noncomputable def po_242 : List (Nat × mOp) := [(0, (.aload_n 0, 1, 0, 0)), (1, (.iconst 0, 1, 0, 0)), (2, (.putfield 3, 1431, 12, 0)), (5, (.aload_n 0, 1, 0, 0)), (6, (.iload_n 1, 1, 0, 0)), (7, (.iconst 1, 1, 0, 0)), (8, (.invokevirtual 415, 1871, 225, 3)), (11, (.ifCond .ne 5, 3, 0, 0)), (14, (.iconst 0, 1, 0, 0)), (15, (.ireturn, 1, 0, 0)), (16, (.aload_n 0, 1, 0, 0)), (17, (.iload_n 1, 1, 0, 0)), (18, (.invokevirtual 433, 1927, 239, 2)), (21, (.aload_n 0, 1, 0, 0)), (22, (.getfield 86, 1482, 12, 103)), (25, (.iconst 0, 1, 0, 0)), (26, (.iaload, 1, 0, 0)), (27, (.ireturn, 1, 0, 0))]
noncomputable def po_243 : List (Nat × mOp) := [(0, (.aload_n 0, 1, 0, 0)), (1, (.iconst 0, 1, 0, 0)), (2, (.putfield 3, 1431, 12, 0)), (5, (.aload_n 0, 1, 0, 0)), (6, (.iload_n 1, 1, 0, 0)), (7, (.iconst 1, 1, 0, 0)), (8, (.invokevirtual 415, 1871, 225, 3)), (11, (.ifCond .eq 12, 3, 0, 0)), (14, (.aload_n 0, 1, 0, 0)), (15, (.iload_n 2, 1, 0, 0)), (16, (.iconst 1, 1, 0, 0)), (17, (.invokevirtual 418, 1879, 226, 3)), (20, (.ifCond .ne 5, 3, 0, 0)), (23, (.iconst 0, 1, 0, 0)), (24, (.ireturn, 1, 0, 0)), (25, (.aload_n 0, 1, 0, 0)), (26, (.iload_n 1, 1, 0, 0)), (27, (.invokevirtual 433, 1927, 239, 2)), (30, (.aload_n 0, 1, 0, 0)), (31, (.getfield 92, 1484, 12, 107)), (34, (.iload_n 2, 1, 0, 0)), (35, (.iaload, 1, 0, 0)), (36, (.ireturn, 1, 0, 0))]
noncomputable def po_244 : List (Nat × mOp) := [(0, (.iconst 0, 1, 0, 0)), (1, (.istore_n 1, 1, 0, 0)), (2, (.iconst 0, 1, 0, 0)), (3, (.istore_n 2, 1, 0, 0)), (4, (.iload_n 2, 1, 0, 0)), (5, (.aload_n 0, 1, 0, 0)), (6, (.getfield 183, 1457, 12, 52)), (9, (.if_icmp .ge 31, 3, 0, 0)), (12, (.iload_n 1, 1, 0, 0)), (13, (.aload_n 0, 1, 0, 0)), (14, (.getfield 71, 1476, 12, 91)), (17, (.bipush 30, 2, 0, 0)), (19, (.iload_n 2, 1, 0, 0)), (20, (.iadd, 1, 0, 0)), (21, (.iaload, 1, 0, 0)), (22, (.ifCond .le 9, 3, 0, 0)), (25, (.iconst 1, 1, 0, 0)), (26, (.iload_n 2, 1, 0, 0)), (27, (.ishl, 1, 0, 0)), (28, (.goto 4, 3, 0, 0)), (31, (.iconst 0, 1, 0, 0)), (32, (.ior, 1, 0, 0)), (33, (.istore_n 1, 1, 0, 0)), (34, (.iinc 2 1, 3, 0, 0)), (37, (.goto (-33), 3, 0, 0)), (40, (.iload_n 1, 1, 0, 0)), (41, (.ireturn, 1, 0, 0))]
noncomputable def po_245 : List (Nat × mOp) := [(0, (.aload_n 0, 1, 0, 0)), (1, (.iconst 0, 1, 0, 0)), (2, (.putfield 3, 1431, 12, 0)), (5, (.aload_n 0, 1, 0, 0)), (6, (.iload_n 1, 1, 0, 0)), (7, (.iconst 1, 1, 0, 0)), (8, (.invokevirtual 421, 1887, 227, 3)), (11, (.ifCond .ne 5, 3, 0, 0)), (14, (.iconst 0, 1, 0, 0)), (15, (.ireturn, 1, 0, 0)), (16, (.iconst 0, 1, 0, 0)), (17, (.istore_n 2, 1, 0, 0)), (18, (.iload_n 2, 1, 0, 0)), (19, (.sipush 4608, 3, 0, 0)), (22, (.if_icmp .ge 16, 3, 0, 0)), (25, (.aload_n 0, 1, 0, 0)), (26, (.getfield 95, 1485, 12, 109)), (29, (.iload_n 2, 1, 0, 0)), (30, (.iconst (-1), 1, 0, 0)), (31, (.iastore, 1, 0, 0)), (32, (.iinc 2 1, 3, 0, 0)), (35, (.goto (-17), 3, 0, 0)), (38, (.iload_n 1, 1, 0, 0)), (39, (.bipush 9, 2, 0, 0)), (41, (.ishl, 1, 0, 0)), (42, (.iconst 1, 1, 0, 0)), (43, (.iload_n 1, 1, 0, 0)), (44, (.ishl, 1, 0, 0)), (45, (.ior, 1, 0, 0)), (46, (.istore_n 2, 1, 0, 0)), (47, (.aload_n 0, 1, 0, 0)), (48, (.getfield 95, 1485, 12, 109)), (51, (.iload_n 2, 1, 0, 0)), (52, (.iconst 0, 1, 0, 0)), (53, (.iastore, 1, 0, 0)), (54, (.aload_n 0, 1, 0, 0)), (55, (.getfield 98, 1486, 12, 111)), (58, (.iconst 0, 1, 0, 0)), (59, (.iload_n 2, 1, 0, 0)), (60, (.iastore, 1, 0, 0)), (61, (.iconst 1, 1, 0, 0)), (62, (.istore_n 3, 1, 0, 0)), (63, (.iconst 0, 1, 0, 0)), (64, (.istore 4, 2, 0, 0)), (66, (.iload 4, 2, 0, 0)), (68, (.iload_n 3, 1, 0, 0)), (69, (.if_icmp .ge 152, 3, 0, 0)), (72, (.aload_n 0, 1, 0, 0)), (73, (.getfield 98, 1486, 12, 111)), (76, (.iload 4, 2, 0, 0)), (78, (.iaload, 1, 0, 0)), (79, (.sipush 511, 3, 0, 0)), (82, (.iand, 1, 0, 0)), (83, (.istore 5, 2, 0, 0)), (85, (.aload_n 0, 1, 0, 0)), (86, (.invokevirtual 436, 1947, 244, 1)), (89, (.iload 5, 2, 0, 0)), (91, (.iconst (-1), 1, 0, 0)), (92, (.ixor, 1, 0, 0)), (93, (.iand, 1, 0, 0)), (94, (.ifCond .ne 16, 3, 0, 0)), (97, (.aload_n 0, 1, 0, 0)), (98, (.getfield 95, 1485, 12, 109)), (101, (.aload_n 0, 1, 0, 0)), (102, (.getfield 98, 1486, 12, 111)), (105, (.iload 4, 2, 0, 0)), (107, (.iaload, 1, 0, 0)), (108, (.iaload, 1, 0, 0)), (109, (.ireturn, 1, 0, 0)), (110, (.aload_n 0, 1, 0, 0)), (111, (.aload_n 0, 1, 0, 0)), (112, (.getfield 98, 1486, 12, 111)), (115, (.iload 4, 2, 0, 0)), (117, (.iaload, 1, 0, 0)), (118, (.bipush 9, 2, 0, 0)), (120, (.ishr, 1, 0, 0)), (121, (.invokevirtual 381, 1832, 205, 2)), (124, (.istore 6, 2, 0, 0)), (126, (.iconst 0, 1, 0, 0)), (127, (.istore 7, 2, 0, 0)), (129, (.iload 7, 2, 0, 0)), (131, (.aload_n 0, 1, 0, 0)), (132, (.getfield 183, 1457, 12, 52)), (135, (.if_icmp .ge 80, 3, 0, 0)), (138, (.iload 7, 2, 0, 0)), (140, (.bipush 9, 2, 0, 0)), (142, (.ishl, 1, 0, 0)), (143, (.iload 5, 2, 0, 0)), (145, (.ior, 1, 0, 0)), (146, (.iconst 1, 1, 0, 0)), (147, (.iload 7, 2, 0, 0)), (149, (.ishl, 1, 0, 0)), (150, (.ior, 1, 0, 0)), (151, (.istore 8, 2, 0, 0)), (153, (.iload 6, 2, 0, 0)), (155, (.iload 7, 2, 0, 0)), (157, (.ishr, 1, 0, 0)), (158, (.iconst 1, 1, 0, 0)), (159, (.iand, 1, 0, 0)), (160, (.ifCond .eq 49, 3, 0, 0)), (163, (.aload_n 0, 1, 0, 0)), (164, (.getfield 95, 1485, 12, 109)), (167, (.iload 8, 2, 0, 0)), (169, (.iaload, 1, 0, 0)), (170, (.iconst (-1), 1, 0, 0)), (171, (.if_icmp .eq 6, 3, 0, 0)), (174, (.goto 35, 3, 0, 0)), (177, (.aload_n 0, 1, 0, 0)), (178, (.getfield 95, 1485, 12, 109)), (181, (.iload 8, 2, 0, 0)), (183, (.aload_n 0, 1, 0, 0)), (184, (.getfield 95, 1485, 12, 109)), (187, (.aload_n 0, 1, 0, 0)), (188, (.getfield 98, 1486, 12, 111)), (191, (.iload 4, 2, 0, 0)), (193, (.iaload, 1, 0, 0)), (194, (.iaload, 1, 0, 0)), (195, (.iconst 1, 1, 0, 0)), (196, (.iadd, 1, 0, 0)), (197, (.iastore, 1, 0, 0)), (198, (.aload_n 0, 1, 0, 0)), (199, (.getfield 98, 1486, 12, 111)), (202, (.iload_n 3, 1, 0, 0)), (203, (.iload 8, 2, 0, 0)), (205, (.iastore, 1, 0, 0)), (206, (.iinc 3 1, 3, 0, 0)), (209, (.iinc 7 1, 3, 0, 0)), (212, (.goto (-83), 3, 0, 0)), (215, (.iinc 4 1, 3, 0, 0)), (218, (.goto (-152), 3, 0, 0)), (221, (.iconst (-1), 1, 0, 0)), (222, (.ireturn, 1, 0, 0))]
noncomputable def po_246 : List (Nat × mOp) := [(0, (.iconst 0, 1, 0, 0)), (1, (.istore_n 1, 1, 0, 0)), (2, (.iconst 0, 1, 0, 0)), (3, (.istore_n 2, 1, 0, 0)), (4, (.iload_n 2, 1, 0, 0)), (5, (.bipush 9, 2, 0, 0)), (7, (.if_icmp .ge 17, 3, 0, 0)), (10, (.iload_n 1, 1, 0, 0)), (11, (.iload_n 0, 1, 0, 0)), (12, (.iload_n 2, 1, 0, 0)), (13, (.ishr, 1, 0, 0)), (14, (.iconst 1, 1, 0, 0)), (15, (.iand, 1, 0, 0)), (16, (.iadd, 1, 0, 0)), (17, (.istore_n 1, 1, 0, 0)), (18, (.iinc 2 1, 3, 0, 0)), (21, (.goto (-17), 3, 0, 0)), (24, (.iload_n 1, 1, 0, 0)), (25, (.ireturn, 1, 0, 0))]
noncomputable def po_247 : List (Nat × mOp) := [(0, (.iload_n 1, 1, 0, 0)), (1, (.istore_n 2, 1, 0, 0)), (2, (.iconst 0, 1, 0, 0)), (3, (.istore_n 3, 1, 0, 0)), (4, (.iload_n 3, 1, 0, 0)), (5, (.aload_n 0, 1, 0, 0)), (6, (.getfield 183, 1457, 12, 52)), (9, (.if_icmp .ge 30, 3, 0, 0)), (12, (.iload_n 2, 1, 0, 0)), (13, (.iload_n 1, 1, 0, 0)), (14, (.iload_n 3, 1, 0, 0)), (15, (.ishr, 1, 0, 0)), (16, (.iconst 1, 1, 0, 0)), (17, (.iand, 1, 0, 0)), (18, (.iconst 1, 1, 0, 0)), (19, (.if_icmp .ne 11, 3, 0, 0)), (22, (.aload_n 0, 1, 0, 0)), (23, (.iload_n 3, 1, 0, 0)), (24, (.invokevirtual 381, 1832, 205, 2)), (27, (.goto 4, 3, 0, 0)), (30, (.iconst 0, 1, 0, 0)), (31, (.ior, 1, 0, 0)), (32, (.istore_n 2, 1, 0, 0)), (33, (.iinc 3 1, 3, 0, 0)), (36, (.goto (-32), 3, 0, 0)), (39, (.iload_n 2, 1, 0, 0)), (40, (.ireturn, 1, 0, 0))]
noncomputable def po_248 : List (Nat × mOp) := [(0, (.aload_n 0, 1, 0, 0)), (1, (.iconst 0, 1, 0, 0)), (2, (.putfield 3, 1431, 12, 0)), (5, (.iconst (-1), 1, 0, 0)), (6, (.istore_n 1, 1, 0, 0)), (7, (.iconst 0, 1, 0, 0)), (8, (.istore_n 2, 1, 0, 0)), (9, (.iload_n 2, 1, 0, 0)), (10, (.iconst 1, 1, 0, 0)), (11, (.aload_n 0, 1, 0, 0)), (12, (.getfield 183, 1457, 12, 52)), (15, (.ishl, 1, 0, 0)), (16, (.if_icmp .ge 42, 3, 0, 0)), (19, (.aload_n 0, 1, 0, 0)), (20, (.invokevirtual 436, 1947, 244, 1)), (23, (.aload_n 0, 1, 0, 0)), (24, (.iload_n 2, 1, 0, 0)), (25, (.invokevirtual 439, 1955, 247, 2)), (28, (.iconst (-1), 1, 0, 0)), (29, (.ixor, 1, 0, 0)), (30, (.iand, 1, 0, 0)), (31, (.ifCond .ne 21, 3, 0, 0)), (34, (.iload_n 1, 1, 0, 0)), (35, (.iconst (-1), 1, 0, 0)), (36, (.if_icmp .eq 14, 3, 0, 0)), (39, (.iload_n 2, 1, 0, 0)), (40, (.invokestatic 442, 1959, 246, 1)), (43, (.iload_n 1, 1, 0, 0)), (44, (.invokestatic 442, 1959, 246, 1)), (47, (.if_icmp .ge 5, 3, 0, 0)), (50, (.iload_n 2, 1, 0, 0)), (51, (.istore_n 1, 1, 0, 0)), (52, (.iinc 2 1, 3, 0, 0)), (55, (.goto (-46), 3, 0, 0)), (58, (.iload_n 1, 1, 0, 0)), (59, (.ireturn, 1, 0, 0))]
noncomputable def po_249 : List (Nat × mOp) := [(0, (.aload_n 0, 1, 0, 0)), (1, (.iconst 0, 1, 0, 0)), (2, (.putfield 3, 1431, 12, 0)), (5, (.aload_n 0, 1, 0, 0)), (6, (.iload_n 1, 1, 0, 0)), (7, (.iconst 1, 1, 0, 0)), (8, (.invokevirtual 421, 1887, 227, 3)), (11, (.ifCond .eq 12, 3, 0, 0)), (14, (.aload_n 0, 1, 0, 0)), (15, (.iload_n 2, 1, 0, 0)), (16, (.iconst 1, 1, 0, 0)), (17, (.invokevirtual 421, 1887, 227, 3)), (20, (.ifCond .ne 5, 3, 0, 0)), (23, (.iconst 0, 1, 0, 0)), (24, (.ireturn, 1, 0, 0)), (25, (.iconst 1, 1, 0, 0)), (26, (.iload_n 1, 1, 0, 0)), (27, (.ishl, 1, 0, 0)), (28, (.istore_n 3, 1, 0, 0)), (29, (.iconst 0, 1, 0, 0)), (30, (.istore 4, 2, 0, 0)), (32, (.iload 4, 2, 0, 0)), (34, (.bipush 9, 2, 0, 0)), (36, (.if_icmp .ge 27, 3, 0, 0)), (39, (.iload_n 3, 1, 0, 0)), (40, (.iload_n 2, 1, 0, 0)), (41, (.ishr, 1, 0, 0)), (42, (.iconst 1, 1, 0, 0)), (43, (.iand, 1, 0, 0)), (44, (.iconst 1, 1, 0, 0)), (45, (.if_icmp .ne 6, 3, 0, 0)), (48, (.iload 4, 2, 0, 0)), (50, (.ireturn, 1, 0, 0)), (51, (.aload_n 0, 1, 0, 0)), (52, (.iload_n 3, 1, 0, 0)), (53, (.invokevirtual 439, 1955, 247, 2)), (56, (.istore_n 3, 1, 0, 0)), (57, (.iinc 4 1, 3, 0, 0)), (60, (.goto (-28), 3, 0, 0)), (63, (.iconst (-1), 1, 0, 0)), (64, (.ireturn, 1, 0, 0))]
noncomputable def po_250 : List (Nat × mOp) := [(0, (.aload_n 0, 1, 0, 0)), (1, (.iconst 0, 1, 0, 0)), (2, (.putfield 3, 1431, 12, 0)), (5, (.iconst 0, 1, 0, 0)), (6, (.istore_n 1, 1, 0, 0)), (7, (.iconst 0, 1, 0, 0)), (8, (.istore_n 2, 1, 0, 0)), (9, (.iconst 0, 1, 0, 0)), (10, (.istore_n 3, 1, 0, 0)), (11, (.iload_n 3, 1, 0, 0)), (12, (.aload_n 0, 1, 0, 0)), (13, (.getfield 183, 1457, 12, 52)), (16, (.if_icmp .ge 58, 3, 0, 0)), (19, (.iload_n 1, 1, 0, 0)), (20, (.iload_n 3, 1, 0, 0)), (21, (.ishr, 1, 0, 0)), (22, (.iconst 1, 1, 0, 0)), (23, (.iand, 1, 0, 0)), (24, (.iconst 1, 1, 0, 0)), (25, (.if_icmp .ne 6, 3, 0, 0)), (28, (.goto 40, 3, 0, 0)), (31, (.iconst 1, 1, 0, 0)), (32, (.iload_n 3, 1, 0, 0)), (33, (.ishl, 1, 0, 0)), (34, (.istore 4, 2, 0, 0)), (36, (.iconst 0, 1, 0, 0)), (37, (.istore 5, 2, 0, 0)), (39, (.iload 5, 2, 0, 0)), (41, (.bipush 9, 2, 0, 0)), (43, (.if_icmp .ge 17, 3, 0, 0)), (46, (.aload_n 0, 1, 0, 0)), (47, (.iload 4, 2, 0, 0)), (49, (.invokevirtual 439, 1955, 247, 2)), (52, (.istore 4, 2, 0, 0)), (54, (.iinc 5 1, 3, 0, 0)), (57, (.goto (-18), 3, 0, 0)), (60, (.iload_n 1, 1, 0, 0)), (61, (.iload 4, 2, 0, 0)), (63, (.ior, 1, 0, 0)), (64, (.istore_n 1, 1, 0, 0)), (65, (.iinc 2 1, 3, 0, 0)), (68, (.iinc 3 1, 3, 0, 0)), (71, (.goto (-60), 3, 0, 0)), (74, (.iload_n 2, 1, 0, 0)), (75, (.ireturn, 1, 0, 0))]
noncomputable def po_251 : List (Nat × mOp) := [(0, (.aload_n 0, 1, 0, 0)), (1, (.getfield 74, 1477, 12, 93)), (4, (.bipush 30, 2, 0, 0)), (6, (.iload_n 3, 1, 0, 0)), (7, (.iadd, 1, 0, 0)), (8, (.iaload, 1, 0, 0)), (9, (.aload_n 0, 1, 0, 0)), (10, (.iload_n 1, 1, 0, 0)), (11, (.iload_n 2, 1, 0, 0)), (12, (.iload_n 3, 1, 0, 0)), (13, (.invokevirtual 372, 1790, 207, 4)), (16, (.isub, 1, 0, 0)), (17, (.invokestatic 375, 1809, 210, 1)), (20, (.ireturn, 1, 0, 0))]
noncomputable def po_252 : List (Nat × mOp) := [(0, (.iconst 1, 1, 0, 0)), (1, (.istore_n 3, 1, 0, 0)), (2, (.iconst 0, 1, 0, 0)), (3, (.istore 4, 2, 0, 0)), (5, (.iload 4, 2, 0, 0)), (7, (.aload_n 0, 1, 0, 0)), (8, (.getfield 183, 1457, 12, 52)), (11, (.if_icmp .ge 48, 3, 0, 0)), (14, (.iload_n 3, 1, 0, 0)), (15, (.ifCond .eq 36, 3, 0, 0)), (18, (.aload_n 0, 1, 0, 0)), (19, (.getfield 83, 1480, 12, 99)), (22, (.iload 4, 2, 0, 0)), (24, (.iaload, 1, 0, 0)), (25, (.iconst (-1), 1, 0, 0)), (26, (.if_icmp .eq 21, 3, 0, 0)), (29, (.aload_n 0, 1, 0, 0)), (30, (.iload_n 1, 1, 0, 0)), (31, (.iload_n 2, 1, 0, 0)), (32, (.iload 4, 2, 0, 0)), (34, (.invokevirtual 445, 1978, 251, 4)), (37, (.aload_n 0, 1, 0, 0)), (38, (.getfield 83, 1480, 12, 99)), (41, (.iload 4, 2, 0, 0)), (43, (.iaload, 1, 0, 0)), (44, (.if_icmp .ne 7, 3, 0, 0)), (47, (.iconst 1, 1, 0, 0)), (48, (.goto 4, 3, 0, 0)), (51, (.iconst 0, 1, 0, 0)), (52, (.istore_n 3, 1, 0, 0)), (53, (.iinc 4 1, 3, 0, 0)), (56, (.goto (-51), 3, 0, 0)), (59, (.iload_n 3, 1, 0, 0)), (60, (.ireturn, 1, 0, 0))]
noncomputable def po_253 : List (Nat × mOp) := [(0, (.aload_n 0, 1, 0, 0)), (1, (.iconst 0, 1, 0, 0)), (2, (.putfield 3, 1431, 12, 0)), (5, (.aload_n 0, 1, 0, 0)), (6, (.iload_n 1, 1, 0, 0)), (7, (.iconst 0, 1, 0, 0)), (8, (.iconst 1, 1, 0, 0)), (9, (.invokestatic 400, 1848, 162, 3)), (12, (.iconst 1, 1, 0, 0)), (13, (.iconst 1, 1, 0, 0)), (14, (.invokevirtual 232, 1624, 161, 4)), (17, (.ifCond .ne 5, 3, 0, 0)), (20, (.iconst 0, 1, 0, 0)), (21, (.ireturn, 1, 0, 0)), (22, (.aload_n 0, 1, 0, 0)), (23, (.invokevirtual 339, 1766, 204, 1)), (26, (.iconst 0, 1, 0, 0)), (27, (.istore_n 2, 1, 0, 0)), (28, (.iconst (-1), 1, 0, 0)), (29, (.istore_n 3, 1, 0, 0)), (30, (.iconst 0, 1, 0, 0)), (31, (.istore 4, 2, 0, 0)), (33, (.iload 4, 2, 0, 0)), (35, (.aload_n 0, 1, 0, 0)), (36, (.getfield 180, 1456, 12, 50)), (39, (.if_icmp .ge 62, 3, 0, 0)), (42, (.iconst 0, 1, 0, 0)), (43, (.istore 5, 2, 0, 0)), (45, (.iload 5, 2, 0, 0)), (47, (.aload_n 0, 1, 0, 0)), (48, (.getfield 177, 1455, 12, 48)), (51, (.if_icmp .ge 44, 3, 0, 0)), (54, (.aload_n 0, 1, 0, 0)), (55, (.iload 4, 2, 0, 0)), (57, (.iload 5, 2, 0, 0)), (59, (.invokevirtual 448, 1974, 252, 3)), (62, (.ifCond .ne 6, 3, 0, 0)), (65, (.goto 24, 3, 0, 0)), (68, (.iinc 2 1, 3, 0, 0)), (71, (.iload_n 3, 1, 0, 0)), (72, (.iconst (-1), 1, 0, 0)), (73, (.if_icmp .ne 14, 3, 0, 0)), (76, (.bipush 10, 2, 0, 0)), (78, (.iload 4, 2, 0, 0)), (80, (.imul, 1, 0, 0)), (81, (.iload 5, 2, 0, 0)), (83, (.iadd, 1, 0, 0)), (84, (.goto 4, 3, 0, 0)), (87, (.iload_n 3, 1, 0, 0)), (88, (.istore_n 3, 1, 0, 0)), (89, (.iinc 5 1, 3, 0, 0)), (92, (.goto (-47), 3, 0, 0)), (95, (.iinc 4 1, 3, 0, 0)), (98, (.goto (-65), 3, 0, 0)), (101, (.iload_n 1, 1, 0, 0)), (102, (.ifCond .ne 7, 3, 0, 0)), (105, (.iload_n 2, 1, 0, 0)), (106, (.goto 4, 3, 0, 0)), (109, (.iload_n 3, 1, 0, 0)), (110, (.ireturn, 1, 0, 0))]
noncomputable def po_254 : List (Nat × mOp) := [(0, (.iconst 0, 1, 0, 0)), (1, (.istore_n 2, 1, 0, 0)), (2, (.iload_n 2, 1, 0, 0)), (3, (.bipush 99, 2, 0, 0)), (5, (.if_icmp .gt 16, 3, 0, 0)), (8, (.aload_n 0, 1, 0, 0)), (9, (.getfield 101, 1487, 12, 113)), (12, (.iload_n 2, 1, 0, 0)), (13, (.iconst 0, 1, 0, 0)), (14, (.iastore, 1, 0, 0)), (15, (.iinc 2 1, 3, 0, 0)), (18, (.goto (-16), 3, 0, 0)), (21, (.iconst 0, 1, 0, 0)), (22, (.istore_n 2, 1, 0, 0)), (23, (.iconst 0, 1, 0, 0)), (24, (.istore_n 3, 1, 0, 0)), (25, (.iload_n 3, 1, 0, 0)), (26, (.aload_n 0, 1, 0, 0)), (27, (.getfield 180, 1456, 12, 50)), (30, (.if_icmp .ge 84, 3, 0, 0)), (33, (.iconst 0, 1, 0, 0)), (34, (.istore 4, 2, 0, 0)), (36, (.iload 4, 2, 0, 0)), (38, (.aload_n 0, 1, 0, 0)), (39, (.getfield 177, 1455, 12, 48)), (42, (.if_icmp .ge 66, 3, 0, 0)), (45, (.aload_n 0, 1, 0, 0)), (46, (.iload_n 3, 1, 0, 0)), (47, (.iload 4, 2, 0, 0)), (49, (.invokevirtual 448, 1974, 252, 3)), (52, (.ifCond .ne 6, 3, 0, 0)), (55, (.goto 47, 3, 0, 0)), (58, (.aload_n 0, 1, 0, 0)), (59, (.iload_n 3, 1, 0, 0)), (60, (.iload 4, 2, 0, 0)), (62, (.iload_n 1, 1, 0, 0)), (63, (.invokevirtual 445, 1978, 251, 4)), (66, (.istore 5, 2, 0, 0)), (68, (.aload_n 0, 1, 0, 0)), (69, (.getfield 101, 1487, 12, 113)), (72, (.iload 5, 2, 0, 0)), (74, (.dup2, 1, 0, 0)), (75, (.iaload, 1, 0, 0)), (76, (.iconst 1, 1, 0, 0)), (77, (.iadd, 1, 0, 0)), (78, (.iastore, 1, 0, 0)), (79, (.aload_n 0, 1, 0, 0)), (80, (.getfield 101, 1487, 12, 113)), (83, (.iload 5, 2, 0, 0)), (85, (.iaload, 1, 0, 0)), (86, (.iload_n 2, 1, 0, 0)), (87, (.if_icmp .le 13, 3, 0, 0)), (90, (.aload_n 0, 1, 0, 0)), (91, (.getfield 101, 1487, 12, 113)), (94, (.iload 5, 2, 0, 0)), (96, (.iaload, 1, 0, 0)), (97, (.goto 4, 3, 0, 0)), (100, (.iload_n 2, 1, 0, 0)), (101, (.istore_n 2, 1, 0, 0)), (102, (.iinc 4 1, 3, 0, 0)), (105, (.goto (-69), 3, 0, 0)), (108, (.iinc 3 1, 3, 0, 0)), (111, (.goto (-86), 3, 0, 0)), (114, (.iload_n 2, 1, 0, 0)), (115, (.ireturn, 1, 0, 0))]
noncomputable def po_255 : List (Nat × mOp) := [(0, (.aload_n 0, 1, 0, 0)), (1, (.iconst 0, 1, 0, 0)), (2, (.putfield 3, 1431, 12, 0)), (5, (.aload_n 0, 1, 0, 0)), (6, (.iload_n 1, 1, 0, 0)), (7, (.iconst 0, 1, 0, 0)), (8, (.iconst 1, 1, 0, 0)), (9, (.invokestatic 400, 1848, 162, 3)), (12, (.iconst 1, 1, 0, 0)), (13, (.iconst 1, 1, 0, 0)), (14, (.invokevirtual 232, 1624, 161, 4)), (17, (.ifCond .ne 5, 3, 0, 0)), (20, (.iconst 0, 1, 0, 0)), (21, (.ireturn, 1, 0, 0)), (22, (.aload_n 0, 1, 0, 0)), (23, (.invokevirtual 339, 1766, 204, 1)), (26, (.iconst (-1), 1, 0, 0)), (27, (.istore_n 2, 1, 0, 0)), (28, (.iconst (-1), 1, 0, 0)), (29, (.istore_n 3, 1, 0, 0)), (30, (.iconst 0, 1, 0, 0)), (31, (.istore 4, 2, 0, 0)), (33, (.iload 4, 2, 0, 0)), (35, (.aload_n 0, 1, 0, 0)), (36, (.getfield 183, 1457, 12, 52)), (39, (.if_icmp .ge 51, 3, 0, 0)), (42, (.aload_n 0, 1, 0, 0)), (43, (.getfield 83, 1480, 12, 99)), (46, (.iload 4, 2, 0, 0)), (48, (.iaload, 1, 0, 0)), (49, (.iconst (-1), 1, 0, 0)), (50, (.if_icmp .eq 6, 3, 0, 0)), (53, (.goto 31, 3, 0, 0)), (56, (.aload_n 0, 1, 0, 0)), (57, (.iload 4, 2, 0, 0)), (59, (.invokevirtual 451, 1986, 254, 2)), (62, (.istore 5, 2, 0, 0)), (64, (.iload_n 2, 1, 0, 0)), (65, (.iconst (-1), 1, 0, 0)), (66, (.if_icmp .eq 12, 3, 0, 0)), (69, (.iload 5, 2, 0, 0)), (71, (.iload_n 3, 1, 0, 0)), (72, (.if_icmp .lt 6, 3, 0, 0)), (75, (.goto 9, 3, 0, 0)), (78, (.iload 4, 2, 0, 0)), (80, (.istore_n 2, 1, 0, 0)), (81, (.iload 5, 2, 0, 0)), (83, (.istore_n 3, 1, 0, 0)), (84, (.iinc 4 1, 3, 0, 0)), (87, (.goto (-54), 3, 0, 0)), (90, (.iload_n 1, 1, 0, 0)), (91, (.ifCond .ne 7, 3, 0, 0)), (94, (.iload_n 2, 1, 0, 0)), (95, (.goto 4, 3, 0, 0)), (98, (.iload_n 3, 1, 0, 0)), (99, (.ireturn, 1, 0, 0))]
noncomputable def po_256 : List (Nat × mOp) := [(0, (.lload_n 0, 1, 0, 0)), (1, (.lstore 5, 2, 0, 0)), (3, (.lload_n 2, 1, 0, 0)), (4, (.lstore 7, 2, 0, 0)), (6, (.lload 7, 2, 0, 0)), (8, (.lconst 0, 1, 0, 0)), (9, (.lcmp, 1, 0, 0)), (10, (.ifCond .eq 21, 3, 0, 0)), (13, (.lload 5, 2, 0, 0)), (15, (.lload 7, 2, 0, 0)), (17, (.lrem, 1, 0, 0)), (18, (.lstore 9, 2, 0, 0)), (20, (.lload 7, 2, 0, 0)), (22, (.lstore 5, 2, 0, 0)), (24, (.lload 9, 2, 0, 0)), (26, (.lstore 7, 2, 0, 0)), (28, (.goto (-22), 3, 0, 0)), (31, (.iload 4, 2, 0, 0)), (33, (.ifCond .ne 7, 3, 0, 0)), (36, (.lload_n 0, 1, 0, 0)), (37, (.goto 4, 3, 0, 0)), (40, (.lload_n 2, 1, 0, 0)), (41, (.lload 5, 2, 0, 0)), (43, (.ldiv, 1, 0, 0)), (44, (.lreturn, 1, 0, 0))]
noncomputable def po_257 : List (Nat × mOp) := [(0, (.aload_n 0, 1, 0, 0)), (1, (.iconst 0, 1, 0, 0)), (2, (.putfield 3, 1431, 12, 0)), (5, (.aload_n 0, 1, 0, 0)), (6, (.iload_n 1, 1, 0, 0)), (7, (.iconst 1, 1, 0, 0)), (8, (.bipush 12, 2, 0, 0)), (10, (.invokestatic 400, 1848, 162, 3)), (13, (.ifCond .eq 26, 3, 0, 0)), (16, (.iload_n 2, 1, 0, 0)), (17, (.iconst 0, 1, 0, 0)), (18, (.bipush 16, 2, 0, 0)), (20, (.invokestatic 400, 1848, 162, 3)), (23, (.ifCond .eq 16, 3, 0, 0)), (26, (.iload_n 3, 1, 0, 0)), (27, (.iconst 0, 1, 0, 0)), (28, (.iconst 1, 1, 0, 0)), (29, (.invokestatic 400, 1848, 162, 3)), (32, (.ifCond .eq 7, 3, 0, 0)), (35, (.iconst 1, 1, 0, 0)), (36, (.goto 4, 3, 0, 0)), (39, (.iconst 0, 1, 0, 0)), (40, (.iconst 1, 1, 0, 0)), (41, (.iconst 1, 1, 0, 0)), (42, (.invokevirtual 232, 1624, 161, 4)), (45, (.ifCond .ne 5, 3, 0, 0)), (48, (.lconst 0, 1, 0, 0)), (49, (.lreturn, 1, 0, 0)), (50, (.iload_n 2, 1, 0, 0)), (51, (.i2l, 1, 0, 0)), (52, (.lstore 4, 2, 0, 0)), (54, (.ldc2_w 454, 1994, 16, 0)), (57, (.lstore 6, 2, 0, 0)), (59, (.iconst 1, 1, 0, 0)), (60, (.istore 8, 2, 0, 0)), (62, (.iload 8, 2, 0, 0)), (64, (.iload_n 1, 1, 0, 0)), (65, (.if_icmp .ge 27, 3, 0, 0)), (68, (.lload 4, 2, 0, 0)), (70, (.bipush 16, 2, 0, 0)), (72, (.iload_n 2, 1, 0, 0)), (73, (.isub, 1, 0, 0)), (74, (.i2l, 1, 0, 0)), (75, (.lmul, 1, 0, 0)), (76, (.lstore 4, 2, 0, 0)), (78, (.lload 6, 2, 0, 0)), (80, (.ldc2_w 454, 1994, 16, 0)), (83, (.lmul, 1, 0, 0)), (84, (.lstore 6, 2, 0, 0)), (86, (.iinc 8 1, 3, 0, 0)), (89, (.goto (-27), 3, 0, 0)), (92, (.lload 4, 2, 0, 0)), (94, (.lload 6, 2, 0, 0)), (96, (.iload_n 3, 1, 0, 0)), (97, (.invokestatic 456, 1995, 256, 3)), (100, (.lreturn, 1, 0, 0))]
noncomputable def po_258 : List (Nat × mOp) := [(0, (.iload_n 0, 1, 0, 0)), (1, (.iload_n 1, 1, 0, 0)), (2, (.if_icmp .ne 16, 3, 0, 0)), (5, (.iload_n 0, 1, 0, 0)), (6, (.ifCond .ne 8, 3, 0, 0)), (9, (.iload_n 3, 1, 0, 0)), (10, (.ineg, 1, 0, 0)), (11, (.goto 18, 3, 0, 0)), (14, (.iload_n 2, 1, 0, 0)), (15, (.goto 14, 3, 0, 0)), (18, (.iload_n 0, 1, 0, 0)), (19, (.ifCond .ne 7, 3, 0, 0)), (22, (.iload_n 3, 1, 0, 0)), (23, (.goto 6, 3, 0, 0)), (26, (.iload_n 2, 1, 0, 0)), (27, (.iconst 2, 1, 0, 0)), (28, (.idiv, 1, 0, 0)), (29, (.ireturn, 1, 0, 0))]
noncomputable def po_259 : List (Nat × mOp) := [(0, (.aload_n 0, 1, 0, 0)), (1, (.iconst 0, 1, 0, 0)), (2, (.putfield 3, 1431, 12, 0)), (5, (.aload_n 0, 1, 0, 0)), (6, (.iload_n 1, 1, 0, 0)), (7, (.iconst 0, 1, 0, 0)), (8, (.bipush 99, 2, 0, 0)), (10, (.invokestatic 400, 1848, 162, 3)), (13, (.ifCond .eq 26, 3, 0, 0)), (16, (.iload_n 2, 1, 0, 0)), (17, (.iconst 0, 1, 0, 0)), (18, (.bipush 99, 2, 0, 0)), (20, (.invokestatic 400, 1848, 162, 3)), (23, (.ifCond .eq 16, 3, 0, 0)), (26, (.iload_n 3, 1, 0, 0)), (27, (.iconst 0, 1, 0, 0)), (28, (.iconst 2, 1, 0, 0)), (29, (.invokestatic 400, 1848, 162, 3)), (32, (.ifCond .eq 7, 3, 0, 0)), (35, (.iconst 1, 1, 0, 0)), (36, (.goto 4, 3, 0, 0)), (39, (.iconst 0, 1, 0, 0)), (40, (.iconst 1, 1, 0, 0)), (41, (.iconst 1, 1, 0, 0)), (42, (.invokevirtual 232, 1624, 161, 4)), (45, (.ifCond .ne 5, 3, 0, 0)), (48, (.iconst 0, 1, 0, 0)), (49, (.ireturn, 1, 0, 0)), (50, (.iconst 0, 1, 0, 0)), (51, (.istore 4, 2, 0, 0)), (53, (.iconst (-1), 1, 0, 0)), (54, (.istore 5, 2, 0, 0)), (56, (.iconst 0, 1, 0, 0)), (57, (.istore 6, 2, 0, 0)), (59, (.iload 6, 2, 0, 0)), (61, (.iconst 4, 1, 0, 0)), (62, (.if_icmp .ge 94, 3, 0, 0)), (65, (.iload 6, 2, 0, 0)), (67, (.iconst 2, 1, 0, 0)), (68, (.idiv, 1, 0, 0)), (69, (.istore 7, 2, 0, 0)), (71, (.iload 6, 2, 0, 0)), (73, (.iconst 2, 1, 0, 0)), (74, (.irem, 1, 0, 0)), (75, (.istore 8, 2, 0, 0)), (77, (.iconst 1, 1, 0, 0)), (78, (.iload 7, 2, 0, 0)), (80, (.isub, 1, 0, 0)), (81, (.iload 8, 2, 0, 0)), (83, (.iload_n 1, 1, 0, 0)), (84, (.iload_n 2, 1, 0, 0)), (85, (.invokestatic 459, 2002, 258, 4)), (88, (.iload 7, 2, 0, 0)), (90, (.iload 8, 2, 0, 0)), (92, (.iload_n 1, 1, 0, 0)), (93, (.iload_n 2, 1, 0, 0)), (94, (.invokestatic 459, 2002, 258, 4)), (97, (.if_icmp .gt 53, 3, 0, 0)), (100, (.iconst 1, 1, 0, 0)), (101, (.iload 8, 2, 0, 0)), (103, (.isub, 1, 0, 0)), (104, (.iload 7, 2, 0, 0)), (106, (.iload_n 1, 1, 0, 0)), (107, (.iload_n 2, 1, 0, 0)), (108, (.invokestatic 459, 2002, 258, 4)), (111, (.iload 8, 2, 0, 0)), (113, (.iload 7, 2, 0, 0)), (115, (.iload_n 1, 1, 0, 0)), (116, (.iload_n 2, 1, 0, 0)), (117, (.invokestatic 459, 2002, 258, 4)), (120, (.if_icmp .le 6, 3, 0, 0)), (123, (.goto 27, 3, 0, 0)), (126, (.iinc 4 1, 3, 0, 0)), (129, (.iload 5, 2, 0, 0)), (131, (.iconst (-1), 1, 0, 0)), (132, (.if_icmp .ne 14, 3, 0, 0)), (135, (.bipush 10, 2, 0, 0)), (137, (.iload 7, 2, 0, 0)), (139, (.imul, 1, 0, 0)), (140, (.iload 8, 2, 0, 0)), (142, (.iadd, 1, 0, 0)), (143, (.goto 5, 3, 0, 0)), (146, (.iload 5, 2, 0, 0)), (148, (.istore 5, 2, 0, 0)), (150, (.iinc 6 1, 3, 0, 0)), (153, (.goto (-94), 3, 0, 0)), (156, (.iload_n 3, 1, 0, 0)), (157, (.ifCond .ne 8, 3, 0, 0)), (160, (.iload 4, 2, 0, 0)), (162, (.goto 54, 3, 0, 0)), (165, (.iload_n 3, 1, 0, 0)), (166, (.iconst 1, 1, 0, 0)), (167, (.if_icmp .ne 8, 3, 0, 0)), (170, (.iload 5, 2, 0, 0)), (172, (.goto 44, 3, 0, 0)), (175, (.iload 5, 2, 0, 0)), (177, (.iconst (-1), 1, 0, 0)), (178, (.if_icmp .ne 7, 3, 0, 0)), (181, (.iconst 0, 1, 0, 0)), (182, (.goto 34, 3, 0, 0)), (185, (.iload 5, 2, 0, 0)), (187, (.bipush 10, 2, 0, 0)), (189, (.idiv, 1, 0, 0)), (190, (.iload 5, 2, 0, 0)), (192, (.bipush 10, 2, 0, 0)), (194, (.irem, 1, 0, 0)), (195, (.iload_n 1, 1, 0, 0)), (196, (.iload_n 2, 1, 0, 0)), (197, (.invokestatic 459, 2002, 258, 4)), (200, (.iload 5, 2, 0, 0)), (202, (.bipush 10, 2, 0, 0)), (204, (.irem, 1, 0, 0)), (205, (.iload 5, 2, 0, 0)), (207, (.bipush 10, 2, 0, 0)), (209, (.idiv, 1, 0, 0)), (210, (.iload_n 1, 1, 0, 0)), (211, (.iload_n 2, 1, 0, 0)), (212, (.invokestatic 459, 2002, 258, 4)), (215, (.iadd, 1, 0, 0)), (216, (.ireturn, 1, 0, 0))]
noncomputable def po_260 : List (Nat × mOp) := [(0, (.iconst 0, 1, 0, 0)), (1, (.istore_n 3, 1, 0, 0)), (2, (.iconst 0, 1, 0, 0)), (3, (.istore 4, 2, 0, 0)), (5, (.iload 4, 2, 0, 0)), (7, (.aload_n 0, 1, 0, 0)), (8, (.getfield 183, 1457, 12, 52)), (11, (.if_icmp .ge 47, 3, 0, 0)), (14, (.iload_n 3, 1, 0, 0)), (15, (.iload_n 1, 1, 0, 0)), (16, (.iload 4, 2, 0, 0)), (18, (.ishr, 1, 0, 0)), (19, (.iconst 1, 1, 0, 0)), (20, (.iand, 1, 0, 0)), (21, (.aload_n 0, 1, 0, 0)), (22, (.getfield 71, 1476, 12, 91)), (25, (.bipush 30, 2, 0, 0)), (27, (.iload 4, 2, 0, 0)), (29, (.iadd, 1, 0, 0)), (30, (.iaload, 1, 0, 0)), (31, (.iload_n 2, 1, 0, 0)), (32, (.if_icmp .ge 16, 3, 0, 0)), (35, (.aload_n 0, 1, 0, 0)), (36, (.getfield 71, 1476, 12, 91)), (39, (.bipush 30, 2, 0, 0)), (41, (.iload 4, 2, 0, 0)), (43, (.iadd, 1, 0, 0)), (44, (.iaload, 1, 0, 0)), (45, (.goto 4, 3, 0, 0)), (48, (.iload_n 2, 1, 0, 0)), (49, (.imul, 1, 0, 0)), (50, (.iadd, 1, 0, 0)), (51, (.istore_n 3, 1, 0, 0)), (52, (.iinc 4 1, 3, 0, 0)), (55, (.goto (-50), 3, 0, 0)), (58, (.iload_n 3, 1, 0, 0)), (59, (.ireturn, 1, 0, 0))]
noncomputable def po_261 : List (Nat × mOp) := [(0, (.aload_n 0, 1, 0, 0)), (1, (.iconst 0, 1, 0, 0)), (2, (.putfield 3, 1431, 12, 0)), (5, (.aload_n 0, 1, 0, 0)), (6, (.iload_n 1, 1, 0, 0)), (7, (.iconst 1, 1, 0, 0)), (8, (.invokevirtual 421, 1887, 227, 3)), (11, (.ifCond .eq 42, 3, 0, 0)), (14, (.aload_n 0, 1, 0, 0)), (15, (.iload_n 2, 1, 0, 0)), (16, (.ifCond .lt 28, 3, 0, 0)), (19, (.iload_n 2, 1, 0, 0)), (20, (.iconst 1, 1, 0, 0)), (21, (.aload_n 0, 1, 0, 0)), (22, (.getfield 183, 1457, 12, 52)), (25, (.ishl, 1, 0, 0)), (26, (.if_icmp .ge 18, 3, 0, 0)), (29, (.iload_n 3, 1, 0, 0)), (30, (.iconst 0, 1, 0, 0)), (31, (.sipush 999, 3, 0, 0)), (34, (.invokestatic 400, 1848, 162, 3)), (37, (.ifCond .eq 7, 3, 0, 0)), (40, (.iconst 1, 1, 0, 0)), (41, (.goto 4, 3, 0, 0)), (44, (.iconst 0, 1, 0, 0)), (45, (.iconst 2, 1, 0, 0)), (46, (.iconst 1, 1, 0, 0)), (47, (.invokevirtual 232, 1624, 161, 4)), (50, (.ifCond .ne 5, 3, 0, 0)), (53, (.iconst 0, 1, 0, 0)), (54, (.ireturn, 1, 0, 0)), (55, (.bipush 99, 2, 0, 0)), (57, (.istore 4, 2, 0, 0)), (59, (.aload_n 0, 1, 0, 0)), (60, (.iload_n 2, 1, 0, 0)), (61, (.iload 4, 2, 0, 0)), (63, (.invokevirtual 463, 2009, 260, 3)), (66, (.iload_n 3, 1, 0, 0)), (67, (.if_icmp .le 9, 3, 0, 0)), (70, (.iinc 4 (-1), 3, 0, 0)), (73, (.goto (-14), 3, 0, 0)), (76, (.iload_n 2, 1, 0, 0)), (77, (.iload_n 1, 1, 0, 0)), (78, (.ishr, 1, 0, 0)), (79, (.iconst 1, 1, 0, 0)), (80, (.iand, 1, 0, 0)), (81, (.ifCond .ne 5, 3, 0, 0)), (84, (.iconst 0, 1, 0, 0)), (85, (.ireturn, 1, 0, 0)), (86, (.aload_n 0, 1, 0, 0)), (87, (.getfield 71, 1476, 12, 91)), (90, (.bipush 30, 2, 0, 0)), (92, (.iload_n 1, 1, 0, 0)), (93, (.iadd, 1, 0, 0)), (94, (.iaload, 1, 0, 0)), (95, (.iload 4, 2, 0, 0)), (97, (.if_icmp .ge 15, 3, 0, 0)), (100, (.aload_n 0, 1, 0, 0)), (101, (.getfield 71, 1476, 12, 91)), (104, (.bipush 30, 2, 0, 0)), (106, (.iload_n 1, 1, 0, 0)), (107, (.iadd, 1, 0, 0)), (108, (.iaload, 1, 0, 0)), (109, (.goto 5, 3, 0, 0)), (112, (.iload 4, 2, 0, 0)), (114, (.ireturn, 1, 0, 0))]
noncomputable def po_262 : List (Nat × mOp) := [(0, (.iconst (-1), 1, 0, 0)), (1, (.istore_n 2, 1, 0, 0)), (2, (.iconst 0, 1, 0, 0)), (3, (.istore_n 3, 1, 0, 0)), (4, (.iconst 0, 1, 0, 0)), (5, (.istore 4, 2, 0, 0)), (7, (.iload 4, 2, 0, 0)), (9, (.aload_n 0, 1, 0, 0)), (10, (.getfield 183, 1457, 12, 52)), (13, (.if_icmp .ge 38, 3, 0, 0)), (16, (.aload_n 0, 1, 0, 0)), (17, (.getfield 71, 1476, 12, 91)), (20, (.iload_n 1, 1, 0, 0)), (21, (.iload 4, 2, 0, 0)), (23, (.iadd, 1, 0, 0)), (24, (.iaload, 1, 0, 0)), (25, (.iload_n 3, 1, 0, 0)), (26, (.if_icmp .gt 6, 3, 0, 0)), (29, (.goto 16, 3, 0, 0)), (32, (.iload 4, 2, 0, 0)), (34, (.istore_n 2, 1, 0, 0)), (35, (.aload_n 0, 1, 0, 0)), (36, (.getfield 71, 1476, 12, 91)), (39, (.iload_n 1, 1, 0, 0)), (40, (.iload 4, 2, 0, 0)), (42, (.iadd, 1, 0, 0)), (43, (.iaload, 1, 0, 0)), (44, (.istore_n 3, 1, 0, 0)), (45, (.iinc 4 1, 3, 0, 0)), (48, (.goto (-41), 3, 0, 0)), (51, (.iload_n 2, 1, 0, 0)), (52, (.ireturn, 1, 0, 0))]
noncomputable def po_263 : List (Nat × mOp) := [(0, (.aload_n 0, 1, 0, 0)), (1, (.iconst 0, 1, 0, 0)), (2, (.putfield 3, 1431, 12, 0)), (5, (.aload_n 0, 1, 0, 0)), (6, (.iload_n 1, 1, 0, 0)), (7, (.iconst 0, 1, 0, 0)), (8, (.iconst 1, 1, 0, 0)), (9, (.invokestatic 400, 1848, 162, 3)), (12, (.iconst 1, 1, 0, 0)), (13, (.iconst 1, 1, 0, 0)), (14, (.invokevirtual 232, 1624, 161, 4)), (17, (.ifCond .ne 5, 3, 0, 0)), (20, (.iconst 0, 1, 0, 0)), (21, (.ireturn, 1, 0, 0)), (22, (.aload_n 0, 1, 0, 0)), (23, (.bipush 30, 2, 0, 0)), (25, (.invokevirtual 466, 2017, 262, 2)), (28, (.istore_n 2, 1, 0, 0)), (29, (.iload_n 1, 1, 0, 0)), (30, (.ifCond .eq 8, 3, 0, 0)), (33, (.iload_n 2, 1, 0, 0)), (34, (.iconst (-1), 1, 0, 0)), (35, (.if_icmp .ne 7, 3, 0, 0)), (38, (.iload_n 2, 1, 0, 0)), (39, (.goto 12, 3, 0, 0)), (42, (.aload_n 0, 1, 0, 0)), (43, (.getfield 71, 1476, 12, 91)), (46, (.bipush 30, 2, 0, 0)), (48, (.iload_n 2, 1, 0, 0)), (49, (.iadd, 1, 0, 0)), (50, (.iaload, 1, 0, 0)), (51, (.ireturn, 1, 0, 0))]
noncomputable def po_264 : List (Nat × mOp) := [(0, (.aload_n 0, 1, 0, 0)), (1, (.iconst 0, 1, 0, 0)), (2, (.putfield 3, 1431, 12, 0)), (5, (.aload_n 0, 1, 0, 0)), (6, (.iload_n 1, 1, 0, 0)), (7, (.iconst 0, 1, 0, 0)), (8, (.iconst 1, 1, 0, 0)), (9, (.invokestatic 400, 1848, 162, 3)), (12, (.iconst 1, 1, 0, 0)), (13, (.iconst 1, 1, 0, 0)), (14, (.invokevirtual 232, 1624, 161, 4)), (17, (.ifCond .ne 5, 3, 0, 0)), (20, (.iconst 0, 1, 0, 0)), (21, (.ireturn, 1, 0, 0)), (22, (.aload_n 0, 1, 0, 0)), (23, (.invokevirtual 339, 1766, 204, 1)), (26, (.iload_n 1, 1, 0, 0)), (27, (.ifCond .ne 12, 3, 0, 0)), (30, (.aload_n 0, 1, 0, 0)), (31, (.bipush 39, 2, 0, 0)), (33, (.invokevirtual 412, 1863, 220, 2)), (36, (.goto 9, 3, 0, 0)), (39, (.aload_n 0, 1, 0, 0)), (40, (.bipush 39, 2, 0, 0)), (42, (.invokevirtual 466, 2017, 262, 2)), (45, (.ireturn, 1, 0, 0))]
noncomputable def po_265 : List (Nat × mOp) := [(0, (.aload_n 0, 1, 0, 0)), (1, (.aload_n 0, 1, 0, 0)), (2, (.getfield 469, 1488, 12, 114)), (5, (.ldc_w 472, 2040, 1103515245, 0)), (8, (.imul, 1, 0, 0)), (9, (.sipush 12345, 3, 0, 0)), (12, (.iadd, 1, 0, 0)), (13, (.putfield 469, 1488, 12, 114)), (16, (.aload_n 0, 1, 0, 0)), (17, (.getfield 469, 1488, 12, 114)), (20, (.bipush 16, 2, 0, 0)), (22, (.ishr, 1, 0, 0)), (23, (.sipush 32767, 3, 0, 0)), (26, (.iand, 1, 0, 0)), (27, (.iload_n 1, 1, 0, 0)), (28, (.irem, 1, 0, 0)), (29, (.ireturn, 1, 0, 0))]
noncomputable def po_266 : List (Nat × mOp) := [(0, (.aload_n 0, 1, 0, 0)), (1, (.invokevirtual 339, 1766, 204, 1)), (4, (.aload_n 0, 1, 0, 0)), (5, (.iload_n 1, 1, 0, 0)), (6, (.putfield 469, 1488, 12, 114)), (9, (.aload_n 0, 1, 0, 0)), (10, (.getfield 180, 1456, 12, 50)), (13, (.ifCond .le 21, 3, 0, 0)), (16, (.aload_n 0, 1, 0, 0)), (17, (.getfield 177, 1455, 12, 48)), (20, (.ifCond .le 14, 3, 0, 0)), (23, (.aload_n 0, 1, 0, 0)), (24, (.getfield 183, 1457, 12, 52)), (27, (.ifCond .le 7, 3, 0, 0)), (30, (.iconst 1, 1, 0, 0)), (31, (.goto 4, 3, 0, 0)), (34, (.iconst 0, 1, 0, 0)), (35, (.istore 4, 2, 0, 0)), (37, (.iconst 0, 1, 0, 0)), (38, (.istore 5, 2, 0, 0)), (40, (.iload 5, 2, 0, 0)), (42, (.iload_n 3, 1, 0, 0)), (43, (.if_icmp .ge 78, 3, 0, 0)), (46, (.iload 4, 2, 0, 0)), (48, (.ifCond .eq 63, 3, 0, 0)), (51, (.aload_n 0, 1, 0, 0)), (52, (.aload_n 0, 1, 0, 0)), (53, (.getfield 180, 1456, 12, 50)), (56, (.invokevirtual 473, 2036, 265, 2)), (59, (.istore 6, 2, 0, 0)), (61, (.aload_n 0, 1, 0, 0)), (62, (.aload_n 0, 1, 0, 0)), (63, (.getfield 177, 1455, 12, 48)), (66, (.invokevirtual 473, 2036, 265, 2)), (69, (.istore 7, 2, 0, 0)), (71, (.aload_n 0, 1, 0, 0)), (72, (.aload_n 0, 1, 0, 0)), (73, (.getfield 183, 1457, 12, 52)), (76, (.invokevirtual 473, 2036, 265, 2)), (79, (.istore 8, 2, 0, 0)), (81, (.aload_n 0, 1, 0, 0)), (82, (.iload 6, 2, 0, 0)), (84, (.iload 7, 2, 0, 0)), (86, (.iload 8, 2, 0, 0)), (88, (.invokevirtual 387, 1778, 212, 4)), (91, (.pop, 1, 0, 0)), (92, (.aload_n 0, 1, 0, 0)), (93, (.bipush 16, 2, 0, 0)), (95, (.invokevirtual 473, 2036, 265, 2)), (98, (.iload_n 2, 1, 0, 0)), (99, (.if_icmp .ge 12, 3, 0, 0)), (102, (.aload_n 0, 1, 0, 0)), (103, (.iload 7, 2, 0, 0)), (105, (.iload 8, 2, 0, 0)), (107, (.invokevirtual 390, 1812, 213, 3)), (110, (.pop, 1, 0, 0)), (111, (.aload_n 0, 1, 0, 0)), (112, (.invokevirtual 397, 1820, 216, 1)), (115, (.iinc 5 1, 3, 0, 0)), (118, (.goto (-78), 3, 0, 0)), (121, (.return_, 1, 0, 0))]
noncomputable def po_267 : List (Nat × mOp) := [(0, (.iload_n 0, 1, 0, 0)), (1, (.ifCond .lt 24, 3, 0, 0)), (4, (.iload_n 0, 1, 0, 0)), (5, (.bipush 16, 2, 0, 0)), (7, (.if_icmp .gt 18, 3, 0, 0)), (10, (.iload_n 1, 1, 0, 0)), (11, (.iconst 1, 1, 0, 0)), (12, (.if_icmp .lt 13, 3, 0, 0)), (15, (.iload_n 1, 1, 0, 0)), (16, (.bipush 96, 2, 0, 0)), (18, (.if_icmp .gt 7, 3, 0, 0)), (21, (.iconst 1, 1, 0, 0)), (22, (.goto 4, 3, 0, 0)), (25, (.iconst 0, 1, 0, 0)), (26, (.ireturn, 1, 0, 0))]
noncomputable def po_268 : List (Nat × mOp) := [(0, (.aload_n 0, 1, 0, 0)), (1, (.iconst 0, 1, 0, 0)), (2, (.putfield 3, 1431, 12, 0)), (5, (.aload_n 0, 1, 0, 0)), (6, (.iload_n 2, 1, 0, 0)), (7, (.iload_n 3, 1, 0, 0)), (8, (.invokestatic 476, 2029, 267, 2)), (11, (.ifCond .eq 17, 3, 0, 0)), (14, (.iload 4, 2, 0, 0)), (16, (.iconst 0, 1, 0, 0)), (17, (.iconst 3, 1, 0, 0)), (18, (.invokestatic 400, 1848, 162, 3)), (21, (.ifCond .eq 7, 3, 0, 0)), (24, (.iconst 1, 1, 0, 0)), (25, (.goto 4, 3, 0, 0)), (28, (.iconst 0, 1, 0, 0)), (29, (.iconst 1, 1, 0, 0)), (30, (.iconst 1, 1, 0, 0)), (31, (.invokevirtual 232, 1624, 161, 4)), (34, (.ifCond .ne 5, 3, 0, 0)), (37, (.iconst 0, 1, 0, 0)), (38, (.ireturn, 1, 0, 0)), (39, (.aload_n 0, 1, 0, 0)), (40, (.iload_n 1, 1, 0, 0)), (41, (.iload_n 2, 1, 0, 0)), (42, (.iload_n 3, 1, 0, 0)), (43, (.invokevirtual 479, 2032, 266, 4)), (46, (.iload 4, 2, 0, 0)), (48, (.iconst 2, 1, 0, 0)), (49, (.if_icmp .ge 22, 3, 0, 0)), (52, (.aload_n 0, 1, 0, 0)), (53, (.iload 4, 2, 0, 0)), (55, (.ifCond .ne 8, 3, 0, 0)), (58, (.bipush 30, 2, 0, 0)), (60, (.goto 5, 3, 0, 0)), (63, (.bipush 39, 2, 0, 0)), (65, (.invokevirtual 412, 1863, 220, 2)), (68, (.goto 23, 3, 0, 0)), (71, (.iload 4, 2, 0, 0)), (73, (.iconst 2, 1, 0, 0)), (74, (.if_icmp .ne 10, 3, 0, 0)), (77, (.aload_n 0, 1, 0, 0)), (78, (.invokevirtual 403, 1851, 221, 1)), (81, (.goto 10, 3, 0, 0)), (84, (.aload_n 0, 1, 0, 0)), (85, (.getfield 74, 1477, 12, 93)), (88, (.bipush 48, 2, 0, 0)), (90, (.iaload, 1, 0, 0)), (91, (.ireturn, 1, 0, 0))]
noncomputable def po_269 : List (Nat × mOp) := [(0, (.aload_n 0, 1, 0, 0)), (1, (.iconst 0, 1, 0, 0)), (2, (.putfield 3, 1431, 12, 0)), (5, (.aload_n 0, 1, 0, 0)), (6, (.iload_n 2, 1, 0, 0)), (7, (.iconst 1, 1, 0, 0)), (8, (.bipush 20, 2, 0, 0)), (10, (.invokestatic 400, 1848, 162, 3)), (13, (.ifCond .eq 26, 3, 0, 0)), (16, (.iload_n 3, 1, 0, 0)), (17, (.iload 4, 2, 0, 0)), (19, (.invokestatic 476, 2029, 267, 2)), (22, (.ifCond .eq 17, 3, 0, 0)), (25, (.iload 5, 2, 0, 0)), (27, (.iconst 0, 1, 0, 0)), (28, (.iconst 2, 1, 0, 0)), (29, (.invokestatic 400, 1848, 162, 3)), (32, (.ifCond .eq 7, 3, 0, 0)), (35, (.iconst 1, 1, 0, 0)), (36, (.goto 4, 3, 0, 0)), (39, (.iconst 0, 1, 0, 0)), (40, (.iconst 1, 1, 0, 0)), (41, (.iconst 1, 1, 0, 0)), (42, (.invokevirtual 232, 1624, 161, 4)), (45, (.ifCond .ne 5, 3, 0, 0)), (48, (.iconst 0, 1, 0, 0)), (49, (.ireturn, 1, 0, 0)), (50, (.iconst (-1), 1, 0, 0)), (51, (.istore 6, 2, 0, 0)), (53, (.iconst 0, 1, 0, 0)), (54, (.istore 7, 2, 0, 0)), (56, (.iconst 0, 1, 0, 0)), (57, (.istore 8, 2, 0, 0)), (59, (.iconst 0, 1, 0, 0)), (60, (.istore 9, 2, 0, 0)), (62, (.iload 9, 2, 0, 0)), (64, (.iload_n 2, 1, 0, 0)), (65, (.if_icmp .ge 91, 3, 0, 0)), (68, (.aload_n 0, 1, 0, 0)), (69, (.iload_n 1, 1, 0, 0)), (70, (.iload 9, 2, 0, 0)), (72, (.iadd, 1, 0, 0)), (73, (.iload_n 3, 1, 0, 0)), (74, (.iload 4, 2, 0, 0)), (76, (.invokevirtual 479, 2032, 266, 4)), (79, (.aload_n 0, 1, 0, 0)), (80, (.bipush 30, 2, 0, 0)), (82, (.invokevirtual 412, 1863, 220, 2)), (85, (.istore 10, 2, 0, 0)), (87, (.iload 6, 2, 0, 0)), (89, (.iconst (-1), 1, 0, 0)), (90, (.if_icmp .eq 10, 3, 0, 0)), (93, (.iload 10, 2, 0, 0)), (95, (.iload 6, 2, 0, 0)), (97, (.if_icmp .ge 8, 3, 0, 0)), (100, (.iload 10, 2, 0, 0)), (102, (.goto 5, 3, 0, 0)), (105, (.iload 6, 2, 0, 0)), (107, (.istore 6, 2, 0, 0)), (109, (.iload 10, 2, 0, 0)), (111, (.iload 7, 2, 0, 0)), (113, (.if_icmp .le 8, 3, 0, 0)), (116, (.iload 10, 2, 0, 0)), (118, (.goto 5, 3, 0, 0)), (121, (.iload 7, 2, 0, 0)), (123, (.istore 7, 2, 0, 0)), (125, (.iload 8, 2, 0, 0)), (127, (.aload_n 0, 1, 0, 0)), (128, (.invokevirtual 403, 1851, 221, 1)), (131, (.iconst 1, 1, 0, 0)), (132, (.aload_n 0, 1, 0, 0)), (133, (.getfield 177, 1455, 12, 48)), (136, (.ishl, 1, 0, 0)), (137, (.iconst 1, 1, 0, 0)), (138, (.isub, 1, 0, 0)), (139, (.if_icmp .ne 7, 3, 0, 0)), (142, (.iconst 1, 1, 0, 0)), (143, (.goto 4, 3, 0, 0)), (146, (.iconst 0, 1, 0, 0)), (147, (.iadd, 1, 0, 0)), (148, (.istore 8, 2, 0, 0)), (150, (.iinc 9 1, 3, 0, 0)), (153, (.goto (-91), 3, 0, 0)), (156, (.iload 5, 2, 0, 0)), (158, (.ifCond .ne 8, 3, 0, 0)), (161, (.iload 6, 2, 0, 0)), (163, (.goto 16, 3, 0, 0)), (166, (.iload 5, 2, 0, 0)), (168, (.iconst 1, 1, 0, 0)), (169, (.if_icmp .ne 8, 3, 0, 0)), (172, (.iload 7, 2, 0, 0)), (174, (.goto 5, 3, 0, 0)), (177, (.iload 8, 2, 0, 0)), (179, (.ireturn, 1, 0, 0))]
noncomputable def po_270 : List (Nat × mOp) := [(0, (.iconst 0, 1, 0, 0)), (1, (.istore 5, 2, 0, 0)), (3, (.iload 5, 2, 0, 0)), (5, (.iload_n 3, 1, 0, 0)), (6, (.if_icmp .ge 43, 3, 0, 0)), (9, (.iload 4, 2, 0, 0)), (11, (.ifCond .eq 19, 3, 0, 0)), (14, (.aload_n 0, 1, 0, 0)), (15, (.getfield 104, 1489, 12, 117)), (18, (.iload_n 1, 1, 0, 0)), (19, (.iload 5, 2, 0, 0)), (21, (.iadd, 1, 0, 0)), (22, (.aload_n 2, 1, 0, 0)), (23, (.iload 5, 2, 0, 0)), (25, (.iaload, 1, 0, 0)), (26, (.iastore, 1, 0, 0)), (27, (.goto 16, 3, 0, 0)), (30, (.aload_n 2, 1, 0, 0)), (31, (.iload 5, 2, 0, 0)), (33, (.aload_n 0, 1, 0, 0)), (34, (.getfield 104, 1489, 12, 117)), (37, (.iload_n 1, 1, 0, 0)), (38, (.iload 5, 2, 0, 0)), (40, (.iadd, 1, 0, 0)), (41, (.iaload, 1, 0, 0)), (42, (.iastore, 1, 0, 0)), (43, (.iinc 5 1, 3, 0, 0)), (46, (.goto (-43), 3, 0, 0)), (49, (.iload_n 1, 1, 0, 0)), (50, (.iload_n 3, 1, 0, 0)), (51, (.iadd, 1, 0, 0)), (52, (.ireturn, 1, 0, 0))]
noncomputable def po_271 : List (Nat × mOp) := [(0, (.aload_n 0, 1, 0, 0)), (1, (.sipush 851, 3, 0, 0)), (4, (.iload_n 1, 1, 0, 0)), (5, (.imul, 1, 0, 0)), (6, (.aload_n 0, 1, 0, 0)), (7, (.getfield 71, 1476, 12, 91)), (10, (.bipush 50, 2, 0, 0)), (12, (.iload_n 2, 1, 0, 0)), (13, (.invokevirtual 483, 2053, 270, 5)), (16, (.istore_n 3, 1, 0, 0)), (17, (.aload_n 0, 1, 0, 0)), (18, (.iload_n 3, 1, 0, 0)), (19, (.aload_n 0, 1, 0, 0)), (20, (.getfield 77, 1478, 12, 95)), (23, (.sipush 800, 3, 0, 0)), (26, (.iload_n 2, 1, 0, 0)), (27, (.invokevirtual 483, 2053, 270, 5)), (30, (.istore_n 3, 1, 0, 0)), (31, (.iload_n 2, 1, 0, 0)), (32, (.ifCond .eq 16, 3, 0, 0)), (35, (.aload_n 0, 1, 0, 0)), (36, (.getfield 104, 1489, 12, 117)), (39, (.iload_n 3, 1, 0, 0)), (40, (.aload_n 0, 1, 0, 0)), (41, (.getfield 202, 1471, 12, 80)), (44, (.iastore, 1, 0, 0)), (45, (.goto 13, 3, 0, 0)), (48, (.aload_n 0, 1, 0, 0)), (49, (.aload_n 0, 1, 0, 0)), (50, (.getfield 104, 1489, 12, 117)), (53, (.iload_n 3, 1, 0, 0)), (54, (.iaload, 1, 0, 0)), (55, (.putfield 202, 1471, 12, 80)), (58, (.return_, 1, 0, 0))]
noncomputable def po_272 : List (Nat × mOp) := [(0, (.aload_n 0, 1, 0, 0)), (1, (.iconst 0, 1, 0, 0)), (2, (.putfield 3, 1431, 12, 0)), (5, (.aload_n 0, 1, 0, 0)), (6, (.getfield 205, 1490, 12, 118)), (9, (.iconst 3, 1, 0, 0)), (10, (.if_icmp .ne 5, 3, 0, 0)), (13, (.iconst (-1), 1, 0, 0)), (14, (.ireturn, 1, 0, 0)), (15, (.aload_n 0, 1, 0, 0)), (16, (.aload_n 0, 1, 0, 0)), (17, (.getfield 205, 1490, 12, 118)), (20, (.iconst 1, 1, 0, 0)), (21, (.invokevirtual 487, 2049, 271, 3)), (24, (.aload_n 0, 1, 0, 0)), (25, (.dup, 1, 0, 0)), (26, (.getfield 205, 1490, 12, 118)), (29, (.iconst 1, 1, 0, 0)), (30, (.iadd, 1, 0, 0)), (31, (.putfield 205, 1490, 12, 118)), (34, (.aload_n 0, 1, 0, 0)), (35, (.getfield 205, 1490, 12, 118)), (38, (.ireturn, 1, 0, 0))]
noncomputable def po_273 : List (Nat × mOp) := [(0, (.aload_n 0, 1, 0, 0)), (1, (.iconst 0, 1, 0, 0)), (2, (.putfield 3, 1431, 12, 0)), (5, (.aload_n 0, 1, 0, 0)), (6, (.getfield 205, 1490, 12, 118)), (9, (.ifCond .ne 5, 3, 0, 0)), (12, (.iconst (-1), 1, 0, 0)), (13, (.ireturn, 1, 0, 0)), (14, (.aload_n 0, 1, 0, 0)), (15, (.dup, 1, 0, 0)), (16, (.getfield 205, 1490, 12, 118)), (19, (.iconst 1, 1, 0, 0)), (20, (.isub, 1, 0, 0)), (21, (.putfield 205, 1490, 12, 118)), (24, (.aload_n 0, 1, 0, 0)), (25, (.aload_n 0, 1, 0, 0)), (26, (.getfield 205, 1490, 12, 118)), (29, (.iconst 0, 1, 0, 0)), (30, (.invokevirtual 487, 2049, 271, 3)), (33, (.aload_n 0, 1, 0, 0)), (34, (.iconst 0, 1, 0, 0)), (35, (.putfield 208, 1472, 12, 82)), (38, (.aload_n 0, 1, 0, 0)), (39, (.getfield 205, 1490, 12, 118)), (42, (.ireturn, 1, 0, 0))]
noncomputable def po_274 : List (Nat × mOp) := [(0, (.aload_n 0, 1, 0, 0)), (1, (.iconst 0, 1, 0, 0)), (2, (.putfield 3, 1431, 12, 0)), (5, (.iload_n 1, 1, 0, 0)), (6, (.iconst 0, 1, 0, 0)), (7, (.iconst 1, 1, 0, 0)), (8, (.invokestatic 400, 1848, 162, 3)), (11, (.ifCond .eq 12, 3, 0, 0)), (14, (.aload_n 0, 1, 0, 0)), (15, (.getfield 7, 1432, 12, 3)), (18, (.iload_n 1, 1, 0, 0)), (19, (.iaload, 1, 0, 0)), (20, (.goto 4, 3, 0, 0)), (23, (.iconst (-1), 1, 0, 0)), (24, (.ireturn, 1, 0, 0))]
noncomputable def po_275 : List (Nat × mOp) := [(0, (.aload_n 0, 1, 0, 0)), (1, (.iconst 0, 1, 0, 0)), (2, (.putfield 3, 1431, 12, 0)), (5, (.iload_n 1, 1, 0, 0)), (6, (.ifCond .ne 10, 3, 0, 0)), (9, (.aload_n 0, 1, 0, 0)), (10, (.getfield 205, 1490, 12, 118)), (13, (.goto 28, 3, 0, 0)), (16, (.iload_n 1, 1, 0, 0)), (17, (.iconst 1, 1, 0, 0)), (18, (.if_icmp .ne 10, 3, 0, 0)), (21, (.aload_n 0, 1, 0, 0)), (22, (.getfield 113, 1433, 12, 4)), (25, (.goto 16, 3, 0, 0)), (28, (.iload_n 1, 1, 0, 0)), (29, (.iconst 2, 1, 0, 0)), (30, (.if_icmp .ne 10, 3, 0, 0)), (33, (.aload_n 0, 1, 0, 0)), (34, (.getfield 202, 1471, 12, 80)), (37, (.goto 4, 3, 0, 0)), (40, (.iconst (-1), 1, 0, 0)), (41, (.ireturn, 1, 0, 0))]
noncomputable def po_276 : List (Nat × mOp) := [(0, (.iload_n 0, 1, 0, 0)), (1, (.iload_n 0, 1, 0, 0)), (2, (.iconst 1, 1, 0, 0)), (3, (.iushr, 1, 0, 0)), (4, (.ldc_w 265, 568, 1431655765, 0)), (7, (.iand, 1, 0, 0)), (8, (.isub, 1, 0, 0)), (9, (.istore_n 0, 1, 0, 0)), (10, (.iload_n 0, 1, 0, 0)), (11, (.ldc_w 266, 569, 858993459, 0)), (14, (.iand, 1, 0, 0)), (15, (.iload_n 0, 1, 0, 0)), (16, (.iconst 2, 1, 0, 0)), (17, (.iushr, 1, 0, 0)), (18, (.ldc_w 266, 569, 858993459, 0)), (21, (.iand, 1, 0, 0)), (22, (.iadd, 1, 0, 0)), (23, (.istore_n 0, 1, 0, 0)), (24, (.iload_n 0, 1, 0, 0)), (25, (.iload_n 0, 1, 0, 0)), (26, (.iconst 4, 1, 0, 0)), (27, (.iushr, 1, 0, 0)), (28, (.iadd, 1, 0, 0)), (29, (.ldc_w 267, 570, 252645135, 0)), (32, (.iand, 1, 0, 0)), (33, (.istore_n 0, 1, 0, 0)), (34, (.iload_n 0, 1, 0, 0)), (35, (.iload_n 0, 1, 0, 0)), (36, (.bipush 8, 2, 0, 0)), (38, (.iushr, 1, 0, 0)), (39, (.iadd, 1, 0, 0)), (40, (.istore_n 0, 1, 0, 0)), (41, (.iload_n 0, 1, 0, 0)), (42, (.iload_n 0, 1, 0, 0)), (43, (.bipush 16, 2, 0, 0)), (45, (.iushr, 1, 0, 0)), (46, (.iadd, 1, 0, 0)), (47, (.istore_n 0, 1, 0, 0)), (48, (.iload_n 0, 1, 0, 0)), (49, (.bipush 63, 2, 0, 0)), (51, (.iand, 1, 0, 0)), (52, (.ireturn, 1, 0, 0))]
noncomputable def po_277 : List (Nat × mOp) := [(0, (.aload_n 2, 1, 0, 0)), (1, (.iconst 0, 1, 0, 0)), (2, (.aload_n 0, 1, 0, 0)), (3, (.iload_n 1, 1, 0, 0)), (4, (.invokevirtual 7, 618, 111, 2)), (7, (.i2l, 1, 0, 0)), (8, (.lastore, 1, 0, 0)), (9, (.goto 6, 3, 0, 0)), (12, (.astore_n 3, 1, 0, 0)), (13, (.iconst 1, 1, 0, 0)), (14, (.ireturn, 1, 0, 0)), (15, (.iconst 0, 1, 0, 0)), (16, (.ireturn, 1, 0, 0))]
noncomputable def po_278 : List (Nat × mOp) := [(0, (.aload_n 2, 1, 0, 0)), (1, (.iconst 0, 1, 0, 0)), (2, (.aload_n 0, 1, 0, 0)), (3, (.iload_n 1, 1, 0, 0)), (4, (.invokevirtual 15, 852, 112, 2)), (7, (.i2l, 1, 0, 0)), (8, (.lastore, 1, 0, 0)), (9, (.goto 6, 3, 0, 0)), (12, (.astore_n 3, 1, 0, 0)), (13, (.iconst 1, 1, 0, 0)), (14, (.ireturn, 1, 0, 0)), (15, (.iconst 0, 1, 0, 0)), (16, (.ireturn, 1, 0, 0))]
noncomputable def po_279 : List (Nat × mOp) := [(0, (.aload_n 2, 1, 0, 0)), (1, (.iconst 0, 1, 0, 0)), (2, (.aload_n 0, 1, 0, 0)), (3, (.iload_n 1, 1, 0, 0)), (4, (.invokevirtual 18, 909, 113, 2)), (7, (.i2l, 1, 0, 0)), (8, (.lastore, 1, 0, 0)), (9, (.goto 6, 3, 0, 0)), (12, (.astore_n 3, 1, 0, 0)), (13, (.iconst 1, 1, 0, 0)), (14, (.ireturn, 1, 0, 0)), (15, (.iconst 0, 1, 0, 0)), (16, (.ireturn, 1, 0, 0))]
noncomputable def po_280 : List (Nat × mOp) := [(0, (.aload_n 2, 1, 0, 0)), (1, (.iconst 0, 1, 0, 0)), (2, (.aload_n 0, 1, 0, 0)), (3, (.iload_n 1, 1, 0, 0)), (4, (.invokevirtual 21, 1062, 114, 2)), (7, (.i2l, 1, 0, 0)), (8, (.lastore, 1, 0, 0)), (9, (.goto 6, 3, 0, 0)), (12, (.astore_n 3, 1, 0, 0)), (13, (.iconst 1, 1, 0, 0)), (14, (.ireturn, 1, 0, 0)), (15, (.iconst 0, 1, 0, 0)), (16, (.ireturn, 1, 0, 0))]
noncomputable def po_281 : List (Nat × mOp) := [(0, (.aload_n 2, 1, 0, 0)), (1, (.iconst 0, 1, 0, 0)), (2, (.aload_n 0, 1, 0, 0)), (3, (.iload_n 1, 1, 0, 0)), (4, (.invokevirtual 24, 1082, 117, 2)), (7, (.i2l, 1, 0, 0)), (8, (.lastore, 1, 0, 0)), (9, (.goto 6, 3, 0, 0)), (12, (.astore_n 3, 1, 0, 0)), (13, (.iconst 1, 1, 0, 0)), (14, (.ireturn, 1, 0, 0)), (15, (.iconst 0, 1, 0, 0)), (16, (.ireturn, 1, 0, 0))]
noncomputable def po_282 : List (Nat × mOp) := [(0, (.aload_n 3, 1, 0, 0)), (1, (.iconst 0, 1, 0, 0)), (2, (.aload_n 0, 1, 0, 0)), (3, (.iload_n 1, 1, 0, 0)), (4, (.iload_n 2, 1, 0, 0)), (5, (.invokevirtual 27, 1102, 118, 3)), (8, (.i2l, 1, 0, 0)), (9, (.lastore, 1, 0, 0)), (10, (.goto 11, 3, 0, 0)), (13, (.astore 4, 2, 0, 0)), (15, (.iconst 1, 1, 0, 0)), (16, (.ireturn, 1, 0, 0)), (17, (.astore 4, 2, 0, 0)), (19, (.iconst 2, 1, 0, 0)), (20, (.ireturn, 1, 0, 0)), (21, (.iconst 0, 1, 0, 0)), (22, (.ireturn, 1, 0, 0))]
noncomputable def po_283 : List (Nat × mOp) := [(0, (.aload_n 3, 1, 0, 0)), (1, (.iconst 0, 1, 0, 0)), (2, (.aload_n 0, 1, 0, 0)), (3, (.iload_n 1, 1, 0, 0)), (4, (.iload_n 2, 1, 0, 0)), (5, (.invokevirtual 33, 1134, 119, 3)), (8, (.i2l, 1, 0, 0)), (9, (.lastore, 1, 0, 0)), (10, (.goto 11, 3, 0, 0)), (13, (.astore 4, 2, 0, 0)), (15, (.iconst 1, 1, 0, 0)), (16, (.ireturn, 1, 0, 0)), (17, (.astore 4, 2, 0, 0)), (19, (.iconst 2, 1, 0, 0)), (20, (.ireturn, 1, 0, 0)), (21, (.iconst 0, 1, 0, 0)), (22, (.ireturn, 1, 0, 0))]
noncomputable def po_284 : List (Nat × mOp) := [(0, (.aload_n 3, 1, 0, 0)), (1, (.iconst 0, 1, 0, 0)), (2, (.aload_n 0, 1, 0, 0)), (3, (.iload_n 1, 1, 0, 0)), (4, (.iload_n 2, 1, 0, 0)), (5, (.invokevirtual 36, 1146, 120, 3)), (8, (.i2l, 1, 0, 0)), (9, (.lastore, 1, 0, 0)), (10, (.goto 11, 3, 0, 0)), (13, (.astore 4, 2, 0, 0)), (15, (.iconst 1, 1, 0, 0)), (16, (.ireturn, 1, 0, 0)), (17, (.astore 4, 2, 0, 0)), (19, (.iconst 2, 1, 0, 0)), (20, (.ireturn, 1, 0, 0)), (21, (.iconst 0, 1, 0, 0)), (22, (.ireturn, 1, 0, 0))]
noncomputable def po_285 : List (Nat × mOp) := [(0, (.aload_n 3, 1, 0, 0)), (1, (.iconst 0, 1, 0, 0)), (2, (.aload_n 0, 1, 0, 0)), (3, (.iload_n 1, 1, 0, 0)), (4, (.iload_n 2, 1, 0, 0)), (5, (.invokevirtual 39, 1161, 121, 3)), (8, (.i2l, 1, 0, 0)), (9, (.lastore, 1, 0, 0)), (10, (.goto 11, 3, 0, 0)), (13, (.astore 4, 2, 0, 0)), (15, (.iconst 1, 1, 0, 0)), (16, (.ireturn, 1, 0, 0)), (17, (.astore 4, 2, 0, 0)), (19, (.iconst 2, 1, 0, 0)), (20, (.ireturn, 1, 0, 0)), (21, (.iconst 0, 1, 0, 0)), (22, (.ireturn, 1, 0, 0))]
noncomputable def po_286 : List (Nat × mOp) := [(0, (.aload 4, 2, 0, 0)), (2, (.iconst 0, 1, 0, 0)), (3, (.aload_n 0, 1, 0, 0)), (4, (.iload_n 1, 1, 0, 0)), (5, (.iload_n 2, 1, 0, 0)), (6, (.iload_n 3, 1, 0, 0)), (7, (.invokevirtual 42, 1168, 122, 4)), (10, (.i2l, 1, 0, 0)), (11, (.lastore, 1, 0, 0)), (12, (.goto 7, 3, 0, 0)), (15, (.astore 5, 2, 0, 0)), (17, (.iconst 1, 1, 0, 0)), (18, (.ireturn, 1, 0, 0)), (19, (.iconst 0, 1, 0, 0)), (20, (.ireturn, 1, 0, 0))]
noncomputable def po_287 : List (Nat × mOp) := [(0, (.aload 9, 2, 0, 0)), (2, (.iconst 0, 1, 0, 0)), (3, (.aload_n 0, 1, 0, 0)), (4, (.iload_n 1, 1, 0, 0)), (5, (.iload_n 2, 1, 0, 0)), (6, (.iload_n 3, 1, 0, 0)), (7, (.iload 4, 2, 0, 0)), (9, (.iload 5, 2, 0, 0)), (11, (.iload 6, 2, 0, 0)), (13, (.iload 7, 2, 0, 0)), (15, (.iload 8, 2, 0, 0)), (17, (.invokevirtual 46, 1176, 123, 9)), (20, (.i2l, 1, 0, 0)), (21, (.lastore, 1, 0, 0)), (22, (.goto 7, 3, 0, 0)), (25, (.astore 10, 2, 0, 0)), (27, (.iconst 1, 1, 0, 0)), (28, (.ireturn, 1, 0, 0)), (29, (.iconst 0, 1, 0, 0)), (30, (.ireturn, 1, 0, 0))]
noncomputable def po_288 : List (Nat × mOp) := [(0, (.aload 4, 2, 0, 0)), (2, (.iconst 0, 1, 0, 0)), (3, (.aload_n 0, 1, 0, 0)), (4, (.iload_n 1, 1, 0, 0)), (5, (.iload_n 2, 1, 0, 0)), (6, (.iload_n 3, 1, 0, 0)), (7, (.invokevirtual 50, 1186, 124, 4)), (10, (.ifCond .eq 7, 3, 0, 0)), (13, (.lconst 1, 1, 0, 0)), (14, (.goto 4, 3, 0, 0)), (17, (.lconst 0, 1, 0, 0)), (18, (.lastore, 1, 0, 0)), (19, (.goto 7, 3, 0, 0)), (22, (.astore 5, 2, 0, 0)), (24, (.iconst 1, 1, 0, 0)), (25, (.ireturn, 1, 0, 0)), (26, (.iconst 0, 1, 0, 0)), (27, (.ireturn, 1, 0, 0))]
noncomputable def po_289 : List (Nat × mOp) := [(0, (.aload_n 3, 1, 0, 0)), (1, (.iconst 0, 1, 0, 0)), (2, (.aload_n 0, 1, 0, 0)), (3, (.iload_n 1, 1, 0, 0)), (4, (.iload_n 2, 1, 0, 0)), (5, (.invokevirtual 54, 1194, 125, 3)), (8, (.i2l, 1, 0, 0)), (9, (.lastore, 1, 0, 0)), (10, (.goto 7, 3, 0, 0)), (13, (.astore 4, 2, 0, 0)), (15, (.iconst 1, 1, 0, 0)), (16, (.ireturn, 1, 0, 0)), (17, (.iconst 0, 1, 0, 0)), (18, (.ireturn, 1, 0, 0))]
noncomputable def po_290 : List (Nat × mOp) := [(0, (.aload_n 2, 1, 0, 0)), (1, (.iconst 0, 1, 0, 0)), (2, (.aload_n 0, 1, 0, 0)), (3, (.iload_n 1, 1, 0, 0)), (4, (.invokevirtual 57, 1212, 126, 2)), (7, (.i2l, 1, 0, 0)), (8, (.lastore, 1, 0, 0)), (9, (.goto 6, 3, 0, 0)), (12, (.astore_n 3, 1, 0, 0)), (13, (.iconst 1, 1, 0, 0)), (14, (.ireturn, 1, 0, 0)), (15, (.iconst 0, 1, 0, 0)), (16, (.ireturn, 1, 0, 0))]
noncomputable def po_291 : List (Nat × mOp) := [(0, (.aload_n 2, 1, 0, 0)), (1, (.iconst 0, 1, 0, 0)), (2, (.aload_n 0, 1, 0, 0)), (3, (.iload_n 1, 1, 0, 0)), (4, (.invokevirtual 60, 1219, 127, 2)), (7, (.i2l, 1, 0, 0)), (8, (.lastore, 1, 0, 0)), (9, (.goto 6, 3, 0, 0)), (12, (.astore_n 3, 1, 0, 0)), (13, (.iconst 1, 1, 0, 0)), (14, (.ireturn, 1, 0, 0)), (15, (.iconst 0, 1, 0, 0)), (16, (.ireturn, 1, 0, 0))]
noncomputable def po_292 : List (Nat × mOp) := [(0, (.aload_n 3, 1, 0, 0)), (1, (.iconst 0, 1, 0, 0)), (2, (.aload_n 0, 1, 0, 0)), (3, (.iload_n 1, 1, 0, 0)), (4, (.iload_n 2, 1, 0, 0)), (5, (.invokevirtual 63, 1247, 128, 3)), (8, (.i2l, 1, 0, 0)), (9, (.lastore, 1, 0, 0)), (10, (.goto 7, 3, 0, 0)), (13, (.astore 4, 2, 0, 0)), (15, (.iconst 1, 1, 0, 0)), (16, (.ireturn, 1, 0, 0)), (17, (.iconst 0, 1, 0, 0)), (18, (.ireturn, 1, 0, 0))]
noncomputable def po_293 : List (Nat × mOp) := [(0, (.aload_n 2, 1, 0, 0)), (1, (.iconst 0, 1, 0, 0)), (2, (.aload_n 0, 1, 0, 0)), (3, (.iload_n 1, 1, 0, 0)), (4, (.invokevirtual 66, 1262, 129, 2)), (7, (.i2l, 1, 0, 0)), (8, (.lastore, 1, 0, 0)), (9, (.goto 6, 3, 0, 0)), (12, (.astore_n 3, 1, 0, 0)), (13, (.iconst 1, 1, 0, 0)), (14, (.ireturn, 1, 0, 0)), (15, (.iconst 0, 1, 0, 0)), (16, (.ireturn, 1, 0, 0))]
noncomputable def po_294 : List (Nat × mOp) := [(0, (.aload_n 3, 1, 0, 0)), (1, (.iconst 0, 1, 0, 0)), (2, (.aload_n 0, 1, 0, 0)), (3, (.iload_n 1, 1, 0, 0)), (4, (.iload_n 2, 1, 0, 0)), (5, (.invokevirtual 69, 1277, 131, 3)), (8, (.i2l, 1, 0, 0)), (9, (.lastore, 1, 0, 0)), (10, (.goto 7, 3, 0, 0)), (13, (.astore 4, 2, 0, 0)), (15, (.iconst 1, 1, 0, 0)), (16, (.ireturn, 1, 0, 0)), (17, (.iconst 0, 1, 0, 0)), (18, (.ireturn, 1, 0, 0))]
noncomputable def po_295 : List (Nat × mOp) := [(0, (.aload_n 2, 1, 0, 0)), (1, (.iconst 0, 1, 0, 0)), (2, (.aload_n 0, 1, 0, 0)), (3, (.iload_n 1, 1, 0, 0)), (4, (.invokevirtual 72, 1284, 132, 2)), (7, (.i2l, 1, 0, 0)), (8, (.lastore, 1, 0, 0)), (9, (.goto 6, 3, 0, 0)), (12, (.astore_n 3, 1, 0, 0)), (13, (.iconst 1, 1, 0, 0)), (14, (.ireturn, 1, 0, 0)), (15, (.iconst 0, 1, 0, 0)), (16, (.ireturn, 1, 0, 0))]
noncomputable def po_296 : List (Nat × mOp) := [(0, (.aload_n 2, 1, 0, 0)), (1, (.iconst 0, 1, 0, 0)), (2, (.aload_n 0, 1, 0, 0)), (3, (.iload_n 1, 1, 0, 0)), (4, (.invokevirtual 75, 1307, 133, 2)), (7, (.i2l, 1, 0, 0)), (8, (.lastore, 1, 0, 0)), (9, (.goto 6, 3, 0, 0)), (12, (.astore_n 3, 1, 0, 0)), (13, (.iconst 1, 1, 0, 0)), (14, (.ireturn, 1, 0, 0)), (15, (.iconst 0, 1, 0, 0)), (16, (.ireturn, 1, 0, 0))]
noncomputable def po_297 : List (Nat × mOp) := [(0, (.aload 4, 2, 0, 0)), (2, (.iconst 0, 1, 0, 0)), (3, (.aload_n 0, 1, 0, 0)), (4, (.iload_n 1, 1, 0, 0)), (5, (.iload_n 2, 1, 0, 0)), (6, (.iload_n 3, 1, 0, 0)), (7, (.invokevirtual 78, 1323, 134, 4)), (10, (.lastore, 1, 0, 0)), (11, (.goto 7, 3, 0, 0)), (14, (.astore 5, 2, 0, 0)), (16, (.iconst 1, 1, 0, 0)), (17, (.ireturn, 1, 0, 0)), (18, (.iconst 0, 1, 0, 0)), (19, (.ireturn, 1, 0, 0))]
noncomputable def po_298 : List (Nat × mOp) := [(0, (.aload 4, 2, 0, 0)), (2, (.iconst 0, 1, 0, 0)), (3, (.aload_n 0, 1, 0, 0)), (4, (.iload_n 1, 1, 0, 0)), (5, (.iload_n 2, 1, 0, 0)), (6, (.iload_n 3, 1, 0, 0)), (7, (.invokevirtual 82, 1332, 135, 4)), (10, (.i2l, 1, 0, 0)), (11, (.lastore, 1, 0, 0)), (12, (.goto 7, 3, 0, 0)), (15, (.astore 5, 2, 0, 0)), (17, (.iconst 1, 1, 0, 0)), (18, (.ireturn, 1, 0, 0)), (19, (.iconst 0, 1, 0, 0)), (20, (.ireturn, 1, 0, 0))]
noncomputable def po_299 : List (Nat × mOp) := [(0, (.aload 4, 2, 0, 0)), (2, (.iconst 0, 1, 0, 0)), (3, (.aload_n 0, 1, 0, 0)), (4, (.iload_n 1, 1, 0, 0)), (5, (.iload_n 2, 1, 0, 0)), (6, (.iload_n 3, 1, 0, 0)), (7, (.invokevirtual 85, 1345, 136, 4)), (10, (.i2l, 1, 0, 0)), (11, (.lastore, 1, 0, 0)), (12, (.goto 11, 3, 0, 0)), (15, (.astore 5, 2, 0, 0)), (17, (.iconst 1, 1, 0, 0)), (18, (.ireturn, 1, 0, 0)), (19, (.astore 5, 2, 0, 0)), (21, (.iconst 2, 1, 0, 0)), (22, (.ireturn, 1, 0, 0)), (23, (.iconst 0, 1, 0, 0)), (24, (.ireturn, 1, 0, 0))]
noncomputable def po_300 : List (Nat × mOp) := [(0, (.aload_n 2, 1, 0, 0)), (1, (.iconst 0, 1, 0, 0)), (2, (.aload_n 0, 1, 0, 0)), (3, (.iload_n 1, 1, 0, 0)), (4, (.invokevirtual 88, 1356, 137, 2)), (7, (.i2l, 1, 0, 0)), (8, (.lastore, 1, 0, 0)), (9, (.goto 6, 3, 0, 0)), (12, (.astore_n 3, 1, 0, 0)), (13, (.iconst 1, 1, 0, 0)), (14, (.ireturn, 1, 0, 0)), (15, (.iconst 0, 1, 0, 0)), (16, (.ireturn, 1, 0, 0))]
noncomputable def po_301 : List (Nat × mOp) := [(0, (.aload_n 2, 1, 0, 0)), (1, (.iconst 0, 1, 0, 0)), (2, (.aload_n 0, 1, 0, 0)), (3, (.iload_n 1, 1, 0, 0)), (4, (.invokevirtual 91, 1364, 138, 2)), (7, (.i2l, 1, 0, 0)), (8, (.lastore, 1, 0, 0)), (9, (.goto 6, 3, 0, 0)), (12, (.astore_n 3, 1, 0, 0)), (13, (.iconst 1, 1, 0, 0)), (14, (.ireturn, 1, 0, 0)), (15, (.iconst 0, 1, 0, 0)), (16, (.ireturn, 1, 0, 0))]
noncomputable def po_302 : List (Nat × mOp) := [(0, (.aload_n 2, 1, 0, 0)), (1, (.iconst 0, 1, 0, 0)), (2, (.aload_n 0, 1, 0, 0)), (3, (.iload_n 1, 1, 0, 0)), (4, (.invokevirtual 94, 1371, 140, 2)), (7, (.i2l, 1, 0, 0)), (8, (.lastore, 1, 0, 0)), (9, (.goto 6, 3, 0, 0)), (12, (.astore_n 3, 1, 0, 0)), (13, (.iconst 1, 1, 0, 0)), (14, (.ireturn, 1, 0, 0)), (15, (.iconst 0, 1, 0, 0)), (16, (.ireturn, 1, 0, 0))]
noncomputable def po_303 : List (Nat × mOp) := [(0, (.aload 5, 2, 0, 0)), (2, (.iconst 0, 1, 0, 0)), (3, (.aload_n 0, 1, 0, 0)), (4, (.iload_n 1, 1, 0, 0)), (5, (.iload_n 2, 1, 0, 0)), (6, (.iload_n 3, 1, 0, 0)), (7, (.iload 4, 2, 0, 0)), (9, (.invokevirtual 97, 1382, 141, 5)), (12, (.i2l, 1, 0, 0)), (13, (.lastore, 1, 0, 0)), (14, (.goto 7, 3, 0, 0)), (17, (.astore 6, 2, 0, 0)), (19, (.iconst 1, 1, 0, 0)), (20, (.ireturn, 1, 0, 0)), (21, (.iconst 0, 1, 0, 0)), (22, (.ireturn, 1, 0, 0))]
noncomputable def po_304 : List (Nat × mOp) := [(0, (.aload 6, 2, 0, 0)), (2, (.iconst 0, 1, 0, 0)), (3, (.aload_n 0, 1, 0, 0)), (4, (.iload_n 1, 1, 0, 0)), (5, (.iload_n 2, 1, 0, 0)), (6, (.iload_n 3, 1, 0, 0)), (7, (.iload 4, 2, 0, 0)), (9, (.iload 5, 2, 0, 0)), (11, (.invokevirtual 101, 1404, 142, 6)), (14, (.i2l, 1, 0, 0)), (15, (.lastore, 1, 0, 0)), (16, (.goto 7, 3, 0, 0)), (19, (.astore 7, 2, 0, 0)), (21, (.iconst 1, 1, 0, 0)), (22, (.ireturn, 1, 0, 0)), (23, (.iconst 0, 1, 0, 0)), (24, (.ireturn, 1, 0, 0))]
noncomputable def po_305_0 : List (Nat × mOp) := [(0, (.new 8, 131, 11, 19)), (3, (.dup, 1, 0, 0)), (4, (.invokespecial 105, 133, 109, 1)), (7, (.astore_n 1, 1, 0, 0)), (8, (.new 106, 1413, 12, 60)), (11, (.dup, 1, 0, 0)), (12, (.invokespecial 108, 1415, 163, 1)), (15, (.astore_n 2, 1, 0, 0)), (16, (.iconst 1, 1, 0, 0)), (17, (.newarray .long, 2069, 0, 0)), (19, (.astore_n 3, 1, 0, 0)), (20, (.iconst 0, 1, 0, 0)), (21, (.istore 4, 2, 0, 0)), (23, (.iload 4, 2, 0, 0)), (25, (.aload_n 0, 1, 0, 0)), (26, (.arraylength, 1, 0, 0)), (27, (.bipush 9, 2, 0, 0)), (29, (.isub, 1, 0, 0)), (30, (.if_icmp .gt 2333, 3, 0, 0)), (33, (.aload_n 0, 1, 0, 0)), (34, (.iload 4, 2, 0, 0)), (36, (.iaload, 1, 0, 0)), (37, (.bipush 63, 2, 0, 0)), (39, (.iand, 1, 0, 0)), (40, (.tableswitch 2317 0 36 #[164, 237, 293, 349, 405, 461, 474, 487, 543, 611, 679, 747, 815, 895, 1041, 1128, 1196, 1252, 1308, 1376, 1432, 1445, 1513, 1569, 1625, 1704, 1784, 1864, 1920, 1976, 1989, 2045, 2137, 2241, 2254, 2267, 2292], 164, 0, 0)), (204, (.aload_n 1, 1, 0, 0)), (205, (.aload_n 0, 1, 0, 0)), (206, (.iload 4, 2, 0, 0)), (208, (.iconst 1, 1, 0, 0)), (209, (.iadd, 1, 0, 0)), (210, (.iaload, 1, 0, 0)), (211, (.aload_n 0, 1, 0, 0)), (212, (.iload 4, 2, 0, 0)), (214, (.iconst 2, 1, 0, 0)), (215, (.iadd, 1, 0, 0)), (216, (.iaload, 1, 0, 0)), (217, (.aload_n 0, 1, 0, 0)), (218, (.iload 4, 2, 0, 0)), (220, (.iconst 3, 1, 0, 0)), (221, (.iadd, 1, 0, 0)), (222, (.iaload, 1, 0, 0)), (223, (.aload_n 0, 1, 0, 0)), (224, (.iload 4, 2, 0, 0)), (226, (.iconst 4, 1, 0, 0)), (227, (.iadd, 1, 0, 0)), (228, (.iaload, 1, 0, 0)), (229, (.aload_n 0, 1, 0, 0)), (230, (.iload 4, 2, 0, 0)), (232, (.iconst 5, 1, 0, 0)), (233, (.iadd, 1, 0, 0)), (234, (.iaload, 1, 0, 0)), (235, (.invokevirtual 109, 526, 110, 6)), (238, (.aload_n 2, 1, 0, 0)), (239, (.aload_n 0, 1, 0, 0)), (240, (.iload 4, 2, 0, 0)), (242, (.iconst 1, 1, 0, 0)), (243, (.iadd, 1, 0, 0)), (244, (.iaload, 1, 0, 0)), (245, (.aload_n 0, 1, 0, 0)), (246, (.iload 4, 2, 0, 0)), (248, (.iconst 2, 1, 0, 0)), (249, (.iadd, 1, 0, 0)), (250, (.iaload, 1, 0, 0)), (251, (.aload_n 0, 1, 0, 0)), (252, (.iload 4, 2, 0, 0)), (254, (.iconst 3, 1, 0, 0)), (255, (.iadd, 1, 0, 0)), (256, (.iaload, 1, 0, 0)), (257, (.aload_n 0, 1, 0, 0)), (258, (.iload 4, 2, 0, 0)), (260, (.iconst 4, 1, 0, 0)), (261, (.iadd, 1, 0, 0)), (262, (.iaload, 1, 0, 0)), (263, (.aload_n 0, 1, 0, 0)), (264, (.iload 4, 2, 0, 0)), (266, (.iconst 5, 1, 0, 0)), (267, (.iadd, 1, 0, 0)), (268, (.iaload, 1, 0, 0)), (269, (.invokevirtual 112, 1612, 164, 6)), (272, (.if_icmp .eq 2085, 3, 0, 0)), (275, (.iconst 0, 1, 0, 0)), (276, (.ireturn, 1, 0, 0)), (277, (.aload_n 1, 1, 0, 0)), (278, (.aload_n 0, 1, 0, 0)), (279, (.iload 4, 2, 0, 0)), (281, (.iconst 1, 1, 0, 0)), (282, (.iadd, 1, 0, 0)), (283, (.iaload, 1, 0, 0)), (284, (.aload_n 3, 1, 0, 0)), (285, (.invokestatic 113, 614, 277, 3)), (288, (.istore 5, 2, 0, 0)), (290, (.aload_n 2, 1, 0, 0)), (291, (.aload_n 0, 1, 0, 0)), (292, (.iload 4, 2, 0, 0)), (294, (.iconst 1, 1, 0, 0)), (295, (.iadd, 1, 0, 0)), (296, (.iaload, 1, 0, 0)), (297, (.invokevirtual 118, 1620, 186, 2)), (300, (.istore 6, 2, 0, 0)), (302, (.aload_n 2, 1, 0, 0)), (303, (.invokevirtual 119, 1409, 160, 1)), (306, (.iload 5, 2, 0, 0)), (308, (.if_icmp .eq 5, 3, 0, 0)), (311, (.iconst 0, 1, 0, 0)), (312, (.ireturn, 1, 0, 0)), (313, (.iload 5, 2, 0, 0)), (315, (.ifCond .ne 15, 3, 0, 0)), (318, (.aload_n 3, 1, 0, 0)), (319, (.iconst 0, 1, 0, 0)), (320, (.laload, 1, 0, 0)), (321, (.iload 6, 2, 0, 0)), (323, (.i2l, 1, 0, 0)), (324, (.lcmp, 1, 0, 0)), (325, (.ifCond .eq 5, 3, 0, 0)), (328, (.iconst 0, 1, 0, 0)), (329, (.ireturn, 1, 0, 0)), (330, (.goto 2027, 3, 0, 0)), (333, (.aload_n 1, 1, 0, 0)), (334, (.aload_n 0, 1, 0, 0)), (335, (.iload 4, 2, 0, 0)), (337, (.iconst 1, 1, 0, 0)), (338, (.iadd, 1, 0, 0)), (339, (.iaload, 1, 0, 0)), (340, (.aload_n 3, 1, 0, 0)), (341, (.invokestatic 123, 849, 278, 3)), (344, (.istore 5, 2, 0, 0)), (346, (.aload_n 2, 1, 0, 0)), (347, (.aload_n 0, 1, 0, 0)), (348, (.iload 4, 2, 0, 0)), (350, (.iconst 1, 1, 0, 0)), (351, (.iadd, 1, 0, 0)), (352, (.iaload, 1, 0, 0)), (353, (.invokevirtual 125, 1700, 194, 2)), (356, (.istore 6, 2, 0, 0)), (358, (.aload_n 2, 1, 0, 0)), (359, (.invokevirtual 119, 1409, 160, 1)), (362, (.iload 5, 2, 0, 0)), (364, (.if_icmp .eq 5, 3, 0, 0)), (367, (.iconst 0, 1, 0, 0)), (368, (.ireturn, 1, 0, 0)), (369, (.iload 5, 2, 0, 0)), (371, (.ifCond .ne 15, 3, 0, 0)), (374, (.aload_n 3, 1, 0, 0)), (375, (.iconst 0, 1, 0, 0)), (376, (.laload, 1, 0, 0)), (377, (.iload 6, 2, 0, 0)), (379, (.i2l, 1, 0, 0)), (380, (.lcmp, 1, 0, 0)), (381, (.ifCond .eq 5, 3, 0, 0)), (384, (.iconst 0, 1, 0, 0))]
noncomputable def po_305_1 : List (Nat × mOp) := [(385, (.ireturn, 1, 0, 0)), (386, (.goto 1971, 3, 0, 0)), (389, (.aload_n 1, 1, 0, 0)), (390, (.aload_n 0, 1, 0, 0)), (391, (.iload 4, 2, 0, 0)), (393, (.iconst 1, 1, 0, 0)), (394, (.iadd, 1, 0, 0)), (395, (.iaload, 1, 0, 0)), (396, (.aload_n 3, 1, 0, 0)), (397, (.invokestatic 126, 906, 279, 3)), (400, (.istore 5, 2, 0, 0)), (402, (.aload_n 2, 1, 0, 0)), (403, (.aload_n 0, 1, 0, 0)), (404, (.iload 4, 2, 0, 0)), (406, (.iconst 1, 1, 0, 0)), (407, (.iadd, 1, 0, 0)), (408, (.iaload, 1, 0, 0)), (409, (.invokevirtual 128, 1740, 202, 2)), (412, (.istore 6, 2, 0, 0)), (414, (.aload_n 2, 1, 0, 0)), (415, (.invokevirtual 119, 1409, 160, 1)), (418, (.iload 5, 2, 0, 0)), (420, (.if_icmp .eq 5, 3, 0, 0)), (423, (.iconst 0, 1, 0, 0)), (424, (.ireturn, 1, 0, 0)), (425, (.iload 5, 2, 0, 0)), (427, (.ifCond .ne 15, 3, 0, 0)), (430, (.aload_n 3, 1, 0, 0)), (431, (.iconst 0, 1, 0, 0)), (432, (.laload, 1, 0, 0)), (433, (.iload 6, 2, 0, 0)), (435, (.i2l, 1, 0, 0)), (436, (.lcmp, 1, 0, 0)), (437, (.ifCond .eq 5, 3, 0, 0)), (440, (.iconst 0, 1, 0, 0)), (441, (.ireturn, 1, 0, 0)), (442, (.goto 1915, 3, 0, 0)), (445, (.aload_n 1, 1, 0, 0)), (446, (.aload_n 0, 1, 0, 0)), (447, (.iload 4, 2, 0, 0)), (449, (.iconst 1, 1, 0, 0)), (450, (.iadd, 1, 0, 0)), (451, (.iaload, 1, 0, 0)), (452, (.aload_n 3, 1, 0, 0)), (453, (.invokestatic 129, 1059, 280, 3)), (456, (.istore 5, 2, 0, 0)), (458, (.aload_n 2, 1, 0, 0)), (459, (.aload_n 0, 1, 0, 0)), (460, (.iload 4, 2, 0, 0)), (462, (.iconst 1, 1, 0, 0)), (463, (.iadd, 1, 0, 0)), (464, (.iaload, 1, 0, 0)), (465, (.invokevirtual 131, 1836, 218, 2)), (468, (.istore 6, 2, 0, 0)), (470, (.aload_n 2, 1, 0, 0)), (471, (.invokevirtual 119, 1409, 160, 1)), (474, (.iload 5, 2, 0, 0)), (476, (.if_icmp .eq 5, 3, 0, 0)), (479, (.iconst 0, 1, 0, 0)), (480, (.ireturn, 1, 0, 0)), (481, (.iload 5, 2, 0, 0)), (483, (.ifCond .ne 15, 3, 0, 0)), (486, (.aload_n 3, 1, 0, 0)), (487, (.iconst 0, 1, 0, 0)), (488, (.laload, 1, 0, 0)), (489, (.iload 6, 2, 0, 0)), (491, (.i2l, 1, 0, 0)), (492, (.lcmp, 1, 0, 0)), (493, (.ifCond .eq 5, 3, 0, 0)), (496, (.iconst 0, 1, 0, 0)), (497, (.ireturn, 1, 0, 0)), (498, (.goto 1859, 3, 0, 0)), (501, (.aload_n 1, 1, 0, 0)), (502, (.invokevirtual 132, 534, 115, 1)), (505, (.aload_n 2, 1, 0, 0)), (506, (.invokevirtual 135, 1616, 178, 1)), (509, (.if_icmp .eq 1848, 3, 0, 0)), (512, (.iconst 0, 1, 0, 0)), (513, (.ireturn, 1, 0, 0)), (514, (.aload_n 1, 1, 0, 0)), (515, (.invokevirtual 136, 538, 116, 1)), (518, (.aload_n 2, 1, 0, 0)), (519, (.invokevirtual 139, 1840, 219, 1)), (522, (.if_icmp .eq 1835, 3, 0, 0)), (525, (.iconst 0, 1, 0, 0)), (526, (.ireturn, 1, 0, 0)), (527, (.aload_n 1, 1, 0, 0)), (528, (.aload_n 0, 1, 0, 0)), (529, (.iload 4, 2, 0, 0)), (531, (.iconst 1, 1, 0, 0)), (532, (.iadd, 1, 0, 0)), (533, (.iaload, 1, 0, 0)), (534, (.aload_n 3, 1, 0, 0)), (535, (.invokestatic 140, 1079, 281, 3)), (538, (.istore 5, 2, 0, 0)), (540, (.aload_n 2, 1, 0, 0)), (541, (.aload_n 0, 1, 0, 0)), (542, (.iload 4, 2, 0, 0)), (544, (.iconst 1, 1, 0, 0)), (545, (.iadd, 1, 0, 0)), (546, (.iaload, 1, 0, 0)), (547, (.invokevirtual 142, 1844, 224, 2)), (550, (.istore 6, 2, 0, 0)), (552, (.aload_n 2, 1, 0, 0)), (553, (.invokevirtual 119, 1409, 160, 1)), (556, (.iload 5, 2, 0, 0)), (558, (.if_icmp .eq 5, 3, 0, 0)), (561, (.iconst 0, 1, 0, 0)), (562, (.ireturn, 1, 0, 0)), (563, (.iload 5, 2, 0, 0)), (565, (.ifCond .ne 15, 3, 0, 0)), (568, (.aload_n 3, 1, 0, 0)), (569, (.iconst 0, 1, 0, 0)), (570, (.laload, 1, 0, 0)), (571, (.iload 6, 2, 0, 0)), (573, (.i2l, 1, 0, 0)), (574, (.lcmp, 1, 0, 0)), (575, (.ifCond .eq 5, 3, 0, 0)), (578, (.iconst 0, 1, 0, 0)), (579, (.ireturn, 1, 0, 0)), (580, (.goto 1777, 3, 0, 0)), (583, (.aload_n 1, 1, 0, 0)), (584, (.aload_n 0, 1, 0, 0)), (585, (.iload 4, 2, 0, 0)), (587, (.iconst 1, 1, 0, 0)), (588, (.iadd, 1, 0, 0)), (589, (.iaload, 1, 0, 0)), (590, (.aload_n 0, 1, 0, 0)), (591, (.iload 4, 2, 0, 0)), (593, (.iconst 2, 1, 0, 0)), (594, (.iadd, 1, 0, 0)), (595, (.iaload, 1, 0, 0)), (596, (.aload_n 3, 1, 0, 0)), (597, (.invokestatic 143, 1098, 282, 4)), (600, (.istore 5, 2, 0, 0)), (602, (.aload_n 2, 1, 0, 0)), (603, (.aload_n 0, 1, 0, 0)), (604, (.iload 4, 2, 0, 0)), (606, (.iconst 1, 1, 0, 0)), (607, (.iadd, 1, 0, 0)), (608, (.iaload, 1, 0, 0)), (609, (.aload_n 0, 1, 0, 0)), (610, (.iload 4, 2, 0, 0)), (612, (.iconst 2, 1, 0, 0)), (613, (.iadd, 1, 0, 0)), (614, (.iaload, 1, 0, 0)), (615, (.invokevirtual 146, 1867, 228, 3)), (618, (.istore 6, 2, 0, 0)), (620, (.aload_n 2, 1, 0, 0)), (621, (.invokevirtual 119, 1409, 160, 1))]
noncomputable def po_305_2 : List (Nat × mOp) := [(624, (.iload 5, 2, 0, 0)), (626, (.if_icmp .eq 5, 3, 0, 0)), (629, (.iconst 0, 1, 0, 0)), (630, (.ireturn, 1, 0, 0)), (631, (.iload 5, 2, 0, 0)), (633, (.ifCond .ne 15, 3, 0, 0)), (636, (.aload_n 3, 1, 0, 0)), (637, (.iconst 0, 1, 0, 0)), (638, (.laload, 1, 0, 0)), (639, (.iload 6, 2, 0, 0)), (641, (.i2l, 1, 0, 0)), (642, (.lcmp, 1, 0, 0)), (643, (.ifCond .eq 5, 3, 0, 0)), (646, (.iconst 0, 1, 0, 0)), (647, (.ireturn, 1, 0, 0)), (648, (.goto 1709, 3, 0, 0)), (651, (.aload_n 1, 1, 0, 0)), (652, (.aload_n 0, 1, 0, 0)), (653, (.iload 4, 2, 0, 0)), (655, (.iconst 1, 1, 0, 0)), (656, (.iadd, 1, 0, 0)), (657, (.iaload, 1, 0, 0)), (658, (.aload_n 0, 1, 0, 0)), (659, (.iload 4, 2, 0, 0)), (661, (.iconst 2, 1, 0, 0)), (662, (.iadd, 1, 0, 0)), (663, (.iaload, 1, 0, 0)), (664, (.aload_n 3, 1, 0, 0)), (665, (.invokestatic 147, 1131, 283, 4)), (668, (.istore 5, 2, 0, 0)), (670, (.aload_n 2, 1, 0, 0)), (671, (.aload_n 0, 1, 0, 0)), (672, (.iload 4, 2, 0, 0)), (674, (.iconst 1, 1, 0, 0)), (675, (.iadd, 1, 0, 0)), (676, (.iaload, 1, 0, 0)), (677, (.aload_n 0, 1, 0, 0)), (678, (.iload 4, 2, 0, 0)), (680, (.iconst 2, 1, 0, 0)), (681, (.iadd, 1, 0, 0)), (682, (.iaload, 1, 0, 0)), (683, (.invokevirtual 149, 1875, 229, 3)), (686, (.istore 6, 2, 0, 0)), (688, (.aload_n 2, 1, 0, 0)), (689, (.invokevirtual 119, 1409, 160, 1)), (692, (.iload 5, 2, 0, 0)), (694, (.if_icmp .eq 5, 3, 0, 0)), (697, (.iconst 0, 1, 0, 0)), (698, (.ireturn, 1, 0, 0)), (699, (.iload 5, 2, 0, 0)), (701, (.ifCond .ne 15, 3, 0, 0)), (704, (.aload_n 3, 1, 0, 0)), (705, (.iconst 0, 1, 0, 0)), (706, (.laload, 1, 0, 0)), (707, (.iload 6, 2, 0, 0)), (709, (.i2l, 1, 0, 0)), (710, (.lcmp, 1, 0, 0)), (711, (.ifCond .eq 5, 3, 0, 0)), (714, (.iconst 0, 1, 0, 0)), (715, (.ireturn, 1, 0, 0)), (716, (.goto 1641, 3, 0, 0)), (719, (.aload_n 1, 1, 0, 0)), (720, (.aload_n 0, 1, 0, 0)), (721, (.iload 4, 2, 0, 0)), (723, (.iconst 1, 1, 0, 0)), (724, (.iadd, 1, 0, 0)), (725, (.iaload, 1, 0, 0)), (726, (.aload_n 0, 1, 0, 0)), (727, (.iload 4, 2, 0, 0)), (729, (.iconst 2, 1, 0, 0)), (730, (.iadd, 1, 0, 0)), (731, (.iaload, 1, 0, 0)), (732, (.aload_n 3, 1, 0, 0)), (733, (.invokestatic 150, 1143, 284, 4)), (736, (.istore 5, 2, 0, 0)), (738, (.aload_n 2, 1, 0, 0)), (739, (.aload_n 0, 1, 0, 0)), (740, (.iload 4, 2, 0, 0)), (742, (.iconst 1, 1, 0, 0)), (743, (.iadd, 1, 0, 0)), (744, (.iaload, 1, 0, 0)), (745, (.aload_n 0, 1, 0, 0)), (746, (.iload 4, 2, 0, 0)), (748, (.iconst 2, 1, 0, 0)), (749, (.iadd, 1, 0, 0)), (750, (.iaload, 1, 0, 0)), (751, (.invokevirtual 152, 1883, 230, 3)), (754, (.istore 6, 2, 0, 0)), (756, (.aload_n 2, 1, 0, 0)), (757, (.invokevirtual 119, 1409, 160, 1)), (760, (.iload 5, 2, 0, 0)), (762, (.if_icmp .eq 5, 3, 0, 0)), (765, (.iconst 0, 1, 0, 0)), (766, (.ireturn, 1, 0, 0)), (767, (.iload 5, 2, 0, 0)), (769, (.ifCond .ne 15, 3, 0, 0)), (772, (.aload_n 3, 1, 0, 0)), (773, (.iconst 0, 1, 0, 0)), (774, (.laload, 1, 0, 0)), (775, (.iload 6, 2, 0, 0)), (777, (.i2l, 1, 0, 0)), (778, (.lcmp, 1, 0, 0)), (779, (.ifCond .eq 5, 3, 0, 0)), (782, (.iconst 0, 1, 0, 0)), (783, (.ireturn, 1, 0, 0)), (784, (.goto 1573, 3, 0, 0)), (787, (.aload_n 1, 1, 0, 0)), (788, (.aload_n 0, 1, 0, 0)), (789, (.iload 4, 2, 0, 0)), (791, (.iconst 1, 1, 0, 0)), (792, (.iadd, 1, 0, 0)), (793, (.iaload, 1, 0, 0)), (794, (.aload_n 0, 1, 0, 0)), (795, (.iload 4, 2, 0, 0)), (797, (.iconst 2, 1, 0, 0)), (798, (.iadd, 1, 0, 0)), (799, (.iaload, 1, 0, 0)), (800, (.aload_n 3, 1, 0, 0)), (801, (.invokestatic 153, 1158, 285, 4)), (804, (.istore 5, 2, 0, 0)), (806, (.aload_n 2, 1, 0, 0)), (807, (.aload_n 0, 1, 0, 0)), (808, (.iload 4, 2, 0, 0)), (810, (.iconst 1, 1, 0, 0)), (811, (.iadd, 1, 0, 0)), (812, (.iaload, 1, 0, 0)), (813, (.aload_n 0, 1, 0, 0)), (814, (.iload 4, 2, 0, 0)), (816, (.iconst 2, 1, 0, 0)), (817, (.iadd, 1, 0, 0)), (818, (.iaload, 1, 0, 0)), (819, (.invokevirtual 155, 1891, 231, 3)), (822, (.istore 6, 2, 0, 0)), (824, (.aload_n 2, 1, 0, 0)), (825, (.invokevirtual 119, 1409, 160, 1)), (828, (.iload 5, 2, 0, 0)), (830, (.if_icmp .eq 5, 3, 0, 0)), (833, (.iconst 0, 1, 0, 0)), (834, (.ireturn, 1, 0, 0)), (835, (.iload 5, 2, 0, 0)), (837, (.ifCond .ne 15, 3, 0, 0)), (840, (.aload_n 3, 1, 0, 0)), (841, (.iconst 0, 1, 0, 0)), (842, (.laload, 1, 0, 0)), (843, (.iload 6, 2, 0, 0)), (845, (.i2l, 1, 0, 0)), (846, (.lcmp, 1, 0, 0)), (847, (.ifCond .eq 5, 3, 0, 0)), (850, (.iconst 0, 1, 0, 0)), (851, (.ireturn, 1, 0, 0))]
noncomputable def po_305_3 : List (Nat × mOp) := [(852, (.goto 1505, 3, 0, 0)), (855, (.aload_n 1, 1, 0, 0)), (856, (.aload_n 0, 1, 0, 0)), (857, (.iload 4, 2, 0, 0)), (859, (.iconst 1, 1, 0, 0)), (860, (.iadd, 1, 0, 0)), (861, (.iaload, 1, 0, 0)), (862, (.aload_n 0, 1, 0, 0)), (863, (.iload 4, 2, 0, 0)), (865, (.iconst 2, 1, 0, 0)), (866, (.iadd, 1, 0, 0)), (867, (.iaload, 1, 0, 0)), (868, (.aload_n 0, 1, 0, 0)), (869, (.iload 4, 2, 0, 0)), (871, (.iconst 3, 1, 0, 0)), (872, (.iadd, 1, 0, 0)), (873, (.iaload, 1, 0, 0)), (874, (.aload_n 3, 1, 0, 0)), (875, (.invokestatic 156, 1165, 286, 5)), (878, (.istore 5, 2, 0, 0)), (880, (.aload_n 2, 1, 0, 0)), (881, (.aload_n 0, 1, 0, 0)), (882, (.iload 4, 2, 0, 0)), (884, (.iconst 1, 1, 0, 0)), (885, (.iadd, 1, 0, 0)), (886, (.iaload, 1, 0, 0)), (887, (.aload_n 0, 1, 0, 0)), (888, (.iload 4, 2, 0, 0)), (890, (.iconst 2, 1, 0, 0)), (891, (.iadd, 1, 0, 0)), (892, (.iaload, 1, 0, 0)), (893, (.aload_n 0, 1, 0, 0)), (894, (.iload 4, 2, 0, 0)), (896, (.iconst 3, 1, 0, 0)), (897, (.iadd, 1, 0, 0)), (898, (.iaload, 1, 0, 0)), (899, (.invokevirtual 159, 1895, 232, 4)), (902, (.istore 6, 2, 0, 0)), (904, (.aload_n 2, 1, 0, 0)), (905, (.invokevirtual 119, 1409, 160, 1)), (908, (.iload 5, 2, 0, 0)), (910, (.if_icmp .eq 5, 3, 0, 0)), (913, (.iconst 0, 1, 0, 0)), (914, (.ireturn, 1, 0, 0)), (915, (.iload 5, 2, 0, 0)), (917, (.ifCond .ne 15, 3, 0, 0)), (920, (.aload_n 3, 1, 0, 0)), (921, (.iconst 0, 1, 0, 0)), (922, (.laload, 1, 0, 0)), (923, (.iload 6, 2, 0, 0)), (925, (.i2l, 1, 0, 0)), (926, (.lcmp, 1, 0, 0)), (927, (.ifCond .eq 5, 3, 0, 0)), (930, (.iconst 0, 1, 0, 0)), (931, (.ireturn, 1, 0, 0)), (932, (.goto 1425, 3, 0, 0)), (935, (.aload_n 1, 1, 0, 0)), (936, (.aload_n 0, 1, 0, 0)), (937, (.iload 4, 2, 0, 0)), (939, (.iconst 1, 1, 0, 0)), (940, (.iadd, 1, 0, 0)), (941, (.iaload, 1, 0, 0)), (942, (.aload_n 0, 1, 0, 0)), (943, (.iload 4, 2, 0, 0)), (945, (.iconst 2, 1, 0, 0)), (946, (.iadd, 1, 0, 0)), (947, (.iaload, 1, 0, 0)), (948, (.aload_n 0, 1, 0, 0)), (949, (.iload 4, 2, 0, 0)), (951, (.iconst 3, 1, 0, 0)), (952, (.iadd, 1, 0, 0)), (953, (.iaload, 1, 0, 0)), (954, (.aload_n 0, 1, 0, 0)), (955, (.iload 4, 2, 0, 0)), (957, (.iconst 4, 1, 0, 0)), (958, (.iadd, 1, 0, 0)), (959, (.iaload, 1, 0, 0)), (960, (.aload_n 0, 1, 0, 0)), (961, (.iload 4, 2, 0, 0)), (963, (.iconst 5, 1, 0, 0)), (964, (.iadd, 1, 0, 0)), (965, (.iaload, 1, 0, 0)), (966, (.aload_n 0, 1, 0, 0)), (967, (.iload 4, 2, 0, 0)), (969, (.bipush 6, 2, 0, 0)), (971, (.iadd, 1, 0, 0)), (972, (.iaload, 1, 0, 0)), (973, (.aload_n 0, 1, 0, 0)), (974, (.iload 4, 2, 0, 0)), (976, (.bipush 7, 2, 0, 0)), (978, (.iadd, 1, 0, 0)), (979, (.iaload, 1, 0, 0)), (980, (.aload_n 0, 1, 0, 0)), (981, (.iload 4, 2, 0, 0)), (983, (.bipush 8, 2, 0, 0)), (985, (.iadd, 1, 0, 0)), (986, (.iaload, 1, 0, 0)), (987, (.aload_n 3, 1, 0, 0)), (988, (.invokestatic 160, 1173, 287, 10)), (991, (.istore 5, 2, 0, 0)), (993, (.aload_n 2, 1, 0, 0)), (994, (.aload_n 0, 1, 0, 0)), (995, (.iload 4, 2, 0, 0)), (997, (.iconst 1, 1, 0, 0)), (998, (.iadd, 1, 0, 0)), (999, (.iaload, 1, 0, 0)), (1000, (.aload_n 0, 1, 0, 0)), (1001, (.iload 4, 2, 0, 0)), (1003, (.iconst 2, 1, 0, 0)), (1004, (.iadd, 1, 0, 0)), (1005, (.iaload, 1, 0, 0)), (1006, (.aload_n 0, 1, 0, 0)), (1007, (.iload 4, 2, 0, 0)), (1009, (.iconst 3, 1, 0, 0)), (1010, (.iadd, 1, 0, 0)), (1011, (.iaload, 1, 0, 0)), (1012, (.aload_n 0, 1, 0, 0)), (1013, (.iload 4, 2, 0, 0)), (1015, (.iconst 4, 1, 0, 0)), (1016, (.iadd, 1, 0, 0)), (1017, (.iaload, 1, 0, 0)), (1018, (.aload_n 0, 1, 0, 0)), (1019, (.iload 4, 2, 0, 0)), (1021, (.iconst 5, 1, 0, 0)), (1022, (.iadd, 1, 0, 0)), (1023, (.iaload, 1, 0, 0)), (1024, (.aload_n 0, 1, 0, 0)), (1025, (.iload 4, 2, 0, 0)), (1027, (.bipush 6, 2, 0, 0)), (1029, (.iadd, 1, 0, 0)), (1030, (.iaload, 1, 0, 0)), (1031, (.aload_n 0, 1, 0, 0)), (1032, (.iload 4, 2, 0, 0)), (1034, (.bipush 7, 2, 0, 0)), (1036, (.iadd, 1, 0, 0)), (1037, (.iaload, 1, 0, 0)), (1038, (.aload_n 0, 1, 0, 0)), (1039, (.iload 4, 2, 0, 0)), (1041, (.bipush 8, 2, 0, 0)), (1043, (.iadd, 1, 0, 0)), (1044, (.iaload, 1, 0, 0)), (1045, (.invokevirtual 163, 1899, 233, 9)), (1048, (.istore 6, 2, 0, 0)), (1050, (.aload_n 2, 1, 0, 0)), (1051, (.invokevirtual 119, 1409, 160, 1)), (1054, (.iload 5, 2, 0, 0)), (1056, (.if_icmp .eq 5, 3, 0, 0)), (1059, (.iconst 0, 1, 0, 0)), (1060, (.ireturn, 1, 0, 0)), (1061, (.iload 5, 2, 0, 0))]
noncomputable def po_305_4 : List (Nat × mOp) := [(1063, (.ifCond .ne 15, 3, 0, 0)), (1066, (.aload_n 3, 1, 0, 0)), (1067, (.iconst 0, 1, 0, 0)), (1068, (.laload, 1, 0, 0)), (1069, (.iload 6, 2, 0, 0)), (1071, (.i2l, 1, 0, 0)), (1072, (.lcmp, 1, 0, 0)), (1073, (.ifCond .eq 5, 3, 0, 0)), (1076, (.iconst 0, 1, 0, 0)), (1077, (.ireturn, 1, 0, 0)), (1078, (.goto 1279, 3, 0, 0)), (1081, (.aload_n 1, 1, 0, 0)), (1082, (.aload_n 0, 1, 0, 0)), (1083, (.iload 4, 2, 0, 0)), (1085, (.iconst 1, 1, 0, 0)), (1086, (.iadd, 1, 0, 0)), (1087, (.iaload, 1, 0, 0)), (1088, (.aload_n 0, 1, 0, 0)), (1089, (.iload 4, 2, 0, 0)), (1091, (.iconst 2, 1, 0, 0)), (1092, (.iadd, 1, 0, 0)), (1093, (.iaload, 1, 0, 0)), (1094, (.aload_n 0, 1, 0, 0)), (1095, (.iload 4, 2, 0, 0)), (1097, (.iconst 3, 1, 0, 0)), (1098, (.iadd, 1, 0, 0)), (1099, (.iaload, 1, 0, 0)), (1100, (.aload_n 3, 1, 0, 0)), (1101, (.invokestatic 164, 1183, 288, 5)), (1104, (.istore 5, 2, 0, 0)), (1106, (.aload_n 2, 1, 0, 0)), (1107, (.aload_n 0, 1, 0, 0)), (1108, (.iload 4, 2, 0, 0)), (1110, (.iconst 1, 1, 0, 0)), (1111, (.iadd, 1, 0, 0)), (1112, (.iaload, 1, 0, 0)), (1113, (.aload_n 0, 1, 0, 0)), (1114, (.iload 4, 2, 0, 0)), (1116, (.iconst 2, 1, 0, 0)), (1117, (.iadd, 1, 0, 0)), (1118, (.iaload, 1, 0, 0)), (1119, (.aload_n 0, 1, 0, 0)), (1120, (.iload 4, 2, 0, 0)), (1122, (.iconst 3, 1, 0, 0)), (1123, (.iadd, 1, 0, 0)), (1124, (.iaload, 1, 0, 0)), (1125, (.invokevirtual 166, 1903, 234, 4)), (1128, (.istore 6, 2, 0, 0)), (1130, (.aload_n 2, 1, 0, 0)), (1131, (.invokevirtual 119, 1409, 160, 1)), (1134, (.iload 5, 2, 0, 0)), (1136, (.if_icmp .eq 5, 3, 0, 0)), (1139, (.iconst 0, 1, 0, 0)), (1140, (.ireturn, 1, 0, 0)), (1141, (.iload 5, 2, 0, 0)), (1143, (.ifCond .ne 22, 3, 0, 0)), (1146, (.aload_n 3, 1, 0, 0)), (1147, (.iconst 0, 1, 0, 0)), (1148, (.laload, 1, 0, 0)), (1149, (.iload 6, 2, 0, 0)), (1151, (.ifCond .eq 7, 3, 0, 0)), (1154, (.lconst 1, 1, 0, 0)), (1155, (.goto 4, 3, 0, 0)), (1158, (.lconst 0, 1, 0, 0)), (1159, (.lcmp, 1, 0, 0)), (1160, (.ifCond .eq 5, 3, 0, 0)), (1163, (.iconst 0, 1, 0, 0)), (1164, (.ireturn, 1, 0, 0)), (1165, (.goto 1192, 3, 0, 0)), (1168, (.aload_n 1, 1, 0, 0)), (1169, (.aload_n 0, 1, 0, 0)), (1170, (.iload 4, 2, 0, 0)), (1172, (.iconst 1, 1, 0, 0)), (1173, (.iadd, 1, 0, 0)), (1174, (.iaload, 1, 0, 0)), (1175, (.aload_n 0, 1, 0, 0)), (1176, (.iload 4, 2, 0, 0)), (1178, (.iconst 2, 1, 0, 0)), (1179, (.iadd, 1, 0, 0)), (1180, (.iaload, 1, 0, 0)), (1181, (.aload_n 3, 1, 0, 0)), (1182, (.invokestatic 167, 1191, 289, 4)), (1185, (.istore 5, 2, 0, 0)), (1187, (.aload_n 2, 1, 0, 0)), (1188, (.aload_n 0, 1, 0, 0)), (1189, (.iload 4, 2, 0, 0)), (1191, (.iconst 1, 1, 0, 0)), (1192, (.iadd, 1, 0, 0)), (1193, (.iaload, 1, 0, 0)), (1194, (.aload_n 0, 1, 0, 0)), (1195, (.iload 4, 2, 0, 0)), (1197, (.iconst 2, 1, 0, 0)), (1198, (.iadd, 1, 0, 0)), (1199, (.iaload, 1, 0, 0)), (1200, (.invokevirtual 169, 1907, 236, 3)), (1203, (.istore 6, 2, 0, 0)), (1205, (.aload_n 2, 1, 0, 0)), (1206, (.invokevirtual 119, 1409, 160, 1)), (1209, (.iload 5, 2, 0, 0)), (1211, (.if_icmp .eq 5, 3, 0, 0)), (1214, (.iconst 0, 1, 0, 0)), (1215, (.ireturn, 1, 0, 0)), (1216, (.iload 5, 2, 0, 0)), (1218, (.ifCond .ne 15, 3, 0, 0)), (1221, (.aload_n 3, 1, 0, 0)), (1222, (.iconst 0, 1, 0, 0)), (1223, (.laload, 1, 0, 0)), (1224, (.iload 6, 2, 0, 0)), (1226, (.i2l, 1, 0, 0)), (1227, (.lcmp, 1, 0, 0)), (1228, (.ifCond .eq 5, 3, 0, 0)), (1231, (.iconst 0, 1, 0, 0)), (1232, (.ireturn, 1, 0, 0)), (1233, (.goto 1124, 3, 0, 0)), (1236, (.aload_n 1, 1, 0, 0)), (1237, (.aload_n 0, 1, 0, 0)), (1238, (.iload 4, 2, 0, 0)), (1240, (.iconst 1, 1, 0, 0)), (1241, (.iadd, 1, 0, 0)), (1242, (.iaload, 1, 0, 0)), (1243, (.aload_n 3, 1, 0, 0)), (1244, (.invokestatic 170, 1209, 290, 3)), (1247, (.istore 5, 2, 0, 0)), (1249, (.aload_n 2, 1, 0, 0)), (1250, (.aload_n 0, 1, 0, 0)), (1251, (.iload 4, 2, 0, 0)), (1253, (.iconst 1, 1, 0, 0)), (1254, (.iadd, 1, 0, 0)), (1255, (.iaload, 1, 0, 0)), (1256, (.invokevirtual 172, 1915, 237, 2)), (1259, (.istore 6, 2, 0, 0)), (1261, (.aload_n 2, 1, 0, 0)), (1262, (.invokevirtual 119, 1409, 160, 1)), (1265, (.iload 5, 2, 0, 0)), (1267, (.if_icmp .eq 5, 3, 0, 0)), (1270, (.iconst 0, 1, 0, 0)), (1271, (.ireturn, 1, 0, 0)), (1272, (.iload 5, 2, 0, 0)), (1274, (.ifCond .ne 15, 3, 0, 0)), (1277, (.aload_n 3, 1, 0, 0)), (1278, (.iconst 0, 1, 0, 0)), (1279, (.laload, 1, 0, 0)), (1280, (.iload 6, 2, 0, 0)), (1282, (.i2l, 1, 0, 0)), (1283, (.lcmp, 1, 0, 0)), (1284, (.ifCond .eq 5, 3, 0, 0)), (1287, (.iconst 0, 1, 0, 0)), (1288, (.ireturn, 1, 0, 0)), (1289, (.goto 1068, 3, 0, 0)), (1292, (.aload_n 1, 1, 0, 0))]
noncomputable def po_305_5 : List (Nat × mOp) := [(1293, (.aload_n 0, 1, 0, 0)), (1294, (.iload 4, 2, 0, 0)), (1296, (.iconst 1, 1, 0, 0)), (1297, (.iadd, 1, 0, 0)), (1298, (.iaload, 1, 0, 0)), (1299, (.aload_n 3, 1, 0, 0)), (1300, (.invokestatic 173, 1216, 291, 3)), (1303, (.istore 5, 2, 0, 0)), (1305, (.aload_n 2, 1, 0, 0)), (1306, (.aload_n 0, 1, 0, 0)), (1307, (.iload 4, 2, 0, 0)), (1309, (.iconst 1, 1, 0, 0)), (1310, (.iadd, 1, 0, 0)), (1311, (.iaload, 1, 0, 0)), (1312, (.invokevirtual 175, 1923, 242, 2)), (1315, (.istore 6, 2, 0, 0)), (1317, (.aload_n 2, 1, 0, 0)), (1318, (.invokevirtual 119, 1409, 160, 1)), (1321, (.iload 5, 2, 0, 0)), (1323, (.if_icmp .eq 5, 3, 0, 0)), (1326, (.iconst 0, 1, 0, 0)), (1327, (.ireturn, 1, 0, 0)), (1328, (.iload 5, 2, 0, 0)), (1330, (.ifCond .ne 15, 3, 0, 0)), (1333, (.aload_n 3, 1, 0, 0)), (1334, (.iconst 0, 1, 0, 0)), (1335, (.laload, 1, 0, 0)), (1336, (.iload 6, 2, 0, 0)), (1338, (.i2l, 1, 0, 0)), (1339, (.lcmp, 1, 0, 0)), (1340, (.ifCond .eq 5, 3, 0, 0)), (1343, (.iconst 0, 1, 0, 0)), (1344, (.ireturn, 1, 0, 0)), (1345, (.goto 1012, 3, 0, 0)), (1348, (.aload_n 1, 1, 0, 0)), (1349, (.aload_n 0, 1, 0, 0)), (1350, (.iload 4, 2, 0, 0)), (1352, (.iconst 1, 1, 0, 0)), (1353, (.iadd, 1, 0, 0)), (1354, (.iaload, 1, 0, 0)), (1355, (.aload_n 0, 1, 0, 0)), (1356, (.iload 4, 2, 0, 0)), (1358, (.iconst 2, 1, 0, 0)), (1359, (.iadd, 1, 0, 0)), (1360, (.iaload, 1, 0, 0)), (1361, (.aload_n 3, 1, 0, 0)), (1362, (.invokestatic 176, 1244, 292, 4)), (1365, (.istore 5, 2, 0, 0)), (1367, (.aload_n 2, 1, 0, 0)), (1368, (.aload_n 0, 1, 0, 0)), (1369, (.iload 4, 2, 0, 0)), (1371, (.iconst 1, 1, 0, 0)), (1372, (.iadd, 1, 0, 0)), (1373, (.iaload, 1, 0, 0)), (1374, (.aload_n 0, 1, 0, 0)), (1375, (.iload 4, 2, 0, 0)), (1377, (.iconst 2, 1, 0, 0)), (1378, (.iadd, 1, 0, 0)), (1379, (.iaload, 1, 0, 0)), (1380, (.invokevirtual 178, 1939, 243, 3)), (1383, (.istore 6, 2, 0, 0)), (1385, (.aload_n 2, 1, 0, 0)), (1386, (.invokevirtual 119, 1409, 160, 1)), (1389, (.iload 5, 2, 0, 0)), (1391, (.if_icmp .eq 5, 3, 0, 0)), (1394, (.iconst 0, 1, 0, 0)), (1395, (.ireturn, 1, 0, 0)), (1396, (.iload 5, 2, 0, 0)), (1398, (.ifCond .ne 15, 3, 0, 0)), (1401, (.aload_n 3, 1, 0, 0)), (1402, (.iconst 0, 1, 0, 0)), (1403, (.laload, 1, 0, 0)), (1404, (.iload 6, 2, 0, 0)), (1406, (.i2l, 1, 0, 0)), (1407, (.lcmp, 1, 0, 0)), (1408, (.ifCond .eq 5, 3, 0, 0)), (1411, (.iconst 0, 1, 0, 0)), (1412, (.ireturn, 1, 0, 0)), (1413, (.goto 944, 3, 0, 0)), (1416, (.aload_n 1, 1, 0, 0)), (1417, (.aload_n 0, 1, 0, 0)), (1418, (.iload 4, 2, 0, 0)), (1420, (.iconst 1, 1, 0, 0)), (1421, (.iadd, 1, 0, 0)), (1422, (.iaload, 1, 0, 0)), (1423, (.aload_n 3, 1, 0, 0)), (1424, (.invokestatic 179, 1259, 293, 3)), (1427, (.istore 5, 2, 0, 0)), (1429, (.aload_n 2, 1, 0, 0)), (1430, (.aload_n 0, 1, 0, 0)), (1431, (.iload 4, 2, 0, 0)), (1433, (.iconst 1, 1, 0, 0)), (1434, (.iadd, 1, 0, 0)), (1435, (.iaload, 1, 0, 0)), (1436, (.invokevirtual 181, 1943, 245, 2)), (1439, (.istore 6, 2, 0, 0)), (1441, (.aload_n 2, 1, 0, 0)), (1442, (.invokevirtual 119, 1409, 160, 1)), (1445, (.iload 5, 2, 0, 0)), (1447, (.if_icmp .eq 5, 3, 0, 0)), (1450, (.iconst 0, 1, 0, 0)), (1451, (.ireturn, 1, 0, 0)), (1452, (.iload 5, 2, 0, 0)), (1454, (.ifCond .ne 15, 3, 0, 0)), (1457, (.aload_n 3, 1, 0, 0)), (1458, (.iconst 0, 1, 0, 0)), (1459, (.laload, 1, 0, 0)), (1460, (.iload 6, 2, 0, 0)), (1462, (.i2l, 1, 0, 0)), (1463, (.lcmp, 1, 0, 0)), (1464, (.ifCond .eq 5, 3, 0, 0)), (1467, (.iconst 0, 1, 0, 0)), (1468, (.ireturn, 1, 0, 0)), (1469, (.goto 888, 3, 0, 0)), (1472, (.aload_n 1, 1, 0, 0)), (1473, (.invokevirtual 182, 553, 130, 1)), (1476, (.aload_n 2, 1, 0, 0)), (1477, (.invokevirtual 185, 1951, 248, 1)), (1480, (.if_icmp .eq 877, 3, 0, 0)), (1483, (.iconst 0, 1, 0, 0)), (1484, (.ireturn, 1, 0, 0)), (1485, (.aload_n 1, 1, 0, 0)), (1486, (.aload_n 0, 1, 0, 0)), (1487, (.iload 4, 2, 0, 0)), (1489, (.iconst 1, 1, 0, 0)), (1490, (.iadd, 1, 0, 0)), (1491, (.iaload, 1, 0, 0)), (1492, (.aload_n 0, 1, 0, 0)), (1493, (.iload 4, 2, 0, 0)), (1495, (.iconst 2, 1, 0, 0)), (1496, (.iadd, 1, 0, 0)), (1497, (.iaload, 1, 0, 0)), (1498, (.aload_n 3, 1, 0, 0)), (1499, (.invokestatic 186, 1274, 294, 4)), (1502, (.istore 5, 2, 0, 0)), (1504, (.aload_n 2, 1, 0, 0)), (1505, (.aload_n 0, 1, 0, 0)), (1506, (.iload 4, 2, 0, 0)), (1508, (.iconst 1, 1, 0, 0)), (1509, (.iadd, 1, 0, 0)), (1510, (.iaload, 1, 0, 0)), (1511, (.aload_n 0, 1, 0, 0)), (1512, (.iload 4, 2, 0, 0)), (1514, (.iconst 2, 1, 0, 0)), (1515, (.iadd, 1, 0, 0)), (1516, (.iaload, 1, 0, 0)), (1517, (.invokevirtual 188, 1962, 249, 3)), (1520, (.istore 6, 2, 0, 0)), (1522, (.aload_n 2, 1, 0, 0)), (1523, (.invokevirtual 119, 1409, 160, 1))]
noncomputable def po_305_6 : List (Nat × mOp) := [(1526, (.iload 5, 2, 0, 0)), (1528, (.if_icmp .eq 5, 3, 0, 0)), (1531, (.iconst 0, 1, 0, 0)), (1532, (.ireturn, 1, 0, 0)), (1533, (.iload 5, 2, 0, 0)), (1535, (.ifCond .ne 15, 3, 0, 0)), (1538, (.aload_n 3, 1, 0, 0)), (1539, (.iconst 0, 1, 0, 0)), (1540, (.laload, 1, 0, 0)), (1541, (.iload 6, 2, 0, 0)), (1543, (.i2l, 1, 0, 0)), (1544, (.lcmp, 1, 0, 0)), (1545, (.ifCond .eq 5, 3, 0, 0)), (1548, (.iconst 0, 1, 0, 0)), (1549, (.ireturn, 1, 0, 0)), (1550, (.goto 807, 3, 0, 0)), (1553, (.aload_n 1, 1, 0, 0)), (1554, (.aload_n 0, 1, 0, 0)), (1555, (.iload 4, 2, 0, 0)), (1557, (.iconst 1, 1, 0, 0)), (1558, (.iadd, 1, 0, 0)), (1559, (.iaload, 1, 0, 0)), (1560, (.aload_n 3, 1, 0, 0)), (1561, (.invokestatic 189, 1281, 295, 3)), (1564, (.istore 5, 2, 0, 0)), (1566, (.aload_n 2, 1, 0, 0)), (1567, (.aload_n 0, 1, 0, 0)), (1568, (.iload 4, 2, 0, 0)), (1570, (.iconst 1, 1, 0, 0)), (1571, (.iadd, 1, 0, 0)), (1572, (.iaload, 1, 0, 0)), (1573, (.invokevirtual 191, 1970, 253, 2)), (1576, (.istore 6, 2, 0, 0)), (1578, (.aload_n 2, 1, 0, 0)), (1579, (.invokevirtual 119, 1409, 160, 1)), (1582, (.iload 5, 2, 0, 0)), (1584, (.if_icmp .eq 5, 3, 0, 0)), (1587, (.iconst 0, 1, 0, 0)), (1588, (.ireturn, 1, 0, 0)), (1589, (.iload 5, 2, 0, 0)), (1591, (.ifCond .ne 15, 3, 0, 0)), (1594, (.aload_n 3, 1, 0, 0)), (1595, (.iconst 0, 1, 0, 0)), (1596, (.laload, 1, 0, 0)), (1597, (.iload 6, 2, 0, 0)), (1599, (.i2l, 1, 0, 0)), (1600, (.lcmp, 1, 0, 0)), (1601, (.ifCond .eq 5, 3, 0, 0)), (1604, (.iconst 0, 1, 0, 0)), (1605, (.ireturn, 1, 0, 0)), (1606, (.goto 751, 3, 0, 0)), (1609, (.aload_n 1, 1, 0, 0)), (1610, (.aload_n 0, 1, 0, 0)), (1611, (.iload 4, 2, 0, 0)), (1613, (.iconst 1, 1, 0, 0)), (1614, (.iadd, 1, 0, 0)), (1615, (.iaload, 1, 0, 0)), (1616, (.aload_n 3, 1, 0, 0)), (1617, (.invokestatic 192, 1304, 296, 3)), (1620, (.istore 5, 2, 0, 0)), (1622, (.aload_n 2, 1, 0, 0)), (1623, (.aload_n 0, 1, 0, 0)), (1624, (.iload 4, 2, 0, 0)), (1626, (.iconst 1, 1, 0, 0)), (1627, (.iadd, 1, 0, 0)), (1628, (.iaload, 1, 0, 0)), (1629, (.invokevirtual 194, 1982, 255, 2)), (1632, (.istore 6, 2, 0, 0)), (1634, (.aload_n 2, 1, 0, 0)), (1635, (.invokevirtual 119, 1409, 160, 1)), (1638, (.iload 5, 2, 0, 0)), (1640, (.if_icmp .eq 5, 3, 0, 0)), (1643, (.iconst 0, 1, 0, 0)), (1644, (.ireturn, 1, 0, 0)), (1645, (.iload 5, 2, 0, 0)), (1647, (.ifCond .ne 15, 3, 0, 0)), (1650, (.aload_n 3, 1, 0, 0)), (1651, (.iconst 0, 1, 0, 0)), (1652, (.laload, 1, 0, 0)), (1653, (.iload 6, 2, 0, 0)), (1655, (.i2l, 1, 0, 0)), (1656, (.lcmp, 1, 0, 0)), (1657, (.ifCond .eq 5, 3, 0, 0)), (1660, (.iconst 0, 1, 0, 0)), (1661, (.ireturn, 1, 0, 0)), (1662, (.goto 695, 3, 0, 0)), (1665, (.aload_n 1, 1, 0, 0)), (1666, (.aload_n 0, 1, 0, 0)), (1667, (.iload 4, 2, 0, 0)), (1669, (.iconst 1, 1, 0, 0)), (1670, (.iadd, 1, 0, 0)), (1671, (.iaload, 1, 0, 0)), (1672, (.aload_n 0, 1, 0, 0)), (1673, (.iload 4, 2, 0, 0)), (1675, (.iconst 2, 1, 0, 0)), (1676, (.iadd, 1, 0, 0)), (1677, (.iaload, 1, 0, 0)), (1678, (.aload_n 0, 1, 0, 0)), (1679, (.iload 4, 2, 0, 0)), (1681, (.iconst 3, 1, 0, 0)), (1682, (.iadd, 1, 0, 0)), (1683, (.iaload, 1, 0, 0)), (1684, (.aload_n 3, 1, 0, 0)), (1685, (.invokestatic 195, 1320, 297, 5)), (1688, (.istore 5, 2, 0, 0)), (1690, (.aload_n 2, 1, 0, 0)), (1691, (.aload_n 0, 1, 0, 0)), (1692, (.iload 4, 2, 0, 0)), (1694, (.iconst 1, 1, 0, 0)), (1695, (.iadd, 1, 0, 0)), (1696, (.iaload, 1, 0, 0)), (1697, (.aload_n 0, 1, 0, 0)), (1698, (.iload 4, 2, 0, 0)), (1700, (.iconst 2, 1, 0, 0)), (1701, (.iadd, 1, 0, 0)), (1702, (.iaload, 1, 0, 0)), (1703, (.aload_n 0, 1, 0, 0)), (1704, (.iload 4, 2, 0, 0)), (1706, (.iconst 3, 1, 0, 0)), (1707, (.iadd, 1, 0, 0)), (1708, (.iaload, 1, 0, 0)), (1709, (.invokevirtual 197, 1990, 257, 4)), (1712, (.lstore 6, 2, 0, 0)), (1714, (.aload_n 2, 1, 0, 0)), (1715, (.invokevirtual 119, 1409, 160, 1)), (1718, (.iload 5, 2, 0, 0)), (1720, (.if_icmp .eq 5, 3, 0, 0)), (1723, (.iconst 0, 1, 0, 0)), (1724, (.ireturn, 1, 0, 0)), (1725, (.iload 5, 2, 0, 0)), (1727, (.ifCond .ne 14, 3, 0, 0)), (1730, (.aload_n 3, 1, 0, 0)), (1731, (.iconst 0, 1, 0, 0)), (1732, (.laload, 1, 0, 0)), (1733, (.lload 6, 2, 0, 0)), (1735, (.lcmp, 1, 0, 0)), (1736, (.ifCond .eq 5, 3, 0, 0)), (1739, (.iconst 0, 1, 0, 0)), (1740, (.ireturn, 1, 0, 0)), (1741, (.goto 616, 3, 0, 0)), (1744, (.aload_n 1, 1, 0, 0)), (1745, (.aload_n 0, 1, 0, 0)), (1746, (.iload 4, 2, 0, 0)), (1748, (.iconst 1, 1, 0, 0)), (1749, (.iadd, 1, 0, 0)), (1750, (.iaload, 1, 0, 0)), (1751, (.aload_n 0, 1, 0, 0)), (1752, (.iload 4, 2, 0, 0)), (1754, (.iconst 2, 1, 0, 0)), (1755, (.iadd, 1, 0, 0))]
noncomputable def po_305_7 : List (Nat × mOp) := [(1756, (.iaload, 1, 0, 0)), (1757, (.aload_n 0, 1, 0, 0)), (1758, (.iload 4, 2, 0, 0)), (1760, (.iconst 3, 1, 0, 0)), (1761, (.iadd, 1, 0, 0)), (1762, (.iaload, 1, 0, 0)), (1763, (.aload_n 3, 1, 0, 0)), (1764, (.invokestatic 198, 1329, 298, 5)), (1767, (.istore 5, 2, 0, 0)), (1769, (.aload_n 2, 1, 0, 0)), (1770, (.aload_n 0, 1, 0, 0)), (1771, (.iload 4, 2, 0, 0)), (1773, (.iconst 1, 1, 0, 0)), (1774, (.iadd, 1, 0, 0)), (1775, (.iaload, 1, 0, 0)), (1776, (.aload_n 0, 1, 0, 0)), (1777, (.iload 4, 2, 0, 0)), (1779, (.iconst 2, 1, 0, 0)), (1780, (.iadd, 1, 0, 0)), (1781, (.iaload, 1, 0, 0)), (1782, (.aload_n 0, 1, 0, 0)), (1783, (.iload 4, 2, 0, 0)), (1785, (.iconst 3, 1, 0, 0)), (1786, (.iadd, 1, 0, 0)), (1787, (.iaload, 1, 0, 0)), (1788, (.invokevirtual 200, 1998, 259, 4)), (1791, (.istore 6, 2, 0, 0)), (1793, (.aload_n 2, 1, 0, 0)), (1794, (.invokevirtual 119, 1409, 160, 1)), (1797, (.iload 5, 2, 0, 0)), (1799, (.if_icmp .eq 5, 3, 0, 0)), (1802, (.iconst 0, 1, 0, 0)), (1803, (.ireturn, 1, 0, 0)), (1804, (.iload 5, 2, 0, 0)), (1806, (.ifCond .ne 15, 3, 0, 0)), (1809, (.aload_n 3, 1, 0, 0)), (1810, (.iconst 0, 1, 0, 0)), (1811, (.laload, 1, 0, 0)), (1812, (.iload 6, 2, 0, 0)), (1814, (.i2l, 1, 0, 0)), (1815, (.lcmp, 1, 0, 0)), (1816, (.ifCond .eq 5, 3, 0, 0)), (1819, (.iconst 0, 1, 0, 0)), (1820, (.ireturn, 1, 0, 0)), (1821, (.goto 536, 3, 0, 0)), (1824, (.aload_n 1, 1, 0, 0)), (1825, (.aload_n 0, 1, 0, 0)), (1826, (.iload 4, 2, 0, 0)), (1828, (.iconst 1, 1, 0, 0)), (1829, (.iadd, 1, 0, 0)), (1830, (.iaload, 1, 0, 0)), (1831, (.aload_n 0, 1, 0, 0)), (1832, (.iload 4, 2, 0, 0)), (1834, (.iconst 2, 1, 0, 0)), (1835, (.iadd, 1, 0, 0)), (1836, (.iaload, 1, 0, 0)), (1837, (.aload_n 0, 1, 0, 0)), (1838, (.iload 4, 2, 0, 0)), (1840, (.iconst 3, 1, 0, 0)), (1841, (.iadd, 1, 0, 0)), (1842, (.iaload, 1, 0, 0)), (1843, (.aload_n 3, 1, 0, 0)), (1844, (.invokestatic 201, 1342, 299, 5)), (1847, (.istore 5, 2, 0, 0)), (1849, (.aload_n 2, 1, 0, 0)), (1850, (.aload_n 0, 1, 0, 0)), (1851, (.iload 4, 2, 0, 0)), (1853, (.iconst 1, 1, 0, 0)), (1854, (.iadd, 1, 0, 0)), (1855, (.iaload, 1, 0, 0)), (1856, (.aload_n 0, 1, 0, 0)), (1857, (.iload 4, 2, 0, 0)), (1859, (.iconst 2, 1, 0, 0)), (1860, (.iadd, 1, 0, 0)), (1861, (.iaload, 1, 0, 0)), (1862, (.aload_n 0, 1, 0, 0)), (1863, (.iload 4, 2, 0, 0)), (1865, (.iconst 3, 1, 0, 0)), (1866, (.iadd, 1, 0, 0)), (1867, (.iaload, 1, 0, 0)), (1868, (.invokevirtual 203, 2005, 261, 4)), (1871, (.istore 6, 2, 0, 0)), (1873, (.aload_n 2, 1, 0, 0)), (1874, (.invokevirtual 119, 1409, 160, 1)), (1877, (.iload 5, 2, 0, 0)), (1879, (.if_icmp .eq 5, 3, 0, 0)), (1882, (.iconst 0, 1, 0, 0)), (1883, (.ireturn, 1, 0, 0)), (1884, (.iload 5, 2, 0, 0)), (1886, (.ifCond .ne 15, 3, 0, 0)), (1889, (.aload_n 3, 1, 0, 0)), (1890, (.iconst 0, 1, 0, 0)), (1891, (.laload, 1, 0, 0)), (1892, (.iload 6, 2, 0, 0)), (1894, (.i2l, 1, 0, 0)), (1895, (.lcmp, 1, 0, 0)), (1896, (.ifCond .eq 5, 3, 0, 0)), (1899, (.iconst 0, 1, 0, 0)), (1900, (.ireturn, 1, 0, 0)), (1901, (.goto 456, 3, 0, 0)), (1904, (.aload_n 1, 1, 0, 0)), (1905, (.aload_n 0, 1, 0, 0)), (1906, (.iload 4, 2, 0, 0)), (1908, (.iconst 1, 1, 0, 0)), (1909, (.iadd, 1, 0, 0)), (1910, (.iaload, 1, 0, 0)), (1911, (.aload_n 3, 1, 0, 0)), (1912, (.invokestatic 204, 1353, 300, 3)), (1915, (.istore 5, 2, 0, 0)), (1917, (.aload_n 2, 1, 0, 0)), (1918, (.aload_n 0, 1, 0, 0)), (1919, (.iload 4, 2, 0, 0)), (1921, (.iconst 1, 1, 0, 0)), (1922, (.iadd, 1, 0, 0)), (1923, (.iaload, 1, 0, 0)), (1924, (.invokevirtual 206, 2013, 263, 2)), (1927, (.istore 6, 2, 0, 0)), (1929, (.aload_n 2, 1, 0, 0)), (1930, (.invokevirtual 119, 1409, 160, 1)), (1933, (.iload 5, 2, 0, 0)), (1935, (.if_icmp .eq 5, 3, 0, 0)), (1938, (.iconst 0, 1, 0, 0)), (1939, (.ireturn, 1, 0, 0)), (1940, (.iload 5, 2, 0, 0)), (1942, (.ifCond .ne 15, 3, 0, 0)), (1945, (.aload_n 3, 1, 0, 0)), (1946, (.iconst 0, 1, 0, 0)), (1947, (.laload, 1, 0, 0)), (1948, (.iload 6, 2, 0, 0)), (1950, (.i2l, 1, 0, 0)), (1951, (.lcmp, 1, 0, 0)), (1952, (.ifCond .eq 5, 3, 0, 0)), (1955, (.iconst 0, 1, 0, 0)), (1956, (.ireturn, 1, 0, 0)), (1957, (.goto 400, 3, 0, 0)), (1960, (.aload_n 1, 1, 0, 0)), (1961, (.aload_n 0, 1, 0, 0)), (1962, (.iload 4, 2, 0, 0)), (1964, (.iconst 1, 1, 0, 0)), (1965, (.iadd, 1, 0, 0)), (1966, (.iaload, 1, 0, 0)), (1967, (.aload_n 3, 1, 0, 0)), (1968, (.invokestatic 207, 1361, 301, 3)), (1971, (.istore 5, 2, 0, 0)), (1973, (.aload_n 2, 1, 0, 0)), (1974, (.aload_n 0, 1, 0, 0)), (1975, (.iload 4, 2, 0, 0)), (1977, (.iconst 1, 1, 0, 0)), (1978, (.iadd, 1, 0, 0)), (1979, (.iaload, 1, 0, 0))]
noncomputable def po_305_8 : List (Nat × mOp) := [(1980, (.invokevirtual 209, 1919, 238, 2)), (1983, (.istore 6, 2, 0, 0)), (1985, (.aload_n 2, 1, 0, 0)), (1986, (.invokevirtual 119, 1409, 160, 1)), (1989, (.iload 5, 2, 0, 0)), (1991, (.if_icmp .eq 5, 3, 0, 0)), (1994, (.iconst 0, 1, 0, 0)), (1995, (.ireturn, 1, 0, 0)), (1996, (.iload 5, 2, 0, 0)), (1998, (.ifCond .ne 15, 3, 0, 0)), (2001, (.aload_n 3, 1, 0, 0)), (2002, (.iconst 0, 1, 0, 0)), (2003, (.laload, 1, 0, 0)), (2004, (.iload 6, 2, 0, 0)), (2006, (.i2l, 1, 0, 0)), (2007, (.lcmp, 1, 0, 0)), (2008, (.ifCond .eq 5, 3, 0, 0)), (2011, (.iconst 0, 1, 0, 0)), (2012, (.ireturn, 1, 0, 0)), (2013, (.goto 344, 3, 0, 0)), (2016, (.aload_n 1, 1, 0, 0)), (2017, (.invokevirtual 210, 574, 139, 1)), (2020, (.aload_n 2, 1, 0, 0)), (2021, (.invokevirtual 213, 1966, 250, 1)), (2024, (.if_icmp .eq 333, 3, 0, 0)), (2027, (.iconst 0, 1, 0, 0)), (2028, (.ireturn, 1, 0, 0)), (2029, (.aload_n 1, 1, 0, 0)), (2030, (.aload_n 0, 1, 0, 0)), (2031, (.iload 4, 2, 0, 0)), (2033, (.iconst 1, 1, 0, 0)), (2034, (.iadd, 1, 0, 0)), (2035, (.iaload, 1, 0, 0)), (2036, (.aload_n 3, 1, 0, 0)), (2037, (.invokestatic 214, 1368, 302, 3)), (2040, (.istore 5, 2, 0, 0)), (2042, (.aload_n 2, 1, 0, 0)), (2043, (.aload_n 0, 1, 0, 0)), (2044, (.iload 4, 2, 0, 0)), (2046, (.iconst 1, 1, 0, 0)), (2047, (.iadd, 1, 0, 0)), (2048, (.iaload, 1, 0, 0)), (2049, (.invokevirtual 216, 2021, 264, 2)), (2052, (.istore 6, 2, 0, 0)), (2054, (.aload_n 2, 1, 0, 0)), (2055, (.invokevirtual 119, 1409, 160, 1)), (2058, (.iload 5, 2, 0, 0)), (2060, (.if_icmp .eq 5, 3, 0, 0)), (2063, (.iconst 0, 1, 0, 0)), (2064, (.ireturn, 1, 0, 0)), (2065, (.iload 5, 2, 0, 0)), (2067, (.ifCond .ne 15, 3, 0, 0)), (2070, (.aload_n 3, 1, 0, 0)), (2071, (.iconst 0, 1, 0, 0)), (2072, (.laload, 1, 0, 0)), (2073, (.iload 6, 2, 0, 0)), (2075, (.i2l, 1, 0, 0)), (2076, (.lcmp, 1, 0, 0)), (2077, (.ifCond .eq 5, 3, 0, 0)), (2080, (.iconst 0, 1, 0, 0)), (2081, (.ireturn, 1, 0, 0)), (2082, (.goto 275, 3, 0, 0)), (2085, (.aload_n 1, 1, 0, 0)), (2086, (.aload_n 0, 1, 0, 0)), (2087, (.iload 4, 2, 0, 0)), (2089, (.iconst 1, 1, 0, 0)), (2090, (.iadd, 1, 0, 0)), (2091, (.iaload, 1, 0, 0)), (2092, (.aload_n 0, 1, 0, 0)), (2093, (.iload 4, 2, 0, 0)), (2095, (.iconst 2, 1, 0, 0)), (2096, (.iadd, 1, 0, 0)), (2097, (.iaload, 1, 0, 0)), (2098, (.aload_n 0, 1, 0, 0)), (2099, (.iload 4, 2, 0, 0)), (2101, (.iconst 3, 1, 0, 0)), (2102, (.iadd, 1, 0, 0)), (2103, (.iaload, 1, 0, 0)), (2104, (.aload_n 0, 1, 0, 0)), (2105, (.iload 4, 2, 0, 0)), (2107, (.iconst 4, 1, 0, 0)), (2108, (.iadd, 1, 0, 0)), (2109, (.iaload, 1, 0, 0)), (2110, (.aload_n 3, 1, 0, 0)), (2111, (.invokestatic 217, 1379, 303, 6)), (2114, (.istore 5, 2, 0, 0)), (2116, (.aload_n 2, 1, 0, 0)), (2117, (.aload_n 0, 1, 0, 0)), (2118, (.iload 4, 2, 0, 0)), (2120, (.iconst 1, 1, 0, 0)), (2121, (.iadd, 1, 0, 0)), (2122, (.iaload, 1, 0, 0)), (2123, (.aload_n 0, 1, 0, 0)), (2124, (.iload 4, 2, 0, 0)), (2126, (.iconst 2, 1, 0, 0)), (2127, (.iadd, 1, 0, 0)), (2128, (.iaload, 1, 0, 0)), (2129, (.aload_n 0, 1, 0, 0)), (2130, (.iload 4, 2, 0, 0)), (2132, (.iconst 3, 1, 0, 0)), (2133, (.iadd, 1, 0, 0)), (2134, (.iaload, 1, 0, 0)), (2135, (.aload_n 0, 1, 0, 0)), (2136, (.iload 4, 2, 0, 0)), (2138, (.iconst 4, 1, 0, 0)), (2139, (.iadd, 1, 0, 0)), (2140, (.iaload, 1, 0, 0)), (2141, (.invokevirtual 220, 2025, 268, 5)), (2144, (.istore 6, 2, 0, 0)), (2146, (.aload_n 2, 1, 0, 0)), (2147, (.invokevirtual 119, 1409, 160, 1)), (2150, (.iload 5, 2, 0, 0)), (2152, (.if_icmp .eq 5, 3, 0, 0)), (2155, (.iconst 0, 1, 0, 0)), (2156, (.ireturn, 1, 0, 0)), (2157, (.iload 5, 2, 0, 0)), (2159, (.ifCond .ne 15, 3, 0, 0)), (2162, (.aload_n 3, 1, 0, 0)), (2163, (.iconst 0, 1, 0, 0)), (2164, (.laload, 1, 0, 0)), (2165, (.iload 6, 2, 0, 0)), (2167, (.i2l, 1, 0, 0)), (2168, (.lcmp, 1, 0, 0)), (2169, (.ifCond .eq 5, 3, 0, 0)), (2172, (.iconst 0, 1, 0, 0)), (2173, (.ireturn, 1, 0, 0)), (2174, (.goto 183, 3, 0, 0)), (2177, (.aload_n 1, 1, 0, 0)), (2178, (.aload_n 0, 1, 0, 0)), (2179, (.iload 4, 2, 0, 0)), (2181, (.iconst 1, 1, 0, 0)), (2182, (.iadd, 1, 0, 0)), (2183, (.iaload, 1, 0, 0)), (2184, (.aload_n 0, 1, 0, 0)), (2185, (.iload 4, 2, 0, 0)), (2187, (.iconst 2, 1, 0, 0)), (2188, (.iadd, 1, 0, 0)), (2189, (.iaload, 1, 0, 0)), (2190, (.aload_n 0, 1, 0, 0)), (2191, (.iload 4, 2, 0, 0)), (2193, (.iconst 3, 1, 0, 0)), (2194, (.iadd, 1, 0, 0)), (2195, (.iaload, 1, 0, 0)), (2196, (.aload_n 0, 1, 0, 0)), (2197, (.iload 4, 2, 0, 0)), (2199, (.iconst 4, 1, 0, 0)), (2200, (.iadd, 1, 0, 0)), (2201, (.iaload, 1, 0, 0)), (2202, (.aload_n 0, 1, 0, 0)), (2203, (.iload 4, 2, 0, 0))]
noncomputable def po_305_9 : List (Nat × mOp) := [(2205, (.iconst 5, 1, 0, 0)), (2206, (.iadd, 1, 0, 0)), (2207, (.iaload, 1, 0, 0)), (2208, (.aload_n 3, 1, 0, 0)), (2209, (.invokestatic 221, 1401, 304, 7)), (2212, (.istore 5, 2, 0, 0)), (2214, (.aload_n 2, 1, 0, 0)), (2215, (.aload_n 0, 1, 0, 0)), (2216, (.iload 4, 2, 0, 0)), (2218, (.iconst 1, 1, 0, 0)), (2219, (.iadd, 1, 0, 0)), (2220, (.iaload, 1, 0, 0)), (2221, (.aload_n 0, 1, 0, 0)), (2222, (.iload 4, 2, 0, 0)), (2224, (.iconst 2, 1, 0, 0)), (2225, (.iadd, 1, 0, 0)), (2226, (.iaload, 1, 0, 0)), (2227, (.aload_n 0, 1, 0, 0)), (2228, (.iload 4, 2, 0, 0)), (2230, (.iconst 3, 1, 0, 0)), (2231, (.iadd, 1, 0, 0)), (2232, (.iaload, 1, 0, 0)), (2233, (.aload_n 0, 1, 0, 0)), (2234, (.iload 4, 2, 0, 0)), (2236, (.iconst 4, 1, 0, 0)), (2237, (.iadd, 1, 0, 0)), (2238, (.iaload, 1, 0, 0)), (2239, (.aload_n 0, 1, 0, 0)), (2240, (.iload 4, 2, 0, 0)), (2242, (.iconst 5, 1, 0, 0)), (2243, (.iadd, 1, 0, 0)), (2244, (.iaload, 1, 0, 0)), (2245, (.invokevirtual 224, 2041, 269, 6)), (2248, (.istore 6, 2, 0, 0)), (2250, (.aload_n 2, 1, 0, 0)), (2251, (.invokevirtual 119, 1409, 160, 1)), (2254, (.iload 5, 2, 0, 0)), (2256, (.if_icmp .eq 5, 3, 0, 0)), (2259, (.iconst 0, 1, 0, 0)), (2260, (.ireturn, 1, 0, 0)), (2261, (.iload 5, 2, 0, 0)), (2263, (.ifCond .ne 15, 3, 0, 0)), (2266, (.aload_n 3, 1, 0, 0)), (2267, (.iconst 0, 1, 0, 0)), (2268, (.laload, 1, 0, 0)), (2269, (.iload 6, 2, 0, 0)), (2271, (.i2l, 1, 0, 0)), (2272, (.lcmp, 1, 0, 0)), (2273, (.ifCond .eq 5, 3, 0, 0)), (2276, (.iconst 0, 1, 0, 0)), (2277, (.ireturn, 1, 0, 0)), (2278, (.goto 79, 3, 0, 0)), (2281, (.aload_n 1, 1, 0, 0)), (2282, (.invokevirtual 225, 585, 143, 1)), (2285, (.aload_n 2, 1, 0, 0)), (2286, (.invokevirtual 228, 2045, 272, 1)), (2289, (.if_icmp .eq 68, 3, 0, 0)), (2292, (.iconst 0, 1, 0, 0)), (2293, (.ireturn, 1, 0, 0)), (2294, (.aload_n 1, 1, 0, 0)), (2295, (.invokevirtual 229, 598, 144, 1)), (2298, (.aload_n 2, 1, 0, 0)), (2299, (.invokevirtual 232, 2057, 273, 1)), (2302, (.if_icmp .eq 55, 3, 0, 0)), (2305, (.iconst 0, 1, 0, 0)), (2306, (.ireturn, 1, 0, 0)), (2307, (.aload_n 1, 1, 0, 0)), (2308, (.aload_n 0, 1, 0, 0)), (2309, (.iload 4, 2, 0, 0)), (2311, (.iconst 1, 1, 0, 0)), (2312, (.iadd, 1, 0, 0)), (2313, (.iaload, 1, 0, 0)), (2314, (.invokevirtual 233, 606, 145, 2)), (2317, (.aload_n 2, 1, 0, 0)), (2318, (.aload_n 0, 1, 0, 0)), (2319, (.iload 4, 2, 0, 0)), (2321, (.iconst 1, 1, 0, 0)), (2322, (.iadd, 1, 0, 0)), (2323, (.iaload, 1, 0, 0)), (2324, (.invokevirtual 236, 2061, 274, 2)), (2327, (.if_icmp .eq 30, 3, 0, 0)), (2330, (.iconst 0, 1, 0, 0)), (2331, (.ireturn, 1, 0, 0)), (2332, (.aload_n 1, 1, 0, 0)), (2333, (.aload_n 0, 1, 0, 0)), (2334, (.iload 4, 2, 0, 0)), (2336, (.iconst 1, 1, 0, 0)), (2337, (.iadd, 1, 0, 0)), (2338, (.iaload, 1, 0, 0)), (2339, (.invokevirtual 237, 610, 146, 2)), (2342, (.aload_n 2, 1, 0, 0)), (2343, (.aload_n 0, 1, 0, 0)), (2344, (.iload 4, 2, 0, 0)), (2346, (.iconst 1, 1, 0, 0)), (2347, (.iadd, 1, 0, 0)), (2348, (.iaload, 1, 0, 0)), (2349, (.invokevirtual 240, 2065, 275, 2)), (2352, (.if_icmp .eq 5, 3, 0, 0)), (2355, (.iconst 0, 1, 0, 0)), (2356, (.ireturn, 1, 0, 0)), (2357, (.iinc 4 9, 3, 0, 0)), (2360, (.goto (-2337), 3, 0, 0)), (2363, (.iconst 1, 1, 0, 0)), (2364, (.ireturn, 1, 0, 0))]
noncomputable def po_305 : List (Nat × mOp) := po_305_0 ++ (po_305_1 ++ (po_305_2 ++ (po_305_3 ++ (po_305_4 ++ (po_305_5 ++ (po_305_6 ++ (po_305_7 ++ (po_305_8 ++ (po_305_9)))))))))
/-- the methods -/
noncomputable def pm_0 : List mMeth := [(yX0_init, cX0_init, 1, none, 0, [], po_0),
  (yX0_forget, cX0_forget, 1, none, 0, [], po_1),
  (yX0_read, cX0_read, 4, (some .boolean), 0, [], po_2),
  (yX0_readLine, cX0_readLine, 4, (some .boolean), 0, [], po_3),
  (yX0_findPairs, cX0_findPairs, 7, none, 0, [], po_4),
  (yX0_isFit, cX0_isFit, 7, (some .boolean), 0, [], po_5),
  (yX0_firstPair, cX0_firstPair, 2, (some .int), 0, [], po_6),
  (yX0_findLook, cX0_findLook, 6, none, 0, [], po_7),
  (yX0_mostLeftBy, cX0_mostLeftBy, 8, (some .int), 0, [], po_8),
  (yX1_init, cX1_init, 1, none, 1, [], po_9),
  (yX1_settle, cX1_settle, 8, none, 1, [], po_10),
  (yX1_mostFrom, cX1_mostFrom, 7, (some .int), 1, [], po_11),
  (yX1_takenBy, cX1_takenBy, 4, (some .int), 1, [], po_12),
  (yX1_taken, cX1_taken, 1, (some .int), 1, [], po_13),
  (yX1_holeOf, cX1_holeOf, 7, (some .int), 1, [], po_14),
  (yX1_firstHole, cX1_firstHole, 6, (some .int), 1, [], po_15),
  (yX2_init, cX2_init, 2, none, 2, [], po_16),
  (yX2_forget, cX2_forget, 1, none, 2, [], po_17),
  (yX2_push, cX2_push, 3, (some .int), 2, [], po_18),
  (yX2_pop, cX2_pop, 3, (some .boolean), 2, [], po_19),
  (yX3_init, cX3_init, 1, none, 3, [], po_20),
  (yX3_forget, cX3_forget, 1, none, 3, [], po_21),
  (yX3_read, cX3_read, 2, (some .boolean), 3, [], po_22),
  (yX3_readSum, cX3_readSum, 5, (some .boolean), 3, [], po_23),
  (yX3_readProduct, cX3_readProduct, 5, (some .boolean), 3, [], po_24),
  (yX3_readUnit, cX3_readUnit, 4, (some .boolean), 3, [], po_25),
  (yX3_readNested, cX3_readNested, 3, (some .boolean), 3, [], po_26),
  (yX3_readChoice, cX3_readChoice, 4, (some .boolean), 3, [], po_27),
  (yX3_factOf, cX3_factOf, 1, (some .int), 103, [], po_28),
  (yX3_put, cX3_put, 2, (some .boolean), 3, [], po_29),
  (yX3_setThings, cX3_setThings, 5, none, 3, [], po_30),
  (yX3_setPlace, cX3_setPlace, 5, none, 3, [], po_31),
  (yX3_mends, cX3_mends, 4, (some .int), 3, [], po_32),
  (yX3_valueOf, cX3_valueOf, 3, (some .int), 103, [], po_33),
  (yX4_init, cX4_init, 2, none, 4, [], po_34),
  (yX4_forget, cX4_forget, 1, none, 4, [], po_35),
  (yX4_isFull, cX4_isFull, 1, (some .boolean), 4, [], po_36),
  (yX4_push, cX4_push, 2, none, 4, [], po_37),
  (yX4_pop, cX4_pop, 2, (some .boolean), 4, [], po_38),
  (yX4_copy, cX4_copy, 3, none, 4, [], po_39)]
noncomputable def pm_1 : List mMeth := [(yX5_init, cX5_init, 1, none, 5, [], po_40),
  (yX5_draw, cX5_draw, 2, (some .int), 5, [], po_41),
  (yX6_init, cX6_init, 2, none, 6, [], po_42),
  (yX6_start, cX6_start, 3, none, 6, [], po_43),
  (yX6_copy, cX6_copy, 2, none, 6, [], po_44),
  (yX6_isHatched, cX6_isHatched, 3, (some .boolean), 6, [], po_45),
  (yX6_isHooked, cX6_isHooked, 2, (some .boolean), 6, [], po_46),
  (yX6_darnedToday, cX6_darnedToday, 2, (some .boolean), 6, [], po_47),
  (yX6_mendBy, cX6_mendBy, 6, (some .int), 6, [], po_48),
  (yX6_wearLeft, cX6_wearLeft, 6, (some .int), 6, [], po_49),
  (yX6_canDarn, cX6_canDarn, 5, (some .boolean), 6, [], po_50),
  (yX6_darn, cX6_darn, 8, (some .boolean), 6, [], po_51),
  (yX6_letOut, cX6_letOut, 4, (some .boolean), 6, [], po_52),
  (yX6_callIn, cX6_callIn, 2, (some .boolean), 6, [], po_53),
  (yX6_unpick, cX6_unpick, 3, (some .boolean), 6, [], po_54),
  (yX6_shear, cX6_shear, 2, (some .boolean), 6, [], po_55),
  (yX6_endDay, cX6_endDay, 2, (some .boolean), 6, [], po_56),
  (yX6_passDay, cX6_passDay, 3, none, 6, [], po_57),
  (yX6_doItsPart, cX6_doItsPart, 5, none, 6, [], po_58),
  (yX6_mostWorn, cX6_mostWorn, 6, (some .int), 6, [], po_59),
  (yX6_mostRidged, cX6_mostRidged, 5, (some .int), 6, [], po_60),
  (yX6_allWear, cX6_allWear, 4, (some .int), 6, [], po_61),
  (yX6_allRidges, cX6_allRidges, 4, (some .int), 6, [], po_62),
  (yX6_wornHoles, cX6_wornHoles, 4, (some .int), 6, [], po_63),
  (yX6_wholeHoles, cX6_wholeHoles, 2, (some .int), 6, [], po_64),
  (yX6_hatchedEggs, cX6_hatchedEggs, 4, (some .int), 6, [], po_65),
  (yX6_eggsOut, cX6_eggsOut, 4, (some .int), 6, [], po_66),
  (yX6_eggsOutAt, cX6_eggsOutAt, 5, (some .int), 6, [], po_67),
  (yX7_init, cX7_init, 1, none, 7, [], po_68),
  (yX7_read, cX7_read, 3, (some .boolean), 7, [], po_69),
  (yX7_readSteps, cX7_readSteps, 5, (some .boolean), 7, [], po_70),
  (yX7_readStep, cX7_readStep, 6, (some .boolean), 7, [], po_71),
  (yX7_kindOf, cX7_kindOf, 1, (some .int), 107, [], po_72),
  (yX7_readAgain, cX7_readAgain, 6, (some .boolean), 7, [], po_73),
  (yX7_readInto, cX7_readInto, 5, (some .boolean), 107, [], po_74),
  (yX7_put, cX7_put, 3, (some .int), 7, [], po_75),
  (yX7_run, cX7_run, 7, none, 7, [], po_76),
  (yX7_tally, cX7_tally, 2, none, 7, [], po_77),
  (yX7_behindAgain, cX7_behindAgain, 2, (some .int), 7, [], po_78),
  (yX7_behindEnd, cX7_behindEnd, 3, (some .int), 7, [], po_79)]
noncomputable def pm_2 : List mMeth := [(yX7_runOne, cX7_runOne, 6, (some .boolean), 7, [], po_80),
  (yX8_init, cX8_init, 1, none, 8, [], po_81),
  (yX8_put, cX8_put, 3, none, 8, [], po_82),
  (yX8_take, cX8_take, 2, none, 8, [], po_83),
  (yX8_blame, cX8_blame, 3, (some .boolean), 8, [], po_84),
  (yX8_next, cX8_next, 1, (some .int), 8, [], po_85),
  (yX8_isEnded, cX8_isEnded, 1, (some .boolean), 8, [], po_86),
  (yX8_readSign, cX8_readSign, 2, (some .boolean), 8, [], po_87),
  (yX8_readWord, cX8_readWord, 1, none, 8, [], po_88),
  (yX8_wordIs, cX8_wordIs, 3, (some .boolean), 8, [], po_89),
  (yX8_isAtDigit, cX8_isAtDigit, 1, (some .boolean), 8, [], po_90),
  (yX8_readNumber, cX8_readNumber, 3, (some .boolean), 8, [], po_91),
  (yX9_init, cX9_init, 1, none, 9, [], po_92),
  (yX9_clear, cX9_clear, 2, none, 9, [], po_93),
  (yX9_read, cX9_read, 3, (some .boolean), 9, [], po_94),
  (yX9_readClause, cX9_readClause, 4, (some .boolean), 9, [], po_95),
  (yX9_kindOf, cX9_kindOf, 1, (some .int), 109, [], po_96),
  (yX9_isFull, cX9_isFull, 2, (some .boolean), 9, [], po_97),
  (yX9_readOne, cX9_readOne, 3, (some .boolean), 9, [], po_98),
  (yX9_leastOf, cX9_leastOf, 1, (some .int), 109, [], po_99),
  (yX9_mostOf, cX9_mostOf, 1, (some .int), 109, [], po_100),
  (yX9_readPath, cX9_readPath, 4, (some .boolean), 9, [], po_101),
  (yX10_init, cX10_init, 1, none, 10, [], po_102),
  (yX10_roundFrom, cX10_roundFrom, 9, (some .int), 10, [], po_103),
  (yX10_reach, cX10_reach, 5, none, 10, [], po_104),
  (yX10_fewestGuards, cX10_fewestGuards, 8, (some .int), 10, [], po_105),
  (yX10_guardedBy, cX10_guardedBy, 4, (some .int), 110, [], po_106),
  (yX10_sets, cX10_sets, 5, (some .int), 10, [], po_107),
  (yX10_hangingWith, cX10_hangingWith, 4, (some .int), 110, [], po_108),
  (yX11_init, cX11_init, 1, none, 11, [], po_109),
  (yX11_feed, cX11_feed, 6, (some .int), 11, [], po_110),
  (yX11_village, cX11_village, 3, (some .int), 11, [], po_111),
  (yX11_law, cX11_law, 3, (some .int), 11, [], po_112),
  (yX11_work, cX11_work, 2, (some .int), 11, [], po_113),
  (yX11_book, cX11_book, 3, (some .int), 11, [], po_114),
  (yX11_fault, cX11_fault, 1, (some .int), 11, [], po_115),
  (yX11_undo, cX11_undo, 1, (some .int), 11, [], po_116),
  (yX11_told, cX11_told, 2, (some .int), 11, [], po_117),
  (yX11_egg, cX11_egg, 3, (some .int), 11, [], po_118),
  (yX11_hand, cX11_hand, 3, (some .int), 11, [], po_119)]
noncomputable def pm_3 : List mMeth := [(yX11_hole, cX11_hole, 3, (some .int), 11, [], po_120),
  (yX11_path, cX11_path, 3, (some .int), 11, [], po_121),
  (yX11_mend, cX11_mend, 4, (some .int), 11, [], po_122),
  (yX11_would, cX11_would, 9, (some .int), 11, [], po_123),
  (yX11_can, cX11_can, 4, (some .boolean), 11, [], po_124),
  (yX11_ahead, cX11_ahead, 4, (some .int), 11, [], po_125),
  (yX11_whole, cX11_whole, 3, (some .int), 11, [], po_126),
  (yX11_best, cX11_best, 2, (some .int), 11, [], po_127),
  (yX11_given, cX11_given, 3, (some .int), 11, [], po_128),
  (yX11_round, cX11_round, 2, (some .int), 11, [], po_129),
  (yX11_guards, cX11_guards, 1, (some .int), 11, [], po_130),
  (yX11_way, cX11_way, 3, (some .int), 11, [], po_131),
  (yX11_fits, cX11_fits, 2, (some .int), 11, [], po_132),
  (yX11_look, cX11_look, 2, (some .int), 11, [], po_133),
  (yX11_first, cX11_first, 9, (some .long), 11, [], po_134),
  (yX11_ridge, cX11_ridge, 10, (some .int), 11, [], po_135),
  (yX11_wool, cX11_wool, 4, (some .int), 11, [], po_136),
  (yX11_worst, cX11_worst, 3, (some .int), 11, [], po_137),
  (yX11_goes, cX11_goes, 2, (some .int), 11, [], po_138),
  (yX11_parts, cX11_parts, 1, (some .int), 11, [], po_139),
  (yX11_ridges, cX11_ridges, 2, (some .int), 11, [], po_140),
  (yX11_generation, cX11_generation, 5, (some .int), 11, [], po_141),
  (yX11_span, cX11_span, 11, (some .int), 11, [], po_142),
  (yX11_image, cX11_image, 1, (some .int), 11, [], po_143),
  (yX11_restore, cX11_restore, 1, (some .int), 11, [], po_144),
  (yX11_status, cX11_status, 2, (some .int), 11, [], po_145),
  (yX11_count, cX11_count, 2, (some .int), 11, [], po_146),
  (yX11_takeText, cX11_takeText, 3, none, 11, [], po_147),
  (yX11_faulted, cX11_faulted, 1, (some .int), 11, [], po_148),
  (yX11_refuseElement, cX11_refuseElement, 1, (some .int), 11, [], po_149),
  (yX11_refuseArgument, cX11_refuseArgument, 1, (some .int), 11, [], po_150),
  (yX11_needEgg, cX11_needEgg, 2, none, 11, [], po_151),
  (yX11_needHand, cX11_needHand, 2, none, 11, [], po_152),
  (yX11_needHole, cX11_needHole, 2, none, 11, [], po_153),
  (yX11_needBetween, cX11_needBetween, 4, none, 11, [], po_154),
  (yX11_restsAt, cX11_restsAt, 4, (some .boolean), 111, [], po_155),
  (yX11_hasBy, cX11_hasBy, 4, (some .int), 111, [], po_156),
  (yX11_greatestBound, cX11_greatestBound, 6, (some .int), 11, [], po_157),
  (yX11_live, cX11_live, 6, none, 11, [], po_158),
  (yX11_liveOne, cX11_liveOne, 5, none, 11, [], po_159)]
noncomputable def pm_4 : List mMeth := [(yX12_thrown, cX12_thrown, 1, (some .int), 12, [], po_160),
  (yX12_may, cX12_may, 4, (some .boolean), 12, [], po_161),
  (yX12_within, cX12_within, 3, (some .boolean), 112, [], po_162),
  (yX12_init, cX12_init, 1, none, 12, [], po_163),
  (yX12_feed, cX12_feed, 8, (some .int), 12, [], po_164),
  (yX12_fine, cX12_fine, 1, (some .boolean), 12, [], po_165),
  (yX12_wrong, cX12_wrong, 3, none, 12, [], po_166),
  (yX12_here, cX12_here, 1, (some .int), 12, [], po_167),
  (yX12_isSmall, cX12_isSmall, 1, (some .boolean), 112, [], po_168),
  (yX12_isDigit, cX12_isDigit, 1, (some .boolean), 112, [], po_169),
  (yX12_word, cX12_word, 4, (some .int), 12, [], po_170),
  (yX12_of, cX12_of, 3, (some .int), 112, [], po_171),
  (yX12_pass, cX12_pass, 1, none, 12, [], po_172),
  (yX12_readNumber, cX12_readNumber, 6, (some .int), 12, [], po_173),
  (yX12_sign, cX12_sign, 2, none, 12, [], po_174),
  (yX12_isMore, cX12_isMore, 1, (some .boolean), 12, [], po_175),
  (yX12_begins, cX12_begins, 2, none, 12, [], po_176),
  (yX12_result, cX12_result, 2, (some .int), 12, [], po_177),
  (yX12_fault, cX12_fault, 1, (some .int), 12, [], po_178),
  (yX12_copies, cX12_copies, 5, none, 12, [], po_179),
  (yX12_clears, cX12_clears, 1, none, 12, [], po_180),
  (yX12_sets, cX12_sets, 2, none, 12, [], po_181),
  (yX12_isRow, cX12_isRow, 1, (some .boolean), 112, [], po_182),
  (yX12_isFull, cX12_isFull, 2, (some .boolean), 12, [], po_183),
  (yX12_readPath, cX12_readPath, 5, none, 12, [], po_184),
  (yX12_readRow, cX12_readRow, 2, none, 12, [], po_185),
  (yX12_village, cX12_village, 4, (some .int), 12, [], po_186),
  (yX12_emit, cX12_emit, 3, none, 12, [], po_187),
  (yX12_opensOne, cX12_opensOne, 2, none, 12, [], po_188),
  (yX12_readSum, cX12_readSum, 2, none, 12, [], po_189),
  (yX12_readProduct, cX12_readProduct, 2, none, 12, [], po_190),
  (yX12_readTwo, cX12_readTwo, 3, none, 12, [], po_191),
  (yX12_factHere, cX12_factHere, 2, (some .int), 12, [], po_192),
  (yX12_readUnit, cX12_readUnit, 2, none, 12, [], po_193),
  (yX12_law, cX12_law, 3, (some .int), 12, [], po_194),
  (yX12_valueNow, cX12_valueNow, 4, (some .int), 12, [], po_195),
  (yX12_both, cX12_both, 3, (some .int), 112, [], po_196),
  (yX12_mendNow, cX12_mendNow, 2, (some .int), 12, [], po_197),
  (yX12_tellsStep, cX12_tellsStep, 5, none, 12, [], po_198),
  (yX12_readEgg, cX12_readEgg, 1, (some .int), 12, [], po_199)]
noncomputable def pm_5 : List mMeth := [(yX12_readHole, cX12_readHole, 1, (some .int), 12, [], po_200),
  (yX12_readStep, cX12_readStep, 4, none, 12, [], po_201),
  (yX12_work, cX12_work, 4, (some .int), 12, [], po_202),
  (yX12_goesSteps, cX12_goesSteps, 6, none, 12, [], po_203),
  (yX12_take, cX12_take, 1, none, 12, [], po_204),
  (yX12_pathsOf, cX12_pathsOf, 4, (some .int), 12, [], po_205),
  (yX12_mendOf, cX12_mendOf, 9, (some .int), 12, [], po_206),
  (yX12_mendBy, cX12_mendBy, 4, (some .int), 12, [], po_207),
  (yX12_isHatched, cX12_isHatched, 2, (some .boolean), 12, [], po_208),
  (yX12_isHooked, cX12_isHooked, 2, (some .boolean), 12, [], po_209),
  (yX12_held, cX12_held, 1, (some .int), 112, [], po_210),
  (yX12_canDarn, cX12_canDarn, 4, (some .boolean), 12, [], po_211),
  (yX12_darns, cX12_darns, 5, (some .boolean), 12, [], po_212),
  (yX12_lets, cX12_lets, 3, (some .boolean), 12, [], po_213),
  (yX12_unpicks, cX12_unpicks, 3, (some .boolean), 12, [], po_214),
  (yX12_acts, cX12_acts, 5, none, 12, [], po_215),
  (yX12_passes, cX12_passes, 3, none, 12, [], po_216),
  (yX12_isDone, cX12_isDone, 5, (some .boolean), 12, [], po_217),
  (yX12_book, cX12_book, 6, (some .int), 12, [], po_218),
  (yX12_undo, cX12_undo, 2, (some .int), 12, [], po_219),
  (yX12_sumOf, cX12_sumOf, 4, (some .int), 12, [], po_220),
  (yX12_hatchedNow, cX12_hatchedNow, 3, (some .int), 12, [], po_221),
  (yX12_outAt, cX12_outAt, 4, (some .int), 12, [], po_222),
  (yX12_busyNow, cX12_busyNow, 3, (some .int), 12, [], po_223),
  (yX12_told, cX12_told, 2, (some .int), 12, [], po_224),
  (yX12_isEgg, cX12_isEgg, 3, (some .boolean), 12, [], po_225),
  (yX12_isHand, cX12_isHand, 3, (some .boolean), 12, [], po_226),
  (yX12_isHole, cX12_isHole, 3, (some .boolean), 12, [], po_227),
  (yX12_egg, cX12_egg, 3, (some .int), 12, [], po_228),
  (yX12_hand, cX12_hand, 3, (some .int), 12, [], po_229),
  (yX12_hole, cX12_hole, 3, (some .int), 12, [], po_230),
  (yX12_path, cX12_path, 3, (some .int), 12, [], po_231),
  (yX12_mend, cX12_mend, 4, (some .int), 12, [], po_232),
  (yX12_would, cX12_would, 9, (some .int), 12, [], po_233),
  (yX12_can, cX12_can, 4, (some .boolean), 12, [], po_234),
  (yX12_mendedNow, cX12_mendedNow, 3, (some .int), 12, [], po_235),
  (yX12_ahead, cX12_ahead, 4, (some .int), 12, [], po_236),
  (yX12_whole, cX12_whole, 3, (some .int), 12, [], po_237),
  (yX12_goes, cX12_goes, 2, (some .int), 12, [], po_238),
  (yX12_findBest, cX12_findBest, 6, none, 12, [], po_239)]
noncomputable def pm_6 : List mMeth := [(yX12_takenBy, cX12_takenBy, 4, (some .int), 12, [], po_240),
  (yX12_mayTake, cX12_mayTake, 5, (some .boolean), 12, [], po_241),
  (yX12_best, cX12_best, 2, (some .int), 12, [], po_242),
  (yX12_given, cX12_given, 3, (some .int), 12, [], po_243),
  (yX12_worn, cX12_worn, 3, (some .int), 12, [], po_244),
  (yX12_round, cX12_round, 9, (some .int), 12, [], po_245),
  (yX12_ones, cX12_ones, 3, (some .int), 112, [], po_246),
  (yX12_nearTo, cX12_nearTo, 4, (some .int), 12, [], po_247),
  (yX12_guards, cX12_guards, 3, (some .int), 12, [], po_248),
  (yX12_way, cX12_way, 5, (some .int), 12, [], po_249),
  (yX12_parts, cX12_parts, 6, (some .int), 12, [], po_250),
  (yX12_leaves, cX12_leaves, 4, (some .int), 12, [], po_251),
  (yX12_isFit, cX12_isFit, 5, (some .boolean), 12, [], po_252),
  (yX12_fits, cX12_fits, 6, (some .int), 12, [], po_253),
  (yX12_worstOf, cX12_worstOf, 6, (some .int), 12, [], po_254),
  (yX12_look, cX12_look, 6, (some .int), 12, [], po_255),
  (yX12_least, cX12_least, 11, (some .long), 112, [], po_256),
  (yX12_first, cX12_first, 9, (some .long), 12, [], po_257),
  (yX12_hasBy, cX12_hasBy, 4, (some .int), 112, [], po_258),
  (yX12_ridge, cX12_ridge, 9, (some .int), 12, [], po_259),
  (yX12_woolBy, cX12_woolBy, 5, (some .int), 12, [], po_260),
  (yX12_wool, cX12_wool, 5, (some .int), 12, [], po_261),
  (yX12_greatest, cX12_greatest, 5, (some .int), 12, [], po_262),
  (yX12_worst, cX12_worst, 3, (some .int), 12, [], po_263),
  (yX12_ridges, cX12_ridges, 2, (some .int), 12, [], po_264),
  (yX12_draws, cX12_draws, 2, (some .int), 12, [], po_265),
  (yX12_generationGoes, cX12_generationGoes, 9, none, 12, [], po_266),
  (yX12_isGeneration, cX12_isGeneration, 2, (some .boolean), 112, [], po_267),
  (yX12_generation, cX12_generation, 5, (some .int), 12, [], po_268),
  (yX12_span, cX12_span, 11, (some .int), 12, [], po_269),
  (yX12_keepsRow, cX12_keepsRow, 6, (some .int), 12, [], po_270),
  (yX12_keepsAll, cX12_keepsAll, 4, none, 12, [], po_271),
  (yX12_image, cX12_image, 1, (some .int), 12, [], po_272),
  (yX12_restore, cX12_restore, 1, (some .int), 12, [], po_273),
  (yX12_status, cX12_status, 2, (some .int), 12, [], po_274),
  (yX12_count, cX12_count, 2, (some .int), 12, [], po_275),
  (yJ6_bitCount_0f7a4, cJ6_bitCount_0f7a4, 1, (some .int), 114, [], po_276),
  (yL_village, cL_village, 4, (some .int), 113, [(0, 9, 2, 13, 12, 13)], po_277),
  (yL_law, cL_law, 4, (some .int), 113, [(0, 9, 2, 13, 12, 13)], po_278),
  (yL_work, cL_work, 4, (some .int), 113, [(0, 9, 2, 13, 12, 13)], po_279)]
noncomputable def pm_7 : List mMeth := [(yL_book, cL_book, 4, (some .int), 113, [(0, 9, 2, 13, 12, 13)], po_280),
  (yL_told, cL_told, 4, (some .int), 113, [(0, 9, 2, 13, 12, 13)], po_281),
  (yL_egg, cL_egg, 5, (some .int), 113, [(0, 10, 1, 15, 13, 31), (0, 10, 2, 19, 17, 13)], po_282),
  (yL_hand, cL_hand, 5, (some .int), 113, [(0, 10, 1, 15, 13, 31), (0, 10, 2, 19, 17, 13)], po_283),
  (yL_hole, cL_hole, 5, (some .int), 113, [(0, 10, 1, 15, 13, 31), (0, 10, 2, 19, 17, 13)], po_284),
  (yL_path, cL_path, 5, (some .int), 113, [(0, 10, 1, 15, 13, 31), (0, 10, 2, 19, 17, 13)], po_285),
  (yL_mend, cL_mend, 6, (some .int), 113, [(0, 12, 1, 17, 15, 31)], po_286),
  (yL_would, cL_would, 11, (some .int), 113, [(0, 22, 2, 27, 25, 13)], po_287),
  (yL_can, cL_can, 6, (some .int), 113, [(0, 19, 1, 24, 22, 31)], po_288),
  (yL_ahead, cL_ahead, 5, (some .int), 113, [(0, 10, 2, 15, 13, 13)], po_289),
  (yL_whole, cL_whole, 4, (some .int), 113, [(0, 9, 1, 13, 12, 31)], po_290),
  (yL_best, cL_best, 4, (some .int), 113, [(0, 9, 1, 13, 12, 31)], po_291),
  (yL_given, cL_given, 5, (some .int), 113, [(0, 10, 1, 15, 13, 31)], po_292),
  (yL_round, cL_round, 4, (some .int), 113, [(0, 9, 1, 13, 12, 31)], po_293),
  (yL_way, cL_way, 5, (some .int), 113, [(0, 10, 1, 15, 13, 31)], po_294),
  (yL_fits, cL_fits, 4, (some .int), 113, [(0, 9, 2, 13, 12, 13)], po_295),
  (yL_look, cL_look, 4, (some .int), 113, [(0, 9, 2, 13, 12, 13)], po_296),
  (yL_first, cL_first, 6, (some .int), 113, [(0, 11, 2, 16, 14, 13)], po_297),
  (yL_ridge, cL_ridge, 6, (some .int), 113, [(0, 12, 2, 17, 15, 13)], po_298),
  (yL_wool, cL_wool, 6, (some .int), 113, [(0, 12, 1, 17, 15, 31), (0, 12, 2, 21, 19, 13)], po_299),
  (yL_worst, cL_worst, 4, (some .int), 113, [(0, 9, 2, 13, 12, 13)], po_300),
  (yL_goes, cL_goes, 4, (some .int), 113, [(0, 9, 1, 13, 12, 31)], po_301),
  (yL_ridges, cL_ridges, 4, (some .int), 113, [(0, 9, 2, 13, 12, 13)], po_302),
  (yL_generation, cL_generation, 7, (some .int), 113, [(0, 14, 2, 19, 17, 13)], po_303),
  (yL_span, cL_span, 8, (some .int), 113, [(0, 16, 2, 21, 19, 13)], po_304),
  (x, code, 8, (some .boolean), 113, [], po_305)]
noncomputable def mP : List mMeth := pm_0 ++ (pm_1 ++ (pm_2 ++ (pm_3 ++ (pm_4 ++ (pm_5 ++ (pm_6 ++ (pm_7)))))))
/-- the texts -/
def mT : List (List Int32) := [[101, 103, 103], [104, 97, 110, 100], [104, 111, 108, 101], [112, 97, 116, 104], [119, 111, 111, 108], [109, 111, 116, 104, 115], [108, 101, 97, 115, 116], [109, 111, 115, 116], [104, 101, 101, 108, 115], [97, 110, 103, 101, 114], [119, 101, 97, 114], [114, 105, 100, 103, 101], [119, 111, 111, 108], [104, 111, 111, 107, 115], [100, 97, 121], [104, 97, 110, 100], [100, 97, 114, 110], [108, 101, 116], [99, 97, 108, 108], [117, 110, 112, 105, 99, 107], [115, 104, 101, 97, 114], [100, 97, 121], [97, 103, 97, 105, 110], [101, 103, 103], [104, 97, 110, 100], [104, 111, 108, 101], [112, 97, 116, 104], [119, 111, 111, 108], [109, 111, 116, 104, 115], [108, 101, 97, 115, 116], [109, 111, 115, 116], [104, 101, 101, 108, 115], [97, 110, 103, 101, 114], [119, 101, 97, 114], [114, 105, 100, 103, 101], [104, 111, 111, 107, 115], [100, 97, 121], [100, 97, 114, 110], [108, 101, 116], [99, 97, 108, 108], [117, 110, 112, 105, 99, 107], [115, 104, 101, 97, 114], [97, 103, 97, 105, 110]]
end
section
/-! how the small machine's states stand in the machine's -/
def m_rho (f : Nat → Nat) : Value → Value
  | .ref a => .ref (f a)
  | v => v
theorem m_rho_cat (f : Nat → Nat) (v : Value) : (m_rho f v).category = v.category := by cases v <;> rfl
theorem m_rho_rf (f : Nat → Nat) (r : Option Nat) : m_rho f (va_rf r) = va_rf (r.map f) := by cases r <;> rfl
def m_lv (f : Nat → Nat) (L : mL) : List (Nat × Value) := L.zipIdx.filterMap (fun q => q.1.map (fun v => (q.2, m_rho f v)))
theorem m_lv_mem {f : Nat → Nat} {L : mL} {j : Nat} {w : Value} : (j, w) ∈ m_lv f L ↔ ∃ v, L[j]? = some (some v) ∧ w = m_rho f v := by
  unfold m_lv
  rw [List.mem_filterMap]
  constructor
  · rintro ⟨⟨o, i⟩, h1, h2⟩
    rw [List.mem_zipIdx_iff_getElem?] at h1
    cases o with
    | none => cases h2
    | some v =>
      simp only [Option.map_some, Option.some.injEq, Prod.mk.injEq] at h2
      obtain ⟨rfl, rfl⟩ := h2
      exact ⟨v, h1, rfl⟩
  · rintro ⟨v, h1, rfl⟩
    exact ⟨(some v, j), by rw [List.mem_zipIdx_iff_getElem?]; exact h1, rfl⟩
def m_Lv (f : Nat → Nat) (n : Nat) (ls : Array Slot) (L : mL) : Prop := L.length = n ∧ lv_has ls n (m_lv f L)
theorem m_Lv.at {f : Nat → Nat} {n : Nat} {ls : Array Slot} {L : mL} (h : m_Lv f n ls L) {i : Nat} {v : Value} (hi : m_get L i = some v) : ls[i]? = some (.val (m_rho f v)) := by
  refine h.2.2.2 (i, m_rho f v) (m_lv_mem.mpr ⟨v, ?_, rfl⟩)
  unfold m_get at hi
  split at hi
  · cases hi; assumption
  · cases hi
theorem m_kill_len (L : mL) (i : Nat) : (m_kill L i).length = L.length := by
  unfold m_kill
  split
  · rfl
  · split
    · split <;> simp
    · rfl
theorem m_kill_at {L : mL} {i j : Nat} {w : Value} (h : (m_kill L i)[j]? = some (some w)) : L[j]? = some (some w) ∧ ¬ (j + 1 = i ∧ w.category = 2) := by
  unfold m_kill at h
  split at h
  · exact ⟨h, fun q => by omega⟩
  · rename_i i k
    split at h
    · rename_i u hu
      split at h
      · rw [List.getElem?_set] at h
        split at h
        · split at h <;> cases h
        · exact ⟨h, fun q => by omega⟩
      · rename_i hc
        refine ⟨h, fun q => ?_⟩
        have : j = k := by omega
        subst this
        rw [hu] at h
        cases h
        exact hc q.2
    · rename_i hn
      refine ⟨h, fun q => ?_⟩
      have : j = k := by omega
      subst this
      exact hn w h
theorem m_set_at {L : mL} {i j : Nat} {v w : Value} (h : (m_set L i v)[j]? = some (some w)) : (j = i ∧ w = v) ∨ (j ≠ i ∧ L[j]? = some (some w) ∧ ¬ (j + 1 = i ∧ w.category = 2)) := by
  unfold m_set at h
  rw [List.getElem?_set] at h
  split at h
  · rename_i e
    split at h
    · cases h; exact Or.inl ⟨e.symm, rfl⟩
    · cases h
  · rename_i e
    have := m_kill_at h
    exact Or.inr ⟨fun q => e q.symm, this.1, this.2⟩
theorem m_Lv.set {f : Nat → Nat} {n : Nat} {ls ls' : Array Slot} {L : mL} (h : m_Lv f n ls L) {i : Nat} {v : Value}
    (h' : lv_has ls' n ((i, m_rho f v) :: (m_lv f L).filter (fun q => !(q.1 == i) && !(q.1 + 1 == i && q.2.category == 2)))) : m_Lv f n ls' (m_set L i v) := by
  refine ⟨by unfold m_set; rw [List.length_set, m_kill_len]; exact h.1, h'.1, h'.2.1, ?_⟩
  rintro ⟨j, w⟩ hq
  obtain ⟨u, hu, rfl⟩ := m_lv_mem.mp hq
  rcases m_set_at hu with ⟨rfl, rfl⟩ | ⟨hne, hL, hc⟩
  · exact h'.2.2 _ List.mem_cons_self
  · refine h'.2.2 (j, m_rho f u) (List.mem_cons_of_mem _ (List.mem_filter.mpr ⟨m_lv_mem.mpr ⟨u, hL, rfl⟩, ?_⟩))
    rw [m_rho_cat]
    simp only [Bool.and_eq_true, Bool.not_eq_true', beq_eq_false_iff_ne, Bool.and_eq_false_iff, ne_eq]
    refine ⟨hne, ?_⟩
    by_cases h1 : j + 1 = i
    · exact Or.inr (fun h2 => hc ⟨h1, h2⟩)
    · exact Or.inl h1
theorem m_Lv.setL {f : Nat → Nat} {n : Nat} {ls ls' : Array Slot} {L : mL} (h : m_Lv f n ls L) {i : Nat} {v : Value}
    (h' : lv_has ls' n ((i, m_rho f v) :: (m_lv f L).filter (fun q => !(q.1 == i) && (!(q.1 == i + 1) && !(q.1 + 1 == i && q.2.category == 2))))) : m_Lv f n ls' (m_setL L i v) := by
  refine ⟨by unfold m_setL m_set; rw [List.length_set, List.length_set, m_kill_len]; exact h.1, h'.1, h'.2.1, ?_⟩
  rintro ⟨j, w⟩ hq
  obtain ⟨u, hu, rfl⟩ := m_lv_mem.mp hq
  unfold m_setL at hu
  rw [List.getElem?_set] at hu
  split at hu
  · split at hu <;> cases hu
  · rename_i hji
    rcases m_set_at hu with ⟨rfl, rfl⟩ | ⟨hne, hL, hc⟩
    · exact h'.2.2 _ List.mem_cons_self
    · refine h'.2.2 (j, m_rho f u) (List.mem_cons_of_mem _ (List.mem_filter.mpr ⟨m_lv_mem.mpr ⟨u, hL, rfl⟩, ?_⟩))
      rw [m_rho_cat]
      simp only [Bool.and_eq_true, Bool.not_eq_true', beq_eq_false_iff_ne, Bool.and_eq_false_iff, ne_eq]
      refine ⟨hne, fun q => hji q.symm, ?_⟩
      by_cases h1 : j + 1 = i
      · exact Or.inr (fun h2 => hc ⟨h1, h2⟩)
      · exact Or.inl h1
/-! the helpers of m_step, taken apart -/
theorem m_i1_s {α : Type} {st : List Value} {k : Int32 → List Value → Option α} {c : α} (h : m_i1 st k = some c) : ∃ x r, st = .int x :: r ∧ k x r = some c := by
  unfold m_i1 at h
  split at h
  · exact ⟨_, _, rfl, h⟩
  · cases h
theorem m_i2_s {α : Type} {st : List Value} {k : Int32 → Int32 → List Value → Option α} {c : α} (h : m_i2 st k = some c) : ∃ x y r, st = .int y :: .int x :: r ∧ k x y r = some c := by
  unfold m_i2 at h
  split at h
  · exact ⟨_, _, _, rfl, h⟩
  · cases h
theorem m_l1_s {α : Type} {st : List Value} {k : Int64 → List Value → Option α} {c : α} (h : m_l1 st k = some c) : ∃ x r, st = .long x :: r ∧ k x r = some c := by
  unfold m_l1 at h
  split at h
  · exact ⟨_, _, rfl, h⟩
  · cases h
theorem m_l2_s {α : Type} {st : List Value} {k : Int64 → Int64 → List Value → Option α} {c : α} (h : m_l2 st k = some c) : ∃ x y r, st = .long y :: .long x :: r ∧ k x y r = some c := by
  unfold m_l2 at h
  split at h
  · exact ⟨_, _, _, rfl, h⟩
  · cases h
theorem m_r1_s {α : Type} {st : List Value} {k : Nat → List Value → Option α} {c : α} (h : m_r1 st k = some c) : ∃ a r, st = .ref a :: r ∧ k a r = some c := by
  unfold m_r1 at h
  split at h
  · exact ⟨_, _, rfl, h⟩
  · cases h
theorem m_v1_s {α : Type} {st : List Value} {k : Value → List Value → Option α} {c : α} (h : m_v1 st k = some c) : ∃ v r, st = v :: r ∧ v.category = 1 ∧ k v r = some c := by
  unfold m_v1 at h
  split at h
  · split at h
    · exact ⟨_, _, rfl, by assumption, h⟩
    · cases h
  · cases h
theorem m_jmp_s {pc : Nat} {off : Int} {L : mL} {st : List Value} {M : mM} {c : mC} (h : m_jmp pc off L st M = some c) : ∃ t : Nat, (pc : Int) + off = (t : Int) ∧ c = (t, L, st, M) := by
  unfold m_jmp at h
  split at h
  · rename_i t e
    cases h
    exact ⟨t, e, rfl⟩
  · cases h
theorem m_arr_s {M : mM} {kd a : Nat} {i : Int32} {k : Nat → Option mC} {c : mC} (h : m_arr M kd a i k = some c) : ∃ n, M.2.2.2.1[a]? = some (kd, n) ∧ vp_in i n ∧ k i.toNatClampNeg = some c := by
  unfold m_arr at h
  split at h
  · rename_i kd' n e
    split at h
    · split at h
      · cases h
      · rename_i hk hi
        subst hk
        exact ⟨n, e, hi, h⟩
    · cases h
  · cases h
theorem m_obj_s {M : mM} {ci j a : Nat} {k : Option mC} {c : mC} (h : m_obj M ci j a k = some c) : ∃ n, M.2.2.2.1[a]? = some (ci + 5, n) ∧ j < n ∧ k = some c := by
  unfold m_obj at h
  split at h
  · rename_i kd n e
    split at h
    · rename_i hk
      subst hk
      split at h
      · exact ⟨n, e, by assumption, h⟩
      · cases h
    · cases h
  · cases h
theorem m_br_s {cn : Bool} {pc : Nat} {off : Int} {L : mL} {st : List Value} {M : mM} {c : mC} (h : m_br cn pc off L st M = some c) : ∃ t : Nat, (pc : Int) + off = (t : Int) ∧ ((cn = true ∧ c = (t, L, st, M)) ∨ (¬ cn = true ∧ c = (pc + 3, L, st, M))) := by
  unfold m_br at h
  split at h
  · rename_i t e
    split at h
    · rename_i hc
      cases h
      exact ⟨t, e, Or.inl ⟨hc, rfl⟩⟩
    · rename_i hc
      cases h
      exact ⟨t, e, Or.inr ⟨hc, rfl⟩⟩
  · cases h
end
section
/-! the small machine's memory as a world of the kit -/
def m_isI (ci k : Nat) : Bool := match vwCl[ci]? with
  | some q => decide ((q.2.1 k).2.2.1 = "I")
  | none => false
def m_fv (f : Nat → Nat) (M : mM) (ci a k : Nat) : Value := if m_isI ci k = true then .int (M.1 a k) else va_rf ((M.2.1 a k).map f)
def m_cell (f : Nat → Nat) (tc : Nat → ClassId) (M : mM) (a : Nat) (sh : Nat × Nat) : va_E := match sh.1 with
  | 0 => .inl (tc 0, sh.2, .inl (M.1 a))
  | 1 => .inl (tc 1, sh.2, .inl (M.1 a))
  | 2 => .inl (tc 2, sh.2, .inr (.inl (M.2.2.1 a)))
  | 3 => .inl (tc 3, sh.2, .inr (.inr (.inr (.inr (fun k => (M.2.1 a k).map f)))))
  | 4 => .inl (tc 4, sh.2, .inr (.inr (.inr (.inr (fun k => (M.2.1 a k).map f)))))
  | ci + 5 => .inr (ci, (List.range sh.2).map (m_fv f M ci a))
def m_ws (f : Nat → Nat) (tc : Nat → ClassId) (M : mM) : va_W := M.2.2.2.1.mapIdx (fun a sh => (f a, m_cell f tc M a sh))
theorem m_ws_at {f : Nat → Nat} {tc : Nat → ClassId} {M : mM} {a : Nat} {sh : Nat × Nat} (h : M.2.2.2.1[a]? = some sh) : (m_ws f tc M)[a]? = some (f a, m_cell f tc M a sh) := by
  unfold m_ws
  rw [List.getElem?_mapIdx, h]
  rfl
theorem m_cell_congr {f : Nat → Nat} {tc : Nat → ClassId} {M M' : mM} {a : Nat} {sh : Nat × Nat} (h1 : M'.1 a = M.1 a) (h2 : M'.2.1 a = M.2.1 a) (h3 : M'.2.2.1 a = M.2.2.1 a) : m_cell f tc M' a sh = m_cell f tc M a sh := by
  unfold m_cell
  split <;> first | rw [h1] | rw [h3] | rw [h2] | skip
  congr 2
  apply List.map_congr_left
  intro k _
  unfold m_fv
  rw [h1, h2]
theorem m_ws_set {f : Nat → Nat} {tc : Nat → ClassId} {M M' : mM} {a : Nat} {sh : Nat × Nat} (hs : M'.2.2.2.1 = M.2.2.2.1) (ha : M.2.2.2.1[a]? = some sh)
    (ho : ∀ b, b ≠ a → M'.1 b = M.1 b ∧ M'.2.1 b = M.2.1 b ∧ M'.2.2.1 b = M.2.2.1 b) : m_ws f tc M' = (m_ws f tc M).set a (f a, m_cell f tc M' a sh) := by
  apply List.ext_getElem?
  intro i
  rw [List.getElem?_set]
  have hlen : (m_ws f tc M).length = M.2.2.2.1.length := by unfold m_ws; rw [List.length_mapIdx]
  have hal : a < M.2.2.2.1.length := (List.getElem?_eq_some_iff.mp ha).1
  by_cases hi : a = i
  · subst hi
    rw [if_pos rfl, hlen, if_pos hal]
    exact m_ws_at (by rw [hs]; exact ha)
  · rw [if_neg hi]
    unfold m_ws
    rw [List.getElem?_mapIdx, List.getElem?_mapIdx, hs]
    cases hq : M.2.2.2.1[i]? with
    | none => rfl
    | some sh' =>
      obtain ⟨h1, h2, h3⟩ := ho i (fun q => hi q.symm)
      simp only [Option.map_some]
      rw [m_cell_congr h1 h2 h3]
theorem m_row_ne {α : Type} {g : Nat → Nat → α} {a b : Nat} {r : Nat → α} (h : b ≠ a) : m_row g a r b = g b := by funext k; unfold m_row; rw [if_neg h]
theorem m_row_eq {α : Type} {g : Nat → Nat → α} {a : Nat} {r : Nat → α} : m_row g a r a = r := by funext k; unfold m_row; rw [if_pos rfl]
theorem m_up_ne {α : Type} {g : Nat → Nat → α} {a b k : Nat} {v : α} (h : b ≠ a) : m_up g a k v b = g b := by funext j; unfold m_up; rw [if_neg h]
theorem m_up_eq {α : Type} {g : Nat → Nat → α} {a k : Nat} {v : α} : m_up g a k v a = fun j => if j = k then v else g a j := by funext j; unfold m_up; rw [if_pos rfl]
theorem m_ws_new {f : Nat → Nat} {tc : Nat → ClassId} {M : mM} {kd n : Nat} : m_ws f tc (m_mk M kd n) = m_ws f tc M ++ [(f M.2.2.2.1.length, m_cell f tc (m_mk M kd n) M.2.2.2.1.length (kd, n))] := by
  unfold m_ws
  rw [show (m_mk M kd n).2.2.2.1 = M.2.2.2.1 ++ [(kd, n)] from rfl, List.mapIdx_append]
  congr 1
  · apply List.ext_getElem?
    intro i
    rw [List.getElem?_mapIdx, List.getElem?_mapIdx]
    cases hq : M.2.2.2.1[i]? with
    | none => rfl
    | some sh =>
      have hil : i < M.2.2.2.1.length := (List.getElem?_eq_some_iff.mp hq).1
      simp only [Option.map_some]
      rw [m_cell_congr (M := M) (M' := m_mk M kd n) (m_row_ne (by omega)) (m_row_ne (by omega)) (m_row_ne (by omega))]
  · simp [List.mapIdx_cons]
/-- the words that are kept by whatever the machine does meanwhile -/
def gw : List Cond := lw_tbl.filter goodWord
theorem gw_in {w : Cond} (h : w ∈ lw_tbl) (hg : goodWord w = true) : w ∈ gw := List.mem_filter.mpr ⟨h, hg⟩
def m_tys (tc : Nat → ClassId) : List (ClassId × FieldType) := [(tc 0, .int), (tc 1, .boolean), (tc 2, .long), (tc 3, .object "DarnEggs$State"), (tc 4, .object "DarnEggs$Past")]
def m_Pic (D : va_G) (f : Nat → Nat) (tc : Nat → ClassId) (base : Nat) (M : mM) (H : Heap) : Prop :=
  va_P D vwCl (m_ws f tc M) H ∧ va_D (fun q => base ≤ q) (m_ws f tc M)
end
section
/-! ONE INSTRUCTION of the small machine is one of the machine's -/
def m_ilen (op : mOp) : Nat := match op.1 with
  | .tableswitch _ _ _ _ => op.2.1
  | .lookupswitch _ _ => op.2.1
  | .aload _ => 2
  | .iload _ => 2
  | .lload _ => 2
  | .istore _ => 2
  | .astore _ => 2
  | .lstore _ => 2
  | .bipush _ => 2
  | .ldc _ => 2
  | .newarray _ => 2
  | .iinc _ _ => 3
  | .sipush _ => 3
  | .ldc_w _ => 3
  | .ldc2_w _ => 3
  | .goto _ => 3
  | .if_icmp _ _ => 3
  | .ifCond _ _ => 3
  | .getfield _ => 3
  | .putfield _ => 3
  | .new _ => 3
  | .anewarray _ => 3
  | .invokevirtual _ => 3
  | .invokestatic _ => 3
  | .invokespecial _ => 3
  | _ => 1
def m_ncell (M : mM) : Nat := M.2.2.2.1.length + M.2.2.2.2
def m_nslot (M : mM) : Nat := (M.2.2.2.1.map Prod.snd).sum + 6 * M.2.2.2.2
/-- the method's state: locals, world, what was written, how much was made -/
def m_At (D : va_G) (f : Nat → Nat) (tc : Nat → ClassId) (base nL c0 s0 : Nat) (H0 : Heap) (L : mL) (M : mM) (ls : Array Slot) (H : Heap) (locs : List Loc) (cells slots : Nat) : Prop :=
  m_Lv f nL ls L ∧ m_Pic D f tc base M H ∧ va_S (fun q => base ≤ q) H0 H locs ∧ cells + c0 = m_ncell M ∧ slots + s0 = m_nslot M ∧ (M.2.2.2.2 = 0 → H0.size ≤ base + c0)
def m_isA (i : Instr) : Bool := match i with
  | .aload _ | .aload_n _ | .iload _ | .iload_n _ | .lload _ | .lload_n _ | .istore _ | .istore_n _ | .astore _ | .astore_n _ | .lstore _ | .iinc _ _ | .iconst _ | .bipush _ | .sipush _ | .lconst _ | .iadd | .isub | .imul | .iand | .ior | .ixor | .idiv | .irem | .ishl | .ishr | .iushr | .ineg | .i2l | .lmul | .ldiv | .lrem | .lcmp | .dup | .pop | .dup2 | .goto _ | .if_icmp _ _ | .ifCond _ _ | .tableswitch _ _ _ _ | .lookupswitch _ _ => true
  | _ => false
section SimA
variable {p : Program} {l : Launch} {e : Env} {R : Room} {s : State} {m : MethodId} {args : Array Value} {below : List Frame} {meth : Method} {c : Code} {H : Heap} {locs : List Loc} {cells slots : Nat} {Q : State → Prop}
variable {D : va_G} {f : Nat → Nat} {tc : Nat → ClassId} {base nL c0 s0 : Nat} {cc : ByteArray} {tx : List (List Int32)} {X : Nat × (Nat → Int32)} {pc : Nat} {L : mL} {st : List Value} {M : mM} {ls : Array Slot} {c' : mC} {H0 : Heap}
/-- what a goal behind an instruction is -/
def m_K (p : Program) (l : Launch) (e : Env) (R : Room) (s : State) (m : MethodId) (args : Array Value) (below : List Frame) (meth : Method) (c : Code) (Q : State → Prop) (D : va_G) (f : Nat → Nat) (tc : Nat → ClassId) (base nL c0 s0 : Nat) (H0 : Heap) (c' : mC) : Prop :=
  ∀ (ls : Array Slot) (H : Heap) (locs : List Loc) (cells slots : Nat), m_At D f tc base nL c0 s0 H0 c'.2.1 c'.2.2.2 ls H locs cells slots → W p l e R s m args below meth c H locs cells slots Q (F0 m c'.1 ls (c'.2.2.1.map (m_rho f)))
set_option maxHeartbeats 4000000 in
/-- numbers, locals, jumps -/
theorem m_simA {i : Instr} {len a b : Nat} (hx : p.tables.exec = Jvm.exec) (hb : c.code = cc) (hd : decode cc pc = .ok (i, m_ilen (i, len, a, b))) (h : m_step tx X (i, len, a, b) pc L st M = some c')
    (hA : m_At D f tc base nL c0 s0 H0 L M ls H locs cells slots) (kk : m_K p l e R s m args below meth c Q D f tc base nL c0 s0 H0 c')
    (hi : m_isA i = true) : W p l e R s m args below meth c H locs cells slots Q (F0 m pc ls (st.map (m_rho f))) := by
  obtain ⟨hl, hP, hS, hc0, hs0, hz⟩ := hA
  cases i <;> try (simp [m_isA] at hi; done)
  case aload i =>
    simp only [m_step] at h
    split at h
    · rename_i a hg
      cases h
      exact lv_aload hx hb hd (hl.at hg) (kk _ _ _ _ _ ⟨hl, hP, hS, hc0, hs0, hz⟩)
    · cases h
  case aload_n i =>
    simp only [m_step] at h
    split at h
    · rename_i a hg
      cases h
      exact lv_aload_n hx hb hd rfl (hl.at hg) (kk _ _ _ _ _ ⟨hl, hP, hS, hc0, hs0, hz⟩)
    · cases h
  case iload i =>
    simp only [m_step] at h
    split at h
    · rename_i a hg
      cases h
      exact lv_iload hx hb hd (hl.at hg) (kk _ _ _ _ _ ⟨hl, hP, hS, hc0, hs0, hz⟩)
    · cases h
  case iload_n i =>
    simp only [m_step] at h
    split at h
    · rename_i a hg
      cases h
      exact lv_iload_n hx hb hd rfl (hl.at hg) (kk _ _ _ _ _ ⟨hl, hP, hS, hc0, hs0, hz⟩)
    · cases h
  case lload i =>
    simp only [m_step] at h
    split at h
    · rename_i a hg
      cases h
      exact lv_lload hx hb hd (hl.at hg) (kk _ _ _ _ _ ⟨hl, hP, hS, hc0, hs0, hz⟩)
    · cases h
  case lload_n i =>
    simp only [m_step] at h
    split at h
    · rename_i a hg
      cases h
      exact lv_lload_n hx hb hd rfl (hl.at hg) (kk _ _ _ _ _ ⟨hl, hP, hS, hc0, hs0, hz⟩)
    · cases h
  case istore i =>
    simp only [m_step] at h
    obtain ⟨x, r, e9, h9⟩ := m_i1_s h
    clear h
    subst e9
    have h := h9
    clear h9
    try dsimp only at h
    split at h
    · rename_i hn
      cases h
      exact lv_istore hx hb hd hl.2 (by rw [← hl.1]; exact hn) rfl (fun ls' hl' => kk _ _ _ _ _ ⟨hl.set (v := .int x) hl', hP, hS, hc0, hs0, hz⟩)
    · cases h
  case istore_n i =>
    simp only [m_step] at h
    obtain ⟨x, r, e9, h9⟩ := m_i1_s h
    clear h
    subst e9
    have h := h9
    clear h9
    try dsimp only at h
    split at h
    · rename_i hn
      cases h
      exact lv_istore_n hx hb hd rfl hl.2 (by rw [← hl.1]; exact hn) rfl (fun ls' hl' => kk _ _ _ _ _ ⟨hl.set (v := .int x) hl', hP, hS, hc0, hs0, hz⟩)
    · cases h
  case astore i =>
    simp only [m_step] at h
    obtain ⟨x, r, e9, h9⟩ := m_r1_s h
    clear h
    subst e9
    have h := h9
    clear h9
    try dsimp only at h
    split at h
    · rename_i hn
      cases h
      exact lv_astore hx hb hd hl.2 (by rw [← hl.1]; exact hn) rfl (fun ls' hl' => kk _ _ _ _ _ ⟨hl.set (v := .ref x) hl', hP, hS, hc0, hs0, hz⟩)
    · cases h
  case astore_n i =>
    simp only [m_step] at h
    obtain ⟨x, r, e9, h9⟩ := m_r1_s h
    clear h
    subst e9
    have h := h9
    clear h9
    try dsimp only at h
    split at h
    · rename_i hn
      cases h
      exact lv_astore_n hx hb hd rfl hl.2 (by rw [← hl.1]; exact hn) rfl (fun ls' hl' => kk _ _ _ _ _ ⟨hl.set (v := .ref x) hl', hP, hS, hc0, hs0, hz⟩)
    · cases h
  case lstore i =>
    simp only [m_step] at h
    obtain ⟨x, r, e9, h9⟩ := m_l1_s h
    clear h
    subst e9
    have h := h9
    clear h9
    try dsimp only at h
    split at h
    · rename_i hn
      cases h
      exact lv_lstore hx hb hd hl.2 (by rw [← hl.1]; exact hn) rfl (fun ls' hl' => kk _ _ _ _ _ ⟨hl.setL (v := .long x) hl', hP, hS, hc0, hs0, hz⟩)
    · cases h
  case iinc i n =>
    simp only [m_step] at h
    split at h
    · rename_i x hg
      split at h
      · rename_i hn
        cases h
        obtain ⟨k, hk⟩ : ∃ k, (m_lv f L)[k]? = some (i, Value.int x) := by
          have hm : (i, m_rho f (.int x)) ∈ m_lv f L := m_lv_mem.mpr ⟨.int x, (by
            unfold m_get at hg
            split at hg
            · cases hg; assumption
            · cases hg), rfl⟩
          exact List.getElem?_of_mem hm
        exact lv_iinc hx hb hd hl.2 hk rfl (by rw [← hl.1]; exact hn) rfl (fun ls' hl' => kk _ _ _ _ _ ⟨hl.set (v := .int (x + Int32.ofInt n)) hl', hP, hS, hc0, hs0, hz⟩)
      · cases h
    · cases h
  case iconst n => cases h; exact lv_iconst hx hb hd rfl (kk _ _ _ _ _ ⟨hl, hP, hS, hc0, hs0, hz⟩)
  case bipush n => cases h; exact lv_bipush hx hb hd rfl (kk _ _ _ _ _ ⟨hl, hP, hS, hc0, hs0, hz⟩)
  case sipush n => cases h; exact lv_sipush hx hb hd rfl (kk _ _ _ _ _ ⟨hl, hP, hS, hc0, hs0, hz⟩)
  case lconst n => cases h; exact lv_lconst hx hb hd rfl (kk _ _ _ _ _ ⟨hl, hP, hS, hc0, hs0, hz⟩)
  case iadd =>
    simp only [m_step] at h
    obtain ⟨x, y, r, e9, h9⟩ := m_i2_s h
    clear h
    subst e9
    have h := h9
    clear h9
    try dsimp only at h
    cases h; exact lv_iadd hx hb hd (kk _ _ _ _ _ ⟨hl, hP, hS, hc0, hs0, hz⟩)
  case isub =>
    simp only [m_step] at h
    obtain ⟨x, y, r, e9, h9⟩ := m_i2_s h
    clear h
    subst e9
    have h := h9
    clear h9
    try dsimp only at h
    cases h; exact lv_isub hx hb hd (kk _ _ _ _ _ ⟨hl, hP, hS, hc0, hs0, hz⟩)
  case imul =>
    simp only [m_step] at h
    obtain ⟨x, y, r, e9, h9⟩ := m_i2_s h
    clear h
    subst e9
    have h := h9
    clear h9
    try dsimp only at h
    cases h; exact lv_imul hx hb hd (kk _ _ _ _ _ ⟨hl, hP, hS, hc0, hs0, hz⟩)
  case iand =>
    simp only [m_step] at h
    obtain ⟨x, y, r, e9, h9⟩ := m_i2_s h
    clear h
    subst e9
    have h := h9
    clear h9
    try dsimp only at h
    cases h; exact lv_iand hx hb hd (kk _ _ _ _ _ ⟨hl, hP, hS, hc0, hs0, hz⟩)
  case ior =>
    simp only [m_step] at h
    obtain ⟨x, y, r, e9, h9⟩ := m_i2_s h
    clear h
    subst e9
    have h := h9
    clear h9
    try dsimp only at h
    cases h; exact lv_ior hx hb hd (kk _ _ _ _ _ ⟨hl, hP, hS, hc0, hs0, hz⟩)
  case ixor =>
    simp only [m_step] at h
    obtain ⟨x, y, r, e9, h9⟩ := m_i2_s h
    clear h
    subst e9
    have h := h9
    clear h9
    try dsimp only at h
    cases h; exact lv_ixor hx hb hd (kk _ _ _ _ _ ⟨hl, hP, hS, hc0, hs0, hz⟩)
  case idiv =>
    simp only [m_step] at h
    obtain ⟨x, y, r, e9, h9⟩ := m_i2_s h
    clear h
    subst e9
    have h := h9
    clear h9
    try dsimp only at h
    split at h
    · cases h
    · rename_i hy
      cases h; exact lv_idiv hx hb hd hy (kk _ _ _ _ _ ⟨hl, hP, hS, hc0, hs0, hz⟩)
  case irem =>
    simp only [m_step] at h
    obtain ⟨x, y, r, e9, h9⟩ := m_i2_s h
    clear h
    subst e9
    have h := h9
    clear h9
    try dsimp only at h
    split at h
    · cases h
    · rename_i hy
      cases h; exact lv_irem hx hb hd hy (kk _ _ _ _ _ ⟨hl, hP, hS, hc0, hs0, hz⟩)
  case ishl =>
    simp only [m_step] at h
    obtain ⟨x, y, r, e9, h9⟩ := m_i2_s h
    clear h
    subst e9
    have h := h9
    clear h9
    try dsimp only at h
    cases h; exact lv_ishl hx hb hd (kk _ _ _ _ _ ⟨hl, hP, hS, hc0, hs0, hz⟩)
  case ishr =>
    simp only [m_step] at h
    obtain ⟨x, y, r, e9, h9⟩ := m_i2_s h
    clear h
    subst e9
    have h := h9
    clear h9
    try dsimp only at h
    cases h; exact lv_ishr hx hb hd (kk _ _ _ _ _ ⟨hl, hP, hS, hc0, hs0, hz⟩)
  case iushr =>
    simp only [m_step] at h
    obtain ⟨x, y, r, e9, h9⟩ := m_i2_s h
    clear h
    subst e9
    have h := h9
    clear h9
    try dsimp only at h
    cases h; exact lv_iushr hx hb hd rfl (kk _ _ _ _ _ ⟨hl, hP, hS, hc0, hs0, hz⟩)
  case ineg =>
    simp only [m_step] at h
    obtain ⟨x, r, e9, h9⟩ := m_i1_s h
    clear h
    subst e9
    have h := h9
    clear h9
    try dsimp only at h
    cases h; exact lv_ineg hx hb hd (kk _ _ _ _ _ ⟨hl, hP, hS, hc0, hs0, hz⟩)
  case i2l =>
    simp only [m_step] at h
    obtain ⟨x, r, e9, h9⟩ := m_i1_s h
    clear h
    subst e9
    have h := h9
    clear h9
    try dsimp only at h
    cases h; exact lv_i2l hx hb hd rfl (kk _ _ _ _ _ ⟨hl, hP, hS, hc0, hs0, hz⟩)
  case lmul =>
    simp only [m_step] at h
    obtain ⟨x, y, r, e9, h9⟩ := m_l2_s h
    clear h
    subst e9
    have h := h9
    clear h9
    try dsimp only at h
    cases h; exact lv_lmul hx hb hd (kk _ _ _ _ _ ⟨hl, hP, hS, hc0, hs0, hz⟩)
  case ldiv =>
    simp only [m_step] at h
    obtain ⟨x, y, r, e9, h9⟩ := m_l2_s h
    clear h
    subst e9
    have h := h9
    clear h9
    try dsimp only at h
    split at h
    · cases h
    · rename_i hy
      cases h; exact lv_ldiv hx hb hd hy (kk _ _ _ _ _ ⟨hl, hP, hS, hc0, hs0, hz⟩)
  case lrem =>
    simp only [m_step] at h
    obtain ⟨x, y, r, e9, h9⟩ := m_l2_s h
    clear h
    subst e9
    have h := h9
    clear h9
    try dsimp only at h
    split at h
    · cases h
    · rename_i hy
      cases h; exact lv_lrem hx hb hd hy (kk _ _ _ _ _ ⟨hl, hP, hS, hc0, hs0, hz⟩)
  case lcmp =>
    simp only [m_step] at h
    obtain ⟨x, y, r, e9, h9⟩ := m_l2_s h
    clear h
    subst e9
    have h := h9
    clear h9
    try dsimp only at h
    cases h; exact W.lcmp hx hb hd (kk _ _ _ _ _ ⟨hl, hP, hS, hc0, hs0, hz⟩)
  case dup =>
    simp only [m_step] at h
    obtain ⟨v, r, e9, hv, h9⟩ := m_v1_s h
    clear h
    subst e9
    have h := h9
    clear h9
    try dsimp only at h
    cases h; exact lv_dup hx hb hd (by rw [m_rho_cat]; exact hv) (kk _ _ _ _ _ ⟨hl, hP, hS, hc0, hs0, hz⟩)
  case pop =>
    simp only [m_step] at h
    obtain ⟨v, r, e9, hv, h9⟩ := m_v1_s h
    clear h
    subst e9
    have h := h9
    clear h9
    try dsimp only at h
    cases h; exact lv_pop hx hb hd (by rw [m_rho_cat]; exact hv) (kk _ _ _ _ _ ⟨hl, hP, hS, hc0, hs0, hz⟩)
  case dup2 =>
    simp only [m_step] at h
    obtain ⟨v, r, e9, hv, h9⟩ := m_v1_s h
    clear h
    subst e9
    have h := h9
    clear h9
    try dsimp only at h
    obtain ⟨w, q, e9, hw, h9⟩ := m_v1_s h
    clear h
    subst e9
    have h := h9
    clear h9
    try dsimp only at h
    cases h; exact lv_dup2_11 hx hb hd (by rw [m_rho_cat]; exact hv) (by rw [m_rho_cat]; exact hw) (kk _ _ _ _ _ ⟨hl, hP, hS, hc0, hs0, hz⟩)
  case goto off =>
    simp only [m_step] at h
    obtain ⟨t, ht, rfl⟩ := m_jmp_s h
    try dsimp only at h
    exact lv_goto hx hb hd ht (kk _ _ _ _ _ ⟨hl, hP, hS, hc0, hs0, hz⟩)
  case if_icmp cn off =>
    simp only [m_step] at h
    obtain ⟨x, y, r, e9, h9⟩ := m_i2_s h
    clear h
    subst e9
    have h := h9
    clear h9
    try dsimp only at h
    obtain ⟨t, ht, ⟨hq, rfl⟩ | ⟨hq, rfl⟩⟩ := m_br_s h
    · have K := kk _ _ _ _ _ ⟨hl, hP, hS, hc0, hs0, hz⟩
      cases cn <;> simp only [m_cc, decide_eq_true_eq] at hq
      · exact lv_icmp_eq hx hb hd ht (fun _ => K) (fun n => absurd hq n)
      · exact lv_icmp_ne hx hb hd ht (fun _ => K) (fun n => absurd n hq)
      · exact lv_icmp_lt hx hb hd ht (fun _ => K) (fun n => absurd hq n)
      · exact lv_icmp_ge hx hb hd ht (fun _ => K) (fun n => absurd hq n)
      · exact lv_icmp_gt hx hb hd ht (fun _ => K) (fun n => absurd hq n)
      · exact lv_icmp_le hx hb hd ht (fun _ => K) (fun n => absurd hq n)
    · have K := kk _ _ _ _ _ ⟨hl, hP, hS, hc0, hs0, hz⟩
      cases cn <;> simp only [m_cc, decide_eq_true_eq] at hq
      · exact lv_icmp_eq hx hb hd ht (fun n => absurd n hq) (fun _ => K)
      · exact lv_icmp_ne hx hb hd ht (fun n => absurd n hq) (fun _ => K)
      · exact lv_icmp_lt hx hb hd ht (fun n => absurd n hq) (fun _ => K)
      · exact lv_icmp_ge hx hb hd ht (fun n => absurd n hq) (fun _ => K)
      · exact lv_icmp_gt hx hb hd ht (fun n => absurd n hq) (fun _ => K)
      · exact lv_icmp_le hx hb hd ht (fun n => absurd n hq) (fun _ => K)
  case ifCond cn off =>
    simp only [m_step] at h
    obtain ⟨x, r, e9, h9⟩ := m_i1_s h
    clear h
    subst e9
    have h := h9
    clear h9
    try dsimp only at h
    obtain ⟨t, ht, ⟨hq, rfl⟩ | ⟨hq, rfl⟩⟩ := m_br_s h
    · have K := kk _ _ _ _ _ ⟨hl, hP, hS, hc0, hs0, hz⟩
      cases cn <;> simp only [m_cc, decide_eq_true_eq] at hq
      · exact lv_if_eq hx hb hd ht (fun _ => K) (fun n => absurd hq n)
      · exact lv_if_ne hx hb hd ht (fun _ => K) (fun n => absurd n hq)
      · exact lv_if_lt hx hb hd ht (fun _ => K) (fun n => absurd hq n)
      · exact lv_if_ge hx hb hd ht (fun _ => K) (fun n => absurd hq n)
      · exact lv_if_gt hx hb hd ht (fun _ => K) (fun n => absurd hq n)
      · exact lv_if_le hx hb hd ht (fun _ => K) (fun n => absurd hq n)
    · have K := kk _ _ _ _ _ ⟨hl, hP, hS, hc0, hs0, hz⟩
      cases cn <;> simp only [m_cc, decide_eq_true_eq] at hq
      · exact lv_if_eq hx hb hd ht (fun n => absurd n hq) (fun _ => K)
      · exact lv_if_ne hx hb hd ht (fun n => absurd n hq) (fun _ => K)
      · exact lv_if_lt hx hb hd ht (fun n => absurd n hq) (fun _ => K)
      · exact lv_if_ge hx hb hd ht (fun n => absurd n hq) (fun _ => K)
      · exact lv_if_gt hx hb hd ht (fun n => absurd n hq) (fun _ => K)
      · exact lv_if_le hx hb hd ht (fun n => absurd n hq) (fun _ => K)
  case tableswitch dflt lo hi offs =>
    simp only [m_step] at h
    obtain ⟨x, r, e9, h9⟩ := m_i1_s h
    clear h
    subst e9
    split at h9
    · rename_i hq
      obtain ⟨t, ht, rfl⟩ := m_jmp_s h9
      exact lv_tableOut hx hb hd hq ht (kk _ _ _ _ _ ⟨hl, hP, hS, hc0, hs0, hz⟩)
    · rename_i hq
      split at h9
      · rename_i off ho
        obtain ⟨t, ht, rfl⟩ := m_jmp_s h9
        exact lv_tableIn hx hb hd (fun n => hq (Or.inl n)) (fun n => hq (Or.inr n)) ho ht (kk _ _ _ _ _ ⟨hl, hP, hS, hc0, hs0, hz⟩)
      · cases h9
  case lookupswitch dflt ps =>
    simp only [m_step] at h
    obtain ⟨x, r, e9, h9⟩ := m_i1_s h
    clear h
    subst e9
    split at h9
    · rename_i hq
      obtain ⟨t, ht, rfl⟩ := m_jmp_s h9
      exact lv_lookup hx hb hd hq rfl ht (kk _ _ _ _ _ ⟨hl, hP, hS, hc0, hs0, hz⟩)
    · cases h9
end SimA
end
section
/-! arrays, fields, constants -/
def m_isB (i : Instr) : Bool := match i with
  | .arraylength | .iaload | .baload | .laload | .aaload | .iastore | .bastore | .lastore | .aastore => true
  | _ => false
section SimB
variable {p : Program} {l : Launch} {e : Env} {R : Room} {s : State} {m : MethodId} {args : Array Value} {below : List Frame} {meth : Method} {c : Code} {H : Heap} {locs : List Loc} {cells slots : Nat} {Q : State → Prop}
variable {D : va_G} {f : Nat → Nat} {tc : Nat → ClassId} {base nL c0 s0 : Nat} {cc : ByteArray} {tx : List (List Int32)} {X : Nat × (Nat → Int32)} {pc : Nat} {L : mL} {st : List Value} {M : mM} {ls : Array Slot} {c' : mC}
theorem m_Pic.upI {a k : Nat} {x : Int32} {H1 : Heap} {sh : Nat × Nat} (ha : M.2.2.2.1[a]? = some sh) (hP : va_P D vwCl ((m_ws f tc M).set a (f a, m_cell f tc (m_up M.1 a k x, M.2) a sh)) H1) (hD : va_D (fun q => base ≤ q) ((m_ws f tc M).set a (f a, m_cell f tc (m_up M.1 a k x, M.2) a sh))) : m_Pic D f tc base (m_up M.1 a k x, M.2) H1 := by
  have h := m_ws_set (f := f) (tc := tc) (M := M) (M' := (m_up M.1 a k x, M.2)) rfl ha (fun b hb => ⟨m_up_ne hb, rfl, rfl⟩)
  exact ⟨by rw [h]; exact hP, by rw [h]; exact hD⟩
theorem m_Pic.upR {a k : Nat} {x : Option Nat} {H1 : Heap} {sh : Nat × Nat} (ha : M.2.2.2.1[a]? = some sh) (hP : va_P D vwCl ((m_ws f tc M).set a (f a, m_cell f tc (M.1, m_up M.2.1 a k x, M.2.2) a sh)) H1) (hD : va_D (fun q => base ≤ q) ((m_ws f tc M).set a (f a, m_cell f tc (M.1, m_up M.2.1 a k x, M.2.2) a sh))) : m_Pic D f tc base (M.1, m_up M.2.1 a k x, M.2.2) H1 := by
  have h := m_ws_set (f := f) (tc := tc) (M := M) (M' := (M.1, m_up M.2.1 a k x, M.2.2)) rfl ha (fun b hb => ⟨rfl, m_up_ne hb, rfl⟩)
  exact ⟨by rw [h]; exact hP, by rw [h]; exact hD⟩
theorem m_Pic.upL {a k : Nat} {x : Int64} {H1 : Heap} {sh : Nat × Nat} (ha : M.2.2.2.1[a]? = some sh) (hP : va_P D vwCl ((m_ws f tc M).set a (f a, m_cell f tc (M.1, M.2.1, m_up M.2.2.1 a k x, M.2.2.2) a sh)) H1) (hD : va_D (fun q => base ≤ q) ((m_ws f tc M).set a (f a, m_cell f tc (M.1, M.2.1, m_up M.2.2.1 a k x, M.2.2.2) a sh))) : m_Pic D f tc base (M.1, M.2.1, m_up M.2.2.1 a k x, M.2.2.2) H1 := by
  have h := m_ws_set (f := f) (tc := tc) (M := M) (M' := (M.1, M.2.1, m_up M.2.2.1 a k x, M.2.2.2)) rfl ha (fun b hb => ⟨rfl, rfl, m_up_ne hb⟩)
  exact ⟨by rw [h]; exact hP, by rw [h]; exact hD⟩
set_option maxHeartbeats 4000000 in
theorem m_simB {i : Instr} {len a b : Nat} (hx : p.tables.exec = Jvm.exec) (hb : c.code = cc) (hd : decode cc pc = .ok (i, m_ilen (i, len, a, b))) (h : m_step tx X (i, len, a, b) pc L st M = some c')
    (hK : va_K D vwCl (m_tys tc) s) (hX : va_X (f m_scr) X.1 X.2 s s.heap) (hX2 : f m_scr < s.heap.size) (hX3 : ¬ base ≤ f m_scr)
    (hA : m_At D f tc base nL c0 s0 s.heap L M ls H locs cells slots) (kk : m_K p l e R s m args below meth c Q D f tc base nL c0 s0 s.heap c')
    (hi : m_isB i = true) : W p l e R s m args below meth c H locs cells slots Q (F0 m pc ls (st.map (m_rho f))) := by
  obtain ⟨hl, hP, hS, hc0, hs0, hz⟩ := hA
  cases i <;> try (simp [m_isB] at hi; done)
  case arraylength =>
    simp only [m_step] at h
    obtain ⟨a, r, e9, h9⟩ := m_r1_s h
    clear h
    subst e9
    unfold m_len at h9
    split at h9
    · rename_i hq
      cases h9
      subst hq
      exact va_slen hx hb hX hX2 hX3 hS hd (kk _ _ _ _ _ ⟨hl, hP, hS, hc0, hs0, hz⟩)
    · split at h9
      · rename_i kd n hsh
        split at h9
        · rename_i hkd
          cases h9
          have hw := m_ws_at (f := f) (tc := tc) hsh
          have K := kk _ _ _ _ _ ⟨hl, hP, hS, hc0, hs0, hz⟩
          match kd, hkd, hw with
          | 0, _, hw => exact va_alen hx hb hK hP.1 a 0 hw rfl rfl hd K
          | 1, _, hw => exact va_alen hx hb hK hP.1 a 1 hw rfl rfl hd K
          | 2, _, hw => exact va_alen hx hb hK hP.1 a 2 hw rfl rfl hd K
          | 3, _, hw => exact va_alen hx hb hK hP.1 a 3 hw rfl rfl hd K
          | 4, _, hw => exact va_alen hx hb hK hP.1 a 4 hw rfl rfl hd K
        · cases h9
      · cases h9
  case iaload =>
    simp only [m_step] at h
    obtain ⟨i, r, e9, h9⟩ := m_i1_s h
    clear h
    subst e9
    obtain ⟨a, q, e9, h8⟩ := m_r1_s h9
    clear h9
    subst e9
    split at h8
    · rename_i hq
      split at h8
      · cases h8
      · rename_i hin
        cases h8
        subst hq
        exact va_sld hx hb hX hX2 hX3 hS hin hd (kk _ _ _ _ _ ⟨hl, hP, hS, hc0, hs0, hz⟩)
    · obtain ⟨n, hsh, hin, h7⟩ := m_arr_s h8
      cases h7
      exact va_iald hx hb hK hP.1 a 0 (m_ws_at hsh) rfl hin hd (kk _ _ _ _ _ ⟨hl, hP, hS, hc0, hs0, hz⟩)
  case baload =>
    simp only [m_step] at h
    obtain ⟨i, r, e9, h9⟩ := m_i1_s h
    clear h
    subst e9
    obtain ⟨a, q, e9, h8⟩ := m_r1_s h9
    clear h9
    subst e9
    obtain ⟨n, hsh, hin, h7⟩ := m_arr_s h8
    cases h7
    exact va_zald hx hb hK hP.1 a 1 (m_ws_at hsh) rfl hin hd (kk _ _ _ _ _ ⟨hl, hP, hS, hc0, hs0, hz⟩)
  case laload =>
    simp only [m_step] at h
    obtain ⟨i, r, e9, h9⟩ := m_i1_s h
    clear h
    subst e9
    obtain ⟨a, q, e9, h8⟩ := m_r1_s h9
    clear h9
    subst e9
    obtain ⟨n, hsh, hin, h7⟩ := m_arr_s h8
    cases h7
    exact va_lald hx hb hK hP.1 a 2 (m_ws_at hsh) rfl hin hd (kk _ _ _ _ _ ⟨hl, hP, hS, hc0, hs0, hz⟩)
  case aaload =>
    simp only [m_step] at h
    obtain ⟨i, r, e9, h9⟩ := m_i1_s h
    clear h
    subst e9
    obtain ⟨ad, q, e9, h8⟩ := m_r1_s h9
    clear h9
    subst e9
    obtain ⟨n, hsh, hin, h7⟩ := m_arr_s h8
    split at h7
    · rename_i ho
      cases h7
      have hw := m_ws_at (f := f) (tc := tc) hsh
      have K := kk _ _ _ _ _ ⟨hl, hP, hS, hc0, hs0, hz⟩
      dsimp only [List.map] at K
      rw [m_rho_rf] at K
      rcases ho with rfl | rfl
      · exact va_aldq hx hb hK hP.1 ad 3 hw rfl hin hd K
      · exact va_aldq hx hb hK hP.1 ad 4 hw rfl hin hd K
    · cases h7
  case iastore =>
    simp only [m_step] at h
    obtain ⟨i, x, r, e9, h9⟩ := m_i2_s h
    clear h
    subst e9
    obtain ⟨a, q, e9, h8⟩ := m_r1_s h9
    clear h9
    subst e9
    obtain ⟨n, hsh, hin, h7⟩ := m_arr_s h8
    cases h7
    refine va_iast hx hb hK hP.1 hP.2 hS a 0 (m_ws_at hsh) rfl hin hd (fun H1 locs1 hP1 hD1 hS1 => kk _ _ _ _ _ ⟨hl, m_Pic.upI hsh ?_ ?_, hS1, hc0, hs0, hz⟩)
    · show va_P D vwCl ((m_ws f tc M).set a (f a, .inl (tc 0, n, .inl (m_up M.1 a i.toNatClampNeg x a)))) H1
      rw [m_up_eq]; exact hP1
    · show va_D _ ((m_ws f tc M).set a (f a, .inl (tc 0, n, .inl (m_up M.1 a i.toNatClampNeg x a))))
      rw [m_up_eq]; exact hD1
  case bastore =>
    simp only [m_step] at h
    obtain ⟨i, x, r, e9, h9⟩ := m_i2_s h
    clear h
    subst e9
    obtain ⟨a, q, e9, h8⟩ := m_r1_s h9
    clear h9
    subst e9
    obtain ⟨n, hsh, hin, h7⟩ := m_arr_s h8
    cases h7
    refine va_zast hx hb hK hP.1 hP.2 hS a 1 (m_ws_at hsh) rfl hin hd (fun H1 locs1 hP1 hD1 hS1 => kk _ _ _ _ _ ⟨hl, m_Pic.upI hsh ?_ ?_, hS1, hc0, hs0, hz⟩)
    · show va_P D vwCl ((m_ws f tc M).set a (f a, .inl (tc 1, n, .inl (m_up M.1 a i.toNatClampNeg (vp_nar .boolean x) a)))) H1
      rw [m_up_eq]; exact hP1
    · show va_D _ ((m_ws f tc M).set a (f a, .inl (tc 1, n, .inl (m_up M.1 a i.toNatClampNeg (vp_nar .boolean x) a))))
      rw [m_up_eq]; exact hD1
  case lastore =>
    simp only [m_step] at h
    obtain ⟨x, r, e9, h9⟩ := m_l1_s h
    clear h
    subst e9
    obtain ⟨i, r2, e9, h8⟩ := m_i1_s h9
    clear h9
    subst e9
    obtain ⟨a, q, e9, h7⟩ := m_r1_s h8
    clear h8
    subst e9
    obtain ⟨n, hsh, hin, h6⟩ := m_arr_s h7
    cases h6
    refine va_last hx hb hK hP.1 hP.2 hS a 2 (m_ws_at hsh) rfl hin hd (fun H1 locs1 hP1 hD1 hS1 => kk _ _ _ _ _ ⟨hl, m_Pic.upL hsh ?_ ?_, hS1, hc0, hs0, hz⟩)
    · show va_P D vwCl ((m_ws f tc M).set a (f a, .inl (tc 2, n, .inr (.inl (m_up M.2.2.1 a i.toNatClampNeg x a))))) H1
      rw [m_up_eq]; exact hP1
    · show va_D _ ((m_ws f tc M).set a (f a, .inl (tc 2, n, .inr (.inl (m_up M.2.2.1 a i.toNatClampNeg x a)))))
      rw [m_up_eq]; exact hD1
  case aastore =>
    simp only [m_step] at h
    obtain ⟨v, r, e9, h9⟩ := m_r1_s h
    clear h
    subst e9
    obtain ⟨i, r2, e9, h8⟩ := m_i1_s h9
    clear h9
    subst e9
    obtain ⟨ad, q, e9, h7⟩ := m_r1_s h8
    clear h8
    subst e9
    obtain ⟨n, hsh, hin, h6⟩ := m_arr_s h7
    obtain ⟨n2, hsv, -, h5⟩ := m_obj_s h6
    split at h5
    · rename_i ho
      cases h5
      have hw := m_ws_at (f := f) (tc := tc) hsh
      have hv := m_ws_at (f := f) (tc := tc) hsv
      have eq : (fun j => (m_up M.2.1 ad i.toNatClampNeg (some v) ad j).map f) = va_up (fun j => (M.2.1 ad j).map f) i.toNatClampNeg (some (f v)) := by
        funext j
        rw [m_up_eq]
        unfold va_up
        by_cases hj : j = i.toNatClampNeg
        · simp [hj]
        · simp [hj]
      rcases ho with ⟨rfl, rfl⟩ | ⟨rfl, rfl⟩
      · refine va_astq (r := (RX6, TX6, 9)) hx hb hK hP.1 hP.2 hS ad 3 v 6 hw rfl hv rfl hin hd (fun H1 locs1 hP1 hD1 hS1 => kk _ _ _ _ _ ⟨hl, m_Pic.upR hsh ?_ ?_, hS1, hc0, hs0, hz⟩)
        · show va_P D vwCl ((m_ws f tc M).set ad (f ad, .inl (tc 3, n, .inr (.inr (.inr (.inr (fun j => (m_up M.2.1 ad i.toNatClampNeg (some v) ad j).map f))))))) H1
          rw [eq]; exact hP1
        · show va_D _ ((m_ws f tc M).set ad (f ad, .inl (tc 3, n, .inr (.inr (.inr (.inr (fun j => (m_up M.2.1 ad i.toNatClampNeg (some v) ad j).map f)))))))
          rw [eq]; exact hD1
      · refine va_astq (r := (RX4, TX4, 2)) hx hb hK hP.1 hP.2 hS ad 4 v 4 hw rfl hv rfl hin hd (fun H1 locs1 hP1 hD1 hS1 => kk _ _ _ _ _ ⟨hl, m_Pic.upR hsh ?_ ?_, hS1, hc0, hs0, hz⟩)
        · show va_P D vwCl ((m_ws f tc M).set ad (f ad, .inl (tc 4, n, .inr (.inr (.inr (.inr (fun j => (m_up M.2.1 ad i.toNatClampNeg (some v) ad j).map f))))))) H1
          rw [eq]; exact hP1
        · show va_D _ ((m_ws f tc M).set ad (f ad, .inl (tc 4, n, .inr (.inr (.inr (.inr (fun j => (m_up M.2.1 ad i.toNatClampNeg (some v) ad j).map f)))))))
          rw [eq]; exact hD1
    · cases h5
end SimB
end
section
/-! the classes' facts, class by class (written by program) -/
def mw (w : Cond) : Bool := decide (w ∈ lw_tbl) && goodWord w
def mwi (i : Nat) (w : Cond) : Bool := decide (lw_tbl[i]? = some w) && goodWord w
theorem mwi_in {i : Nat} {w : Cond} (h : mwi i w = true) : w ∈ gw := by
  unfold mwi at h
  simp only [Bool.and_eq_true, decide_eq_true_eq] at h
  exact gw_in (List.mem_of_getElem? h.1) h.2
theorem mw_in {w : Cond} (h : mw w = true) : w ∈ gw := by
  unfold mw at h
  simp only [Bool.and_eq_true, decide_eq_true_eq] at h
  exact gw_in h.1 h.2
/-- words that are kept, but not by the same law -/
def m_ex (w : Cond) : Bool := match w with
  | .castable _ _ => true
  | .declares _ => true
  | .methodLinkNest _ _ _ _ => true
  | .arrayOver (.object _) => true
  | _ => false
def xw : List Cond := lw_tbl.filter m_ex
def mx (w : Cond) : Bool := decide (w ∈ lw_tbl) && m_ex w
theorem mx_in {w : Cond} (h : mx w = true) : w ∈ xw := by
  unfold mx at h
  simp only [Bool.and_eq_true, decide_eq_true_eq] at h
  exact List.mem_filter.mpr h
def m_rty : FieldType → Bool
  | .object _ => true
  | .array _ => true
  | _ => false
/-- what is known of a class of the world -/
def m_CF (q : vw_C) : Prop := (∀ w ∈ u_ws q.1 q.2.1 q.2.2, w ∈ gw) ∧ (.instantiable q.1 q.2.2 ∈ gw ∧ .initialized q.1 ∈ gw) ∧ (∀ a, a < q.2.2 → ∀ b, b < q.2.2 → a ≠ b → (q.2.1 a).2.1 ≠ (q.2.1 b).2.1) ∧ ∃ ty : Nat → FieldType, (∀ k, k < q.2.2 → parseFieldDescriptor (q.2.1 k).2.2.1 = some (ty k)) ∧ ∀ k, k < q.2.2 → (ty k = .int ∧ (q.2.1 k).2.2.1 = "I") ∨ (m_rty (ty k) = true ∧ (q.2.1 k).2.2.1 ≠ "I")
set_option maxRecDepth 100000 in
theorem kw_0 : ∀ w ∈ u_ws RX0 TX0 9, mw w = true := by decide +kernel
set_option maxRecDepth 100000 in
theorem kt_0 : ∀ k, k < 9 → (tyX0 k = .int ∧ (TX0 k).2.2.1 = "I") ∨ (m_rty (tyX0 k) = true ∧ (TX0 k).2.2.1 ≠ "I") := by decide +kernel
set_option maxRecDepth 100000 in
theorem ki_0 : mw (.instantiable RX0 9) = true ∧ mw (.initialized RX0) = true := by decide +kernel
theorem kc_0 : m_CF (RX0, TX0, 9) := ⟨fun w h => mw_in (kw_0 w h), ⟨mw_in ki_0.1, mw_in ki_0.2⟩, nmX0, tyX0, tyX0_ok, kt_0⟩
set_option maxRecDepth 100000 in
theorem kw_1 : ∀ w ∈ u_ws RX1 TX1 2, mw w = true := by decide +kernel
set_option maxRecDepth 100000 in
theorem kt_1 : ∀ k, k < 2 → (tyX1 k = .int ∧ (TX1 k).2.2.1 = "I") ∨ (m_rty (tyX1 k) = true ∧ (TX1 k).2.2.1 ≠ "I") := by decide +kernel
set_option maxRecDepth 100000 in
theorem ki_1 : mw (.instantiable RX1 2) = true ∧ mw (.initialized RX1) = true := by decide +kernel
theorem kc_1 : m_CF (RX1, TX1, 2) := ⟨fun w h => mw_in (kw_1 w h), ⟨mw_in ki_1.1, mw_in ki_1.2⟩, nmX1, tyX1, tyX1_ok, kt_1⟩
set_option maxRecDepth 100000 in
theorem kw_2 : ∀ w ∈ u_ws RX2 TX2 3, mw w = true := by decide +kernel
set_option maxRecDepth 100000 in
theorem kt_2 : ∀ k, k < 3 → (tyX2 k = .int ∧ (TX2 k).2.2.1 = "I") ∨ (m_rty (tyX2 k) = true ∧ (TX2 k).2.2.1 ≠ "I") := by decide +kernel
set_option maxRecDepth 100000 in
theorem ki_2 : mw (.instantiable RX2 3) = true ∧ mw (.initialized RX2) = true := by decide +kernel
theorem kc_2 : m_CF (RX2, TX2, 3) := ⟨fun w h => mw_in (kw_2 w h), ⟨mw_in ki_2.1, mw_in ki_2.2⟩, nmX2, tyX2, tyX2_ok, kt_2⟩
set_option maxRecDepth 100000 in
theorem kw_3 : ∀ w ∈ u_ws RX3 TX3 4, mw w = true := by decide +kernel
set_option maxRecDepth 100000 in
theorem kt_3 : ∀ k, k < 4 → (tyX3 k = .int ∧ (TX3 k).2.2.1 = "I") ∨ (m_rty (tyX3 k) = true ∧ (TX3 k).2.2.1 ≠ "I") := by decide +kernel
set_option maxRecDepth 100000 in
theorem ki_3 : mw (.instantiable RX3 4) = true ∧ mw (.initialized RX3) = true := by decide +kernel
theorem kc_3 : m_CF (RX3, TX3, 4) := ⟨fun w h => mw_in (kw_3 w h), ⟨mw_in ki_3.1, mw_in ki_3.2⟩, nmX3, tyX3, tyX3_ok, kt_3⟩
set_option maxRecDepth 100000 in
theorem kw_4 : ∀ w ∈ u_ws RX4 TX4 2, mw w = true := by decide +kernel
set_option maxRecDepth 100000 in
theorem kt_4 : ∀ k, k < 2 → (tyX4 k = .int ∧ (TX4 k).2.2.1 = "I") ∨ (m_rty (tyX4 k) = true ∧ (TX4 k).2.2.1 ≠ "I") := by decide +kernel
set_option maxRecDepth 100000 in
theorem ki_4 : mw (.instantiable RX4 2) = true ∧ mw (.initialized RX4) = true := by decide +kernel
theorem kc_4 : m_CF (RX4, TX4, 2) := ⟨fun w h => mw_in (kw_4 w h), ⟨mw_in ki_4.1, mw_in ki_4.2⟩, nmX4, tyX4, tyX4_ok, kt_4⟩
set_option maxRecDepth 100000 in
theorem kw_5 : ∀ w ∈ u_ws RX5 TX5 1, mw w = true := by decide +kernel
set_option maxRecDepth 100000 in
theorem kt_5 : ∀ k, k < 1 → (tyX5 k = .int ∧ (TX5 k).2.2.1 = "I") ∨ (m_rty (tyX5 k) = true ∧ (TX5 k).2.2.1 ≠ "I") := by decide +kernel
set_option maxRecDepth 100000 in
theorem ki_5 : mw (.instantiable RX5 1) = true ∧ mw (.initialized RX5) = true := by decide +kernel
theorem kc_5 : m_CF (RX5, TX5, 1) := ⟨fun w h => mw_in (kw_5 w h), ⟨mw_in ki_5.1, mw_in ki_5.2⟩, nmX5, tyX5, tyX5_ok, kt_5⟩
set_option maxRecDepth 100000 in
theorem kw_6 : ∀ w ∈ u_ws RX6 TX6 9, mw w = true := by decide +kernel
set_option maxRecDepth 100000 in
theorem kt_6 : ∀ k, k < 9 → (tyX6 k = .int ∧ (TX6 k).2.2.1 = "I") ∨ (m_rty (tyX6 k) = true ∧ (TX6 k).2.2.1 ≠ "I") := by decide +kernel
set_option maxRecDepth 100000 in
theorem ki_6 : mw (.instantiable RX6 9) = true ∧ mw (.initialized RX6) = true := by decide +kernel
theorem kc_6 : m_CF (RX6, TX6, 9) := ⟨fun w h => mw_in (kw_6 w h), ⟨mw_in ki_6.1, mw_in ki_6.2⟩, nmX6, tyX6, tyX6_ok, kt_6⟩
set_option maxRecDepth 100000 in
theorem kw_7 : ∀ w ∈ u_ws RX7 TX7 8, mw w = true := by decide +kernel
set_option maxRecDepth 100000 in
theorem kt_7 : ∀ k, k < 8 → (tyX7 k = .int ∧ (TX7 k).2.2.1 = "I") ∨ (m_rty (tyX7 k) = true ∧ (TX7 k).2.2.1 ≠ "I") := by decide +kernel
set_option maxRecDepth 100000 in
theorem ki_7 : mw (.instantiable RX7 8) = true ∧ mw (.initialized RX7) = true := by decide +kernel
theorem kc_7 : m_CF (RX7, TX7, 8) := ⟨fun w h => mw_in (kw_7 w h), ⟨mw_in ki_7.1, mw_in ki_7.2⟩, nmX7, tyX7, tyX7_ok, kt_7⟩
set_option maxRecDepth 100000 in
theorem kw_8 : ∀ w ∈ u_ws RX8 TX8 8, mw w = true := by decide +kernel
set_option maxRecDepth 100000 in
theorem kt_8 : ∀ k, k < 8 → (tyX8 k = .int ∧ (TX8 k).2.2.1 = "I") ∨ (m_rty (tyX8 k) = true ∧ (TX8 k).2.2.1 ≠ "I") := by decide +kernel
set_option maxRecDepth 100000 in
theorem ki_8 : mw (.instantiable RX8 8) = true ∧ mw (.initialized RX8) = true := by decide +kernel
theorem kc_8 : m_CF (RX8, TX8, 8) := ⟨fun w h => mw_in (kw_8 w h), ⟨mw_in ki_8.1, mw_in ki_8.2⟩, nmX8, tyX8, tyX8_ok, kt_8⟩
set_option maxRecDepth 100000 in
theorem kw_9 : ∀ w ∈ u_ws RX9 TX9 12, mw w = true := by decide +kernel
set_option maxRecDepth 100000 in
theorem kt_9 : ∀ k, k < 12 → (tyX9 k = .int ∧ (TX9 k).2.2.1 = "I") ∨ (m_rty (tyX9 k) = true ∧ (TX9 k).2.2.1 ≠ "I") := by decide +kernel
set_option maxRecDepth 100000 in
theorem ki_9 : mw (.instantiable RX9 12) = true ∧ mw (.initialized RX9) = true := by decide +kernel
theorem kc_9 : m_CF (RX9, TX9, 12) := ⟨fun w h => mw_in (kw_9 w h), ⟨mw_in ki_9.1, mw_in ki_9.2⟩, nmX9, tyX9, tyX9_ok, kt_9⟩
set_option maxRecDepth 100000 in
theorem kw_10 : ∀ w ∈ u_ws RX10 TX10 3, mw w = true := by decide +kernel
set_option maxRecDepth 100000 in
theorem kt_10 : ∀ k, k < 3 → (tyX10 k = .int ∧ (TX10 k).2.2.1 = "I") ∨ (m_rty (tyX10 k) = true ∧ (TX10 k).2.2.1 ≠ "I") := by decide +kernel
set_option maxRecDepth 100000 in
theorem ki_10 : mw (.instantiable RX10 3) = true ∧ mw (.initialized RX10) = true := by decide +kernel
theorem kc_10 : m_CF (RX10, TX10, 3) := ⟨fun w h => mw_in (kw_10 w h), ⟨mw_in ki_10.1, mw_in ki_10.2⟩, nmX10, tyX10, tyX10_ok, kt_10⟩
set_option maxRecDepth 100000 in
theorem kw_11 : ∀ w ∈ u_ws RX11 TX11 19, mw w = true := by decide +kernel
set_option maxRecDepth 100000 in
theorem kt_11 : ∀ k, k < 19 → (tyX11 k = .int ∧ (TX11 k).2.2.1 = "I") ∨ (m_rty (tyX11 k) = true ∧ (TX11 k).2.2.1 ≠ "I") := by decide +kernel
set_option maxRecDepth 100000 in
theorem ki_11 : mw (.instantiable RX11 19) = true ∧ mw (.initialized RX11) = true := by decide +kernel
theorem kc_11 : m_CF (RX11, TX11, 19) := ⟨fun w h => mw_in (kw_11 w h), ⟨mw_in ki_11.1, mw_in ki_11.2⟩, nmX11, tyX11, tyX11_ok, kt_11⟩
set_option maxRecDepth 100000 in
theorem kw_12 : ∀ w ∈ u_ws RX12 TX12 60, mw w = true := by decide +kernel
set_option maxRecDepth 100000 in
theorem kt_12 : ∀ k, k < 60 → (tyX12 k = .int ∧ (TX12 k).2.2.1 = "I") ∨ (m_rty (tyX12 k) = true ∧ (TX12 k).2.2.1 ≠ "I") := by decide +kernel
set_option maxRecDepth 100000 in
theorem ki_12 : mw (.instantiable RX12 60) = true ∧ mw (.initialized RX12) = true := by decide +kernel
theorem kc_12 : m_CF (RX12, TX12, 60) := ⟨fun w h => mw_in (kw_12 w h), ⟨mw_in ki_12.1, mw_in ki_12.2⟩, nmX12, tyX12, tyX12_ok, kt_12⟩
theorem m_cls {ci : Nat} {q : vw_C} (h : vwCl[ci]? = some q) : m_CF q := by
  match ci, h with
  | 0, h => cases h; exact kc_0
  | 1, h => cases h; exact kc_1
  | 2, h => cases h; exact kc_2
  | 3, h => cases h; exact kc_3
  | 4, h => cases h; exact kc_4
  | 5, h => cases h; exact kc_5
  | 6, h => cases h; exact kc_6
  | 7, h => cases h; exact kc_7
  | 8, h => cases h; exact kc_8
  | 9, h => cases h; exact kc_9
  | 10, h => cases h; exact kc_10
  | 11, h => cases h; exact kc_11
  | 12, h => cases h; exact kc_12
  | n + 13, h => simp [vwCl] at h
end
section
/-! fields, new cells, constants, the JDK's small members -/
def m_isC (i : Instr) : Bool := match i with
  | .getfield _ | .putfield _ | .new _ | .newarray _ | .anewarray _ | .ldc2_w _ => true
  | _ => false
/-- what must stand in the tables for an instruction (own: the method's class, nm: its name) -/
def m_okC (own nm : String) (op : mOp) : Bool := match op.1 with
  | .getfield i => match vwCl[op.2.2.1]? with
    | some q => decide (op.2.2.2 / 2 < q.2.2) && mwi op.2.1 (.fieldLink own i q.1 (q.2.1 (op.2.2.2 / 2)).2.1 (q.2.1 (op.2.2.2 / 2)).2.2.1) && decide ((q.2.1 (op.2.2.2 / 2)).1 = q.1) && decide (m_isI op.2.2.1 (op.2.2.2 / 2) = decide (op.2.2.2 % 2 = 0))
    | none => false
  | .putfield i => match vwCl[op.2.2.1]? with
    | some q => decide (op.2.2.2 / 2 < q.2.2) && mwi op.2.1 (.fieldLink own i q.1 (q.2.1 (op.2.2.2 / 2)).2.1 (q.2.1 (op.2.2.2 / 2)).2.2.1) && decide ((q.2.1 (op.2.2.2 / 2)).1 = q.1) && decide (m_isI op.2.2.1 (op.2.2.2 / 2) = decide (op.2.2.2 % 2 = 0)) && (!(q.2.1 (op.2.2.2 / 2)).2.2.2 || decide (nm = "<init>" ∧ own = q.1))
    | none => false
  | .new i => match vwCl[op.2.2.1]? with
    | some q => decide (op.2.2.2 = q.2.2) && mwi op.2.1 (.classLink own i q.1)
    | none => false
  | .newarray t => mwi op.2.1 (.arrayClass (newarray.typeOf t))
  | .anewarray i => if op.2.2.1 = 3 then mw (.classLink own i "DarnEggs$State") && mx (.arrayOver (.object "DarnEggs$State")) else if op.2.2.1 = 4 then mw (.classLink own i "DarnEggs$Past") && mx (.arrayOver (.object "DarnEggs$Past")) else false
  | .ldc2_w i => mwi op.2.1 (.constantLong own i (Int64.ofNat op.2.2.1))
  | _ => false
theorem m_fs_set {f : Nat → Nat} {M M' : mM} {ci n a k : Nat} {v : Value} (hk : k < n) (h1 : m_fv f M' ci a k = v) (h2 : ∀ j, j ≠ k → m_fv f M' ci a j = m_fv f M ci a j) : (List.range n).map (m_fv f M' ci a) = ((List.range n).map (m_fv f M ci a)).set k v := by
  apply List.ext_getElem?
  intro j
  rw [List.getElem?_set]
  by_cases hj : k = j
  · subst hj
    simp [hk, h1]
  · rw [if_neg hj]
    by_cases hl : j < n
    · simp [hl, h2 j (fun q => hj q.symm)]
    · simp [hl]
section SimC
variable {p : Program} {l : Launch} {e : Env} {R : Room} {s : State} {m : MethodId} {args : Array Value} {below : List Frame} {meth : Method} {c : Code} {H : Heap} {locs : List Loc} {cells slots : Nat} {Q : State → Prop}
variable {D : va_G} {f : Nat → Nat} {tc : Nat → ClassId} {base nL c0 s0 : Nat} {cc : ByteArray} {tx : List (List Int32)} {X : Nat × (Nat → Int32)} {pc : Nat} {L : mL} {st : List Value} {M : mM} {ls : Array Slot} {c' : mC}
theorem W.sized {g : JFrame} (k : H.size ≤ s.heap.size + cells → W p l e R s m args below meth c H locs cells slots Q g) : W p l e R s m args below meth c H locs cells slots Q g := fun T hT X => k (by rw [← hT]; exact X.heapSize) T hT X
/-- where the next cell will lie -/
theorem m_size (hP : m_Pic D f tc base M H) (hS : va_S (fun q => base ≤ q) s.heap H locs) (hc0 : cells + c0 = m_ncell M) (hz : M.2.2.2.2 = 0 → s.heap.size ≤ base + c0) (hx0 : M.2.2.2.2 = 0) (hl : M.2.2.2.1.length < 1000) (hbs : base ≤ s.heap.size) (hf : ∀ a, a < m_scr → f a = base + a) (hu : H.size ≤ s.heap.size + cells) : H.size = base + M.2.2.2.1.length := by
  have h1 := hz hx0
  have h2 := hS.1
  unfold m_ncell at hc0
  rw [hx0] at hc0
  rcases Nat.eq_zero_or_pos M.2.2.2.1.length with h0 | h0
  · omega
  · obtain ⟨sh, hsh⟩ : ∃ sh, M.2.2.2.1[M.2.2.2.1.length - 1]? = some sh := ⟨_, List.getElem?_eq_getElem (by omega)⟩
    have h3 : f (M.2.2.2.1.length - 1) < H.size := (hP.1 _ _ (m_ws_at hsh)).lt
    rw [hf _ (by unfold m_scr; omega)] at h3
    omega
theorem m_nslot_mk {kd n : Nat} : m_nslot (m_mk M kd n) = m_nslot M + n := by
  unfold m_nslot m_mk
  simp only [List.map_append, List.sum_append, List.map_cons, List.map_nil, List.sum_cons, List.sum_nil]
  omega
theorem m_ncell_mk {kd n : Nat} : m_ncell (m_mk M kd n) = m_ncell M + 1 := by
  unfold m_ncell m_mk
  simp only [List.length_append, List.length_cons, List.length_nil]
  omega
/-- behind a new cell -/
theorem m_Pic.mk {kd n h : Nat} {H1 : Heap} (hP : m_Pic D f tc base M H) (hh : H.size = h) (hb : base ≤ h) (hfl : f M.2.2.2.1.length = h) (ho : ∀ q, q < h → H1[q]? = H[q]?) (hn : va_at D vwCl (h, m_cell f tc (m_mk M kd n) M.2.2.2.1.length (kd, n)) H1) : m_Pic D f tc base (m_mk M kd n) H1 := by
  unfold m_Pic
  rw [m_ws_new, hfl]
  refine ⟨(hP.1.kept (fun k q hk => ho _ (by rw [← hh]; exact (hP.1 k q hk).lt))).app (fun k q hk => ?_), hP.2.push hP.1 hh.symm hb⟩
  have hz : k < 1 := (List.getElem?_eq_some_iff.mp hk).1
  rw [show k = 0 by omega] at hk
  cases hk
  exact hn
set_option maxHeartbeats 4000000 in
theorem m_simC {i : Instr} {len a b : Nat} {own : String} (hx : p.tables.exec = Jvm.exec) (hb : c.code = cc) (hd : decode cc pc = .ok (i, m_ilen (i, len, a, b))) (h : m_step tx X (i, len, a, b) pc L st M = some c')
    (hts : ∀ w ∈ gw, w.before args s = true) (hxs : ∀ w ∈ xw, w.before args s = true) (hown : s.vm.findClass own = some m.cls) (hok : m_okC own meth.name (i, len, a, b) = true) (hK : va_K D vwCl (m_tys tc) s) (hf : ∀ a, a < m_scr → f a = base + a) (hbs : base ≤ s.heap.size)
    (hr : m_ncell c'.2.2.2 ≤ R.cells + c0 ∧ m_nslot c'.2.2.2 ≤ R.slots + s0)
    (hA : m_At D f tc base nL c0 s0 s.heap L M ls H locs cells slots) (kk : m_K p l e R s m args below meth c Q D f tc base nL c0 s0 s.heap c')
    (hi : m_isC i = true) : W p l e R s m args below meth c H locs cells slots Q (F0 m pc ls (st.map (m_rho f))) := by
  obtain ⟨hl, hP, hS, hc0, hs0, hz⟩ := hA
  cases i <;> try (simp [m_isC] at hi; done)
  case ldc2_w i =>
    cases h
    exact lv_ldc2 hx hb hown (hts _ (mwi_in hok)) hd (kk _ _ _ _ _ ⟨hl, hP, hS, hc0, hs0, hz⟩)
  case getfield i =>
    simp only [m_step] at h
    obtain ⟨ad, r, e9, h9⟩ := m_r1_s h
    clear h
    subst e9
    obtain ⟨n, hsh, hkn, h8⟩ := m_obj_s h9
    simp only [m_okC] at hok
    split at hok
    · rename_i q hq
      simp only [Bool.and_eq_true, decide_eq_true_eq] at hok
      obtain ⟨⟨⟨hk, hlk⟩, hdc⟩, hI⟩ := hok
      obtain ⟨C, T, N⟩ := q
      have hw : (m_ws f tc M)[ad]? = some (f ad, .inr (a, (List.range n).map (m_fv f M a ad))) := m_ws_at hsh
      have hv : ((List.range n).map (m_fv f M a ad))[b / 2]? = some (m_fv f M a ad (b / 2)) := by simp [hkn]
      refine va_get hx hb hts (m_cls hq).1 hown hK hP.1 ad hw hq (b / 2) hk (hts _ (mwi_in hlk)) (fun x hx => by rw [show (T (b / 2)).1 = C from hdc] at hx; exact hx) hv hd ?_
      split at h8
      · rename_i hb2
        cases h8
        have K := kk _ _ _ _ _ ⟨hl, hP, hS, hc0, hs0, hz⟩
        have : m_fv f M a ad (b / 2) = .int (M.1 ad (b / 2)) := by unfold m_fv; rw [hI, if_pos (by simpa using hb2)]
        rw [this]
        exact K
      · rename_i hb2
        cases h8
        have K := kk _ _ _ _ _ ⟨hl, hP, hS, hc0, hs0, hz⟩
        have : m_fv f M a ad (b / 2) = m_rho f (va_rf (M.2.1 ad (b / 2))) := by unfold m_fv; rw [hI, if_neg (by simpa using hb2), m_rho_rf]
        rw [this]
        exact K
    · cases hok
  case putfield i =>
    simp only [m_okC] at hok
    split at hok
    · rename_i q hq
      simp only [Bool.and_eq_true, decide_eq_true_eq] at hok
      obtain ⟨⟨⟨⟨hk, hlk⟩, hdc⟩, hI⟩, hfin⟩ := hok
      obtain ⟨C, T, N⟩ := q
      obtain ⟨hin, ⟨hins, hini⟩, hnm, ty, hty, hkt⟩ := m_cls hq
      simp only [m_step] at h
      split at h
      · rename_i hb2
        obtain ⟨x, r, e9, h9⟩ := m_i1_s h
        clear h
        subst e9
        obtain ⟨ad, r2, e9, h8⟩ := m_r1_s h9
        clear h9
        subst e9
        obtain ⟨n, hsh, hkn, h7⟩ := m_obj_s h8
        cases h7
        have hw : (m_ws f tc M)[ad]? = some (f ad, .inr (a, (List.range n).map (m_fv f M a ad))) := m_ws_at hsh
        have hI2 : m_isI a (b / 2) = true := by rw [hI]; simpa using hb2
        have hti : ty (b / 2) = .int := by
          rcases hkt _ hk with h | h
          · exact h.1
          · refine absurd ?_ h.2
            unfold m_isI at hI2
            rw [hq] at hI2
            simpa using hI2
        have hfs := m_fs_set (f := f) (M := M) (M' := (m_up M.1 ad (b / 2) x, M.2)) (ci := a) (n := n) (a := ad) (k := b / 2) (v := .int x) hkn (by unfold m_fv; rw [hI2, if_pos rfl]; simp [m_up]) (fun j hj => by unfold m_fv; simp [m_up, hj])
        have hnar : narrow (ty (b / 2)) (.int x) = .int x := by rw [hti]; rfl
        have hfit : fits (ty (b / 2)) (.int x) = true := by rw [hti]; rfl
        cases hfb : (T (b / 2)).2.2.2 with
        | false =>
          refine va_put hx hb hts hin ty hty hnm hown hK hP.1 hP.2 hS ad hw hq (b / 2) hk (hts _ (mwi_in hlk)) (fun x hx => by rw [show (T (b / 2)).1 = C from hdc] at hx; exact hx) hfb (hty _ hk) hnar hfit (by simp [hkn]) hd (fun H1 locs1 hP1 hD1 hS1 => kk _ _ _ _ _ ⟨hl, m_Pic.upI hsh ?_ ?_, hS1, hc0, hs0, hz⟩)
          · show va_P D vwCl ((m_ws f tc M).set ad (f ad, .inr (a, (List.range n).map (m_fv f (m_up M.1 ad (b / 2) x, M.2) a ad)))) H1
            rw [hfs]; exact hP1
          · show va_D _ ((m_ws f tc M).set ad (f ad, .inr (a, (List.range n).map (m_fv f (m_up M.1 ad (b / 2) x, M.2) a ad))))
            rw [hfs]; exact hD1
        | true =>
          rw [show (T (b / 2)).2.2.2 = true from hfb] at hfin
          simp only [Bool.not_true, Bool.false_or, decide_eq_true_eq] at hfin
          refine va_putF hx hb hts hin ty hty hnm hown hK hP.1 hP.2 hS ad hw hq (b / 2) hk (hts _ (mwi_in hlk)) (fun x hx => by rw [show (T (b / 2)).1 = C from hdc] at hx; exact hx) hfb hfin.1 (by rw [show (T (b / 2)).1 = C from hdc]; exact hfin.2.symm) (hty _ hk) hnar hfit (by simp [hkn]) hd (fun H1 locs1 hP1 hD1 hS1 => kk _ _ _ _ _ ⟨hl, m_Pic.upI hsh ?_ ?_, hS1, hc0, hs0, hz⟩)
          · show va_P D vwCl ((m_ws f tc M).set ad (f ad, .inr (a, (List.range n).map (m_fv f (m_up M.1 ad (b / 2) x, M.2) a ad)))) H1
            rw [hfs]; exact hP1
          · show va_D _ ((m_ws f tc M).set ad (f ad, .inr (a, (List.range n).map (m_fv f (m_up M.1 ad (b / 2) x, M.2) a ad))))
            rw [hfs]; exact hD1
      · rename_i hb2
        obtain ⟨v, r, e9, h9⟩ := m_r1_s h
        clear h
        subst e9
        obtain ⟨ad, r2, e9, h8⟩ := m_r1_s h9
        clear h9
        subst e9
        obtain ⟨n, hsh, hkn, h7⟩ := m_obj_s h8
        split at h7
        · cases h7
          have hw : (m_ws f tc M)[ad]? = some (f ad, .inr (a, (List.range n).map (m_fv f M a ad))) := m_ws_at hsh
          have hI2 : m_isI a (b / 2) = false := by rw [hI]; simpa using hb2
          have hti : m_rty (ty (b / 2)) = true := by
            rcases hkt _ hk with h | h
            · exfalso
              unfold m_isI at hI2
              rw [hq] at hI2
              simp at hI2
              exact hI2 h.2
            · exact h.1
          have hfs := m_fs_set (f := f) (M := M) (M' := (M.1, m_up M.2.1 ad (b / 2) (some v), M.2.2)) (ci := a) (n := n) (a := ad) (k := b / 2) (v := .ref (f v)) hkn (by unfold m_fv; rw [hI2]; simp [m_up, va_rf]) (fun j hj => by unfold m_fv; simp [m_up, hj])
          have hnar : narrow (ty (b / 2)) (.ref (f v)) = .ref (f v) := by cases ht : ty (b / 2) <;> rfl
          have hfit : fits (ty (b / 2)) (.ref (f v)) = true := by cases ht : ty (b / 2) <;> rw [ht] at hti <;> first | rfl | cases hti
          cases hfb : (T (b / 2)).2.2.2 with
          | false =>
            refine va_put hx hb hts hin ty hty hnm hown hK hP.1 hP.2 hS ad hw hq (b / 2) hk (hts _ (mwi_in hlk)) (fun x hx => by rw [show (T (b / 2)).1 = C from hdc] at hx; exact hx) hfb (hty _ hk) hnar hfit (by simp [hkn]) hd (fun H1 locs1 hP1 hD1 hS1 => kk _ _ _ _ _ ⟨hl, m_Pic.upR hsh ?_ ?_, hS1, hc0, hs0, hz⟩)
            · show va_P D vwCl ((m_ws f tc M).set ad (f ad, .inr (a, (List.range n).map (m_fv f (M.1, m_up M.2.1 ad (b / 2) (some v), M.2.2) a ad)))) H1
              rw [hfs]; exact hP1
            · show va_D _ ((m_ws f tc M).set ad (f ad, .inr (a, (List.range n).map (m_fv f (M.1, m_up M.2.1 ad (b / 2) (some v), M.2.2) a ad))))
              rw [hfs]; exact hD1
          | true =>
            rw [show (T (b / 2)).2.2.2 = true from hfb] at hfin
            simp only [Bool.not_true, Bool.false_or, decide_eq_true_eq] at hfin
            refine va_putF hx hb hts hin ty hty hnm hown hK hP.1 hP.2 hS ad hw hq (b / 2) hk (hts _ (mwi_in hlk)) (fun x hx => by rw [show (T (b / 2)).1 = C from hdc] at hx; exact hx) hfb hfin.1 (by rw [show (T (b / 2)).1 = C from hdc]; exact hfin.2.symm) (hty _ hk) hnar hfit (by simp [hkn]) hd (fun H1 locs1 hP1 hD1 hS1 => kk _ _ _ _ _ ⟨hl, m_Pic.upR hsh ?_ ?_, hS1, hc0, hs0, hz⟩)
            · show va_P D vwCl ((m_ws f tc M).set ad (f ad, .inr (a, (List.range n).map (m_fv f (M.1, m_up M.2.1 ad (b / 2) (some v), M.2.2) a ad)))) H1
              rw [hfs]; exact hP1
            · show va_D _ ((m_ws f tc M).set ad (f ad, .inr (a, (List.range n).map (m_fv f (M.1, m_up M.2.1 ad (b / 2) (some v), M.2.2) a ad))))
              rw [hfs]; exact hD1
        · cases h7
    · cases hok
  case new i =>
    simp only [m_step, m_new] at h
    split at h
    · rename_i hn
      cases h
      simp only [m_okC] at hok
      split at hok
      · rename_i q hq
        simp only [Bool.and_eq_true, decide_eq_true_eq] at hok
        obtain ⟨hbN, hlk⟩ := hok
        obtain ⟨C, T, N⟩ := q
        obtain ⟨hin, ⟨hins, hini⟩, hnm, ty, hty, hkt⟩ := m_cls hq
        have hKn := hK.1 a _ hq
        dsimp only at hbN
        subst hbN
        rw [m_ncell_mk, m_nslot_mk] at hr
        refine W.sized fun hu => ?_
        have hS1 := hS.1
        have hsz := m_size hP hS hc0 hz hn.1 hn.2 hbs hf hu
        have hfl : f M.2.2.2.1.length = base + M.2.2.2.1.length := hf _ (by unfold m_scr; omega)
        refine W.newcK hx hb hown (hts _ (mwi_in hlk)) (hts _ hins) (hts _ hini) rfl hd (by omega) (by show slots + b ≤ R.slots; omega) hKn.2.1 hsz fun H1 kC hkC e1 z1 o1 => ?_
        have K := kk ls H1 locs (cells + 1) (slots + b) ⟨hl, hP.mk hsz (by omega) hfl o1 ?_, ⟨by omega, fun x h1 h2 => (o1 x (by omega)).trans (hS.2.1 x h1 h2), hS.2.2⟩, by rw [m_ncell_mk]; omega, by rw [m_nslot_mk]; omega, hz⟩
        · rw [show Value.ref (base + M.2.2.2.1.length) = m_rho f (.ref M.2.2.2.1.length) by show _ = Value.ref (f _); rw [hfl]]
          exact K
        · refine ⟨_, hq, (u_born ty hts hin hKn hkC e1 hty).to fun j hj => ?_⟩
          have e2 : vp_V ((List.range b).map (m_fv f (m_mk M (a + 5) b) a M.2.2.2.1.length)) j = m_fv f (m_mk M (a + 5) b) a M.2.2.2.1.length j := by
            unfold vp_V
            simp [List.getD, hj]
          show defaultValue (ty j) = vp_V ((List.range b).map (m_fv f (m_mk M (a + 5) b) a M.2.2.2.1.length)) j
          rw [e2]
          unfold m_fv m_mk
          simp only [m_row, if_true]
          rcases hkt j hj with h | h
          · have : m_isI a j = true := by unfold m_isI; rw [hq]; simpa using h.2
            rw [this, h.1]; rfl
          · have : m_isI a j = false := by unfold m_isI; rw [hq]; simpa using h.2
            rw [this]
            have h1 := h.1
            cases ht : ty j <;> rw [ht] at h1 <;> first | rfl | cases h1
      · cases hok
    · cases h
  case newarray t =>
    simp only [m_step] at h
    obtain ⟨n, r, e9, h9⟩ := m_i1_s h
    clear h
    subst e9
    split at h9
    · rename_i kd hkd
      split at h9
      · cases h9
      · rename_i hn
        simp only [m_new] at h9
        split at h9
        · rename_i hnx
          cases h9
          rw [m_ncell_mk, m_nslot_mk] at hr
          refine W.sized fun hu => ?_
          have hS1 := hS.1
          have hsz := m_size hP hS hc0 hz hnx.1 hnx.2 hbs hf hu
          have hfl : f M.2.2.2.1.length = base + M.2.2.2.1.length := hf _ (by unfold m_scr; omega)
          have harr := hts _ (mwi_in (show mwi len (.arrayClass (newarray.typeOf t)) = true from hok))
          refine va_newaK hx hb harr rfl hd rfl (fun q => hn (Or.inl q)) rfl ?_ (by omega) (by omega) hsz fun H1 cA e1 z1 o1 hAr hNm => ?_
          · have h2 : ¬ 100000 < n.toNatClampNeg := fun q => hn (Or.inr q)
            cases t <;> simp [m_akind] at hkd <;> simp [newarray.typeOf, componentBytes] <;> omega
          · have K := kk ls H1 locs (cells + 1) (slots + n.toNatClampNeg) ⟨hl, hP.mk hsz (by omega) hfl o1 ?_, ⟨by omega, fun x h1 h2 => (o1 x (by omega)).trans (hS.2.1 x h1 h2), hS.2.2⟩, by rw [m_ncell_mk]; omega, by rw [m_nslot_mk]; omega, hz⟩
            · rw [show Value.ref (base + M.2.2.2.1.length) = m_rho f (.ref M.2.2.2.1.length) by show _ = Value.ref (f _); rw [hfl]]
              exact K
            · cases t <;> simp only [m_akind, Option.some.injEq, reduceCtorEq] at hkd <;> subst hkd
              · have hc : cA = tc 1 := Option.some.inj (hNm.symm.trans (hK.2 1 _ rfl).2)
                subst hc
                show H1[base + M.2.2.2.1.length]? = some (vp_cell (tc 1) (n.toNatClampNeg, .inl ((m_mk M 1 n.toNatClampNeg).1 M.2.2.2.1.length)))
                rw [e1, show (m_mk M 1 n.toNatClampNeg).1 M.2.2.2.1.length = fun _ => 0 from m_row_eq]; rfl
              · have hc : cA = tc 0 := Option.some.inj (hNm.symm.trans (hK.2 0 _ rfl).2)
                subst hc
                show H1[base + M.2.2.2.1.length]? = some (vp_cell (tc 0) (n.toNatClampNeg, .inl ((m_mk M 0 n.toNatClampNeg).1 M.2.2.2.1.length)))
                rw [e1, show (m_mk M 0 n.toNatClampNeg).1 M.2.2.2.1.length = fun _ => 0 from m_row_eq]; rfl
              · have hc : cA = tc 2 := Option.some.inj (hNm.symm.trans (hK.2 2 _ rfl).2)
                subst hc
                show H1[base + M.2.2.2.1.length]? = some (vp_cell (tc 2) (n.toNatClampNeg, .inr (.inl ((m_mk M 2 n.toNatClampNeg).2.2.1 M.2.2.2.1.length))))
                rw [e1, show (m_mk M 2 n.toNatClampNeg).2.2.1 M.2.2.2.1.length = fun _ => 0 from m_row_eq]; rfl
        · cases h9
    · cases h9
  case anewarray i =>
    simp only [m_step] at h
    obtain ⟨n, r, e9, h9⟩ := m_i1_s h
    clear h
    subst e9
    split at h9
    · cases h9
    · rename_i hn
      simp only [m_new] at h9
      split at h9
      · rename_i hnx
        cases h9
        rw [m_ncell_mk, m_nslot_mk] at hr
        refine W.sized fun hu => ?_
        have hS1 := hS.1
        have hsz := m_size hP hS hc0 hz hnx.1 hnx.2 hbs hf hu
        have hfl : f M.2.2.2.1.length = base + M.2.2.2.1.length := hf _ (by unfold m_scr; omega)
        have h2 : ¬ 100000 < n.toNatClampNeg := fun q => hn (Or.inr (Or.inl q))
        have h3 : a = 3 ∨ a = 4 := Classical.byContradiction fun q => hn (Or.inr (Or.inr q))
        have hpu : ∀ (cl : ClassId) (q : Nat), q < base + M.2.2.2.1.length → (H.push { cls := cl, slots := Array.replicate n.toNatClampNeg .null, vm := .none })[q]? = H[q]? := fun cl q h => by rw [Array.getElem?_push, if_neg (by omega)]
        have hzz : ∀ cl : ClassId, (H.push ({ cls := cl, slots := Array.replicate n.toNatClampNeg .null, vm := .none } : Cell)).size = base + M.2.2.2.1.length + 1 := fun cl => by rw [Array.size_push, hsz]
        rcases h3 with rfl | rfl
        · simp only [m_okC, if_true, Bool.and_eq_true] at hok
          refine W.anew hx hb hown (hts _ (mw_in hok.1)) (hxs _ (mx_in hok.2)) rfl hd rfl (fun q => hn (Or.inl q)) (by omega) (by omega) (by omega) fun cA kA comp q1 q2 q3 q4 => ?_
          obtain ⟨kA', comp', -, -, -, hNm⟩ := (hK.2 3 _ rfl).2
          have hc : cA = tc 3 := Option.some.inj (q1.symm.trans hNm)
          subst hc
          have K := kk ls _ locs (cells + 1) (slots + n.toNatClampNeg) ⟨hl, hP.mk hsz (by omega) hfl (hpu (tc 3)) ?_, ⟨by rw [hzz]; omega, fun x h1 h2 => (hpu (tc 3) x (by omega)).trans (hS.2.1 x h1 h2), hS.2.2⟩, by rw [m_ncell_mk]; omega, by rw [m_nslot_mk]; omega, hz⟩
          · rw [show Value.ref H.size = m_rho f (.ref M.2.2.2.1.length) by show _ = Value.ref (f _); rw [hfl, hsz]]
            exact K
          · show (H.push _)[base + M.2.2.2.1.length]? = some (vp_cell (tc 3) (n.toNatClampNeg, .inr (.inr (.inr (.inr (fun k => ((m_mk M 3 n.toNatClampNeg).2.1 M.2.2.2.1.length k).map f))))))
            rw [show (m_mk M 3 n.toNatClampNeg).2.1 M.2.2.2.1.length = fun _ => none from m_row_eq, Array.getElem?_push, if_pos hsz.symm, arrV_new]; rfl
        · simp only [m_okC, if_neg (show ¬ (4 : Nat) = 3 by decide), if_true, Bool.and_eq_true] at hok
          refine W.anew hx hb hown (hts _ (mw_in hok.1)) (hxs _ (mx_in hok.2)) rfl hd rfl (fun q => hn (Or.inl q)) (by omega) (by omega) (by omega) fun cA kA comp q1 q2 q3 q4 => ?_
          obtain ⟨kA', comp', -, -, -, hNm⟩ := (hK.2 4 _ rfl).2
          have hc : cA = tc 4 := Option.some.inj (q1.symm.trans hNm)
          subst hc
          have K := kk ls _ locs (cells + 1) (slots + n.toNatClampNeg) ⟨hl, hP.mk hsz (by omega) hfl (hpu (tc 4)) ?_, ⟨by rw [hzz]; omega, fun x h1 h2 => (hpu (tc 4) x (by omega)).trans (hS.2.1 x h1 h2), hS.2.2⟩, by rw [m_ncell_mk]; omega, by rw [m_nslot_mk]; omega, hz⟩
          · rw [show Value.ref H.size = m_rho f (.ref M.2.2.2.1.length) by show _ = Value.ref (f _); rw [hfl, hsz]]
            exact K
          · show (H.push _)[base + M.2.2.2.1.length]? = some (vp_cell (tc 4) (n.toNatClampNeg, .inr (.inr (.inr (.inr (fun k => ((m_mk M 4 n.toNatClampNeg).2.1 M.2.2.2.1.length k).map f))))))
            rw [show (m_mk M 4 n.toNatClampNeg).2.1 M.2.2.2.1.length = fun _ => none from m_row_eq, Array.getElem?_push, if_pos hsz.symm, arrV_new]; rfl
      · cases h9
end SimC
end
section
/-! constants, Math, arraycopy, Object's constructor, the texts' members -/
def m_isD (i : Instr) : Bool := match i with
  | .ldc _ | .ldc_w _ | .invokestatic _ | .invokespecial _ | .invokevirtual _ => true
  | _ => false
/-- the text constants: class, entry, text -/
def m_okD (sx : List (String × Nat × String)) (own : String) (op : mOp) : Bool := match op.1 with
  | .ldc i => if op.2.2.2 = 0 then mwi op.2.1 (.constant own i (Int32.ofNat op.2.2.1)) else decide ((sx[op.2.2.1]?).map (fun q => (q.1, q.2.1)) = some (own, i))
  | .ldc_w i => if op.2.2.2 = 0 then mwi op.2.1 (.constant own i (Int32.ofNat op.2.2.1)) else decide ((sx[op.2.2.1]?).map (fun q => (q.1, q.2.1)) = some (own, i))
  | .invokestatic i => if op.2.2.1 = 1000 then mwi op.2.1 (.methodLink own i Lib.Math.max.name) else if op.2.2.1 = 1001 then mwi op.2.1 (.methodLink own i Lib.Math.min.name) else if op.2.2.1 = 1002 then mwi op.2.1 (.methodLink own i arraycopyName) else false
  | .invokespecial i => if op.2.2.1 = 1005 then mwi op.2.1 (.methodLink own i Lib.objectInit) else false
  | .invokevirtual i => if op.2.2.1 = 1003 then mwi op.2.1 (.methodLink own i yJ0_length_8abf5) else if op.2.2.1 = 1004 then mwi op.2.1 (.methodLink own i yJ0_charAt_5068e) else false
  | _ => false
set_option maxRecDepth 100000 in
theorem kd_1 : mw (.static Lib.Math.max.name) = true ∧ mw (.static Lib.Math.min.name) = true ∧ mw (.initialized "java/lang/Math") = true ∧ mw (.code Lib.Math.max.name Lib.Math.max.code 2 (some .int)) = true ∧ mw (.code Lib.Math.min.name Lib.Math.min.code 2 (some .int)) = true := by decide +kernel
set_option maxRecDepth 100000 in
theorem kd_2 : mw (.native arraycopyName) = true ∧ mw (.static arraycopyName) = true ∧ mw (.initialized "java/lang/System") = true := by decide +kernel
set_option maxRecDepth 100000 in
theorem kd_3 : mw (.instanceMethod Lib.objectInit) = true ∧ mw (.code Lib.objectInit ⟨#[0xb1]⟩ 1 none) = true := by decide +kernel
theorem m_cat2 (v : Value) : v.category ≤ 2 := by cases v <;> simp [Value.category]
theorem m_catsum (f : Nat → Nat) (r : List Value) (n : Nat) (h : r.length ≤ n) : ((r.map (m_rho f)).map fun v => v.category).sum ≤ 2 * n := by
  have : ∀ r : List Value, ((r.map (m_rho f)).map fun v => v.category).sum ≤ 2 * r.length := by
    intro r
    induction r with
    | nil => exact Nat.le_refl _
    | cons v r ih =>
      simp only [List.map_cons, List.sum_cons, List.length_cons]
      have := m_cat2 (m_rho f v)
      omega
  have := this r
  omega
section SimD
variable {p : Program} {l : Launch} {e : Env} {R : Room} {s : State} {m : MethodId} {args : Array Value} {below : List Frame} {meth : Method} {c : Code} {H : Heap} {locs : List Loc} {cells slots : Nat} {Q : State → Prop}
variable {D : va_G} {f : Nat → Nat} {tc : Nat → ClassId} {base nL c0 s0 : Nat} {cc : ByteArray} {tx : List (List Int32)} {X : Nat × (Nat → Int32)} {pc : Nat} {L : mL} {st : List Value} {M : mM} {ls : Array Slot} {c' : mC}
theorem va_ldcwS {rest : List Value} (hexec : p.tables.exec = Jvm.exec) (hb : c.code = cc) {own tx : String} {index q : Nat} (hown : s.vm.findClass own = some m.cls) (hZ : vk_R own index tx q s) (hdg : decode cc pc = .ok (.ldc_w index, 3))
    (k : W p l e R s m args below meth c H locs cells slots Q (F0 m (pc + 3) ls (.ref q :: rest))) : W p l e R s m args below meth c H locs cells slots Q (F0 m pc ls rest) := by
  intro T hT X
  obtain ⟨t, a1, b1⟩ := k T hT X
  exact ⟨t, X.ldcStringW hexec hown (text := tx) (a := q) hZ.1 hZ.2 (g := F0 m pc ls rest) rfl (by rw [hb]; exact hdg) t a1, b1⟩
/-- what the texts' members do -/
def m_TX (p : Program) (l : Launch) (e : Env) (R : Room) (s : State) (m : MethodId) (args : Array Value) (below : List Frame) (meth : Method) (c : Code) (cc : ByteArray) (own : String) (f : Nat → Nat) (base nL : Nat) (tx : List (List Int32)) : Prop :=
  ∀ (H : Heap) (locs : List Loc) (cells slots : Nat) (Q : State → Prop) (pc index i : Nat) (ls : Array Slot) (rest : List Value) (t : List Int32), tx[i]? = some t → va_S (fun q => base ≤ q) s.heap H locs → ls.size = nL → (rest.map fun v => v.category).sum ≤ 8 → cells ≤ R.cells → slots ≤ R.slots → decode cc pc = .ok (.invokevirtual index, 3) →
    (.methodLink own index yJ0_length_8abf5 ∈ gw → W p l e R s m args below meth c H locs cells slots Q (F0 m (pc + 3) ls (.int (nI t.length) :: rest)) → W p l e R s m args below meth c H locs cells slots Q (F0 m pc ls (.ref (f (m_scr + 1 + i)) :: rest))) ∧
    (.methodLink own index yJ0_charAt_5068e ∈ gw → ∀ (j : Int32) (x : Int32), ¬ j < 0 → t[j.toNatClampNeg]? = some x → W p l e R s m args below meth c H locs cells slots Q (F0 m (pc + 3) ls (.int x :: rest)) → W p l e R s m args below meth c H locs cells slots Q (F0 m pc ls (.int j :: .ref (f (m_scr + 1 + i)) :: rest)))
set_option maxHeartbeats 4000000 in
theorem m_simD {i : Instr} {len a b : Nat} {own : String} {sx : List (String × Nat × String)} (hx : p.tables.exec = Jvm.exec) (hb : c.code = cc) (hml : c.maxLocals = nL) (hd : decode cc pc = .ok (i, m_ilen (i, len, a, b))) (h : m_step tx X (i, len, a, b) pc L st M = some c')
    (hts : ∀ w ∈ gw, w.before args s = true) (hown : s.vm.findClass own = some m.cls) (hok : m_okD sx own (i, len, a, b) = true) (hK : va_K D vwCl (m_tys tc) s)
    (hsx : ∀ j q, sx[j]? = some q → vk_R q.1 q.2.1 q.2.2 (f (m_scr + 1 + j)) s) (hT : m_TX p l e R s m args below meth c cc own f base nL tx)
    (hr : m_ncell c'.2.2.2 ≤ R.cells + c0 ∧ m_nslot c'.2.2.2 ≤ R.slots + s0) (hR : 20 ≤ R.frames ∧ 300 ≤ R.locals)
    (hA : m_At D f tc base nL c0 s0 s.heap L M ls H locs cells slots) (kk : m_K p l e R s m args below meth c Q D f tc base nL c0 s0 s.heap c')
    (hi : m_isD i = true) : W p l e R s m args below meth c H locs cells slots Q (F0 m pc ls (st.map (m_rho f))) := by
  obtain ⟨hl, hP, hS, hc0, hs0, hz⟩ := hA
  have hsz : c.maxLocals = ls.size := by rw [hml]; exact hl.2.1.symm
  cases i <;> try (simp [m_isD] at hi; done)
  case ldc i =>
    simp only [m_step] at h
    simp only [m_okD] at hok
    split at h
    · rename_i hb2
      cases h
      rw [if_pos hb2] at hok
      exact lv_ldc hx hb hown (hts _ (mwi_in hok)) hd (kk _ _ _ _ _ ⟨hl, hP, hS, hc0, hs0, hz⟩)
    · rename_i hb2
      cases h
      rw [if_neg hb2] at hok
      simp only [decide_eq_true_eq, Option.map_eq_some_iff, Prod.mk.injEq] at hok
      obtain ⟨q, hq, rfl, rfl⟩ := hok
      exact va_ldcS hx hb hown (hsx _ _ hq) hd (kk _ _ _ _ _ ⟨hl, hP, hS, hc0, hs0, hz⟩)
  case ldc_w i =>
    simp only [m_step] at h
    simp only [m_okD] at hok
    split at h
    · rename_i hb2
      cases h
      rw [if_pos hb2] at hok
      exact lv_ldcw hx hb hown (hts _ (mwi_in hok)) hd (kk _ _ _ _ _ ⟨hl, hP, hS, hc0, hs0, hz⟩)
    · rename_i hb2
      cases h
      rw [if_neg hb2] at hok
      simp only [decide_eq_true_eq, Option.map_eq_some_iff, Prod.mk.injEq] at hok
      obtain ⟨q, hq, rfl, rfl⟩ := hok
      exact va_ldcwS hx hb hown (hsx _ _ hq) hd (kk _ _ _ _ _ ⟨hl, hP, hS, hc0, hs0, hz⟩)
  case invokestatic i =>
    simp only [m_step] at h
    simp only [m_okD] at hok
    split at h
    · rename_i ha
      rw [if_pos ha] at hok
      obtain ⟨x, y, r, e9, h9⟩ := m_i2_s h
      clear h
      subst e9
      split at h9
      · cases h9
      · rename_i hrl
        cases h9
        have hcs := m_catsum f r 8 (by omega)
        exact va_mmax hx hb hsz hown (hts _ (mwi_in hok)) (hts _ (mw_in kd_1.1)) (hts _ (mw_in kd_1.2.2.1)) (hts _ (mw_in kd_1.2.2.2.1)) (by omega) (by omega) (by have := hr.1; dsimp only at this; omega) (by have := hr.2; dsimp only at this; omega) hd (kk _ _ _ _ _ ⟨hl, hP, hS, hc0, hs0, hz⟩)
    · rename_i ha
      rw [if_neg ha] at hok
      split at h
      · rename_i ha
        rw [if_pos ha] at hok
        obtain ⟨x, y, r, e9, h9⟩ := m_i2_s h
        clear h
        subst e9
        split at h9
        · cases h9
        · rename_i hrl
          cases h9
          have hcs := m_catsum f r 8 (by omega)
          exact va_mmin hx hb hsz hown (hts _ (mwi_in hok)) (hts _ (mw_in kd_1.2.1)) (hts _ (mw_in kd_1.2.2.1)) (hts _ (mw_in kd_1.2.2.2.2)) (by omega) (by omega) (by have := hr.1; dsimp only at this; omega) (by have := hr.2; dsimp only at this; omega) hd (kk _ _ _ _ _ ⟨hl, hP, hS, hc0, hs0, hz⟩)
      · rename_i ha
        rw [if_neg ha] at hok
        split at h
        · rename_i ha
          rw [if_pos ha] at hok
          obtain ⟨dp, n, r, e9, h9⟩ := m_i2_s h
          clear h
          subst e9
          obtain ⟨a1, r2, e9, h8⟩ := m_r1_s h9
          clear h9
          subst e9
          obtain ⟨sp, r3, e9, h7⟩ := m_i1_s h8
          clear h8
          subst e9
          obtain ⟨a0, q, e9, h6⟩ := m_r1_s h7
          clear h7
          subst e9
          split at h6
          · rename_i n0 n1 hs0' hs1'
            split at h6
            · cases h6
            · rename_i hc
              cases h6
              simp only [not_or] at hc
              obtain ⟨hq8, h1, h2, h3, h4, h5⟩ := hc
              have hcs := m_catsum f q 8 (by omega)
              have hset : m_ws f tc (m_row M.1 a1 (va_cpy (M.1 a0) (M.1 a1) sp.toNatClampNeg dp.toNatClampNeg n.toNatClampNeg), M.2) = (m_ws f tc M).set a1 (f a1, .inl (tc 0, n1, .inl (va_cpy (M.1 a0) (M.1 a1) sp.toNatClampNeg dp.toNatClampNeg n.toNatClampNeg))) := by
                rw [m_ws_set (M := M) (M' := (m_row M.1 a1 (va_cpy (M.1 a0) (M.1 a1) sp.toNatClampNeg dp.toNatClampNeg n.toNatClampNeg), M.2)) rfl hs1' (fun b hb => ⟨m_row_ne hb, rfl, rfl⟩)]
                show _ = (m_ws f tc M).set a1 _
                unfold m_cell
                dsimp only
                rw [m_row_eq]
              refine va_copyi hx hb hsz hown (hts _ (mwi_in hok)) (hts _ (mw_in kd_2.1)) (hts _ (mw_in kd_2.2.1)) (hts _ (mw_in kd_2.2.2)) hK hP.1 hP.2 hS a0 a1 0 0 (m_ws_at hs0') (m_ws_at hs1') rfl rfl rfl h1 h2 h3 (by omega) (by omega) (fun _ _ => rfl) (by omega) ?_ hd (fun H1 locs1 hP1 hD1 hS1 => kk _ _ _ _ _ ⟨hl, ⟨by rw [hset]; exact hP1, by rw [hset]; exact hD1⟩, hS1, hc0, hs0, hz⟩)
              have : nativeFrameWords "java/lang/System" "arraycopy" 5 = 7 := by decide
              rw [this]
              omega
          · cases h6
        · cases h
  case invokespecial i =>
    simp only [m_step] at h
    simp only [m_okD] at hok
    split at h
    · rename_i ha
      rw [if_pos ha] at hok
      obtain ⟨ad, r, e9, h9⟩ := m_r1_s h
      clear h
      subst e9
      split at h9
      · cases h9
      · rename_i hrl
        cases h9
        have hcs := m_catsum f r 8 (by omega)
        refine W.objInit hx hb hown (hts _ (mwi_in hok)) (hts _ (mw_in kd_3.1)) (hts _ (mw_in kd_3.2)) rfl hsz.symm (rest := r.map (m_rho f)) rfl hd (by omega) ?_ (kk _ _ _ _ _ ⟨hl, hP, hS, hc0, hs0, hz⟩)
        show 2 * 0 + _ + 12 ≤ _
        omega
    · cases h
  case invokevirtual i =>
    simp only [m_step] at h
    simp only [m_okD] at hok
    split at h
    · rename_i ha
      rw [if_pos ha] at hok
      obtain ⟨ad, r, e9, h9⟩ := m_r1_s h
      clear h
      subst e9
      split at h9
      · rename_i t ht
        split at h9
        · cases h9
        · rename_i hrl
          cases h9
          unfold m_nstr at ht
          split at ht
          · cases ht
          · rename_i hgt
            have hcs := m_catsum f r 4 (by omega)
            have := (hT H locs cells slots Q pc i (ad - m_scr - 1) ls (r.map (m_rho f)) t ht hS hl.2.1 (by omega) (by have := hr.1; dsimp only at this; omega) (by have := hr.2; dsimp only at this; omega) hd).1 (mwi_in hok) (kk _ _ _ _ _ ⟨hl, hP, hS, hc0, hs0, hz⟩)
            rw [show m_scr + 1 + (ad - m_scr - 1) = ad by omega] at this
            exact this
      · cases h9
    · rename_i ha
      rw [if_neg ha] at hok
      split at h
      · rename_i ha
        rw [if_pos ha] at hok
        obtain ⟨j, r, e9, h9⟩ := m_i1_s h
        clear h
        subst e9
        obtain ⟨ad, q, e9, h8⟩ := m_r1_s h9
        clear h9
        subst e9
        split at h8
        · rename_i t ht
          split at h8
          · cases h8
          · rename_i hc
            simp only [not_or] at hc
            split at h8
            · rename_i x hx9
              cases h8
              unfold m_nstr at ht
              split at ht
              · cases ht
              · rename_i hgt
                have hcs := m_catsum f q 4 (by omega)
                have := (hT H locs cells slots Q pc i (ad - m_scr - 1) ls (q.map (m_rho f)) t ht hS hl.2.1 (by omega) (by have := hr.1; dsimp only at this; omega) (by have := hr.2; dsimp only at this; omega) hd).2 (mwi_in hok) j x hc.2 hx9 (kk _ _ _ _ _ ⟨hl, hP, hS, hc0, hs0, hz⟩)
                rw [show m_scr + 1 + (ad - m_scr - 1) = ad by omega] at this
                exact this
            · cases h8
        · cases h8
      · cases h
end SimD
end
section
/-! the small machine never takes back what it made -/
theorem m_step_mono {tx : List (List Int32)} {X : Nat × (Nat → Int32)} {op : mOp} {pc : Nat} {L : mL} {st : List Value} {M : mM} {c' : mC} (h : m_step tx X op pc L st M = some c') : c'.2.2.2.2.2.2 = M.2.2.2 ∨ ∃ kd n, c'.2.2.2.2.2.2 = (m_mk M kd n).2.2.2 := by
  obtain ⟨i, len, a, b⟩ := op
  cases i <;> simp only [m_step, reduceCtorEq] at h <;> (try simp only [m_i1, m_i2, m_l1, m_l2, m_r1, m_v1, m_jmp, m_br, m_arr, m_obj, m_len, m_new] at h) <;> (repeat' split at h) <;> first
    | (cases h; exact Or.inl rfl)
    | (cases h; exact Or.inr ⟨_, _, rfl⟩)
    | cases h
theorem m_run_s {P : List mMeth} {tx : List (List Int32)} {X : Nat × (Nat → Int32)} {n d y : Nat} {c : mC} {r : mR} (h : m_run P tx X (n + 1) d y c = some r) : ∃ m op, P[y]? = some m ∧ m.2.2.2.2.2.2.lookup c.1 = some op ∧
    ((m_ck op = 0 ∧ ∃ c1, m_step tx X op c.1 c.2.1 c.2.2.1 c.2.2.2 = some c1 ∧ m_run P tx X n d y c1 = some r) ∨
     (m_ck op = 1 ∧ ∃ v, m_ret m op c.2.2.1 = some v ∧ r = (.inl v, c.2.2.2)) ∨
     (m_ck op = 2 ∧ ∃ d1 m1 res, d = d1 + 1 ∧ P[op.2.2.1]? = some m1 ∧ m_call op m1 c.2.2.1 c.2.2.2 = true ∧ m_run P tx X n d1 op.2.2.1 (0, m_ent m1.2.2.1 (c.2.2.1.take op.2.2.2).reverse, [], c.2.2.2) = some res ∧
       ((∃ v, res.1 = .inl v ∧ m_run P tx X n (d1 + 1) y (c.1 + 3, c.2.1, v.toList ++ c.2.2.1.drop op.2.2.2, res.2) = some r) ∨
        (∃ k, res.1 = .inr k ∧ m_fixed op m1 = false ∧ m.2.2.2.2.2.1 = [] ∧ r = (.inr k, res.2)) ∨
        (∃ k t, res.1 = .inr k ∧ m_fixed op m1 = false ∧ m_hand m.2.2.2.2.2.1 c.1 k = some t ∧ m_run P tx X n (d1 + 1) y (t, List.replicate c.2.1.length none, [], res.2) = some r))) ∨
     (3 ≤ m_ck op ∧ c.2.2.1.length ≤ 8 ∧ r = (.inr (op.2.2.1 - 2000), m_thr c.2.2.2))) := by
  unfold m_run at h
  split at h
  · cases h
  · rename_i m hm
    split at h
    · cases h
    · rename_i op hop
      refine ⟨m, op, hm, hop, ?_⟩
      split at h
      · rename_i hk
        split at h
        · rename_i c1 hc1
          exact Or.inl ⟨hk, c1, hc1, h⟩
        · cases h
      · rename_i hk
        split at h
        · rename_i v hv
          cases h
          exact Or.inr (Or.inl ⟨hk, v, hv, rfl⟩)
        · cases h
      · rename_i hk
        split at h
        · cases h
        · rename_i d1
          split at h
          · cases h
          · rename_i m1 hm1
            split at h
            · rename_i hcall
              refine Or.inr (Or.inr (Or.inl ⟨hk, d1, m1, ?_⟩))
              split at h
              · rename_i v M1 hres
                exact ⟨_, rfl, hm1, hcall, hres, Or.inl ⟨v, rfl, h⟩⟩
              · rename_i k M1 hres
                split at h
                · cases h
                · rename_i hfx
                  have hfx : m_fixed op m1 = false := by simpa using hfx
                  split at h
                  · rename_i hh
                    cases h
                    exact ⟨_, rfl, hm1, hcall, hres, Or.inr (Or.inl ⟨k, rfl, hfx, hh, rfl⟩)⟩
                  · rename_i h1 hh1 hh
                    split at h
                    · rename_i t ht
                      exact ⟨_, rfl, hm1, hcall, hres, Or.inr (Or.inr ⟨k, t, rfl, hfx, by rw [hh]; exact ht, h⟩)⟩
                    · cases h
              · cases h
            · cases h
      · rename_i h0 h1 h2
        have a1 : ¬ m_ck op = 0 := h0
        have a2 : ¬ m_ck op = 1 := h1
        have a3 : ¬ m_ck op = 2 := h2
        split at h
        · rename_i hlen
          cases h
          exact Or.inr (Or.inr (Or.inr ⟨by omega, hlen, rfl⟩))
        · cases h
theorem m_run_mono {P : List mMeth} {tx : List (List Int32)} {X : Nat × (Nat → Int32)} : ∀ (n d y : Nat) (c : mC) (r : mR), m_run P tx X n d y c = some r → m_ncell c.2.2.2 ≤ m_ncell r.2 ∧ m_nslot c.2.2.2 ≤ m_nslot r.2 ∧ c.2.2.2.2.2.2.2 ≤ r.2.2.2.2.2 := by
  intro n
  induction n with
  | zero => intro d y c r h; simp [m_run] at h
  | succ n ih =>
    intro d y c r h
    obtain ⟨m, op, -, -, h | h | h | h⟩ := m_run_s h
    · obtain ⟨-, c1, h1, h2⟩ := h
      have := ih _ _ _ _ h2
      rcases m_step_mono h1 with e | ⟨kd, k, e⟩
      · unfold m_ncell m_nslot at this ⊢
        rw [e] at this
        exact this
      · have e1 : m_ncell c1.2.2.2 = m_ncell c.2.2.2 + 1 := by rw [← m_ncell_mk (M := c.2.2.2) (kd := kd) (n := k)]; unfold m_ncell; rw [e]
        have e2 : m_nslot c1.2.2.2 = m_nslot c.2.2.2 + k := by rw [← m_nslot_mk (M := c.2.2.2) (kd := kd) (n := k)]; unfold m_nslot; rw [e]
        have e3 : c1.2.2.2.2.2.2.2 = c.2.2.2.2.2.2.2 := by rw [e]; rfl
        omega
    · obtain ⟨-, v, -, rfl⟩ := h
      exact ⟨Nat.le_refl _, Nat.le_refl _, Nat.le_refl _⟩
    · obtain ⟨-, d1, m1, res, -, -, -, h1, h | h | h⟩ := h
      · obtain ⟨v, -, h2⟩ := h
        have a1 := ih _ _ _ _ h1
        have a2 := ih _ _ _ _ h2
        exact ⟨Nat.le_trans a1.1 a2.1, Nat.le_trans a1.2.1 a2.2.1, Nat.le_trans a1.2.2 a2.2.2⟩
      · obtain ⟨k, -, -, -, rfl⟩ := h
        have a1 := ih _ _ _ _ h1
        exact a1
      · obtain ⟨k, t, -, -, -, h2⟩ := h
        have a1 := ih _ _ _ _ h1
        have a2 := ih _ _ _ _ h2
        exact ⟨Nat.le_trans a1.1 a2.1, Nat.le_trans a1.2.1 a2.2.1, Nat.le_trans a1.2.2 a2.2.2⟩
    · obtain ⟨-, -, rfl⟩ := h
      unfold m_ncell m_nslot m_thr
      dsimp only
      omega
end
section
/-! what stands about a method while it runs -/
def m_exc (k : Nat) : String := if k = 1 then "java/util/NoSuchElementException" else "java/lang/IllegalArgumentException"
/-- the texts, as they lie in the heap -/
def m_Str1 (f : Nat → Nat) (base : Nat) (tx : List (List Int32)) (adV : Nat → Nat) (s : State) : Prop :=
  (∀ i t, tx[i]? = some t → va_O "java/lang/String" (f (m_scr + 1 + i)) (fun q => base ≤ q) s s.heap ∧ va_OF "java/lang/String" "coder" "B" (.int 0) (f (m_scr + 1 + i)) (fun q => base ≤ q) s s.heap ∧ va_OF "java/lang/String" "value" "[B" (.ref (adV i)) (f (m_scr + 1 + i)) (fun q => base ≤ q) s s.heap ∧ va_T .byte (adV i) t.length (fun j => .int (t.getD j 0)) (fun q => base ≤ q) s s.heap) ∧
  va_Z "java/lang/String" "COMPACT_STRINGS" "Z" (.int 1) (fun q => base ≤ q) s s.heap ∧ va_Zq "jdk/internal/util/Preconditions" "SIOOBE_FORMATTER" "Ljava/util/function/BiFunction;" (fun q => base ≤ q) s s.heap ∧ ∀ (i : Nat) (t : List Int32), tx[i]? = some t → t.length < 2 ^ 31 ∧ ∀ b ∈ t, b.toInt8.toInt32 = b ∧ b &&& 255 = b
def m_Str (f : Nat → Nat) (base : Nat) (tx : List (List Int32)) (s : State) : Prop := ∃ adV : Nat → Nat, m_Str1 f base tx adV s
theorem m_Str1.go {f : Nat → Nat} {base : Nat} {tx : List (List Int32)} {adV : Nat → Nat} {s U : State} (h : m_Str1 f base tx adV s) (hq : ∀ a : Nat, a < s.heap.size → ¬ base ≤ a → U.heap[a]? = s.heap[a]?) (al : s.vm.Alike U.vm) : m_Str1 f base tx adV U := by
  obtain ⟨h9, h10, h11, h12⟩ := h
  refine ⟨fun i t ht => ?_, (h10.kept hq).moved al, (h11.kept hq).moved al, h12⟩
  obtain ⟨a1, a2, a3, a4⟩ := h9 i t ht
  exact ⟨(a1.kept hq).moved al, (a2.kept hq).moved al, (a3.kept hq).moved al, (a4.kept hq).moved al⟩
/-- what holds at a method's start and is kept -/
def m_Amb (D : va_G) (f : Nat → Nat) (tc : Nat → ClassId) (base : Nat) (X : Nat × (Nat → Int32)) (sx : List (String × Nat × String)) (tx : List (List Int32)) (s : State) : Prop :=
  va_K D vwCl (m_tys tc) s ∧ base ≤ s.heap.size ∧ (f m_scr < base ∧ va_X (f m_scr) X.1 X.2 s s.heap) ∧ (∀ j q, sx[j]? = some q → vk_R q.1 q.2.1 q.2.2 (f (m_scr + 1 + j)) s) ∧ (∀ w ∈ xw, va_Nw w s) ∧
  (vx_Zq Bundle.tN "UNASSIGNED_STACK" Bundle.steD (fun q => base ≤ q) s s.heap ∧ vx_Zq Bundle.tN "SUPPRESSED_SENTINEL" Bundle.listD (fun q => base ≤ q) s s.heap) ∧ m_Str f base tx s ∧ va_Nc (m_exc 2) (m_exc 1) s ∧ ∀ a, a < m_scr → f a = base + a
theorem xw_use {w : Cond} (h : w ∈ xw) {a : Array Value} {s : State} (hs : va_Nw w s) : w.before a s = true := by
  have h1 := (List.mem_filter.mp h).2
  cases w <;> simp only [m_ex, Bool.false_eq_true] at h1
  case castable => exact va_Nw.use rfl hs
  case declares => exact va_Nw.use rfl hs
  case methodLinkNest => exact va_Nw.use rfl hs
  case arrayOver t =>
    cases t <;> simp only [Bool.false_eq_true] at h1
    exact va_AO.use (va_AO.of hs)
theorem xw_warm {w : Cond} (h : w ∈ xw) {s U : State} (hW : s.WarmedH U.vm) (hs : va_Nw w s) : va_Nw w U := by
  have h1 := (List.mem_filter.mp h).2
  cases w <;> simp only [m_ex, Bool.false_eq_true] at h1
  case castable => exact va_Nw.warmC hW hs
  case declares => exact va_Nw.warmD hW hs
  case methodLinkNest => exact va_Nw.warmM hW hs
  case arrayOver t =>
    cases t <;> simp only [Bool.false_eq_true] at h1
    exact va_AO.moved hW.alike hs
theorem m_Amb.go {D : va_G} {f : Nat → Nat} {tc : Nat → ClassId} {base : Nat} {X : Nat × (Nat → Int32)} {sx : List (String × Nat × String)} {tx : List (List Int32)} {s U : State} {H : Heap} {locs : List Loc} (h : m_Amb D f tc base X sx tx s) (hU : U.heap = H) (hS : va_S (fun q => base ≤ q) s.heap H locs) (hW : s.WarmedH U.vm) : m_Amb D f tc base X sx tx U := by
  obtain ⟨h1, h2, ⟨h3, h4⟩, h5, h6, ⟨h7, h8⟩, ⟨adV, h9⟩, h12, h13⟩ := h
  have hq : ∀ a : Nat, a < s.heap.size → ¬ base ≤ a → U.heap[a]? = s.heap[a]? := by rw [hU]; exact hS.2.1
  have al := hW.alike
  refine ⟨va_K.moved al h1, by rw [hU]; exact Nat.le_trans h2 hS.1, ⟨h3, va_X.moved al (h4.kept (hq _ (by omega) (by omega)))⟩, fun j q hj => (h5 j q hj).warm hW, fun w hw => xw_warm hw hW (h6 w hw), ⟨(h7.kept hq).moved al, (h8.kept hq).moved al⟩, ⟨adV, h9.go hq al⟩, va_Nc.moved al h12, h13⟩
def m_raw (mm : mMeth) : List (Nat × Nat × Nat × Nat) := mm.2.2.2.2.2.1.map fun h => (h.1, h.2.1, h.2.2.2.2.1, h.2.2.2.2.2)
def m_Ctx (p : Program) (s : State) (m : MethodId) (args : Array Value) (meth : Method) (c : Code) (mm : mMeth) : Prop :=
  p.tables.exec = Jvm.exec ∧ c.code = mm.2.1 ∧ c.maxLocals = mm.2.2.1 ∧ s.vm.findClass mm.1.cls = some m.cls ∧ (∀ w ∈ gw, w.before args s = true) ∧ meth.name = mm.1.name ∧ meth.sig.returnType = mm.2.2.2.1 ∧ meth.locks = false ∧ c.exceptionTable.toList = tableOf (m_raw mm)
/-- the end that a run has -/
def m_Qc (D : va_G) (f : Nat → Nat) (tc : Nat → ClassId) (base : Nat) (r : mR) : Array Value → State → Outcome → State → Prop := fun _ st o t => (∃ v, r.1 = .inl v ∧ o = .returned (v.map (m_rho f)) ∧ m_Pic D f tc base r.2 t.heap) ∧ va_F (fun q => base ≤ q) st t
def m_XC (D : va_G) (f : Nat → Nat) (tc : Nat → ClassId) (base : Nat) (r : mR) : String → State → State → Prop := fun E st t => ∃ k, r.1 = .inr k ∧ E = m_exc k ∧ m_Pic D f tc base r.2 t.heap ∧ va_F (fun q => base ≤ q) st t
/-- the locals at a method's start -/
theorem m_slots_lv {f : Nat → Nat} : ∀ (vs : List Value) (i j : Nat) (v : Value), (m_slots vs)[j]? = some (some v) → (i + j, m_rho f v) ∈ lv_args i (vs.map (m_rho f)) := by
  intro vs
  induction vs with
  | nil => intro i j v h; simp [m_slots] at h
  | cons w vs ih =>
    intro i j v h
    rw [show m_slots (w :: vs) = (if w.category = 2 then [some w, none] else [some w]) ++ m_slots vs from rfl] at h
    simp only [List.map_cons, lv_args, m_rho_cat]
    by_cases hc : w.category = 2
    · rw [if_pos hc] at h ⊢
      match j, h with
      | 0, h => cases h; exact List.mem_cons_self
      | 1, h => cases h
      | j + 2, h =>
        refine List.mem_cons_of_mem _ ?_
        have := ih (i + 2) j v h
        rw [show i + (j + 2) = i + 2 + j by omega]
        exact this
    · rw [if_neg hc] at h ⊢
      match j, h with
      | 0, h => cases h; exact List.mem_cons_self
      | j + 1, h =>
        refine List.mem_cons_of_mem _ ?_
        have := ih (i + 1) j v h
        rw [show i + (j + 1) = i + 1 + j by omega]
        exact this
theorem m_slots_len {f : Nat → Nat} : ∀ (vs : List Value), (lg_sl (vs.map (m_rho f))).length = (m_slots vs).length := by
  intro vs
  induction vs with
  | nil => rfl
  | cons w vs ih =>
    rw [show m_slots (w :: vs) = (if w.category = 2 then [some w, none] else [some w]) ++ m_slots vs from rfl]
    rw [show lg_sl ((w :: vs).map (m_rho f)) = (if (m_rho f w).category = 2 then [.val (m_rho f w), .second] else [.val (m_rho f w)]) ++ lg_sl (vs.map (m_rho f)) from rfl]
    rw [List.length_append, List.length_append, ih, m_rho_cat]
    by_cases hc : w.category = 2
    · rw [if_pos hc, if_pos hc]; rfl
    · rw [if_neg hc, if_neg hc]; rfl
theorem m_Lv_ent {f : Nat → Nat} {n : Nat} {vs : List Value} (h : (m_slots vs).length ≤ n) : m_Lv f n ((lg_sl (vs.map (m_rho f)) ++ List.replicate (n - (lg_sl (vs.map (m_rho f))).length) Slot.unset).toArray) (m_ent n vs) := by
  have hl := lv_entry (vs.map (m_rho f)) (n := n) (by rw [m_slots_len]; exact h)
  refine ⟨by unfold m_ent; rw [List.length_append, List.length_replicate]; omega, hl.1, hl.2.1, ?_⟩
  rintro ⟨j, w⟩ hq
  obtain ⟨v, hv, rfl⟩ := m_lv_mem.mp hq
  refine hl.2.2 _ ?_
  unfold m_ent at hv
  rw [List.getElem?_append] at hv
  split at hv
  · have := m_slots_lv (f := f) vs 0 j v hv
    rw [Nat.zero_add] at this
    exact this
  · rw [List.getElem?_replicate] at hv
    split at hv <;> cases hv
theorem m_lookup_mem {α : Type} : ∀ (l : List (Nat × α)) (k : Nat) (v : α), l.lookup k = some v → (k, v) ∈ l := by
  intro l
  induction l with
  | nil => intro k v h; cases h
  | cons q l ih =>
    intro k v h
    obtain ⟨j, w⟩ := q
    rw [List.lookup_cons] at h
    by_cases hj : (k == j) = true
    · rw [hj] at h
      cases h
      rw [beq_iff_eq] at hj
      rw [hj]
      exact List.mem_cons_self
    · have hj : (k == j) = false := by simpa using hj
      rw [hj] at h
      exact List.mem_cons_of_mem _ (ih k v h)
end
section
/-! THE SMALL MACHINE'S RUNS ARE THE MACHINE'S -/
/-- what must stand in the tables for a call -/
def m_okK (P : List mMeth) (own : String) (op : mOp) : Bool := match P[op.2.2.1]? with
  | none => false
  | some m1 => match op.1 with
    | .invokevirtual i => decide (m1.2.2.2.2.1 < 100 ∧ m1.1.name ≠ "<init>") && m1.2.2.2.2.2.1.isEmpty && decide ((vwCl[m1.2.2.2.2.1]?).map (fun q => q.1) = some m1.1.cls) && mwi op.2.1 (.methodLink own i m1.1) && decide ((parseMethodDescriptor m1.1.desc).map (fun d => d.parameters.length) = some (op.2.2.2 - 1) ∧ 1 ≤ op.2.2.2)
    | .invokestatic i => decide (100 ≤ m1.2.2.2.2.1) && mwi op.2.1 (.methodLink own i m1.1) && decide ((parseMethodDescriptor m1.1.desc).map (fun d => d.parameters.length) = some op.2.2.2)
    | .invokespecial i => decide (m1.2.2.2.2.1 < 100) && m1.2.2.2.2.2.1.isEmpty && decide (m1.1.name = "<init>" ∧ m1.2.2.2.1 = none) && (mwi op.2.1 (.methodLink own i m1.1) || mx (.methodLinkNest own i m1.1 "DarnEggs")) && decide ((parseMethodDescriptor m1.1.desc).map (fun d => d.parameters.length) = some (op.2.2.2 - 1) ∧ 1 ≤ op.2.2.2)
    | _ => false
/-- what must stand in the tables for a method that is called (static ones have 100 more as their class number) -/
def m_okY (m1 : mMeth) : Bool := decide (m1.1.cls ≠ "java/lang/invoke/MethodHandle" ∧ m1.1.cls ≠ "java/lang/invoke/VarHandle") && plainName m1.1.cls && decide (m1.2.2.1 ≤ 13) && mw (.initialized m1.1.cls) && (if m1.2.2.2.2.2.1.isEmpty = true then mw (.code m1.1 m1.2.1 m1.2.2.1 m1.2.2.2.1) else mw (.codeWith m1.1 m1.2.1 m1.2.2.1 m1.2.2.2.1 (m_raw m1))) && (if 100 ≤ m1.2.2.2.2.1 then mw (.static m1.1) else mw (.instanceMethod m1.1) && (decide (m1.1.name = "<init>") || mw (.selects m1.1.cls m1.1 m1.1)))
def m_names : List String := ["java/lang/RuntimeException", "java/lang/Exception"]
/-- for a throw: new, dup, the constructor, athrow -/
def m_okT (mm : mMeth) (pc : Nat) (op : mOp) : Bool := match op.1 with
  | .new ik => mm.2.2.2.2.2.1.isEmpty && decide (decode mm.2.1 (pc + 3) = .ok (.dup, 1) ∧ decode mm.2.1 (pc + 4) = .ok (.invokespecial op.2.2.2, 3) ∧ decode mm.2.1 (pc + 7) = .ok (.athrow, 1)) && Bundle.fit (m_exc (op.2.2.1 - 2000)) && mw (.classLink mm.1.cls ik (m_exc (op.2.2.1 - 2000))) && mw (.initialized (m_exc (op.2.2.1 - 2000))) && (vx_at0 mm.1.cls op.2.2.2 (m_exc (op.2.2.1 - 2000)) m_names).all (fun w => (mw w || mx w) && vx_ot w)
  | _ => false
def m_okOp (P : List mMeth) (sx : List (String × Nat × String)) (mm : mMeth) (e : Nat × mOp) : Bool := decide (decode mm.2.1 e.1 = .ok (e.2.1, m_ilen e.2)) && match m_ck e.2 with
  | 0 => m_isA e.2.1 || m_isB e.2.1 || (m_isC e.2.1 && m_okC mm.1.cls mm.1.name e.2) || (m_isD e.2.1 && m_okD sx mm.1.cls e.2)
  | 1 => true
  | 2 => m_okK P mm.1.cls e.2
  | _ => m_okT mm e.1 e.2
section SimE
variable {p : Program} {l : Launch} {e : Env} {R : Room} {s : State} {m : MethodId} {args : Array Value} {below : List Frame} {meth : Method} {c : Code} {H : Heap} {locs : List Loc} {cells slots : Nat} {Q : State → Prop}
variable {D : va_G} {f : Nat → Nat} {tc : Nat → ClassId} {base nL c0 s0 : Nat} {cc : ByteArray} {tx : List (List Int32)} {X : Nat × (Nat → Int32)} {sx : List (String × Nat × String)} {pc : Nat} {L : mL} {st : List Value} {M : mM} {ls : Array Slot}
/-- behind a call that may throw -/
theorem m_goon {rr : mR} {mc ms : Nat} {a : Array Value} {st0 rest : List Value} (hr : vx_Run p l e R s m args below meth c H locs cells slots mc ms (F0 m pc ls st0) rest (m_Qc D f tc base rr a) (m_XC D f tc base rr) (fun q => base ≤ q)) (hS : va_S (fun q => base ≤ q) s.heap H locs)
    (kr : ∀ (v : Option Value) (H1 : Heap) (locs1 : List Loc), rr.1 = .inl v → m_Pic D f tc base rr.2 H1 → va_S (fun q => base ≤ q) s.heap H1 locs1 → W p l e R s m args below meth c H1 locs1 (cells + mc) (slots + ms) Q (F0 m (pc + 3) ls ((v.map (m_rho f)).toList ++ rest)))
    (kx : ∀ (k : Nat) (H1 : Heap) (locs1 : List Loc) (q : Addr) (ce : Cell), rr.1 = .inr k → m_Pic D f tc base rr.2 H1 → va_S (fun q => base ≤ q) s.heap H1 locs1 → H1[q]? = some ce → ce.vm = .none → s.vm.findClass (m_exc k) = some ce.cls → vx_W p l e R s m args below meth c H1 locs1 (cells + mc) (slots + ms) Q (F0 m pc ls rest) q) :
    W p l e R s m args below meth c H locs cells slots Q (F0 m pc ls st0) := by
  intro T hT X
  rcases hr T hT X with ⟨v, st₀, t, T', L, h0, X', hL, e1, e2, ⟨⟨w, hw, hv, hp⟩, hF⟩, st⟩ | ⟨q, st₀, t, T', L, E, ce, h0, X', hL, e1, e2, ⟨k, hk, rfl, hp, hF⟩, hce, hcv, hcl, st⟩
  · cases hv
    obtain ⟨k1, k2, k3⟩ := vx_keep h0 e1 hS (fun _ _ h => h) (fun _ h => h) hL hF
    obtain ⟨t2, a1, b1⟩ := kr w T'.heap (locs ++ L) hw (by rw [e1]; exact hp) k3 T' rfl X'
    exact ⟨t2, st t2 a1, b1⟩
  · obtain ⟨k1, k2, k3⟩ := vx_keep h0 e1 hS (fun _ _ h => h) (fun _ h => h) hL hF
    obtain ⟨t2, a1, b1⟩ := kx k T'.heap (locs ++ L) q ce hk (by rw [e1]; exact hp) k3 (by rw [e1]; exact hce) hcv hcl T' rfl X'
    exact ⟨t2, st.trans a1, b1⟩
/-- behind a call that returns -/
theorem m_goonN {rr : mR} {mc ms : Nat} {a : Array Value} {st0 rest : List Value} (hr : va_Run p l e R s m args below meth c H locs cells slots mc ms (F0 m pc ls st0) rest (m_Qc D f tc base rr a) (fun q => base ≤ q)) (hS : va_S (fun q => base ≤ q) s.heap H locs)
    (kr : ∀ (v : Option Value) (H1 : Heap) (locs1 : List Loc), rr.1 = .inl v → m_Pic D f tc base rr.2 H1 → va_S (fun q => base ≤ q) s.heap H1 locs1 → W p l e R s m args below meth c H1 locs1 (cells + mc) (slots + ms) Q (F0 m (pc + 3) ls ((v.map (m_rho f)).toList ++ rest))) :
    W p l e R s m args below meth c H locs cells slots Q (F0 m pc ls st0) := by
  intro T hT X
  obtain ⟨v, st₀, t, T', L, h0, X', hL, e1, e2, ⟨⟨w, hw, hv, hp⟩, hF⟩, st⟩ := hr T hT X
  cases hv
  obtain ⟨k1, k2, k3⟩ := vx_keep h0 e1 hS (fun _ _ h => h) (fun _ h => h) hL hF
  obtain ⟨t2, a1, b1⟩ := kr w T'.heap (locs ++ L) hw (by rw [e1]; exact hp) k3 T' rfl X'
  exact ⟨t2, st t2 a1, b1⟩
/-- a body that doesn't throw -/
theorem m_noX {rr : mR} {v : Option Value} {mc ms : Nat} {g : JFrame} (hv : rr.1 = .inl v) (k : W p l e R s m args below meth c H locs cells slots (vx_MQ below (m_Qc D f tc base rr) (m_XC D f tc base rr) args s mc ms (fun q => base ≤ q)) g) : W p l e R s m args below meth c H locs cells slots (MQ below (m_Qc D f tc base rr) args s mc ms (fun q => base ≤ q)) g := by
  intro T hT X
  obtain ⟨t, a1, o, b1, b2, b3⟩ := k T hT X
  rcases b3 with b3 | ⟨q, -, E, ce, L, ⟨k, hk, -⟩, -⟩
  · exact ⟨t, a1, o, b1, b2, b3.1, b3.2⟩
  · rw [hv] at hk; cases hk
set_option maxHeartbeats 4000000 in
/-- the returns -/
theorem m_simR {mm : mMeth} {i : Instr} {len a b : Nat} {v : Option Value} (hx : p.tables.exec = Jvm.exec) (hb : c.code = cc) (hd : decode cc pc = .ok (i, m_ilen (i, len, a, b))) (hr : meth.sig.returnType = mm.2.2.2.1) (hlk : meth.locks = false) (h : m_ret mm (i, len, a, b) st = some v)
    (hA : m_At D f tc base nL c0 s0 s.heap L M ls H locs cells slots) :
    W p l e R s m args below meth c H locs cells slots (vx_MQ below (m_Qc D f tc base (.inl v, M)) (m_XC D f tc base (.inl v, M)) args s (m_ncell M - c0) (m_nslot M - s0) (fun q => base ≤ q)) (F0 m pc ls (st.map (m_rho f))) := by
  obtain ⟨hl, hP, hS, hc0, hs0, hz⟩ := hA
  rw [show m_ncell M - c0 = cells by omega, show m_nslot M - s0 = slots by omega]
  refine vx_ret ?_
  have hq : ∀ t : State, t.heap = H → s.WarmedH t.vm → m_Qc D f tc base (.inl v, M) args s (.returned (v.map (m_rho f))) t := fun t ht _ => ⟨⟨v, rfl, rfl, by rw [ht]; exact hP⟩, hS.F ht⟩
  unfold m_ret at h
  dsimp only at h
  split at h
  · split at h
    · rename_i hret
      cases h
      exact W.iret hx hb (hr.trans hret) hq hS.2.2 hd hlk
    · rename_i hret
      split at h
      · rename_i h01
        cases h
        refine W.zret (ty := .boolean) hx hb (hr.trans hret) ?_ hq hS.2.2 hd hlk
        rcases h01 with rfl | rfl <;> rfl
      · cases h
    · cases h
  · split at h
    · rename_i hret
      cases h
      exact W.lret hx hb (hr.trans hret) hq hS.2.2 hd hlk
    · cases h
  · split at h
    · rename_i hret
      cases h
      exact W.vret hx hb (hr.trans hret) hq hS.2.2 hd hlk
    · cases h
  · cases h
end SimE
end
section
/-! calls -/
section SimF
variable {p : Program} {l : Launch} {e : Env} {R : Room} {s : State} {m : MethodId} {args : Array Value} {below : List Frame} {meth : Method} {c : Code} {H : Heap} {locs : List Loc} {cells slots : Nat} {Q : State → Prop}
variable {D : va_G} {f : Nat → Nat} {tc : Nat → ClassId} {base nL c0 s0 : Nat} {tx : List (List Int32)} {X : Nat × (Nat → Int32)} {sx : List (String × Nat × String)} {pc : Nat} {L : mL} {st : List Value} {M : mM} {ls : Array Slot}
/-- a method's run from its entry -/
def m_Body (l : Launch) (D : va_G) (f : Nat → Nat) (tc : Nat → ClassId) (base : Nat) (X : Nat × (Nat → Int32)) (sx : List (String × Nat × String)) (tx : List (List Int32)) (m1 : mMeth) (d1 : Nat) (As : List Value) (M : mM) (rr : mR) : Prop :=
  ∀ (p : Program) (e : Env) (R : Room) (s : State) (m : MethodId) (args : Array Value) (below : List Frame) (meth : Method) (c : Code), m_Ctx p s m args meth c m1 → m_Amb D f tc base X sx tx s → 20 + d1 ≤ R.frames ∧ 300 + 40 * d1 ≤ R.locals → m_ncell rr.2 ≤ R.cells + m_ncell M ∧ m_nslot rr.2 ≤ R.slots + m_nslot M → m_Pic D f tc base M s.heap → (M.2.2.2.2 = 0 → s.heap.size ≤ base + m_ncell M) →
    W p l e R s m args below meth c s.heap [] 0 0 (vx_MQ below (m_Qc D f tc base rr) (m_XC D f tc base rr) args s (m_ncell rr.2 - m_ncell M) (m_nslot rr.2 - m_nslot M) (fun q => base ≤ q)) (F0 m 0 ((lg_sl (As.map (m_rho f)) ++ List.replicate (m1.2.2.1 - (lg_sl (As.map (m_rho f))).length) Slot.unset).toArray) [])
/-- what a callee finds -/
def m_Pc (D : va_G) (f : Nat → Nat) (tc : Nat → ClassId) (base : Nat) (X : Nat × (Nat → Int32)) (sx : List (String × Nat × String)) (tx : List (List Int32)) (As : List Value) (M : mM) : Array Value → State → Prop := va_Pc (As.map (m_rho f)) (fun U => m_Pic D f tc base M U.heap ∧ m_Amb D f tc base X sx tx U ∧ (M.2.2.2.2 = 0 → U.heap.size ≤ base + m_ncell M))
def m_rm (d1 : Nat) (rr : mR) (M : mM) : Room := { frames := 20 + d1, cells := m_ncell rr.2 - m_ncell M, slots := m_nslot rr.2 - m_nslot M, locals := 300 + 40 * d1 }
theorem m_Pc_blind {As : List Value} : FrameBlind (m_Pc D f tc base X sx tx As M) := by
  intro a U g mk h
  obtain ⟨h1, h2, h3, h4⟩ := h
  exact ⟨h1, h2, h3.go (H := U.heap) (locs := []) rfl va_S.rf (State.WarmedH.refl U), h4⟩
theorem m_Met {m1 : mMeth} {d1 : Nat} {As : List Value} {rr : mR} (hB : m_Body l D f tc base X sx tx m1 d1 As M rr) (hy : plainName m1.1.cls = true) (hh : m1.2.2.2.2.2.1 = []) (hmono : m_ncell M ≤ m_ncell rr.2 ∧ m_nslot M ≤ m_nslot rr.2) :
    vx_Met l m1.1 (.code m1.1 m1.2.1 m1.2.2.1 m1.2.2.2.1 :: gw) (m_rm d1 rr M) (m_Pc D f tc base X sx tx As M) (m_Qc D f tc base rr) (m_XC D f tc base rr) (m_ncell rr.2 - m_ncell M) (m_nslot rr.2 - m_nslot M) (fun q => base ≤ q) := by
  refine vx_ofW hy rfl ?_
  intro p e s m args below meth c s₁ B hml ht hv
  obtain ⟨rfl, hP, hA, hz⟩ := hv
  have hts := atoms_spec (ws := .code m1.1 m1.2.1 m1.2.2.1 m1.2.2.2.1 :: gw) B.pre
  rw [lg_entry_eq]
  refine hB p e _ s m _ below meth c ⟨B.exec, B.bytes, hml, findClass_of_methodNamed B.named, fun w hw => hts w (List.mem_cons_of_mem _ hw), (name_of_methodNamed B.named B.method).1, B.returns, B.notSynchronized, ?_⟩ hA ⟨Nat.le_refl _, Nat.le_refl _⟩ ?_ hP hz
  · rw [show m_raw m1 = [] by unfold m_raw; rw [hh]; rfl]
    cases hq : c.exceptionTable.toList with
    | nil => rfl
    | cons x r => exact (ht x (by rw [hq]; exact List.mem_cons_self)).elim
  · show m_ncell rr.2 ≤ (m_ncell rr.2 - m_ncell M) + _ ∧ m_nslot rr.2 ≤ (m_nslot rr.2 - m_nslot M) + _
    omega
theorem m_MetN {m1 : mMeth} {d1 : Nat} {As : List Value} {rr : mR} {v : Option Value} (hv9 : rr.1 = .inl v) (hB : m_Body l D f tc base X sx tx m1 d1 As M rr) (hy : plainName m1.1.cls = true) (hh : m1.2.2.2.2.2.1 = []) (hmono : m_ncell M ≤ m_ncell rr.2 ∧ m_nslot M ≤ m_nslot rr.2) :
    Met l m1.1 (.code m1.1 m1.2.1 m1.2.2.1 m1.2.2.2.1 :: gw) (m_rm d1 rr M) (m_Pc D f tc base X sx tx As M) (m_Qc D f tc base rr) (m_ncell rr.2 - m_ncell M) (m_nslot rr.2 - m_nslot M) (fun q => base ≤ q) := by
  intro p e h1 h2 h3 s m args below h4 h5 h6 h7
  obtain ⟨n, o, a1, a2, a3, a4⟩ := m_Met hB hy hh hmono p e h1 h2 h3 s m args below h4 h5 h6 h7
  refine ⟨n, o, a1, a2, a3, ?_⟩
  rcases a4 with a4 | ⟨q, -, E, ce, L, ⟨k, hk, -⟩, -⟩
  · exact a4
  · rw [hv9] at hk; cases hk
theorem m_MetW {m1 : mMeth} {d1 : Nat} {As : List Value} {rr : mR} {v : Option Value} (hv9 : rr.1 = .inl v) (hB : m_Body l D f tc base X sx tx m1 d1 As M rr) (hy : plainName m1.1.cls = true) (hmono : m_ncell M ≤ m_ncell rr.2 ∧ m_nslot M ≤ m_nslot rr.2) :
    Met l m1.1 (.codeWith m1.1 m1.2.1 m1.2.2.1 m1.2.2.2.1 (m_raw m1) :: gw) (m_rm d1 rr M) (m_Pc D f tc base X sx tx As M) (m_Qc D f tc base rr) (m_ncell rr.2 - m_ncell M) (m_nslot rr.2 - m_nslot M) (fun q => base ≤ q) := by
  have hM : vx_Met l m1.1 (.codeWith m1.1 m1.2.1 m1.2.2.1 m1.2.2.2.1 (m_raw m1) :: gw) (m_rm d1 rr M) (m_Pc D f tc base X sx tx As M) (m_Qc D f tc base rr) (m_XC D f tc base rr) (m_ncell rr.2 - m_ncell M) (m_nslot rr.2 - m_nslot M) (fun q => base ≤ q) := by
    refine vx_ofWH hy rfl ?_
    intro p e s m args below meth c s₁ B hml hv
    obtain ⟨rfl, hP, hA, hz⟩ := hv
    have hts := atoms_spec (ws := .codeWith m1.1 m1.2.1 m1.2.2.1 m1.2.2.2.1 (m_raw m1) :: gw) B.pre
    rw [lg_entry_eq]
    refine hB p e _ s m _ below meth c ⟨B.exec, B.bytes, hml, findClass_of_methodNamed B.named, fun w hw => hts w (List.mem_cons_of_mem _ hw), (name_of_methodNamed B.named B.method).1, B.returns, B.notSynchronized, vx_table (x := m1.1) B (hts _ List.mem_cons_self)⟩ hA ⟨Nat.le_refl _, Nat.le_refl _⟩ ?_ hP hz
    show m_ncell rr.2 ≤ (m_ncell rr.2 - m_ncell M) + _ ∧ m_nslot rr.2 ≤ (m_nslot rr.2 - m_nslot M) + _
    omega
  intro p e h1 h2 h3 s m args below h4 h5 h6 h7
  obtain ⟨n, o, a1, a2, a3, a4⟩ := hM p e h1 h2 h3 s m args below h4 h5 h6 h7
  refine ⟨n, o, a1, a2, a3, ?_⟩
  rcases a4 with a4 | ⟨q, -, E, ce, L, ⟨k, hk, -⟩, -⟩
  · exact a4
  · rw [hv9] at hk; cases hk
theorem gw_good : GoodIn gw gw := fun w hw => ⟨hw, good_of_word (List.mem_filter.mp hw).2⟩
theorem gw_cons {w : Cond} (h : mw w = true) : GoodIn gw (w :: gw) := fun v hv => (List.mem_cons.mp hv).elim (fun q => by rw [q]; exact ⟨mw_in h, (gw_good _ (mw_in h)).2⟩) (gw_good v)
theorem m_optl {v : Option Value} {r : List Value} : (v.map (m_rho f)).toList ++ r.map (m_rho f) = (v.toList ++ r).map (m_rho f) := by cases v <;> rfl
set_option maxHeartbeats 4000000 in
theorem m_simK {P : List mMeth} {mm m1 : mMeth} {i : Instr} {len a b d1 : Nat} {rr : mR} (C : m_Ctx p s m args meth c mm) (hAmb : m_Amb D f tc base X sx tx s) (hd : decode mm.2.1 pc = .ok (i, m_ilen (i, len, a, b))) (hck : m_ck (i, len, a, b) = 2) (hm1 : P[a]? = some m1) (hok : m_okK P mm.1.cls (i, len, a, b) = true) (hokY : m_okY m1 = true) (hcall : m_call (i, len, a, b) m1 st M = true)
    (hB : m_Body l D f tc base X sx tx m1 d1 (st.take b).reverse M rr) (hmono : m_ncell M ≤ m_ncell rr.2 ∧ m_nslot M ≤ m_nslot rr.2) (hR : 20 + (d1 + 1) ≤ R.frames ∧ 300 + 40 * (d1 + 1) ≤ R.locals) (hroom : m_ncell rr.2 ≤ R.cells + c0 ∧ m_nslot rr.2 ≤ R.slots + s0)
    (hA : m_At D f tc base nL c0 s0 s.heap L M ls H locs cells slots) (hnL : nL = mm.2.2.1)
    (kr : ∀ v, rr.1 = .inl v → ∀ (H1 : Heap) (locs1 : List Loc) (cells1 slots1 : Nat), m_At D f tc base nL c0 s0 s.heap L rr.2 ls H1 locs1 cells1 slots1 → W p l e R s m args below meth c H1 locs1 cells1 slots1 Q (F0 m (pc + 3) ls ((v.toList ++ st.drop b).map (m_rho f))))
    (kx : ∀ k, rr.1 = .inr k → m_fixed (i, len, a, b) m1 = false → ∀ (H1 : Heap) (locs1 : List Loc) (cells1 slots1 : Nat) (q : Addr) (ce : Cell), m_At D f tc base nL c0 s0 s.heap L rr.2 ls H1 locs1 cells1 slots1 → H1[q]? = some ce → ce.vm = .none → s.vm.findClass (m_exc k) = some ce.cls → vx_W p l e R s m args below meth c H1 locs1 cells1 slots1 Q (F0 m pc ls ((st.drop b).map (m_rho f))) q)
    (hfx : m_fixed (i, len, a, b) m1 = true → ∃ v, rr.1 = .inl v) (hx0 : M.2.2.2.2 ≤ rr.2.2.2.2.2) : W p l e R s m args below meth c H locs cells slots Q (F0 m pc ls (st.map (m_rho f))) := by
  obtain ⟨hx, hb, hml, hown, hts, hname, hret, hlk, htab⟩ := C
  obtain ⟨hl, hP, hS, hc0, hs0, hz⟩ := hA
  refine W.sized fun hu => ?_
  have hzH : M.2.2.2.2 = 0 → H.size ≤ base + m_ncell M := fun q => by have := hz q; omega
  simp only [m_call, Bool.and_eq_true, decide_eq_true_eq] at hcall
  obtain ⟨⟨hbl, hdl, hsl⟩, hrcv⟩ := hcall
  obtain ⟨As, hAs⟩ : ∃ As, As = (st.take b).reverse := ⟨_, rfl⟩
  rw [← hAs] at hB hrcv hsl
  have hAslen : As.length = b := by rw [hAs, List.length_reverse, List.length_take]; omega
  have hst : st.map (m_rho f) = (As.map (m_rho f)).reverse ++ (st.drop b).map (m_rho f) := by
    rw [hAs, List.map_reverse, List.reverse_reverse, ← List.map_append, List.take_append_drop]
  have hcs := m_catsum f (st.drop b) 4 hdl
  have hpre : ∀ U : State, U.heap = H → s.WarmedH U.vm → m_Pc D f tc base X sx tx As M (As.map (m_rho f)).toArray U := fun U hU hW => ⟨rfl, by rw [hU]; exact hP, hAmb.go hU hS hW, by rw [hU]; exact hzH⟩
  have hfit : cells + (m_ncell rr.2 - m_ncell M) ≤ R.cells ∧ slots + (m_nslot rr.2 - m_nslot M) ≤ R.slots := by omega
  have hat : ∀ (H1 : Heap) (locs1 : List Loc), m_Pic D f tc base rr.2 H1 → va_S (fun q => base ≤ q) s.heap H1 locs1 → m_At D f tc base nL c0 s0 s.heap L rr.2 ls H1 locs1 (cells + (m_ncell rr.2 - m_ncell M)) (slots + (m_nslot rr.2 - m_nslot M)) := fun H1 locs1 hP1 hS1 => ⟨hl, hP1, hS1, by omega, by omega, fun q => hz (by omega)⟩
  simp only [m_okK, hm1] at hok
  simp only [m_okY, Bool.and_eq_true, decide_eq_true_eq] at hokY
  obtain ⟨⟨⟨⟨⟨hMH, hplain⟩, hmaxL⟩, hini⟩, hcode⟩, hkind⟩ := hokY
  have hRR : (m_rm d1 rr M).frames + 1 ≤ R.frames ∧ 8 + (m1.2.2.1 + 11) + (m_rm d1 rr M).locals ≤ R.locals := by
    show 20 + d1 + 1 ≤ R.frames ∧ 8 + (m1.2.2.1 + 11) + (300 + 40 * d1) ≤ R.locals
    omega
  have hsz : ls.size = mm.2.2.1 := by rw [← hnL]; exact hl.2.1
  cases i <;> try (simp [m_ck] at hck; done)
  case new ix =>
    simp only [m_ck] at hck
    split at hck <;> cases hck
  case invokevirtual ix =>
    dsimp only at hok
    simp only [Bool.and_eq_true, decide_eq_true_eq, List.isEmpty_iff] at hok
    obtain ⟨⟨⟨⟨⟨hcl, hni⟩, hhe⟩, hci⟩, hlink⟩, hdesc, hb1⟩ := hok
    rw [if_pos (by rw [hhe]; rfl)] at hcode
    rw [if_neg (by omega)] at hkind
    simp only [Bool.and_eq_true, Bool.or_eq_true, decide_eq_true_eq] at hkind
    obtain ⟨hinst, hsel⟩ := hkind
    have hsel : mw (.selects m1.1.cls m1.1 m1.1) = true := hsel.elim (fun q => absurd q hni) id
    simp only [m_rcv] at hrcv
    split at hrcv
    · rename_i x9 rd As'
      split at hrcv
      · rename_i kd n hsh
        simp only [decide_eq_true_eq] at hrcv
        subst hrcv
        obtain ⟨q, hq, hqn⟩ : ∃ q, vwCl[m1.2.2.2.2.1]? = some q ∧ q.1 = m1.1.cls := by
          cases hq : vwCl[m1.2.2.2.2.1]? with
          | none => rw [hq] at hci; cases hci
          | some q => rw [hq] at hci; exact ⟨q, rfl, Option.some.inj hci⟩
        have hrec := va_recv hAmb.1 hP.1 hq (m_ws_at (f := f) (tc := tc) hsh)
        rw [hqn] at hrec
        have hM := m_Met hB hplain hhe hmono
        have hgi : GoodIn gw (wsV mm.1.cls ix m1.1.cls m1.1 (.code m1.1 m1.2.1 m1.2.2.1 m1.2.2.2.1 :: gw)) := by
          intro w hw
          simp only [wsV, List.cons_append, List.nil_append, List.mem_cons] at hw
          rcases hw with rfl | rfl | rfl | rfl | rfl | hw
          · exact gw_good _ (mwi_in hlink)
          · exact gw_good _ (mw_in hinst)
          · exact gw_good _ (mw_in hsel)
          · exact gw_good _ (mw_in hini)
          · exact gw_good _ (mw_in hcode)
          · exact gw_good _ hw
        have hrun := vx_runV (As := As'.map (m_rho f)) (rest := (st.drop b).map (m_rho f)) (g := F0 m pc ls (st.map (m_rho f))) (b := f rd) (n := b - 1) (locs := locs) (cells := cells) (slots := slots) (l := l) (e := e) (below := below) (meth := meth)
          ⟨hx, hb, hml, hown, hts⟩ hM (cwV (b - 1) hts hgi rfl rfl rfl ⟨rfl, hMH.1, hMH.2, hdesc⟩ hRR) ⟨m_Pc_blind, hrec, hpre⟩ rfl (by rw [List.length_map]; rw [List.length_cons] at hAslen; omega) hsz (by show st.map (m_rho f) = _; rw [hst]; simp [m_rho]) (lv_room (by omega)) hd hfit
        refine m_goon hrun hS (fun v H1 locs1 hv hP1 hS1 => ?_) (fun k H1 locs1 q ce hk hP1 hS1 h1 h2 h3 => ?_)
        · rw [m_optl]
          exact kr v hv H1 locs1 _ _ (hat H1 locs1 hP1 hS1)
        · exact kx k hk (by simp [m_fixed, hhe]) H1 locs1 _ _ q ce (hat H1 locs1 hP1 hS1) h1 h2 h3
      · cases hrcv
    · cases hrcv
  case invokestatic ix =>
    dsimp only at hok
    simp only [Bool.and_eq_true, decide_eq_true_eq] at hok
    obtain ⟨⟨hcl, hlink⟩, hdesc⟩ := hok
    rw [if_pos hcl] at hkind
    have hstat := hkind
    split at hcode
    · rename_i hhe
      have hhe := List.isEmpty_iff.mp hhe
      have hM := m_Met hB hplain hhe hmono
      have hrun := vx_runS (As := As.map (m_rho f)) (rest := (st.drop b).map (m_rho f)) (g := F0 m pc ls (st.map (m_rho f))) (n := b) (locs := locs) (cells := cells) (slots := slots) (l := l) (e := e) (below := below) (meth := meth)
        ⟨hx, hb, hml, hown, hts⟩ hM ⟨callB_of b hts (gw_cons hcode) rfl rfl rfl (hts _ (mw_in hini)) (hts _ (mwi_in hlink)) ⟨hMH.1, hMH.2, hdesc⟩ hRR, hts _ (mw_in hstat)⟩ ⟨m_Pc_blind, hpre⟩ rfl (by rw [List.length_map]; exact hAslen) hsz hst (lv_room (by omega)) hd hfit
      refine m_goon hrun hS (fun v H1 locs1 hv hP1 hS1 => ?_) (fun k H1 locs1 q ce hk hP1 hS1 h1 h2 h3 => ?_)
      · rw [m_optl]
        exact kr v hv H1 locs1 _ _ (hat H1 locs1 hP1 hS1)
      · exact kx k hk (by simp [m_fixed, hhe]) H1 locs1 _ _ q ce (hat H1 locs1 hP1 hS1) h1 h2 h3
    · rename_i hhe
      obtain ⟨v9, hv9⟩ := hfx (by simpa [m_fixed] using hhe)
      have hM := m_MetW hv9 hB hplain hmono
      have hgi : GoodIn gw (va_wsS mm.1.cls ix m1.1 (.codeWith m1.1 m1.2.1 m1.2.2.1 m1.2.2.2.1 (m_raw m1) :: gw)) := by
        intro w hw
        simp only [va_wsS, List.cons_append, List.nil_append, List.mem_cons] at hw
        rcases hw with rfl | rfl | rfl | rfl | hw
        · exact gw_good _ (mwi_in hlink)
        · exact gw_good _ (mw_in hstat)
        · exact gw_good _ (mw_in hini)
        · exact gw_good _ (mw_in hcode)
        · exact gw_good _ hw
      have hrun := vx_runSW (As := As.map (m_rho f)) (rest := (st.drop b).map (m_rho f)) (g := F0 m pc ls (st.map (m_rho f))) (n := b) (locs := locs) (cells := cells) (slots := slots) (l := l) (e := e) (below := below) (meth := meth)
        ⟨hx, hb, hml, hown, hts⟩ hM (vx_cwSW b hts hgi rfl rfl rfl ⟨hMH.1, hMH.2, hdesc⟩ hRR) ⟨m_Pc_blind, hpre⟩ rfl (by rw [List.length_map]; exact hAslen) hsz hst (lv_room (by omega)) hd hfit
      refine m_goonN hrun hS (fun v H1 locs1 hv hP1 hS1 => ?_)
      rw [m_optl]
      exact kr v hv H1 locs1 _ _ (hat H1 locs1 hP1 hS1)
  case invokespecial ix =>
    dsimp only at hok
    simp only [Bool.and_eq_true, decide_eq_true_eq, List.isEmpty_iff, Bool.or_eq_true] at hok
    obtain ⟨⟨⟨⟨hcl, hhe⟩, hnm, hrn⟩, hlink⟩, hdesc, hb1⟩ := hok
    rw [if_pos (by rw [hhe]; rfl), hrn] at hcode
    rw [if_neg (by omega)] at hkind
    simp only [Bool.and_eq_true] at hkind
    have hinst := hkind.1
    simp only [m_rcv] at hrcv
    split at hrcv
    · rename_i x9 rd As'
      obtain ⟨v9, hv9⟩ := hfx rfl
      have hM := m_MetN hv9 hB hplain hhe hmono
      rw [hrn] at hM
      have hlenA : (As'.map (m_rho f)).length = b - 1 := by rw [List.length_map]; rw [List.length_cons] at hAslen; omega
      have hstk : (F0 m pc ls (st.map (m_rho f))).stack = (As'.map (m_rho f)).reverse ++ .ref (f rd) :: (st.drop b).map (m_rho f) := by show st.map (m_rho f) = _; rw [hst]; simp [m_rho]
      rcases hlink with hlink | hlink
      · have hrun := va_runI (As := As'.map (m_rho f)) (rest := (st.drop b).map (m_rho f)) (g := F0 m pc ls (st.map (m_rho f))) (b := f rd) (n := b - 1) (locs := locs) (cells := cells) (slots := slots) (l := l) (e := e) (below := below) (meth := meth)
          ⟨hx, hb, hml, hown, hts⟩ hM (cwI (b - 1) hts (gw_cons hcode) rfl rfl rfl (hts _ (mw_in hini)) (hts _ (mwi_in hlink)) (hts _ (mw_in hinst)) hnm ⟨hMH.1, hMH.2, hdesc⟩ hRR) ⟨m_Pc_blind, hpre⟩ rfl hlenA hsz hstk (lv_room (by omega)) hd hfit
        refine m_goonN hrun hS (fun v H1 locs1 hv hP1 hS1 => ?_)
        rw [m_optl]
        exact kr v hv H1 locs1 _ _ (hat H1 locs1 hP1 hS1)
      · have hrun := va_runIN (As := As'.map (m_rho f)) (rest := (st.drop b).map (m_rho f)) (g := F0 m pc ls (st.map (m_rho f))) (b := f rd) (n := b - 1) (locs := locs) (cells := cells) (slots := slots) (l := l) (e := e) (below := below) (meth := meth)
          ⟨hx, hb, hml, hown, hts⟩ hM ⟨va_cnB (b - 1) hts (gw_cons hcode) rfl rfl rfl (hAmb.2.2.2.2.1 _ (mx_in hlink)) (hts _ (mw_in hini)) ⟨hMH.1, hMH.2, hdesc⟩ hRR, hnm, hts _ (mw_in hinst)⟩ ⟨m_Pc_blind, hpre⟩ rfl hlenA hsz hstk (lv_room (by omega)) hd hfit
        refine m_goonN hrun hS (fun v H1 locs1 hv hP1 hS1 => ?_)
        rw [m_optl]
        exact kr v hv H1 locs1 _ _ (hat H1 locs1 hP1 hS1)
    · cases hrcv
end SimF
end
section
/-! the throw, and all together -/
def m_okH (mm : mMeth) : Bool := (mm.2.2.2.2.2.1.all fun h => decide (h.2.2.2.2.2 ≠ 0 ∧ (h.2.2.1 = 1 ∨ h.2.2.1 = 2)) && mw (.classLink mm.1.cls h.2.2.2.2.2 (m_exc h.2.2.1)) && mx (.castable (m_exc h.2.2.1) (m_exc h.2.2.1)) && match mm.2.2.2.2.2.2.lookup h.2.2.2.2.1 with
  | some (.astore j, _) => decide (j < mm.2.2.1 ∧ h.2.2.2.1 = h.2.2.2.2.1 + 2 ∧ decode mm.2.1 h.2.2.2.2.1 = .ok (.astore j, 2))
  | some (.astore_n j, _) => decide ((j : Nat) < mm.2.2.1 ∧ h.2.2.2.1 = h.2.2.2.2.1 + 1 ∧ decode mm.2.1 h.2.2.2.2.1 = .ok (.astore_n j, 1))
  | _ => false) && decide (mm.2.2.2.2.2.1.Pairwise (fun a b => a.2.2.1 ≤ b.2.2.1))
theorem mwi_mw {i : Nat} {w : Cond} (h : mwi i w = true) : mw w = true := by
  unfold mwi at h
  unfold mw
  simp only [Bool.and_eq_true, decide_eq_true_eq] at h ⊢
  exact ⟨List.mem_of_getElem? h.1, h.2⟩
def m_okYi (i1 i2 i3 i4 : Nat) (m1 : mMeth) : Bool := decide (m1.1.cls ≠ "java/lang/invoke/MethodHandle" ∧ m1.1.cls ≠ "java/lang/invoke/VarHandle") && plainName m1.1.cls && decide (m1.2.2.1 ≤ 13) && mwi i1 (.initialized m1.1.cls) && (if m1.2.2.2.2.2.1.isEmpty = true then mwi i2 (.code m1.1 m1.2.1 m1.2.2.1 m1.2.2.2.1) else mwi i2 (.codeWith m1.1 m1.2.1 m1.2.2.1 m1.2.2.2.1 (m_raw m1))) && (if 100 ≤ m1.2.2.2.2.1 then mwi i3 (.static m1.1) else mwi i3 (.instanceMethod m1.1) && (decide (m1.1.name = "<init>") || mwi i4 (.selects m1.1.cls m1.1 m1.1)))
theorem m_okY_of {i1 i2 i3 i4 : Nat} {m1 : mMeth} (h : m_okYi i1 i2 i3 i4 m1 = true) : m_okY m1 = true := by
  unfold m_okYi at h
  unfold m_okY
  simp only [Bool.and_eq_true] at h ⊢
  obtain ⟨⟨⟨⟨⟨h1, h2⟩, h3⟩, h4⟩, h5⟩, h6⟩ := h
  refine ⟨⟨⟨⟨⟨h1, h2⟩, h3⟩, mwi_mw h4⟩, ?_⟩, ?_⟩
  · split at h5
    · rename_i q; rw [if_pos q]; exact mwi_mw h5
    · rename_i q; rw [if_neg q]; exact mwi_mw h5
  · split at h6
    · rename_i q; rw [if_pos q]; exact mwi_mw h6
    · rename_i q
      rw [if_neg q]
      simp only [Bool.and_eq_true, Bool.or_eq_true] at h6 ⊢
      exact ⟨mwi_mw h6.1, h6.2.elim Or.inl (fun z => Or.inr (mwi_mw z))⟩
section SimG
variable {p : Program} {l : Launch} {e : Env} {R : Room} {s : State} {m : MethodId} {args : Array Value} {below : List Frame} {meth : Method} {c : Code} {H : Heap} {locs : List Loc} {cells slots : Nat} {Q : State → Prop}
variable {D : va_G} {f : Nat → Nat} {tc : Nat → ClassId} {base nL c0 s0 : Nat} {tx : List (List Int32)} {X : Nat × (Nat → Int32)} {sx : List (String × Nat × String)} {pc : Nat} {L : mL} {st : List Value} {M : mM} {ls : Array Slot}
set_option maxHeartbeats 4000000 in
theorem m_simT {mm : mMeth} {i : Instr} {len a b : Nat} (hlt : l.stackTraces = false) (C : m_Ctx p s m args meth c mm) (hAmb : m_Amb D f tc base X sx tx s) (hd : decode mm.2.1 pc = .ok (i, m_ilen (i, len, a, b))) (hok : m_okT mm pc (i, len, a, b) = true) (hst : st.length ≤ 8) (hR : 20 ≤ R.frames ∧ 300 ≤ R.locals)
    (hroom : m_ncell (m_thr M) ≤ R.cells + c0 ∧ m_nslot (m_thr M) ≤ R.slots + s0) (hA : m_At D f tc base mm.2.2.1 c0 s0 s.heap L M ls H locs cells slots) :
    W p l e R s m args below meth c H locs cells slots (vx_MQ below (m_Qc D f tc base (.inr (a - 2000), m_thr M)) (m_XC D f tc base (.inr (a - 2000), m_thr M)) args s (m_ncell (m_thr M) - c0) (m_nslot (m_thr M) - s0) (fun q => base ≤ q)) (F0 m pc ls (st.map (m_rho f))) := by
  obtain ⟨hx, hb, hml, hown, hts, hname, hret, hlk, htab⟩ := C
  obtain ⟨hl, hP, hS, hc0, hs0, hz⟩ := hA
  have n1 : m_ncell (m_thr M) = m_ncell M + 1 := by unfold m_ncell m_thr; dsimp only; omega
  have n2 : m_nslot (m_thr M) = m_nslot M + 6 := by unfold m_nslot m_thr; dsimp only; omega
  unfold m_okT at hok
  split at hok
  · rename_i ik hi
    dsimp only at hi
    subst hi
    dsimp only at hok
    simp only [Bool.and_eq_true, decide_eq_true_eq, List.isEmpty_iff, List.all_eq_true] at hok
    obtain ⟨⟨⟨⟨⟨hhe, d3, d4, d7⟩, hfit⟩, hcl⟩, hini⟩, hall⟩ := hok
    have hcs := m_catsum f st 8 hst
    have hw : ∀ w ∈ vx_at0 mm.1.cls b (m_exc (a - 2000)) m_names, w.before args s = true := fun w hw => by
      have h1 := (hall w hw).1
      rw [Bool.or_eq_true] at h1
      rcases h1 with h1 | h1
      · exact hts _ (mw_in h1)
      · exact xw_use (mx_in h1) (hAmb.2.2.2.2.1 _ (mx_in h1))
    refine vx_throw0 (names := m_names) (ik := ik) (ic := b) hx hb hlt hown hfit (by decide) (hts _ (mw_in hcl)) (hts _ (mw_in hini)) hw (fun w hw => ?_) hAmb.2.2.2.2.2.1.1 hAmb.2.2.2.2.2.1.2 hS (hl.2.1.trans hml.symm) hd d3 d4 d7 ?_ (by show 2 + 3 < R.frames; omega) (by show _ + (13 * (2 + 1) + 42) ≤ R.locals; omega) (by omega) (by omega) hlk ?_ hS.2.2 (by omega) (by omega)
    · simp only [List.mem_cons] at hw
      rcases hw with rfl | rfl | hw
      · rfl
      · rfl
      · exact (hall w hw).2
    · rw [htab, show m_raw mm = [] by unfold m_raw; rw [hhe]; rfl]
      intro x hx; cases hx
    · intro t hal hsz ho
      refine ⟨a - 2000, rfl, rfl, ⟨hP.1.kept (fun k q hk => ho _ (hP.1 k q hk).lt), hP.2⟩, Nat.le_trans hS.1 hsz, fun q h1 h2 => ?_⟩
      rw [ho q (Nat.lt_of_lt_of_le h1 hS.1)]
      exact hS.2.1 q h1 h2
  · cases hok
/-- catching -/
def m_CT (l : Launch) (D : va_G) (f : Nat → Nat) (tc : Nat → ClassId) (base : Nat) (X : Nat × (Nat → Int32)) (sx : List (String × Nat × String)) (tx : List (List Int32)) : Prop :=
  ∀ (p : Program) (e : Env) (R : Room) (s : State) (m : MethodId) (args : Array Value) (below : List Frame) (meth : Method) (c : Code) (mm : mMeth), m_Ctx p s m args meth c mm → m_Amb D f tc base X sx tx s → m_okH mm = true → ∀ (pc k t : Nat) (H : Heap) (locs : List Loc) (cells slots : Nat) (Q : State → Prop) (ls : Array Slot) (L : mL) (rest : List Value) (q : Addr) (ce : Cell),
    m_hand mm.2.2.2.2.2.1 pc k = some t → H[q]? = some ce → ce.vm = .none → s.vm.findClass (m_exc k) = some ce.cls → m_Lv f mm.2.2.1 ls L → (∀ ls' : Array Slot, m_Lv f mm.2.2.1 ls' (List.replicate L.length none) → W p l e R s m args below meth c H locs cells slots Q (F0 m t ls' [])) → vx_W p l e R s m args below meth c H locs cells slots Q (F0 m pc ls rest) q
set_option maxHeartbeats 4000000 in
theorem m_sim {P : List mMeth} (hlt : l.stackTraces = false) (OK : ∀ (y : Nat) (mm : mMeth), P[y]? = some mm → (∀ e ∈ mm.2.2.2.2.2.2, m_okOp P sx mm e = true) ∧ m_okH mm = true) (OKY : ∀ (y z : Nat) (mm m1 : mMeth) (pc : Nat) (op : mOp), P[y]? = some mm → mm.2.2.2.2.2.2.lookup pc = some op → m_ck op = 2 → P[op.2.2.1]? = some m1 → m_okY m1 = true)
    (HTX : ∀ (p : Program) (e : Env) (R : Room) (s : State) (m : MethodId) (args : Array Value) (below : List Frame) (meth : Method) (c : Code) (mm : mMeth), m_Ctx p s m args meth c mm → m_Amb D f tc base X sx tx s → 20 ≤ R.frames ∧ 300 ≤ R.locals → m_TX p l e R s m args below meth c mm.2.1 mm.1.cls f base mm.2.2.1 tx)
    (HCT : m_CT l D f tc base X sx tx) : ∀ (n d y : Nat) (cf : mC) (r : mR), m_run P tx X n d y cf = some r → ∀ mm : mMeth, P[y]? = some mm → ∀ (p : Program) (e : Env) (R : Room) (s : State) (m : MethodId) (args : Array Value) (below : List Frame) (meth : Method) (c : Code) (ls : Array Slot) (H : Heap) (locs : List Loc) (cells slots c0 s0 : Nat), m_Ctx p s m args meth c mm → m_Amb D f tc base X sx tx s → 20 + d ≤ R.frames ∧ 300 + 40 * d ≤ R.locals → m_ncell r.2 ≤ R.cells + c0 ∧ m_nslot r.2 ≤ R.slots + s0 →
      m_At D f tc base mm.2.2.1 c0 s0 s.heap cf.2.1 cf.2.2.2 ls H locs cells slots →
      W p l e R s m args below meth c H locs cells slots (vx_MQ below (m_Qc D f tc base r) (m_XC D f tc base r) args s (m_ncell r.2 - c0) (m_nslot r.2 - s0) (fun q => base ≤ q)) (F0 m cf.1 ls (cf.2.2.1.map (m_rho f))) := by
  intro n
  induction n with
  | zero => intro d y cf r h; simp [m_run] at h
  | succ n ih =>
    intro d y cf r h mm hmm p e R s m args below meth c ls H locs cells slots c0 s0 C hAmb hR hroom hA
    obtain ⟨pc, L, st, M⟩ := cf
    obtain ⟨mm', op, hmm', hop, hcase⟩ := m_run_s h
    cases hmm.symm.trans hmm'
    have hmem := m_lookup_mem _ _ _ hop
    have hok := (OK y mm hmm).1 _ hmem
    obtain ⟨i, len, a, b⟩ := op
    simp only [m_okOp, Bool.and_eq_true, decide_eq_true_eq] at hok
    obtain ⟨hd, hok⟩ := hok
    dsimp only at hcase hA ⊢
    rcases hcase with ⟨hck, c1, hstep, hrun⟩ | ⟨hck, v, hret, rfl⟩ | ⟨hck, d1, m1, res, rfl, hm1, hcall, hres, hcont⟩ | ⟨hck, hlen, rfl⟩
    · rw [hck] at hok
      try dsimp only at hok
      have hmn := m_run_mono _ _ _ _ _ hrun
      have kk : m_K p l e R s m args below meth c (vx_MQ below (m_Qc D f tc base r) (m_XC D f tc base r) args s (m_ncell r.2 - c0) (m_nslot r.2 - s0) (fun q => base ≤ q)) D f tc base mm.2.2.1 c0 s0 s.heap c1 := fun ls' H' locs' cells' slots' hA' => ih d y c1 r hrun mm hmm p e R s m args below meth c ls' H' locs' cells' slots' c0 s0 C hAmb hR hroom hA'
      obtain ⟨hx, hb, hml, hown, hts, hname, hret, hlk, htab⟩ := id C
      simp only [Bool.or_eq_true, Bool.and_eq_true] at hok
      rcases hok with ((h1 | h1) | ⟨h1, h2⟩) | ⟨h1, h2⟩
      · exact m_simA hx hb hd hstep hA kk h1
      · exact m_simB hx hb hd hstep hAmb.1 hAmb.2.2.1.2 (Nat.lt_of_lt_of_le hAmb.2.2.1.1 hAmb.2.1) (Nat.not_le.mpr hAmb.2.2.1.1) hA kk h1
      · exact m_simC hx hb hd hstep hts (fun w hw => xw_use hw (hAmb.2.2.2.2.1 w hw)) hown (by rw [hname]; exact h2) hAmb.1 hAmb.2.2.2.2.2.2.2.2 hAmb.2.1 (by omega) hA kk h1
      · exact m_simD hx hb hml hd hstep hts hown h2 hAmb.1 hAmb.2.2.2.1 (HTX p e R s m args below meth c mm C hAmb (by omega)) (by omega) (by omega) hA kk h1
    · exact m_simR C.1 C.2.1 hd C.2.2.2.2.2.2.1 C.2.2.2.2.2.2.2.1 hret hA
    · rw [hck] at hok
      try dsimp only at hok
      try dsimp only at hm1
      try dsimp only at hcall
      try dsimp only at hres
      try dsimp only at hcont
      have hmn := m_run_mono _ _ _ _ _ hres
      dsimp only at hmn
      have hB : m_Body l D f tc base X sx tx m1 d1 (st.take b).reverse M res := by
        intro p e R s m args below meth c C' hAmb' hR' hroom' hP' hz'
        have hsl : (m_slots (st.take b).reverse).length ≤ m1.2.2.1 := by
          simp only [m_call, Bool.and_eq_true, decide_eq_true_eq] at hcall
          exact hcall.1.2.2
        exact ih d1 a _ res hres m1 hm1 p e R s m args below meth c _ s.heap [] 0 0 (m_ncell M) (m_nslot M) C' hAmb' hR' hroom' ⟨m_Lv_ent hsl, hP', va_S.rf, Nat.zero_add _, Nat.zero_add _, hz'⟩
      have hbound : m_ncell res.2 ≤ R.cells + c0 ∧ m_nslot res.2 ≤ R.slots + s0 := by
        rcases hcont with ⟨v, hv, h2⟩ | ⟨k, hk, -, -, rfl⟩ | ⟨k, t, hk, -, -, h2⟩
        · have := m_run_mono _ _ _ _ _ h2; dsimp only at this; omega
        · exact hroom
        · have := m_run_mono _ _ _ _ _ h2; dsimp only at this; omega
      refine m_simK (P := P) C hAmb hd hck hm1 hok (OKY y 0 mm m1 _ _ hmm hop hck hm1) hcall hB ⟨hmn.1, hmn.2.1⟩ hR hbound hA rfl (fun v hv H1 locs1 cells1 slots1 hA1 => ?_) (fun k hk hnf H1 locs1 cells1 slots1 q ce hA1 hc1 hc2 hc3 => ?_) (fun hf1 => ?_) hmn.2.2
      · rcases hcont with ⟨v', hv', h2⟩ | ⟨k, hk, -⟩ | ⟨k, t, hk, -⟩
        · cases hv.symm.trans hv'
          exact ih _ y _ r h2 mm hmm p e R s m args below meth c ls H1 locs1 cells1 slots1 c0 s0 C hAmb hR hroom hA1
        · rw [hv] at hk; cases hk
        · rw [hv] at hk; cases hk
      · rcases hcont with ⟨v', hv', -⟩ | ⟨k', hk', -, hhe, rfl⟩ | ⟨k', t, hk', -, hh, h2⟩
        · rw [hk] at hv'; cases hv'
        · cases hk.symm.trans hk'
          obtain ⟨hl1, hP1, hS1, hcc, hss, hz1⟩ := hA1
          refine vx_out ?_ C.2.2.2.2.2.2.2.1 hc1 hc2 hc3 (fun t ht _ => ⟨k, rfl, rfl, by rw [ht]; exact hP1, hS1.F ht⟩) hS1.2.2 (by dsimp only; omega) (by dsimp only; omega)
          rw [C.2.2.2.2.2.2.2.2, show m_raw mm = [] by unfold m_raw; rw [hhe]; rfl]
          intro x hx; cases hx
        · cases hk.symm.trans hk'
          obtain ⟨hl1, hP1, hS1, hcc, hss, hz1⟩ := hA1
          exact HCT p e R s m args below meth c mm C hAmb (OK y mm hmm).2 pc k t H1 locs1 cells1 slots1 _ ls L _ q ce hh hc1 hc2 hc3 hl1 (fun ls' hl' => ih _ y _ r h2 mm hmm p e R s m args below meth c ls' H1 locs1 cells1 slots1 c0 s0 C hAmb hR hroom ⟨hl', hP1, hS1, hcc, hss, hz1⟩)
      · rcases hcont with ⟨v', hv', -⟩ | ⟨k', hk', hf2, -⟩ | ⟨k', t, hk', hf2, -⟩
        · exact ⟨v', hv'⟩
        · rw [hf1] at hf2; cases hf2
        · rw [hf1] at hf2; cases hf2
    · have hok2 : m_okT mm pc (i, len, a, b) = true := by
        split at hok
        · rename_i q; omega
        · rename_i q; omega
        · rename_i q; omega
        · exact hok
      exact m_simT hlt C hAmb hd hok2 hlen (by omega) hroom hA
end SimG
end
section
/-- the text constants: class, entry, text -/
def mSx : List (String × Nat × String) := [("DarnEggs$Village", 92, "egg"), ("DarnEggs$Village", 98, "hand"), ("DarnEggs$Village", 100, "hole"), ("DarnEggs$Village", 102, "path"), ("DarnEggs$Village", 104, "wool"), ("DarnEggs$Village", 105, "moths"), ("DarnEggs$Law", 74, "least"), ("DarnEggs$Law", 84, "most"), ("DarnEggs$Law", 97, "heels"), ("DarnEggs$Law", 99, "anger"), ("DarnEggs$Law", 101, "wear"), ("DarnEggs$Law", 103, "ridge"), ("DarnEggs$Law", 105, "wool"), ("DarnEggs$Law", 107, "hooks"), ("DarnEggs$Law", 109, "day"), ("DarnEggs$Law", 111, "hand"), ("DarnEggs$Steps", 89, "darn"), ("DarnEggs$Steps", 95, "let"), ("DarnEggs$Steps", 97, "call"), ("DarnEggs$Steps", 99, "unpick"), ("DarnEggs$Steps", 101, "shear"), ("DarnEggs$Steps", 103, "day"), ("DarnEggs$Steps", 105, "again"), ("DarnEggsModel", 211, "egg"), ("DarnEggsModel", 217, "hand"), ("DarnEggsModel", 219, "hole"), ("DarnEggsModel", 221, "path"), ("DarnEggsModel", 222, "wool"), ("DarnEggsModel", 224, "moths"), ("DarnEggsModel", 294, "least"), ("DarnEggsModel", 299, "most"), ("DarnEggsModel", 283, "heels"), ("DarnEggsModel", 285, "anger"), ("DarnEggsModel", 286, "wear"), ("DarnEggsModel", 288, "ridge"), ("DarnEggsModel", 290, "hooks"), ("DarnEggsModel", 292, "day"), ("DarnEggsModel", 314, "darn"), ("DarnEggsModel", 326, "let"), ("DarnEggsModel", 328, "call"), ("DarnEggsModel", 330, "unpick"), ("DarnEggsModel", 332, "shear"), ("DarnEggsModel", 334, "again")]
end
section
/-! the text constants, as the Statement has them: by their places in it (written by program) -/
def nfl : List Cond := flatC (Jvm.Cond.and given_1 narrow_1)
def t_val (q : String × Nat × String) : Term := .field (.string q.1 q.2.1) "java/lang/String" "value" "[B"
def t_S (q : String × Nat × String) (t : List Int32) : List Cond := [.exactly (.string q.1 q.2.1) "java/lang/String", .eq (.field (.string q.1 q.2.1) "java/lang/String" "coder" "B") (.int 0), .arrayOf (t_val q) .byte, .eq (.length (t_val q)) (.int (Int32.ofNat t.length))] ++ (List.range t.length).map (fun j => .eq (.elem (t_val q) (.int (Int32.ofNat j))) (.int (t.getD j 0)))
def t_ok (ix : List Nat) (z : (String × Nat × String) × List Int32) : Bool := decide ((t_S z.1 z.2).map some = ix.map (fun j => nfl[j]?))
theorem t_ok_s {ix : List Nat} {z : (String × Nat × String) × List Int32} (h : t_ok ix z = true) : ∀ w ∈ t_S z.1 z.2, w ∈ nfl := by
  intro w hw
  simp only [t_ok, decide_eq_true_eq] at h
  have h1 : some w ∈ ix.map (fun j => nfl[j]?) := by rw [← h]; exact List.mem_map.mpr ⟨w, hw, rfl⟩
  obtain ⟨j, -, hj⟩ := List.mem_map.mp h1
  exact List.mem_of_getElem? hj
set_option maxRecDepth 1000000 in
theorem kt_S0 : t_ok [71, 72, 73, 74, 75, 76, 77] (("DarnEggs$Village", 92, "egg"), [101, 103, 103]) = true := by decide +kernel
set_option maxRecDepth 1000000 in
theorem kt_S1 : t_ok [78, 79, 80, 81, 82, 83, 84, 85] (("DarnEggs$Village", 98, "hand"), [104, 97, 110, 100]) = true := by decide +kernel
set_option maxRecDepth 1000000 in
theorem kt_S2 : t_ok [86, 87, 88, 89, 90, 91, 92, 93] (("DarnEggs$Village", 100, "hole"), [104, 111, 108, 101]) = true := by decide +kernel
set_option maxRecDepth 1000000 in
theorem kt_S3 : t_ok [94, 95, 96, 97, 98, 99, 100, 101] (("DarnEggs$Village", 102, "path"), [112, 97, 116, 104]) = true := by decide +kernel
set_option maxRecDepth 1000000 in
theorem kt_S4 : t_ok [102, 103, 104, 105, 106, 107, 108, 109] (("DarnEggs$Village", 104, "wool"), [119, 111, 111, 108]) = true := by decide +kernel
set_option maxRecDepth 1000000 in
theorem kt_S5 : t_ok [110, 111, 112, 113, 114, 115, 116, 117, 118] (("DarnEggs$Village", 105, "moths"), [109, 111, 116, 104, 115]) = true := by decide +kernel
set_option maxRecDepth 1000000 in
theorem kt_S6 : t_ok [119, 120, 121, 122, 123, 124, 125, 126, 127] (("DarnEggs$Law", 74, "least"), [108, 101, 97, 115, 116]) = true := by decide +kernel
set_option maxRecDepth 1000000 in
theorem kt_S7 : t_ok [128, 129, 130, 131, 132, 133, 134, 135] (("DarnEggs$Law", 84, "most"), [109, 111, 115, 116]) = true := by decide +kernel
set_option maxRecDepth 1000000 in
theorem kt_S8 : t_ok [136, 137, 138, 139, 140, 141, 142, 143, 144] (("DarnEggs$Law", 97, "heels"), [104, 101, 101, 108, 115]) = true := by decide +kernel
set_option maxRecDepth 1000000 in
theorem kt_S9 : t_ok [145, 146, 147, 148, 149, 150, 151, 152, 153] (("DarnEggs$Law", 99, "anger"), [97, 110, 103, 101, 114]) = true := by decide +kernel
set_option maxRecDepth 1000000 in
theorem kt_S10 : t_ok [154, 155, 156, 157, 158, 159, 160, 161] (("DarnEggs$Law", 101, "wear"), [119, 101, 97, 114]) = true := by decide +kernel
set_option maxRecDepth 1000000 in
theorem kt_S11 : t_ok [162, 163, 164, 165, 166, 167, 168, 169, 170] (("DarnEggs$Law", 103, "ridge"), [114, 105, 100, 103, 101]) = true := by decide +kernel
set_option maxRecDepth 1000000 in
theorem kt_S12 : t_ok [171, 172, 173, 174, 175, 176, 177, 178] (("DarnEggs$Law", 105, "wool"), [119, 111, 111, 108]) = true := by decide +kernel
set_option maxRecDepth 1000000 in
theorem kt_S13 : t_ok [180, 181, 182, 183, 184, 185, 186, 187, 188] (("DarnEggs$Law", 107, "hooks"), [104, 111, 111, 107, 115]) = true := by decide +kernel
set_option maxRecDepth 1000000 in
theorem kt_S14 : t_ok [189, 190, 191, 192, 193, 194, 195] (("DarnEggs$Law", 109, "day"), [100, 97, 121]) = true := by decide +kernel
set_option maxRecDepth 1000000 in
theorem kt_S15 : t_ok [196, 197, 198, 199, 200, 201, 202, 203] (("DarnEggs$Law", 111, "hand"), [104, 97, 110, 100]) = true := by decide +kernel
set_option maxRecDepth 1000000 in
theorem kt_S16 : t_ok [205, 206, 207, 208, 209, 210, 211, 212] (("DarnEggs$Steps", 89, "darn"), [100, 97, 114, 110]) = true := by decide +kernel
set_option maxRecDepth 1000000 in
theorem kt_S17 : t_ok [213, 214, 215, 216, 217, 218, 219] (("DarnEggs$Steps", 95, "let"), [108, 101, 116]) = true := by decide +kernel
set_option maxRecDepth 1000000 in
theorem kt_S18 : t_ok [220, 221, 222, 223, 224, 225, 226, 227] (("DarnEggs$Steps", 97, "call"), [99, 97, 108, 108]) = true := by decide +kernel
set_option maxRecDepth 1000000 in
theorem kt_S19 : t_ok [228, 229, 230, 231, 232, 233, 234, 235, 236, 237] (("DarnEggs$Steps", 99, "unpick"), [117, 110, 112, 105, 99, 107]) = true := by decide +kernel
set_option maxRecDepth 1000000 in
theorem kt_S20 : t_ok [238, 239, 240, 241, 242, 243, 244, 245, 246] (("DarnEggs$Steps", 101, "shear"), [115, 104, 101, 97, 114]) = true := by decide +kernel
set_option maxRecDepth 1000000 in
theorem kt_S21 : t_ok [247, 248, 249, 250, 251, 252, 253] (("DarnEggs$Steps", 103, "day"), [100, 97, 121]) = true := by decide +kernel
set_option maxRecDepth 1000000 in
theorem kt_S22 : t_ok [255, 256, 257, 258, 259, 260, 261, 262, 263] (("DarnEggs$Steps", 105, "again"), [97, 103, 97, 105, 110]) = true := by decide +kernel
set_option maxRecDepth 1000000 in
theorem kt_S23 : t_ok [264, 265, 266, 267, 268, 269, 270] (("DarnEggsModel", 211, "egg"), [101, 103, 103]) = true := by decide +kernel
set_option maxRecDepth 1000000 in
theorem kt_S24 : t_ok [272, 273, 274, 275, 276, 277, 278, 279] (("DarnEggsModel", 217, "hand"), [104, 97, 110, 100]) = true := by decide +kernel
set_option maxRecDepth 1000000 in
theorem kt_S25 : t_ok [282, 283, 284, 285, 286, 287, 288, 289] (("DarnEggsModel", 219, "hole"), [104, 111, 108, 101]) = true := by decide +kernel
set_option maxRecDepth 1000000 in
theorem kt_S26 : t_ok [291, 292, 293, 294, 295, 296, 297, 298] (("DarnEggsModel", 221, "path"), [112, 97, 116, 104]) = true := by decide +kernel
set_option maxRecDepth 1000000 in
theorem kt_S27 : t_ok [300, 301, 302, 303, 304, 305, 306, 307] (("DarnEggsModel", 222, "wool"), [119, 111, 111, 108]) = true := by decide +kernel
set_option maxRecDepth 1000000 in
theorem kt_S28 : t_ok [310, 311, 312, 313, 314, 315, 316, 317, 318] (("DarnEggsModel", 224, "moths"), [109, 111, 116, 104, 115]) = true := by decide +kernel
set_option maxRecDepth 1000000 in
theorem kt_S29 : t_ok [320, 321, 322, 323, 324, 325, 326, 327, 328] (("DarnEggsModel", 294, "least"), [108, 101, 97, 115, 116]) = true := by decide +kernel
set_option maxRecDepth 1000000 in
theorem kt_S30 : t_ok [330, 331, 332, 333, 334, 335, 336, 337] (("DarnEggsModel", 299, "most"), [109, 111, 115, 116]) = true := by decide +kernel
set_option maxRecDepth 1000000 in
theorem kt_S31 : t_ok [339, 340, 341, 342, 343, 344, 345, 346, 347] (("DarnEggsModel", 283, "heels"), [104, 101, 101, 108, 115]) = true := by decide +kernel
set_option maxRecDepth 1000000 in
theorem kt_S32 : t_ok [349, 350, 351, 352, 353, 354, 355, 356, 357] (("DarnEggsModel", 285, "anger"), [97, 110, 103, 101, 114]) = true := by decide +kernel
set_option maxRecDepth 1000000 in
theorem kt_S33 : t_ok [359, 360, 361, 362, 363, 364, 365, 366] (("DarnEggsModel", 286, "wear"), [119, 101, 97, 114]) = true := by decide +kernel
set_option maxRecDepth 1000000 in
theorem kt_S34 : t_ok [368, 369, 370, 371, 372, 373, 374, 375, 376] (("DarnEggsModel", 288, "ridge"), [114, 105, 100, 103, 101]) = true := by decide +kernel
set_option maxRecDepth 1000000 in
theorem kt_S35 : t_ok [378, 379, 380, 381, 382, 383, 384, 385, 386] (("DarnEggsModel", 290, "hooks"), [104, 111, 111, 107, 115]) = true := by decide +kernel
set_option maxRecDepth 1000000 in
theorem kt_S36 : t_ok [388, 389, 390, 391, 392, 393, 394] (("DarnEggsModel", 292, "day"), [100, 97, 121]) = true := by decide +kernel
set_option maxRecDepth 1000000 in
theorem kt_S37 : t_ok [397, 398, 399, 400, 401, 402, 403, 404] (("DarnEggsModel", 314, "darn"), [100, 97, 114, 110]) = true := by decide +kernel
set_option maxRecDepth 1000000 in
theorem kt_S38 : t_ok [406, 407, 408, 409, 410, 411, 412] (("DarnEggsModel", 326, "let"), [108, 101, 116]) = true := by decide +kernel
set_option maxRecDepth 1000000 in
theorem kt_S39 : t_ok [414, 415, 416, 417, 418, 419, 420, 421] (("DarnEggsModel", 328, "call"), [99, 97, 108, 108]) = true := by decide +kernel
set_option maxRecDepth 1000000 in
theorem kt_S40 : t_ok [423, 424, 425, 426, 427, 428, 429, 430, 431, 432] (("DarnEggsModel", 330, "unpick"), [117, 110, 112, 105, 99, 107]) = true := by decide +kernel
set_option maxRecDepth 1000000 in
theorem kt_S41 : t_ok [434, 435, 436, 437, 438, 439, 440, 441, 442] (("DarnEggsModel", 332, "shear"), [115, 104, 101, 97, 114]) = true := by decide +kernel
set_option maxRecDepth 1000000 in
theorem kt_S42 : t_ok [444, 445, 446, 447, 448, 449, 450, 451, 452] (("DarnEggsModel", 334, "again"), [97, 103, 97, 105, 110]) = true := by decide +kernel
theorem kt_S : ∀ z ∈ mSx.zip mT, ∀ w ∈ t_S z.1 z.2, w ∈ nfl := List.forall_mem_cons.mpr ⟨t_ok_s kt_S0, List.forall_mem_cons.mpr ⟨t_ok_s kt_S1, List.forall_mem_cons.mpr ⟨t_ok_s kt_S2, List.forall_mem_cons.mpr ⟨t_ok_s kt_S3, List.forall_mem_cons.mpr ⟨t_ok_s kt_S4, List.forall_mem_cons.mpr ⟨t_ok_s kt_S5, List.forall_mem_cons.mpr ⟨t_ok_s kt_S6, List.forall_mem_cons.mpr ⟨t_ok_s kt_S7, List.forall_mem_cons.mpr ⟨t_ok_s kt_S8, List.forall_mem_cons.mpr ⟨t_ok_s kt_S9, List.forall_mem_cons.mpr ⟨t_ok_s kt_S10, List.forall_mem_cons.mpr ⟨t_ok_s kt_S11, List.forall_mem_cons.mpr ⟨t_ok_s kt_S12, List.forall_mem_cons.mpr ⟨t_ok_s kt_S13, List.forall_mem_cons.mpr ⟨t_ok_s kt_S14, List.forall_mem_cons.mpr ⟨t_ok_s kt_S15, List.forall_mem_cons.mpr ⟨t_ok_s kt_S16, List.forall_mem_cons.mpr ⟨t_ok_s kt_S17, List.forall_mem_cons.mpr ⟨t_ok_s kt_S18, List.forall_mem_cons.mpr ⟨t_ok_s kt_S19, List.forall_mem_cons.mpr ⟨t_ok_s kt_S20, List.forall_mem_cons.mpr ⟨t_ok_s kt_S21, List.forall_mem_cons.mpr ⟨t_ok_s kt_S22, List.forall_mem_cons.mpr ⟨t_ok_s kt_S23, List.forall_mem_cons.mpr ⟨t_ok_s kt_S24, List.forall_mem_cons.mpr ⟨t_ok_s kt_S25, List.forall_mem_cons.mpr ⟨t_ok_s kt_S26, List.forall_mem_cons.mpr ⟨t_ok_s kt_S27, List.forall_mem_cons.mpr ⟨t_ok_s kt_S28, List.forall_mem_cons.mpr ⟨t_ok_s kt_S29, List.forall_mem_cons.mpr ⟨t_ok_s kt_S30, List.forall_mem_cons.mpr ⟨t_ok_s kt_S31, List.forall_mem_cons.mpr ⟨t_ok_s kt_S32, List.forall_mem_cons.mpr ⟨t_ok_s kt_S33, List.forall_mem_cons.mpr ⟨t_ok_s kt_S34, List.forall_mem_cons.mpr ⟨t_ok_s kt_S35, List.forall_mem_cons.mpr ⟨t_ok_s kt_S36, List.forall_mem_cons.mpr ⟨t_ok_s kt_S37, List.forall_mem_cons.mpr ⟨t_ok_s kt_S38, List.forall_mem_cons.mpr ⟨t_ok_s kt_S39, List.forall_mem_cons.mpr ⟨t_ok_s kt_S40, List.forall_mem_cons.mpr ⟨t_ok_s kt_S41, List.forall_mem_cons.mpr ⟨t_ok_s kt_S42, fun _ h => (List.not_mem_nil h).elim⟩⟩⟩⟩⟩⟩⟩⟩⟩⟩⟩⟩⟩⟩⟩⟩⟩⟩⟩⟩⟩⟩⟩⟩⟩⟩⟩⟩⟩⟩⟩⟩⟩⟩⟩⟩⟩⟩⟩⟩⟩⟩⟩
end
section
/-! catching: the table's rows, one behind the other, in the small machine's words -/
section Catch
/-- the search through the rows ends at a handler -/
def mc_Ok (s0 : State) (pl : Platform) (d : ClassId) (pc : Nat) (thrown : ClassId) (hp : Nat) : List ExceptionTableEntry → Prop
  | [] => False
  | x :: t => (covers x pc = false ∧ mc_Ok s0 pl d pc thrown hp t) ∨ (covers x pc = true ∧ x.catchType ≠ 0 ∧ ∃ k : ClassId, s0.vm.ClassLinks pl d x.catchType k ∧ ((s0.vm.assignable thrown k = true ∧ x.handlerPc = hp) ∨ (s0.vm.assignable thrown k = false ∧ mc_Ok s0 pl d pc thrown hp t)))
theorem mc_row {Q : Handler → Pre} {E : CtlPost} {e : Env} {d : Bool} {acts : List Action} {S : State} {g : JFrame} {a : Addr} {x : ExceptionTableEntry} {t : List ExceptionTableEntry} {k : ClassId} {cell : Cell} (hx : covers x g.pc = true) (h0 : x.catchType ≠ 0)
    (hl : S.vm.ClassLinks e.platform g.method.cls x.catchType k) (hcell : S.heap[a]? = some cell) (hobj : ∀ z, cell.vm ≠ .statics z) (hk : ∃ z, S.vm.classes[cell.cls]? = some z) (hc : ∃ z, S.vm.classes[k]? = some z) :
    Sem.wp (findHandler.go g a (x :: t)) Q E e d acts S ↔ if S.vm.assignable cell.cls k = true then Q (.found x.handlerPc) d acts (S.setVm (S.vm.noted g.method.cls x.catchType (.cls k))) else Sem.wp (findHandler.go g a t) Q E e d acts (S.setVm (S.vm.noted g.method.cls x.catchType (.cls k))) := by
  simp only [covers] at hx
  obtain ⟨ha, ht⟩ := (resolveClass_links e.toSetting hl).op (op := VmOp.resolveClass g.method.cls x.catchType) rfl
  have al : S.vm.Alike (S.vm.noted g.method.cls x.catchType (.cls k)) := (Vm.Alike.refl S.vm).noted _ _ _
  obtain ⟨z1, hz1⟩ := hk
  obtain ⟨z2, hz2⟩ := hc
  obtain ⟨y1, hy1, -⟩ := al.2.2 _ _ hz1
  obtain ⟨y2, hy2, -⟩ := al.2.2 _ _ hz2
  have has : (S.vm.noted g.method.cls x.catchType (.cls k)).assignable cell.cls k = S.vm.assignable cell.cls k := al.assignable _ _
  cases hq : S.vm.assignable cell.cls k <;> rw [hq] at has <;> simp [findHandler.go, hx, h0, ha, ht, hcell, hobj, hy1, hy2, has, VmOp.dirties, VmOp.acts]
theorem mc_go {e : Env} {s0 : State} {g : JFrame} {a : Addr} {cell : Cell} {hp : Nat} (hobj : ∀ z, cell.vm ≠ .statics z) (hk0 : ∃ z, s0.vm.classes[cell.cls]? = some z) :
    ∀ (rows : List ExceptionTableEntry) (S : State), mc_Ok s0 e.platform g.method.cls g.pc cell.cls hp rows → s0.WarmedH S.vm → S.heap[a]? = some cell → ∃ vm' : Vm, s0.WarmedH vm' ∧ ∀ (Q : Handler → Pre) (E : CtlPost) (d : Bool) (acts : List Action), Sem.wp (findHandler.go g a rows) Q E e d acts S ↔ Q (.found hp) d acts (S.setVm vm') := by
  intro rows
  induction rows with
  | nil => intro S h; exact h.elim
  | cons x t ih =>
    intro S h hW hcell
    rcases h with ⟨hx, h⟩ | ⟨hx, h0, k, hl, h⟩
    · obtain ⟨vm', hW', hq⟩ := ih S h hW hcell
      exact ⟨vm', hW', fun Q E d acts => (_root_.Jvm.W.findHandler_go_skip hx).trans (hq Q E d acts)⟩
    · obtain ⟨z0, hz0⟩ := hk0
      obtain ⟨y0, hy0, -⟩ := hW.alike.2.2 _ _ hz0
      obtain ⟨dk, _, _, kt, hd, _, _, _, _, hkt, _, hop⟩ := hl.here
      obtain ⟨y1, hy1, -⟩ := hW.alike.2.2 _ _ hkt
      have hWn := hW.noted hd hop (State.rightAt_cls hl)
      have hrow := fun (Q : Handler → Pre) (E : CtlPost) (d : Bool) (acts : List Action) => mc_row (Q := Q) (E := E) (d := d) (acts := acts) (t := t) hx h0 (hW.classLinks hl) hcell hobj ⟨y0, hy0⟩ ⟨y1, hy1⟩
      have has : S.vm.assignable cell.cls k = s0.vm.assignable cell.cls k := by rw [hW.alike.assignable]
      rcases h with ⟨hf, rfl⟩ | ⟨hf, h⟩
      · exact ⟨_, hWn, fun Q E d acts => by rw [hrow Q E d acts, has, hf, if_pos rfl]⟩
      · obtain ⟨vm', hW', hq⟩ := ih (S.setVm (S.vm.noted g.method.cls x.catchType (.cls k))) h hWn hcell
        exact ⟨vm', hW', fun Q E d acts => by rw [hrow Q E d acts, has, hf, if_neg (by decide)]; exact hq Q E d acts⟩
theorem mc_step {e : Env} {S : State} {a : Addr} {g : JFrame} {r : List Frame} {hp : Nat} {vm' : Vm} (hf : ∀ (Q : Handler → Pre) (E : CtlPost) (d : Bool) (acts : List Action), Sem.wp (findHandler g a) Q E e d acts S ↔ Q (.found hp) d acts (S.setVm vm')) :
    (stepThrowing e S a (.java g :: r)).1 = (S.setVm vm').setFrames (.java { g with pc := hp, stack := [.ref a] } :: r) := by
  simp only [stepThrowing, searchFrame, vmDo]
  generalize hr : Sem.go _ e false [] S = res
  obtain ⟨as, rfl, -⟩ := Sem.eq_ok_of hr (a := Handler.found hp) (s' := S.setVm vm') (acts' := []) (by simp [hf _ _ _ _])
  rfl
variable {p : Program} {l : Launch} {e : Env} {R : Room} {s : State} {m : MethodId} {args : Array Value} {below : List Frame} {meth : Method} {c : Code} {H : Heap} {locs : List Loc} {cells slots : Nat} {Q : State → Prop}
theorem mc_catch {pc hp : Nat} {ls : Array Slot} {rest : List Value} {q : Addr} {ce : Cell} (hcell : H[q]? = some ce) (hv : ce.vm = .none) (hk0 : ∃ z, s.vm.classes[ce.cls]? = some z)
    (hok : ∀ pl : Platform, pl.magicAccessors = ({} : Platform).magicAccessors → mc_Ok s pl m.cls pc ce.cls hp c.exceptionTable.toList)
    (kk : W p l e R s m args below meth c H locs cells slots Q (F0 m hp ls [.ref q])) : vx_W p l e R s m args below meth c H locs cells slots Q (F0 m pc ls rest) q := by
  intro T hT X
  have hpl : e.platform.magicAccessors = ({} : Platform).magicAccessors := by rw [X.admits.platform]
  obtain ⟨vm', hW', hf⟩ := mc_go (e := e) (s0 := s) (g := F0 m pc ls rest) (a := q) (cell := ce) (hp := hp) (by rw [hv]; intro z h; cases h) hk0 c.exceptionTable.toList ((T.setTop (F0 m pc ls rest)).pushFrame (.throwing q)) (hok e.platform hpl) X.warmed (by show T.heap[q]? = some ce; rw [hT]; exact hcell)
  obtain ⟨t, a1, b1⟩ := kk (T.setVm vm') hT (X.noted hW')
  refine ⟨t, ?_, b1⟩
  have hm : ((T.setTop (F0 m pc ls rest)).pushFrame (.throwing q)).vm.method? (F0 m pc ls rest).method = some meth := X.method'
  have hfind : ∀ (Q : Handler → Pre) (E : CtlPost) (d : Bool) (acts : List Action), Sem.wp (findHandler (F0 m pc ls rest) q) Q E e d acts ((T.setTop (F0 m pc ls rest)).pushFrame (.throwing q)) ↔ Q (.found hp) d acts (((T.setTop (F0 m pc ls rest)).pushFrame (.throwing q)).setVm vm') := fun Q E d acts => (_root_.Jvm.W.findHandler_eq hm X.code).trans (hf Q E d acts)
  obtain ⟨hgo, hw⟩ := X.here.throwing (g := F0 m pc ls rest) q
  refine Steps.head hgo hw ?_
  rw [stepThread_throwing (frames_entered X.here.top _), mc_step hfind]
  obtain ⟨g0, hg0⟩ := Option.isSome_iff_exists.mp X.here.top
  obtain ⟨r, hr⟩ := State.topJava?_eq_some.mp hg0
  have hr' : (T.setVm vm').frames = .java g0 :: r := hr
  rw [State.setTop_of_frames _ hr'] at a1
  have e1 : (((T.setTop (F0 m pc ls rest)).pushFrame (.throwing q)).setVm vm').setFrames (.java { F0 m pc ls rest with pc := hp, stack := [.ref q] } :: T.frames.tail) = (T.setVm vm').setFrames (.java (F0 m hp ls [.ref q]) :: r) := by
    rw [hr, List.tail_cons, State.setTop_of_frames _ hr]
    unfold State.pushFrame
    have h1 : ∀ (u : State) (F G : List Frame), ((u.setFrames F).setVm vm').setFrames G = (u.setVm vm').setFrames G := fun u F G => by
      have : (u.setFrames F).setVm vm' = (u.setVm vm').setFrames F := rfl
      rw [this, State.setFrames_setFrames]
    rw [h1, h1]
  rw [e1]
  exact a1
/-- the rows of a method's table -/
theorem mc_rows {D : va_G} {f : Nat → Nat} {tc : Nat → ClassId} {base : Nat} {X : Nat × (Nat → Int32)} {sx : List (String × Nat × String)} {tx : List (List Int32)} {own : String} {thrown : ClassId} {k pc : Nat} (hAmb : m_Amb D f tc base X sx tx s) (hown : s.vm.findClass own = some m.cls) (hts : ∀ w ∈ gw, w.before args s = true) (hth : s.vm.findClass (m_exc k) = some thrown) (hk : k = 1 ∨ k = 2) {pl : Platform} (hpl : pl.magicAccessors = ({} : Platform).magicAccessors) :
    ∀ (hh : List mH), (∀ h ∈ hh, h.2.2.2.2.2 ≠ 0 ∧ (h.2.2.1 = 1 ∨ h.2.2.1 = 2) ∧ .classLink own h.2.2.2.2.2 (m_exc h.2.2.1) ∈ gw ∧ .castable (m_exc h.2.2.1) (m_exc h.2.2.1) ∈ xw) → hh.Pairwise (fun a b => a.2.2.1 ≤ b.2.2.1) → ∀ h0, (hh.find? fun h => decide (h.1 ≤ pc ∧ pc < h.2.1 ∧ h.2.2.1 = k)) = some h0 →
      mc_Ok s pl m.cls pc thrown h0.2.2.2.2.1 (tableOf (hh.map fun h => (h.1, h.2.1, h.2.2.2.2.1, h.2.2.2.2.2))) := by
  intro hh
  induction hh with
  | nil => intro _ _ h0 h; cases h
  | cons h hh ih =>
    intro hall hkd h0 hfd
    obtain ⟨w1, w2, w3, w4⟩ := hall h List.mem_cons_self
    rw [List.find?_cons] at hfd
    by_cases hcov : h.1 ≤ pc ∧ pc < h.2.1
    · have hc : covers (⟨h.1, h.2.1, h.2.2.2.2.1, h.2.2.2.2.2⟩ : ExceptionTableEntry) pc = true := by simp [covers, hcov.1, hcov.2]
      obtain ⟨k5, hk5, hcl5⟩ := Cond.classLink_spec hown (hts _ w3) pl hpl
      by_cases hke : h.2.2.1 = k
      · rw [show decide (h.1 ≤ pc ∧ pc < h.2.1 ∧ h.2.2.1 = k) = true by simp [hcov.1, hcov.2, hke]] at hfd
        cases hfd
        refine Or.inr ⟨hc, w1, k5, hcl5, Or.inl ⟨?_, rfl⟩⟩
        obtain ⟨c3, c4, hc3, hc4, hasg⟩ := Cond.castable_spec (xw_use (a := args) w4 (hAmb.2.2.2.2.1 _ w4))
        rw [hke] at hc3 hc4 hk5
        cases Option.some.inj (hc3.symm.trans hth)
        cases Option.some.inj (hc4.symm.trans hk5)
        exact hasg
      · rw [show decide (h.1 ≤ pc ∧ pc < h.2.1 ∧ h.2.2.1 = k) = false by simp [hke]] at hfd
        have hm0 := List.mem_of_find?_eq_some hfd
        have hk9 : h0.2.2.1 = k := by have := List.find?_some hfd; simp only [decide_eq_true_eq] at this; exact this.2.2
        have hle := (List.pairwise_cons.mp hkd).1 h0 hm0
        have q1 : k = 2 := by omega
        have q2 : h.2.2.1 = 1 := by omega
        · refine Or.inr ⟨hc, w1, k5, hcl5, Or.inr ⟨?_, ih (fun z hz => hall z (List.mem_cons_of_mem _ hz)) (List.pairwise_cons.mp hkd).2 h0 hfd⟩⟩
          obtain ⟨a8, b8, n1, n2, n3⟩ := hAmb.2.2.2.2.2.2.2.1
          rw [q2] at hk5
          rw [q1] at hth
          cases Option.some.inj (n1.symm.trans hth)
          cases Option.some.inj (n2.symm.trans hk5)
          exact n3
    · have hc : covers (⟨h.1, h.2.1, h.2.2.2.2.1, h.2.2.2.2.2⟩ : ExceptionTableEntry) pc = false := by
        simp only [covers, Bool.and_eq_false_iff, decide_eq_false_iff_not]
        by_cases q : h.1 ≤ pc
        · exact Or.inr (fun z => hcov ⟨q, z⟩)
        · exact Or.inl q
      rw [show decide (h.1 ≤ pc ∧ pc < h.2.1 ∧ h.2.2.1 = k) = false by simp only [decide_eq_false_iff_not]; exact fun z => hcov ⟨z.1, z.2.1⟩] at hfd
      exact Or.inl ⟨hc, ih (fun z hz => hall z (List.mem_cons_of_mem _ hz)) (List.pairwise_cons.mp hkd).2 h0 hfd⟩
theorem mc_CT {D : va_G} {f : Nat → Nat} {tc : Nat → ClassId} {base : Nat} {X : Nat × (Nat → Int32)} {sx : List (String × Nat × String)} {tx : List (List Int32)} : m_CT l D f tc base X sx tx := by
  intro p e R s m args below meth c mm C hAmb hok pc k t H locs cells slots Q ls L rest q ce hh h1 h2 h3 hl kk
  obtain ⟨hx, hb, hml, hown, hts, hname, hret, hlk, htab⟩ := C
  simp only [m_okH, Bool.and_eq_true, decide_eq_true_eq, List.all_eq_true] at hok
  unfold m_hand at hh
  obtain ⟨h0, hf0, rfl⟩ := Option.map_eq_some_iff.mp hh
  have hm0 := List.mem_of_find?_eq_some hf0
  have hk9 : h0.2.2.1 = k := by have := List.find?_some hf0; simp only [decide_eq_true_eq] at this; exact this.2.2
  obtain ⟨⟨⟨⟨w1, w2⟩, w3⟩, w4⟩, w5⟩ := hok.1 h0 hm0
  have hn : ∀ ls' : Array Slot, lv_has ls' mm.2.2.1 [] → m_Lv f mm.2.2.1 ls' (List.replicate L.length none) := fun ls' h => by
    refine ⟨by rw [List.length_replicate]; exact hl.1, h.1, h.2.1, ?_⟩
    rintro ⟨j, w⟩ hq
    obtain ⟨v, hv, -⟩ := m_lv_mem.mp hq
    rw [List.getElem?_replicate] at hv
    split at hv <;> cases hv
  have hl0 : lv_has ls mm.2.2.1 [] := ⟨hl.2.1, hl.2.2.1, fun q hq => by cases hq⟩
  refine mc_catch (hp := h0.2.2.2.2.1) h1 h2 (by obtain ⟨k9, h9, -⟩ := Vm.findClass_spec h3; exact ⟨k9, h9⟩) (fun pl hpl => ?_) ?_
  · rw [htab]
    exact mc_rows hAmb hown hts h3 (by rw [← hk9]; exact w2) hpl mm.2.2.2.2.2.1 (fun h hm => by
      obtain ⟨⟨⟨⟨a1, a2⟩, a3⟩, a4⟩, -⟩ := hok.1 h hm
      exact ⟨a1, a2, mw_in a3, mx_in a4⟩) hok.2 h0 hf0
  · split at w5
    · rename_i j z hlook
      simp only [decide_eq_true_eq] at w5
      rw [w5.2.1] at kk
      exact lv_astore (lv := []) hx hb w5.2.2 hl0 w5.1 rfl (fun ls' hl' => kk ls' (hn ls' ⟨hl'.1, hl'.2.1, fun q hq => by cases hq⟩))
    · rename_i j z hlook
      simp only [decide_eq_true_eq] at w5
      rw [w5.2.1] at kk
      exact lv_astore_n (lv := []) hx hb w5.2.2 rfl hl0 w5.1 rfl (fun ls' hl' => kk ls' (hn ls' ⟨hl'.1, hl'.2.1, fun q hq => by cases hq⟩))
    · cases w5
end Catch
end
section
/-! the texts' members: String.length, String.charAt, as the JDK has them -/
section Str
set_option maxRecDepth 100000 in
theorem ks_1 : mw (.code yJ0_coder_7d493 cJ0_coder_7d493 1 (some .byte)) = true ∧ mw (.fieldLink RJ0 38 RJ0 "COMPACT_STRINGS" "Z") = true ∧ mw (.fieldLink RJ0 15 RJ0 "coder" "B") = true ∧ mw (.fieldLink RJ0 9 RJ0 "value" "[B") = true ∧ mw (.code yJ0_isLatin1_aae02 cJ0_isLatin1_aae02 1 (some .boolean)) = true ∧ mw (.initialized RJ0) = true := by decide +kernel
set_option maxRecDepth 100000 in
theorem ks_2 : mw (.methodLink RJ0 335 yJ0_coder_7d493) = true ∧ mw (.instanceMethod yJ0_coder_7d493) = true ∧ mw (.selects RJ0 yJ0_coder_7d493 yJ0_coder_7d493) = true ∧ mw (.code yJ0_length_8abf5 cJ0_length_8abf5 1 (some .int)) = true ∧ mw (.instanceMethod yJ0_length_8abf5) = true ∧ mw (.selects RJ0 yJ0_length_8abf5 yJ0_length_8abf5) = true := by decide +kernel
set_option maxRecDepth 100000 in
theorem ks_3 : mw (.methodLink RJ0 492 yJ0_isLatin1_aae02) = true ∧ mw (.instanceMethod yJ0_isLatin1_aae02) = true ∧ mw (.selects RJ0 yJ0_isLatin1_aae02 yJ0_isLatin1_aae02) = true ∧ mw (.code yJ0_charAt_5068e cJ0_charAt_5068e 2 (some .char)) = true ∧ mw (.instanceMethod yJ0_charAt_5068e) = true ∧ mw (.selects RJ0 yJ0_charAt_5068e yJ0_charAt_5068e) = true := by decide +kernel
set_option maxRecDepth 100000 in
theorem ks_4 : mw (.methodLink RJ0 495 yJ1_charAt_3b067) = true ∧ mw (.static yJ1_charAt_3b067) = true ∧ mw (.initialized RJ1) = true ∧ mw (.code yJ1_charAt_3b067 cJ1_charAt_3b067 2 (some .char)) = true := by decide +kernel
set_option maxRecDepth 100000 in
theorem ks_5 : mw (.methodLink RJ1 9 yJ0_checkIndex_df160) = true ∧ mw (.static yJ0_checkIndex_df160) = true ∧ mw (.code yJ0_checkIndex_df160 cJ0_checkIndex_df160 2 none) = true ∧ mw (.fieldLink RJ0 1053 "jdk/internal/util/Preconditions" "SIOOBE_FORMATTER" "Ljava/util/function/BiFunction;") = true := by decide +kernel
set_option maxRecDepth 100000 in
theorem ks_6 : mw (.methodLink RJ0 1059 yJ3_checkIndex_8e157) = true ∧ mw (.static yJ3_checkIndex_8e157) = true ∧ mw (.initialized RJ3) = true ∧ mw (.code yJ3_checkIndex_8e157 cJ3_checkIndex_8e157 3 (some .int)) = true := by decide +kernel
theorem sd_c : decode cJ0_coder_7d493 0 = .ok (.getstatic 38, 3) ∧ decode cJ0_coder_7d493 3 = .ok (.ifCond .eq 10, 3) ∧ decode cJ0_coder_7d493 6 = .ok (.aload_n 0, 1) ∧ decode cJ0_coder_7d493 7 = .ok (.getfield 15, 3) ∧ decode cJ0_coder_7d493 10 = .ok (.goto 4, 3) ∧ decode cJ0_coder_7d493 14 = .ok (.ireturn, 1) := by decide +kernel
theorem sd_i : decode cJ0_isLatin1_aae02 0 = .ok (.getstatic 38, 3) ∧ decode cJ0_isLatin1_aae02 3 = .ok (.ifCond .eq 14, 3) ∧ decode cJ0_isLatin1_aae02 6 = .ok (.aload_n 0, 1) ∧ decode cJ0_isLatin1_aae02 7 = .ok (.getfield 15, 3) ∧ decode cJ0_isLatin1_aae02 10 = .ok (.ifCond .ne 7, 3) ∧ decode cJ0_isLatin1_aae02 13 = .ok (.iconst 1, 1) ∧ decode cJ0_isLatin1_aae02 14 = .ok (.goto 4, 3) ∧ decode cJ0_isLatin1_aae02 18 = .ok (.ireturn, 1) := by decide +kernel
theorem sd_l : decode cJ0_length_8abf5 0 = .ok (.aload_n 0, 1) ∧ decode cJ0_length_8abf5 1 = .ok (.getfield 9, 3) ∧ decode cJ0_length_8abf5 4 = .ok (.arraylength, 1) ∧ decode cJ0_length_8abf5 5 = .ok (.aload_n 0, 1) ∧ decode cJ0_length_8abf5 6 = .ok (.invokevirtual 335, 3) ∧ decode cJ0_length_8abf5 9 = .ok (.ishr, 1) ∧ decode cJ0_length_8abf5 10 = .ok (.ireturn, 1) := by decide +kernel
theorem sd_p : decode cJ3_checkIndex_8e157 0 = .ok (.iload_n 0, 1) ∧ decode cJ3_checkIndex_8e157 1 = .ok (.ifCond .lt 8, 3) ∧ decode cJ3_checkIndex_8e157 4 = .ok (.iload_n 0, 1) ∧ decode cJ3_checkIndex_8e157 5 = .ok (.iload_n 1, 1) ∧ decode cJ3_checkIndex_8e157 6 = .ok (.if_icmp .lt 10, 3) ∧ decode cJ3_checkIndex_8e157 16 = .ok (.iload_n 0, 1) ∧ decode cJ3_checkIndex_8e157 17 = .ok (.ireturn, 1) := by decide +kernel
theorem sd_k : decode cJ0_checkIndex_df160 0 = .ok (.iload_n 0, 1) ∧ decode cJ0_checkIndex_df160 1 = .ok (.iload_n 1, 1) ∧ decode cJ0_checkIndex_df160 2 = .ok (.getstatic 1053, 3) ∧ decode cJ0_checkIndex_df160 5 = .ok (.invokestatic 1059, 3) ∧ decode cJ0_checkIndex_df160 8 = .ok (.pop, 1) ∧ decode cJ0_checkIndex_df160 9 = .ok (.return_, 1) := by decide +kernel
theorem sd_h : decode cJ1_charAt_3b067 0 = .ok (.iload_n 1, 1) ∧ decode cJ1_charAt_3b067 1 = .ok (.aload_n 0, 1) ∧ decode cJ1_charAt_3b067 2 = .ok (.arraylength, 1) ∧ decode cJ1_charAt_3b067 3 = .ok (.invokestatic 9, 3) ∧ decode cJ1_charAt_3b067 6 = .ok (.aload_n 0, 1) ∧ decode cJ1_charAt_3b067 7 = .ok (.iload_n 1, 1) ∧ decode cJ1_charAt_3b067 8 = .ok (.baload, 1) ∧ decode cJ1_charAt_3b067 9 = .ok (.sipush 255, 3) ∧ decode cJ1_charAt_3b067 12 = .ok (.iand, 1) ∧ decode cJ1_charAt_3b067 13 = .ok (.i2c, 1) ∧ decode cJ1_charAt_3b067 14 = .ok (.ireturn, 1) := by decide +kernel
theorem sd_s : decode cJ0_charAt_5068e 0 = .ok (.aload_n 0, 1) ∧ decode cJ0_charAt_5068e 1 = .ok (.invokevirtual 492, 3) ∧ decode cJ0_charAt_5068e 4 = .ok (.ifCond .eq 12, 3) ∧ decode cJ0_charAt_5068e 7 = .ok (.aload_n 0, 1) ∧ decode cJ0_charAt_5068e 8 = .ok (.getfield 9, 3) ∧ decode cJ0_charAt_5068e 11 = .ok (.iload_n 1, 1) ∧ decode cJ0_charAt_5068e 12 = .ok (.invokestatic 495, 3) ∧ decode cJ0_charAt_5068e 15 = .ok (.ireturn, 1) := by decide +kernel
variable {p : Program} {l : Launch} {e : Env} {R : Room} {s : State} {m : MethodId} {args : Array Value} {below : List Frame} {meth : Method} {c : Code} {H : Heap} {locs : List Loc} {cells slots : Nat} {Q : State → Prop}
variable {f : Nat → Nat} {base : Nat} {tx : List (List Int32)} {adV : Nat → Nat} {pc : Nat} {ls : Array Slot}
/-- a method that leaves the heap as it is -/
def sQ (v : Option Value) : Array Value → State → Outcome → State → Prop := fun _ st o t => o = .returned v ∧ t.heap = st.heap
def sR (k : Nat) : Room := { frames := k, cells := 0, slots := 0, locals := 40 * k }
def sP (f : Nat → Nat) (base : Nat) (tx : List (List Int32)) (adV : Nat → Nat) (vs : List Value) : Array Value → State → Prop := va_Pc vs (fun U => m_Str1 f base tx adV U)
theorem sP_blind {vs : List Value} : FrameBlind (sP f base tx adV vs) := by
  intro a U g mk h
  exact ⟨h.1, h.2.go (fun _ _ _ => rfl) (Vm.Alike.refl U.vm)⟩
theorem s_goon {v : Option Value} {a : Array Value} {st0 rest : List Value} (hr : va_Run p l e R s m args below meth c H locs cells slots 0 0 (F0 m pc ls st0) rest (sQ v a) (fun _ => False)) (kk : W p l e R s m args below meth c H locs cells slots Q (F0 m (pc + 3) ls (v.toList ++ rest))) : W p l e R s m args below meth c H locs cells slots Q (F0 m pc ls st0) := by
  intro T hT X
  obtain ⟨v', st₀, t, T', L, h0, X', hL, e1, e2, ⟨hv, hh⟩, st⟩ := hr T hT X
  cases hv
  have hL0 : L = [] := by
    cases L with
    | nil => rfl
    | cons a b => exact (hL a List.mem_cons_self).elim
  subst hL0
  rw [List.append_nil] at X'
  obtain ⟨t2, a1, b1⟩ := kk T' (by rw [e1, hh, h0]) X'
  exact ⟨t2, st t2 a1, b1⟩
set_option maxHeartbeats 1000000 in
theorem sj_coder {i : Nat} {t : List Int32} (ht : tx[i]? = some t) : Met l yJ0_coder_7d493 (.code yJ0_coder_7d493 cJ0_coder_7d493 1 (some .byte) :: gw) (sR 1) (sP f base tx adV [.ref (f (m_scr + 1 + i))]) (sQ (some (.int 0))) 0 0 (fun _ => False) := by
  refine Met.ofW (cc := cJ0_coder_7d493) (maxL := 1) (ret := some .byte) (by decide) rfl ?_
  intro p e s m args below meth c s₁ B hml hv
  obtain ⟨rfl, hA⟩ := hv
  have hx := B.exec
  have hb := B.bytes
  have hr := B.returns
  have hts := atoms_spec (ws := .code yJ0_coder_7d493 cJ0_coder_7d493 1 (some .byte) :: gw) B.pre
  have hown : s.vm.findClass RJ0 = some m.cls := findClass_of_methodNamed B.named
  have hlocks := B.notSynchronized
  have hS : va_S (fun q => base ≤ q) s.heap s.heap [] := va_S.rf
  have hl := lv_entry ([.ref (f (m_scr + 1 + i))]) (n := 1) (Nat.le_of_ble_eq_true rfl)
  rw [lg_entry_eq]
  generalize (lg_sl ([.ref (f (m_scr + 1 + i))]) ++ List.replicate (1 - (lg_sl ([.ref (f (m_scr + 1 + i))])).length) Slot.unset).toArray = ls at hl ⊢
  have hl : lv_has ls 1 [(0, .ref (f (m_scr + 1 + i)))] := hl
  obtain ⟨a1, a2, a3, a4⟩ := hA.1 i t ht
  refine va_gets hx hb hA.2.1 hS hown (hts _ (List.mem_cons_of_mem _ (mw_in ks_1.2.1))) (fun x h => h) sd_c.1 ?_
  refine lv_if_eq (tgt := 13) hx hb sd_c.2.1 (by decide) (fun h => absurd h (by decide)) (fun _ => ?_)
  refine lv_aload_n hx hb sd_c.2.2.1 rfl (lv_at hl 0 rfl) ?_
  refine vk_getf hx hb a2 hS hown (hts _ (List.mem_cons_of_mem _ (mw_in ks_1.2.2.1))) (fun x h => h) sd_c.2.2.2.1 ?_
  refine lv_goto (tgt := 14) hx hb sd_c.2.2.2.2.1 (by decide) ?_
  exact W.zret (ty := .byte) hx hb hr rfl (fun t ht _ => ⟨rfl, ht⟩) (fun q hq => by cases hq) sd_c.2.2.2.2.2 hlocks
set_option maxHeartbeats 1000000 in
theorem sj_latin {i : Nat} {t : List Int32} (ht : tx[i]? = some t) : Met l yJ0_isLatin1_aae02 (.code yJ0_isLatin1_aae02 cJ0_isLatin1_aae02 1 (some .boolean) :: gw) (sR 1) (sP f base tx adV [.ref (f (m_scr + 1 + i))]) (sQ (some (.int 1))) 0 0 (fun _ => False) := by
  refine Met.ofW (cc := cJ0_isLatin1_aae02) (maxL := 1) (ret := some .boolean) (by decide) rfl ?_
  intro p e s m args below meth c s₁ B hml hv
  obtain ⟨rfl, hA⟩ := hv
  have hx := B.exec
  have hb := B.bytes
  have hr := B.returns
  have hts := atoms_spec (ws := .code yJ0_isLatin1_aae02 cJ0_isLatin1_aae02 1 (some .boolean) :: gw) B.pre
  have hown : s.vm.findClass RJ0 = some m.cls := findClass_of_methodNamed B.named
  have hlocks := B.notSynchronized
  have hS : va_S (fun q => base ≤ q) s.heap s.heap [] := va_S.rf
  have hl := lv_entry ([.ref (f (m_scr + 1 + i))]) (n := 1) (Nat.le_of_ble_eq_true rfl)
  rw [lg_entry_eq]
  generalize (lg_sl ([.ref (f (m_scr + 1 + i))]) ++ List.replicate (1 - (lg_sl ([.ref (f (m_scr + 1 + i))])).length) Slot.unset).toArray = ls at hl ⊢
  have hl : lv_has ls 1 [(0, .ref (f (m_scr + 1 + i)))] := hl
  obtain ⟨a1, a2, a3, a4⟩ := hA.1 i t ht
  refine va_gets hx hb hA.2.1 hS hown (hts _ (List.mem_cons_of_mem _ (mw_in ks_1.2.1))) (fun x h => h) sd_i.1 ?_
  refine lv_if_eq (tgt := 17) hx hb sd_i.2.1 (by decide) (fun h => absurd h (by decide)) (fun _ => ?_)
  refine lv_aload_n hx hb sd_i.2.2.1 rfl (lv_at hl 0 rfl) ?_
  refine vk_getf hx hb a2 hS hown (hts _ (List.mem_cons_of_mem _ (mw_in ks_1.2.2.1))) (fun x h => h) sd_i.2.2.2.1 ?_
  refine lv_if_ne (tgt := 17) hx hb sd_i.2.2.2.2.1 (by decide) (fun h => absurd rfl h) (fun _ => ?_)
  refine lv_iconst (v := 1) hx hb sd_i.2.2.2.2.2.1 (by decide) ?_
  refine lv_goto (tgt := 18) hx hb sd_i.2.2.2.2.2.2.1 (by decide) ?_
  exact W.zret (ty := .boolean) hx hb hr rfl (fun t ht _ => ⟨rfl, ht⟩) (fun q hq => by cases hq) sd_i.2.2.2.2.2.2.2 hlocks
theorem s_gi {own C : String} {ix : Nat} {y : MethodName} {w : Cond} (h1 : mw (.methodLink own ix y) = true) (h2 : mw (.instanceMethod y) = true) (h3 : mw (.selects C y y) = true) (h4 : mw (.initialized C) = true) (h5 : mw w = true) : GoodIn gw (wsV own ix C y (w :: gw)) := by
  intro v hv
  simp only [wsV, List.cons_append, List.nil_append, List.mem_cons] at hv
  rcases hv with rfl | rfl | rfl | rfl | rfl | hv
  · exact gw_good _ (mw_in h1)
  · exact gw_good _ (mw_in h2)
  · exact gw_good _ (mw_in h3)
  · exact gw_good _ (mw_in h4)
  · exact gw_good _ (mw_in h5)
  · exact gw_good _ hv
set_option maxHeartbeats 1000000 in
theorem sj_length {i : Nat} {t : List Int32} (ht : tx[i]? = some t) : Met l yJ0_length_8abf5 (.code yJ0_length_8abf5 cJ0_length_8abf5 1 (some .int) :: gw) (sR 2) (sP f base tx adV [.ref (f (m_scr + 1 + i))]) (sQ (some (.int (nI t.length)))) 0 0 (fun _ => False) := by
  refine Met.ofW (cc := cJ0_length_8abf5) (maxL := 1) (ret := some .int) (by decide) rfl ?_
  intro p e s m args below meth c s₁ B hml hv
  obtain ⟨rfl, hA⟩ := hv
  have hx := B.exec
  have hb := B.bytes
  have hr := B.returns
  have hts := atoms_spec (ws := .code yJ0_length_8abf5 cJ0_length_8abf5 1 (some .int) :: gw) B.pre
  have hts2 : ∀ w ∈ gw, w.before _ s = true := fun w hw => hts w (List.mem_cons_of_mem _ hw)
  have hown : s.vm.findClass RJ0 = some m.cls := findClass_of_methodNamed B.named
  have hlocks := B.notSynchronized
  have hS : va_S (fun q => base ≤ q) s.heap s.heap [] := va_S.rf
  have hl := lv_entry ([.ref (f (m_scr + 1 + i))]) (n := 1) (Nat.le_of_ble_eq_true rfl)
  rw [lg_entry_eq]
  generalize (lg_sl ([.ref (f (m_scr + 1 + i))]) ++ List.replicate (1 - (lg_sl ([.ref (f (m_scr + 1 + i))])).length) Slot.unset).toArray = ls at hl ⊢
  have hl : lv_has ls 1 [(0, .ref (f (m_scr + 1 + i)))] := hl
  obtain ⟨a1, a2, a3, a4⟩ := hA.1 i t ht
  refine lv_aload_n hx hb sd_l.1 rfl (lv_at hl 0 rfl) ?_
  refine vk_getf hx hb a3 hS hown (hts2 _ (mw_in ks_1.2.2.2.1)) (fun x h => h) sd_l.2.1 ?_
  refine va_tlen hx hb a4 hS rfl sd_l.2.2.1 ?_
  refine lv_aload_n hx hb sd_l.2.2.2.1 rfl (lv_at hl 0 rfl) ?_
  have hrec : ∃ cellB : Cell, s.heap[f (m_scr + 1 + i)]? = some cellB ∧ cellB.vm.isStatics = false ∧ s.vm.findClass RJ0 = some cellB.cls := by
    obtain ⟨cell, h1, h2, h3, -⟩ := a1
    exact ⟨cell, h1, h2, h3⟩
  refine s_goon (va_runV (As := []) (rest := [.int (Int32.ofNat t.length)]) (b := f (m_scr + 1 + i)) ⟨hx, hb, hml, hown, hts2⟩ (sj_coder (l := l) (f := f) (base := base) (adV := adV) ht) (cwV 0 hts2 (s_gi ks_2.1 ks_2.2.1 ks_2.2.2.1 ks_1.2.2.2.2.2 ks_1.1) rfl rfl rfl (by decide +kernel) ⟨Nat.le_refl _, by decide⟩) ⟨sP_blind, hrec, fun U hU hW => ⟨rfl, hA.go (fun a _ _ => by rw [hU]) hW.alike⟩⟩ rfl rfl hl.1 rfl (lv_room (by show 1 + 0 ≤ 8; decide)) sd_l.2.2.2.2.1 ⟨Nat.le_refl _, Nat.le_refl _⟩) ?_
  refine lv_ishr hx hb sd_l.2.2.2.2.2.1 ?_
  rw [show (Int32.ofNat t.length >>> ((0 : Int32) &&& 31)) = nI t.length from sc_shr0 (hA.2.2.2 i t ht).1]
  exact W.iret hx hb hr (fun t ht _ => ⟨rfl, ht⟩) (fun q hq => by cases hq) sd_l.2.2.2.2.2.2 hlocks
set_option maxHeartbeats 1000000 in
theorem sj_pre {j n : Int32} {w : Value} (h0 : ¬ j < 0) (h1 : j < n) (hw : w = .null ∨ ∃ t, w = .ref t) : Met l yJ3_checkIndex_8e157 (.code yJ3_checkIndex_8e157 cJ3_checkIndex_8e157 3 (some .int) :: gw) (sR 1) (sP f base tx adV [.int j, .int n, w]) (sQ (some (.int j))) 0 0 (fun _ => False) := by
  refine Met.ofW (cc := cJ3_checkIndex_8e157) (maxL := 3) (ret := some .int) (by decide) rfl ?_
  intro p e s m args below meth c s₁ B hml hv
  obtain ⟨rfl, hA⟩ := hv
  have hx := B.exec
  have hb := B.bytes
  have hr := B.returns
  have hlocks := B.notSynchronized
  have hl := lv_entry ([.int j, .int n, w]) (n := 3) (by rcases hw with rfl | ⟨t, rfl⟩ <;> exact Nat.le_of_ble_eq_true rfl)
  rw [lg_entry_eq]
  generalize (lg_sl ([.int j, .int n, w]) ++ List.replicate (3 - (lg_sl ([.int j, .int n, w])).length) Slot.unset).toArray = ls at hl ⊢
  have hl : lv_has ls 3 [(0, .int j), (1, .int n), (2, w)] := hl
  refine lv_iload_n hx hb sd_p.1 rfl (lv_at hl 0 rfl) ?_
  refine lv_if_lt (tgt := 9) hx hb sd_p.2.1 (by decide) (fun h => absurd h h0) (fun _ => ?_)
  refine lv_iload_n hx hb sd_p.2.2.1 rfl (lv_at hl 0 rfl) ?_
  refine lv_iload_n hx hb sd_p.2.2.2.1 rfl (lv_at hl 1 rfl) ?_
  refine lv_icmp_lt (tgt := 16) hx hb sd_p.2.2.2.2.1 (by decide) (fun _ => ?_) (fun h => absurd h1 h)
  refine lv_iload_n hx hb sd_p.2.2.2.2.2.1 rfl (lv_at hl 0 rfl) ?_
  exact W.iret hx hb hr (fun t ht _ => ⟨rfl, ht⟩) (fun q hq => by cases hq) sd_p.2.2.2.2.2.2 hlocks
set_option maxHeartbeats 1000000 in
theorem sj_chk {j n : Int32} (h0 : ¬ j < 0) (h1 : j < n) : Met l yJ0_checkIndex_df160 (.code yJ0_checkIndex_df160 cJ0_checkIndex_df160 2 none :: gw) (sR 2) (sP f base tx adV [.int j, .int n]) (sQ none) 0 0 (fun _ => False) := by
  refine Met.ofW (cc := cJ0_checkIndex_df160) (maxL := 2) (ret := none) (by decide) rfl ?_
  intro p e s m args below meth c s₁ B hml hv
  obtain ⟨rfl, hA⟩ := hv
  have hx := B.exec
  have hb := B.bytes
  have hr := B.returns
  have hts := atoms_spec (ws := .code yJ0_checkIndex_df160 cJ0_checkIndex_df160 2 none :: gw) B.pre
  have hts2 : ∀ w ∈ gw, w.before _ s = true := fun w hw => hts w (List.mem_cons_of_mem _ hw)
  have hown : s.vm.findClass RJ0 = some m.cls := findClass_of_methodNamed B.named
  have hlocks := B.notSynchronized
  have hS : va_S (fun q => base ≤ q) s.heap s.heap [] := va_S.rf
  have hl := lv_entry ([.int j, .int n]) (n := 2) (Nat.le_of_ble_eq_true rfl)
  rw [lg_entry_eq]
  generalize (lg_sl ([.int j, .int n]) ++ List.replicate (2 - (lg_sl ([.int j, .int n])).length) Slot.unset).toArray = ls at hl ⊢
  have hl : lv_has ls 2 [(0, .int j), (1, .int n)] := hl
  refine lv_iload_n hx hb sd_k.1 rfl (lv_at hl 0 rfl) ?_
  refine lv_iload_n hx hb sd_k.2.1 rfl (lv_at hl 1 rfl) ?_
  have key : ∀ w : Value, (w = .null ∨ ∃ t, w = .ref t) → va_Z "jdk/internal/util/Preconditions" "SIOOBE_FORMATTER" "Ljava/util/function/BiFunction;" w (fun q => base ≤ q) s s.heap → W p l e (headSpec (.code yJ0_checkIndex_df160 cJ0_checkIndex_df160 2 none :: gw) (sR 2)).room s m ([Value.int j, .int n] : List Value).toArray below meth c s.heap [] 0 0 (MQ below (sQ none) ([Value.int j, .int n] : List Value).toArray s 0 0 (fun _ => False)) (F0 m 2 ls [.int n, .int j]) := by
    intro w hw hZ
    refine va_gets hx hb hZ hS hown (hts2 _ (mw_in ks_5.2.2.2)) (fun x h => h) sd_k.2.2.1 ?_
    refine s_goon (va_runS (As := [.int j, .int n, w]) (rest := []) ⟨hx, hb, hml, hown, hts2⟩ (sj_pre (l := l) (f := f) (base := base) (tx := tx) (adV := adV) h0 h1 hw) ⟨callB_of 3 hts2 (gw_cons ks_6.2.2.2) rfl rfl rfl (hts2 _ (mw_in ks_6.2.2.1)) (hts2 _ (mw_in ks_6.1)) (by decide +kernel) ⟨Nat.le_refl _, by decide⟩, hts2 _ (mw_in ks_6.2.1)⟩ ⟨sP_blind, fun U hU hW => ⟨rfl, hA.go (fun a _ _ => by rw [hU]) hW.alike⟩⟩ rfl rfl hl.1 rfl (lv_room (by decide)) sd_k.2.2.2.1 ⟨Nat.le_refl _, Nat.le_refl _⟩) ?_
    refine lv_pop hx hb sd_k.2.2.2.2.1 rfl ?_
    exact W.vret hx hb hr (fun t ht _ => ⟨rfl, ht⟩) (fun q hq => by cases hq) sd_k.2.2.2.2.2 hlocks
  rcases hA.2.2.1 with hZ | ⟨t, hZ⟩
  · exact key _ (Or.inl rfl) hZ
  · exact key _ (Or.inr ⟨t, rfl⟩) hZ
set_option maxHeartbeats 1000000 in
theorem sj_lat {i : Nat} {t : List Int32} (ht : tx[i]? = some t) {j x : Int32} (h0 : ¬ j < 0) (hj : t[j.toNatClampNeg]? = some x) : Met l yJ1_charAt_3b067 (.code yJ1_charAt_3b067 cJ1_charAt_3b067 2 (some .char) :: gw) (sR 3) (sP f base tx adV [.ref (adV i), .int j]) (sQ (some (.int x))) 0 0 (fun _ => False) := by
  refine Met.ofW (cc := cJ1_charAt_3b067) (maxL := 2) (ret := some .char) (by decide) rfl ?_
  intro p e s m args below meth c s₁ B hml hv
  obtain ⟨rfl, hA⟩ := hv
  have hx := B.exec
  have hb := B.bytes
  have hr := B.returns
  have hts := atoms_spec (ws := .code yJ1_charAt_3b067 cJ1_charAt_3b067 2 (some .char) :: gw) B.pre
  have hts2 : ∀ w ∈ gw, w.before _ s = true := fun w hw => hts w (List.mem_cons_of_mem _ hw)
  have hown : s.vm.findClass RJ1 = some m.cls := findClass_of_methodNamed B.named
  have hlocks := B.notSynchronized
  have hS : va_S (fun q => base ≤ q) s.heap s.heap [] := va_S.rf
  have hl := lv_entry ([.ref (adV i), .int j]) (n := 2) (Nat.le_of_ble_eq_true rfl)
  rw [lg_entry_eq]
  generalize (lg_sl ([.ref (adV i), .int j]) ++ List.replicate (2 - (lg_sl ([.ref (adV i), .int j])).length) Slot.unset).toArray = ls at hl ⊢
  have hl : lv_has ls 2 [(0, .ref (adV i)), (1, .int j)] := hl
  obtain ⟨a1, a2, a3, a4⟩ := hA.1 i t ht
  obtain ⟨hlen, hby⟩ := hA.2.2.2 i t ht
  have hlt : j.toNatClampNeg < t.length := (List.getElem?_eq_some_iff.mp hj).1
  have hin : vp_in j t.length := fun q => by
    rcases q with q | q
    · exact h0 q
    · omega
  obtain ⟨jn, hjn, rfl⟩ := vp_in_of hin hlen
  have hjlt : nI jn < nI t.length := nI_lt hjn hlen
  have hxm : x ∈ t := List.mem_of_getElem? hj
  obtain ⟨hb8, hb255⟩ := hby x hxm
  have hval : (fun j => Value.int (t.getD j 0)) (nI jn).toNatClampNeg = .int x := by
    show Value.int (t.getD (nI jn).toNatClampNeg 0) = .int x
    rw [List.getD_eq_getElem?_getD, hj]
    rfl
  refine lv_iload_n hx hb sd_h.1 rfl (lv_at hl 1 rfl) ?_
  refine lv_aload_n hx hb sd_h.2.1 rfl (lv_at hl 0 rfl) ?_
  refine va_tlen hx hb a4 hS rfl sd_h.2.2.1 ?_
  refine s_goon (va_runS (As := [.int (nI jn), .int (Int32.ofNat t.length)]) (rest := []) ⟨hx, hb, hml, hown, hts2⟩ (sj_chk (l := l) (f := f) (base := base) (tx := tx) (adV := adV) h0 hjlt) ⟨callB_of 2 hts2 (gw_cons ks_5.2.2.1) rfl rfl rfl (hts2 _ (mw_in ks_1.2.2.2.2.2)) (hts2 _ (mw_in ks_5.1)) (by decide +kernel) ⟨Nat.le_refl _, by decide⟩, hts2 _ (mw_in ks_5.2.1)⟩ ⟨sP_blind, fun U hU hW => ⟨rfl, hA.go (fun a _ _ => by rw [hU]) hW.alike⟩⟩ rfl rfl hl.1 rfl (lv_room (by decide)) sd_h.2.2.2.1 ⟨Nat.le_refl _, Nat.le_refl _⟩) ?_
  refine lv_aload_n hx hb sd_h.2.2.2.2.1 rfl (lv_at hl 0 rfl) ?_
  refine lv_iload_n hx hb sd_h.2.2.2.2.2.1 rfl (lv_at hl 1 rfl) ?_
  refine va_tb hx hb a4 hS hin hval sd_h.2.2.2.2.2.2.1 ?_
  refine lv_sipush (v := 255) hx hb sd_h.2.2.2.2.2.2.2.1 (by decide) ?_
  refine lv_iand hx hb sd_h.2.2.2.2.2.2.2.2.1 ?_
  refine lv_i2c (v := x) hx hb sd_h.2.2.2.2.2.2.2.2.2.1 (by rw [sc_c2, hb255]) ?_
  exact W.zret (ty := .char) hx hb hr (by rw [← hb255]; exact sc_nar x) (fun t ht _ => ⟨rfl, ht⟩) (fun q hq => by cases hq) sd_h.2.2.2.2.2.2.2.2.2.2 hlocks
set_option maxHeartbeats 1000000 in
theorem sj_char {i : Nat} {t : List Int32} (ht : tx[i]? = some t) {j x : Int32} (h0 : ¬ j < 0) (hj : t[j.toNatClampNeg]? = some x) : Met l yJ0_charAt_5068e (.code yJ0_charAt_5068e cJ0_charAt_5068e 2 (some .char) :: gw) (sR 4) (sP f base tx adV [.ref (f (m_scr + 1 + i)), .int j]) (sQ (some (.int x))) 0 0 (fun _ => False) := by
  refine Met.ofW (cc := cJ0_charAt_5068e) (maxL := 2) (ret := some .char) (by decide) rfl ?_
  intro p e s m args below meth c s₁ B hml hv
  obtain ⟨rfl, hA⟩ := hv
  have hx := B.exec
  have hb := B.bytes
  have hr := B.returns
  have hts := atoms_spec (ws := .code yJ0_charAt_5068e cJ0_charAt_5068e 2 (some .char) :: gw) B.pre
  have hts2 : ∀ w ∈ gw, w.before _ s = true := fun w hw => hts w (List.mem_cons_of_mem _ hw)
  have hown : s.vm.findClass RJ0 = some m.cls := findClass_of_methodNamed B.named
  have hlocks := B.notSynchronized
  have hS : va_S (fun q => base ≤ q) s.heap s.heap [] := va_S.rf
  have hl := lv_entry ([.ref (f (m_scr + 1 + i)), .int j]) (n := 2) (Nat.le_of_ble_eq_true rfl)
  rw [lg_entry_eq]
  generalize (lg_sl ([.ref (f (m_scr + 1 + i)), .int j]) ++ List.replicate (2 - (lg_sl ([.ref (f (m_scr + 1 + i)), .int j])).length) Slot.unset).toArray = ls at hl ⊢
  have hl : lv_has ls 2 [(0, .ref (f (m_scr + 1 + i))), (1, .int j)] := hl
  obtain ⟨a1, a2, a3, a4⟩ := hA.1 i t ht
  have hb255 := ((hA.2.2.2 i t ht).2 x (List.mem_of_getElem? hj)).2
  have hrec : ∃ cellB : Cell, s.heap[f (m_scr + 1 + i)]? = some cellB ∧ cellB.vm.isStatics = false ∧ s.vm.findClass RJ0 = some cellB.cls := by
    obtain ⟨cell, h1, h2, h3, -⟩ := a1
    exact ⟨cell, h1, h2, h3⟩
  refine lv_aload_n hx hb sd_s.1 rfl (lv_at hl 0 rfl) ?_
  refine s_goon (va_runV (As := []) (rest := []) (b := f (m_scr + 1 + i)) ⟨hx, hb, hml, hown, hts2⟩ (sj_latin (l := l) (f := f) (base := base) (adV := adV) ht) (cwV 0 hts2 (s_gi ks_3.1 ks_3.2.1 ks_3.2.2.1 ks_1.2.2.2.2.2 ks_1.2.2.2.2.1) rfl rfl rfl (by decide +kernel) ⟨by decide, by decide⟩) ⟨sP_blind, hrec, fun U hU hW => ⟨rfl, hA.go (fun a _ _ => by rw [hU]) hW.alike⟩⟩ rfl rfl hl.1 rfl (lv_room (by decide)) sd_s.2.1 ⟨Nat.le_refl _, Nat.le_refl _⟩) ?_
  refine lv_if_eq (tgt := 16) hx hb sd_s.2.2.1 (by decide) (fun h => absurd h (by decide)) (fun _ => ?_)
  refine lv_aload_n hx hb sd_s.2.2.2.1 rfl (lv_at hl 0 rfl) ?_
  refine vk_getf hx hb a3 hS hown (hts2 _ (mw_in ks_1.2.2.2.1)) (fun x h => h) sd_s.2.2.2.2.1 ?_
  refine lv_iload_n hx hb sd_s.2.2.2.2.2.1 rfl (lv_at hl 1 rfl) ?_
  refine s_goon (va_runS (As := [.ref (adV i), .int j]) (rest := []) ⟨hx, hb, hml, hown, hts2⟩ (sj_lat (l := l) (f := f) (base := base) (tx := tx) (adV := adV) ht h0 hj) ⟨callB_of 2 hts2 (gw_cons ks_4.2.2.2) rfl rfl rfl (hts2 _ (mw_in ks_4.2.2.1)) (hts2 _ (mw_in ks_4.1)) (by decide +kernel) ⟨Nat.le_refl _, by decide⟩, hts2 _ (mw_in ks_4.2.1)⟩ ⟨sP_blind, fun U hU hW => ⟨rfl, hA.go (fun a _ _ => by rw [hU]) hW.alike⟩⟩ rfl rfl hl.1 rfl (lv_room (by decide)) sd_s.2.2.2.2.2.2.1 ⟨Nat.le_refl _, Nat.le_refl _⟩) ?_
  exact W.zret (ty := .char) hx hb hr (by rw [← hb255]; exact sc_nar x) (fun t ht _ => ⟨rfl, ht⟩) (fun q hq => by cases hq) sd_s.2.2.2.2.2.2.2 hlocks
/-- so the texts' members do what the small machine says -/
theorem sj_TX {D : va_G} {tc : Nat → ClassId} {X : Nat × (Nat → Int32)} {sx : List (String × Nat × String)} (mm : mMeth) (C : m_Ctx p s m args meth c mm) (hAmb : m_Amb D f tc base X sx tx s) (hR : 20 ≤ R.frames ∧ 300 ≤ R.locals) : m_TX p l e R s m args below meth c mm.2.1 mm.1.cls f base mm.2.2.1 tx := by
  obtain ⟨hx, hb, hml, hown, hts, hname, hret, hlk, htab⟩ := C
  obtain ⟨adV, hA⟩ := hAmb.2.2.2.2.2.2.1
  intro H locs cells slots Q pc index i ls rest t ht hS hsz hrest hc hs hd
  obtain ⟨a1, a2, a3, a4⟩ := hA.1 i t ht
  have hq : ∀ a : Nat, a < s.heap.size → ¬ base ≤ a → H[a]? = s.heap[a]? := hS.2.1
  have hrec : ∃ cellB : Cell, H[f (m_scr + 1 + i)]? = some cellB ∧ cellB.vm.isStatics = false ∧ s.vm.findClass RJ0 = some cellB.cls := by
    obtain ⟨cell, h1, h2, h3, h4⟩ := a1
    exact ⟨cell, by rw [hq _ (Array.getElem?_eq_some_iff.mp h1).1 h4]; exact h1, h2, h3⟩
  refine ⟨fun hlink kk => ?_, fun hlink j x h0 hj kk => ?_⟩
  · have hgi : GoodIn gw (wsV mm.1.cls index RJ0 yJ0_length_8abf5 (.code yJ0_length_8abf5 cJ0_length_8abf5 1 (some .int) :: gw)) := by
      intro v hv
      simp only [wsV, List.cons_append, List.nil_append, List.mem_cons] at hv
      rcases hv with rfl | rfl | rfl | rfl | rfl | hv
      · exact gw_good _ hlink
      · exact gw_good _ (mw_in ks_2.2.2.2.2.1)
      · exact gw_good _ (mw_in ks_2.2.2.2.2.2)
      · exact gw_good _ (mw_in ks_1.2.2.2.2.2)
      · exact gw_good _ (mw_in ks_2.2.2.2.1)
      · exact gw_good _ hv
    exact s_goon (va_runV (As := []) (rest := rest) (b := f (m_scr + 1 + i)) ⟨hx, hb, hml, hown, hts⟩ (sj_length (l := l) (f := f) (base := base) (adV := adV) ht) (cwV 0 hts hgi rfl rfl rfl (by decide +kernel) ⟨by show 2 + 1 ≤ R.frames; omega, by show 8 + (1 + 11) + 80 ≤ R.locals; omega⟩) ⟨sP_blind, hrec, fun U hU hW => ⟨rfl, hA.go (fun a h1 h2 => by rw [hU]; exact hq a h1 h2) hW.alike⟩⟩ rfl rfl hsz rfl (lv_room hrest) hd ⟨hc, hs⟩) kk
  · have hgi : GoodIn gw (wsV mm.1.cls index RJ0 yJ0_charAt_5068e (.code yJ0_charAt_5068e cJ0_charAt_5068e 2 (some .char) :: gw)) := by
      intro v hv
      simp only [wsV, List.cons_append, List.nil_append, List.mem_cons] at hv
      rcases hv with rfl | rfl | rfl | rfl | rfl | hv
      · exact gw_good _ hlink
      · exact gw_good _ (mw_in ks_3.2.2.2.2.1)
      · exact gw_good _ (mw_in ks_3.2.2.2.2.2)
      · exact gw_good _ (mw_in ks_1.2.2.2.2.2)
      · exact gw_good _ (mw_in ks_3.2.2.2.1)
      · exact gw_good _ hv
    exact s_goon (va_runV (As := [.int j]) (rest := rest) (b := f (m_scr + 1 + i)) ⟨hx, hb, hml, hown, hts⟩ (sj_char (l := l) (f := f) (base := base) (adV := adV) ht h0 hj) (cwV 1 hts hgi rfl rfl rfl (by decide +kernel) ⟨by show 4 + 1 ≤ R.frames; omega, by show 8 + (2 + 11) + 160 ≤ R.locals; omega⟩) ⟨sP_blind, hrec, fun U hU hW => ⟨rfl, hA.go (fun a h1 h2 => by rw [hU]; exact hq a h1 h2) hW.alike⟩⟩ rfl rfl hsz rfl (lv_room hrest) hd ⟨hc, hs⟩) kk
end Str
end
section
/-! THE CLAIM, out of one run of the small machine -/
def m_fi (base b : Nat) (adK : Nat → Nat) (a : Nat) : Nat := if a < m_scr then base + a else if a = m_scr then b else adK (a - m_scr - 1)
theorem m_fi_str {base b : Nat} {adK : Nat → Nat} {i : Nat} : m_fi base b adK (m_scr + 1 + i) = adK i := by
  unfold m_fi
  rw [if_neg (by omega), if_neg (by omega), show m_scr + 1 + i - m_scr - 1 = i by omega]
set_option maxRecDepth 1000000 in
theorem kt_R : (mSx.all fun q => decide (Cond.stringRef q.1 q.2.1 q.2.2 ∈ lw_tbl)) = true := by decide +kernel
set_option maxRecDepth 1000000 in
theorem kt_L : mSx.length = mT.length ∧ (mT.all fun t => decide (t.length < 2 ^ 31) && t.all fun b => decide (b.toInt8.toInt32 = b ∧ b &&& 255 = b)) = true := by decide +kernel
set_option maxRecDepth 1000000 in
theorem kt_W : mw (.arrayClass .int) = true ∧ mw (.arrayClass .boolean) = true ∧ mw (.arrayClass .long) = true ∧ mx (.arrayOver (.object "DarnEggs$State")) = true ∧ mx (.arrayOver (.object "DarnEggs$Past")) = true := by decide +kernel
set_option maxRecDepth 1000000 in
theorem kt_Z : Cond.laysStatic Bundle.tN "UNASSIGNED_STACK" Bundle.steD ∈ lw_tbl ∧ Cond.laysStatic Bundle.tN "SUPPRESSED_SENTINEL" Bundle.listD ∈ lw_tbl ∧ Cond.initialized Bundle.tN ∈ lw_tbl ∧ Cond.laysStatic "java/lang/String" "COMPACT_STRINGS" "Z" ∈ lw_tbl ∧ Cond.initialized "java/lang/String" ∈ lw_tbl ∧ Cond.laysStatic "jdk/internal/util/Preconditions" "SIOOBE_FORMATTER" "Ljava/util/function/BiFunction;" ∈ lw_tbl ∧ Cond.initialized "jdk/internal/util/Preconditions" ∈ lw_tbl := by decide +kernel
set_option maxRecDepth 1000000 in
theorem kt_N : Cond.isRef (.static Bundle.tN "UNASSIGNED_STACK" Bundle.steD) ∈ flatC (Jvm.Cond.and given_1 narrow_1) ∧ Cond.isRef (.static Bundle.tN "SUPPRESSED_SENTINEL" Bundle.listD) ∈ flatC (Jvm.Cond.and given_1 narrow_1) ∧ Cond.eq (.static "java/lang/String" "COMPACT_STRINGS" "Z") (.int 1) ∈ flatC (Jvm.Cond.and given_1 narrow_1) ∧ Cond.isRef (.static "jdk/internal/util/Preconditions" "SIOOBE_FORMATTER" "Ljava/util/function/BiFunction;") ∈ flatC (Jvm.Cond.and given_1 narrow_1) ∧ Cond.not (.castable (m_exc 2) (m_exc 1)) ∈ flatC (Jvm.Cond.and given_1 narrow_1) := by decide +kernel
theorem t_arr {s : State} {args : Array Value} {ty : FieldType} (h : (Cond.arrayClass ty).before args s = true) (hn : ∀ C, ty ≠ .object C) : ∃ cA : ClassId, ArrOfT s cA ty ∧ va_RA s cA ty := by
  obtain ⟨cA, kA, comp, h1, h2, h3⟩ := Cond.arrayClass_spec h
  refine ⟨cA, fun n z => ⟨fun k h => (by cases h), kA, h2, comp, h3⟩, ?_⟩
  cases ty <;> first | exact h1 | exact absurd rfl (hn _)
theorem t_over {s : State} {args : Array Value} {C : String} (h : (Cond.arrayOver (.object C)).before args s = true) : ∃ cA : ClassId, ArrOfT s cA (.object C) ∧ va_RA s cA (.object C) := by
  obtain ⟨comp, cA, kA, h1, h2, h3, h4, h5⟩ := Cond.arrayOver_spec h
  exact ⟨cA, fun n z => ⟨fun k h => (by cases h), kA, h3, comp, h4⟩, kA, comp, h3, h4, h1, h5⟩
set_option maxHeartbeats 4000000 in
/-- the start of the law: all that the small machine's runs stand on -/
theorem t_Amb {s : State} {b L : Nat} {xs : Nat → Int32} (hts : ∀ w ∈ lw_tbl, w.before #[Value.ref b] s = true) (hX : va_X b L xs s s.heap) (hbl : b < s.heap.size) (hgv : (Jvm.Cond.and given_1 narrow_1).before #[Value.ref b] s = true) :
    ∃ (D : va_G) (f : Nat → Nat) (tc : Nat → ClassId), m_Amb D f tc s.heap.size (L, xs) mSx mT s ∧ f m_scr = b := by
  have hfl := flat_of_before _ hgv
  have hgw : ∀ w ∈ gw, w.before #[Value.ref b] s = true := fun w hw => hts w (List.mem_filter.mp hw).1
  have hxw : ∀ w ∈ xw, w.before #[Value.ref b] s = true := fun w hw => hts w (List.mem_filter.mp hw).1
  have hA : ∀ a : Nat, a < s.heap.size → ¬ s.heap.size ≤ a := fun a h => Nat.not_le.mpr h
  have hD : ∀ ci : Nat, ∃ z : ClassId × (Nat → Nat), ∀ q, vwCl[ci]? = some q → u_Kn s q.1 q.2.1 q.2.2 z.1 z.2 := by
    intro ci
    cases hq : vwCl[ci]? with
    | none => exact ⟨(0, fun _ => 0), fun q h => by cases h⟩
    | some q =>
      obtain ⟨cC, iS, h⟩ := u_known hgw (m_cls hq).1 (hgw _ (m_cls hq).2.1.1)
      exact ⟨(cC, iS), fun q' h' => by cases h'; exact h⟩
  obtain ⟨dD, hdD⟩ := Classical.axiomOfChoice hD
  obtain ⟨t0, ht0⟩ := t_arr (hgw _ (mw_in kt_W.1)) (fun C h => by cases h)
  obtain ⟨t1, ht1⟩ := t_arr (hgw _ (mw_in kt_W.2.1)) (fun C h => by cases h)
  obtain ⟨t2, ht2⟩ := t_arr (hgw _ (mw_in kt_W.2.2.1)) (fun C h => by cases h)
  obtain ⟨t3, ht3⟩ := t_over (hxw _ (mx_in kt_W.2.2.2.1))
  obtain ⟨t4, ht4⟩ := t_over (hxw _ (mx_in kt_W.2.2.2.2))
  have hSt : ∀ i : Nat, ∃ z : Nat × Nat, ∀ q t, mSx[i]? = some q → mT[i]? = some t → vk_R q.1 q.2.1 q.2.2 z.1 s ∧ va_O "java/lang/String" z.1 (fun a => s.heap.size ≤ a) s s.heap ∧ va_OF "java/lang/String" "coder" "B" (.int 0) z.1 (fun a => s.heap.size ≤ a) s s.heap ∧ va_OF "java/lang/String" "value" "[B" (.ref z.2) z.1 (fun a => s.heap.size ≤ a) s s.heap ∧ va_T .byte z.2 t.length (fun j => .int (t.getD j 0)) (fun a => s.heap.size ≤ a) s s.heap := by
    intro i
    cases hq : mSx[i]? with
    | none => exact ⟨(0, 0), fun q t h => by cases h⟩
    | some q =>
      cases ht : mT[i]? with
      | none => exact ⟨(0, 0), fun q t _ h => by cases h⟩
      | some t =>
        have hz : (mSx.zip mT)[i]? = some (q, t) := by rw [List.getElem?_zip_eq_some]; exact ⟨hq, ht⟩
        have hw : ∀ w ∈ t_S q t, w.before #[Value.ref b] s = true := fun w hw => hfl w (kt_S _ (List.mem_of_getElem? hz) w hw)
        have hlen : t.length < 2 ^ 31 := by
          have := List.all_eq_true.mp kt_L.2 t (List.mem_of_getElem? ht)
          simp only [Bool.and_eq_true, decide_eq_true_eq] at this
          exact this.1
        obtain ⟨a, c, cA, kA, q1, q2, q3, q4, q5, q6, -⟩ := Cond.exactly_spec (args := #[Value.ref b]) (first := s) (o := none) (s := s) (idx := []) (t := .string q.1 q.2.1) (cls := "java/lang/String") (hw (.exactly (.string q.1 q.2.1) "java/lang/String") (by simp [t_S]))
        obtain ⟨tv, htv, hT⟩ := va_Tof (tm := t_val q) (f := fun j => .int (t.getD j 0)) (A := fun a => s.heap.size ≤ a) hlen (hw (.arrayOf (t_val q) .byte) (by simp [t_S])) (va_eqt (hw (.eq (.length (t_val q)) (.int (Int32.ofNat t.length))) (by simp [t_S]))) (fun j hj => va_eqt (hw _ (by simp only [t_S, List.mem_append, List.mem_map, List.mem_range]; exact Or.inr ⟨j, hj, rfl⟩))) hA
        refine ⟨(a, tv), fun q' t' h1 h2 => ?_⟩
        cases h1
        cases h2
        refine ⟨vk_R.of (A := #[Value.ref b]) (hts _ (by simpa using List.all_eq_true.mp kt_R q (List.mem_of_getElem? hq))) q1, ⟨cA, q3, q5, by rw [q6]; exact q2, hA a (Array.getElem?_eq_some_iff.mp q3).1⟩, vk_OFof q1 (va_eqt (hw (.eq (.field (.string q.1 q.2.1) "java/lang/String" "coder" "B") (.int 0)) (by simp [t_S]))) hA, vk_OFof q1 htv hA, hT⟩
  obtain ⟨adS, hadS⟩ := Classical.axiomOfChoice hSt
  have hex : ∀ i t, mT[i]? = some t → ∃ q, mSx[i]? = some q := fun i t h => ⟨_, List.getElem?_eq_getElem (by rw [kt_L.1]; exact (List.getElem?_eq_some_iff.mp h).1)⟩
  have hex2 : ∀ i q, mSx[i]? = some q → ∃ t, mT[i]? = some t := fun i t h => ⟨_, List.getElem?_eq_getElem (by rw [← kt_L.1]; exact (List.getElem?_eq_some_iff.mp h).1)⟩
  refine ⟨(fun k => (dD k).1, fun k => (dD k).2), m_fi s.heap.size b (fun i => (adS i).1), fun k => if k = 0 then t0 else if k = 1 then t1 else if k = 2 then t2 else if k = 3 then t3 else t4, ⟨⟨fun ci q h => hdD ci q h, fun k q hk => ?_⟩, Nat.le_refl _, ⟨?_, ?_⟩, fun j q hj => ?_, fun w hw => ?_, ⟨vx_Zqof (hts _ kt_Z.1) (hts _ kt_Z.2.2.1) (hfl _ kt_N.1) hA, vx_Zqof (hts _ kt_Z.2.1) (hts _ kt_Z.2.2.1) (hfl _ kt_N.2.1) hA⟩, ⟨fun i => (adS i).2, fun i t ht => ?_, va_Zof (hts _ kt_Z.2.2.2.1) (hts _ kt_Z.2.2.2.2.1) (va_eqt (hfl _ kt_N.2.2.1)) hA, va_Zqof (hts _ kt_Z.2.2.2.2.2.1) (hts _ kt_Z.2.2.2.2.2.2) (hfl _ kt_N.2.2.2.1) hA, fun i t ht => ?_⟩, va_Nc.of (hfl _ kt_N.2.2.2.2), fun a ha => ?_⟩, ?_⟩
  · match k, hk with
    | 0, hk => cases hk; exact ht0
    | 1, hk => cases hk; exact ht1
    | 2, hk => cases hk; exact ht2
    | 3, hk => cases hk; exact ht3
    | 4, hk => cases hk; exact ht4
    | n + 5, hk => simp [m_tys] at hk
  · show m_fi _ _ _ m_scr < _
    unfold m_fi
    rw [if_neg (Nat.lt_irrefl _), if_pos rfl]
    exact hbl
  · show va_X (m_fi _ _ _ m_scr) L xs s s.heap
    unfold m_fi
    rw [if_neg (Nat.lt_irrefl _), if_pos rfl]
    exact hX
  · obtain ⟨t, ht⟩ := hex2 j q hj
    rw [m_fi_str]
    exact (hadS j q t hj ht).1
  · have h1 := hxw w hw
    have h2 := (List.mem_filter.mp hw).2
    cases w <;> simp only [m_ex, Bool.false_eq_true] at h2
    case castable => exact va_Nw.of rfl h1
    case declares => exact va_Nw.of rfl h1
    case methodLinkNest => exact va_Nw.of rfl h1
    case arrayOver t =>
      cases t <;> simp only [Bool.false_eq_true] at h2
      exact va_AO.of (A := #[Value.ref b]) h1
  · obtain ⟨q, hq⟩ := hex i t ht
    rw [m_fi_str]
    exact (hadS i q t hq ht).2
  · have := List.all_eq_true.mp kt_L.2 t (List.mem_of_getElem? ht)
    simp only [Bool.and_eq_true, decide_eq_true_eq, List.all_eq_true] at this
    exact this
  · unfold m_fi
    rw [if_pos ha]
  · unfold m_fi
    rw [if_neg (Nat.lt_irrefl _), if_pos rfl]
end
section
/-! from the law's entry to the claim; what is left stands in m_OK (tables, by program) and m_Main (the small machine's run of the law) -/
def R_law : String := "DarnEggsLaw"
def lw_P (b : Addr) (xs : List Int32) (args : Array Value) (s : State) : Prop := args = #[.ref b] ∧ s.IntsAt b xs ∧ xs.length ≤ 4608 ∧ (Jvm.Cond.and given_1 narrow_1).before args s = true
def lw_Q (_ : Array Value) (s : State) (o : Outcome) (t : State) : Prop := o = .returned (some (.int 1)) ∧ Framed s o t [] 601024 7293034
def lw_Z (below : List Frame) (a : Array Value) (s : State) : State → Prop := fun t => ∃ o, t.status = .running ∧ Ended t below o ∧ lw_Q a s o t
def lw_At (p : Program) (s : State) (m : MethodId) (meth : Method) (c : Code) (b L : Nat) (xs : Nat → Int32) : Prop :=
  p.tables.exec = Jvm.exec ∧ c.code = code ∧ meth.sig.returnType = ret ∧ c.maxLocals = 8 ∧ s.vm.findClass R_law = some m.cls ∧ (∀ w ∈ lw_tbl, w.before #[Value.ref b] s = true) ∧ va_X b L xs s s.heap ∧ b < s.heap.size ∧ meth.locks = false ∧ (Jvm.Cond.and given_1 narrow_1).before #[Value.ref b] s = true ∧ meth.name = "law" ∧ c.exceptionTable.toList = []
def m_M0 : mM := (fun _ _ => 0, fun _ _ => none, fun _ _ => 0, [], 0)
/-- THE SMALL MACHINE runs the law to 1, on every script -/
def m_Main : Prop := ∀ X : Nat × (Nat → Int32), X.1 ≤ 4608 → ∃ (n : Nat) (M' : mM), m_run mP mT X n 1000 305 (0, m_ent 8 [.ref m_scr], [], m_M0) = some (.inl (some (.int 1)), M') ∧ m_ncell M' ≤ 601024 ∧ m_nslot M' ≤ 7293034
/-- the program's rows stand in the tables -/
def m_OK : Prop := (∀ (y : Nat) (mm : mMeth), mP[y]? = some mm → (∀ e ∈ mm.2.2.2.2.2.2, m_okOp mP mSx mm e = true) ∧ m_okH mm = true) ∧ (∀ (y z : Nat) (mm m1 : mMeth) (pc : Nat) (op : mOp), mP[y]? = some mm → mm.2.2.2.2.2.2.lookup pc = some op → m_ck op = 2 → mP[op.2.2.1]? = some m1 → m_okY m1 = true)
theorem m_law : mP[305]? = some (x, code, 8, (some .boolean), 113, [], po_305) := by rfl
set_option maxHeartbeats 4000000 in
theorem whole_open (hOK : m_OK) (hM : m_Main) {p : Program} {e : Env} {s : State} {m : MethodId} {below : List Frame} {meth : Method} {c : Code} (l : Launch) (hlt : l.stackTraces = false) {b L : Nat} {xs : Nat → Int32} (hL : L ≤ 4608) (C0 : lw_At p s m meth c b L xs) : W p l e room_1 s m #[Value.ref b] below meth c s.heap [] 0 0 (lw_Z below #[Value.ref b] s) (entryFrame m ([Value.ref b] : List Value).toArray 8) := by
  obtain ⟨hx, hb, hr, hml, hown, hts, hX, hbl, hlk, hgv, hnm, htab⟩ := C0
  obtain ⟨D, f, tc, hAmb, hfs⟩ := t_Amb hts hX hbl hgv
  obtain ⟨n, M', hrun, hc, hs⟩ := hM (L, xs) hL
  have hgw : ∀ w ∈ gw, w.before #[Value.ref b] s = true := fun w hw => hts w (List.mem_filter.mp hw).1
  have hPic : m_Pic D f tc s.heap.size m_M0 s.heap := ⟨fun k q h => by simp [m_ws, m_M0] at h, ⟨fun i j p q h => by simp [m_ws, m_M0] at h, fun k q h => by simp [m_ws, m_M0] at h⟩⟩
  have hsim := m_sim (l := l) (D := D) (f := f) (tc := tc) (base := s.heap.size) (X := (L, xs)) (sx := mSx) (tx := mT) (P := mP) hlt hOK.1 hOK.2 (fun p e R s m args below meth c mm C A hR => sj_TX mm C A hR) mc_CT n 1000 305 _ _ hrun _ m_law p e room_1 s m #[Value.ref b] below meth c ((lg_sl (([.ref m_scr] : List Value).map (m_rho f)) ++ List.replicate (8 - (lg_sl (([.ref m_scr] : List Value).map (m_rho f))).length) Slot.unset).toArray) s.heap [] 0 0 0 0
    ⟨hx, hb, hml, hown, hgw, hnm, hr, hlk, htab⟩ hAmb ⟨by show 20 + 1000 ≤ 2048; decide, by show 300 + 40 * 1000 ≤ 84000; decide⟩ ⟨by show m_ncell M' ≤ 601024 + 0; omega, by show m_nslot M' ≤ 7293034 + 0; omega⟩ ⟨m_Lv_ent (by show 1 ≤ 8; decide), hPic, va_S.rf, rfl, rfl, fun _ => Nat.le_refl _⟩
  have e1 : ([Value.ref b] : List Value) = ([.ref m_scr] : List Value).map (m_rho f) := by show _ = [Value.ref (f m_scr)]; rw [hfs]
  have e2 : entryFrame m ([Value.ref b] : List Value).toArray 8 = F0 m 0 ((lg_sl (([.ref m_scr] : List Value).map (m_rho f)) ++ List.replicate (8 - (lg_sl (([.ref m_scr] : List Value).map (m_rho f))).length) Slot.unset).toArray) [] := by rw [e1, lg_entry_eq]
  rw [e2]
  intro T hT X
  obtain ⟨t, a1, o, b1, b2, b3⟩ := hsim T hT X
  refine ⟨t, a1, o, b1, b2, ?_⟩
  rcases b3 with ⟨⟨⟨v, hv, ho, -⟩, -⟩, Ls, hF, hLs⟩ | ⟨q, -, E, ce, L9, ⟨k, hk, -⟩, -⟩
  · cases hv
    obtain ⟨f1, f2, f3⟩ := hF
    refine ⟨ho, f1, f2, f3.weaken (fun y hy hlt9 => absurd hlt9 (Nat.not_lt.mpr (hLs y hy))) ?_ ?_⟩
    · show m_ncell M' - 0 ≤ 601024; omega
    · show m_nslot M' - 0 ≤ 7293034; omega
  · cases hk
set_option maxHeartbeats 4000000 in
theorem lw_walk (hOK : m_OK) (hM : m_Main) (l : Launch) (hlt : l.stackTraces = false) (b : Addr) (xs : List Int32) : MetFree l x (headSpec (Jvm.Cond.code x code maxLocals ret :: tables_1) room_1) (lw_P b xs) (fun _ _ _ _ _ => True) lw_Q := by
  refine MetFree.of_bodyS (code := code) (maxLocals := maxLocals) (ret := ret) (by decide) ?_ ?_
  · intro args s m h hn
    obtain ⟨meth, c, h1, h2, h3, h4, h5, h6, -, -⟩ := Cond.code_spec hn (atoms_spec (ws := Jvm.Cond.code x code maxLocals ret :: tables_1) h _ List.mem_cons_self)
    exact ⟨meth, c, h1, h2, h3, h4, h5, h6⟩
  · intro p e s m args below meth c s₁ B hml0 hP _
    obtain ⟨rfl, hx, hbd, hgv⟩ := hP
    obtain ⟨scr, harrAt, hlist, hof, hsmall⟩ := hx
    obtain ⟨hcb, hkn, -, -⟩ := State.arrayAt?_spec harrAt
    have hown : s.vm.findClass R_law = some m.cls := findClass_of_methodNamed B.named
    have hts0 : ∀ c ∈ (Jvm.Cond.code x code maxLocals ret :: tables_1), c.before #[Value.ref b] s = true := atoms_spec (ws := Jvm.Cond.code x code maxLocals ret :: tables_1) B.pre
    have hts : ∀ w ∈ lw_tbl, w.before #[Value.ref b] s = true := k2_hts_sels lw_privs (fun w hw => hts0 w (List.mem_cons_of_mem _ hw)) lw_privs_ok
    have hml : c.maxLocals = 8 := B.maxLocals_eq (hts0 _ List.mem_cons_self)
    have X₀ : Stand p l e room_1 s m #[Value.ref b] below meth c s₁ [] 0 0 := Stand.of_body B
    have hh0 : s₁.heap = s.heap := by rw [B.state]; rfl
    have hsz : scr.slots.size = xs.length := by rw [← Array.length_toList, hlist, List.length_map]
    have hval : ∀ j : Nat, j < xs.length → scr.slots[j]? = some (.int (xs.getD j 0)) := fun j hj => by
      rw [← Array.getElem?_toList, hlist]
      simp [hj]
    have hbl : b < s.heap.size := (Array.getElem?_eq_some_iff.mp hcb).1
    have hX : va_X b xs.length (fun j => xs.getD j 0) s s.heap := ⟨scr, hcb, hof, hkn, hsz, hval⟩
    have htab : c.exceptionTable.toList = [] := by
      obtain ⟨meth9, c9, h1, h2, -, -, -, -, h7, -⟩ := Cond.code_spec B.named (hts0 _ List.mem_cons_self)
      cases Option.some.inj (h1.symm.trans B.method)
      cases Option.some.inj (h2.symm.trans (Stand.of_body B).code)
      rw [Array.isEmpty_iff.mp h7]
    have K : W p l e room_1 s m #[Value.ref b] below meth c s₁.heap [] 0 0 (lw_Z below #[Value.ref b] s) (entryFrame m ([Value.ref b] : List Value).toArray 8) := by
      rw [hh0]
      exact whole_open hOK hM l hlt hbd ⟨B.exec, B.bytes, B.returns, hml, hown, hts, hX, hbl, B.notSynchronized, hgv, (name_of_methodNamed B.named B.method).1, htab⟩
    obtain ⟨t, a1, o, b1, b2, b3⟩ := K s₁ rfl X₀
    exact ⟨t, o, a1, b1, b2, b3⟩
theorem lw_pre_spec {args : Array Value} {s : State} (h : (Jvm.Cond.and given_1 narrow_1).before args s = true) (hr : rest_1_c.before args s = true) : ∃ (b : Addr) (xs : List Int32), lw_P b xs args s := by
  have hs := flat_of_before _ h
  have hq := flat_of_before _ hr
  have hc : (Cond.count 1).before args s = true := hs _ (by decide +kernel)
  have harr : (Cond.arrayOf (.arg 0) .int).before args s = true := hs _ (by decide +kernel)
  have hle : (Cond.le (.length (.arg 0)) (.int 4608)).before args s = true := hs _ (by decide +kernel)
  have hlen : (Cond.isInt (.length (.arg 0))).before args s = true := hq _ (by decide +kernel)
  have hall : (Cond.all (.arg 0) (.isInt (.elem (.arg 0) (.index 0)))).before args s = true := hq _ (by decide +kernel)
  obtain ⟨b, xs, hb, hx⟩ := State.ints_of_pre rfl harr hlen hall
  have hsm : xs.length < 2 ^ 31 := hx.choose_spec.2.2.2
  have hev : (Term.length (.arg 0)).eval args s none [] s = some (.int xs.length.toInt32) := hx.length_eval hb
  have hv := Cond.le_ints hev (show (Term.int 4608).eval args s none [] s = some (.int 4608) from rfl)
  have hd : xs.length.toInt32 ≤ 4608 := by
    simpa [Cond.before, Cond.holds, hv] using hle
  have hN : xs.length ≤ 4608 := (Int32.ofNat_le_ofNat hsm (by decide)).mp (show Int32.ofNat xs.length ≤ Int32.ofNat 4608 from hd)
  exact ⟨b, xs, Cond.one_arg hc (show args[0]? = some (.ref b) from hb), hx, hN, h⟩
theorem lw_comes (hOK : m_OK) (hM : m_Main) (l : Launch) (hlt : l.stackTraces = false) : Comes l x (Jvm.Cond.code x code maxLocals ret :: tables_1) room_1 (fun tb e args s => Calls_1 tb e args s ∧ rest_1 tb e args s ∧ Pre_1 tb e args s)
    (fun _ _ args s o t => lw_Q args s o t) := by
  intro p e ha hc hk s m args below hf hfit hheap happ hpre
  obtain ⟨b, xs, hP⟩ := lw_pre_spec hpre.2.2 hpre.2.1
  obtain ⟨k, o, h1, h2, h3, hQ⟩ := lw_walk hOK hM l hlt b xs p e ha hc hk s m args below hf ((Spec.applies_iff_loose hf).mp happ).1 hP trivial
  exact ⟨k, o, h1, h2, h3, hQ⟩
theorem lw_frame {s t : State} {o : Outcome} {args : Array Value} (h : Framed s o t [] 601024 7293034) :
    Framed s o t (fieldLocs frame_1_writes args s ++ arrayLocs frame_1_arrays args s ++ staticLocs frame_1_statics s) 601024 7293034 := h
theorem lw_limb (hOK : m_OK) (hM : m_Main) (L : Cond) (hL : ∀ (args : Array Value) (s t : State), L.after args s (.returned (some (.int 1))) t = true) :
    ArmFor flags0 classFile x code maxLocals ret World_1 tables_1 room_1 Calls_1 rest_1 Pre_1
      (fun tb e a s o t => postC L tb e a s o t ∧ Framed s o t (fieldLocs frame_1_writes a s ++ arrayLocs frame_1_arrays a s ++ staticLocs frame_1_statics s) 601024 7293034) := by
  intro l hfl _ _ p e ha hc hk s m args below hf hfit hheap happ hpre
  have hlt : l.stackTraces = false := by unfold Launch.stackTraces; rw [hfl]; decide +kernel
  obtain ⟨k, o, h1, h2, h3, rfl, hF⟩ := lw_comes hOK hM l hlt p e ha hc hk s m args below hf hfit hheap happ hpre
  exact ⟨k, _, h1, h2, h3, hL args s _, lw_frame hF⟩
theorem i_open (hOK : m_OK) (hM : m_Main) : Claimed_1_1 ∧ Claimed_1_2 := ⟨lw_limb hOK hM limb_1_1 (fun args s t => by simp [limb_1_1, Cond.after, Cond.holds, Cond.value]), lw_limb hOK hM limb_1_2 (fun args s t => Cond.after_iff.mpr (by
  first | (rw [show limb_1_2 = Cond.eq .result (.int 1) from rfl, Cond.eq_ints (x := 1) (y := 1) rfl rfl]; simp; done) | (simp [limb_1_2, Cond.value, Term.eval]; done)))⟩
end
section
/-! THE SMALL MACHINE BY RULES. The cells after the two constructors: their shapes never change, their references but for the three swaps -/
def st_sh : List (Nat × Nat) := [(11, 9), (0, 6), (0, 6), (0, 6), (0, 6), (0, 9), (0, 9)]
def pa_sh : List (Nat × Nat) := [(9, 2), (3, 16)] ++ (List.replicate 16 st_sh).flatten
def vi_sh : List (Nat × Nat) := [(14, 12), (0, 6), (0, 6), (0, 9), (0, 9), (0, 14), (0, 14)]
def la_sh : List (Nat × Nat) := [(8, 4), (0, 150), (0, 8), (0, 40)]
def bo_sh : List (Nat × Nat) := [(5, 9), (0, 8), (0, 8), (1, 36), (0, 100)]
def SH : List (Nat × Nat) := [(16, 19), (13, 8), (0, 600)] ++ vi_sh ++ vi_sh ++ la_sh ++ la_sh ++ bo_sh ++ bo_sh ++ [(12, 8), (0, 150), (0, 150), (0, 150), (0, 150), (0, 150)] ++ st_sh ++ st_sh ++ [(10, 1)] ++ pa_sh
  ++ [(7, 3), (3, 3), (4, 3)] ++ (st_sh ++ pa_sh) ++ (st_sh ++ pa_sh) ++ (st_sh ++ pa_sh) ++ [(6, 2), (0, 54), (0, 3584), (15, 3), (0, 4608), (0, 4608)]
  ++ [(17, 60), (0, 2), (0, 600), (0, 6), (0, 6), (0, 9), (0, 28), (0, 6), (0, 6), (0, 9), (0, 28), (0, 150), (0, 150), (0, 150), (0, 150), (0, 150), (0, 8), (0, 200), (0, 200), (0, 50), (0, 50), (0, 800), (0, 9), (0, 9), (0, 3584), (0, 54), (0, 6), (0, 4608), (0, 4608), (0, 100), (0, 2553), (2, 1)]
def m_ref17 (k : Nat) : Option Nat := match k with
  | 1 => some 543
  | 9 => some 544
  | 10 => some 545
  | 11 => some 546
  | 12 => some 547
  | 13 => some 548
  | 14 => some 549
  | 15 => some 550
  | 16 => some 551
  | 17 => some 552
  | 29 => some 553
  | 30 => some 554
  | 31 => some 555
  | 32 => some 556
  | 33 => some 557
  | 36 => some 558
  | 37 => some 559
  | 38 => some 560
  | 45 => some 561
  | 46 => some 562
  | 47 => some 563
  | 48 => some 564
  | 49 => some 565
  | 51 => some 566
  | 52 => some 567
  | 53 => some 568
  | 54 => some 569
  | 55 => some 570
  | 56 => some 571
  | 58 => some 572
  | _ => none
/-- the references: sw says which village, law and book stand in front -/
def GR (sw : Bool × Bool × Bool) (a k : Nat) : Option Nat := match SH[a]? with
  | some (16, _) => match k with
    | 0 => some 1
    | 2 => some (if sw.1 then 10 else 3)
    | 3 => some (if sw.1 then 3 else 10)
    | 4 => some (if sw.2.1 then 21 else 17)
    | 5 => some (if sw.2.1 then 17 else 21)
    | 6 => some (if sw.2.2 then 30 else 25)
    | 7 => some (if sw.2.2 then 25 else 30)
    | 8 => some 35
    | 9 => some 41
    | 10 => some 48
    | 11 => some 55
    | 12 => some 56
    | 13 => some 170
    | 14 => some 536
    | 15 => some 539
    | _ => none
  | some (13, _) => if k = 0 then some (a + 1) else none
  | some (14, _) => match k with
    | 6 => some (a + 1)
    | 7 => some (a + 2)
    | 8 => some (a + 3)
    | 11 => some (a + 4)
    | 9 => some (a + 5)
    | 10 => some (a + 6)
    | _ => none
  | some (8, _) => match k with
    | 0 => some (a + 1)
    | 2 => some (a + 2)
    | 3 => some (a + 3)
    | _ => none
  | some (5, _) => match k with
    | 1 => some (a + 1)
    | 2 => some (a + 2)
    | 4 => some (a + 3)
    | 5 => some (a + 4)
    | _ => none
  | some (12, _) => if 3 ≤ k ∧ k < 8 then some (a + (k - 2)) else none
  | some (11, _) => if k < 6 then some (a + (k + 1)) else none
  | some (9, _) => if k = 0 then some (a + 1) else none
  | some (7, _) => if k < 2 then some (a + (k + 1)) else none
  | some (6, _) => if k < 2 then some (a + (k + 1)) else none
  | some (15, _) => if k < 2 then some (a + (k + 1)) else none
  | some (3, n) => if k < n then some (if a = 171 then 173 + 121 * k else a + (1 + 7 * k)) else none
  | some (4, n) => if k < n then some (180 + 121 * k) else none
  | some (17, _) => m_ref17 k
  | _ => none
abbrev mk (I : Nat → Nat → Int32) (sw : Bool × Bool × Bool) (lg : Nat → Nat → Int64) (x : Nat) : mM := (I, GR sw, lg, SH, x)
def VV (X : Nat × (Nat → Int32)) (d y : Nat) (c : mC) (K : (Option Value ⊕ Nat) → mM → Prop) : Prop := ∃ n r, m_run mP mT X n d y c = some r ∧ K r.1 r.2
/-- a method's run: from its arguments to its end -/
def EE (X : Nat × (Nat → Int32)) (d y : Nat) (As : List Value) (M : mM) (o : Option Value ⊕ Nat) (M' : mM) : Prop := ∃ mm, mP[y]? = some mm ∧ VV X d y (0, m_ent mm.2.2.1 As, [], M) (fun o1 M1 => o1 = o ∧ M1 = M')
theorem m_mono {P : List mMeth} {tx : List (List Int32)} {X : Nat × (Nat → Int32)} : ∀ (n n' d d' y : Nat) (c : mC) (r : mR), n ≤ n' → d ≤ d' → m_run P tx X n d y c = some r → m_run P tx X n' d' y c = some r := by
  intro n
  induction n with
  | zero => intro n' d d' y c r _ _ h; simp [m_run] at h
  | succ n ih =>
    intro n' d d' y c r hn hd h
    obtain ⟨n1, rfl⟩ : ∃ n1, n' = n1 + 1 := ⟨n' - 1, by omega⟩
    obtain ⟨m, op, hm, hop, h | h | h | h⟩ := m_run_s h
    · obtain ⟨hk, c1, hs, hr⟩ := h
      have := ih n1 d d' y c1 r (by omega) hd hr
      simp only [m_run, hm, hop, hk, hs, this]
    · obtain ⟨hk, v, hv, rfl⟩ := h
      simp only [m_run, hm, hop, hk, hv]
    · obtain ⟨hk, d1, m1, res, rfl, hm1, hcall, hres, hc⟩ := h
      obtain ⟨d2, rfl⟩ : ∃ d2, d' = d2 + 1 := ⟨d' - 1, by omega⟩
      have h1 := ih n1 d1 d2 _ _ res (by omega) (by omega) hres
      rcases hc with ⟨v, hv, h2⟩ | ⟨k, hk2, hf, hh, rfl⟩ | ⟨k, t, hk2, hf, hh, h2⟩
      · have h3 := ih n1 (d1 + 1) (d2 + 1) _ _ r (by omega) hd h2
        obtain ⟨o, M1⟩ := res
        dsimp only at hv
        subst hv
        simp only [m_run, hm, hop, hk, hm1, hcall, if_true, h1, h3]
      · obtain ⟨o, M1⟩ := res
        dsimp only at hk2
        subst hk2
        simp only [m_run, hm, hop, hk, hm1, hcall, if_true, h1, hf, hh]
        rfl
      · have h3 := ih n1 (d1 + 1) (d2 + 1) _ _ r (by omega) hd h2
        obtain ⟨o, M1⟩ := res
        dsimp only at hk2
        subst hk2
        cases hq : m.2.2.2.2.2.1 with
        | nil => rw [hq] at hh; cases hh
        | cons a b =>
          rw [hq] at hh
          simp only [m_run, hm, hop, hk, hm1, hcall, if_true, h1, hf, hq, hh, h3]
          rfl
    · obtain ⟨hk, hlen, rfl⟩ := h
      have h0 : m_ck op = 3 := by
        unfold m_ck at hk ⊢
        split at hk <;> (try split at hk) <;> first | omega | rfl | simp_all
      simp only [m_run, hm, hop, h0, hlen, if_true]
section Rules
variable {X : Nat × (Nat → Int32)} {d y pc : Nat} {L : mL} {st : List Value} {M : mM} {K : (Option Value ⊕ Nat) → mM → Prop} {mm : mMeth}
theorem v_s {op : mOp} {c1 : mC} (hm : mP[y]? = some mm) (ho : mm.2.2.2.2.2.2.lookup pc = some op) (hk : m_ck op = 0) (hs : m_step mT X op pc L st M = some c1) (h : VV X d y c1 K) : VV X d y (pc, L, st, M) K := by
  obtain ⟨n, r, hr, hK⟩ := h
  exact ⟨n + 1, r, by simp only [m_run, hm, ho, hk, hs, hr], hK⟩
theorem v_ret {op : mOp} {v : Option Value} (hm : mP[y]? = some mm) (ho : mm.2.2.2.2.2.2.lookup pc = some op) (hk : m_ck op = 1) (hs : m_ret mm op st = some v) (h : K (.inl v) M) : VV X d y (pc, L, st, M) K :=
  ⟨1, (.inl v, M), by simp only [m_run, hm, ho, hk, hs], h⟩
theorem v_thr {op : mOp} (hm : mP[y]? = some mm) (ho : mm.2.2.2.2.2.2.lookup pc = some op) (hk : m_ck op = 3) (hl : st.length ≤ 8) (h : K (.inr (op.2.2.1 - 2000)) (m_thr M)) : VV X d y (pc, L, st, M) K :=
  ⟨1, (.inr (op.2.2.1 - 2000), m_thr M), by simp only [m_run, hm, ho, hk, hl, if_true], h⟩
theorem v_call {op : mOp} {As rest : List Value} {v : Option Value} {M1 : mM} {m1 : mMeth} {d1 : Nat} (hm : mP[y]? = some mm) (ho : mm.2.2.2.2.2.2.lookup pc = some op) (hk : m_ck op = 2) (hm1 : mP[op.2.2.1]? = some m1) (hAs : (st.take op.2.2.2).reverse = As) (hrest : st.drop op.2.2.2 = rest) (hc : m_call op m1 st M = true)
    (he : EE X d1 op.2.2.1 As M (.inl v) M1) (hd : d1 < d) (h : VV X d y (pc + 3, L, v.toList ++ rest, M1) K) : VV X d y (pc, L, st, M) K := by
  obtain ⟨mm1, hmm1, n1, r1, hr1, h1, h2⟩ := he
  cases hm1.symm.trans hmm1
  obtain ⟨n2, r, hr, hK⟩ := h
  obtain ⟨d2, rfl⟩ : ∃ d2, d = d2 + 1 := ⟨d - 1, by omega⟩
  obtain ⟨o, M9⟩ := r1
  dsimp only at h1 h2
  subst h1
  subst h2
  have a1 := m_mono n1 (max n1 n2) d1 d2 _ _ _ (by omega) (by omega) hr1
  have a2 := m_mono n2 (max n1 n2) (d2 + 1) (d2 + 1) _ _ _ (by omega) (Nat.le_refl _) hr
  subst hAs
  subst hrest
  exact ⟨max n1 n2 + 1, r, by simp only [m_run, hm, ho, hk, hm1, hc, if_true, a1, a2], hK⟩
theorem v_callx {op : mOp} {As : List Value} {k : Nat} {M1 : mM} {m1 : mMeth} {d1 : Nat} (hm : mP[y]? = some mm) (ho : mm.2.2.2.2.2.2.lookup pc = some op) (hk : m_ck op = 2) (hm1 : mP[op.2.2.1]? = some m1) (hAs : (st.take op.2.2.2).reverse = As) (hc : m_call op m1 st M = true)
    (he : EE X d1 op.2.2.1 As M (.inr k) M1) (hd : d1 < d) (hf : m_fixed op m1 = false) (hh : mm.2.2.2.2.2.1 = []) (h : K (.inr k) M1) : VV X d y (pc, L, st, M) K := by
  obtain ⟨mm1, hmm1, n1, r1, hr1, h1, h2⟩ := he
  cases hm1.symm.trans hmm1
  obtain ⟨d2, rfl⟩ : ∃ d2, d = d2 + 1 := ⟨d - 1, by omega⟩
  obtain ⟨o, M9⟩ := r1
  dsimp only at h1 h2
  subst h1
  subst h2
  have a1 := m_mono n1 n1 d1 d2 _ _ _ (Nat.le_refl _) (by omega) hr1
  subst hAs
  exact ⟨n1 + 1, (.inr k, M9), by simp only [m_run, hm, ho, hk, hm1, hc, if_true, a1, hf, hh]; rfl, h⟩
theorem v_catch {op : mOp} {As : List Value} {k t : Nat} {M1 : mM} {m1 : mMeth} {d1 : Nat} (hm : mP[y]? = some mm) (ho : mm.2.2.2.2.2.2.lookup pc = some op) (hk : m_ck op = 2) (hm1 : mP[op.2.2.1]? = some m1) (hAs : (st.take op.2.2.2).reverse = As) (hc : m_call op m1 st M = true)
    (he : EE X d1 op.2.2.1 As M (.inr k) M1) (hd : d1 < d) (hf : m_fixed op m1 = false) (hh : m_hand mm.2.2.2.2.2.1 pc k = some t) (h : VV X d y (t, List.replicate L.length none, [], M1) K) : VV X d y (pc, L, st, M) K := by
  obtain ⟨mm1, hmm1, n1, r1, hr1, h1, h2⟩ := he
  cases hm1.symm.trans hmm1
  obtain ⟨n2, r, hr, hK⟩ := h
  obtain ⟨d2, rfl⟩ : ∃ d2, d = d2 + 1 := ⟨d - 1, by omega⟩
  obtain ⟨o, M9⟩ := r1
  dsimp only at h1 h2
  subst h1
  subst h2
  have a1 := m_mono n1 (max n1 n2) d1 d2 _ _ _ (by omega) (by omega) hr1
  have a2 := m_mono n2 (max n1 n2) (d2 + 1) (d2 + 1) _ _ _ (by omega) (Nat.le_refl _) hr
  subst hAs
  refine ⟨max n1 n2 + 1, r, ?_, hK⟩
  cases hq : mm.2.2.2.2.2.1 with
  | nil => rw [hq] at hh; cases hh
  | cons a b =>
    rw [hq] at hh
    simp only [m_run, hm, ho, hk, hm1, hc, if_true, a1, hf, hq, hh, a2]
    rfl
theorem EE.mono {d d' y : Nat} {As : List Value} {M M' : mM} {o : Option Value ⊕ Nat} (h : EE X d y As M o M') (hd : d ≤ d') : EE X d' y As M o M' := by
  obtain ⟨mm, hm, n, r, hr, hK⟩ := h
  exact ⟨mm, hm, n, r, m_mono n n d d' _ _ _ (Nat.le_refl _) hd hr, hK⟩
theorem VV.imp {c : mC} {K K' : (Option Value ⊕ Nat) → mM → Prop} (h : VV X d y c K) (hk : ∀ o M, K o M → K' o M) : VV X d y c K' := by
  obtain ⟨n, r, hr, hK⟩ := h
  exact ⟨n, r, hr, hk _ _ hK⟩
theorem EE.of {As : List Value} {M' : mM} {o : Option Value ⊕ Nat} (hm : mP[y]? = some mm) (h : VV X d y (0, m_ent mm.2.2.1 As, [], M) (fun o1 M1 => o1 = o ∧ M1 = M')) : EE X d y As M o M' := ⟨mm, hm, h⟩
end Rules
end
section
/-! the rules that touch memory -/
theorem SH_len : SH.length = 574 := by decide +kernel
theorem SH_lt {a : Nat} {q : Nat × Nat} (h : SH[a]? = some q) : a < 574 := by
  have := (List.getElem?_eq_some_iff.mp h).1
  rw [SH_len] at this
  exact this
theorem SH_scr {a : Nat} {q : Nat × Nat} (h : SH[a]? = some q) : ¬ a = m_scr := by
  have := SH_lt h
  unfold m_scr
  omega
section Mem
variable {X : Nat × (Nat → Int32)} {d y pc : Nat} {L : mL} {st : List Value} {K : (Option Value ⊕ Nat) → mM → Prop} {mm : mMeth} {I : Nat → Nat → Int32} {sw : Bool × Bool × Bool} {lg : Nat → Nat → Int64} {x : Nat}
theorem v_gi {i l ci b a N : Nat} (k : Nat) (hm : mP[y]? = some mm) (ho : mm.2.2.2.2.2.2.lookup pc = some (.getfield i, l, ci, b)) (hb : b = 2 * k) (hC : SH[a]? = some (ci + 5, N)) (hk : k < N) (h : VV X d y (pc + 3, L, .int (I a k) :: st, mk I sw lg x) K) : VV X d y (pc, L, .ref a :: st, mk I sw lg x) K := by
  subst hb
  refine v_s hm ho rfl ?_ h
  simp only [m_step, m_r1, m_obj, hC, if_true]
  rw [show 2 * k / 2 = k by omega, if_pos hk, if_pos (by omega)]
theorem v_gr {i l ci b a N w : Nat} (k : Nat) (hm : mP[y]? = some mm) (ho : mm.2.2.2.2.2.2.lookup pc = some (.getfield i, l, ci, b)) (hb : b = 2 * k + 1) (hC : SH[a]? = some (ci + 5, N)) (hk : k < N) (hG : GR sw a k = some w) (h : VV X d y (pc + 3, L, .ref w :: st, mk I sw lg x) K) : VV X d y (pc, L, .ref a :: st, mk I sw lg x) K := by
  subst hb
  refine v_s hm ho rfl ?_ h
  simp only [m_step, m_r1, m_obj, hC, if_true]
  rw [show (2 * k + 1) / 2 = k by omega, if_pos hk, if_neg (by omega), hG]
  rfl
theorem v_pi {i l ci b a N : Nat} {v : Int32} (k : Nat) (hm : mP[y]? = some mm) (ho : mm.2.2.2.2.2.2.lookup pc = some (.putfield i, l, ci, b)) (hb : b = 2 * k) (hC : SH[a]? = some (ci + 5, N)) (hk : k < N) (h : VV X d y (pc + 3, L, st, mk (m_up I a k v) sw lg x) K) : VV X d y (pc, L, .int v :: .ref a :: st, mk I sw lg x) K := by
  subst hb
  refine v_s hm ho rfl ?_ h
  simp only [m_step, m_i1, m_r1, m_obj, hC, if_true]
  rw [show 2 * k / 2 = k by omega, if_pos (by omega), if_pos hk]
theorem v_al {l a0 b0 a n : Nat} {i : Int32} (hm : mP[y]? = some mm) (ho : mm.2.2.2.2.2.2.lookup pc = some (.iaload, l, a0, b0)) (hA : SH[a]? = some (0, n)) (hi : vp_in i n) (h : VV X d y (pc + 1, L, .int (I a i.toNatClampNeg) :: st, mk I sw lg x) K) : VV X d y (pc, L, .int i :: .ref a :: st, mk I sw lg x) K := by
  refine v_s hm ho rfl ?_ h
  simp only [m_step, m_i1, m_r1, m_arr, hA, if_true, if_neg (SH_scr hA)]
  rw [if_neg hi]
theorem v_as {l a0 b0 a n : Nat} {i v : Int32} (hm : mP[y]? = some mm) (ho : mm.2.2.2.2.2.2.lookup pc = some (.iastore, l, a0, b0)) (hA : SH[a]? = some (0, n)) (hi : vp_in i n) (h : VV X d y (pc + 1, L, st, mk (m_up I a i.toNatClampNeg v) sw lg x) K) : VV X d y (pc, L, .int v :: .int i :: .ref a :: st, mk I sw lg x) K := by
  refine v_s hm ho rfl ?_ h
  simp only [m_step, m_i2, m_r1, m_arr, hA, if_true]
  rw [if_neg hi]
theorem v_bl {l a0 b0 a n : Nat} {i : Int32} (hm : mP[y]? = some mm) (ho : mm.2.2.2.2.2.2.lookup pc = some (.baload, l, a0, b0)) (hA : SH[a]? = some (1, n)) (hi : vp_in i n) (h : VV X d y (pc + 1, L, .int (I a i.toNatClampNeg) :: st, mk I sw lg x) K) : VV X d y (pc, L, .int i :: .ref a :: st, mk I sw lg x) K := by
  refine v_s hm ho rfl ?_ h
  simp only [m_step, m_i1, m_r1, m_arr, hA, if_true]
  rw [if_neg hi]
theorem v_bs {l a0 b0 a n : Nat} {i v : Int32} (hm : mP[y]? = some mm) (ho : mm.2.2.2.2.2.2.lookup pc = some (.bastore, l, a0, b0)) (hA : SH[a]? = some (1, n)) (hi : vp_in i n) (h : VV X d y (pc + 1, L, st, mk (m_up I a i.toNatClampNeg (vp_nar .boolean v)) sw lg x) K) : VV X d y (pc, L, .int v :: .int i :: .ref a :: st, mk I sw lg x) K := by
  refine v_s hm ho rfl ?_ h
  simp only [m_step, m_i2, m_r1, m_arr, hA, if_true]
  rw [if_neg hi]
theorem v_ll {l a0 b0 a n : Nat} {i : Int32} (hm : mP[y]? = some mm) (ho : mm.2.2.2.2.2.2.lookup pc = some (.laload, l, a0, b0)) (hA : SH[a]? = some (2, n)) (hi : vp_in i n) (h : VV X d y (pc + 1, L, .long (lg a i.toNatClampNeg) :: st, mk I sw lg x) K) : VV X d y (pc, L, .int i :: .ref a :: st, mk I sw lg x) K := by
  refine v_s hm ho rfl ?_ h
  simp only [m_step, m_i1, m_r1, m_arr, hA, if_true]
  rw [if_neg hi]
theorem v_ls {l a0 b0 a n : Nat} {i : Int32} {v : Int64} (hm : mP[y]? = some mm) (ho : mm.2.2.2.2.2.2.lookup pc = some (.lastore, l, a0, b0)) (hA : SH[a]? = some (2, n)) (hi : vp_in i n) (h : VV X d y (pc + 1, L, st, mk I sw (m_up lg a i.toNatClampNeg v) x) K) : VV X d y (pc, L, .long v :: .int i :: .ref a :: st, mk I sw lg x) K := by
  refine v_s hm ho rfl ?_ h
  simp only [m_step, m_l1, m_i1, m_r1, m_arr, hA, if_true]
  rw [if_neg hi]
theorem v_aal {l kd b0 a n w : Nat} {i : Int32} (hm : mP[y]? = some mm) (ho : mm.2.2.2.2.2.2.lookup pc = some (.aaload, l, kd, b0)) (hkd : kd = 3 ∨ kd = 4) (hA : SH[a]? = some (kd, n)) (hi : vp_in i n) (hG : GR sw a i.toNatClampNeg = some w) (h : VV X d y (pc + 1, L, .ref w :: st, mk I sw lg x) K) : VV X d y (pc, L, .int i :: .ref a :: st, mk I sw lg x) K := by
  refine v_s hm ho rfl ?_ h
  simp only [m_step, m_i1, m_r1, m_arr, hA, if_true]
  rw [if_neg hi, if_pos hkd, hG]
  rfl
theorem v_len {l a0 b0 a n kd : Nat} (hm : mP[y]? = some mm) (ho : mm.2.2.2.2.2.2.lookup pc = some (.arraylength, l, a0, b0)) (hA : SH[a]? = some (kd, n)) (hkd : kd < 5) (h : VV X d y (pc + 1, L, .int (nI n) :: st, mk I sw lg x) K) : VV X d y (pc, L, .ref a :: st, mk I sw lg x) K := by
  refine v_s hm ho rfl ?_ h
  simp only [m_step, m_r1, m_len, hA, if_neg (SH_scr hA)]
  rw [if_pos hkd]
theorem v_cpy {i l b a0 a1 n0 n1 : Nat} {sp dp n : Int32} (hm : mP[y]? = some mm) (ho : mm.2.2.2.2.2.2.lookup pc = some (.invokestatic i, l, 1002, b)) (hA0 : SH[a0]? = some (0, n0)) (hA1 : SH[a1]? = some (0, n1)) (hc : ¬ (8 < st.length ∨ sp < 0 ∨ dp < 0 ∨ n < 0 ∨ n0 < sp.toNatClampNeg + n.toNatClampNeg ∨ n1 < dp.toNatClampNeg + n.toNatClampNeg))
    (h : VV X d y (pc + 3, L, st, mk (m_row I a1 (va_cpy (I a0) (I a1) sp.toNatClampNeg dp.toNatClampNeg n.toNatClampNeg)) sw lg x) K) : VV X d y (pc, L, .int n :: .int dp :: .ref a1 :: .int sp :: .ref a0 :: st, mk I sw lg x) K := by
  refine v_s hm ho rfl ?_ h
  simp only [m_step, m_i1, m_i2, m_r1, hA0, hA1]
  rw [if_neg (by decide), if_neg (by decide), if_pos trivial, if_neg hc]
end Mem
section Br
variable {X : Nat × (Nat → Int32)} {d y pc : Nat} {L : mL} {st : List Value} {M : mM} {K : (Option Value ⊕ Nat) → mM → Prop} {mm : mMeth}
theorem v_if2 {l a0 b0 t : Nat} {cn : ClassFile.Cond} {off : Int} {u v : Int32} (hm : mP[y]? = some mm) (ho : mm.2.2.2.2.2.2.lookup pc = some (.if_icmp cn off, l, a0, b0)) (ht : (pc : Int) + off = .ofNat t) (h1 : m_cc cn u v = true → VV X d y (t, L, st, M) K) (h2 : ¬ m_cc cn u v = true → VV X d y (pc + 3, L, st, M) K) : VV X d y (pc, L, .int v :: .int u :: st, M) K := by
  by_cases hc : m_cc cn u v = true
  · refine v_s hm ho rfl ?_ (h1 hc)
    simp only [m_step, m_i2, m_br, ht, hc, if_true]
  · refine v_s hm ho rfl ?_ (h2 hc)
    simp only [m_step, m_i2, m_br, ht, hc]
    rfl
theorem v_if1 {l a0 b0 t : Nat} {cn : ClassFile.Cond} {off : Int} {u : Int32} (hm : mP[y]? = some mm) (ho : mm.2.2.2.2.2.2.lookup pc = some (.ifCond cn off, l, a0, b0)) (ht : (pc : Int) + off = .ofNat t) (h1 : m_cc cn u 0 = true → VV X d y (t, L, st, M) K) (h2 : ¬ m_cc cn u 0 = true → VV X d y (pc + 3, L, st, M) K) : VV X d y (pc, L, .int u :: st, M) K := by
  by_cases hc : m_cc cn u 0 = true
  · refine v_s hm ho rfl ?_ (h1 hc)
    simp only [m_step, m_i1, m_br, ht, hc, if_true]
  · refine v_s hm ho rfl ?_ (h2 hc)
    simp only [m_step, m_i1, m_br, ht, hc]
    rfl
theorem v_div {l a0 b0 : Nat} {u v : Int32} (hm : mP[y]? = some mm) (ho : mm.2.2.2.2.2.2.lookup pc = some (.idiv, l, a0, b0)) (hv : ¬ v = 0) (h : VV X d y (pc + 1, L, .int (u / v) :: st, M) K) : VV X d y (pc, L, .int v :: .int u :: st, M) K := by
  refine v_s hm ho rfl ?_ h
  simp only [m_step, m_i2]
  rw [if_neg hv]
theorem v_rem {l a0 b0 : Nat} {u v : Int32} (hm : mP[y]? = some mm) (ho : mm.2.2.2.2.2.2.lookup pc = some (.irem, l, a0, b0)) (hv : ¬ v = 0) (h : VV X d y (pc + 1, L, .int (u - u / v * v) :: st, M) K) : VV X d y (pc, L, .int v :: .int u :: st, M) K := by
  refine v_s hm ho rfl ?_ h
  simp only [m_step, m_i2]
  rw [if_neg hv]
theorem v_swd {l a0 b0 t : Nat} {df lo hi : Int} {offs : Array Int} {u : Int32} (hm : mP[y]? = some mm) (ho : mm.2.2.2.2.2.2.lookup pc = some (.tableswitch df lo hi offs, l, a0, b0)) (hu : u.toInt < lo ∨ hi < u.toInt) (ht : (pc : Int) + df = .ofNat t) (h : VV X d y (t, L, st, M) K) : VV X d y (pc, L, .int u :: st, M) K := by
  refine v_s hm ho rfl ?_ h
  simp only [m_step, m_i1, m_jmp]
  rw [if_pos hu, ht]
theorem v_swi {l a0 b0 t : Nat} {df lo hi off : Int} {offs : Array Int} {u : Int32} (hm : mP[y]? = some mm) (ho : mm.2.2.2.2.2.2.lookup pc = some (.tableswitch df lo hi offs, l, a0, b0)) (hu : ¬ (u.toInt < lo ∨ hi < u.toInt)) (hof : offs[(u.toInt - lo).toNat]? = some off) (ht : (pc : Int) + off = .ofNat t) (h : VV X d y (t, L, st, M) K) : VV X d y (pc, L, .int u :: st, M) K := by
  refine v_s hm ho rfl ?_ h
  simp only [m_step, m_i1, m_jmp]
  rw [if_neg hu, hof]
  dsimp only
  rw [ht]
end Br
end
section
/-! constants, stores into locals, calls of an object's methods; where the cells of a class lie -/
section Vr
variable {X : Nat × (Nat → Int32)} {d y pc : Nat} {L L' : mL} {st : List Value} {M : mM} {K : (Option Value ⊕ Nat) → mM → Prop} {mm : mMeth} {l a0 b0 : Nat}
theorem v_ic {n : Int} {v : Int32} (hm : mP[y]? = some mm) (ho : mm.2.2.2.2.2.2.lookup pc = some (.iconst n, l, a0, b0)) (hv : Int32.ofInt n = v) (h : VV X d y (pc + 1, L, .int v :: st, M) K) : VV X d y (pc, L, st, M) K := by subst hv; exact v_s hm ho rfl rfl h
theorem v_bp {n : Int} {v : Int32} (hm : mP[y]? = some mm) (ho : mm.2.2.2.2.2.2.lookup pc = some (.bipush n, l, a0, b0)) (hv : (Int8.ofInt n).toInt32 = v) (h : VV X d y (pc + 2, L, .int v :: st, M) K) : VV X d y (pc, L, st, M) K := by subst hv; exact v_s hm ho rfl rfl h
theorem v_sp {n : Int} {v : Int32} (hm : mP[y]? = some mm) (ho : mm.2.2.2.2.2.2.lookup pc = some (.sipush n, l, a0, b0)) (hv : (Int16.ofInt n).toInt32 = v) (h : VV X d y (pc + 3, L, .int v :: st, M) K) : VV X d y (pc, L, st, M) K := by subst hv; exact v_s hm ho rfl rfl h
theorem v_is {i : Nat} {v : Int32} (hm : mP[y]? = some mm) (ho : mm.2.2.2.2.2.2.lookup pc = some (.istore i, l, a0, b0)) (hi : i < L.length) (hL : m_set L i (.int v) = L') (h : VV X d y (pc + 2, L', st, M) K) : VV X d y (pc, L, .int v :: st, M) K := by
  subst hL
  refine v_s hm ho rfl ?_ h
  simp only [m_step, m_i1, if_pos hi]
theorem v_isn {i : Fin 4} {v : Int32} (hm : mP[y]? = some mm) (ho : mm.2.2.2.2.2.2.lookup pc = some (.istore_n i, l, a0, b0)) (hi : (i : Nat) < L.length) (hL : m_set L i (.int v) = L') (h : VV X d y (pc + 1, L', st, M) K) : VV X d y (pc, L, .int v :: st, M) K := by
  subst hL
  refine v_s hm ho rfl ?_ h
  simp only [m_step, m_i1, if_pos hi]
theorem v_rs {i a : Nat} (hm : mP[y]? = some mm) (ho : mm.2.2.2.2.2.2.lookup pc = some (.astore i, l, a0, b0)) (hi : i < L.length) (hL : m_set L i (.ref a) = L') (h : VV X d y (pc + 2, L', st, M) K) : VV X d y (pc, L, .ref a :: st, M) K := by
  subst hL
  refine v_s hm ho rfl ?_ h
  simp only [m_step, m_r1, if_pos hi]
theorem v_rsn {i : Fin 4} {a : Nat} (hm : mP[y]? = some mm) (ho : mm.2.2.2.2.2.2.lookup pc = some (.astore_n i, l, a0, b0)) (hi : (i : Nat) < L.length) (hL : m_set L i (.ref a) = L') (h : VV X d y (pc + 1, L', st, M) K) : VV X d y (pc, L, .ref a :: st, M) K := by
  subst hL
  refine v_s hm ho rfl ?_ h
  simp only [m_step, m_r1, if_pos hi]
theorem v_lst {i : Nat} {v : Int64} (hm : mP[y]? = some mm) (ho : mm.2.2.2.2.2.2.lookup pc = some (.lstore i, l, a0, b0)) (hi : i + 1 < L.length) (hL : m_setL L i (.long v) = L') (h : VV X d y (pc + 2, L', st, M) K) : VV X d y (pc, L, .long v :: st, M) K := by
  subst hL
  refine v_s hm ho rfl ?_ h
  simp only [m_step, m_l1, if_pos hi]
theorem v_inc {i : Nat} {n : Int} {u v : Int32} (hm : mP[y]? = some mm) (ho : mm.2.2.2.2.2.2.lookup pc = some (.iinc i n, l, a0, b0)) (hg : m_get L i = some (.int u)) (hi : i < L.length) (hv : u + Int32.ofInt n = v) (hL : m_set L i (.int v) = L') (h : VV X d y (pc + 3, L', st, M) K) : VV X d y (pc, L, st, M) K := by
  subst hL
  subst hv
  refine v_s hm ho rfl ?_ h
  simp only [m_step, hg, if_pos hi]
theorem v_go {off : Int} {t : Nat} (hm : mP[y]? = some mm) (ho : mm.2.2.2.2.2.2.lookup pc = some (.goto off, l, a0, b0)) (ht : (pc : Int) + off = .ofNat t) (h : VV X d y (t, L, st, M) K) : VV X d y (pc, L, st, M) K := by
  refine v_s hm ho rfl ?_ h
  simp only [m_step, m_jmp, ht]
/-- a call of an object's method: the receiver's class -/
theorem m_callv {i a b lw : Nat} {m1 : mMeth} {As rest : List Value} {N : Nat} (hst : st = As.reverse ++ .ref a :: rest) (hb : As.length + 1 = b) (hC : M.2.2.2.1[a]? = some (m1.2.2.2.2.1 + 5, N)) (hr : rest.length ≤ 4) (hs : (m_slots (.ref a :: As)).length ≤ m1.2.2.1) {z : Nat} : m_call (.invokevirtual i, lw, z, b) m1 st M = true := by
  have h1 : (st.take b).reverse = .ref a :: As := by
    rw [hst, ← hb, show As.length + 1 = As.reverse.length + 1 by simp]
    rw [List.take_append, List.take_of_length_le (by simp)]
    simp
  have h2 : st.drop b = rest := by
    rw [hst, ← hb, show As.length + 1 = As.reverse.length + 1 by simp]
    simp [List.drop_append]
  simp only [m_call, h1, h2, m_rcv, hC, Bool.and_eq_true, decide_eq_true_eq]
  refine ⟨⟨?_, hr, hs⟩, trivial⟩
  rw [hst]
  simp
  omega
end Vr
set_option maxRecDepth 100000 in
theorem shV0 : ∀ a, a < 574 → SH[a]? = some (14, 12) → [SH[a + 1]?, SH[a + 2]?, SH[a + 3]?, SH[a + 4]?, SH[a + 5]?, SH[a + 6]?] = [some (0, 6), some (0, 6), some (0, 9), some (0, 9), some (0, 14), some (0, 14)] := by decide +kernel
theorem shV : ∀ a, a < 574 → SH[a]? = some (14, 12) → SH[a + 1]? = some (0, 6) ∧ SH[a + 2]? = some (0, 6) ∧ SH[a + 3]? = some (0, 9) ∧ SH[a + 4]? = some (0, 9) ∧ SH[a + 5]? = some (0, 14) ∧ SH[a + 6]? = some (0, 14) := by
  intro a h1 h2
  have h := shV0 a h1 h2
  simp only [List.cons.injEq, and_true] at h
  exact h
set_option maxRecDepth 100000 in
theorem shL0 : ∀ a, a < 574 → SH[a]? = some (8, 4) → [SH[a + 1]?, SH[a + 2]?, SH[a + 3]?] = [some (0, 150), some (0, 8), some (0, 40)] := by decide +kernel
theorem shL : ∀ a, a < 574 → SH[a]? = some (8, 4) → SH[a + 1]? = some (0, 150) ∧ SH[a + 2]? = some (0, 8) ∧ SH[a + 3]? = some (0, 40) := by
  intro a h1 h2
  have h := shL0 a h1 h2
  simp only [List.cons.injEq, and_true] at h
  exact h
set_option maxRecDepth 100000 in
theorem shB0 : ∀ a, a < 574 → SH[a]? = some (5, 9) → [SH[a + 1]?, SH[a + 2]?, SH[a + 3]?, SH[a + 4]?] = [some (0, 8), some (0, 8), some (1, 36), some (0, 100)] := by decide +kernel
theorem shB : ∀ a, a < 574 → SH[a]? = some (5, 9) → SH[a + 1]? = some (0, 8) ∧ SH[a + 2]? = some (0, 8) ∧ SH[a + 3]? = some (1, 36) ∧ SH[a + 4]? = some (0, 100) := by
  intro a h1 h2
  have h := shB0 a h1 h2
  simp only [List.cons.injEq, and_true] at h
  exact h
set_option maxRecDepth 100000 in
theorem shS0 : ∀ a, a < 574 → SH[a]? = some (11, 9) → [SH[a + 1]?, SH[a + 2]?, SH[a + 3]?, SH[a + 4]?, SH[a + 5]?, SH[a + 6]?] = [some (0, 6), some (0, 6), some (0, 6), some (0, 6), some (0, 9), some (0, 9)] := by decide +kernel
theorem shS : ∀ a, a < 574 → SH[a]? = some (11, 9) → SH[a + 1]? = some (0, 6) ∧ SH[a + 2]? = some (0, 6) ∧ SH[a + 3]? = some (0, 6) ∧ SH[a + 4]? = some (0, 6) ∧ SH[a + 5]? = some (0, 9) ∧ SH[a + 6]? = some (0, 9) := by
  intro a h1 h2
  have h := shS0 a h1 h2
  simp only [List.cons.injEq, and_true] at h
  exact h
set_option maxRecDepth 100000 in
theorem shP : ∀ a, a < 574 → SH[a]? = some (9, 2) → SH[a + 1]? = some (3, 16) ∧ ∀ i, i < 16 → SH[a + 1 + (1 + 7 * i)]? = some (11, 9) := by decide +kernel
theorem mt_61 : mP[61]? = some (yX6_allWear, cX6_allWear, 4, (some .int), 6, [], po_61) := by rfl
set_option maxHeartbeats 1000000 in
theorem b_61_0 {X : Nat × (Nat → Int32)} {d : Nat} {I : Nat → Nat → Int32} {sw : Bool × Bool × Bool} {lg : Nat → Nat → Int64} {x : Nat} {K : (Option Value ⊕ Nat) → mM → Prop} {r0 r1 : Nat} {o2 o3 : Option Value} (h : VV X d 61 (4, [some (.ref r0), some (.ref r1), some (.int 0), some (.int 0)], [], mk I sw lg x) K) : VV X d 61 (0, [some (.ref r0), some (.ref r1), o2, o3], [], mk I sw lg x) K := by
  refine v_ic (v := 0) mt_61 rfl rfl ?_
  refine v_isn (L' := [some (.ref r0), some (.ref r1), some (.int 0), o3]) mt_61 rfl (Nat.le_of_ble_eq_true rfl) rfl ?_
  refine v_ic (v := 0) mt_61 rfl rfl ?_
  refine v_isn (L' := [some (.ref r0), some (.ref r1), some (.int 0), some (.int 0)]) mt_61 rfl (Nat.le_of_ble_eq_true rfl) rfl ?_
  exact h
set_option maxHeartbeats 1000000 in
theorem b_61_4 {X : Nat × (Nat → Int32)} {d : Nat} {I : Nat → Nat → Int32} {sw : Bool × Bool × Bool} {lg : Nat → Nat → Int64} {x : Nat} {K : (Option Value ⊕ Nat) → mM → Prop} {r0 r1 : Nat} {x2 x3 : Int32} (h0 : SH[r0]? = some (11, 9)) (h1 : SH[r1]? = some (14, 12))
    (h : (I r1 2 ≤ x3 → K (.inl (some (.int x2))) (mk I sw lg x)) ∧ (¬ I r1 2 ≤ x3 → vp_in x3 9 ∧ VV X d 61 (4, [some (.ref r0), some (.ref r1), some (.int (x2 + I (r0 + 5) x3.toNatClampNeg)), some (.int (x3 + 1))], [], mk I sw lg x) K)) : VV X d 61 (4, [some (.ref r0), some (.ref r1), some (.int x2), some (.int x3)], [], mk I sw lg x) K := by
  refine v_s mt_61 rfl rfl rfl ?_
  refine v_s mt_61 rfl rfl rfl ?_
  refine v_gi 2 mt_61 rfl rfl h1 (by decide) ?_
  refine v_if2 mt_61 rfl rfl (fun c => ?_) (fun c => ?_)
  · have h := h.1 (of_decide_eq_true c)
    refine v_s mt_61 rfl rfl rfl ?_
    exact v_ret mt_61 rfl rfl rfl h
  · have h := h.2 (fun z => c (decide_eq_true z))
    refine v_s mt_61 rfl rfl rfl ?_
    refine v_s mt_61 rfl rfl rfl ?_
    refine v_gr 4 mt_61 rfl rfl h0 (by decide) (by unfold GR; rw [h0]; rfl) ?_
    refine v_s mt_61 rfl rfl rfl ?_
    obtain ⟨c1, h⟩ := h
    refine v_al mt_61 rfl (shS r0 (SH_lt h0) h0).2.2.2.2.1 c1 ?_
    refine v_s mt_61 rfl rfl rfl ?_
    refine v_isn (L' := [some (.ref r0), some (.ref r1), some (.int (x2 + I (r0 + 5) x3.toNatClampNeg)), some (.int x3)]) mt_61 rfl (Nat.le_of_ble_eq_true rfl) rfl ?_
    refine v_inc (v := x3 + 1) (L' := [some (.ref r0), some (.ref r1), some (.int (x2 + I (r0 + 5) x3.toNatClampNeg)), some (.int (x3 + 1))]) mt_61 rfl rfl (Nat.le_of_ble_eq_true rfl) rfl rfl ?_
    refine v_go mt_61 rfl rfl ?_
    exact h
end
