-- ===== PART A: goes FIRST, ahead of the names: the tables' words, and 'selects' of the private methods out of them =====
/-- a private method of a class that the tables say can be made, by its rows of tables_1 -/
def lw_okq (q : MethodName × Nat) : Prop := (q.1.cls ≠ "java/lang/invoke/MethodHandle" ∧ q.1.cls ≠ "java/lang/invoke/VarHandle") ∧ Cond.instantiable q.1.cls q.2 ∈ tables_1 ∧ Cond.privateMethod q.1 ∈ tables_1 ∧ Cond.instanceMethod q.1 ∈ tables_1
theorem lw_p0 : lw_okq (⟨"HarbourLights$Text", "advance", "()V"⟩, 5) := ⟨⟨by decide +kernel, by decide +kernel⟩, List.mem_of_getElem? (i := 28) (by decide +kernel), List.mem_of_getElem? (i := 315) (by decide +kernel), List.mem_of_getElem? (i := 316) (by decide +kernel)⟩
theorem lw_p1 : lw_okq (⟨"HarbourLights$Text", "readClause", "(LHarbourLights$Book;)Z"⟩, 5) := ⟨⟨by decide +kernel, by decide +kernel⟩, List.mem_of_getElem? (i := 28) (by decide +kernel), List.mem_of_getElem? (i := 325) (by decide +kernel), List.mem_of_getElem? (i := 326) (by decide +kernel)⟩
theorem lw_p2 : lw_okq (⟨"HarbourLights$Text", "isWord", "(Ljava/lang/String;)Z"⟩, 5) := ⟨⟨by decide +kernel, by decide +kernel⟩, List.mem_of_getElem? (i := 28) (by decide +kernel), List.mem_of_getElem? (i := 330) (by decide +kernel), List.mem_of_getElem? (i := 331) (by decide +kernel)⟩
theorem lw_p3 : lw_okq (⟨"HarbourLights$Text", "readBeats", "(LHarbourLights$Book;)Z"⟩, 5) := ⟨⟨by decide +kernel, by decide +kernel⟩, List.mem_of_getElem? (i := 28) (by decide +kernel), List.mem_of_getElem? (i := 382) (by decide +kernel), List.mem_of_getElem? (i := 383) (by decide +kernel)⟩
theorem lw_p4 : lw_okq (⟨"HarbourLights$Text", "readNumber", "(II)I"⟩, 5) := ⟨⟨by decide +kernel, by decide +kernel⟩, List.mem_of_getElem? (i := 28) (by decide +kernel), List.mem_of_getElem? (i := 386) (by decide +kernel), List.mem_of_getElem? (i := 387) (by decide +kernel)⟩
theorem lw_p5 : lw_okq (⟨"HarbourLights$Text", "readWindow", "(LHarbourLights$Book;)Z"⟩, 5) := ⟨⟨by decide +kernel, by decide +kernel⟩, List.mem_of_getElem? (i := 28) (by decide +kernel), List.mem_of_getElem? (i := 392) (by decide +kernel), List.mem_of_getElem? (i := 393) (by decide +kernel)⟩
theorem lw_p6 : lw_okq (⟨"HarbourLights$Text", "readSight", "(LHarbourLights$Book;)Z"⟩, 5) := ⟨⟨by decide +kernel, by decide +kernel⟩, List.mem_of_getElem? (i := 28) (by decide +kernel), List.mem_of_getElem? (i := 397) (by decide +kernel), List.mem_of_getElem? (i := 398) (by decide +kernel)⟩
theorem lw_p7 : lw_okq (⟨"HarbourLights$Text", "readRhythm", "(LHarbourLights$Book;)Z"⟩, 5) := ⟨⟨by decide +kernel, by decide +kernel⟩, List.mem_of_getElem? (i := 28) (by decide +kernel), List.mem_of_getElem? (i := 402) (by decide +kernel), List.mem_of_getElem? (i := 403) (by decide +kernel)⟩
theorem lw_p8 : lw_okq (⟨"HarbourLights$Text", "readLight", "(LHarbourLights$Book;)Z"⟩, 5) := ⟨⟨by decide +kernel, by decide +kernel⟩, List.mem_of_getElem? (i := 28) (by decide +kernel), List.mem_of_getElem? (i := 411) (by decide +kernel), List.mem_of_getElem? (i := 412) (by decide +kernel)⟩
theorem lw_p9 : lw_okq (⟨"HarbourLights$Text", "readLit", "(LHarbourLights$Book;)Z"⟩, 5) := ⟨⟨by decide +kernel, by decide +kernel⟩, List.mem_of_getElem? (i := 28) (by decide +kernel), List.mem_of_getElem? (i := 420) (by decide +kernel), List.mem_of_getElem? (i := 421) (by decide +kernel)⟩
theorem lw_p10 : lw_okq (⟨"HarbourLights", "forgetWhatWasDone", "()V"⟩, 11) := ⟨⟨by decide +kernel, by decide +kernel⟩, List.mem_of_getElem? (i := 20) (by decide +kernel), List.mem_of_getElem? (i := 430) (by decide +kernel), List.mem_of_getElem? (i := 431) (by decide +kernel)⟩
theorem lw_p11 : lw_okq (⟨"HarbourLights", "tapeAt", "(I)LHarbourLights$Tape;"⟩, 11) := ⟨⟨by decide +kernel, by decide +kernel⟩, List.mem_of_getElem? (i := 20) (by decide +kernel), List.mem_of_getElem? (i := 438) (by decide +kernel), List.mem_of_getElem? (i := 439) (by decide +kernel)⟩
theorem lw_p12 : lw_okq (⟨"HarbourLights", "clashing", "(I)I"⟩, 11) := ⟨⟨by decide +kernel, by decide +kernel⟩, List.mem_of_getElem? (i := 20) (by decide +kernel), List.mem_of_getElem? (i := 488) (by decide +kernel), List.mem_of_getElem? (i := 489) (by decide +kernel)⟩
theorem lw_p13 : lw_okq (⟨"HarbourLights", "prepareChange", "(I)V"⟩, 11) := ⟨⟨by decide +kernel, by decide +kernel⟩, List.mem_of_getElem? (i := 20) (by decide +kernel), List.mem_of_getElem? (i := 510) (by decide +kernel), List.mem_of_getElem? (i := 511) (by decide +kernel)⟩
theorem lw_p14 : lw_okq (⟨"HarbourLights$Done", "forgetOldest", "()V"⟩, 4) := ⟨⟨by decide +kernel, by decide +kernel⟩, List.mem_of_getElem? (i := 128) (by decide +kernel), List.mem_of_getElem? (i := 518) (by decide +kernel), List.mem_of_getElem? (i := 519) (by decide +kernel)⟩
theorem lw_p15 : lw_okq (⟨"HarbourLights", "keptAt", "(I)LHarbourLights$Lights;"⟩, 11) := ⟨⟨by decide +kernel, by decide +kernel⟩, List.mem_of_getElem? (i := 20) (by decide +kernel), List.mem_of_getElem? (i := 546) (by decide +kernel), List.mem_of_getElem? (i := 547) (by decide +kernel)⟩
def lw_privs_1 : List (MethodName × Nat) := [(⟨"HarbourLights$Text", "advance", "()V"⟩, 5), (⟨"HarbourLights$Text", "readClause", "(LHarbourLights$Book;)Z"⟩, 5), (⟨"HarbourLights$Text", "isWord", "(Ljava/lang/String;)Z"⟩, 5), (⟨"HarbourLights$Text", "readBeats", "(LHarbourLights$Book;)Z"⟩, 5), (⟨"HarbourLights$Text", "readNumber", "(II)I"⟩, 5), (⟨"HarbourLights$Text", "readWindow", "(LHarbourLights$Book;)Z"⟩, 5), (⟨"HarbourLights$Text", "readSight", "(LHarbourLights$Book;)Z"⟩, 5), (⟨"HarbourLights$Text", "readRhythm", "(LHarbourLights$Book;)Z"⟩, 5), (⟨"HarbourLights$Text", "readLight", "(LHarbourLights$Book;)Z"⟩, 5), (⟨"HarbourLights$Text", "readLit", "(LHarbourLights$Book;)Z"⟩, 5), (⟨"HarbourLights", "forgetWhatWasDone", "()V"⟩, 11), (⟨"HarbourLights", "tapeAt", "(I)LHarbourLights$Tape;"⟩, 11), (⟨"HarbourLights", "clashing", "(I)I"⟩, 11), (⟨"HarbourLights", "prepareChange", "(I)V"⟩, 11), (⟨"HarbourLights$Done", "forgetOldest", "()V"⟩, 4), (⟨"HarbourLights", "keptAt", "(I)LHarbourLights$Lights;"⟩, 11)]
theorem lw_r1 : ∀ q ∈ lw_privs_1, lw_okq q := List.forall_mem_cons.mpr ⟨lw_p0, List.forall_mem_cons.mpr ⟨lw_p1, List.forall_mem_cons.mpr ⟨lw_p2, List.forall_mem_cons.mpr ⟨lw_p3, List.forall_mem_cons.mpr ⟨lw_p4, List.forall_mem_cons.mpr ⟨lw_p5, List.forall_mem_cons.mpr ⟨lw_p6, List.forall_mem_cons.mpr ⟨lw_p7, List.forall_mem_cons.mpr ⟨lw_p8, List.forall_mem_cons.mpr ⟨lw_p9, List.forall_mem_cons.mpr ⟨lw_p10, List.forall_mem_cons.mpr ⟨lw_p11, List.forall_mem_cons.mpr ⟨lw_p12, List.forall_mem_cons.mpr ⟨lw_p13, List.forall_mem_cons.mpr ⟨lw_p14, List.forall_mem_cons.mpr ⟨lw_p15, fun _ h => absurd h List.not_mem_nil⟩⟩⟩⟩⟩⟩⟩⟩⟩⟩⟩⟩⟩⟩⟩⟩
theorem lw_p16 : lw_okq (⟨"HarbourLights$Planner", "compareRhythms", "(LHarbourLights$Book;I)V"⟩, 7) := ⟨⟨by decide +kernel, by decide +kernel⟩, List.mem_of_getElem? (i := 148) (by decide +kernel), List.mem_of_getElem? (i := 566) (by decide +kernel), List.mem_of_getElem? (i := 567) (by decide +kernel)⟩
theorem lw_p17 : lw_okq (⟨"HarbourLights$Planner", "chooseFrom", "(II)I"⟩, 7) := ⟨⟨by decide +kernel, by decide +kernel⟩, List.mem_of_getElem? (i := 148) (by decide +kernel), List.mem_of_getElem? (i := 576) (by decide +kernel), List.mem_of_getElem? (i := 577) (by decide +kernel)⟩
theorem lw_p18 : lw_okq (⟨"HarbourLights$Planner", "refusedFor", "(I)I"⟩, 7) := ⟨⟨by decide +kernel, by decide +kernel⟩, List.mem_of_getElem? (i := 148) (by decide +kernel), List.mem_of_getElem? (i := 582) (by decide +kernel), List.mem_of_getElem? (i := 583) (by decide +kernel)⟩
theorem lw_p19 : lw_okq (⟨"HarbourLights$Planner", "isUnlike", "(I)Z"⟩, 7) := ⟨⟨by decide +kernel, by decide +kernel⟩, List.mem_of_getElem? (i := 148) (by decide +kernel), List.mem_of_getElem? (i := 594) (by decide +kernel), List.mem_of_getElem? (i := 595) (by decide +kernel)⟩
theorem lw_p20 : lw_okq (⟨"HarbourLights$Machine", "behind", "(JI)J"⟩, 7) := ⟨⟨by decide +kernel, by decide +kernel⟩, List.mem_of_getElem? (i := 178) (by decide +kernel), List.mem_of_getElem? (i := 627) (by decide +kernel), List.mem_of_getElem? (i := 628) (by decide +kernel)⟩
theorem lw_p21 : lw_okq (⟨"HarbourLights$Machine", "addIfNew", "(J)V"⟩, 7) := ⟨⟨by decide +kernel, by decide +kernel⟩, List.mem_of_getElem? (i := 178) (by decide +kernel), List.mem_of_getElem? (i := 632) (by decide +kernel), List.mem_of_getElem? (i := 633) (by decide +kernel)⟩
theorem lw_p22 : lw_okq (⟨"HarbourLights$Machine", "allNameOneLight", "()Z"⟩, 7) := ⟨⟨by decide +kernel, by decide +kernel⟩, List.mem_of_getElem? (i := 178) (by decide +kernel), List.mem_of_getElem? (i := 640) (by decide +kernel), List.mem_of_getElem? (i := 641) (by decide +kernel)⟩
theorem lw_p23 : lw_okq (⟨"HarbourLights$Machine", "takeAnyBeat", "()V"⟩, 7) := ⟨⟨by decide +kernel, by decide +kernel⟩, List.mem_of_getElem? (i := 178) (by decide +kernel), List.mem_of_getElem? (i := 649) (by decide +kernel), List.mem_of_getElem? (i := 650) (by decide +kernel)⟩
theorem lw_p24 : lw_okq (⟨"HarbourLights$Watch", "shiftNow", "(II)I"⟩, 5) := ⟨⟨by decide +kernel, by decide +kernel⟩, List.mem_of_getElem? (i := 207) (by decide +kernel), List.mem_of_getElem? (i := 682) (by decide +kernel), List.mem_of_getElem? (i := 683) (by decide +kernel)⟩
theorem lw_p25 : lw_okq (⟨"HarbourLights$Watch", "strikeOrForgive", "(JZ)V"⟩, 5) := ⟨⟨by decide +kernel, by decide +kernel⟩, List.mem_of_getElem? (i := 207) (by decide +kernel), List.mem_of_getElem? (i := 686) (by decide +kernel), List.mem_of_getElem? (i := 687) (by decide +kernel)⟩
theorem lw_p26 : lw_okq (⟨"HarbourLights", "clashes", "()I"⟩, 11) := ⟨⟨by decide +kernel, by decide +kernel⟩, List.mem_of_getElem? (i := 20) (by decide +kernel), List.mem_of_getElem? (i := 789) (by decide +kernel), List.mem_of_getElem? (i := 790) (by decide +kernel)⟩
theorem lw_p27 : lw_okq (⟨"HarbourLights", "numbersOnTapes", "()I"⟩, 11) := ⟨⟨by decide +kernel, by decide +kernel⟩, List.mem_of_getElem? (i := 20) (by decide +kernel), List.mem_of_getElem? (i := 793) (by decide +kernel), List.mem_of_getElem? (i := 794) (by decide +kernel)⟩
theorem lw_p28 : lw_okq (⟨"HarbourLightsModel", "anew", "(I)V"⟩, 38) := ⟨⟨by decide +kernel, by decide +kernel⟩, List.mem_of_getElem? (i := 797) (by decide +kernel), List.mem_of_getElem? (i := 803) (by decide +kernel), List.mem_of_getElem? (i := 804) (by decide +kernel)⟩
theorem lw_p29 : lw_okq (⟨"HarbourLightsModel", "copyRow", "(II)V"⟩, 38) := ⟨⟨by decide +kernel, by decide +kernel⟩, List.mem_of_getElem? (i := 797) (by decide +kernel), List.mem_of_getElem? (i := 807) (by decide +kernel), List.mem_of_getElem? (i := 808) (by decide +kernel)⟩
theorem lw_p30 : lw_okq (⟨"HarbourLightsModel", "reads", "(Z)Z"⟩, 38) := ⟨⟨by decide +kernel, by decide +kernel⟩, List.mem_of_getElem? (i := 797) (by decide +kernel), List.mem_of_getElem? (i := 943) (by decide +kernel), List.mem_of_getElem? (i := 944) (by decide +kernel)⟩
theorem lw_p31 : lw_okq (⟨"HarbourLightsModel", "nextToken", "()V"⟩, 38) := ⟨⟨by decide +kernel, by decide +kernel⟩, List.mem_of_getElem? (i := 797) (by decide +kernel), List.mem_of_getElem? (i := 947) (by decide +kernel), List.mem_of_getElem? (i := 948) (by decide +kernel)⟩
def lw_privs_2 : List (MethodName × Nat) := [(⟨"HarbourLights$Planner", "compareRhythms", "(LHarbourLights$Book;I)V"⟩, 7), (⟨"HarbourLights$Planner", "chooseFrom", "(II)I"⟩, 7), (⟨"HarbourLights$Planner", "refusedFor", "(I)I"⟩, 7), (⟨"HarbourLights$Planner", "isUnlike", "(I)Z"⟩, 7), (⟨"HarbourLights$Machine", "behind", "(JI)J"⟩, 7), (⟨"HarbourLights$Machine", "addIfNew", "(J)V"⟩, 7), (⟨"HarbourLights$Machine", "allNameOneLight", "()Z"⟩, 7), (⟨"HarbourLights$Machine", "takeAnyBeat", "()V"⟩, 7), (⟨"HarbourLights$Watch", "shiftNow", "(II)I"⟩, 5), (⟨"HarbourLights$Watch", "strikeOrForgive", "(JZ)V"⟩, 5), (⟨"HarbourLights", "clashes", "()I"⟩, 11), (⟨"HarbourLights", "numbersOnTapes", "()I"⟩, 11), (⟨"HarbourLightsModel", "anew", "(I)V"⟩, 38), (⟨"HarbourLightsModel", "copyRow", "(II)V"⟩, 38), (⟨"HarbourLightsModel", "reads", "(Z)Z"⟩, 38), (⟨"HarbourLightsModel", "nextToken", "()V"⟩, 38)]
theorem lw_r2 : ∀ q ∈ lw_privs_2, lw_okq q := List.forall_mem_cons.mpr ⟨lw_p16, List.forall_mem_cons.mpr ⟨lw_p17, List.forall_mem_cons.mpr ⟨lw_p18, List.forall_mem_cons.mpr ⟨lw_p19, List.forall_mem_cons.mpr ⟨lw_p20, List.forall_mem_cons.mpr ⟨lw_p21, List.forall_mem_cons.mpr ⟨lw_p22, List.forall_mem_cons.mpr ⟨lw_p23, List.forall_mem_cons.mpr ⟨lw_p24, List.forall_mem_cons.mpr ⟨lw_p25, List.forall_mem_cons.mpr ⟨lw_p26, List.forall_mem_cons.mpr ⟨lw_p27, List.forall_mem_cons.mpr ⟨lw_p28, List.forall_mem_cons.mpr ⟨lw_p29, List.forall_mem_cons.mpr ⟨lw_p30, List.forall_mem_cons.mpr ⟨lw_p31, fun _ h => absurd h List.not_mem_nil⟩⟩⟩⟩⟩⟩⟩⟩⟩⟩⟩⟩⟩⟩⟩⟩
theorem lw_p32 : lw_okq (⟨"HarbourLightsModel", "readsClause", "()Z"⟩, 38) := ⟨⟨by decide +kernel, by decide +kernel⟩, List.mem_of_getElem? (i := 797) (by decide +kernel), List.mem_of_getElem? (i := 961) (by decide +kernel), List.mem_of_getElem? (i := 962) (by decide +kernel)⟩
theorem lw_p33 : lw_okq (⟨"HarbourLightsModel", "wordHere", "()I"⟩, 38) := ⟨⟨by decide +kernel, by decide +kernel⟩, List.mem_of_getElem? (i := 797) (by decide +kernel), List.mem_of_getElem? (i := 965) (by decide +kernel), List.mem_of_getElem? (i := 966) (by decide +kernel)⟩
theorem lw_p34 : lw_okq (⟨"HarbourLightsModel", "isWord", "([I)Z"⟩, 38) := ⟨⟨by decide +kernel, by decide +kernel⟩, List.mem_of_getElem? (i := 797) (by decide +kernel), List.mem_of_getElem? (i := 969) (by decide +kernel), List.mem_of_getElem? (i := 970) (by decide +kernel)⟩
theorem lw_p35 : lw_okq (⟨"HarbourLightsModel", "readsRest", "(I)Z"⟩, 38) := ⟨⟨by decide +kernel, by decide +kernel⟩, List.mem_of_getElem? (i := 797) (by decide +kernel), List.mem_of_getElem? (i := 973) (by decide +kernel), List.mem_of_getElem? (i := 974) (by decide +kernel)⟩
theorem lw_p36 : lw_okq (⟨"HarbourLightsModel", "number", "(III)Z"⟩, 38) := ⟨⟨by decide +kernel, by decide +kernel⟩, List.mem_of_getElem? (i := 797) (by decide +kernel), List.mem_of_getElem? (i := 977) (by decide +kernel), List.mem_of_getElem? (i := 978) (by decide +kernel)⟩
theorem lw_p37 : lw_okq (⟨"HarbourLightsModel", "readsBeats", "()Z"⟩, 38) := ⟨⟨by decide +kernel, by decide +kernel⟩, List.mem_of_getElem? (i := 797) (by decide +kernel), List.mem_of_getElem? (i := 981) (by decide +kernel), List.mem_of_getElem? (i := 982) (by decide +kernel)⟩
theorem lw_p38 : lw_okq (⟨"HarbourLightsModel", "does", "(I)V"⟩, 38) := ⟨⟨by decide +kernel, by decide +kernel⟩, List.mem_of_getElem? (i := 797) (by decide +kernel), List.mem_of_getElem? (i := 985) (by decide +kernel), List.mem_of_getElem? (i := 986) (by decide +kernel)⟩
theorem lw_p39 : lw_okq (⟨"HarbourLightsModel", "isRhythm", "(I)Z"⟩, 38) := ⟨⟨by decide +kernel, by decide +kernel⟩, List.mem_of_getElem? (i := 797) (by decide +kernel), List.mem_of_getElem? (i := 997) (by decide +kernel), List.mem_of_getElem? (i := 998) (by decide +kernel)⟩
theorem lw_p40 : lw_okq (⟨"HarbourLightsModel", "leastTurn", "(I)I"⟩, 38) := ⟨⟨by decide +kernel, by decide +kernel⟩, List.mem_of_getElem? (i := 797) (by decide +kernel), List.mem_of_getElem? (i := 1001) (by decide +kernel), List.mem_of_getElem? (i := 1002) (by decide +kernel)⟩
theorem lw_p41 : lw_okq (⟨"HarbourLightsModel", "rowOf", "(III)I"⟩, 38) := ⟨⟨by decide +kernel, by decide +kernel⟩, List.mem_of_getElem? (i := 797) (by decide +kernel), List.mem_of_getElem? (i := 1005) (by decide +kernel), List.mem_of_getElem? (i := 1006) (by decide +kernel)⟩
theorem lw_p42 : lw_okq (⟨"HarbourLightsModel", "beatOf", "(II)I"⟩, 38) := ⟨⟨by decide +kernel, by decide +kernel⟩, List.mem_of_getElem? (i := 797) (by decide +kernel), List.mem_of_getElem? (i := 1009) (by decide +kernel), List.mem_of_getElem? (i := 1010) (by decide +kernel)⟩
theorem lw_p43 : lw_okq (⟨"HarbourLightsModel", "repeats", "(I)I"⟩, 38) := ⟨⟨by decide +kernel, by decide +kernel⟩, List.mem_of_getElem? (i := 797) (by decide +kernel), List.mem_of_getElem? (i := 1013) (by decide +kernel), List.mem_of_getElem? (i := 1014) (by decide +kernel)⟩
theorem lw_p44 : lw_okq (⟨"HarbourLightsModel", "flashes", "(I)I"⟩, 38) := ⟨⟨by decide +kernel, by decide +kernel⟩, List.mem_of_getElem? (i := 797) (by decide +kernel), List.mem_of_getElem? (i := 1017) (by decide +kernel), List.mem_of_getElem? (i := 1018) (by decide +kernel)⟩
theorem lw_p45 : lw_okq (⟨"HarbourLightsModel", "areLike", "(IIIZ)Z"⟩, 38) := ⟨⟨by decide +kernel, by decide +kernel⟩, List.mem_of_getElem? (i := 797) (by decide +kernel), List.mem_of_getElem? (i := 1028) (by decide +kernel), List.mem_of_getElem? (i := 1029) (by decide +kernel)⟩
theorem lw_p46 : lw_okq (⟨"HarbourLightsModel", "isLight", "(I)Z"⟩, 38) := ⟨⟨by decide +kernel, by decide +kernel⟩, List.mem_of_getElem? (i := 797) (by decide +kernel), List.mem_of_getElem? (i := 1039) (by decide +kernel), List.mem_of_getElem? (i := 1040) (by decide +kernel)⟩
theorem lw_p47 : lw_okq (⟨"HarbourLightsModel", "thoseOf", "(IZ)I"⟩, 38) := ⟨⟨by decide +kernel, by decide +kernel⟩, List.mem_of_getElem? (i := 797) (by decide +kernel), List.mem_of_getElem? (i := 1043) (by decide +kernel), List.mem_of_getElem? (i := 1044) (by decide +kernel)⟩
def lw_privs_3 : List (MethodName × Nat) := [(⟨"HarbourLightsModel", "readsClause", "()Z"⟩, 38), (⟨"HarbourLightsModel", "wordHere", "()I"⟩, 38), (⟨"HarbourLightsModel", "isWord", "([I)Z"⟩, 38), (⟨"HarbourLightsModel", "readsRest", "(I)Z"⟩, 38), (⟨"HarbourLightsModel", "number", "(III)Z"⟩, 38), (⟨"HarbourLightsModel", "readsBeats", "()Z"⟩, 38), (⟨"HarbourLightsModel", "does", "(I)V"⟩, 38), (⟨"HarbourLightsModel", "isRhythm", "(I)Z"⟩, 38), (⟨"HarbourLightsModel", "leastTurn", "(I)I"⟩, 38), (⟨"HarbourLightsModel", "rowOf", "(III)I"⟩, 38), (⟨"HarbourLightsModel", "beatOf", "(II)I"⟩, 38), (⟨"HarbourLightsModel", "repeats", "(I)I"⟩, 38), (⟨"HarbourLightsModel", "flashes", "(I)I"⟩, 38), (⟨"HarbourLightsModel", "areLike", "(IIIZ)Z"⟩, 38), (⟨"HarbourLightsModel", "isLight", "(I)Z"⟩, 38), (⟨"HarbourLightsModel", "thoseOf", "(IZ)I"⟩, 38)]
theorem lw_r3 : ∀ q ∈ lw_privs_3, lw_okq q := List.forall_mem_cons.mpr ⟨lw_p32, List.forall_mem_cons.mpr ⟨lw_p33, List.forall_mem_cons.mpr ⟨lw_p34, List.forall_mem_cons.mpr ⟨lw_p35, List.forall_mem_cons.mpr ⟨lw_p36, List.forall_mem_cons.mpr ⟨lw_p37, List.forall_mem_cons.mpr ⟨lw_p38, List.forall_mem_cons.mpr ⟨lw_p39, List.forall_mem_cons.mpr ⟨lw_p40, List.forall_mem_cons.mpr ⟨lw_p41, List.forall_mem_cons.mpr ⟨lw_p42, List.forall_mem_cons.mpr ⟨lw_p43, List.forall_mem_cons.mpr ⟨lw_p44, List.forall_mem_cons.mpr ⟨lw_p45, List.forall_mem_cons.mpr ⟨lw_p46, List.forall_mem_cons.mpr ⟨lw_p47, fun _ h => absurd h List.not_mem_nil⟩⟩⟩⟩⟩⟩⟩⟩⟩⟩⟩⟩⟩⟩⟩⟩
theorem lw_p48 : lw_okq (⟨"HarbourLightsModel", "doClash", "(II)Z"⟩, 38) := ⟨⟨by decide +kernel, by decide +kernel⟩, List.mem_of_getElem? (i := 797) (by decide +kernel), List.mem_of_getElem? (i := 1047) (by decide +kernel), List.mem_of_getElem? (i := 1048) (by decide +kernel)⟩
theorem lw_p49 : lw_okq (⟨"HarbourLightsModel", "areNeighbours", "(II)Z"⟩, 38) := ⟨⟨by decide +kernel, by decide +kernel⟩, List.mem_of_getElem? (i := 797) (by decide +kernel), List.mem_of_getElem? (i := 1051) (by decide +kernel), List.mem_of_getElem? (i := 1052) (by decide +kernel)⟩
theorem lw_p50 : lw_okq (⟨"HarbourLightsModel", "become", "(II)V"⟩, 38) := ⟨⟨by decide +kernel, by decide +kernel⟩, List.mem_of_getElem? (i := 797) (by decide +kernel), List.mem_of_getElem? (i := 1059) (by decide +kernel), List.mem_of_getElem? (i := 1060) (by decide +kernel)⟩
theorem lw_p51 : lw_okq (⟨"HarbourLightsModel", "litOnes", "()I"⟩, 38) := ⟨⟨by decide +kernel, by decide +kernel⟩, List.mem_of_getElem? (i := 797) (by decide +kernel), List.mem_of_getElem? (i := 1080) (by decide +kernel), List.mem_of_getElem? (i := 1081) (by decide +kernel)⟩
theorem lw_p52 : lw_okq (⟨"HarbourLightsModel", "layPlan", "(Z)I"⟩, 38) := ⟨⟨by decide +kernel, by decide +kernel⟩, List.mem_of_getElem? (i := 797) (by decide +kernel), List.mem_of_getElem? (i := 1092) (by decide +kernel), List.mem_of_getElem? (i := 1093) (by decide +kernel)⟩
theorem lw_p53 : lw_okq (⟨"HarbourLightsModel", "layBars", "(Z)V"⟩, 38) := ⟨⟨by decide +kernel, by decide +kernel⟩, List.mem_of_getElem? (i := 797) (by decide +kernel), List.mem_of_getElem? (i := 1096) (by decide +kernel), List.mem_of_getElem? (i := 1097) (by decide +kernel)⟩
theorem lw_p54 : lw_okq (⟨"HarbourLightsModel", "isPlan", "()Z"⟩, 38) := ⟨⟨by decide +kernel, by decide +kernel⟩, List.mem_of_getElem? (i := 797) (by decide +kernel), List.mem_of_getElem? (i := 1100) (by decide +kernel), List.mem_of_getElem? (i := 1101) (by decide +kernel)⟩
theorem lw_p55 : lw_okq (⟨"HarbourLightsModel", "statesOf", "(I)I"⟩, 38) := ⟨⟨by decide +kernel, by decide +kernel⟩, List.mem_of_getElem? (i := 797) (by decide +kernel), List.mem_of_getElem? (i := 1119) (by decide +kernel), List.mem_of_getElem? (i := 1120) (by decide +kernel)⟩
theorem lw_p56 : lw_okq (⟨"HarbourLightsModel", "firstSet", "(I)J"⟩, 38) := ⟨⟨by decide +kernel, by decide +kernel⟩, List.mem_of_getElem? (i := 797) (by decide +kernel), List.mem_of_getElem? (i := 1123) (by decide +kernel), List.mem_of_getElem? (i := 1124) (by decide +kernel)⟩
theorem lw_p57 : lw_okq (⟨"HarbourLightsModel", "becomes", "(JI)J"⟩, 38) := ⟨⟨by decide +kernel, by decide +kernel⟩, List.mem_of_getElem? (i := 797) (by decide +kernel), List.mem_of_getElem? (i := 1127) (by decide +kernel), List.mem_of_getElem? (i := 1128) (by decide +kernel)⟩
theorem lw_p58 : lw_okq (⟨"HarbourLightsModel", "namedAt", "(I)I"⟩, 38) := ⟨⟨by decide +kernel, by decide +kernel⟩, List.mem_of_getElem? (i := 797) (by decide +kernel), List.mem_of_getElem? (i := 1131) (by decide +kernel), List.mem_of_getElem? (i := 1132) (by decide +kernel)⟩
theorem lw_p59 : lw_okq (⟨"HarbourLightsModel", "pairsLeft", "()I"⟩, 38) := ⟨⟨by decide +kernel, by decide +kernel⟩, List.mem_of_getElem? (i := 797) (by decide +kernel), List.mem_of_getElem? (i := 1142) (by decide +kernel), List.mem_of_getElem? (i := 1143) (by decide +kernel)⟩
theorem lw_p60 : lw_okq (⟨"HarbourLightsModel", "seePair", "(II)V"⟩, 38) := ⟨⟨by decide +kernel, by decide +kernel⟩, List.mem_of_getElem? (i := 797) (by decide +kernel), List.mem_of_getElem? (i := 1150) (by decide +kernel), List.mem_of_getElem? (i := 1151) (by decide +kernel)⟩
theorem lw_p61 : lw_okq (⟨"HarbourLightsModel", "putAt", "(III)V"⟩, 38) := ⟨⟨by decide +kernel, by decide +kernel⟩, List.mem_of_getElem? (i := 797) (by decide +kernel), List.mem_of_getElem? (i := 1175) (by decide +kernel), List.mem_of_getElem? (i := 1176) (by decide +kernel)⟩
theorem lw_p62 : lw_okq (⟨"HarbourLightsModel", "drawAt", "(II)I"⟩, 38) := ⟨⟨by decide +kernel, by decide +kernel⟩, List.mem_of_getElem? (i := 797) (by decide +kernel), List.mem_of_getElem? (i := 1183) (by decide +kernel), List.mem_of_getElem? (i := 1184) (by decide +kernel)⟩
theorem lw_p63 : lw_okq (⟨"HarbourLightsModel", "clashes", "()I"⟩, 38) := ⟨⟨by decide +kernel, by decide +kernel⟩, List.mem_of_getElem? (i := 797) (by decide +kernel), List.mem_of_getElem? (i := 1214) (by decide +kernel), List.mem_of_getElem? (i := 1215) (by decide +kernel)⟩
def lw_privs_4 : List (MethodName × Nat) := [(⟨"HarbourLightsModel", "doClash", "(II)Z"⟩, 38), (⟨"HarbourLightsModel", "areNeighbours", "(II)Z"⟩, 38), (⟨"HarbourLightsModel", "become", "(II)V"⟩, 38), (⟨"HarbourLightsModel", "litOnes", "()I"⟩, 38), (⟨"HarbourLightsModel", "layPlan", "(Z)I"⟩, 38), (⟨"HarbourLightsModel", "layBars", "(Z)V"⟩, 38), (⟨"HarbourLightsModel", "isPlan", "()Z"⟩, 38), (⟨"HarbourLightsModel", "statesOf", "(I)I"⟩, 38), (⟨"HarbourLightsModel", "firstSet", "(I)J"⟩, 38), (⟨"HarbourLightsModel", "becomes", "(JI)J"⟩, 38), (⟨"HarbourLightsModel", "namedAt", "(I)I"⟩, 38), (⟨"HarbourLightsModel", "pairsLeft", "()I"⟩, 38), (⟨"HarbourLightsModel", "seePair", "(II)V"⟩, 38), (⟨"HarbourLightsModel", "putAt", "(III)V"⟩, 38), (⟨"HarbourLightsModel", "drawAt", "(II)I"⟩, 38), (⟨"HarbourLightsModel", "clashes", "()I"⟩, 38)]
theorem lw_r4 : ∀ q ∈ lw_privs_4, lw_okq q := List.forall_mem_cons.mpr ⟨lw_p48, List.forall_mem_cons.mpr ⟨lw_p49, List.forall_mem_cons.mpr ⟨lw_p50, List.forall_mem_cons.mpr ⟨lw_p51, List.forall_mem_cons.mpr ⟨lw_p52, List.forall_mem_cons.mpr ⟨lw_p53, List.forall_mem_cons.mpr ⟨lw_p54, List.forall_mem_cons.mpr ⟨lw_p55, List.forall_mem_cons.mpr ⟨lw_p56, List.forall_mem_cons.mpr ⟨lw_p57, List.forall_mem_cons.mpr ⟨lw_p58, List.forall_mem_cons.mpr ⟨lw_p59, List.forall_mem_cons.mpr ⟨lw_p60, List.forall_mem_cons.mpr ⟨lw_p61, List.forall_mem_cons.mpr ⟨lw_p62, List.forall_mem_cons.mpr ⟨lw_p63, fun _ h => absurd h List.not_mem_nil⟩⟩⟩⟩⟩⟩⟩⟩⟩⟩⟩⟩⟩⟩⟩⟩
theorem lw_p64 : lw_okq (⟨"HarbourLightsModel", "allNumbers", "()I"⟩, 38) := ⟨⟨by decide +kernel, by decide +kernel⟩, List.mem_of_getElem? (i := 797) (by decide +kernel), List.mem_of_getElem? (i := 1218) (by decide +kernel), List.mem_of_getElem? (i := 1219) (by decide +kernel)⟩
def lw_privs_5 : List (MethodName × Nat) := [(⟨"HarbourLightsModel", "allNumbers", "()I"⟩, 38)]
theorem lw_r5 : ∀ q ∈ lw_privs_5, lw_okq q := List.forall_mem_cons.mpr ⟨lw_p64, fun _ h => absurd h List.not_mem_nil⟩
def lw_privs : List (MethodName × Nat) := lw_privs_1 ++ (lw_privs_2 ++ (lw_privs_3 ++ (lw_privs_4 ++ (lw_privs_5))))
def lw_tbl : List Cond := k2_sels lw_privs ++ tables_1
theorem lw_privs_ok : ∀ q ∈ lw_privs, lw_okq q := by
  show ∀ q ∈ lw_privs_1 ++ (lw_privs_2 ++ (lw_privs_3 ++ (lw_privs_4 ++ (lw_privs_5)))), lw_okq q
  exact List.forall_mem_append.mpr ⟨lw_r1, List.forall_mem_append.mpr ⟨lw_r2, List.forall_mem_append.mpr ⟨lw_r3, List.forall_mem_append.mpr ⟨lw_r4, lw_r5⟩⟩⟩⟩
def RX0 : String := "HarbourLights$Book"
def TX0 : u_T := fun k => match k with
  | 0 => ("HarbourLights$Book", "beats", "I", false)
  | 1 => ("HarbourLights$Book", "window", "I", false)
  | 2 => ("HarbourLights$Book", "sight", "I", false)
  | 3 => ("HarbourLights$Book", "size", "I", false)
  | 4 => ("HarbourLights$Book", "numbers", "[I", true)
  | _ => ("HarbourLights$Book", "lights", "LHarbourLights$Lights;", true)
def tyX0 : Nat → FieldType := fun k => match k with
  | 0 => .int
  | 1 => .int
  | 2 => .int
  | 3 => .int
  | 4 => .array .int
  | _ => .object "HarbourLights$Lights"
theorem nmX0 : ∀ a, a < 6 → ∀ b, b < 6 → a ≠ b → (TX0 a).2.1 ≠ (TX0 b).2.1 := by decide +kernel
theorem tyX0_ok : ∀ k, k < 6 → parseFieldDescriptor (TX0 k).2.2.1 = some (tyX0 k) := by decide +kernel
abbrev cX0_init : ByteArray := prog_2_method_1_code
def yX0_init : MethodName := ⟨RX0, "<init>", "()V"⟩
abbrev cX0_beginAnew : ByteArray := prog_2_method_2_code
def yX0_beginAnew : MethodName := ⟨RX0, "beginAnew", "(I)V"⟩
abbrev cX0_become : ByteArray := prog_2_method_3_code
def yX0_become : MethodName := ⟨RX0, "become", "(LHarbourLights$Book;)V"⟩
abbrev cX0_hasRhythm : ByteArray := prog_2_method_4_code
def yX0_hasRhythm : MethodName := ⟨RX0, "hasRhythm", "(I)Z"⟩
abbrev cX0_addRhythm : ByteArray := prog_2_method_5_code
def yX0_addRhythm : MethodName := ⟨RX0, "addRhythm", "(I)V"⟩
abbrev cX0_hasFlash : ByteArray := prog_2_method_6_code
def yX0_hasFlash : MethodName := ⟨RX0, "hasFlash", "(II)Z"⟩
abbrev cX0_turned : ByteArray := prog_2_method_7_code
def yX0_turned : MethodName := ⟨RX0, "turned", "(II)I"⟩
abbrev cX0_turnsToLeast : ByteArray := prog_2_method_8_code
def yX0_turnsToLeast : MethodName := ⟨RX0, "turnsToLeast", "(I)I"⟩
abbrev cX0_repeats : ByteArray := prog_2_method_9_code
def yX0_repeats : MethodName := ⟨RX0, "repeats", "(I)I"⟩
abbrev cX0_areSuch : ByteArray := prog_2_method_10_code
def yX0_areSuch : MethodName := ⟨RX0, "areSuch", "(III)Z"⟩
abbrev cX0_shareRow : ByteArray := prog_2_method_11_code
def yX0_shareRow : MethodName := ⟨RX0, "shareRow", "(IIII)Z"⟩
abbrev cX0_suchOnes : ByteArray := prog_2_method_12_code
def yX0_suchOnes : MethodName := ⟨RX0, "suchOnes", "(II)I"⟩
def RX1 : String := "HarbourLights$Done"
def TX1 : u_T := fun k => match k with
  | 0 => ("HarbourLights$Done", "size", "I", false)
  | 1 => ("HarbourLights$Done", "light", "[I", true)
  | 2 => ("HarbourLights$Done", "place", "[I", true)
  | _ => ("HarbourLights$Done", "rhythm", "[I", true)
def tyX1 : Nat → FieldType := fun k => match k with
  | 0 => .int
  | 1 => .array .int
  | 2 => .array .int
  | _ => .array .int
theorem nmX1 : ∀ a, a < 4 → ∀ b, b < 4 → a ≠ b → (TX1 a).2.1 ≠ (TX1 b).2.1 := by decide +kernel
theorem tyX1_ok : ∀ k, k < 4 → parseFieldDescriptor (TX1 k).2.2.1 = some (tyX1 k) := by decide +kernel
abbrev cX1_init : ByteArray := prog_3_method_1_code
def yX1_init : MethodName := ⟨RX1, "<init>", "()V"⟩
abbrev cX1_remember : ByteArray := prog_3_method_2_code
def yX1_remember : MethodName := ⟨RX1, "remember", "(LHarbourLights$Lights;I)V"⟩
abbrev cX1_forgetOldest : ByteArray := prog_3_method_3_code
def yX1_forgetOldest : MethodName := ⟨RX1, "forgetOldest", "()V"⟩
abbrev cX1_takeBack : ByteArray := prog_3_method_4_code
def yX1_takeBack : MethodName := ⟨RX1, "takeBack", "(LHarbourLights$Lights;)V"⟩
def RX2 : String := "HarbourLights$Lights"
def TX2 : u_T := fun k => match k with
  | 0 => ("HarbourLights$Lights", "size", "I", false)
  | 1 => ("HarbourLights$Lights", "places", "[I", true)
  | 2 => ("HarbourLights$Lights", "rhythms", "[I", true)
  | _ => ("HarbourLights$Lights", "kept", "Z", false)
def tyX2 : Nat → FieldType := fun k => match k with
  | 0 => .int
  | 1 => .array .int
  | 2 => .array .int
  | _ => .boolean
theorem nmX2 : ∀ a, a < 4 → ∀ b, b < 4 → a ≠ b → (TX2 a).2.1 ≠ (TX2 b).2.1 := by decide +kernel
theorem tyX2_ok : ∀ k, k < 4 → parseFieldDescriptor (TX2 k).2.2.1 = some (tyX2 k) := by decide +kernel
abbrev cX2_init : ByteArray := prog_4_method_1_code
def yX2_init : MethodName := ⟨RX2, "<init>", "()V"⟩
abbrev cX2_become : ByteArray := prog_4_method_2_code
def yX2_become : MethodName := ⟨RX2, "become", "(LHarbourLights$Lights;)V"⟩
abbrev cX2_hasLight : ByteArray := prog_4_method_3_code
def yX2_hasLight : MethodName := ⟨RX2, "hasLight", "(I)Z"⟩
abbrev cX2_addAt : ByteArray := prog_4_method_4_code
def yX2_addAt : MethodName := ⟨RX2, "addAt", "(I)V"⟩
abbrev cX2_neighbours : ByteArray := prog_4_method_5_code
def yX2_neighbours : MethodName := ⟨RX2, "neighbours", "(II)I"⟩
abbrev cX2_litOnes : ByteArray := prog_4_method_6_code
def yX2_litOnes : MethodName := ⟨RX2, "litOnes", "()I"⟩
abbrev cX2_pairsSeenFrom : ByteArray := prog_4_method_7_code
def yX2_pairsSeenFrom : MethodName := ⟨RX2, "pairsSeenFrom", "(ILHarbourLights$Book;)J"⟩
abbrev cX2_pairsThatFlash : ByteArray := prog_4_method_8_code
def yX2_pairsThatFlash : MethodName := ⟨RX2, "pairsThatFlash", "(LHarbourLights$Book;)J"⟩
def RX3 : String := "HarbourLights$Machine"
def TX3 : u_T := fun k => match k with
  | 0 => ("HarbourLights$Machine", "sets", "[J", true)
  | 1 => ("HarbourLights$Machine", "nextSets", "[J", true)
  | 2 => ("HarbourLights$Machine", "size", "I", false)
  | 3 => ("HarbourLights$Machine", "beats", "I", false)
  | 4 => ("HarbourLights$Machine", "first", "J", false)
  | 5 => ("HarbourLights$Machine", "flashing", "J", false)
  | _ => ("HarbourLights$Machine", "lastShifts", "J", false)
def tyX3 : Nat → FieldType := fun k => match k with
  | 0 => .array .long
  | 1 => .array .long
  | 2 => .int
  | 3 => .int
  | 4 => .long
  | 5 => .long
  | _ => .long
theorem nmX3 : ∀ a, a < 7 → ∀ b, b < 7 → a ≠ b → (TX3 a).2.1 ≠ (TX3 b).2.1 := by decide +kernel
theorem tyX3_ok : ∀ k, k < 7 → parseFieldDescriptor (TX3 k).2.2.1 = some (tyX3 k) := by decide +kernel
abbrev cX3_init : ByteArray := prog_5_method_1_code
def yX3_init : MethodName := ⟨RX3, "<init>", "()V"⟩
abbrev cX3_prepare : ByteArray := prog_5_method_2_code
def yX3_prepare : MethodName := ⟨RX3, "prepare", "(LHarbourLights$Book;LHarbourLights$Lights;I)V"⟩
abbrev cX3_states : ByteArray := prog_5_method_3_code
def yX3_states : MethodName := ⟨RX3, "states", "()I"⟩
abbrev cX3_named : ByteArray := prog_5_method_4_code
def yX3_named : MethodName := ⟨RX3, "named", "()I"⟩
abbrev cX3_behind : ByteArray := prog_5_method_5_code
def yX3_behind : MethodName := ⟨RX3, "behind", "(JI)J"⟩
abbrev cX3_addIfNew : ByteArray := prog_5_method_6_code
def yX3_addIfNew : MethodName := ⟨RX3, "addIfNew", "(J)V"⟩
abbrev cX3_takeAnyBeat : ByteArray := prog_5_method_7_code
def yX3_takeAnyBeat : MethodName := ⟨RX3, "takeAnyBeat", "()V"⟩
abbrev cX3_allNameOneLight : ByteArray := prog_5_method_8_code
def yX3_allNameOneLight : MethodName := ⟨RX3, "allNameOneLight", "()Z"⟩
def RX4 : String := "HarbourLights$Planner"
def TX4 : u_T := fun k => match k with
  | 0 => ("HarbourLights$Planner", "fewest", "I", false)
  | 1 => ("HarbourLights$Planner", "best", "[I", true)
  | 2 => ("HarbourLights$Planner", "lights", "I", false)
  | 3 => ("HarbourLights$Planner", "rhythms", "I", false)
  | 4 => ("HarbourLights$Planner", "chosen", "[I", true)
  | 5 => ("HarbourLights$Planner", "neighbours", "[I", true)
  | _ => ("HarbourLights$Planner", "such", "[I", true)
def tyX4 : Nat → FieldType := fun k => match k with
  | 0 => .int
  | 1 => .array .int
  | 2 => .int
  | 3 => .int
  | 4 => .array .int
  | 5 => .array .int
  | _ => .array .int
theorem nmX4 : ∀ a, a < 7 → ∀ b, b < 7 → a ≠ b → (TX4 a).2.1 ≠ (TX4 b).2.1 := by decide +kernel
theorem tyX4_ok : ∀ k, k < 7 → parseFieldDescriptor (TX4 k).2.2.1 = some (tyX4 k) := by decide +kernel
abbrev cX4_init : ByteArray := prog_6_method_1_code
def yX4_init : MethodName := ⟨RX4, "<init>", "()V"⟩
abbrev cX4_makePlan : ByteArray := prog_6_method_2_code
def yX4_makePlan : MethodName := ⟨RX4, "makePlan", "(LHarbourLights$Book;LHarbourLights$Lights;I)Z"⟩
abbrev cX4_compareRhythms : ByteArray := prog_6_method_3_code
def yX4_compareRhythms : MethodName := ⟨RX4, "compareRhythms", "(LHarbourLights$Book;I)V"⟩
abbrev cX4_chooseFrom : ByteArray := prog_6_method_4_code
def yX4_chooseFrom : MethodName := ⟨RX4, "chooseFrom", "(II)I"⟩
abbrev cX4_refusedFor : ByteArray := prog_6_method_5_code
def yX4_refusedFor : MethodName := ⟨RX4, "refusedFor", "(I)I"⟩
abbrev cX4_greatestUnlikeSet : ByteArray := prog_6_method_6_code
def yX4_greatestUnlikeSet : MethodName := ⟨RX4, "greatestUnlikeSet", "(LHarbourLights$Book;I)I"⟩
abbrev cX4_isUnlike : ByteArray := prog_6_method_7_code
def yX4_isUnlike : MethodName := ⟨RX4, "isUnlike", "(I)Z"⟩
def RX5 : String := "HarbourLights$Tape"
def TX5 : u_T := fun k => match k with
  | 0 => ("HarbourLights$Tape", "here", "Z", false)
  | 1 => ("HarbourLights$Tape", "size", "I", false)
  | _ => ("HarbourLights$Tape", "numbers", "[I", true)
def tyX5 : Nat → FieldType := fun k => match k with
  | 0 => .boolean
  | 1 => .int
  | _ => .array .int
theorem nmX5 : ∀ a, a < 3 → ∀ b, b < 3 → a ≠ b → (TX5 a).2.1 ≠ (TX5 b).2.1 := by decide +kernel
theorem tyX5_ok : ∀ k, k < 3 → parseFieldDescriptor (TX5 k).2.2.1 = some (tyX5 k) := by decide +kernel
abbrev cX5_init : ByteArray := prog_7_method_1_code
def yX5_init : MethodName := ⟨RX5, "<init>", "()V"⟩
abbrev cX5_begin : ByteArray := prog_7_method_2_code
def yX5_begin : MethodName := ⟨RX5, "begin", "()V"⟩
abbrev cX5_vanish : ByteArray := prog_7_method_3_code
def yX5_vanish : MethodName := ⟨RX5, "vanish", "()V"⟩
abbrev cX5_addInFront : ByteArray := prog_7_method_4_code
def yX5_addInFront : MethodName := ⟨RX5, "addInFront", "(I)V"⟩
abbrev cX5_addBehind : ByteArray := prog_7_method_5_code
def yX5_addBehind : MethodName := ⟨RX5, "addBehind", "(I)V"⟩
abbrev cX5_takeFirst : ByteArray := prog_7_method_6_code
def yX5_takeFirst : MethodName := ⟨RX5, "takeFirst", "()I"⟩
abbrev cX5_takeLast : ByteArray := prog_7_method_7_code
def yX5_takeLast : MethodName := ⟨RX5, "takeLast", "()I"⟩
abbrev cX5_greatest : ByteArray := prog_7_method_8_code
def yX5_greatest : MethodName := ⟨RX5, "greatest", "()I"⟩
abbrev cX5_least : ByteArray := prog_7_method_9_code
def yX5_least : MethodName := ⟨RX5, "least", "()I"⟩
abbrev cX5_howMany : ByteArray := prog_7_method_10_code
def yX5_howMany : MethodName := ⟨RX5, "howMany", "(I)I"⟩
abbrev cX5_removeAll : ByteArray := prog_7_method_11_code
def yX5_removeAll : MethodName := ⟨RX5, "removeAll", "(I)I"⟩
def RX6 : String := "HarbourLights$Text"
def TX6 : u_T := fun k => match k with
  | 0 => ("HarbourLights$Text", "length", "I", false)
  | 1 => ("HarbourLights$Text", "clauses", "I", false)
  | 2 => ("HarbourLights$Text", "letters", "[I", true)
  | 3 => ("HarbourLights$Text", "begin", "I", false)
  | _ => ("HarbourLights$Text", "end", "I", false)
def tyX6 : Nat → FieldType := fun k => match k with
  | 0 => .int
  | 1 => .int
  | 2 => .array .int
  | 3 => .int
  | _ => .int
theorem nmX6 : ∀ a, a < 5 → ∀ b, b < 5 → a ≠ b → (TX6 a).2.1 ≠ (TX6 b).2.1 := by decide +kernel
theorem tyX6_ok : ∀ k, k < 5 → parseFieldDescriptor (TX6 k).2.2.1 = some (tyX6 k) := by decide +kernel
abbrev cX6_init : ByteArray := prog_8_method_1_code
def yX6_init : MethodName := ⟨RX6, "<init>", "()V"⟩
abbrev cX6_append : ByteArray := prog_8_method_2_code
def yX6_append : MethodName := ⟨RX6, "append", "(I)V"⟩
abbrev cX6_readInto : ByteArray := prog_8_method_3_code
def yX6_readInto : MethodName := ⟨RX6, "readInto", "(LHarbourLights$Book;)I"⟩
abbrev cX6_readClause : ByteArray := prog_8_method_4_code
def yX6_readClause : MethodName := ⟨RX6, "readClause", "(LHarbourLights$Book;)Z"⟩
abbrev cX6_readBeats : ByteArray := prog_8_method_5_code
def yX6_readBeats : MethodName := ⟨RX6, "readBeats", "(LHarbourLights$Book;)Z"⟩
abbrev cX6_readWindow : ByteArray := prog_8_method_6_code
def yX6_readWindow : MethodName := ⟨RX6, "readWindow", "(LHarbourLights$Book;)Z"⟩
abbrev cX6_readSight : ByteArray := prog_8_method_7_code
def yX6_readSight : MethodName := ⟨RX6, "readSight", "(LHarbourLights$Book;)Z"⟩
abbrev cX6_readRhythm : ByteArray := prog_8_method_8_code
def yX6_readRhythm : MethodName := ⟨RX6, "readRhythm", "(LHarbourLights$Book;)Z"⟩
abbrev cX6_readLight : ByteArray := prog_8_method_9_code
def yX6_readLight : MethodName := ⟨RX6, "readLight", "(LHarbourLights$Book;)Z"⟩
abbrev cX6_readLit : ByteArray := prog_8_method_10_code
def yX6_readLit : MethodName := ⟨RX6, "readLit", "(LHarbourLights$Book;)Z"⟩
abbrev cX6_readNumber : ByteArray := prog_8_method_11_code
def yX6_readNumber : MethodName := ⟨RX6, "readNumber", "(II)I"⟩
abbrev cX6_advance : ByteArray := prog_8_method_12_code
def yX6_advance : MethodName := ⟨RX6, "advance", "()V"⟩
abbrev cX6_isWord : ByteArray := prog_8_method_13_code
def yX6_isWord : MethodName := ⟨RX6, "isWord", "(Ljava/lang/String;)Z"⟩
abbrev cX6_isSmall : ByteArray := prog_8_method_14_code
def yX6_isSmall : MethodName := ⟨RX6, "isSmall", "(I)Z"⟩
abbrev cX6_isDigit : ByteArray := prog_8_method_15_code
def yX6_isDigit : MethodName := ⟨RX6, "isDigit", "(I)Z"⟩
def RX7 : String := "HarbourLights$Watch"
def TX7 : u_T := fun k => match k with
  | 0 => ("HarbourLights$Watch", "on", "Z", false)
  | 1 => ("HarbourLights$Watch", "missing", "Z", false)
  | 2 => ("HarbourLights$Watch", "pairs", "J", false)
  | 3 => ("HarbourLights$Watch", "missedOne", "J", false)
  | _ => ("HarbourLights$Watch", "turns", "I", false)
def tyX7 : Nat → FieldType := fun k => match k with
  | 0 => .boolean
  | 1 => .boolean
  | 2 => .long
  | 3 => .long
  | _ => .int
theorem nmX7 : ∀ a, a < 5 → ∀ b, b < 5 → a ≠ b → (TX7 a).2.1 ≠ (TX7 b).2.1 := by decide +kernel
theorem tyX7_ok : ∀ k, k < 5 → parseFieldDescriptor (TX7 k).2.2.1 = some (tyX7 k) := by decide +kernel
abbrev cX7_init : ByteArray := prog_9_method_1_code
def yX7_init : MethodName := ⟨RX7, "<init>", "()V"⟩
abbrev cX7_begin : ByteArray := prog_9_method_2_code
def yX7_begin : MethodName := ⟨RX7, "begin", "(JZ)V"⟩
abbrev cX7_end : ByteArray := prog_9_method_3_code
def yX7_end : MethodName := ⟨RX7, "end", "()V"⟩
abbrev cX7_size : ByteArray := prog_9_method_4_code
def yX7_size : MethodName := ⟨RX7, "size", "()I"⟩
abbrev cX7_lights : ByteArray := prog_9_method_5_code
def yX7_lights : MethodName := ⟨RX7, "lights", "()I"⟩
abbrev cX7_takeBeat : ByteArray := prog_9_method_6_code
def yX7_takeBeat : MethodName := ⟨RX7, "takeBeat", "(IJI)V"⟩
abbrev cX7_strikeOrForgive : ByteArray := prog_9_method_7_code
def yX7_strikeOrForgive : MethodName := ⟨RX7, "strikeOrForgive", "(JZ)V"⟩
abbrev cX7_shiftNow : ByteArray := prog_9_method_8_code
def yX7_shiftNow : MethodName := ⟨RX7, "shiftNow", "(II)I"⟩
abbrev cX7_pairAt : ByteArray := prog_9_method_9_code
def yX7_pairAt : MethodName := ⟨RX7, "pairAt", "(II)I"⟩
def RX8 : String := "HarbourLights"
def TX8 : u_T := fun k => match k with
  | 0 => ("HarbourLights", "text", "LHarbourLights$Text;", true)
  | 1 => ("HarbourLights", "told", "LHarbourLights$Book;", true)
  | 2 => ("HarbourLights", "heard", "LHarbourLights$Book;", true)
  | 3 => ("HarbourLights", "now", "LHarbourLights$Lights;", true)
  | 4 => ("HarbourLights", "done", "LHarbourLights$Done;", true)
  | 5 => ("HarbourLights", "keptFirst", "LHarbourLights$Lights;", true)
  | 6 => ("HarbourLights", "keptSecond", "LHarbourLights$Lights;", true)
  | 7 => ("HarbourLights", "planner", "LHarbourLights$Planner;", true)
  | 8 => ("HarbourLights", "watcher", "LHarbourLights$Machine;", true)
  | 9 => ("HarbourLights", "vigil", "LHarbourLights$Watch;", true)
  | _ => ("HarbourLights", "tapes", "[LHarbourLights$Tape;", true)
def tyX8 : Nat → FieldType := fun k => match k with
  | 0 => .object "HarbourLights$Text"
  | 1 => .object "HarbourLights$Book"
  | 2 => .object "HarbourLights$Book"
  | 3 => .object "HarbourLights$Lights"
  | 4 => .object "HarbourLights$Done"
  | 5 => .object "HarbourLights$Lights"
  | 6 => .object "HarbourLights$Lights"
  | 7 => .object "HarbourLights$Planner"
  | 8 => .object "HarbourLights$Machine"
  | 9 => .object "HarbourLights$Watch"
  | _ => .array (.object "HarbourLights$Tape")
theorem nmX8 : ∀ a, a < 11 → ∀ b, b < 11 → a ≠ b → (TX8 a).2.1 ≠ (TX8 b).2.1 := by decide +kernel
theorem tyX8_ok : ∀ k, k < 11 → parseFieldDescriptor (TX8 k).2.2.1 = some (tyX8 k) := by decide +kernel
abbrev cX8_init : ByteArray := prog_1_method_1_code
def yX8_init : MethodName := ⟨RX8, "<init>", "()V"⟩
abbrev cX8_write : ByteArray := prog_1_method_2_code
def yX8_write : MethodName := ⟨RX8, "write", "(I)I"⟩
abbrev cX8_erase : ByteArray := prog_1_method_3_code
def yX8_erase : MethodName := ⟨RX8, "erase", "()I"⟩
abbrev cX8_fault : ByteArray := prog_1_method_4_code
def yX8_fault : MethodName := ⟨RX8, "fault", "()I"⟩
abbrev cX8_office : ByteArray := prog_1_method_5_code
def yX8_office : MethodName := ⟨RX8, "office", "()I"⟩
abbrev cX8_forgetWhatWasDone : ByteArray := prog_1_method_6_code
def yX8_forgetWhatWasDone : MethodName := ⟨RX8, "forgetWhatWasDone", "()V"⟩
abbrev cX8_rhythm : ByteArray := prog_1_method_7_code
def yX8_rhythm : MethodName := ⟨RX8, "rhythm", "(II)I"⟩
abbrev cX8_light : ByteArray := prog_1_method_8_code
def yX8_light : MethodName := ⟨RX8, "light", "(II)I"⟩
abbrev cX8_clashing : ByteArray := prog_1_method_9_code
def yX8_clashing : MethodName := ⟨RX8, "clashing", "(I)I"⟩
abbrev cX8_like : ByteArray := prog_1_method_10_code
def yX8_like : MethodName := ⟨RX8, "like", "(III)I"⟩
abbrev cX8_lit : ByteArray := prog_1_method_11_code
def yX8_lit : MethodName := ⟨RX8, "lit", "(II)I"⟩
abbrev cX8_dark : ByteArray := prog_1_method_12_code
def yX8_dark : MethodName := ⟨RX8, "dark", "(I)I"⟩
abbrev cX8_move : ByteArray := prog_1_method_13_code
def yX8_move : MethodName := ⟨RX8, "move", "(II)I"⟩
abbrev cX8_prepareChange : ByteArray := prog_1_method_14_code
def yX8_prepareChange : MethodName := ⟨RX8, "prepareChange", "(I)V"⟩
abbrev cX8_undo : ByteArray := prog_1_method_15_code
def yX8_undo : MethodName := ⟨RX8, "undo", "()I"⟩
abbrev cX8_keep : ByteArray := prog_1_method_16_code
def yX8_keep : MethodName := ⟨RX8, "keep", "(I)I"⟩
abbrev cX8_back : ByteArray := prog_1_method_17_code
def yX8_back : MethodName := ⟨RX8, "back", "(I)I"⟩
abbrev cX8_keptAt : ByteArray := prog_1_method_18_code
def yX8_keptAt : MethodName := ⟨RX8, "keptAt", "(I)LHarbourLights$Lights;"⟩
abbrev cX8_plan : ByteArray := prog_1_method_19_code
def yX8_plan : MethodName := ⟨RX8, "plan", "(II)I"⟩
abbrev cX8_most : ByteArray := prog_1_method_20_code
def yX8_most : MethodName := ⟨RX8, "most", "(I)I"⟩
abbrev cX8_apart : ByteArray := prog_1_method_21_code
def yX8_apart : MethodName := ⟨RX8, "apart", "(II)I"⟩
abbrev cX8_machine : ByteArray := prog_1_method_22_code
def yX8_machine : MethodName := ⟨RX8, "machine", "(II)I"⟩
abbrev cX8_watch : ByteArray := prog_1_method_23_code
def yX8_watch : MethodName := ⟨RX8, "watch", "(II)I"⟩
abbrev cX8_see : ByteArray := prog_1_method_24_code
def yX8_see : MethodName := ⟨RX8, "see", "(I)I"⟩
abbrev cX8_left : ByteArray := prog_1_method_25_code
def yX8_left : MethodName := ⟨RX8, "left", "(II)I"⟩
abbrev cX8_tape : ByteArray := prog_1_method_26_code
def yX8_tape : MethodName := ⟨RX8, "tape", "(I)I"⟩
abbrev cX8_put : ByteArray := prog_1_method_27_code
def yX8_put : MethodName := ⟨RX8, "put", "(III)I"⟩
abbrev cX8_draw : ByteArray := prog_1_method_28_code
def yX8_draw : MethodName := ⟨RX8, "draw", "(II)I"⟩
abbrev cX8_turn : ByteArray := prog_1_method_29_code
def yX8_turn : MethodName := ⟨RX8, "turn", "(II)I"⟩
abbrev cX8_find : ByteArray := prog_1_method_30_code
def yX8_find : MethodName := ⟨RX8, "find", "(III)I"⟩
abbrev cX8_strike : ByteArray := prog_1_method_31_code
def yX8_strike : MethodName := ⟨RX8, "strike", "(II)I"⟩
abbrev cX8_load : ByteArray := prog_1_method_32_code
def yX8_load : MethodName := ⟨RX8, "load", "(III)I"⟩
abbrev cX8_drop : ByteArray := prog_1_method_33_code
def yX8_drop : MethodName := ⟨RX8, "drop", "(I)I"⟩
abbrev cX8_count : ByteArray := prog_1_method_34_code
def yX8_count : MethodName := ⟨RX8, "count", "(I)I"⟩
abbrev cX8_clashes : ByteArray := prog_1_method_35_code
def yX8_clashes : MethodName := ⟨RX8, "clashes", "()I"⟩
abbrev cX8_numbersOnTapes : ByteArray := prog_1_method_36_code
def yX8_numbersOnTapes : MethodName := ⟨RX8, "numbersOnTapes", "()I"⟩
abbrev cX8_tapeAt : ByteArray := prog_1_method_37_code
def yX8_tapeAt : MethodName := ⟨RX8, "tapeAt", "(I)LHarbourLights$Tape;"⟩
abbrev cX8_isPlace : ByteArray := prog_1_method_38_code
def yX8_isPlace : MethodName := ⟨RX8, "isPlace", "(I)Z"⟩
abbrev cX8_isEnd : ByteArray := prog_1_method_39_code
def yX8_isEnd : MethodName := ⟨RX8, "isEnd", "(I)Z"⟩
abbrev cX8_isNumber : ByteArray := prog_1_method_40_code
def yX8_isNumber : MethodName := ⟨RX8, "isNumber", "(I)Z"⟩
abbrev cX8_lightsIn : ByteArray := prog_1_method_41_code
def yX8_lightsIn : MethodName := ⟨RX8, "lightsIn", "(J)I"⟩
def RX9 : String := "HarbourLightsModel"
def TX9 : u_T := fun k => match k with
  | 0 => ("HarbourLightsModel", "row", "[I", true)
  | 1 => ("HarbourLightsModel", "beats", "I", false)
  | 2 => ("HarbourLightsModel", "window", "I", false)
  | 3 => ("HarbourLightsModel", "sight", "I", false)
  | 4 => ("HarbourLightsModel", "rhythms", "I", false)
  | 5 => ("HarbourLightsModel", "lights", "I", false)
  | 6 => ("HarbourLightsModel", "numbers", "[I", true)
  | 7 => ("HarbourLightsModel", "undos", "I", false)
  | 8 => ("HarbourLightsModel", "isKept", "[Z", true)
  | 9 => ("HarbourLightsModel", "text", "[I", true)
  | 10 => ("HarbourLightsModel", "length", "I", false)
  | 11 => ("HarbourLightsModel", "isWatched", "Z", false)
  | 12 => ("HarbourLightsModel", "mayMiss", "Z", false)
  | 13 => ("HarbourLightsModel", "isLeft", "[Z", true)
  | 14 => ("HarbourLightsModel", "shifts", "[I", true)
  | 15 => ("HarbourLightsModel", "hasMissed", "[Z", true)
  | 16 => ("HarbourLightsModel", "sizes", "[I", true)
  | 17 => ("HarbourLightsModel", "values", "[I", true)
  | 18 => ("HarbourLightsModel", "first", "I", false)
  | 19 => ("HarbourLightsModel", "behind", "I", false)
  | 20 => ("HarbourLightsModel", "readBeats", "I", false)
  | 21 => ("HarbourLightsModel", "readRhythms", "I", false)
  | 22 => ("HarbourLightsModel", "readLights", "I", false)
  | 23 => ("HarbourLightsModel", "clauses", "I", false)
  | 24 => ("HarbourLightsModel", "doing", "Z", false)
  | 25 => ("HarbourLightsModel", "read", "[I", true)
  | 26 => ("HarbourLightsModel", "beatsWord", "[I", true)
  | 27 => ("HarbourLightsModel", "windowWord", "[I", true)
  | 28 => ("HarbourLightsModel", "sightWord", "[I", true)
  | 29 => ("HarbourLightsModel", "rhythmWord", "[I", true)
  | 30 => ("HarbourLightsModel", "lightWord", "[I", true)
  | 31 => ("HarbourLightsModel", "litWord", "[I", true)
  | 32 => ("HarbourLightsModel", "bars", "[I", true)
  | 33 => ("HarbourLightsModel", "tried", "[I", true)
  | 34 => ("HarbourLightsModel", "planned", "[I", true)
  | 35 => ("HarbourLightsModel", "sets", "[J", true)
  | 36 => ("HarbourLightsModel", "level", "[J", true)
  | _ => ("HarbourLightsModel", "levelThen", "[J", true)
def tyX9 : Nat → FieldType := fun k => match k with
  | 0 => .array .int
  | 1 => .int
  | 2 => .int
  | 3 => .int
  | 4 => .int
  | 5 => .int
  | 6 => .array .int
  | 7 => .int
  | 8 => .array .boolean
  | 9 => .array .int
  | 10 => .int
  | 11 => .boolean
  | 12 => .boolean
  | 13 => .array .boolean
  | 14 => .array .int
  | 15 => .array .boolean
  | 16 => .array .int
  | 17 => .array .int
  | 18 => .int
  | 19 => .int
  | 20 => .int
  | 21 => .int
  | 22 => .int
  | 23 => .int
  | 24 => .boolean
  | 25 => .array .int
  | 26 => .array .int
  | 27 => .array .int
  | 28 => .array .int
  | 29 => .array .int
  | 30 => .array .int
  | 31 => .array .int
  | 32 => .array .int
  | 33 => .array .int
  | 34 => .array .int
  | 35 => .array .long
  | 36 => .array .long
  | _ => .array .long
theorem nmX9 : ∀ a, a < 38 → ∀ b, b < 38 → a ≠ b → (TX9 a).2.1 ≠ (TX9 b).2.1 := by decide +kernel
theorem tyX9_ok : ∀ k, k < 38 → parseFieldDescriptor (TX9 k).2.2.1 = some (tyX9 k) := by decide +kernel
abbrev cX9_init : ByteArray := prog_11_method_1_code
def yX9_init : MethodName := ⟨RX9, "<init>", "()V"⟩
abbrev cX9_in : ByteArray := prog_11_method_2_code
def yX9_in : MethodName := ⟨RX9, "in", "(JJJ)Z"⟩
abbrev cX9_has : ByteArray := prog_11_method_3_code
def yX9_has : MethodName := ⟨RX9, "has", "(II)Z"⟩
abbrev cX9_ones : ByteArray := prog_11_method_4_code
def yX9_ones : MethodName := ⟨RX9, "ones", "(I)I"⟩
abbrev cX9_copyRow : ByteArray := prog_11_method_5_code
def yX9_copyRow : MethodName := ⟨RX9, "copyRow", "(II)V"⟩
abbrev cX9_anew : ByteArray := prog_11_method_6_code
def yX9_anew : MethodName := ⟨RX9, "anew", "(I)V"⟩
abbrev cX9_write : ByteArray := prog_11_method_7_code
def yX9_write : MethodName := ⟨RX9, "write", "(I)I"⟩
abbrev cX9_erase : ByteArray := prog_11_method_8_code
def yX9_erase : MethodName := ⟨RX9, "erase", "()I"⟩
abbrev cX9_isLetter : ByteArray := prog_11_method_9_code
def yX9_isLetter : MethodName := ⟨RX9, "isLetter", "(I)Z"⟩
abbrev cX9_isDigit : ByteArray := prog_11_method_10_code
def yX9_isDigit : MethodName := ⟨RX9, "isDigit", "(I)Z"⟩
abbrev cX9_nextToken : ByteArray := prog_11_method_11_code
def yX9_nextToken : MethodName := ⟨RX9, "nextToken", "()V"⟩
abbrev cX9_isWord : ByteArray := prog_11_method_12_code
def yX9_isWord : MethodName := ⟨RX9, "isWord", "([I)Z"⟩
abbrev cX9_number : ByteArray := prog_11_method_13_code
def yX9_number : MethodName := ⟨RX9, "number", "(III)Z"⟩
abbrev cX9_readsBeats : ByteArray := prog_11_method_14_code
def yX9_readsBeats : MethodName := ⟨RX9, "readsBeats", "()Z"⟩
abbrev cX9_wordHere : ByteArray := prog_11_method_15_code
def yX9_wordHere : MethodName := ⟨RX9, "wordHere", "()I"⟩
abbrev cX9_readsRest : ByteArray := prog_11_method_16_code
def yX9_readsRest : MethodName := ⟨RX9, "readsRest", "(I)Z"⟩
abbrev cX9_does : ByteArray := prog_11_method_17_code
def yX9_does : MethodName := ⟨RX9, "does", "(I)V"⟩
abbrev cX9_readsClause : ByteArray := prog_11_method_18_code
def yX9_readsClause : MethodName := ⟨RX9, "readsClause", "()Z"⟩
abbrev cX9_reads : ByteArray := prog_11_method_19_code
def yX9_reads : MethodName := ⟨RX9, "reads", "(Z)Z"⟩
abbrev cX9_fault : ByteArray := prog_11_method_20_code
def yX9_fault : MethodName := ⟨RX9, "fault", "()I"⟩
abbrev cX9_office : ByteArray := prog_11_method_21_code
def yX9_office : MethodName := ⟨RX9, "office", "()I"⟩
abbrev cX9_isRhythm : ByteArray := prog_11_method_22_code
def yX9_isRhythm : MethodName := ⟨RX9, "isRhythm", "(I)Z"⟩
abbrev cX9_isLight : ByteArray := prog_11_method_23_code
def yX9_isLight : MethodName := ⟨RX9, "isLight", "(I)Z"⟩
abbrev cX9_beatOf : ByteArray := prog_11_method_24_code
def yX9_beatOf : MethodName := ⟨RX9, "beatOf", "(II)I"⟩
abbrev cX9_rowOf : ByteArray := prog_11_method_25_code
def yX9_rowOf : MethodName := ⟨RX9, "rowOf", "(III)I"⟩
abbrev cX9_flashes : ByteArray := prog_11_method_26_code
def yX9_flashes : MethodName := ⟨RX9, "flashes", "(I)I"⟩
abbrev cX9_leastTurn : ByteArray := prog_11_method_27_code
def yX9_leastTurn : MethodName := ⟨RX9, "leastTurn", "(I)I"⟩
abbrev cX9_repeats : ByteArray := prog_11_method_28_code
def yX9_repeats : MethodName := ⟨RX9, "repeats", "(I)I"⟩
abbrev cX9_rhythm : ByteArray := prog_11_method_29_code
def yX9_rhythm : MethodName := ⟨RX9, "rhythm", "(II)I"⟩
abbrev cX9_isDimmed : ByteArray := prog_11_method_30_code
def yX9_isDimmed : MethodName := ⟨RX9, "isDimmed", "(II)Z"⟩
abbrev cX9_areLike : ByteArray := prog_11_method_31_code
def yX9_areLike : MethodName := ⟨RX9, "areLike", "(IIIZ)Z"⟩
abbrev cX9_like : ByteArray := prog_11_method_32_code
def yX9_like : MethodName := ⟨RX9, "like", "(III)I"⟩
abbrev cX9_areNeighbours : ByteArray := prog_11_method_33_code
def yX9_areNeighbours : MethodName := ⟨RX9, "areNeighbours", "(II)Z"⟩
abbrev cX9_doClash : ByteArray := prog_11_method_34_code
def yX9_doClash : MethodName := ⟨RX9, "doClash", "(II)Z"⟩
abbrev cX9_thoseOf : ByteArray := prog_11_method_35_code
def yX9_thoseOf : MethodName := ⟨RX9, "thoseOf", "(IZ)I"⟩
abbrev cX9_light : ByteArray := prog_11_method_36_code
def yX9_light : MethodName := ⟨RX9, "light", "(II)I"⟩
abbrev cX9_become : ByteArray := prog_11_method_37_code
def yX9_become : MethodName := ⟨RX9, "become", "(II)V"⟩
abbrev cX9_lit : ByteArray := prog_11_method_38_code
def yX9_lit : MethodName := ⟨RX9, "lit", "(II)I"⟩
abbrev cX9_dark : ByteArray := prog_11_method_39_code
def yX9_dark : MethodName := ⟨RX9, "dark", "(I)I"⟩
abbrev cX9_move : ByteArray := prog_11_method_40_code
def yX9_move : MethodName := ⟨RX9, "move", "(II)I"⟩
abbrev cX9_undo : ByteArray := prog_11_method_41_code
def yX9_undo : MethodName := ⟨RX9, "undo", "()I"⟩
abbrev cX9_litOnes : ByteArray := prog_11_method_42_code
def yX9_litOnes : MethodName := ⟨RX9, "litOnes", "()I"⟩
abbrev cX9_keep : ByteArray := prog_11_method_43_code
def yX9_keep : MethodName := ⟨RX9, "keep", "(I)I"⟩
abbrev cX9_back : ByteArray := prog_11_method_44_code
def yX9_back : MethodName := ⟨RX9, "back", "(I)I"⟩
abbrev cX9_layBars : ByteArray := prog_11_method_45_code
def yX9_layBars : MethodName := ⟨RX9, "layBars", "(Z)V"⟩
abbrev cX9_isPlan : ByteArray := prog_11_method_46_code
def yX9_isPlan : MethodName := ⟨RX9, "isPlan", "()Z"⟩
abbrev cX9_layPlan : ByteArray := prog_11_method_47_code
def yX9_layPlan : MethodName := ⟨RX9, "layPlan", "(Z)I"⟩
abbrev cX9_plan : ByteArray := prog_11_method_48_code
def yX9_plan : MethodName := ⟨RX9, "plan", "(II)I"⟩
abbrev cX9_most : ByteArray := prog_11_method_49_code
def yX9_most : MethodName := ⟨RX9, "most", "(I)I"⟩
abbrev cX9_apart : ByteArray := prog_11_method_50_code
def yX9_apart : MethodName := ⟨RX9, "apart", "(II)I"⟩
abbrev cX9_firstSet : ByteArray := prog_11_method_51_code
def yX9_firstSet : MethodName := ⟨RX9, "firstSet", "(I)J"⟩
abbrev cX9_becomes : ByteArray := prog_11_method_52_code
def yX9_becomes : MethodName := ⟨RX9, "becomes", "(JI)J"⟩
abbrev cX9_statesOf : ByteArray := prog_11_method_53_code
def yX9_statesOf : MethodName := ⟨RX9, "statesOf", "(I)I"⟩
abbrev cX9_isOfOne : ByteArray := prog_11_method_54_code
def yX9_isOfOne : MethodName := ⟨RX9, "isOfOne", "(J)Z"⟩
abbrev cX9_namedAt : ByteArray := prog_11_method_55_code
def yX9_namedAt : MethodName := ⟨RX9, "namedAt", "(I)I"⟩
abbrev cX9_machine : ByteArray := prog_11_method_56_code
def yX9_machine : MethodName := ⟨RX9, "machine", "(II)I"⟩
abbrev cX9_pairsLeft : ByteArray := prog_11_method_57_code
def yX9_pairsLeft : MethodName := ⟨RX9, "pairsLeft", "()I"⟩
abbrev cX9_watch : ByteArray := prog_11_method_58_code
def yX9_watch : MethodName := ⟨RX9, "watch", "(II)I"⟩
abbrev cX9_seePair : ByteArray := prog_11_method_59_code
def yX9_seePair : MethodName := ⟨RX9, "seePair", "(II)V"⟩
abbrev cX9_see : ByteArray := prog_11_method_60_code
def yX9_see : MethodName := ⟨RX9, "see", "(I)I"⟩
abbrev cX9_left : ByteArray := prog_11_method_61_code
def yX9_left : MethodName := ⟨RX9, "left", "(II)I"⟩
abbrev cX9_isTape : ByteArray := prog_11_method_62_code
def yX9_isTape : MethodName := ⟨RX9, "isTape", "(I)Z"⟩
abbrev cX9_isNumber : ByteArray := prog_11_method_63_code
def yX9_isNumber : MethodName := ⟨RX9, "isNumber", "(I)Z"⟩
abbrev cX9_tape : ByteArray := prog_11_method_64_code
def yX9_tape : MethodName := ⟨RX9, "tape", "(I)I"⟩
abbrev cX9_putAt : ByteArray := prog_11_method_65_code
def yX9_putAt : MethodName := ⟨RX9, "putAt", "(III)V"⟩
abbrev cX9_drawAt : ByteArray := prog_11_method_66_code
def yX9_drawAt : MethodName := ⟨RX9, "drawAt", "(II)I"⟩
abbrev cX9_put : ByteArray := prog_11_method_67_code
def yX9_put : MethodName := ⟨RX9, "put", "(III)I"⟩
abbrev cX9_draw : ByteArray := prog_11_method_68_code
def yX9_draw : MethodName := ⟨RX9, "draw", "(II)I"⟩
abbrev cX9_turn : ByteArray := prog_11_method_69_code
def yX9_turn : MethodName := ⟨RX9, "turn", "(II)I"⟩
abbrev cX9_find : ByteArray := prog_11_method_70_code
def yX9_find : MethodName := ⟨RX9, "find", "(III)I"⟩
abbrev cX9_strike : ByteArray := prog_11_method_71_code
def yX9_strike : MethodName := ⟨RX9, "strike", "(II)I"⟩
abbrev cX9_load : ByteArray := prog_11_method_72_code
def yX9_load : MethodName := ⟨RX9, "load", "(III)I"⟩
abbrev cX9_drop : ByteArray := prog_11_method_73_code
def yX9_drop : MethodName := ⟨RX9, "drop", "(I)I"⟩
abbrev cX9_clashes : ByteArray := prog_11_method_74_code
def yX9_clashes : MethodName := ⟨RX9, "clashes", "()I"⟩
abbrev cX9_allNumbers : ByteArray := prog_11_method_75_code
def yX9_allNumbers : MethodName := ⟨RX9, "allNumbers", "()I"⟩
abbrev cX9_count : ByteArray := prog_11_method_76_code
def yX9_count : MethodName := ⟨RX9, "count", "(I)I"⟩
def RJ6 : String := "java/lang/Integer"
def TJ6 : u_T := fun k => match k with
  | _ => ("", "", "", false)
def tyJ6 : Nat → FieldType := fun k => match k with
  | _ => .int
theorem nmJ6 : ∀ a, a < 0 → ∀ b, b < 0 → a ≠ b → (TJ6 a).2.1 ≠ (TJ6 b).2.1 := by decide +kernel
theorem tyJ6_ok : ∀ k, k < 0 → parseFieldDescriptor (TJ6 k).2.2.1 = some (tyJ6 k) := by decide +kernel
abbrev cJ6_bitCount_0f7a4 : ByteArray := prog_12_method_49_code
def yJ6_bitCount_0f7a4 : MethodName := ⟨RJ6, "bitCount", "(I)I"⟩
def RJ13 : String := "java/lang/Long"
def TJ13 : u_T := fun k => match k with
  | _ => ("", "", "", false)
def tyJ13 : Nat → FieldType := fun k => match k with
  | _ => .int
theorem nmJ13 : ∀ a, a < 0 → ∀ b, b < 0 → a ≠ b → (TJ13 a).2.1 ≠ (TJ13 b).2.1 := by decide +kernel
theorem tyJ13_ok : ∀ k, k < 0 → parseFieldDescriptor (TJ13 k).2.2.1 = some (tyJ13 k) := by decide +kernel
abbrev cJ13_bitCount_95d88 : ByteArray := prog_13_method_50_code
def yJ13_bitCount_95d88 : MethodName := ⟨RJ13, "bitCount", "(J)I"⟩
def RJ9 : String := "java/lang/Math"
def TJ9 : u_T := fun k => match k with
  | _ => ("", "", "", false)
def tyJ9 : Nat → FieldType := fun k => match k with
  | _ => .int
theorem nmJ9 : ∀ a, a < 0 → ∀ b, b < 0 → a ≠ b → (TJ9 a).2.1 ≠ (TJ9 b).2.1 := by decide +kernel
theorem tyJ9_ok : ∀ k, k < 0 → parseFieldDescriptor (TJ9 k).2.2.1 = some (tyJ9 k) := by decide +kernel
abbrev cJ9_abs_0f7a4 : ByteArray := prog_14_method_59_code
def yJ9_abs_0f7a4 : MethodName := ⟨RJ9, "abs", "(I)I"⟩
abbrev cJ9_max_7cf53 : ByteArray := prog_14_method_65_code
def yJ9_max_7cf53 : MethodName := ⟨RJ9, "max", "(II)I"⟩
abbrev cJ9_min_7cf53 : ByteArray := prog_14_method_69_code
def yJ9_min_7cf53 : MethodName := ⟨RJ9, "min", "(II)I"⟩
def RJ0 : String := "java/lang/String"
def TJ0 : u_T := fun k => match k with
  | _ => ("", "", "", false)
def tyJ0 : Nat → FieldType := fun k => match k with
  | _ => .int
theorem nmJ0 : ∀ a, a < 0 → ∀ b, b < 0 → a ≠ b → (TJ0 a).2.1 ≠ (TJ0 b).2.1 := by decide +kernel
theorem tyJ0_ok : ∀ k, k < 0 → parseFieldDescriptor (TJ0 k).2.2.1 = some (tyJ0 k) := by decide +kernel
abbrev cJ0_length_8abf5 : ByteArray := prog_15_method_54_code
def yJ0_length_8abf5 : MethodName := ⟨RJ0, "length", "()I"⟩
abbrev cJ0_charAt_5068e : ByteArray := prog_15_method_56_code
def yJ0_charAt_5068e : MethodName := ⟨RJ0, "charAt", "(I)C"⟩
abbrev cJ0_coder_7d493 : ByteArray := prog_15_method_152_code
def yJ0_coder_7d493 : MethodName := ⟨RJ0, "coder", "()B"⟩
abbrev cJ0_isLatin1_aae02 : ByteArray := prog_15_method_154_code
def yJ0_isLatin1_aae02 : MethodName := ⟨RJ0, "isLatin1", "()Z"⟩
abbrev cJ0_checkIndex_df160 : ByteArray := prog_15_method_155_code
def yJ0_checkIndex_df160 : MethodName := ⟨RJ0, "checkIndex", "(II)V"⟩
def RJ1 : String := "java/lang/StringLatin1"
def TJ1 : u_T := fun k => match k with
  | _ => ("", "", "", false)
def tyJ1 : Nat → FieldType := fun k => match k with
  | _ => .int
theorem nmJ1 : ∀ a, a < 0 → ∀ b, b < 0 → a ≠ b → (TJ1 a).2.1 ≠ (TJ1 b).2.1 := by decide +kernel
theorem tyJ1_ok : ∀ k, k < 0 → parseFieldDescriptor (TJ1 k).2.2.1 = some (tyJ1 k) := by decide +kernel
abbrev cJ1_charAt_3b067 : ByteArray := prog_16_method_2_code
def yJ1_charAt_3b067 : MethodName := ⟨RJ1, "charAt", "([BI)C"⟩
def RJ2 : String := "java/lang/StringUTF16"
def TJ2 : u_T := fun k => match k with
  | _ => ("", "", "", false)
def tyJ2 : Nat → FieldType := fun k => match k with
  | _ => .int
theorem nmJ2 : ∀ a, a < 0 → ∀ b, b < 0 → a ≠ b → (TJ2 a).2.1 ≠ (TJ2 b).2.1 := by decide +kernel
theorem tyJ2_ok : ∀ k, k < 0 → parseFieldDescriptor (TJ2 k).2.2.1 = some (tyJ2 k) := by decide +kernel
abbrev cJ2_getChar_3b067 : ByteArray := prog_17_method_5_code
def yJ2_getChar_3b067 : MethodName := ⟨RJ2, "getChar", "([BI)C"⟩
abbrev cJ2_length_9d52b : ByteArray := prog_17_method_6_code
def yJ2_length_9d52b : MethodName := ⟨RJ2, "length", "([B)I"⟩
abbrev cJ2_charAt_3b067 : ByteArray := prog_17_method_83_code
def yJ2_charAt_3b067 : MethodName := ⟨RJ2, "charAt", "([BI)C"⟩
abbrev cJ2_checkIndex_2214a : ByteArray := prog_17_method_91_code
def yJ2_checkIndex_2214a : MethodName := ⟨RJ2, "checkIndex", "(I[B)V"⟩
def RJ10 : String := "java/lang/System"
def TJ10 : u_T := fun k => match k with
  | _ => ("", "", "", false)
def tyJ10 : Nat → FieldType := fun k => match k with
  | _ => .int
theorem nmJ10 : ∀ a, a < 0 → ∀ b, b < 0 → a ≠ b → (TJ10 a).2.1 ≠ (TJ10 b).2.1 := by decide +kernel
theorem tyJ10_ok : ∀ k, k < 0 → parseFieldDescriptor (TJ10 k).2.2.1 = some (tyJ10 k) := by decide +kernel
def RJ3 : String := "jdk/internal/util/Preconditions"
def TJ3 : u_T := fun k => match k with
  | _ => ("", "", "", false)
def tyJ3 : Nat → FieldType := fun k => match k with
  | _ => .int
theorem nmJ3 : ∀ a, a < 0 → ∀ b, b < 0 → a ≠ b → (TJ3 a).2.1 ≠ (TJ3 b).2.1 := by decide +kernel
theorem tyJ3_ok : ∀ k, k < 0 → parseFieldDescriptor (TJ3 k).2.2.1 = some (tyJ3 k) := by decide +kernel
abbrev cJ3_checkIndex_8e157 : ByteArray := prog_19_method_11_code
def yJ3_checkIndex_8e157 : MethodName := ⟨RJ3, "checkIndex", "(IILjava/util/function/BiFunction;)I"⟩
def RL : String := "HarbourLightsLaw"
abbrev cL_law : ByteArray := code
def yL_law : MethodName := ⟨RL, "law", "([I)Z"⟩
