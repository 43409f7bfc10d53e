section
-- ===== PART A: goes FIRST, ahead of the names: the tables' words, and 'selects' of the private methods out of them =====
/-- a private method of a class that the tables say can be made, by its rows of tables_1 -/
def lw_okq (q : MethodName × Nat) : Prop := (q.1.cls ≠ "java/lang/invoke/MethodHandle" ∧ q.1.cls ≠ "java/lang/invoke/VarHandle") ∧ Cond.instantiable q.1.cls q.2 ∈ tables_1 ∧ Cond.privateMethod q.1 ∈ tables_1 ∧ Cond.instanceMethod q.1 ∈ tables_1
theorem lw_p0 : lw_okq (⟨"HarbourLights$Text", "advance", "()V"⟩, 5) := ⟨⟨by decide +kernel, by decide +kernel⟩, List.mem_of_getElem? (i := 28) (by decide +kernel), List.mem_of_getElem? (i := 315) (by decide +kernel), List.mem_of_getElem? (i := 316) (by decide +kernel)⟩
theorem lw_p1 : lw_okq (⟨"HarbourLights$Text", "readClause", "(LHarbourLights$Book;)Z"⟩, 5) := ⟨⟨by decide +kernel, by decide +kernel⟩, List.mem_of_getElem? (i := 28) (by decide +kernel), List.mem_of_getElem? (i := 325) (by decide +kernel), List.mem_of_getElem? (i := 326) (by decide +kernel)⟩
theorem lw_p2 : lw_okq (⟨"HarbourLights$Text", "isWord", "(Ljava/lang/String;)Z"⟩, 5) := ⟨⟨by decide +kernel, by decide +kernel⟩, List.mem_of_getElem? (i := 28) (by decide +kernel), List.mem_of_getElem? (i := 330) (by decide +kernel), List.mem_of_getElem? (i := 331) (by decide +kernel)⟩
theorem lw_p3 : lw_okq (⟨"HarbourLights$Text", "readBeats", "(LHarbourLights$Book;)Z"⟩, 5) := ⟨⟨by decide +kernel, by decide +kernel⟩, List.mem_of_getElem? (i := 28) (by decide +kernel), List.mem_of_getElem? (i := 382) (by decide +kernel), List.mem_of_getElem? (i := 383) (by decide +kernel)⟩
theorem lw_p4 : lw_okq (⟨"HarbourLights$Text", "readNumber", "(II)I"⟩, 5) := ⟨⟨by decide +kernel, by decide +kernel⟩, List.mem_of_getElem? (i := 28) (by decide +kernel), List.mem_of_getElem? (i := 386) (by decide +kernel), List.mem_of_getElem? (i := 387) (by decide +kernel)⟩
theorem lw_p5 : lw_okq (⟨"HarbourLights$Text", "readWindow", "(LHarbourLights$Book;)Z"⟩, 5) := ⟨⟨by decide +kernel, by decide +kernel⟩, List.mem_of_getElem? (i := 28) (by decide +kernel), List.mem_of_getElem? (i := 392) (by decide +kernel), List.mem_of_getElem? (i := 393) (by decide +kernel)⟩
theorem lw_p6 : lw_okq (⟨"HarbourLights$Text", "readSight", "(LHarbourLights$Book;)Z"⟩, 5) := ⟨⟨by decide +kernel, by decide +kernel⟩, List.mem_of_getElem? (i := 28) (by decide +kernel), List.mem_of_getElem? (i := 397) (by decide +kernel), List.mem_of_getElem? (i := 398) (by decide +kernel)⟩
theorem lw_p7 : lw_okq (⟨"HarbourLights$Text", "readRhythm", "(LHarbourLights$Book;)Z"⟩, 5) := ⟨⟨by decide +kernel, by decide +kernel⟩, List.mem_of_getElem? (i := 28) (by decide +kernel), List.mem_of_getElem? (i := 402) (by decide +kernel), List.mem_of_getElem? (i := 403) (by decide +kernel)⟩
theorem lw_p8 : lw_okq (⟨"HarbourLights$Text", "readLight", "(LHarbourLights$Book;)Z"⟩, 5) := ⟨⟨by decide +kernel, by decide +kernel⟩, List.mem_of_getElem? (i := 28) (by decide +kernel), List.mem_of_getElem? (i := 411) (by decide +kernel), List.mem_of_getElem? (i := 412) (by decide +kernel)⟩
theorem lw_p9 : lw_okq (⟨"HarbourLights$Text", "readLit", "(LHarbourLights$Book;)Z"⟩, 5) := ⟨⟨by decide +kernel, by decide +kernel⟩, List.mem_of_getElem? (i := 28) (by decide +kernel), List.mem_of_getElem? (i := 420) (by decide +kernel), List.mem_of_getElem? (i := 421) (by decide +kernel)⟩
theorem lw_p10 : lw_okq (⟨"HarbourLights", "forgetWhatWasDone", "()V"⟩, 11) := ⟨⟨by decide +kernel, by decide +kernel⟩, List.mem_of_getElem? (i := 20) (by decide +kernel), List.mem_of_getElem? (i := 430) (by decide +kernel), List.mem_of_getElem? (i := 431) (by decide +kernel)⟩
theorem lw_p11 : lw_okq (⟨"HarbourLights", "tapeAt", "(I)LHarbourLights$Tape;"⟩, 11) := ⟨⟨by decide +kernel, by decide +kernel⟩, List.mem_of_getElem? (i := 20) (by decide +kernel), List.mem_of_getElem? (i := 438) (by decide +kernel), List.mem_of_getElem? (i := 439) (by decide +kernel)⟩
theorem lw_p12 : lw_okq (⟨"HarbourLights", "clashing", "(I)I"⟩, 11) := ⟨⟨by decide +kernel, by decide +kernel⟩, List.mem_of_getElem? (i := 20) (by decide +kernel), List.mem_of_getElem? (i := 488) (by decide +kernel), List.mem_of_getElem? (i := 489) (by decide +kernel)⟩
theorem lw_p13 : lw_okq (⟨"HarbourLights", "prepareChange", "(I)V"⟩, 11) := ⟨⟨by decide +kernel, by decide +kernel⟩, List.mem_of_getElem? (i := 20) (by decide +kernel), List.mem_of_getElem? (i := 510) (by decide +kernel), List.mem_of_getElem? (i := 511) (by decide +kernel)⟩
theorem lw_p14 : lw_okq (⟨"HarbourLights$Done", "forgetOldest", "()V"⟩, 4) := ⟨⟨by decide +kernel, by decide +kernel⟩, List.mem_of_getElem? (i := 128) (by decide +kernel), List.mem_of_getElem? (i := 518) (by decide +kernel), List.mem_of_getElem? (i := 519) (by decide +kernel)⟩
theorem lw_p15 : lw_okq (⟨"HarbourLights", "keptAt", "(I)LHarbourLights$Lights;"⟩, 11) := ⟨⟨by decide +kernel, by decide +kernel⟩, List.mem_of_getElem? (i := 20) (by decide +kernel), List.mem_of_getElem? (i := 546) (by decide +kernel), List.mem_of_getElem? (i := 547) (by decide +kernel)⟩
def lw_privs_1 : List (MethodName × Nat) := [(⟨"HarbourLights$Text", "advance", "()V"⟩, 5), (⟨"HarbourLights$Text", "readClause", "(LHarbourLights$Book;)Z"⟩, 5), (⟨"HarbourLights$Text", "isWord", "(Ljava/lang/String;)Z"⟩, 5), (⟨"HarbourLights$Text", "readBeats", "(LHarbourLights$Book;)Z"⟩, 5), (⟨"HarbourLights$Text", "readNumber", "(II)I"⟩, 5), (⟨"HarbourLights$Text", "readWindow", "(LHarbourLights$Book;)Z"⟩, 5), (⟨"HarbourLights$Text", "readSight", "(LHarbourLights$Book;)Z"⟩, 5), (⟨"HarbourLights$Text", "readRhythm", "(LHarbourLights$Book;)Z"⟩, 5), (⟨"HarbourLights$Text", "readLight", "(LHarbourLights$Book;)Z"⟩, 5), (⟨"HarbourLights$Text", "readLit", "(LHarbourLights$Book;)Z"⟩, 5), (⟨"HarbourLights", "forgetWhatWasDone", "()V"⟩, 11), (⟨"HarbourLights", "tapeAt", "(I)LHarbourLights$Tape;"⟩, 11), (⟨"HarbourLights", "clashing", "(I)I"⟩, 11), (⟨"HarbourLights", "prepareChange", "(I)V"⟩, 11), (⟨"HarbourLights$Done", "forgetOldest", "()V"⟩, 4), (⟨"HarbourLights", "keptAt", "(I)LHarbourLights$Lights;"⟩, 11)]
theorem lw_r1 : ∀ q ∈ lw_privs_1, lw_okq q := List.forall_mem_cons.mpr ⟨lw_p0, List.forall_mem_cons.mpr ⟨lw_p1, List.forall_mem_cons.mpr ⟨lw_p2, List.forall_mem_cons.mpr ⟨lw_p3, List.forall_mem_cons.mpr ⟨lw_p4, List.forall_mem_cons.mpr ⟨lw_p5, List.forall_mem_cons.mpr ⟨lw_p6, List.forall_mem_cons.mpr ⟨lw_p7, List.forall_mem_cons.mpr ⟨lw_p8, List.forall_mem_cons.mpr ⟨lw_p9, List.forall_mem_cons.mpr ⟨lw_p10, List.forall_mem_cons.mpr ⟨lw_p11, List.forall_mem_cons.mpr ⟨lw_p12, List.forall_mem_cons.mpr ⟨lw_p13, List.forall_mem_cons.mpr ⟨lw_p14, List.forall_mem_cons.mpr ⟨lw_p15, fun _ h => absurd h List.not_mem_nil⟩⟩⟩⟩⟩⟩⟩⟩⟩⟩⟩⟩⟩⟩⟩⟩
theorem lw_p16 : lw_okq (⟨"HarbourLights$Planner", "compareRhythms", "(LHarbourLights$Book;I)V"⟩, 7) := ⟨⟨by decide +kernel, by decide +kernel⟩, List.mem_of_getElem? (i := 148) (by decide +kernel), List.mem_of_getElem? (i := 566) (by decide +kernel), List.mem_of_getElem? (i := 567) (by decide +kernel)⟩
theorem lw_p17 : lw_okq (⟨"HarbourLights$Planner", "chooseFrom", "(II)I"⟩, 7) := ⟨⟨by decide +kernel, by decide +kernel⟩, List.mem_of_getElem? (i := 148) (by decide +kernel), List.mem_of_getElem? (i := 576) (by decide +kernel), List.mem_of_getElem? (i := 577) (by decide +kernel)⟩
theorem lw_p18 : lw_okq (⟨"HarbourLights$Planner", "refusedFor", "(I)I"⟩, 7) := ⟨⟨by decide +kernel, by decide +kernel⟩, List.mem_of_getElem? (i := 148) (by decide +kernel), List.mem_of_getElem? (i := 582) (by decide +kernel), List.mem_of_getElem? (i := 583) (by decide +kernel)⟩
theorem lw_p19 : lw_okq (⟨"HarbourLights$Planner", "isUnlike", "(I)Z"⟩, 7) := ⟨⟨by decide +kernel, by decide +kernel⟩, List.mem_of_getElem? (i := 148) (by decide +kernel), List.mem_of_getElem? (i := 594) (by decide +kernel), List.mem_of_getElem? (i := 595) (by decide +kernel)⟩
theorem lw_p20 : lw_okq (⟨"HarbourLights$Machine", "behind", "(JI)J"⟩, 7) := ⟨⟨by decide +kernel, by decide +kernel⟩, List.mem_of_getElem? (i := 178) (by decide +kernel), List.mem_of_getElem? (i := 627) (by decide +kernel), List.mem_of_getElem? (i := 628) (by decide +kernel)⟩
theorem lw_p21 : lw_okq (⟨"HarbourLights$Machine", "addIfNew", "(J)V"⟩, 7) := ⟨⟨by decide +kernel, by decide +kernel⟩, List.mem_of_getElem? (i := 178) (by decide +kernel), List.mem_of_getElem? (i := 632) (by decide +kernel), List.mem_of_getElem? (i := 633) (by decide +kernel)⟩
theorem lw_p22 : lw_okq (⟨"HarbourLights$Machine", "allNameOneLight", "()Z"⟩, 7) := ⟨⟨by decide +kernel, by decide +kernel⟩, List.mem_of_getElem? (i := 178) (by decide +kernel), List.mem_of_getElem? (i := 640) (by decide +kernel), List.mem_of_getElem? (i := 641) (by decide +kernel)⟩
theorem lw_p23 : lw_okq (⟨"HarbourLights$Machine", "takeAnyBeat", "()V"⟩, 7) := ⟨⟨by decide +kernel, by decide +kernel⟩, List.mem_of_getElem? (i := 178) (by decide +kernel), List.mem_of_getElem? (i := 649) (by decide +kernel), List.mem_of_getElem? (i := 650) (by decide +kernel)⟩
theorem lw_p24 : lw_okq (⟨"HarbourLights$Watch", "shiftNow", "(II)I"⟩, 5) := ⟨⟨by decide +kernel, by decide +kernel⟩, List.mem_of_getElem? (i := 207) (by decide +kernel), List.mem_of_getElem? (i := 682) (by decide +kernel), List.mem_of_getElem? (i := 683) (by decide +kernel)⟩
theorem lw_p25 : lw_okq (⟨"HarbourLights$Watch", "strikeOrForgive", "(JZ)V"⟩, 5) := ⟨⟨by decide +kernel, by decide +kernel⟩, List.mem_of_getElem? (i := 207) (by decide +kernel), List.mem_of_getElem? (i := 686) (by decide +kernel), List.mem_of_getElem? (i := 687) (by decide +kernel)⟩
theorem lw_p26 : lw_okq (⟨"HarbourLights", "clashes", "()I"⟩, 11) := ⟨⟨by decide +kernel, by decide +kernel⟩, List.mem_of_getElem? (i := 20) (by decide +kernel), List.mem_of_getElem? (i := 789) (by decide +kernel), List.mem_of_getElem? (i := 790) (by decide +kernel)⟩
theorem lw_p27 : lw_okq (⟨"HarbourLights", "numbersOnTapes", "()I"⟩, 11) := ⟨⟨by decide +kernel, by decide +kernel⟩, List.mem_of_getElem? (i := 20) (by decide +kernel), List.mem_of_getElem? (i := 793) (by decide +kernel), List.mem_of_getElem? (i := 794) (by decide +kernel)⟩
theorem lw_p28 : lw_okq (⟨"HarbourLightsModel", "anew", "(I)V"⟩, 38) := ⟨⟨by decide +kernel, by decide +kernel⟩, List.mem_of_getElem? (i := 797) (by decide +kernel), List.mem_of_getElem? (i := 803) (by decide +kernel), List.mem_of_getElem? (i := 804) (by decide +kernel)⟩
theorem lw_p29 : lw_okq (⟨"HarbourLightsModel", "copyRow", "(II)V"⟩, 38) := ⟨⟨by decide +kernel, by decide +kernel⟩, List.mem_of_getElem? (i := 797) (by decide +kernel), List.mem_of_getElem? (i := 807) (by decide +kernel), List.mem_of_getElem? (i := 808) (by decide +kernel)⟩
theorem lw_p30 : lw_okq (⟨"HarbourLightsModel", "reads", "(Z)Z"⟩, 38) := ⟨⟨by decide +kernel, by decide +kernel⟩, List.mem_of_getElem? (i := 797) (by decide +kernel), List.mem_of_getElem? (i := 943) (by decide +kernel), List.mem_of_getElem? (i := 944) (by decide +kernel)⟩
theorem lw_p31 : lw_okq (⟨"HarbourLightsModel", "nextToken", "()V"⟩, 38) := ⟨⟨by decide +kernel, by decide +kernel⟩, List.mem_of_getElem? (i := 797) (by decide +kernel), List.mem_of_getElem? (i := 947) (by decide +kernel), List.mem_of_getElem? (i := 948) (by decide +kernel)⟩
def lw_privs_2 : List (MethodName × Nat) := [(⟨"HarbourLights$Planner", "compareRhythms", "(LHarbourLights$Book;I)V"⟩, 7), (⟨"HarbourLights$Planner", "chooseFrom", "(II)I"⟩, 7), (⟨"HarbourLights$Planner", "refusedFor", "(I)I"⟩, 7), (⟨"HarbourLights$Planner", "isUnlike", "(I)Z"⟩, 7), (⟨"HarbourLights$Machine", "behind", "(JI)J"⟩, 7), (⟨"HarbourLights$Machine", "addIfNew", "(J)V"⟩, 7), (⟨"HarbourLights$Machine", "allNameOneLight", "()Z"⟩, 7), (⟨"HarbourLights$Machine", "takeAnyBeat", "()V"⟩, 7), (⟨"HarbourLights$Watch", "shiftNow", "(II)I"⟩, 5), (⟨"HarbourLights$Watch", "strikeOrForgive", "(JZ)V"⟩, 5), (⟨"HarbourLights", "clashes", "()I"⟩, 11), (⟨"HarbourLights", "numbersOnTapes", "()I"⟩, 11), (⟨"HarbourLightsModel", "anew", "(I)V"⟩, 38), (⟨"HarbourLightsModel", "copyRow", "(II)V"⟩, 38), (⟨"HarbourLightsModel", "reads", "(Z)Z"⟩, 38), (⟨"HarbourLightsModel", "nextToken", "()V"⟩, 38)]
theorem lw_r2 : ∀ q ∈ lw_privs_2, lw_okq q := List.forall_mem_cons.mpr ⟨lw_p16, List.forall_mem_cons.mpr ⟨lw_p17, List.forall_mem_cons.mpr ⟨lw_p18, List.forall_mem_cons.mpr ⟨lw_p19, List.forall_mem_cons.mpr ⟨lw_p20, List.forall_mem_cons.mpr ⟨lw_p21, List.forall_mem_cons.mpr ⟨lw_p22, List.forall_mem_cons.mpr ⟨lw_p23, List.forall_mem_cons.mpr ⟨lw_p24, List.forall_mem_cons.mpr ⟨lw_p25, List.forall_mem_cons.mpr ⟨lw_p26, List.forall_mem_cons.mpr ⟨lw_p27, List.forall_mem_cons.mpr ⟨lw_p28, List.forall_mem_cons.mpr ⟨lw_p29, List.forall_mem_cons.mpr ⟨lw_p30, List.forall_mem_cons.mpr ⟨lw_p31, fun _ h => absurd h List.not_mem_nil⟩⟩⟩⟩⟩⟩⟩⟩⟩⟩⟩⟩⟩⟩⟩⟩
theorem lw_p32 : lw_okq (⟨"HarbourLightsModel", "readsClause", "()Z"⟩, 38) := ⟨⟨by decide +kernel, by decide +kernel⟩, List.mem_of_getElem? (i := 797) (by decide +kernel), List.mem_of_getElem? (i := 961) (by decide +kernel), List.mem_of_getElem? (i := 962) (by decide +kernel)⟩
theorem lw_p33 : lw_okq (⟨"HarbourLightsModel", "wordHere", "()I"⟩, 38) := ⟨⟨by decide +kernel, by decide +kernel⟩, List.mem_of_getElem? (i := 797) (by decide +kernel), List.mem_of_getElem? (i := 965) (by decide +kernel), List.mem_of_getElem? (i := 966) (by decide +kernel)⟩
theorem lw_p34 : lw_okq (⟨"HarbourLightsModel", "isWord", "([I)Z"⟩, 38) := ⟨⟨by decide +kernel, by decide +kernel⟩, List.mem_of_getElem? (i := 797) (by decide +kernel), List.mem_of_getElem? (i := 969) (by decide +kernel), List.mem_of_getElem? (i := 970) (by decide +kernel)⟩
theorem lw_p35 : lw_okq (⟨"HarbourLightsModel", "readsRest", "(I)Z"⟩, 38) := ⟨⟨by decide +kernel, by decide +kernel⟩, List.mem_of_getElem? (i := 797) (by decide +kernel), List.mem_of_getElem? (i := 973) (by decide +kernel), List.mem_of_getElem? (i := 974) (by decide +kernel)⟩
theorem lw_p36 : lw_okq (⟨"HarbourLightsModel", "number", "(III)Z"⟩, 38) := ⟨⟨by decide +kernel, by decide +kernel⟩, List.mem_of_getElem? (i := 797) (by decide +kernel), List.mem_of_getElem? (i := 977) (by decide +kernel), List.mem_of_getElem? (i := 978) (by decide +kernel)⟩
theorem lw_p37 : lw_okq (⟨"HarbourLightsModel", "readsBeats", "()Z"⟩, 38) := ⟨⟨by decide +kernel, by decide +kernel⟩, List.mem_of_getElem? (i := 797) (by decide +kernel), List.mem_of_getElem? (i := 981) (by decide +kernel), List.mem_of_getElem? (i := 982) (by decide +kernel)⟩
theorem lw_p38 : lw_okq (⟨"HarbourLightsModel", "does", "(I)V"⟩, 38) := ⟨⟨by decide +kernel, by decide +kernel⟩, List.mem_of_getElem? (i := 797) (by decide +kernel), List.mem_of_getElem? (i := 985) (by decide +kernel), List.mem_of_getElem? (i := 986) (by decide +kernel)⟩
theorem lw_p39 : lw_okq (⟨"HarbourLightsModel", "isRhythm", "(I)Z"⟩, 38) := ⟨⟨by decide +kernel, by decide +kernel⟩, List.mem_of_getElem? (i := 797) (by decide +kernel), List.mem_of_getElem? (i := 997) (by decide +kernel), List.mem_of_getElem? (i := 998) (by decide +kernel)⟩
theorem lw_p40 : lw_okq (⟨"HarbourLightsModel", "leastTurn", "(I)I"⟩, 38) := ⟨⟨by decide +kernel, by decide +kernel⟩, List.mem_of_getElem? (i := 797) (by decide +kernel), List.mem_of_getElem? (i := 1001) (by decide +kernel), List.mem_of_getElem? (i := 1002) (by decide +kernel)⟩
theorem lw_p41 : lw_okq (⟨"HarbourLightsModel", "rowOf", "(III)I"⟩, 38) := ⟨⟨by decide +kernel, by decide +kernel⟩, List.mem_of_getElem? (i := 797) (by decide +kernel), List.mem_of_getElem? (i := 1005) (by decide +kernel), List.mem_of_getElem? (i := 1006) (by decide +kernel)⟩
theorem lw_p42 : lw_okq (⟨"HarbourLightsModel", "beatOf", "(II)I"⟩, 38) := ⟨⟨by decide +kernel, by decide +kernel⟩, List.mem_of_getElem? (i := 797) (by decide +kernel), List.mem_of_getElem? (i := 1009) (by decide +kernel), List.mem_of_getElem? (i := 1010) (by decide +kernel)⟩
theorem lw_p43 : lw_okq (⟨"HarbourLightsModel", "repeats", "(I)I"⟩, 38) := ⟨⟨by decide +kernel, by decide +kernel⟩, List.mem_of_getElem? (i := 797) (by decide +kernel), List.mem_of_getElem? (i := 1013) (by decide +kernel), List.mem_of_getElem? (i := 1014) (by decide +kernel)⟩
theorem lw_p44 : lw_okq (⟨"HarbourLightsModel", "flashes", "(I)I"⟩, 38) := ⟨⟨by decide +kernel, by decide +kernel⟩, List.mem_of_getElem? (i := 797) (by decide +kernel), List.mem_of_getElem? (i := 1017) (by decide +kernel), List.mem_of_getElem? (i := 1018) (by decide +kernel)⟩
theorem lw_p45 : lw_okq (⟨"HarbourLightsModel", "areLike", "(IIIZ)Z"⟩, 38) := ⟨⟨by decide +kernel, by decide +kernel⟩, List.mem_of_getElem? (i := 797) (by decide +kernel), List.mem_of_getElem? (i := 1028) (by decide +kernel), List.mem_of_getElem? (i := 1029) (by decide +kernel)⟩
theorem lw_p46 : lw_okq (⟨"HarbourLightsModel", "isLight", "(I)Z"⟩, 38) := ⟨⟨by decide +kernel, by decide +kernel⟩, List.mem_of_getElem? (i := 797) (by decide +kernel), List.mem_of_getElem? (i := 1039) (by decide +kernel), List.mem_of_getElem? (i := 1040) (by decide +kernel)⟩
theorem lw_p47 : lw_okq (⟨"HarbourLightsModel", "thoseOf", "(IZ)I"⟩, 38) := ⟨⟨by decide +kernel, by decide +kernel⟩, List.mem_of_getElem? (i := 797) (by decide +kernel), List.mem_of_getElem? (i := 1043) (by decide +kernel), List.mem_of_getElem? (i := 1044) (by decide +kernel)⟩
def lw_privs_3 : List (MethodName × Nat) := [(⟨"HarbourLightsModel", "readsClause", "()Z"⟩, 38), (⟨"HarbourLightsModel", "wordHere", "()I"⟩, 38), (⟨"HarbourLightsModel", "isWord", "([I)Z"⟩, 38), (⟨"HarbourLightsModel", "readsRest", "(I)Z"⟩, 38), (⟨"HarbourLightsModel", "number", "(III)Z"⟩, 38), (⟨"HarbourLightsModel", "readsBeats", "()Z"⟩, 38), (⟨"HarbourLightsModel", "does", "(I)V"⟩, 38), (⟨"HarbourLightsModel", "isRhythm", "(I)Z"⟩, 38), (⟨"HarbourLightsModel", "leastTurn", "(I)I"⟩, 38), (⟨"HarbourLightsModel", "rowOf", "(III)I"⟩, 38), (⟨"HarbourLightsModel", "beatOf", "(II)I"⟩, 38), (⟨"HarbourLightsModel", "repeats", "(I)I"⟩, 38), (⟨"HarbourLightsModel", "flashes", "(I)I"⟩, 38), (⟨"HarbourLightsModel", "areLike", "(IIIZ)Z"⟩, 38), (⟨"HarbourLightsModel", "isLight", "(I)Z"⟩, 38), (⟨"HarbourLightsModel", "thoseOf", "(IZ)I"⟩, 38)]
theorem lw_r3 : ∀ q ∈ lw_privs_3, lw_okq q := List.forall_mem_cons.mpr ⟨lw_p32, List.forall_mem_cons.mpr ⟨lw_p33, List.forall_mem_cons.mpr ⟨lw_p34, List.forall_mem_cons.mpr ⟨lw_p35, List.forall_mem_cons.mpr ⟨lw_p36, List.forall_mem_cons.mpr ⟨lw_p37, List.forall_mem_cons.mpr ⟨lw_p38, List.forall_mem_cons.mpr ⟨lw_p39, List.forall_mem_cons.mpr ⟨lw_p40, List.forall_mem_cons.mpr ⟨lw_p41, List.forall_mem_cons.mpr ⟨lw_p42, List.forall_mem_cons.mpr ⟨lw_p43, List.forall_mem_cons.mpr ⟨lw_p44, List.forall_mem_cons.mpr ⟨lw_p45, List.forall_mem_cons.mpr ⟨lw_p46, List.forall_mem_cons.mpr ⟨lw_p47, fun _ h => absurd h List.not_mem_nil⟩⟩⟩⟩⟩⟩⟩⟩⟩⟩⟩⟩⟩⟩⟩⟩
theorem lw_p48 : lw_okq (⟨"HarbourLightsModel", "doClash", "(II)Z"⟩, 38) := ⟨⟨by decide +kernel, by decide +kernel⟩, List.mem_of_getElem? (i := 797) (by decide +kernel), List.mem_of_getElem? (i := 1047) (by decide +kernel), List.mem_of_getElem? (i := 1048) (by decide +kernel)⟩
theorem lw_p49 : lw_okq (⟨"HarbourLightsModel", "areNeighbours", "(II)Z"⟩, 38) := ⟨⟨by decide +kernel, by decide +kernel⟩, List.mem_of_getElem? (i := 797) (by decide +kernel), List.mem_of_getElem? (i := 1051) (by decide +kernel), List.mem_of_getElem? (i := 1052) (by decide +kernel)⟩
theorem lw_p50 : lw_okq (⟨"HarbourLightsModel", "become", "(II)V"⟩, 38) := ⟨⟨by decide +kernel, by decide +kernel⟩, List.mem_of_getElem? (i := 797) (by decide +kernel), List.mem_of_getElem? (i := 1059) (by decide +kernel), List.mem_of_getElem? (i := 1060) (by decide +kernel)⟩
theorem lw_p51 : lw_okq (⟨"HarbourLightsModel", "litOnes", "()I"⟩, 38) := ⟨⟨by decide +kernel, by decide +kernel⟩, List.mem_of_getElem? (i := 797) (by decide +kernel), List.mem_of_getElem? (i := 1080) (by decide +kernel), List.mem_of_getElem? (i := 1081) (by decide +kernel)⟩
theorem lw_p52 : lw_okq (⟨"HarbourLightsModel", "layPlan", "(Z)I"⟩, 38) := ⟨⟨by decide +kernel, by decide +kernel⟩, List.mem_of_getElem? (i := 797) (by decide +kernel), List.mem_of_getElem? (i := 1092) (by decide +kernel), List.mem_of_getElem? (i := 1093) (by decide +kernel)⟩
theorem lw_p53 : lw_okq (⟨"HarbourLightsModel", "layBars", "(Z)V"⟩, 38) := ⟨⟨by decide +kernel, by decide +kernel⟩, List.mem_of_getElem? (i := 797) (by decide +kernel), List.mem_of_getElem? (i := 1096) (by decide +kernel), List.mem_of_getElem? (i := 1097) (by decide +kernel)⟩
theorem lw_p54 : lw_okq (⟨"HarbourLightsModel", "isPlan", "()Z"⟩, 38) := ⟨⟨by decide +kernel, by decide +kernel⟩, List.mem_of_getElem? (i := 797) (by decide +kernel), List.mem_of_getElem? (i := 1100) (by decide +kernel), List.mem_of_getElem? (i := 1101) (by decide +kernel)⟩
theorem lw_p55 : lw_okq (⟨"HarbourLightsModel", "statesOf", "(I)I"⟩, 38) := ⟨⟨by decide +kernel, by decide +kernel⟩, List.mem_of_getElem? (i := 797) (by decide +kernel), List.mem_of_getElem? (i := 1119) (by decide +kernel), List.mem_of_getElem? (i := 1120) (by decide +kernel)⟩
theorem lw_p56 : lw_okq (⟨"HarbourLightsModel", "firstSet", "(I)J"⟩, 38) := ⟨⟨by decide +kernel, by decide +kernel⟩, List.mem_of_getElem? (i := 797) (by decide +kernel), List.mem_of_getElem? (i := 1123) (by decide +kernel), List.mem_of_getElem? (i := 1124) (by decide +kernel)⟩
theorem lw_p57 : lw_okq (⟨"HarbourLightsModel", "becomes", "(JI)J"⟩, 38) := ⟨⟨by decide +kernel, by decide +kernel⟩, List.mem_of_getElem? (i := 797) (by decide +kernel), List.mem_of_getElem? (i := 1127) (by decide +kernel), List.mem_of_getElem? (i := 1128) (by decide +kernel)⟩
theorem lw_p58 : lw_okq (⟨"HarbourLightsModel", "namedAt", "(I)I"⟩, 38) := ⟨⟨by decide +kernel, by decide +kernel⟩, List.mem_of_getElem? (i := 797) (by decide +kernel), List.mem_of_getElem? (i := 1131) (by decide +kernel), List.mem_of_getElem? (i := 1132) (by decide +kernel)⟩
theorem lw_p59 : lw_okq (⟨"HarbourLightsModel", "pairsLeft", "()I"⟩, 38) := ⟨⟨by decide +kernel, by decide +kernel⟩, List.mem_of_getElem? (i := 797) (by decide +kernel), List.mem_of_getElem? (i := 1142) (by decide +kernel), List.mem_of_getElem? (i := 1143) (by decide +kernel)⟩
theorem lw_p60 : lw_okq (⟨"HarbourLightsModel", "seePair", "(II)V"⟩, 38) := ⟨⟨by decide +kernel, by decide +kernel⟩, List.mem_of_getElem? (i := 797) (by decide +kernel), List.mem_of_getElem? (i := 1150) (by decide +kernel), List.mem_of_getElem? (i := 1151) (by decide +kernel)⟩
theorem lw_p61 : lw_okq (⟨"HarbourLightsModel", "putAt", "(III)V"⟩, 38) := ⟨⟨by decide +kernel, by decide +kernel⟩, List.mem_of_getElem? (i := 797) (by decide +kernel), List.mem_of_getElem? (i := 1175) (by decide +kernel), List.mem_of_getElem? (i := 1176) (by decide +kernel)⟩
theorem lw_p62 : lw_okq (⟨"HarbourLightsModel", "drawAt", "(II)I"⟩, 38) := ⟨⟨by decide +kernel, by decide +kernel⟩, List.mem_of_getElem? (i := 797) (by decide +kernel), List.mem_of_getElem? (i := 1183) (by decide +kernel), List.mem_of_getElem? (i := 1184) (by decide +kernel)⟩
theorem lw_p63 : lw_okq (⟨"HarbourLightsModel", "clashes", "()I"⟩, 38) := ⟨⟨by decide +kernel, by decide +kernel⟩, List.mem_of_getElem? (i := 797) (by decide +kernel), List.mem_of_getElem? (i := 1214) (by decide +kernel), List.mem_of_getElem? (i := 1215) (by decide +kernel)⟩
def lw_privs_4 : List (MethodName × Nat) := [(⟨"HarbourLightsModel", "doClash", "(II)Z"⟩, 38), (⟨"HarbourLightsModel", "areNeighbours", "(II)Z"⟩, 38), (⟨"HarbourLightsModel", "become", "(II)V"⟩, 38), (⟨"HarbourLightsModel", "litOnes", "()I"⟩, 38), (⟨"HarbourLightsModel", "layPlan", "(Z)I"⟩, 38), (⟨"HarbourLightsModel", "layBars", "(Z)V"⟩, 38), (⟨"HarbourLightsModel", "isPlan", "()Z"⟩, 38), (⟨"HarbourLightsModel", "statesOf", "(I)I"⟩, 38), (⟨"HarbourLightsModel", "firstSet", "(I)J"⟩, 38), (⟨"HarbourLightsModel", "becomes", "(JI)J"⟩, 38), (⟨"HarbourLightsModel", "namedAt", "(I)I"⟩, 38), (⟨"HarbourLightsModel", "pairsLeft", "()I"⟩, 38), (⟨"HarbourLightsModel", "seePair", "(II)V"⟩, 38), (⟨"HarbourLightsModel", "putAt", "(III)V"⟩, 38), (⟨"HarbourLightsModel", "drawAt", "(II)I"⟩, 38), (⟨"HarbourLightsModel", "clashes", "()I"⟩, 38)]
theorem lw_r4 : ∀ q ∈ lw_privs_4, lw_okq q := List.forall_mem_cons.mpr ⟨lw_p48, List.forall_mem_cons.mpr ⟨lw_p49, List.forall_mem_cons.mpr ⟨lw_p50, List.forall_mem_cons.mpr ⟨lw_p51, List.forall_mem_cons.mpr ⟨lw_p52, List.forall_mem_cons.mpr ⟨lw_p53, List.forall_mem_cons.mpr ⟨lw_p54, List.forall_mem_cons.mpr ⟨lw_p55, List.forall_mem_cons.mpr ⟨lw_p56, List.forall_mem_cons.mpr ⟨lw_p57, List.forall_mem_cons.mpr ⟨lw_p58, List.forall_mem_cons.mpr ⟨lw_p59, List.forall_mem_cons.mpr ⟨lw_p60, List.forall_mem_cons.mpr ⟨lw_p61, List.forall_mem_cons.mpr ⟨lw_p62, List.forall_mem_cons.mpr ⟨lw_p63, fun _ h => absurd h List.not_mem_nil⟩⟩⟩⟩⟩⟩⟩⟩⟩⟩⟩⟩⟩⟩⟩⟩
theorem lw_p64 : lw_okq (⟨"HarbourLightsModel", "allNumbers", "()I"⟩, 38) := ⟨⟨by decide +kernel, by decide +kernel⟩, List.mem_of_getElem? (i := 797) (by decide +kernel), List.mem_of_getElem? (i := 1218) (by decide +kernel), List.mem_of_getElem? (i := 1219) (by decide +kernel)⟩
def lw_privs_5 : List (MethodName × Nat) := [(⟨"HarbourLightsModel", "allNumbers", "()I"⟩, 38)]
theorem lw_r5 : ∀ q ∈ lw_privs_5, lw_okq q := List.forall_mem_cons.mpr ⟨lw_p64, fun _ h => absurd h List.not_mem_nil⟩
def lw_privs : List (MethodName × Nat) := lw_privs_1 ++ (lw_privs_2 ++ (lw_privs_3 ++ (lw_privs_4 ++ (lw_privs_5))))
def lw_tbl : List Cond := k2_sels lw_privs ++ tables_1
theorem lw_privs_ok : ∀ q ∈ lw_privs, lw_okq q := by
  show ∀ q ∈ lw_privs_1 ++ (lw_privs_2 ++ (lw_privs_3 ++ (lw_privs_4 ++ (lw_privs_5)))), lw_okq q
  exact List.forall_mem_append.mpr ⟨lw_r1, List.forall_mem_append.mpr ⟨lw_r2, List.forall_mem_append.mpr ⟨lw_r3, List.forall_mem_append.mpr ⟨lw_r4, lw_r5⟩⟩⟩⟩
def RX0 : String := "HarbourLights$Book"
def TX0 : u_T := fun k => match k with
  | 0 => ("HarbourLights$Book", "beats", "I", false)
  | 1 => ("HarbourLights$Book", "window", "I", false)
  | 2 => ("HarbourLights$Book", "sight", "I", false)
  | 3 => ("HarbourLights$Book", "size", "I", false)
  | 4 => ("HarbourLights$Book", "numbers", "[I", true)
  | _ => ("HarbourLights$Book", "lights", "LHarbourLights$Lights;", true)
def tyX0 : Nat → FieldType := fun k => match k with
  | 0 => .int
  | 1 => .int
  | 2 => .int
  | 3 => .int
  | 4 => .array .int
  | _ => .object "HarbourLights$Lights"
theorem nmX0 : ∀ a, a < 6 → ∀ b, b < 6 → a ≠ b → (TX0 a).2.1 ≠ (TX0 b).2.1 := by decide +kernel
theorem tyX0_ok : ∀ k, k < 6 → parseFieldDescriptor (TX0 k).2.2.1 = some (tyX0 k) := by decide +kernel
abbrev cX0_init : ByteArray := prog_2_method_1_code
def yX0_init : MethodName := ⟨RX0, "<init>", "()V"⟩
abbrev cX0_beginAnew : ByteArray := prog_2_method_2_code
def yX0_beginAnew : MethodName := ⟨RX0, "beginAnew", "(I)V"⟩
abbrev cX0_become : ByteArray := prog_2_method_3_code
def yX0_become : MethodName := ⟨RX0, "become", "(LHarbourLights$Book;)V"⟩
abbrev cX0_hasRhythm : ByteArray := prog_2_method_4_code
def yX0_hasRhythm : MethodName := ⟨RX0, "hasRhythm", "(I)Z"⟩
abbrev cX0_addRhythm : ByteArray := prog_2_method_5_code
def yX0_addRhythm : MethodName := ⟨RX0, "addRhythm", "(I)V"⟩
abbrev cX0_hasFlash : ByteArray := prog_2_method_6_code
def yX0_hasFlash : MethodName := ⟨RX0, "hasFlash", "(II)Z"⟩
abbrev cX0_turned : ByteArray := prog_2_method_7_code
def yX0_turned : MethodName := ⟨RX0, "turned", "(II)I"⟩
abbrev cX0_turnsToLeast : ByteArray := prog_2_method_8_code
def yX0_turnsToLeast : MethodName := ⟨RX0, "turnsToLeast", "(I)I"⟩
abbrev cX0_repeats : ByteArray := prog_2_method_9_code
def yX0_repeats : MethodName := ⟨RX0, "repeats", "(I)I"⟩
abbrev cX0_areSuch : ByteArray := prog_2_method_10_code
def yX0_areSuch : MethodName := ⟨RX0, "areSuch", "(III)Z"⟩
abbrev cX0_shareRow : ByteArray := prog_2_method_11_code
def yX0_shareRow : MethodName := ⟨RX0, "shareRow", "(IIII)Z"⟩
abbrev cX0_suchOnes : ByteArray := prog_2_method_12_code
def yX0_suchOnes : MethodName := ⟨RX0, "suchOnes", "(II)I"⟩
def RX1 : String := "HarbourLights$Done"
def TX1 : u_T := fun k => match k with
  | 0 => ("HarbourLights$Done", "size", "I", false)
  | 1 => ("HarbourLights$Done", "light", "[I", true)
  | 2 => ("HarbourLights$Done", "place", "[I", true)
  | _ => ("HarbourLights$Done", "rhythm", "[I", true)
def tyX1 : Nat → FieldType := fun k => match k with
  | 0 => .int
  | 1 => .array .int
  | 2 => .array .int
  | _ => .array .int
theorem nmX1 : ∀ a, a < 4 → ∀ b, b < 4 → a ≠ b → (TX1 a).2.1 ≠ (TX1 b).2.1 := by decide +kernel
theorem tyX1_ok : ∀ k, k < 4 → parseFieldDescriptor (TX1 k).2.2.1 = some (tyX1 k) := by decide +kernel
abbrev cX1_init : ByteArray := prog_3_method_1_code
def yX1_init : MethodName := ⟨RX1, "<init>", "()V"⟩
abbrev cX1_remember : ByteArray := prog_3_method_2_code
def yX1_remember : MethodName := ⟨RX1, "remember", "(LHarbourLights$Lights;I)V"⟩
abbrev cX1_forgetOldest : ByteArray := prog_3_method_3_code
def yX1_forgetOldest : MethodName := ⟨RX1, "forgetOldest", "()V"⟩
abbrev cX1_takeBack : ByteArray := prog_3_method_4_code
def yX1_takeBack : MethodName := ⟨RX1, "takeBack", "(LHarbourLights$Lights;)V"⟩
def RX2 : String := "HarbourLights$Lights"
def TX2 : u_T := fun k => match k with
  | 0 => ("HarbourLights$Lights", "size", "I", false)
  | 1 => ("HarbourLights$Lights", "places", "[I", true)
  | 2 => ("HarbourLights$Lights", "rhythms", "[I", true)
  | _ => ("HarbourLights$Lights", "kept", "Z", false)
def tyX2 : Nat → FieldType := fun k => match k with
  | 0 => .int
  | 1 => .array .int
  | 2 => .array .int
  | _ => .boolean
theorem nmX2 : ∀ a, a < 4 → ∀ b, b < 4 → a ≠ b → (TX2 a).2.1 ≠ (TX2 b).2.1 := by decide +kernel
theorem tyX2_ok : ∀ k, k < 4 → parseFieldDescriptor (TX2 k).2.2.1 = some (tyX2 k) := by decide +kernel
abbrev cX2_init : ByteArray := prog_4_method_1_code
def yX2_init : MethodName := ⟨RX2, "<init>", "()V"⟩
abbrev cX2_become : ByteArray := prog_4_method_2_code
def yX2_become : MethodName := ⟨RX2, "become", "(LHarbourLights$Lights;)V"⟩
abbrev cX2_hasLight : ByteArray := prog_4_method_3_code
def yX2_hasLight : MethodName := ⟨RX2, "hasLight", "(I)Z"⟩
abbrev cX2_addAt : ByteArray := prog_4_method_4_code
def yX2_addAt : MethodName := ⟨RX2, "addAt", "(I)V"⟩
abbrev cX2_neighbours : ByteArray := prog_4_method_5_code
def yX2_neighbours : MethodName := ⟨RX2, "neighbours", "(II)I"⟩
abbrev cX2_litOnes : ByteArray := prog_4_method_6_code
def yX2_litOnes : MethodName := ⟨RX2, "litOnes", "()I"⟩
abbrev cX2_pairsSeenFrom : ByteArray := prog_4_method_7_code
def yX2_pairsSeenFrom : MethodName := ⟨RX2, "pairsSeenFrom", "(ILHarbourLights$Book;)J"⟩
abbrev cX2_pairsThatFlash : ByteArray := prog_4_method_8_code
def yX2_pairsThatFlash : MethodName := ⟨RX2, "pairsThatFlash", "(LHarbourLights$Book;)J"⟩
def RX3 : String := "HarbourLights$Machine"
def TX3 : u_T := fun k => match k with
  | 0 => ("HarbourLights$Machine", "sets", "[J", true)
  | 1 => ("HarbourLights$Machine", "nextSets", "[J", true)
  | 2 => ("HarbourLights$Machine", "size", "I", false)
  | 3 => ("HarbourLights$Machine", "beats", "I", false)
  | 4 => ("HarbourLights$Machine", "first", "J", false)
  | 5 => ("HarbourLights$Machine", "flashing", "J", false)
  | _ => ("HarbourLights$Machine", "lastShifts", "J", false)
def tyX3 : Nat → FieldType := fun k => match k with
  | 0 => .array .long
  | 1 => .array .long
  | 2 => .int
  | 3 => .int
  | 4 => .long
  | 5 => .long
  | _ => .long
theorem nmX3 : ∀ a, a < 7 → ∀ b, b < 7 → a ≠ b → (TX3 a).2.1 ≠ (TX3 b).2.1 := by decide +kernel
theorem tyX3_ok : ∀ k, k < 7 → parseFieldDescriptor (TX3 k).2.2.1 = some (tyX3 k) := by decide +kernel
abbrev cX3_init : ByteArray := prog_5_method_1_code
def yX3_init : MethodName := ⟨RX3, "<init>", "()V"⟩
abbrev cX3_prepare : ByteArray := prog_5_method_2_code
def yX3_prepare : MethodName := ⟨RX3, "prepare", "(LHarbourLights$Book;LHarbourLights$Lights;I)V"⟩
abbrev cX3_states : ByteArray := prog_5_method_3_code
def yX3_states : MethodName := ⟨RX3, "states", "()I"⟩
abbrev cX3_named : ByteArray := prog_5_method_4_code
def yX3_named : MethodName := ⟨RX3, "named", "()I"⟩
abbrev cX3_behind : ByteArray := prog_5_method_5_code
def yX3_behind : MethodName := ⟨RX3, "behind", "(JI)J"⟩
abbrev cX3_addIfNew : ByteArray := prog_5_method_6_code
def yX3_addIfNew : MethodName := ⟨RX3, "addIfNew", "(J)V"⟩
abbrev cX3_takeAnyBeat : ByteArray := prog_5_method_7_code
def yX3_takeAnyBeat : MethodName := ⟨RX3, "takeAnyBeat", "()V"⟩
abbrev cX3_allNameOneLight : ByteArray := prog_5_method_8_code
def yX3_allNameOneLight : MethodName := ⟨RX3, "allNameOneLight", "()Z"⟩
def RX4 : String := "HarbourLights$Planner"
def TX4 : u_T := fun k => match k with
  | 0 => ("HarbourLights$Planner", "fewest", "I", false)
  | 1 => ("HarbourLights$Planner", "best", "[I", true)
  | 2 => ("HarbourLights$Planner", "lights", "I", false)
  | 3 => ("HarbourLights$Planner", "rhythms", "I", false)
  | 4 => ("HarbourLights$Planner", "chosen", "[I", true)
  | 5 => ("HarbourLights$Planner", "neighbours", "[I", true)
  | _ => ("HarbourLights$Planner", "such", "[I", true)
def tyX4 : Nat → FieldType := fun k => match k with
  | 0 => .int
  | 1 => .array .int
  | 2 => .int
  | 3 => .int
  | 4 => .array .int
  | 5 => .array .int
  | _ => .array .int
theorem nmX4 : ∀ a, a < 7 → ∀ b, b < 7 → a ≠ b → (TX4 a).2.1 ≠ (TX4 b).2.1 := by decide +kernel
theorem tyX4_ok : ∀ k, k < 7 → parseFieldDescriptor (TX4 k).2.2.1 = some (tyX4 k) := by decide +kernel
abbrev cX4_init : ByteArray := prog_6_method_1_code
def yX4_init : MethodName := ⟨RX4, "<init>", "()V"⟩
abbrev cX4_makePlan : ByteArray := prog_6_method_2_code
def yX4_makePlan : MethodName := ⟨RX4, "makePlan", "(LHarbourLights$Book;LHarbourLights$Lights;I)Z"⟩
abbrev cX4_compareRhythms : ByteArray := prog_6_method_3_code
def yX4_compareRhythms : MethodName := ⟨RX4, "compareRhythms", "(LHarbourLights$Book;I)V"⟩
abbrev cX4_chooseFrom : ByteArray := prog_6_method_4_code
def yX4_chooseFrom : MethodName := ⟨RX4, "chooseFrom", "(II)I"⟩
abbrev cX4_refusedFor : ByteArray := prog_6_method_5_code
def yX4_refusedFor : MethodName := ⟨RX4, "refusedFor", "(I)I"⟩
abbrev cX4_greatestUnlikeSet : ByteArray := prog_6_method_6_code
def yX4_greatestUnlikeSet : MethodName := ⟨RX4, "greatestUnlikeSet", "(LHarbourLights$Book;I)I"⟩
abbrev cX4_isUnlike : ByteArray := prog_6_method_7_code
def yX4_isUnlike : MethodName := ⟨RX4, "isUnlike", "(I)Z"⟩
def RX5 : String := "HarbourLights$Tape"
def TX5 : u_T := fun k => match k with
  | 0 => ("HarbourLights$Tape", "here", "Z", false)
  | 1 => ("HarbourLights$Tape", "size", "I", false)
  | _ => ("HarbourLights$Tape", "numbers", "[I", true)
def tyX5 : Nat → FieldType := fun k => match k with
  | 0 => .boolean
  | 1 => .int
  | _ => .array .int
theorem nmX5 : ∀ a, a < 3 → ∀ b, b < 3 → a ≠ b → (TX5 a).2.1 ≠ (TX5 b).2.1 := by decide +kernel
theorem tyX5_ok : ∀ k, k < 3 → parseFieldDescriptor (TX5 k).2.2.1 = some (tyX5 k) := by decide +kernel
abbrev cX5_init : ByteArray := prog_7_method_1_code
def yX5_init : MethodName := ⟨RX5, "<init>", "()V"⟩
abbrev cX5_begin : ByteArray := prog_7_method_2_code
def yX5_begin : MethodName := ⟨RX5, "begin", "()V"⟩
abbrev cX5_vanish : ByteArray := prog_7_method_3_code
def yX5_vanish : MethodName := ⟨RX5, "vanish", "()V"⟩
abbrev cX5_addInFront : ByteArray := prog_7_method_4_code
def yX5_addInFront : MethodName := ⟨RX5, "addInFront", "(I)V"⟩
abbrev cX5_addBehind : ByteArray := prog_7_method_5_code
def yX5_addBehind : MethodName := ⟨RX5, "addBehind", "(I)V"⟩
abbrev cX5_takeFirst : ByteArray := prog_7_method_6_code
def yX5_takeFirst : MethodName := ⟨RX5, "takeFirst", "()I"⟩
abbrev cX5_takeLast : ByteArray := prog_7_method_7_code
def yX5_takeLast : MethodName := ⟨RX5, "takeLast", "()I"⟩
abbrev cX5_greatest : ByteArray := prog_7_method_8_code
def yX5_greatest : MethodName := ⟨RX5, "greatest", "()I"⟩
abbrev cX5_least : ByteArray := prog_7_method_9_code
def yX5_least : MethodName := ⟨RX5, "least", "()I"⟩
abbrev cX5_howMany : ByteArray := prog_7_method_10_code
def yX5_howMany : MethodName := ⟨RX5, "howMany", "(I)I"⟩
abbrev cX5_removeAll : ByteArray := prog_7_method_11_code
def yX5_removeAll : MethodName := ⟨RX5, "removeAll", "(I)I"⟩
def RX6 : String := "HarbourLights$Text"
def TX6 : u_T := fun k => match k with
  | 0 => ("HarbourLights$Text", "length", "I", false)
  | 1 => ("HarbourLights$Text", "clauses", "I", false)
  | 2 => ("HarbourLights$Text", "letters", "[I", true)
  | 3 => ("HarbourLights$Text", "begin", "I", false)
  | _ => ("HarbourLights$Text", "end", "I", false)
def tyX6 : Nat → FieldType := fun k => match k with
  | 0 => .int
  | 1 => .int
  | 2 => .array .int
  | 3 => .int
  | _ => .int
theorem nmX6 : ∀ a, a < 5 → ∀ b, b < 5 → a ≠ b → (TX6 a).2.1 ≠ (TX6 b).2.1 := by decide +kernel
theorem tyX6_ok : ∀ k, k < 5 → parseFieldDescriptor (TX6 k).2.2.1 = some (tyX6 k) := by decide +kernel
abbrev cX6_init : ByteArray := prog_8_method_1_code
def yX6_init : MethodName := ⟨RX6, "<init>", "()V"⟩
abbrev cX6_append : ByteArray := prog_8_method_2_code
def yX6_append : MethodName := ⟨RX6, "append", "(I)V"⟩
abbrev cX6_readInto : ByteArray := prog_8_method_3_code
def yX6_readInto : MethodName := ⟨RX6, "readInto", "(LHarbourLights$Book;)I"⟩
abbrev cX6_readClause : ByteArray := prog_8_method_4_code
def yX6_readClause : MethodName := ⟨RX6, "readClause", "(LHarbourLights$Book;)Z"⟩
abbrev cX6_readBeats : ByteArray := prog_8_method_5_code
def yX6_readBeats : MethodName := ⟨RX6, "readBeats", "(LHarbourLights$Book;)Z"⟩
abbrev cX6_readWindow : ByteArray := prog_8_method_6_code
def yX6_readWindow : MethodName := ⟨RX6, "readWindow", "(LHarbourLights$Book;)Z"⟩
abbrev cX6_readSight : ByteArray := prog_8_method_7_code
def yX6_readSight : MethodName := ⟨RX6, "readSight", "(LHarbourLights$Book;)Z"⟩
abbrev cX6_readRhythm : ByteArray := prog_8_method_8_code
def yX6_readRhythm : MethodName := ⟨RX6, "readRhythm", "(LHarbourLights$Book;)Z"⟩
abbrev cX6_readLight : ByteArray := prog_8_method_9_code
def yX6_readLight : MethodName := ⟨RX6, "readLight", "(LHarbourLights$Book;)Z"⟩
abbrev cX6_readLit : ByteArray := prog_8_method_10_code
def yX6_readLit : MethodName := ⟨RX6, "readLit", "(LHarbourLights$Book;)Z"⟩
abbrev cX6_readNumber : ByteArray := prog_8_method_11_code
def yX6_readNumber : MethodName := ⟨RX6, "readNumber", "(II)I"⟩
abbrev cX6_advance : ByteArray := prog_8_method_12_code
def yX6_advance : MethodName := ⟨RX6, "advance", "()V"⟩
abbrev cX6_isWord : ByteArray := prog_8_method_13_code
def yX6_isWord : MethodName := ⟨RX6, "isWord", "(Ljava/lang/String;)Z"⟩
abbrev cX6_isSmall : ByteArray := prog_8_method_14_code
def yX6_isSmall : MethodName := ⟨RX6, "isSmall", "(I)Z"⟩
abbrev cX6_isDigit : ByteArray := prog_8_method_15_code
def yX6_isDigit : MethodName := ⟨RX6, "isDigit", "(I)Z"⟩
def RX7 : String := "HarbourLights$Watch"
def TX7 : u_T := fun k => match k with
  | 0 => ("HarbourLights$Watch", "on", "Z", false)
  | 1 => ("HarbourLights$Watch", "missing", "Z", false)
  | 2 => ("HarbourLights$Watch", "pairs", "J", false)
  | 3 => ("HarbourLights$Watch", "missedOne", "J", false)
  | _ => ("HarbourLights$Watch", "turns", "I", false)
def tyX7 : Nat → FieldType := fun k => match k with
  | 0 => .boolean
  | 1 => .boolean
  | 2 => .long
  | 3 => .long
  | _ => .int
theorem nmX7 : ∀ a, a < 5 → ∀ b, b < 5 → a ≠ b → (TX7 a).2.1 ≠ (TX7 b).2.1 := by decide +kernel
theorem tyX7_ok : ∀ k, k < 5 → parseFieldDescriptor (TX7 k).2.2.1 = some (tyX7 k) := by decide +kernel
abbrev cX7_init : ByteArray := prog_9_method_1_code
def yX7_init : MethodName := ⟨RX7, "<init>", "()V"⟩
abbrev cX7_begin : ByteArray := prog_9_method_2_code
def yX7_begin : MethodName := ⟨RX7, "begin", "(JZ)V"⟩
abbrev cX7_end : ByteArray := prog_9_method_3_code
def yX7_end : MethodName := ⟨RX7, "end", "()V"⟩
abbrev cX7_size : ByteArray := prog_9_method_4_code
def yX7_size : MethodName := ⟨RX7, "size", "()I"⟩
abbrev cX7_lights : ByteArray := prog_9_method_5_code
def yX7_lights : MethodName := ⟨RX7, "lights", "()I"⟩
abbrev cX7_takeBeat : ByteArray := prog_9_method_6_code
def yX7_takeBeat : MethodName := ⟨RX7, "takeBeat", "(IJI)V"⟩
abbrev cX7_strikeOrForgive : ByteArray := prog_9_method_7_code
def yX7_strikeOrForgive : MethodName := ⟨RX7, "strikeOrForgive", "(JZ)V"⟩
abbrev cX7_shiftNow : ByteArray := prog_9_method_8_code
def yX7_shiftNow : MethodName := ⟨RX7, "shiftNow", "(II)I"⟩
abbrev cX7_pairAt : ByteArray := prog_9_method_9_code
def yX7_pairAt : MethodName := ⟨RX7, "pairAt", "(II)I"⟩
def RX8 : String := "HarbourLights"
def TX8 : u_T := fun k => match k with
  | 0 => ("HarbourLights", "text", "LHarbourLights$Text;", true)
  | 1 => ("HarbourLights", "told", "LHarbourLights$Book;", true)
  | 2 => ("HarbourLights", "heard", "LHarbourLights$Book;", true)
  | 3 => ("HarbourLights", "now", "LHarbourLights$Lights;", true)
  | 4 => ("HarbourLights", "done", "LHarbourLights$Done;", true)
  | 5 => ("HarbourLights", "keptFirst", "LHarbourLights$Lights;", true)
  | 6 => ("HarbourLights", "keptSecond", "LHarbourLights$Lights;", true)
  | 7 => ("HarbourLights", "planner", "LHarbourLights$Planner;", true)
  | 8 => ("HarbourLights", "watcher", "LHarbourLights$Machine;", true)
  | 9 => ("HarbourLights", "vigil", "LHarbourLights$Watch;", true)
  | _ => ("HarbourLights", "tapes", "[LHarbourLights$Tape;", true)
def tyX8 : Nat → FieldType := fun k => match k with
  | 0 => .object "HarbourLights$Text"
  | 1 => .object "HarbourLights$Book"
  | 2 => .object "HarbourLights$Book"
  | 3 => .object "HarbourLights$Lights"
  | 4 => .object "HarbourLights$Done"
  | 5 => .object "HarbourLights$Lights"
  | 6 => .object "HarbourLights$Lights"
  | 7 => .object "HarbourLights$Planner"
  | 8 => .object "HarbourLights$Machine"
  | 9 => .object "HarbourLights$Watch"
  | _ => .array (.object "HarbourLights$Tape")
theorem nmX8 : ∀ a, a < 11 → ∀ b, b < 11 → a ≠ b → (TX8 a).2.1 ≠ (TX8 b).2.1 := by decide +kernel
theorem tyX8_ok : ∀ k, k < 11 → parseFieldDescriptor (TX8 k).2.2.1 = some (tyX8 k) := by decide +kernel
abbrev cX8_init : ByteArray := prog_1_method_1_code
def yX8_init : MethodName := ⟨RX8, "<init>", "()V"⟩
abbrev cX8_write : ByteArray := prog_1_method_2_code
def yX8_write : MethodName := ⟨RX8, "write", "(I)I"⟩
abbrev cX8_erase : ByteArray := prog_1_method_3_code
def yX8_erase : MethodName := ⟨RX8, "erase", "()I"⟩
abbrev cX8_fault : ByteArray := prog_1_method_4_code
def yX8_fault : MethodName := ⟨RX8, "fault", "()I"⟩
abbrev cX8_office : ByteArray := prog_1_method_5_code
def yX8_office : MethodName := ⟨RX8, "office", "()I"⟩
abbrev cX8_forgetWhatWasDone : ByteArray := prog_1_method_6_code
def yX8_forgetWhatWasDone : MethodName := ⟨RX8, "forgetWhatWasDone", "()V"⟩
abbrev cX8_rhythm : ByteArray := prog_1_method_7_code
def yX8_rhythm : MethodName := ⟨RX8, "rhythm", "(II)I"⟩
abbrev cX8_light : ByteArray := prog_1_method_8_code
def yX8_light : MethodName := ⟨RX8, "light", "(II)I"⟩
abbrev cX8_clashing : ByteArray := prog_1_method_9_code
def yX8_clashing : MethodName := ⟨RX8, "clashing", "(I)I"⟩
abbrev cX8_like : ByteArray := prog_1_method_10_code
def yX8_like : MethodName := ⟨RX8, "like", "(III)I"⟩
abbrev cX8_lit : ByteArray := prog_1_method_11_code
def yX8_lit : MethodName := ⟨RX8, "lit", "(II)I"⟩
abbrev cX8_dark : ByteArray := prog_1_method_12_code
def yX8_dark : MethodName := ⟨RX8, "dark", "(I)I"⟩
abbrev cX8_move : ByteArray := prog_1_method_13_code
def yX8_move : MethodName := ⟨RX8, "move", "(II)I"⟩
abbrev cX8_prepareChange : ByteArray := prog_1_method_14_code
def yX8_prepareChange : MethodName := ⟨RX8, "prepareChange", "(I)V"⟩
abbrev cX8_undo : ByteArray := prog_1_method_15_code
def yX8_undo : MethodName := ⟨RX8, "undo", "()I"⟩
abbrev cX8_keep : ByteArray := prog_1_method_16_code
def yX8_keep : MethodName := ⟨RX8, "keep", "(I)I"⟩
abbrev cX8_back : ByteArray := prog_1_method_17_code
def yX8_back : MethodName := ⟨RX8, "back", "(I)I"⟩
abbrev cX8_keptAt : ByteArray := prog_1_method_18_code
def yX8_keptAt : MethodName := ⟨RX8, "keptAt", "(I)LHarbourLights$Lights;"⟩
abbrev cX8_plan : ByteArray := prog_1_method_19_code
def yX8_plan : MethodName := ⟨RX8, "plan", "(II)I"⟩
abbrev cX8_most : ByteArray := prog_1_method_20_code
def yX8_most : MethodName := ⟨RX8, "most", "(I)I"⟩
abbrev cX8_apart : ByteArray := prog_1_method_21_code
def yX8_apart : MethodName := ⟨RX8, "apart", "(II)I"⟩
abbrev cX8_machine : ByteArray := prog_1_method_22_code
def yX8_machine : MethodName := ⟨RX8, "machine", "(II)I"⟩
abbrev cX8_watch : ByteArray := prog_1_method_23_code
def yX8_watch : MethodName := ⟨RX8, "watch", "(II)I"⟩
abbrev cX8_see : ByteArray := prog_1_method_24_code
def yX8_see : MethodName := ⟨RX8, "see", "(I)I"⟩
abbrev cX8_left : ByteArray := prog_1_method_25_code
def yX8_left : MethodName := ⟨RX8, "left", "(II)I"⟩
abbrev cX8_tape : ByteArray := prog_1_method_26_code
def yX8_tape : MethodName := ⟨RX8, "tape", "(I)I"⟩
abbrev cX8_put : ByteArray := prog_1_method_27_code
def yX8_put : MethodName := ⟨RX8, "put", "(III)I"⟩
abbrev cX8_draw : ByteArray := prog_1_method_28_code
def yX8_draw : MethodName := ⟨RX8, "draw", "(II)I"⟩
abbrev cX8_turn : ByteArray := prog_1_method_29_code
def yX8_turn : MethodName := ⟨RX8, "turn", "(II)I"⟩
abbrev cX8_find : ByteArray := prog_1_method_30_code
def yX8_find : MethodName := ⟨RX8, "find", "(III)I"⟩
abbrev cX8_strike : ByteArray := prog_1_method_31_code
def yX8_strike : MethodName := ⟨RX8, "strike", "(II)I"⟩
abbrev cX8_load : ByteArray := prog_1_method_32_code
def yX8_load : MethodName := ⟨RX8, "load", "(III)I"⟩
abbrev cX8_drop : ByteArray := prog_1_method_33_code
def yX8_drop : MethodName := ⟨RX8, "drop", "(I)I"⟩
abbrev cX8_count : ByteArray := prog_1_method_34_code
def yX8_count : MethodName := ⟨RX8, "count", "(I)I"⟩
abbrev cX8_clashes : ByteArray := prog_1_method_35_code
def yX8_clashes : MethodName := ⟨RX8, "clashes", "()I"⟩
abbrev cX8_numbersOnTapes : ByteArray := prog_1_method_36_code
def yX8_numbersOnTapes : MethodName := ⟨RX8, "numbersOnTapes", "()I"⟩
abbrev cX8_tapeAt : ByteArray := prog_1_method_37_code
def yX8_tapeAt : MethodName := ⟨RX8, "tapeAt", "(I)LHarbourLights$Tape;"⟩
abbrev cX8_isPlace : ByteArray := prog_1_method_38_code
def yX8_isPlace : MethodName := ⟨RX8, "isPlace", "(I)Z"⟩
abbrev cX8_isEnd : ByteArray := prog_1_method_39_code
def yX8_isEnd : MethodName := ⟨RX8, "isEnd", "(I)Z"⟩
abbrev cX8_isNumber : ByteArray := prog_1_method_40_code
def yX8_isNumber : MethodName := ⟨RX8, "isNumber", "(I)Z"⟩
abbrev cX8_lightsIn : ByteArray := prog_1_method_41_code
def yX8_lightsIn : MethodName := ⟨RX8, "lightsIn", "(J)I"⟩
def RX9 : String := "HarbourLightsModel"
def TX9 : u_T := fun k => match k with
  | 0 => ("HarbourLightsModel", "row", "[I", true)
  | 1 => ("HarbourLightsModel", "beats", "I", false)
  | 2 => ("HarbourLightsModel", "window", "I", false)
  | 3 => ("HarbourLightsModel", "sight", "I", false)
  | 4 => ("HarbourLightsModel", "rhythms", "I", false)
  | 5 => ("HarbourLightsModel", "lights", "I", false)
  | 6 => ("HarbourLightsModel", "numbers", "[I", true)
  | 7 => ("HarbourLightsModel", "undos", "I", false)
  | 8 => ("HarbourLightsModel", "isKept", "[Z", true)
  | 9 => ("HarbourLightsModel", "text", "[I", true)
  | 10 => ("HarbourLightsModel", "length", "I", false)
  | 11 => ("HarbourLightsModel", "isWatched", "Z", false)
  | 12 => ("HarbourLightsModel", "mayMiss", "Z", false)
  | 13 => ("HarbourLightsModel", "isLeft", "[Z", true)
  | 14 => ("HarbourLightsModel", "shifts", "[I", true)
  | 15 => ("HarbourLightsModel", "hasMissed", "[Z", true)
  | 16 => ("HarbourLightsModel", "sizes", "[I", true)
  | 17 => ("HarbourLightsModel", "values", "[I", true)
  | 18 => ("HarbourLightsModel", "first", "I", false)
  | 19 => ("HarbourLightsModel", "behind", "I", false)
  | 20 => ("HarbourLightsModel", "readBeats", "I", false)
  | 21 => ("HarbourLightsModel", "readRhythms", "I", false)
  | 22 => ("HarbourLightsModel", "readLights", "I", false)
  | 23 => ("HarbourLightsModel", "clauses", "I", false)
  | 24 => ("HarbourLightsModel", "doing", "Z", false)
  | 25 => ("HarbourLightsModel", "read", "[I", true)
  | 26 => ("HarbourLightsModel", "beatsWord", "[I", true)
  | 27 => ("HarbourLightsModel", "windowWord", "[I", true)
  | 28 => ("HarbourLightsModel", "sightWord", "[I", true)
  | 29 => ("HarbourLightsModel", "rhythmWord", "[I", true)
  | 30 => ("HarbourLightsModel", "lightWord", "[I", true)
  | 31 => ("HarbourLightsModel", "litWord", "[I", true)
  | 32 => ("HarbourLightsModel", "bars", "[I", true)
  | 33 => ("HarbourLightsModel", "tried", "[I", true)
  | 34 => ("HarbourLightsModel", "planned", "[I", true)
  | 35 => ("HarbourLightsModel", "sets", "[J", true)
  | 36 => ("HarbourLightsModel", "level", "[J", true)
  | _ => ("HarbourLightsModel", "levelThen", "[J", true)
def tyX9 : Nat → FieldType := fun k => match k with
  | 0 => .array .int
  | 1 => .int
  | 2 => .int
  | 3 => .int
  | 4 => .int
  | 5 => .int
  | 6 => .array .int
  | 7 => .int
  | 8 => .array .boolean
  | 9 => .array .int
  | 10 => .int
  | 11 => .boolean
  | 12 => .boolean
  | 13 => .array .boolean
  | 14 => .array .int
  | 15 => .array .boolean
  | 16 => .array .int
  | 17 => .array .int
  | 18 => .int
  | 19 => .int
  | 20 => .int
  | 21 => .int
  | 22 => .int
  | 23 => .int
  | 24 => .boolean
  | 25 => .array .int
  | 26 => .array .int
  | 27 => .array .int
  | 28 => .array .int
  | 29 => .array .int
  | 30 => .array .int
  | 31 => .array .int
  | 32 => .array .int
  | 33 => .array .int
  | 34 => .array .int
  | 35 => .array .long
  | 36 => .array .long
  | _ => .array .long
theorem nmX9 : ∀ a, a < 38 → ∀ b, b < 38 → a ≠ b → (TX9 a).2.1 ≠ (TX9 b).2.1 := by decide +kernel
theorem tyX9_ok : ∀ k, k < 38 → parseFieldDescriptor (TX9 k).2.2.1 = some (tyX9 k) := by decide +kernel
abbrev cX9_init : ByteArray := prog_11_method_1_code
def yX9_init : MethodName := ⟨RX9, "<init>", "()V"⟩
abbrev cX9_in : ByteArray := prog_11_method_2_code
def yX9_in : MethodName := ⟨RX9, "in", "(JJJ)Z"⟩
abbrev cX9_has : ByteArray := prog_11_method_3_code
def yX9_has : MethodName := ⟨RX9, "has", "(II)Z"⟩
abbrev cX9_ones : ByteArray := prog_11_method_4_code
def yX9_ones : MethodName := ⟨RX9, "ones", "(I)I"⟩
abbrev cX9_copyRow : ByteArray := prog_11_method_5_code
def yX9_copyRow : MethodName := ⟨RX9, "copyRow", "(II)V"⟩
abbrev cX9_anew : ByteArray := prog_11_method_6_code
def yX9_anew : MethodName := ⟨RX9, "anew", "(I)V"⟩
abbrev cX9_write : ByteArray := prog_11_method_7_code
def yX9_write : MethodName := ⟨RX9, "write", "(I)I"⟩
abbrev cX9_erase : ByteArray := prog_11_method_8_code
def yX9_erase : MethodName := ⟨RX9, "erase", "()I"⟩
abbrev cX9_isLetter : ByteArray := prog_11_method_9_code
def yX9_isLetter : MethodName := ⟨RX9, "isLetter", "(I)Z"⟩
abbrev cX9_isDigit : ByteArray := prog_11_method_10_code
def yX9_isDigit : MethodName := ⟨RX9, "isDigit", "(I)Z"⟩
abbrev cX9_nextToken : ByteArray := prog_11_method_11_code
def yX9_nextToken : MethodName := ⟨RX9, "nextToken", "()V"⟩
abbrev cX9_isWord : ByteArray := prog_11_method_12_code
def yX9_isWord : MethodName := ⟨RX9, "isWord", "([I)Z"⟩
abbrev cX9_number : ByteArray := prog_11_method_13_code
def yX9_number : MethodName := ⟨RX9, "number", "(III)Z"⟩
abbrev cX9_readsBeats : ByteArray := prog_11_method_14_code
def yX9_readsBeats : MethodName := ⟨RX9, "readsBeats", "()Z"⟩
abbrev cX9_wordHere : ByteArray := prog_11_method_15_code
def yX9_wordHere : MethodName := ⟨RX9, "wordHere", "()I"⟩
abbrev cX9_readsRest : ByteArray := prog_11_method_16_code
def yX9_readsRest : MethodName := ⟨RX9, "readsRest", "(I)Z"⟩
abbrev cX9_does : ByteArray := prog_11_method_17_code
def yX9_does : MethodName := ⟨RX9, "does", "(I)V"⟩
abbrev cX9_readsClause : ByteArray := prog_11_method_18_code
def yX9_readsClause : MethodName := ⟨RX9, "readsClause", "()Z"⟩
abbrev cX9_reads : ByteArray := prog_11_method_19_code
def yX9_reads : MethodName := ⟨RX9, "reads", "(Z)Z"⟩
abbrev cX9_fault : ByteArray := prog_11_method_20_code
def yX9_fault : MethodName := ⟨RX9, "fault", "()I"⟩
abbrev cX9_office : ByteArray := prog_11_method_21_code
def yX9_office : MethodName := ⟨RX9, "office", "()I"⟩
abbrev cX9_isRhythm : ByteArray := prog_11_method_22_code
def yX9_isRhythm : MethodName := ⟨RX9, "isRhythm", "(I)Z"⟩
abbrev cX9_isLight : ByteArray := prog_11_method_23_code
def yX9_isLight : MethodName := ⟨RX9, "isLight", "(I)Z"⟩
abbrev cX9_beatOf : ByteArray := prog_11_method_24_code
def yX9_beatOf : MethodName := ⟨RX9, "beatOf", "(II)I"⟩
abbrev cX9_rowOf : ByteArray := prog_11_method_25_code
def yX9_rowOf : MethodName := ⟨RX9, "rowOf", "(III)I"⟩
abbrev cX9_flashes : ByteArray := prog_11_method_26_code
def yX9_flashes : MethodName := ⟨RX9, "flashes", "(I)I"⟩
abbrev cX9_leastTurn : ByteArray := prog_11_method_27_code
def yX9_leastTurn : MethodName := ⟨RX9, "leastTurn", "(I)I"⟩
abbrev cX9_repeats : ByteArray := prog_11_method_28_code
def yX9_repeats : MethodName := ⟨RX9, "repeats", "(I)I"⟩
abbrev cX9_rhythm : ByteArray := prog_11_method_29_code
def yX9_rhythm : MethodName := ⟨RX9, "rhythm", "(II)I"⟩
abbrev cX9_isDimmed : ByteArray := prog_11_method_30_code
def yX9_isDimmed : MethodName := ⟨RX9, "isDimmed", "(II)Z"⟩
abbrev cX9_areLike : ByteArray := prog_11_method_31_code
def yX9_areLike : MethodName := ⟨RX9, "areLike", "(IIIZ)Z"⟩
abbrev cX9_like : ByteArray := prog_11_method_32_code
def yX9_like : MethodName := ⟨RX9, "like", "(III)I"⟩
abbrev cX9_areNeighbours : ByteArray := prog_11_method_33_code
def yX9_areNeighbours : MethodName := ⟨RX9, "areNeighbours", "(II)Z"⟩
abbrev cX9_doClash : ByteArray := prog_11_method_34_code
def yX9_doClash : MethodName := ⟨RX9, "doClash", "(II)Z"⟩
abbrev cX9_thoseOf : ByteArray := prog_11_method_35_code
def yX9_thoseOf : MethodName := ⟨RX9, "thoseOf", "(IZ)I"⟩
abbrev cX9_light : ByteArray := prog_11_method_36_code
def yX9_light : MethodName := ⟨RX9, "light", "(II)I"⟩
abbrev cX9_become : ByteArray := prog_11_method_37_code
def yX9_become : MethodName := ⟨RX9, "become", "(II)V"⟩
abbrev cX9_lit : ByteArray := prog_11_method_38_code
def yX9_lit : MethodName := ⟨RX9, "lit", "(II)I"⟩
abbrev cX9_dark : ByteArray := prog_11_method_39_code
def yX9_dark : MethodName := ⟨RX9, "dark", "(I)I"⟩
abbrev cX9_move : ByteArray := prog_11_method_40_code
def yX9_move : MethodName := ⟨RX9, "move", "(II)I"⟩
abbrev cX9_undo : ByteArray := prog_11_method_41_code
def yX9_undo : MethodName := ⟨RX9, "undo", "()I"⟩
abbrev cX9_litOnes : ByteArray := prog_11_method_42_code
def yX9_litOnes : MethodName := ⟨RX9, "litOnes", "()I"⟩
abbrev cX9_keep : ByteArray := prog_11_method_43_code
def yX9_keep : MethodName := ⟨RX9, "keep", "(I)I"⟩
abbrev cX9_back : ByteArray := prog_11_method_44_code
def yX9_back : MethodName := ⟨RX9, "back", "(I)I"⟩
abbrev cX9_layBars : ByteArray := prog_11_method_45_code
def yX9_layBars : MethodName := ⟨RX9, "layBars", "(Z)V"⟩
abbrev cX9_isPlan : ByteArray := prog_11_method_46_code
def yX9_isPlan : MethodName := ⟨RX9, "isPlan", "()Z"⟩
abbrev cX9_layPlan : ByteArray := prog_11_method_47_code
def yX9_layPlan : MethodName := ⟨RX9, "layPlan", "(Z)I"⟩
abbrev cX9_plan : ByteArray := prog_11_method_48_code
def yX9_plan : MethodName := ⟨RX9, "plan", "(II)I"⟩
abbrev cX9_most : ByteArray := prog_11_method_49_code
def yX9_most : MethodName := ⟨RX9, "most", "(I)I"⟩
abbrev cX9_apart : ByteArray := prog_11_method_50_code
def yX9_apart : MethodName := ⟨RX9, "apart", "(II)I"⟩
abbrev cX9_firstSet : ByteArray := prog_11_method_51_code
def yX9_firstSet : MethodName := ⟨RX9, "firstSet", "(I)J"⟩
abbrev cX9_becomes : ByteArray := prog_11_method_52_code
def yX9_becomes : MethodName := ⟨RX9, "becomes", "(JI)J"⟩
abbrev cX9_statesOf : ByteArray := prog_11_method_53_code
def yX9_statesOf : MethodName := ⟨RX9, "statesOf", "(I)I"⟩
abbrev cX9_isOfOne : ByteArray := prog_11_method_54_code
def yX9_isOfOne : MethodName := ⟨RX9, "isOfOne", "(J)Z"⟩
abbrev cX9_namedAt : ByteArray := prog_11_method_55_code
def yX9_namedAt : MethodName := ⟨RX9, "namedAt", "(I)I"⟩
abbrev cX9_machine : ByteArray := prog_11_method_56_code
def yX9_machine : MethodName := ⟨RX9, "machine", "(II)I"⟩
abbrev cX9_pairsLeft : ByteArray := prog_11_method_57_code
def yX9_pairsLeft : MethodName := ⟨RX9, "pairsLeft", "()I"⟩
abbrev cX9_watch : ByteArray := prog_11_method_58_code
def yX9_watch : MethodName := ⟨RX9, "watch", "(II)I"⟩
abbrev cX9_seePair : ByteArray := prog_11_method_59_code
def yX9_seePair : MethodName := ⟨RX9, "seePair", "(II)V"⟩
abbrev cX9_see : ByteArray := prog_11_method_60_code
def yX9_see : MethodName := ⟨RX9, "see", "(I)I"⟩
abbrev cX9_left : ByteArray := prog_11_method_61_code
def yX9_left : MethodName := ⟨RX9, "left", "(II)I"⟩
abbrev cX9_isTape : ByteArray := prog_11_method_62_code
def yX9_isTape : MethodName := ⟨RX9, "isTape", "(I)Z"⟩
abbrev cX9_isNumber : ByteArray := prog_11_method_63_code
def yX9_isNumber : MethodName := ⟨RX9, "isNumber", "(I)Z"⟩
abbrev cX9_tape : ByteArray := prog_11_method_64_code
def yX9_tape : MethodName := ⟨RX9, "tape", "(I)I"⟩
abbrev cX9_putAt : ByteArray := prog_11_method_65_code
def yX9_putAt : MethodName := ⟨RX9, "putAt", "(III)V"⟩
abbrev cX9_drawAt : ByteArray := prog_11_method_66_code
def yX9_drawAt : MethodName := ⟨RX9, "drawAt", "(II)I"⟩
abbrev cX9_put : ByteArray := prog_11_method_67_code
def yX9_put : MethodName := ⟨RX9, "put", "(III)I"⟩
abbrev cX9_draw : ByteArray := prog_11_method_68_code
def yX9_draw : MethodName := ⟨RX9, "draw", "(II)I"⟩
abbrev cX9_turn : ByteArray := prog_11_method_69_code
def yX9_turn : MethodName := ⟨RX9, "turn", "(II)I"⟩
abbrev cX9_find : ByteArray := prog_11_method_70_code
def yX9_find : MethodName := ⟨RX9, "find", "(III)I"⟩
abbrev cX9_strike : ByteArray := prog_11_method_71_code
def yX9_strike : MethodName := ⟨RX9, "strike", "(II)I"⟩
abbrev cX9_load : ByteArray := prog_11_method_72_code
def yX9_load : MethodName := ⟨RX9, "load", "(III)I"⟩
abbrev cX9_drop : ByteArray := prog_11_method_73_code
def yX9_drop : MethodName := ⟨RX9, "drop", "(I)I"⟩
abbrev cX9_clashes : ByteArray := prog_11_method_74_code
def yX9_clashes : MethodName := ⟨RX9, "clashes", "()I"⟩
abbrev cX9_allNumbers : ByteArray := prog_11_method_75_code
def yX9_allNumbers : MethodName := ⟨RX9, "allNumbers", "()I"⟩
abbrev cX9_count : ByteArray := prog_11_method_76_code
def yX9_count : MethodName := ⟨RX9, "count", "(I)I"⟩
def RJ6 : String := "java/lang/Integer"
def TJ6 : u_T := fun k => match k with
  | _ => ("", "", "", false)
def tyJ6 : Nat → FieldType := fun k => match k with
  | _ => .int
theorem nmJ6 : ∀ a, a < 0 → ∀ b, b < 0 → a ≠ b → (TJ6 a).2.1 ≠ (TJ6 b).2.1 := by decide +kernel
theorem tyJ6_ok : ∀ k, k < 0 → parseFieldDescriptor (TJ6 k).2.2.1 = some (tyJ6 k) := by decide +kernel
abbrev cJ6_bitCount_0f7a4 : ByteArray := prog_12_method_49_code
def yJ6_bitCount_0f7a4 : MethodName := ⟨RJ6, "bitCount", "(I)I"⟩
def RJ13 : String := "java/lang/Long"
def TJ13 : u_T := fun k => match k with
  | _ => ("", "", "", false)
def tyJ13 : Nat → FieldType := fun k => match k with
  | _ => .int
theorem nmJ13 : ∀ a, a < 0 → ∀ b, b < 0 → a ≠ b → (TJ13 a).2.1 ≠ (TJ13 b).2.1 := by decide +kernel
theorem tyJ13_ok : ∀ k, k < 0 → parseFieldDescriptor (TJ13 k).2.2.1 = some (tyJ13 k) := by decide +kernel
abbrev cJ13_bitCount_95d88 : ByteArray := prog_13_method_50_code
def yJ13_bitCount_95d88 : MethodName := ⟨RJ13, "bitCount", "(J)I"⟩
def RJ9 : String := "java/lang/Math"
def TJ9 : u_T := fun k => match k with
  | _ => ("", "", "", false)
def tyJ9 : Nat → FieldType := fun k => match k with
  | _ => .int
theorem nmJ9 : ∀ a, a < 0 → ∀ b, b < 0 → a ≠ b → (TJ9 a).2.1 ≠ (TJ9 b).2.1 := by decide +kernel
theorem tyJ9_ok : ∀ k, k < 0 → parseFieldDescriptor (TJ9 k).2.2.1 = some (tyJ9 k) := by decide +kernel
abbrev cJ9_abs_0f7a4 : ByteArray := prog_14_method_59_code
def yJ9_abs_0f7a4 : MethodName := ⟨RJ9, "abs", "(I)I"⟩
abbrev cJ9_max_7cf53 : ByteArray := prog_14_method_65_code
def yJ9_max_7cf53 : MethodName := ⟨RJ9, "max", "(II)I"⟩
abbrev cJ9_min_7cf53 : ByteArray := prog_14_method_69_code
def yJ9_min_7cf53 : MethodName := ⟨RJ9, "min", "(II)I"⟩
def RJ0 : String := "java/lang/String"
def TJ0 : u_T := fun k => match k with
  | _ => ("", "", "", false)
def tyJ0 : Nat → FieldType := fun k => match k with
  | _ => .int
theorem nmJ0 : ∀ a, a < 0 → ∀ b, b < 0 → a ≠ b → (TJ0 a).2.1 ≠ (TJ0 b).2.1 := by decide +kernel
theorem tyJ0_ok : ∀ k, k < 0 → parseFieldDescriptor (TJ0 k).2.2.1 = some (tyJ0 k) := by decide +kernel
abbrev cJ0_length_8abf5 : ByteArray := prog_15_method_54_code
def yJ0_length_8abf5 : MethodName := ⟨RJ0, "length", "()I"⟩
abbrev cJ0_charAt_5068e : ByteArray := prog_15_method_56_code
def yJ0_charAt_5068e : MethodName := ⟨RJ0, "charAt", "(I)C"⟩
abbrev cJ0_coder_7d493 : ByteArray := prog_15_method_152_code
def yJ0_coder_7d493 : MethodName := ⟨RJ0, "coder", "()B"⟩
abbrev cJ0_isLatin1_aae02 : ByteArray := prog_15_method_154_code
def yJ0_isLatin1_aae02 : MethodName := ⟨RJ0, "isLatin1", "()Z"⟩
abbrev cJ0_checkIndex_df160 : ByteArray := prog_15_method_155_code
def yJ0_checkIndex_df160 : MethodName := ⟨RJ0, "checkIndex", "(II)V"⟩
def RJ1 : String := "java/lang/StringLatin1"
def TJ1 : u_T := fun k => match k with
  | _ => ("", "", "", false)
def tyJ1 : Nat → FieldType := fun k => match k with
  | _ => .int
theorem nmJ1 : ∀ a, a < 0 → ∀ b, b < 0 → a ≠ b → (TJ1 a).2.1 ≠ (TJ1 b).2.1 := by decide +kernel
theorem tyJ1_ok : ∀ k, k < 0 → parseFieldDescriptor (TJ1 k).2.2.1 = some (tyJ1 k) := by decide +kernel
abbrev cJ1_charAt_3b067 : ByteArray := prog_16_method_2_code
def yJ1_charAt_3b067 : MethodName := ⟨RJ1, "charAt", "([BI)C"⟩
def RJ2 : String := "java/lang/StringUTF16"
def TJ2 : u_T := fun k => match k with
  | _ => ("", "", "", false)
def tyJ2 : Nat → FieldType := fun k => match k with
  | _ => .int
theorem nmJ2 : ∀ a, a < 0 → ∀ b, b < 0 → a ≠ b → (TJ2 a).2.1 ≠ (TJ2 b).2.1 := by decide +kernel
theorem tyJ2_ok : ∀ k, k < 0 → parseFieldDescriptor (TJ2 k).2.2.1 = some (tyJ2 k) := by decide +kernel
abbrev cJ2_getChar_3b067 : ByteArray := prog_17_method_5_code
def yJ2_getChar_3b067 : MethodName := ⟨RJ2, "getChar", "([BI)C"⟩
abbrev cJ2_length_9d52b : ByteArray := prog_17_method_6_code
def yJ2_length_9d52b : MethodName := ⟨RJ2, "length", "([B)I"⟩
abbrev cJ2_charAt_3b067 : ByteArray := prog_17_method_83_code
def yJ2_charAt_3b067 : MethodName := ⟨RJ2, "charAt", "([BI)C"⟩
abbrev cJ2_checkIndex_2214a : ByteArray := prog_17_method_91_code
def yJ2_checkIndex_2214a : MethodName := ⟨RJ2, "checkIndex", "(I[B)V"⟩
def RJ10 : String := "java/lang/System"
def TJ10 : u_T := fun k => match k with
  | _ => ("", "", "", false)
def tyJ10 : Nat → FieldType := fun k => match k with
  | _ => .int
theorem nmJ10 : ∀ a, a < 0 → ∀ b, b < 0 → a ≠ b → (TJ10 a).2.1 ≠ (TJ10 b).2.1 := by decide +kernel
theorem tyJ10_ok : ∀ k, k < 0 → parseFieldDescriptor (TJ10 k).2.2.1 = some (tyJ10 k) := by decide +kernel
def RJ3 : String := "jdk/internal/util/Preconditions"
def TJ3 : u_T := fun k => match k with
  | _ => ("", "", "", false)
def tyJ3 : Nat → FieldType := fun k => match k with
  | _ => .int
theorem nmJ3 : ∀ a, a < 0 → ∀ b, b < 0 → a ≠ b → (TJ3 a).2.1 ≠ (TJ3 b).2.1 := by decide +kernel
theorem tyJ3_ok : ∀ k, k < 0 → parseFieldDescriptor (TJ3 k).2.2.1 = some (tyJ3 k) := by decide +kernel
abbrev cJ3_checkIndex_8e157 : ByteArray := prog_19_method_11_code
def yJ3_checkIndex_8e157 : MethodName := ⟨RJ3, "checkIndex", "(IILjava/util/function/BiFunction;)I"⟩
def RL : String := "HarbourLightsLaw"
abbrev cL_law : ByteArray := code
def yL_law : MethodName := ⟨RL, "law", "([I)Z"⟩
end
section
/-! BASE: an abstract memory over the kit's worlds. Every object and array of the run has a fixed abstract address (a small number); ints and longs live in two plain functions. -/
abbrev Md : Type := MethodName × ByteArray × Nat × Option FieldType
abbrev Mm : Type := (Nat → Nat → Int32) × (Nat → Nat → Int64)
abbrev Gm : Type := va_G × (Nat → Nat) × (Nat → ClassId)
abbrev Shp : Type := (Nat × Nat × List Nat) ⊕ (Nat × List (Nat ⊕ Bool))
abbrev classes : List vw_C := [(RX0, TX0, 6), (RX1, TX1, 4), (RX2, TX2, 4), (RX3, TX3, 7), (RX4, TX4, 7), (RX5, TX5, 3), (RX6, TX6, 5), (RX7, TX7, 5), (RX8, TX8, 11), (RX9, TX9, 38)]
abbrev shpLi : List (Nat ⊕ Bool) := [.inr false, .inr false, .inr false, .inr false]
def shpL : List Shp := [
  .inr (8, [.inl 1, .inl 3, .inl 8, .inl 13, .inl 22, .inl 16, .inl 19, .inl 26, .inl 31, .inl 34, .inl 35]),
  .inr (6, [.inr false, .inr false, .inl 2, .inr false, .inr false]), .inl (0, 200, []),
  .inr (0, [.inr false, .inr false, .inr false, .inr false, .inl 4, .inl 5]), .inl (0, 8, []), .inr (2, [.inr false, .inl 6, .inl 7, .inr false]), .inl (0, 6, []), .inl (0, 6, []),
  .inr (0, [.inr false, .inr false, .inr false, .inr false, .inl 9, .inl 10]), .inl (0, 8, []), .inr (2, [.inr false, .inl 11, .inl 12, .inr false]), .inl (0, 6, []), .inl (0, 6, []),
  .inr (2, [.inr false, .inl 14, .inl 15, .inr false]), .inl (0, 6, []), .inl (0, 6, []),
  .inr (2, [.inr false, .inl 17, .inl 18, .inr false]), .inl (0, 6, []), .inl (0, 6, []),
  .inr (2, [.inr false, .inl 20, .inl 21, .inr false]), .inl (0, 6, []), .inl (0, 6, []),
  .inr (1, [.inr false, .inl 23, .inl 24, .inl 25]), .inl (0, 8, []), .inl (0, 8, []), .inl (0, 8, []),
  .inr (4, [.inr false, .inl 27, .inr false, .inr false, .inl 28, .inl 29, .inl 30]), .inl (0, 6, []), .inl (0, 6, []), .inl (0, 6, []), .inl (0, 8, []),
  .inr (3, [.inl 32, .inl 33, .inr false, .inr false, .inr true, .inr true, .inr true]), .inl (1, 256, []), .inl (1, 48, []),
  .inr (7, [.inr false, .inr false, .inr true, .inr true, .inr false]),
  .inl (3, 3, [36, 38, 40]),
  .inr (5, [.inr false, .inr false, .inl 37]), .inl (0, 12, []), .inr (5, [.inr false, .inr false, .inl 39]), .inl (0, 12, []), .inr (5, [.inr false, .inr false, .inl 41]), .inl (0, 12, []),
  .inr (9, [.inl 43, .inr false, .inr false, .inr false, .inr false, .inr false, .inl 44, .inr false, .inl 45, .inl 46, .inr false, .inr false, .inr false, .inl 47, .inl 48, .inl 49, .inl 50, .inl 51, .inr false, .inr false, .inr false, .inr false, .inr false, .inr false, .inr false, .inl 52, .inl 53, .inl 54, .inl 55, .inl 56, .inl 57, .inl 58, .inl 59, .inl 60, .inl 61, .inl 62, .inl 63, .inl 64]),
  .inl (0, 144, []), .inl (0, 8, []), .inl (2, 2, []), .inl (0, 200, []), .inl (2, 48, []), .inl (0, 48, []), .inl (2, 48, []), .inl (0, 3, []), .inl (0, 36, []), .inl (0, 2, []),
  .inl (0, 5, []), .inl (0, 6, []), .inl (0, 5, []), .inl (0, 6, []), .inl (0, 5, []), .inl (0, 3, []), .inl (0, 8, []), .inl (0, 6, []), .inl (0, 6, []), .inl (1, 640, []), .inl (1, 128, []), .inl (1, 128, [])]
abbrev NSH : Nat := 65
def shp (i : Nat) : Shp := shpL.getD i (.inl (0, 0, []))
def aty : Nat → FieldType
  | 0 => .int
  | 1 => .long
  | 2 => .boolean
  | _ => .object "HarbourLights$Tape"
def cvv (ro : Nat → Nat) : Value → Value
  | .ref a => .ref (ro a)
  | v => v
def sv (G : Gm) (M : Mm) (i j : Nat) : Nat ⊕ Bool → Value
  | .inl a => .ref (G.2.1 a)
  | .inr false => .int (M.1 i j)
  | .inr true => .long (M.2 i j)
def wA (G : Gm) (M : Mm) (i t n : Nat) (rs : List Nat) : vp_A := match t with
  | 0 => (n, .inl (M.1 i))
  | 1 => (n, .inr (.inl (M.2 i)))
  | 2 => (n, .inl (M.1 i))
  | _ => (n, .inr (.inr (.inr (.inr (fun j => (rs[j]?).map G.2.1)))))
def wE (G : Gm) (M : Mm) (i : Nat) : va_E := match shp i with
  | .inl (t, n, rs) => .inl (G.2.2 i, wA G M i t n rs)
  | .inr (ci, ks) => .inr (ci, ks.mapIdx (sv G M i))
def wW (G : Gm) (M : Mm) : va_W := (List.range NSH).map (fun i => (G.2.1 i, wE G M i))
def DD (G : Gm) : Prop := ∀ i j, i < NSH → j < NSH → G.2.1 i = G.2.1 j → i = j
def FA (G : Gm) : Nat → Prop := fun q => ∃ i, i < NSH ∧ q = G.2.1 i
def wI (M : Mm) (a j : Nat) (x : Int32) : Mm := (fun a' j' => if a' = a ∧ j' = j then x else M.1 a' j', M.2)
def wL (M : Mm) (a j : Nat) (x : Int64) : Mm := (M.1, fun a' j' => if a' = a ∧ j' = j then x else M.2 a' j')
def cpI (M : Mm) (sa sp da dp n : Nat) : Mm := (fun a' j' => if a' = da then va_cpy (M.1 sa) (M.1 da) sp dp n j' else M.1 a' j', M.2)
def cpL (M : Mm) (sa sp da dp n : Nat) : Mm := (M.1, fun a' j' => if a' = da then va_cpy (M.2 sa) (M.2 da) sp dp n j' else M.2 a' j')
theorem wW_get (G : Gm) (M : Mm) {a : Nat} (h : a < NSH) : (wW G M)[a]? = some (G.2.1 a, wE G M a) := by
  rw [wW, List.getElem?_map, List.getElem?_range h]; rfl
theorem wW_inv {G : Gm} {M : Mm} {k : Nat} {q : Nat × va_E} (h : (wW G M)[k]? = some q) : k < NSH ∧ q = (G.2.1 k, wE G M k) := by
  have hl : k < (wW G M).length := (List.getElem?_eq_some_iff.mp h).1
  have hk : k < NSH := by simpa [wW] using hl
  rw [wW_get G M hk] at h
  exact ⟨hk, (Option.some.inj h).symm⟩
theorem wW_set {G : Gm} {M M' : Mm} {a : Nat} {e : va_E} (ha : a < NSH) (he : e = wE G M' a) (h : ∀ i, i ≠ a → wE G M' i = wE G M i) : (wW G M).set a (G.2.1 a, e) = wW G M' := by
  apply List.ext_getElem?
  intro k
  by_cases hk : k = a
  · subst hk
    rw [List.getElem?_set_self (by simpa [wW] using ha), wW_get G M' ha, he]
  · rw [List.getElem?_set_ne (Ne.symm hk)]
    by_cases hl : k < NSH
    · rw [wW_get G M hl, wW_get G M' hl, h k hk]
    · rw [List.getElem?_eq_none (by simp [wW]; omega), List.getElem?_eq_none (by simp [wW]; omega)]
theorem wW_D {G : Gm} {M : Mm} {A : Nat → Prop} (hD : DD G) (hA : ∀ i, i < NSH → A (G.2.1 i)) : va_D A (wW G M) := by
  refine ⟨fun i j p q hi hj hpq => ?_, fun k q hk => ?_⟩
  · obtain ⟨h1, rfl⟩ := wW_inv hi
    obtain ⟨h2, rfl⟩ := wW_inv hj
    exact hD i j h1 h2 hpq
  · obtain ⟨h1, rfl⟩ := wW_inv hk
    exact hA k h1
theorem wE_off {G : Gm} {M M' : Mm} {i : Nat} (h1 : M'.1 i = M.1 i) (h2 : M'.2 i = M.2 i) : wE G M' i = wE G M i := by
  have hs : sv G M' i = sv G M i := by
    funext j k
    rcases k with a | b
    · rfl
    · cases b
      · show Value.int (M'.1 i j) = Value.int (M.1 i j); rw [h1]
      · show Value.long (M'.2 i j) = Value.long (M.2 i j); rw [h2]
  have ha : ∀ t n rs, wA G M' i t n rs = wA G M i t n rs := by
    intro t n rs
    unfold wA
    rw [h1, h2]
  unfold wE
  rw [hs]
  split
  · rw [ha]
  · rfl
theorem wI_ne {M : Mm} {a j i : Nat} {x : Int32} (h : i ≠ a) : (wI M a j x).1 i = M.1 i := by
  funext k; simp [wI, h]
theorem wI_eq {M : Mm} {a j : Nat} {x : Int32} : (wI M a j x).1 a = upd (M.1 a) j x := by
  funext k; simp [wI, upd]
theorem wL_ne {M : Mm} {a j i : Nat} {x : Int64} (h : i ≠ a) : (wL M a j x).2 i = M.2 i := by
  funext k; simp [wL, h]
theorem wL_eq {M : Mm} {a j : Nat} {x : Int64} : (wL M a j x).2 a = vp_updL (M.2 a) j x := by
  funext k; simp [wL, vp_updL]
/-! what the tables say, as it rides through every call -/
def GW : List Cond := lw_tbl.filter goodWord
theorem inGW {w : Cond} (h : w ∈ lw_tbl) (hg : goodWord w = true) : w ∈ GW := List.mem_filter.mpr ⟨h, hg⟩
def strL : List (String × Nat × String) := [(RX6, 35, "beats"), (RX6, 44, "window"), (RX6, 49, "sight"), (RX6, 54, "rhythm"), (RX6, 64, "light"), (RX6, 76, "lit")]
def strN : List Nat := [5, 6, 5, 6, 5, 3]
def strB : List (List Int32) := [[98, 101, 97, 116, 115], [119, 105, 110, 100, 111, 119], [115, 105, 103, 104, 116], [114, 104, 121, 116, 104, 109], [108, 105, 103, 104, 116], [108, 105, 116]]
def KS (G : Gm) (A : Nat → Prop) (U : State) (H : Heap) : Prop :=
  vk_S 6 strN strB (fun i => G.2.1 (1000 + i)) (fun i => G.2.1 (2000 + i)) A U H ∧ (∀ (i : Nat) (q : String × Nat × String), strL[i]? = some q → vk_R q.1 q.2.1 q.2.2 (G.2.1 (1000 + i)) U) ∧ va_Z "java/lang/String" "COMPACT_STRINGS" "Z" (.int 1) A U H ∧ va_Zq "jdk/internal/util/Preconditions" "SIOOBE_FORMATTER" "Ljava/util/function/BiFunction;" A U H
def KK (G : Gm) (A : Nat → Prop) (U : State) (H : Heap) : Prop :=
  (∀ (cn : Nat) (q : vw_C), classes[cn]? = some q → u_Kn U q.1 q.2.1 q.2.2 (G.1.1 cn) (G.1.2 cn)) ∧ (∀ i t n rs, shp i = .inl (t, n, rs) → i < NSH → ArrOfT U (G.2.2 i) (aty t) ∧ va_RA U (G.2.2 i) (aty t)) ∧ va_Nw (.methodLinkNest RX3 71 yX8_lightsIn RX8) U ∧ va_Nw (.methodLinkNest RX7 35 yX8_lightsIn RX8) U ∧ KS G A U H
theorem KK.K {G : Gm} {A : Nat → Prop} {U : State} {H : Heap} (h : KK G A U H) : va_K G.1 classes [] U := ⟨h.1, fun k q hk => by simp at hk⟩
theorem KK.KA {G : Gm} {A : Nat → Prop} {U : State} {H : Heap} (h : KK G A U H) {i t n : Nat} {rs : List Nat} (hs : shp i = .inl (t, n, rs)) (hi : i < NSH) : va_K G.1 classes [(G.2.2 i, aty t)] U := by
  refine ⟨h.1, fun k q hk => ?_⟩
  match k, hk with
  | 0, hk => cases hk; exact h.2.1 i t n rs hs hi
  | k + 1, hk => simp at hk
theorem KK.KA2 {G : Gm} {A : Nat → Prop} {U : State} {H : Heap} (h : KK G A U H) {i t n : Nat} {rs : List Nat} (hs : shp i = .inl (t, n, rs)) (hi : i < NSH) {i2 n2 : Nat} {rs2 : List Nat} (hs2 : shp i2 = .inl (t, n2, rs2)) (hi2 : i2 < NSH) : va_K G.1 classes [(G.2.2 i, aty t), (G.2.2 i2, aty t)] U := by
  refine ⟨h.1, fun k q hk => ?_⟩
  match k, hk with
  | 0, hk => cases hk; exact h.2.1 i t n rs hs hi
  | 1, hk => cases hk; exact h.2.1 i2 t n2 rs2 hs2 hi2
  | k + 2, hk => simp at hk
theorem KS.go {G : Gm} {A B : Nat → Prop} {s U : State} {H0 H : Heap} (h : KS G A s H0) (hW : s.WarmedH U.vm) (hAB : ∀ q, B q → A q) (hk : ∀ a : Nat, a < H0.size → ¬ A a → H[a]? = H0[a]?) : KS G B U H := by
  obtain ⟨h1, h2, h3, h4⟩ := h
  refine ⟨((h1.kept hk).moved hW.alike).narrow hAB, fun i q hq => (h2 i q hq).warm hW, ((h3.kept hk).moved hW.alike).narrow hAB, ((h4.kept hk).moved hW.alike).narrow hAB⟩
theorem KK.go {G : Gm} {A B : Nat → Prop} {s U : State} {H0 H : Heap} (h : KK G A s H0) (hW : s.WarmedH U.vm) (hAB : ∀ q, B q → A q) (hk : ∀ a : Nat, a < H0.size → ¬ A a → H[a]? = H0[a]?) : KK G B U H := by
  obtain ⟨h1, h2, h3, h4, h5⟩ := h
  exact ⟨fun cn q hq => u_Kn_moved hW.alike (h1 cn q hq), fun i t n rs hs hi => ⟨arrOfT_moved hW.alike (h2 i t n rs hs hi).1, (h2 i t n rs hs hi).2.moved hW.alike⟩, va_Nw.warmM hW h3, va_Nw.warmM hW h4, h5.go hW hAB hk⟩
theorem KK.same {G : Gm} {A : Nat → Prop} {u U : State} {H : Heap} (h : KK G A u H) (hv : U.vm = u.vm) : KK G A U H := by
  have hvm : u.vm.Alike U.vm := by rw [hv]; exact Vm.Alike.refl _
  obtain ⟨h1, h2, h3, h4, h5, h6, h7, h8⟩ := h
  exact ⟨fun cn q hq => u_Kn_moved hvm (h1 cn q hq), fun i t n rs hs hi => ⟨arrOfT_moved hvm (h2 i t n rs hs hi).1, (h2 i t n rs hs hi).2.moved hvm⟩, va_Nw.same rfl hv.symm h3, va_Nw.same rfl hv.symm h4, h5.moved hvm, fun i q hq => (h6 i q hq).same hv, h7.moved hvm, h8.moved hvm⟩
/-! locals -/
def LH (ls : Array Slot) (nL : Nat) (ro : Nat → Nat) (lv : List (Option Value)) : Prop := ls.size = nL ∧ lv_wf ls ∧ ∀ (i : Nat) (w : Value), lv[i]? = some (some w) → ls[i]? = some (.val (cvv ro w))
def lvp (ro : Nat → Nat) (lv : List (Option Value)) : List (Nat × Value) := (List.range lv.length).filterMap (fun i => match lv[i]? with
  | some (some w) => some (i, cvv ro w)
  | _ => none)
theorem lvp_mem {ro : Nat → Nat} {lv : List (Option Value)} {q : Nat × Value} : q ∈ lvp ro lv ↔ ∃ w, lv[q.1]? = some (some w) ∧ q.2 = cvv ro w := by
  unfold lvp
  rw [List.mem_filterMap]
  constructor
  · rintro ⟨i, -, h⟩
    split at h
    · rename_i w hw
      cases h
      exact ⟨w, hw, rfl⟩
    · cases h
  · rintro ⟨w, hw, he⟩
    refine ⟨q.1, List.mem_range.mpr (List.getElem?_eq_some_iff.mp hw).1, ?_⟩
    rw [hw]
    exact congrArg some (Prod.ext rfl he.symm)
theorem LH.has {ls : Array Slot} {nL : Nat} {ro : Nat → Nat} {lv : List (Option Value)} (h : LH ls nL ro lv) : lv_has ls nL (lvp ro lv) := by
  refine ⟨h.1, h.2.1, fun q hq => ?_⟩
  obtain ⟨w, hw, he⟩ := lvp_mem.mp hq
  rw [he]
  exact h.2.2 q.1 w hw
theorem cvv_cat (ro : Nat → Nat) (w : Value) : (cvv ro w).category = w.category := by cases w <;> rfl
def stI (lv : List (Option Value)) (i : Nat) (v : Value) : List (Option Value) := lv.mapIdx (fun j w => if j = i then some v else if j + 1 = i then (match w with
  | some w => if w.category = 2 then none else some w
  | none => none) else w)
def stL (lv : List (Option Value)) (i : Nat) (v : Value) : List (Option Value) := lv.mapIdx (fun j w => if j = i then some v else if j = i + 1 then none else if j + 1 = i then (match w with
  | some w => if w.category = 2 then none else some w
  | none => none) else w)
theorem LH.ofI {ls : Array Slot} {nL i : Nat} {ro : Nat → Nat} {lv lv' : List (Option Value)} {v : Value} (h : lv_has ls nL ((i, cvv ro v) :: (lvp ro lv).filter (fun q => !(q.1 == i) && !(q.1 + 1 == i && q.2.category == 2)))) (he : stI lv i v = lv') : LH ls nL ro lv' := by
  subst he
  refine ⟨h.1, h.2.1, fun j w hj => ?_⟩
  rw [stI, List.getElem?_mapIdx] at hj
  cases hl : lv[j]? with
  | none => rw [hl] at hj; cases hj
  | some o =>
    rw [hl] at hj
    have hj := Option.some.inj hj
    by_cases h1 : j = i
    · subst h1
      simp at hj
      subst hj
      exact h.2.2 (j, cvv ro v) List.mem_cons_self
    · simp only [h1, if_false] at hj
      by_cases h2 : j + 1 = i
      · simp only [h2, if_true] at hj
        cases o with
        | none => simp at hj
        | some w' =>
          by_cases h3 : w'.category = 2
          · simp [h3] at hj
          · simp [h3] at hj
            subst hj
            refine h.2.2 (j, cvv ro w') (List.mem_cons_of_mem _ (List.mem_filter.mpr ⟨lvp_mem.mpr ⟨w', hl, rfl⟩, ?_⟩))
            simp [h1, cvv_cat, h3]
      · simp only [h2, if_false] at hj
        subst hj
        refine h.2.2 (j, cvv ro w) (List.mem_cons_of_mem _ (List.mem_filter.mpr ⟨lvp_mem.mpr ⟨w, hl, rfl⟩, ?_⟩))
        simp [h1, h2]
theorem LH.ofL {ls : Array Slot} {nL i : Nat} {ro : Nat → Nat} {lv lv' : List (Option Value)} {v : Value} (h : lv_has ls nL ((i, cvv ro v) :: (lvp ro lv).filter (fun q => !(q.1 == i) && (!(q.1 == i + 1) && !(q.1 + 1 == i && q.2.category == 2))))) (he : stL lv i v = lv') : LH ls nL ro lv' := by
  subst he
  refine ⟨h.1, h.2.1, fun j w hj => ?_⟩
  rw [stL, List.getElem?_mapIdx] at hj
  cases hl : lv[j]? with
  | none => rw [hl] at hj; cases hj
  | some o =>
    rw [hl] at hj
    have hj := Option.some.inj hj
    by_cases h1 : j = i
    · subst h1
      simp at hj
      subst hj
      exact h.2.2 (j, cvv ro v) List.mem_cons_self
    · simp only [h1, if_false] at hj
      by_cases h4 : j = i + 1
      · simp [h4] at hj
      · simp only [h4, if_false] at hj
        by_cases h2 : j + 1 = i
        · simp only [h2, if_true] at hj
          cases o with
          | none => simp at hj
          | some w' =>
            by_cases h3 : w'.category = 2
            · simp [h3] at hj
            · simp [h3] at hj
              subst hj
              refine h.2.2 (j, cvv ro w') (List.mem_cons_of_mem _ (List.mem_filter.mpr ⟨lvp_mem.mpr ⟨w', hl, rfl⟩, ?_⟩))
              simp [h1, h4, cvv_cat, h3]
        · simp only [h2, if_false] at hj
          subst hj
          refine h.2.2 (j, cvv ro w) (List.mem_cons_of_mem _ (List.mem_filter.mpr ⟨lvp_mem.mpr ⟨w, hl, rfl⟩, ?_⟩))
          simp [h1, h2, h4]
/-- fewer known locals -/
def lvLe : List (Option Value) → List (Option Value) → Prop
  | [], _ => True
  | none :: a, _ :: b => lvLe a b
  | none :: a, [] => lvLe a []
  | some v :: a, o :: b => o = some v ∧ lvLe a b
  | some _ :: _, [] => False
theorem lvLe_at : ∀ (a b : List (Option Value)), lvLe a b → ∀ (i : Nat) (w : Value), a[i]? = some (some w) → b[i]? = some (some w)
  | [], _, _, i, w, h => by simp at h
  | none :: a, o :: b, hl, 0, w, h => by simp at h
  | none :: a, o :: b, hl, i + 1, w, h => by
    simp only [List.getElem?_cons_succ] at h ⊢
    exact lvLe_at a b hl i w h
  | none :: a, [], hl, 0, w, h => by simp at h
  | none :: a, [], hl, i + 1, w, h => by
    simp only [List.getElem?_cons_succ] at h
    have := lvLe_at a [] hl i w h
    simp at this
  | some v :: a, o :: b, hl, 0, w, h => by
    simp only [List.getElem?_cons_zero] at h ⊢
    rw [hl.1]; exact h
  | some v :: a, o :: b, hl, i + 1, w, h => by
    simp only [List.getElem?_cons_succ] at h ⊢
    exact lvLe_at a b hl.2 i w h
theorem LH.le {ls : Array Slot} {nL : Nat} {ro : Nat → Nat} {a b : List (Option Value)} (h : LH ls nL ro b) (hl : lvLe a b) : LH ls nL ro a := ⟨h.1, h.2.1, fun i w hw => h.2.2 i w (lvLe_at a b hl i w hw)⟩
end
section
/-! RULES: an abstract machine over the abstract memory; each rule stands on a row of the kit. -/
section HB
variable {p : Program} {l : Launch} {e : Env} {R : Room} {s : State} {m : MethodId} {args : Array Value} {below : List Frame} {meth : Method} {c : Code} {G : Gm} {A : Nat → Prop} {cells slots : Nat} {Q : State → Prop} {X : Md} {M : Mm} {pc q : Nat} {lv lv' : List (Option Value)} {st : List Value}
def CX (p : Program) (s : State) (m : MethodId) (args : Array Value) (meth : Method) (c : Code) (G : Gm) (A : Nat → Prop) (X : Md) : Prop :=
  p.tables.exec = Jvm.exec ∧ c.code = X.2.1 ∧ meth.sig.returnType = X.2.2.2 ∧ c.maxLocals = X.2.2.1 ∧ s.vm.findClass X.1.cls = some m.cls ∧ (∀ w ∈ GW, w.before args s = true) ∧ meth.locks = false ∧ KK G A s s.heap ∧ DD G ∧ (∀ i, i < NSH → A (G.2.1 i))
def BW (p : Program) (l : Launch) (e : Env) (R : Room) (s : State) (m : MethodId) (args : Array Value) (below : List Frame) (meth : Method) (c : Code) (G : Gm) (A : Nat → Prop) (cells slots : Nat) (Q : State → Prop) (X : Md) (M : Mm) (pc : Nat) (lv : List (Option Value)) (st : List Value) : Prop :=
  ∀ (H : Heap) (locs : List Loc) (ls : Array Slot), va_P G.1 classes (wW G M) H → va_S A s.heap H locs → LH ls X.2.2.1 G.2.1 lv → W p l e R s m args below meth c H locs cells slots Q (F0 m pc ls (st.map (cvv G.2.1)))

theorem hb_iconst (hc : CX p s m args meth c G A X) {n : Int} {v : Int32} (hd : decode X.2.1 pc = .ok (.iconst n, 1)) (hq : pc + 1 = q) (hv : Int32.ofInt n = v) (kk : BW p l e R s m args below meth c G A cells slots Q X M q lv (.int v :: st)) : BW p l e R s m args below meth c G A cells slots Q X M pc lv (st) := by
  subst hq
  intro H locs ls hP hS hl
  exact lv_iconst hc.1 hc.2.1 hd hv (kk H locs ls hP hS hl)
theorem hb_bipush (hc : CX p s m args meth c G A X) {n : Int} {v : Int32} (hd : decode X.2.1 pc = .ok (.bipush n, 2)) (hq : pc + 2 = q) (hv : (Int8.ofInt n).toInt32 = v) (kk : BW p l e R s m args below meth c G A cells slots Q X M q lv (.int v :: st)) : BW p l e R s m args below meth c G A cells slots Q X M pc lv (st) := by
  subst hq
  intro H locs ls hP hS hl
  exact lv_bipush hc.1 hc.2.1 hd hv (kk H locs ls hP hS hl)
theorem hb_sipush (hc : CX p s m args meth c G A X) {n : Int} {v : Int32} (hd : decode X.2.1 pc = .ok (.sipush n, 3)) (hq : pc + 3 = q) (hv : (Int16.ofInt n).toInt32 = v) (kk : BW p l e R s m args below meth c G A cells slots Q X M q lv (.int v :: st)) : BW p l e R s m args below meth c G A cells slots Q X M pc lv (st) := by
  subst hq
  intro H locs ls hP hS hl
  exact lv_sipush hc.1 hc.2.1 hd hv (kk H locs ls hP hS hl)
theorem hb_lconst (hc : CX p s m args meth c G A X) {n : Fin 2} {v : Int64} (hd : decode X.2.1 pc = .ok (.lconst n, 1)) (hq : pc + 1 = q) (hv : Int64.ofNat (n : Nat) = v) (kk : BW p l e R s m args below meth c G A cells slots Q X M q lv (.long v :: st)) : BW p l e R s m args below meth c G A cells slots Q X M pc lv (st) := by
  subst hq
  intro H locs ls hP hS hl
  exact lv_lconst hc.1 hc.2.1 hd hv (kk H locs ls hP hS hl)
theorem hb_null (hc : CX p s m args meth c G A X)  (hd : decode X.2.1 pc = .ok (.aconst_null, 1)) (hq : pc + 1 = q)  (kk : BW p l e R s m args below meth c G A cells slots Q X M q lv (.null :: st)) : BW p l e R s m args below meth c G A cells slots Q X M pc lv (st) := by
  subst hq
  intro H locs ls hP hS hl
  exact lv_null hc.1 hc.2.1 hd (kk H locs ls hP hS hl)
theorem hb_ldc (hc : CX p s m args meth c G A X) {n : Nat} {v : Int32} (hd : decode X.2.1 pc = .ok (.ldc n, 2)) (hq : pc + 2 = q) (hw : Cond.constant X.1.cls n v ∈ GW) (kk : BW p l e R s m args below meth c G A cells slots Q X M q lv (.int v :: st)) : BW p l e R s m args below meth c G A cells slots Q X M pc lv (st) := by
  subst hq
  intro H locs ls hP hS hl
  exact lv_ldc hc.1 hc.2.1 hc.2.2.2.2.1 (hc.2.2.2.2.2.1 _ hw) hd (kk H locs ls hP hS hl)
theorem hb_ldcw (hc : CX p s m args meth c G A X) {n : Nat} {v : Int32} (hd : decode X.2.1 pc = .ok (.ldc_w n, 3)) (hq : pc + 3 = q) (hw : Cond.constant X.1.cls n v ∈ GW) (kk : BW p l e R s m args below meth c G A cells slots Q X M q lv (.int v :: st)) : BW p l e R s m args below meth c G A cells slots Q X M pc lv (st) := by
  subst hq
  intro H locs ls hP hS hl
  exact lv_ldcw hc.1 hc.2.1 hc.2.2.2.2.1 (hc.2.2.2.2.2.1 _ hw) hd (kk H locs ls hP hS hl)
theorem hb_ldc2 (hc : CX p s m args meth c G A X) {n : Nat} {v : Int64} (hd : decode X.2.1 pc = .ok (.ldc2_w n, 3)) (hq : pc + 3 = q) (hw : Cond.constantLong X.1.cls n v ∈ GW) (kk : BW p l e R s m args below meth c G A cells slots Q X M q lv (.long v :: st)) : BW p l e R s m args below meth c G A cells slots Q X M pc lv (st) := by
  subst hq
  intro H locs ls hP hS hl
  exact lv_ldc2 hc.1 hc.2.1 hc.2.2.2.2.1 (hc.2.2.2.2.2.1 _ hw) hd (kk H locs ls hP hS hl)
theorem hb_iload_n (hc : CX p s m args meth c G A X) {k : Fin 4} {x : Int32} (hd : decode X.2.1 pc = .ok (.iload_n k, 1)) (hq : pc + 1 = q) (hv : lv[(k : Nat)]? = some (some (.int x))) (kk : BW p l e R s m args below meth c G A cells slots Q X M q lv (.int x :: st)) : BW p l e R s m args below meth c G A cells slots Q X M pc lv (st) := by
  subst hq
  intro H locs ls hP hS hl
  exact lv_iload_n hc.1 hc.2.1 hd rfl (hl.2.2 _ _ hv) (kk H locs ls hP hS hl)
theorem hb_iload (hc : CX p s m args meth c G A X) {k : Nat} {x : Int32} (hd : decode X.2.1 pc = .ok (.iload k, 2)) (hq : pc + 2 = q) (hv : lv[k]? = some (some (.int x))) (kk : BW p l e R s m args below meth c G A cells slots Q X M q lv (.int x :: st)) : BW p l e R s m args below meth c G A cells slots Q X M pc lv (st) := by
  subst hq
  intro H locs ls hP hS hl
  exact lv_iload hc.1 hc.2.1 hd (hl.2.2 _ _ hv) (kk H locs ls hP hS hl)
theorem hb_lload_n (hc : CX p s m args meth c G A X) {k : Fin 4} {x : Int64} (hd : decode X.2.1 pc = .ok (.lload_n k, 1)) (hq : pc + 1 = q) (hv : lv[(k : Nat)]? = some (some (.long x))) (kk : BW p l e R s m args below meth c G A cells slots Q X M q lv (.long x :: st)) : BW p l e R s m args below meth c G A cells slots Q X M pc lv (st) := by
  subst hq
  intro H locs ls hP hS hl
  exact lv_lload_n hc.1 hc.2.1 hd rfl (hl.2.2 _ _ hv) (kk H locs ls hP hS hl)
theorem hb_lload (hc : CX p s m args meth c G A X) {k : Nat} {x : Int64} (hd : decode X.2.1 pc = .ok (.lload k, 2)) (hq : pc + 2 = q) (hv : lv[k]? = some (some (.long x))) (kk : BW p l e R s m args below meth c G A cells slots Q X M q lv (.long x :: st)) : BW p l e R s m args below meth c G A cells slots Q X M pc lv (st) := by
  subst hq
  intro H locs ls hP hS hl
  exact lv_lload hc.1 hc.2.1 hd (hl.2.2 _ _ hv) (kk H locs ls hP hS hl)
theorem hb_aload_n (hc : CX p s m args meth c G A X) {k : Fin 4} {x : Nat} (hd : decode X.2.1 pc = .ok (.aload_n k, 1)) (hq : pc + 1 = q) (hv : lv[(k : Nat)]? = some (some (.ref x))) (kk : BW p l e R s m args below meth c G A cells slots Q X M q lv (.ref x :: st)) : BW p l e R s m args below meth c G A cells slots Q X M pc lv (st) := by
  subst hq
  intro H locs ls hP hS hl
  exact lv_aload_n hc.1 hc.2.1 hd rfl (hl.2.2 _ _ hv) (kk H locs ls hP hS hl)
theorem hb_aload (hc : CX p s m args meth c G A X) {k : Nat} {x : Nat} (hd : decode X.2.1 pc = .ok (.aload k, 2)) (hq : pc + 2 = q) (hv : lv[k]? = some (some (.ref x))) (kk : BW p l e R s m args below meth c G A cells slots Q X M q lv (.ref x :: st)) : BW p l e R s m args below meth c G A cells slots Q X M pc lv (st) := by
  subst hq
  intro H locs ls hP hS hl
  exact lv_aload hc.1 hc.2.1 hd (hl.2.2 _ _ hv) (kk H locs ls hP hS hl)
theorem hb_aload_nN (hc : CX p s m args meth c G A X) {k : Fin 4} (hd : decode X.2.1 pc = .ok (.aload_n k, 1)) (hq : pc + 1 = q) (hv : lv[(k : Nat)]? = some (some .null)) (kk : BW p l e R s m args below meth c G A cells slots Q X M q lv (.null :: st)) : BW p l e R s m args below meth c G A cells slots Q X M pc lv (st) := by
  subst hq
  intro H locs ls hP hS hl
  exact lv_aload_nN hc.1 hc.2.1 hd rfl (hl.2.2 _ _ hv) (kk H locs ls hP hS hl)
theorem hb_istore_n (hc : CX p s m args meth c G A X) {k : Fin 4} {x : Int32} (hd : decode X.2.1 pc = .ok (.istore_n k, 1)) (hq : pc + 1 = q) (hn : (k : Nat) < X.2.2.1) (hv : stI lv (k : Nat) (.int x) = lv') (kk : BW p l e R s m args below meth c G A cells slots Q X M q lv' st) : BW p l e R s m args below meth c G A cells slots Q X M pc lv (.int x :: st) := by
  subst hq
  intro H locs ls hP hS hl
  exact lv_istore_n hc.1 hc.2.1 hd rfl hl.has hn rfl (fun ls' hl' => kk H locs ls' hP hS (LH.ofI (v := .int x) hl' hv))
theorem hb_istore (hc : CX p s m args meth c G A X) {k : Nat} {x : Int32} (hd : decode X.2.1 pc = .ok (.istore k, 2)) (hq : pc + 2 = q) (hn : k < X.2.2.1) (hv : stI lv k (.int x) = lv') (kk : BW p l e R s m args below meth c G A cells slots Q X M q lv' st) : BW p l e R s m args below meth c G A cells slots Q X M pc lv (.int x :: st) := by
  subst hq
  intro H locs ls hP hS hl
  exact lv_istore hc.1 hc.2.1 hd hl.has hn rfl (fun ls' hl' => kk H locs ls' hP hS (LH.ofI (v := .int x) hl' hv))
theorem hb_astore_n (hc : CX p s m args meth c G A X) {k : Fin 4} {x : Nat} (hd : decode X.2.1 pc = .ok (.astore_n k, 1)) (hq : pc + 1 = q) (hn : (k : Nat) < X.2.2.1) (hv : stI lv (k : Nat) (.ref x) = lv') (kk : BW p l e R s m args below meth c G A cells slots Q X M q lv' st) : BW p l e R s m args below meth c G A cells slots Q X M pc lv (.ref x :: st) := by
  subst hq
  intro H locs ls hP hS hl
  exact lv_astore_n hc.1 hc.2.1 hd rfl hl.has hn rfl (fun ls' hl' => kk H locs ls' hP hS (LH.ofI (v := .ref x) hl' hv))
theorem hb_astore (hc : CX p s m args meth c G A X) {k : Nat} {x : Nat} (hd : decode X.2.1 pc = .ok (.astore k, 2)) (hq : pc + 2 = q) (hn : k < X.2.2.1) (hv : stI lv k (.ref x) = lv') (kk : BW p l e R s m args below meth c G A cells slots Q X M q lv' st) : BW p l e R s m args below meth c G A cells slots Q X M pc lv (.ref x :: st) := by
  subst hq
  intro H locs ls hP hS hl
  exact lv_astore hc.1 hc.2.1 hd hl.has hn rfl (fun ls' hl' => kk H locs ls' hP hS (LH.ofI (v := .ref x) hl' hv))
theorem hb_lstore_n (hc : CX p s m args meth c G A X) {k : Fin 4} {x : Int64} (hd : decode X.2.1 pc = .ok (.lstore_n k, 1)) (hq : pc + 1 = q) (hn : (k : Nat) + 1 < X.2.2.1) (hv : stL lv (k : Nat) (.long x) = lv') (kk : BW p l e R s m args below meth c G A cells slots Q X M q lv' st) : BW p l e R s m args below meth c G A cells slots Q X M pc lv (.long x :: st) := by
  subst hq
  intro H locs ls hP hS hl
  exact lv_lstore_n hc.1 hc.2.1 hd rfl hl.has hn rfl (fun ls' hl' => kk H locs ls' hP hS (LH.ofL (v := .long x) hl' hv))
theorem hb_lstore (hc : CX p s m args meth c G A X) {k : Nat} {x : Int64} (hd : decode X.2.1 pc = .ok (.lstore k, 2)) (hq : pc + 2 = q) (hn : k + 1 < X.2.2.1) (hv : stL lv k (.long x) = lv') (kk : BW p l e R s m args below meth c G A cells slots Q X M q lv' st) : BW p l e R s m args below meth c G A cells slots Q X M pc lv (.long x :: st) := by
  subst hq
  intro H locs ls hP hS hl
  exact lv_lstore hc.1 hc.2.1 hd hl.has hn rfl (fun ls' hl' => kk H locs ls' hP hS (LH.ofL (v := .long x) hl' hv))
theorem hb_astore_nN (hc : CX p s m args meth c G A X) {k : Fin 4} (hd : decode X.2.1 pc = .ok (.astore_n k, 1)) (hq : pc + 1 = q) (hn : (k : Nat) < X.2.2.1) (hv : stI lv (k : Nat) .null = lv') (kk : BW p l e R s m args below meth c G A cells slots Q X M q lv' st) : BW p l e R s m args below meth c G A cells slots Q X M pc lv (.null :: st) := by
  subst hq
  intro H locs ls hP hS hl
  exact lv_astore_nN hc.1 hc.2.1 hd rfl hl.has hn rfl (fun ls' hl' => kk H locs ls' hP hS (LH.ofI (v := .null) hl' hv))
theorem hb_iinc (hc : CX p s m args meth c G A X) {k : Nat} {n : Int} {x v : Int32} (hd : decode X.2.1 pc = .ok (.iinc k n, 3)) (hq : pc + 3 = q) (hx : lv[k]? = some (some (.int x))) (hw : x + Int32.ofInt n = v) (hn : k < X.2.2.1) (hv : stI lv k (.int v) = lv') (kk : BW p l e R s m args below meth c G A cells slots Q X M q lv' st) : BW p l e R s m args below meth c G A cells slots Q X M pc lv st := by
  subst hq
  intro H locs ls hP hS hl
  obtain ⟨j, hj⟩ := List.getElem?_of_mem (lvp_mem (ro := G.2.1) (lv := lv) (q := (k, .int x)) |>.mpr ⟨.int x, hx, rfl⟩)
  exact lv_iinc hc.1 hc.2.1 hd hl.has hj hw hn rfl (fun ls' hl' => kk H locs ls' hP hS (LH.ofI (v := .int v) hl' hv))
theorem hb_iadd (hc : CX p s m args meth c G A X) {x y : Int32} (hd : decode X.2.1 pc = .ok (.iadd, 1)) (hq : pc + 1 = q)  (kk : BW p l e R s m args below meth c G A cells slots Q X M q lv (.int (x + y) :: st)) : BW p l e R s m args below meth c G A cells slots Q X M pc lv (.int y :: .int x :: st) := by
  subst hq
  intro H locs ls hP hS hl
  exact lv_iadd hc.1 hc.2.1 hd (kk H locs ls hP hS hl)
theorem hb_isub (hc : CX p s m args meth c G A X) {x y : Int32} (hd : decode X.2.1 pc = .ok (.isub, 1)) (hq : pc + 1 = q)  (kk : BW p l e R s m args below meth c G A cells slots Q X M q lv (.int (x - y) :: st)) : BW p l e R s m args below meth c G A cells slots Q X M pc lv (.int y :: .int x :: st) := by
  subst hq
  intro H locs ls hP hS hl
  exact lv_isub hc.1 hc.2.1 hd (kk H locs ls hP hS hl)
theorem hb_imul (hc : CX p s m args meth c G A X) {x y : Int32} (hd : decode X.2.1 pc = .ok (.imul, 1)) (hq : pc + 1 = q)  (kk : BW p l e R s m args below meth c G A cells slots Q X M q lv (.int (x * y) :: st)) : BW p l e R s m args below meth c G A cells slots Q X M pc lv (.int y :: .int x :: st) := by
  subst hq
  intro H locs ls hP hS hl
  exact lv_imul hc.1 hc.2.1 hd (kk H locs ls hP hS hl)
theorem hb_iand (hc : CX p s m args meth c G A X) {x y : Int32} (hd : decode X.2.1 pc = .ok (.iand, 1)) (hq : pc + 1 = q)  (kk : BW p l e R s m args below meth c G A cells slots Q X M q lv (.int (x &&& y) :: st)) : BW p l e R s m args below meth c G A cells slots Q X M pc lv (.int y :: .int x :: st) := by
  subst hq
  intro H locs ls hP hS hl
  exact lv_iand hc.1 hc.2.1 hd (kk H locs ls hP hS hl)
theorem hb_ior (hc : CX p s m args meth c G A X) {x y : Int32} (hd : decode X.2.1 pc = .ok (.ior, 1)) (hq : pc + 1 = q)  (kk : BW p l e R s m args below meth c G A cells slots Q X M q lv (.int (x ||| y) :: st)) : BW p l e R s m args below meth c G A cells slots Q X M pc lv (.int y :: .int x :: st) := by
  subst hq
  intro H locs ls hP hS hl
  exact lv_ior hc.1 hc.2.1 hd (kk H locs ls hP hS hl)
theorem hb_ixor (hc : CX p s m args meth c G A X) {x y : Int32} (hd : decode X.2.1 pc = .ok (.ixor, 1)) (hq : pc + 1 = q)  (kk : BW p l e R s m args below meth c G A cells slots Q X M q lv (.int (x ^^^ y) :: st)) : BW p l e R s m args below meth c G A cells slots Q X M pc lv (.int y :: .int x :: st) := by
  subst hq
  intro H locs ls hP hS hl
  exact lv_ixor hc.1 hc.2.1 hd (kk H locs ls hP hS hl)
theorem hb_ishl (hc : CX p s m args meth c G A X) {x y : Int32} (hd : decode X.2.1 pc = .ok (.ishl, 1)) (hq : pc + 1 = q)  (kk : BW p l e R s m args below meth c G A cells slots Q X M q lv (.int (x <<< (y &&& 31)) :: st)) : BW p l e R s m args below meth c G A cells slots Q X M pc lv (.int y :: .int x :: st) := by
  subst hq
  intro H locs ls hP hS hl
  exact lv_ishl hc.1 hc.2.1 hd (kk H locs ls hP hS hl)
theorem hb_ishr (hc : CX p s m args meth c G A X) {x y : Int32} (hd : decode X.2.1 pc = .ok (.ishr, 1)) (hq : pc + 1 = q)  (kk : BW p l e R s m args below meth c G A cells slots Q X M q lv (.int (x >>> (y &&& 31)) :: st)) : BW p l e R s m args below meth c G A cells slots Q X M pc lv (.int y :: .int x :: st) := by
  subst hq
  intro H locs ls hP hS hl
  exact lv_ishr hc.1 hc.2.1 hd (kk H locs ls hP hS hl)
theorem hb_ineg (hc : CX p s m args meth c G A X) {x : Int32} (hd : decode X.2.1 pc = .ok (.ineg, 1)) (hq : pc + 1 = q)  (kk : BW p l e R s m args below meth c G A cells slots Q X M q lv (.int (-x) :: st)) : BW p l e R s m args below meth c G A cells slots Q X M pc lv (.int x :: st) := by
  subst hq
  intro H locs ls hP hS hl
  exact lv_ineg hc.1 hc.2.1 hd (kk H locs ls hP hS hl)
theorem hb_idiv (hc : CX p s m args meth c G A X) {x y : Int32} (hd : decode X.2.1 pc = .ok (.idiv, 1)) (hq : pc + 1 = q) (hne : ¬ y = 0) (kk : BW p l e R s m args below meth c G A cells slots Q X M q lv (.int (x / y) :: st)) : BW p l e R s m args below meth c G A cells slots Q X M pc lv (.int y :: .int x :: st) := by
  subst hq
  intro H locs ls hP hS hl
  exact lv_idiv hc.1 hc.2.1 hd hne (kk H locs ls hP hS hl)
theorem hb_irem (hc : CX p s m args meth c G A X) {x y : Int32} (hd : decode X.2.1 pc = .ok (.irem, 1)) (hq : pc + 1 = q) (hne : ¬ y = 0) (kk : BW p l e R s m args below meth c G A cells slots Q X M q lv (.int (x - x / y * y) :: st)) : BW p l e R s m args below meth c G A cells slots Q X M pc lv (.int y :: .int x :: st) := by
  subst hq
  intro H locs ls hP hS hl
  exact lv_irem hc.1 hc.2.1 hd hne (kk H locs ls hP hS hl)
theorem hb_iushr (hc : CX p s m args meth c G A X) {x y : Int32} (hd : decode X.2.1 pc = .ok (.iushr, 1)) (hq : pc + 1 = q)  (kk : BW p l e R s m args below meth c G A cells slots Q X M q lv (.int ((x.toUInt32 >>> (y.toUInt32 &&& Int32.toUInt32 31)).toInt32) :: st)) : BW p l e R s m args below meth c G A cells slots Q X M pc lv (.int y :: .int x :: st) := by
  subst hq
  intro H locs ls hP hS hl
  exact lv_iushr hc.1 hc.2.1 hd rfl (kk H locs ls hP hS hl)
theorem hb_ladd (hc : CX p s m args meth c G A X) {x y : Int64} (hd : decode X.2.1 pc = .ok (.ladd, 1)) (hq : pc + 1 = q)  (kk : BW p l e R s m args below meth c G A cells slots Q X M q lv (.long (x + y) :: st)) : BW p l e R s m args below meth c G A cells slots Q X M pc lv (.long y :: .long x :: st) := by
  subst hq
  intro H locs ls hP hS hl
  exact lv_ladd hc.1 hc.2.1 hd (kk H locs ls hP hS hl)
theorem hb_lsub (hc : CX p s m args meth c G A X) {x y : Int64} (hd : decode X.2.1 pc = .ok (.lsub, 1)) (hq : pc + 1 = q)  (kk : BW p l e R s m args below meth c G A cells slots Q X M q lv (.long (x - y) :: st)) : BW p l e R s m args below meth c G A cells slots Q X M pc lv (.long y :: .long x :: st) := by
  subst hq
  intro H locs ls hP hS hl
  exact lv_lsub hc.1 hc.2.1 hd (kk H locs ls hP hS hl)
theorem hb_land (hc : CX p s m args meth c G A X) {x y : Int64} (hd : decode X.2.1 pc = .ok (.land, 1)) (hq : pc + 1 = q)  (kk : BW p l e R s m args below meth c G A cells slots Q X M q lv (.long (x &&& y) :: st)) : BW p l e R s m args below meth c G A cells slots Q X M pc lv (.long y :: .long x :: st) := by
  subst hq
  intro H locs ls hP hS hl
  exact lv_land hc.1 hc.2.1 hd (kk H locs ls hP hS hl)
theorem hb_lor (hc : CX p s m args meth c G A X) {x y : Int64} (hd : decode X.2.1 pc = .ok (.lor, 1)) (hq : pc + 1 = q)  (kk : BW p l e R s m args below meth c G A cells slots Q X M q lv (.long (x ||| y) :: st)) : BW p l e R s m args below meth c G A cells slots Q X M pc lv (.long y :: .long x :: st) := by
  subst hq
  intro H locs ls hP hS hl
  exact lv_lor hc.1 hc.2.1 hd (kk H locs ls hP hS hl)
theorem hb_lxor (hc : CX p s m args meth c G A X) {x y : Int64} (hd : decode X.2.1 pc = .ok (.lxor, 1)) (hq : pc + 1 = q)  (kk : BW p l e R s m args below meth c G A cells slots Q X M q lv (.long (x ^^^ y) :: st)) : BW p l e R s m args below meth c G A cells slots Q X M pc lv (.long y :: .long x :: st) := by
  subst hq
  intro H locs ls hP hS hl
  exact lv_lxor hc.1 hc.2.1 hd (kk H locs ls hP hS hl)
theorem hb_lshl (hc : CX p s m args meth c G A X) {x : Int64} {y : Int32} (hd : decode X.2.1 pc = .ok (.lshl, 1)) (hq : pc + 1 = q)  (kk : BW p l e R s m args below meth c G A cells slots Q X M q lv (.long (x <<< (y.toInt64 &&& 63)) :: st)) : BW p l e R s m args below meth c G A cells slots Q X M pc lv (.int y :: .long x :: st) := by
  subst hq
  intro H locs ls hP hS hl
  exact lv_lshl hc.1 hc.2.1 hd rfl (kk H locs ls hP hS hl)
theorem hb_lshr (hc : CX p s m args meth c G A X) {x : Int64} {y : Int32} (hd : decode X.2.1 pc = .ok (.lshr, 1)) (hq : pc + 1 = q)  (kk : BW p l e R s m args below meth c G A cells slots Q X M q lv (.long (x >>> (y.toInt64 &&& 63)) :: st)) : BW p l e R s m args below meth c G A cells slots Q X M pc lv (.int y :: .long x :: st) := by
  subst hq
  intro H locs ls hP hS hl
  exact lv_lshr hc.1 hc.2.1 hd rfl (kk H locs ls hP hS hl)
theorem hb_lushr (hc : CX p s m args meth c G A X) {x : Int64} {y : Int32} (hd : decode X.2.1 pc = .ok (.lushr, 1)) (hq : pc + 1 = q)  (kk : BW p l e R s m args below meth c G A cells slots Q X M q lv (.long ((x.toUInt64 >>> (y.toInt64.toUInt64 &&& Int64.toUInt64 63)).toInt64) :: st)) : BW p l e R s m args below meth c G A cells slots Q X M pc lv (.int y :: .long x :: st) := by
  subst hq
  intro H locs ls hP hS hl
  exact lv_lushr hc.1 hc.2.1 hd rfl (kk H locs ls hP hS hl)
theorem hb_i2l (hc : CX p s m args meth c G A X) {x : Int32} (hd : decode X.2.1 pc = .ok (.i2l, 1)) (hq : pc + 1 = q)  (kk : BW p l e R s m args below meth c G A cells slots Q X M q lv (.long x.toInt64 :: st)) : BW p l e R s m args below meth c G A cells slots Q X M pc lv (.int x :: st) := by
  subst hq
  intro H locs ls hP hS hl
  exact lv_i2l hc.1 hc.2.1 hd rfl (kk H locs ls hP hS hl)
theorem hb_l2i (hc : CX p s m args meth c G A X) {x : Int64} (hd : decode X.2.1 pc = .ok (.l2i, 1)) (hq : pc + 1 = q)  (kk : BW p l e R s m args below meth c G A cells slots Q X M q lv (.int x.toInt32 :: st)) : BW p l e R s m args below meth c G A cells slots Q X M pc lv (.long x :: st) := by
  subst hq
  intro H locs ls hP hS hl
  exact lv_l2i hc.1 hc.2.1 hd rfl (kk H locs ls hP hS hl)
theorem hb_lcmp (hc : CX p s m args meth c G A X) {x y : Int64} (hd : decode X.2.1 pc = .ok (.lcmp, 1)) (hq : pc + 1 = q)  (kk : BW p l e R s m args below meth c G A cells slots Q X M q lv (.int (lg_cmp x y) :: st)) : BW p l e R s m args below meth c G A cells slots Q X M pc lv (.long y :: .long x :: st) := by
  subst hq
  intro H locs ls hP hS hl
  exact W.lcmp hc.1 hc.2.1 hd (kk H locs ls hP hS hl)
theorem hb_dup (hc : CX p s m args meth c G A X) {v : Value} (hd : decode X.2.1 pc = .ok (.dup, 1)) (hq : pc + 1 = q) (hv : v.category = 1) (kk : BW p l e R s m args below meth c G A cells slots Q X M q lv (v :: v :: st)) : BW p l e R s m args below meth c G A cells slots Q X M pc lv (v :: st) := by
  subst hq
  intro H locs ls hP hS hl
  exact lv_dup hc.1 hc.2.1 hd ((cvv_cat _ _).trans hv) (kk H locs ls hP hS hl)
theorem hb_pop (hc : CX p s m args meth c G A X) {v : Value} (hd : decode X.2.1 pc = .ok (.pop, 1)) (hq : pc + 1 = q) (hv : v.category = 1) (kk : BW p l e R s m args below meth c G A cells slots Q X M q lv (st)) : BW p l e R s m args below meth c G A cells slots Q X M pc lv (v :: st) := by
  subst hq
  intro H locs ls hP hS hl
  exact lv_pop hc.1 hc.2.1 hd ((cvv_cat _ _).trans hv) (kk H locs ls hP hS hl)
theorem hb_dup2 (hc : CX p s m args meth c G A X) {v u : Value} (hd : decode X.2.1 pc = .ok (.dup2, 1)) (hq : pc + 1 = q) (hv : v.category = 1) (hu : u.category = 1) (kk : BW p l e R s m args below meth c G A cells slots Q X M q lv (v :: u :: v :: u :: st)) : BW p l e R s m args below meth c G A cells slots Q X M pc lv (v :: u :: st) := by
  subst hq
  intro H locs ls hP hS hl
  exact lv_dup2_11 hc.1 hc.2.1 hd ((cvv_cat _ _).trans hv) ((cvv_cat _ _).trans hu) (kk H locs ls hP hS hl)
theorem hb_if_eq (hc : CX p s m args meth c G A X) {x : Int32} {off : Int} {tg : Nat} (hd : decode X.2.1 pc = .ok (.ifCond .eq off, 3)) (hq : pc + 3 = q) (ht : (pc : Int) + off = (tg : Int)) (kt : x = 0 → BW p l e R s m args below meth c G A cells slots Q X M tg lv st) (kf : ¬ x = 0 → BW p l e R s m args below meth c G A cells slots Q X M q lv st) : BW p l e R s m args below meth c G A cells slots Q X M pc lv (.int x :: st) := by
  subst hq
  intro H locs ls hP hS hl
  exact lv_if_eq hc.1 hc.2.1 hd ht (fun z => kt z H locs ls hP hS hl) (fun z => kf z H locs ls hP hS hl)
theorem hb_if_ne (hc : CX p s m args meth c G A X) {x : Int32} {off : Int} {tg : Nat} (hd : decode X.2.1 pc = .ok (.ifCond .ne off, 3)) (hq : pc + 3 = q) (ht : (pc : Int) + off = (tg : Int)) (kt : ¬ x = 0 → BW p l e R s m args below meth c G A cells slots Q X M tg lv st) (kf : x = 0 → BW p l e R s m args below meth c G A cells slots Q X M q lv st) : BW p l e R s m args below meth c G A cells slots Q X M pc lv (.int x :: st) := by
  subst hq
  intro H locs ls hP hS hl
  exact lv_if_ne hc.1 hc.2.1 hd ht (fun z => kt z H locs ls hP hS hl) (fun z => kf z H locs ls hP hS hl)
theorem hb_if_lt (hc : CX p s m args meth c G A X) {x : Int32} {off : Int} {tg : Nat} (hd : decode X.2.1 pc = .ok (.ifCond .lt off, 3)) (hq : pc + 3 = q) (ht : (pc : Int) + off = (tg : Int)) (kt : x < 0 → BW p l e R s m args below meth c G A cells slots Q X M tg lv st) (kf : ¬ x < 0 → BW p l e R s m args below meth c G A cells slots Q X M q lv st) : BW p l e R s m args below meth c G A cells slots Q X M pc lv (.int x :: st) := by
  subst hq
  intro H locs ls hP hS hl
  exact lv_if_lt hc.1 hc.2.1 hd ht (fun z => kt z H locs ls hP hS hl) (fun z => kf z H locs ls hP hS hl)
theorem hb_if_ge (hc : CX p s m args meth c G A X) {x : Int32} {off : Int} {tg : Nat} (hd : decode X.2.1 pc = .ok (.ifCond .ge off, 3)) (hq : pc + 3 = q) (ht : (pc : Int) + off = (tg : Int)) (kt : 0 ≤ x → BW p l e R s m args below meth c G A cells slots Q X M tg lv st) (kf : ¬ 0 ≤ x → BW p l e R s m args below meth c G A cells slots Q X M q lv st) : BW p l e R s m args below meth c G A cells slots Q X M pc lv (.int x :: st) := by
  subst hq
  intro H locs ls hP hS hl
  exact lv_if_ge hc.1 hc.2.1 hd ht (fun z => kt z H locs ls hP hS hl) (fun z => kf z H locs ls hP hS hl)
theorem hb_if_gt (hc : CX p s m args meth c G A X) {x : Int32} {off : Int} {tg : Nat} (hd : decode X.2.1 pc = .ok (.ifCond .gt off, 3)) (hq : pc + 3 = q) (ht : (pc : Int) + off = (tg : Int)) (kt : 0 < x → BW p l e R s m args below meth c G A cells slots Q X M tg lv st) (kf : ¬ 0 < x → BW p l e R s m args below meth c G A cells slots Q X M q lv st) : BW p l e R s m args below meth c G A cells slots Q X M pc lv (.int x :: st) := by
  subst hq
  intro H locs ls hP hS hl
  exact lv_if_gt hc.1 hc.2.1 hd ht (fun z => kt z H locs ls hP hS hl) (fun z => kf z H locs ls hP hS hl)
theorem hb_if_le (hc : CX p s m args meth c G A X) {x : Int32} {off : Int} {tg : Nat} (hd : decode X.2.1 pc = .ok (.ifCond .le off, 3)) (hq : pc + 3 = q) (ht : (pc : Int) + off = (tg : Int)) (kt : x ≤ 0 → BW p l e R s m args below meth c G A cells slots Q X M tg lv st) (kf : ¬ x ≤ 0 → BW p l e R s m args below meth c G A cells slots Q X M q lv st) : BW p l e R s m args below meth c G A cells slots Q X M pc lv (.int x :: st) := by
  subst hq
  intro H locs ls hP hS hl
  exact lv_if_le hc.1 hc.2.1 hd ht (fun z => kt z H locs ls hP hS hl) (fun z => kf z H locs ls hP hS hl)
theorem hb_icmp_eq (hc : CX p s m args meth c G A X) {x y : Int32} {off : Int} {tg : Nat} (hd : decode X.2.1 pc = .ok (.if_icmp .eq off, 3)) (hq : pc + 3 = q) (ht : (pc : Int) + off = (tg : Int)) (kt : x = y → BW p l e R s m args below meth c G A cells slots Q X M tg lv st) (kf : ¬ x = y → BW p l e R s m args below meth c G A cells slots Q X M q lv st) : BW p l e R s m args below meth c G A cells slots Q X M pc lv (.int y :: .int x :: st) := by
  subst hq
  intro H locs ls hP hS hl
  exact lv_icmp_eq hc.1 hc.2.1 hd ht (fun z => kt z H locs ls hP hS hl) (fun z => kf z H locs ls hP hS hl)
theorem hb_icmp_ne (hc : CX p s m args meth c G A X) {x y : Int32} {off : Int} {tg : Nat} (hd : decode X.2.1 pc = .ok (.if_icmp .ne off, 3)) (hq : pc + 3 = q) (ht : (pc : Int) + off = (tg : Int)) (kt : ¬ x = y → BW p l e R s m args below meth c G A cells slots Q X M tg lv st) (kf : x = y → BW p l e R s m args below meth c G A cells slots Q X M q lv st) : BW p l e R s m args below meth c G A cells slots Q X M pc lv (.int y :: .int x :: st) := by
  subst hq
  intro H locs ls hP hS hl
  exact lv_icmp_ne hc.1 hc.2.1 hd ht (fun z => kt z H locs ls hP hS hl) (fun z => kf z H locs ls hP hS hl)
theorem hb_icmp_lt (hc : CX p s m args meth c G A X) {x y : Int32} {off : Int} {tg : Nat} (hd : decode X.2.1 pc = .ok (.if_icmp .lt off, 3)) (hq : pc + 3 = q) (ht : (pc : Int) + off = (tg : Int)) (kt : x < y → BW p l e R s m args below meth c G A cells slots Q X M tg lv st) (kf : ¬ x < y → BW p l e R s m args below meth c G A cells slots Q X M q lv st) : BW p l e R s m args below meth c G A cells slots Q X M pc lv (.int y :: .int x :: st) := by
  subst hq
  intro H locs ls hP hS hl
  exact lv_icmp_lt hc.1 hc.2.1 hd ht (fun z => kt z H locs ls hP hS hl) (fun z => kf z H locs ls hP hS hl)
theorem hb_icmp_ge (hc : CX p s m args meth c G A X) {x y : Int32} {off : Int} {tg : Nat} (hd : decode X.2.1 pc = .ok (.if_icmp .ge off, 3)) (hq : pc + 3 = q) (ht : (pc : Int) + off = (tg : Int)) (kt : y ≤ x → BW p l e R s m args below meth c G A cells slots Q X M tg lv st) (kf : ¬ y ≤ x → BW p l e R s m args below meth c G A cells slots Q X M q lv st) : BW p l e R s m args below meth c G A cells slots Q X M pc lv (.int y :: .int x :: st) := by
  subst hq
  intro H locs ls hP hS hl
  exact lv_icmp_ge hc.1 hc.2.1 hd ht (fun z => kt z H locs ls hP hS hl) (fun z => kf z H locs ls hP hS hl)
theorem hb_icmp_gt (hc : CX p s m args meth c G A X) {x y : Int32} {off : Int} {tg : Nat} (hd : decode X.2.1 pc = .ok (.if_icmp .gt off, 3)) (hq : pc + 3 = q) (ht : (pc : Int) + off = (tg : Int)) (kt : y < x → BW p l e R s m args below meth c G A cells slots Q X M tg lv st) (kf : ¬ y < x → BW p l e R s m args below meth c G A cells slots Q X M q lv st) : BW p l e R s m args below meth c G A cells slots Q X M pc lv (.int y :: .int x :: st) := by
  subst hq
  intro H locs ls hP hS hl
  exact lv_icmp_gt hc.1 hc.2.1 hd ht (fun z => kt z H locs ls hP hS hl) (fun z => kf z H locs ls hP hS hl)
theorem hb_icmp_le (hc : CX p s m args meth c G A X) {x y : Int32} {off : Int} {tg : Nat} (hd : decode X.2.1 pc = .ok (.if_icmp .le off, 3)) (hq : pc + 3 = q) (ht : (pc : Int) + off = (tg : Int)) (kt : x ≤ y → BW p l e R s m args below meth c G A cells slots Q X M tg lv st) (kf : ¬ x ≤ y → BW p l e R s m args below meth c G A cells slots Q X M q lv st) : BW p l e R s m args below meth c G A cells slots Q X M pc lv (.int y :: .int x :: st) := by
  subst hq
  intro H locs ls hP hS hl
  exact lv_icmp_le hc.1 hc.2.1 hd ht (fun z => kt z H locs ls hP hS hl) (fun z => kf z H locs ls hP hS hl)
theorem hb_goto (hc : CX p s m args meth c G A X) {off : Int} {tg : Nat} (hd : decode X.2.1 pc = .ok (.goto off, 3)) (ht : (pc : Int) + off = (tg : Int)) (kk : BW p l e R s m args below meth c G A cells slots Q X M tg lv st) : BW p l e R s m args below meth c G A cells slots Q X M pc lv st := by
  intro H locs ls hP hS hl
  exact lv_goto hc.1 hc.2.1 hd ht (kk H locs ls hP hS hl)
theorem hb_ifnull (hc : CX p s m args meth c G A X) {off : Int} {x : Nat} (hd : decode X.2.1 pc = .ok (.ifnull off, 3)) (hq : pc + 3 = q)  (kk : BW p l e R s m args below meth c G A cells slots Q X M q lv (st)) : BW p l e R s m args below meth c G A cells slots Q X M pc lv (.ref x :: st) := by
  subst hq
  intro H locs ls hP hS hl
  exact lv_ifnull hc.1 hc.2.1 hd (kk H locs ls hP hS hl)
theorem hb_ifnonnullN (hc : CX p s m args meth c G A X) {off : Int} (hd : decode X.2.1 pc = .ok (.ifnonnull off, 3)) (hq : pc + 3 = q)  (kk : BW p l e R s m args below meth c G A cells slots Q X M q lv (st)) : BW p l e R s m args below meth c G A cells slots Q X M pc lv (.null :: st) := by
  subst hq
  intro H locs ls hP hS hl
  exact lv_ifnonnullN hc.1 hc.2.1 hd (kk H locs ls hP hS hl)
theorem hb_ifnonnull (hc : CX p s m args meth c G A X) {x : Nat} {off : Int} {tg : Nat} (hd : decode X.2.1 pc = .ok (.ifnonnull off, 3)) (ht : (pc : Int) + off = (tg : Int)) (kk : BW p l e R s m args below meth c G A cells slots Q X M tg lv st) : BW p l e R s m args below meth c G A cells slots Q X M pc lv (.ref x :: st) := by
  intro H locs ls hP hS hl
  exact lv_ifnonnull hc.1 hc.2.1 hd ht (kk H locs ls hP hS hl)
theorem hb_ifnullN (hc : CX p s m args meth c G A X)  {off : Int} {tg : Nat} (hd : decode X.2.1 pc = .ok (.ifnull off, 3)) (ht : (pc : Int) + off = (tg : Int)) (kk : BW p l e R s m args below meth c G A cells slots Q X M tg lv st) : BW p l e R s m args below meth c G A cells slots Q X M pc lv (.null :: st) := by
  intro H locs ls hP hS hl
  exact lv_ifnullN hc.1 hc.2.1 hd ht (kk H locs ls hP hS hl)
theorem hb_tableIn (hc : CX p s m args meth c G A X) {x : Int32} {dflt lo hi : Int} {offs : Array Int} {len : Nat} {off : Int} {tg : Nat} (hd : decode X.2.1 pc = .ok (.tableswitch dflt lo hi offs, len)) (h1 : ¬ x.toInt < lo) (h2 : ¬ hi < x.toInt) (ho : offs[(x.toInt - lo).toNat]? = some off) (ht : (pc : Int) + off = (tg : Int)) (kk : BW p l e R s m args below meth c G A cells slots Q X M tg lv st) : BW p l e R s m args below meth c G A cells slots Q X M pc lv (.int x :: st) := by
  intro H locs ls hP hS hl
  exact lv_tableIn hc.1 hc.2.1 hd h1 h2 ho ht (kk H locs ls hP hS hl)
theorem hb_tableOut (hc : CX p s m args meth c G A X) {x : Int32} {dflt lo hi : Int} {offs : Array Int} {len : Nat} {tg : Nat} (hd : decode X.2.1 pc = .ok (.tableswitch dflt lo hi offs, len)) (h : x.toInt < lo ∨ hi < x.toInt) (ht : (pc : Int) + dflt = (tg : Int)) (kk : BW p l e R s m args below meth c G A cells slots Q X M tg lv st) : BW p l e R s m args below meth c G A cells slots Q X M pc lv (.int x :: st) := by
  intro H locs ls hP hS hl
  exact lv_tableOut hc.1 hc.2.1 hd h ht (kk H locs ls hP hS hl)
theorem hb_weak (hl' : lvLe lv' lv) (kk : BW p l e R s m args below meth c G A cells slots Q X M pc lv' st) : BW p l e R s m args below meth c G A cells slots Q X M pc lv st := fun H locs ls hP hS hl => kk H locs ls hP hS (hl.le hl')
def CK (ci : Nat) (C : String) (T : u_T) (N : Nat) (ty : Nat → FieldType) : Prop := classes[ci]? = some (C, T, N) ∧ (∀ w ∈ u_ws C T N, w ∈ GW) ∧ (∀ a, a < N → ∀ b, b < N → a ≠ b → (T a).2.1 ≠ (T b).2.1) ∧ (∀ k, k < N → parseFieldDescriptor (T k).2.2.1 = some (ty k))
def FL (own : String) (idx ci j : Nat) (ty : FieldType) (fin : Bool) : Prop := ∃ (C : String) (T : u_T) (N : Nat) (tt : Nat → FieldType), CK ci C T N tt ∧ j < N ∧ Cond.fieldLink own idx (T j).1 (T j).2.1 (T j).2.2.1 ∈ GW ∧ tt j = ty ∧ (T j).2.2.2 = fin
theorem wE_obj {G : Gm} {M : Mm} {a ci : Nat} {ks : List (Nat ⊕ Bool)} (h : shp a = .inr (ci, ks)) : wE G M a = .inr (ci, ks.mapIdx (sv G M a)) := by unfold wE; rw [h]
theorem wE_arr {G : Gm} {M : Mm} {a t n : Nat} {rs : List Nat} (h : shp a = .inl (t, n, rs)) : wE G M a = .inl (G.2.2 a, wA G M a t n rs) := by unfold wE; rw [h]
theorem hb_getI (hc : CX p s m args meth c G A X) {idx a j ci : Nat} {ks : List (Nat ⊕ Bool)}  {ty : FieldType} {fin : Bool} (hf : FL X.1.cls idx ci j ty fin) (hsh : shp a = .inr (ci, ks)) (ha : a < NSH) (hk : ks[j]? = some (.inr false)) (hd : decode X.2.1 pc = .ok (.getfield idx, 3)) (hq : pc + 3 = q) (kk : BW p l e R s m args below meth c G A cells slots Q X M q lv (.int (M.1 a j) :: st)) : BW p l e R s m args below meth c G A cells slots Q X M pc lv (.ref a :: st) := by
  subst hq
  intro H locs ls hP hS hl
  obtain ⟨C, T, N, tt, ⟨h1, h2, h3, h4⟩, h5, h6, -, -⟩ := hf
  exact va_get (C := C) (T := T) (N := N) (ci := ci) (ref := (T j).1) hc.1 hc.2.1 hc.2.2.2.2.2.1 h2 hc.2.2.2.2.1 hc.2.2.2.2.2.2.2.1.K hP a ((wW_get G M ha).trans (by rw [wE_obj hsh])) h1 j h5 (hc.2.2.2.2.2.1 _ h6) (fun _ h9 => h9) (by rw [List.getElem?_mapIdx, hk]; rfl) hd (kk H locs ls hP hS hl)
theorem hb_getL (hc : CX p s m args meth c G A X) {idx a j ci : Nat} {ks : List (Nat ⊕ Bool)}  {ty : FieldType} {fin : Bool} (hf : FL X.1.cls idx ci j ty fin) (hsh : shp a = .inr (ci, ks)) (ha : a < NSH) (hk : ks[j]? = some (.inr true)) (hd : decode X.2.1 pc = .ok (.getfield idx, 3)) (hq : pc + 3 = q) (kk : BW p l e R s m args below meth c G A cells slots Q X M q lv (.long (M.2 a j) :: st)) : BW p l e R s m args below meth c G A cells slots Q X M pc lv (.ref a :: st) := by
  subst hq
  intro H locs ls hP hS hl
  obtain ⟨C, T, N, tt, ⟨h1, h2, h3, h4⟩, h5, h6, -, -⟩ := hf
  exact va_get (C := C) (T := T) (N := N) (ci := ci) (ref := (T j).1) hc.1 hc.2.1 hc.2.2.2.2.2.1 h2 hc.2.2.2.2.1 hc.2.2.2.2.2.2.2.1.K hP a ((wW_get G M ha).trans (by rw [wE_obj hsh])) h1 j h5 (hc.2.2.2.2.2.1 _ h6) (fun _ h9 => h9) (by rw [List.getElem?_mapIdx, hk]; rfl) hd (kk H locs ls hP hS hl)
theorem hb_getR (hc : CX p s m args meth c G A X) {idx a j ci : Nat} {ks : List (Nat ⊕ Bool)} {r : Nat} {ty : FieldType} {fin : Bool} (hf : FL X.1.cls idx ci j ty fin) (hsh : shp a = .inr (ci, ks)) (ha : a < NSH) (hk : ks[j]? = some (.inl r)) (hd : decode X.2.1 pc = .ok (.getfield idx, 3)) (hq : pc + 3 = q) (kk : BW p l e R s m args below meth c G A cells slots Q X M q lv (.ref r :: st)) : BW p l e R s m args below meth c G A cells slots Q X M pc lv (.ref a :: st) := by
  subst hq
  intro H locs ls hP hS hl
  obtain ⟨C, T, N, tt, ⟨h1, h2, h3, h4⟩, h5, h6, -, -⟩ := hf
  exact va_get (C := C) (T := T) (N := N) (ci := ci) (ref := (T j).1) hc.1 hc.2.1 hc.2.2.2.2.2.1 h2 hc.2.2.2.2.1 hc.2.2.2.2.2.2.2.1.K hP a ((wW_get G M ha).trans (by rw [wE_obj hsh])) h1 j h5 (hc.2.2.2.2.2.1 _ h6) (fun _ h9 => h9) (by rw [List.getElem?_mapIdx, hk]; rfl) hd (kk H locs ls hP hS hl)
theorem setI {G : Gm} {M : Mm} {a j : Nat} {ks : List (Nat ⊕ Bool)} {x : Int32} (hk : ks[j]? = some (.inr false)) : (ks.mapIdx (sv G M a)).set j (.int x) = ks.mapIdx (sv G (wI M a j x) a) := by
  apply List.ext_getElem?
  intro k
  have hl := (List.getElem?_eq_some_iff.mp hk).1
  by_cases h : k = j
  · subst h
    rw [List.getElem?_set_self (by simpa using hl), List.getElem?_mapIdx, hk]
    show _ = some (Value.int _)
    simp [wI]
  · rw [List.getElem?_set_ne (Ne.symm h), List.getElem?_mapIdx, List.getElem?_mapIdx]
    cases ks[k]? with
    | none => rfl
    | some z =>
      show some _ = some _
      congr 1
      rcases z with z | z
      · rfl
      · cases z
        · show Value.int _ = Value.int _
          simp [wI, h]
        · rfl
theorem setL {G : Gm} {M : Mm} {a j : Nat} {ks : List (Nat ⊕ Bool)} {x : Int64} (hk : ks[j]? = some (.inr true)) : (ks.mapIdx (sv G M a)).set j (.long x) = ks.mapIdx (sv G (wL M a j x) a) := by
  apply List.ext_getElem?
  intro k
  have hl := (List.getElem?_eq_some_iff.mp hk).1
  by_cases h : k = j
  · subst h
    rw [List.getElem?_set_self (by simpa using hl), List.getElem?_mapIdx, hk]
    show _ = some (Value.long _)
    simp [wL]
  · rw [List.getElem?_set_ne (Ne.symm h), List.getElem?_mapIdx, List.getElem?_mapIdx]
    cases ks[k]? with
    | none => rfl
    | some z =>
      show some _ = some _
      congr 1
      rcases z with z | z
      · rfl
      · cases z
        · rfl
        · show Value.long _ = Value.long _
          simp [wL, h]
theorem wI_off {G : Gm} {M : Mm} {a j i : Nat} {x : Int32} (h : i ≠ a) : wE G (wI M a j x) i = wE G M i := wE_off (wI_ne h) rfl
theorem wL_off {G : Gm} {M : Mm} {a j i : Nat} {x : Int64} (h : i ≠ a) : wE G (wL M a j x) i = wE G M i := wE_off rfl (wL_ne h)
theorem narZ {x : Int32} (h : x = 0 ∨ x = 1) : narrow .boolean (.int x) = .int x := by rcases h with rfl | rfl <;> decide
theorem hb_putI (hc : CX p s m args meth c G A X) {idx a j ci : Nat} {ks : List (Nat ⊕ Bool)} {x : Int32} (hf : FL X.1.cls idx ci j .int false) (hsh : shp a = .inr (ci, ks)) (ha : a < NSH) (hk : ks[j]? = some (.inr false))  (hd : decode X.2.1 pc = .ok (.putfield idx, 3)) (hq : pc + 3 = q) (kk : BW p l e R s m args below meth c G A cells slots Q X (wI M a j x) q lv st) : BW p l e R s m args below meth c G A cells slots Q X M pc lv (.int x :: .ref a :: st) := by
  subst hq
  intro H locs ls hP hS hl
  obtain ⟨C, T, N, tt, ⟨h1, h2, h3, h4⟩, h5, h6, h7, h8⟩ := hf
  have hl0 := (List.getElem?_eq_some_iff.mp hk).1
  refine va_put (C := C) (T := T) (N := N) (ci := ci) (ref := (T j).1) (ty := .int) (v := .int x) (fs := ks.mapIdx (sv G M a)) hc.1 hc.2.1 hc.2.2.2.2.2.1 h2 tt h4 h3 hc.2.2.2.2.1 hc.2.2.2.2.2.2.2.1.K hP (wW_D hc.2.2.2.2.2.2.2.2.1 hc.2.2.2.2.2.2.2.2.2) hS a ((wW_get G M ha).trans (by rw [wE_obj hsh])) h1 j h5 (hc.2.2.2.2.2.1 _ h6) (fun _ h9 => h9) h8 ((h4 j h5).trans (by rw [h7])) rfl rfl (by simpa using hl0) hd (fun H1 locs1 hP1 _ hS1 => kk H1 locs1 ls ?_ hS1 hl)
  rw [wW_set (M' := wI M a j x) ha (by rw [wE_obj hsh, setI hk]) (fun i hi => wI_off hi)] at hP1
  exact hP1
theorem hb_putZ (hc : CX p s m args meth c G A X) {idx a j ci : Nat} {ks : List (Nat ⊕ Bool)} {x : Int32} (hf : FL X.1.cls idx ci j .boolean false) (hsh : shp a = .inr (ci, ks)) (ha : a < NSH) (hk : ks[j]? = some (.inr false)) (hz : x = 0 ∨ x = 1) (hd : decode X.2.1 pc = .ok (.putfield idx, 3)) (hq : pc + 3 = q) (kk : BW p l e R s m args below meth c G A cells slots Q X (wI M a j x) q lv st) : BW p l e R s m args below meth c G A cells slots Q X M pc lv (.int x :: .ref a :: st) := by
  subst hq
  intro H locs ls hP hS hl
  obtain ⟨C, T, N, tt, ⟨h1, h2, h3, h4⟩, h5, h6, h7, h8⟩ := hf
  have hl0 := (List.getElem?_eq_some_iff.mp hk).1
  refine va_put (C := C) (T := T) (N := N) (ci := ci) (ref := (T j).1) (ty := .boolean) (v := .int x) (fs := ks.mapIdx (sv G M a)) hc.1 hc.2.1 hc.2.2.2.2.2.1 h2 tt h4 h3 hc.2.2.2.2.1 hc.2.2.2.2.2.2.2.1.K hP (wW_D hc.2.2.2.2.2.2.2.2.1 hc.2.2.2.2.2.2.2.2.2) hS a ((wW_get G M ha).trans (by rw [wE_obj hsh])) h1 j h5 (hc.2.2.2.2.2.1 _ h6) (fun _ h9 => h9) h8 ((h4 j h5).trans (by rw [h7])) (narZ hz) (by rcases hz with rfl | rfl <;> rfl) (by simpa using hl0) hd (fun H1 locs1 hP1 _ hS1 => kk H1 locs1 ls ?_ hS1 hl)
  rw [wW_set (M' := wI M a j x) ha (by rw [wE_obj hsh, setI hk]) (fun i hi => wI_off hi)] at hP1
  exact hP1
theorem hb_putL (hc : CX p s m args meth c G A X) {idx a j ci : Nat} {ks : List (Nat ⊕ Bool)} {x : Int64} (hf : FL X.1.cls idx ci j .long false) (hsh : shp a = .inr (ci, ks)) (ha : a < NSH) (hk : ks[j]? = some (.inr true))  (hd : decode X.2.1 pc = .ok (.putfield idx, 3)) (hq : pc + 3 = q) (kk : BW p l e R s m args below meth c G A cells slots Q X (wL M a j x) q lv st) : BW p l e R s m args below meth c G A cells slots Q X M pc lv (.long x :: .ref a :: st) := by
  subst hq
  intro H locs ls hP hS hl
  obtain ⟨C, T, N, tt, ⟨h1, h2, h3, h4⟩, h5, h6, h7, h8⟩ := hf
  have hl0 := (List.getElem?_eq_some_iff.mp hk).1
  refine va_put (C := C) (T := T) (N := N) (ci := ci) (ref := (T j).1) (ty := .long) (v := .long x) (fs := ks.mapIdx (sv G M a)) hc.1 hc.2.1 hc.2.2.2.2.2.1 h2 tt h4 h3 hc.2.2.2.2.1 hc.2.2.2.2.2.2.2.1.K hP (wW_D hc.2.2.2.2.2.2.2.2.1 hc.2.2.2.2.2.2.2.2.2) hS a ((wW_get G M ha).trans (by rw [wE_obj hsh])) h1 j h5 (hc.2.2.2.2.2.1 _ h6) (fun _ h9 => h9) h8 ((h4 j h5).trans (by rw [h7])) rfl rfl (by simpa using hl0) hd (fun H1 locs1 hP1 _ hS1 => kk H1 locs1 ls ?_ hS1 hl)
  rw [wW_set (M' := wL M a j x) ha (by rw [wE_obj hsh, setL hk]) (fun i hi => wL_off hi)] at hP1
  exact hP1
theorem hb_iald (hc : CX p s m args meth c G A X) {a n : Nat} {rs : List Nat} {i : Int32} (hsh : shp a = .inl (0, n, rs)) (ha : a < NSH) (hin : vp_in i n) (hd : decode X.2.1 pc = .ok (.iaload, 1)) (hq : pc + 1 = q) (kk : BW p l e R s m args below meth c G A cells slots Q X M q lv (.int (M.1 a i.toNatClampNeg) :: st)) : BW p l e R s m args below meth c G A cells slots Q X M pc lv (.int i :: .ref a :: st) := by
  subst hq
  intro H locs ls hP hS hl
  exact va_iald hc.1 hc.2.1 (hc.2.2.2.2.2.2.2.1.KA hsh ha) hP a 0 ((wW_get G M ha).trans (by rw [wE_arr hsh]; rfl)) rfl hin hd (kk H locs ls hP hS hl)
theorem hb_zald (hc : CX p s m args meth c G A X) {a n : Nat} {rs : List Nat} {i : Int32} (hsh : shp a = .inl (2, n, rs)) (ha : a < NSH) (hin : vp_in i n) (hd : decode X.2.1 pc = .ok (.baload, 1)) (hq : pc + 1 = q) (kk : BW p l e R s m args below meth c G A cells slots Q X M q lv (.int (M.1 a i.toNatClampNeg) :: st)) : BW p l e R s m args below meth c G A cells slots Q X M pc lv (.int i :: .ref a :: st) := by
  subst hq
  intro H locs ls hP hS hl
  exact va_zald hc.1 hc.2.1 (hc.2.2.2.2.2.2.2.1.KA hsh ha) hP a 0 ((wW_get G M ha).trans (by rw [wE_arr hsh]; rfl)) rfl hin hd (kk H locs ls hP hS hl)
theorem hb_lald (hc : CX p s m args meth c G A X) {a n : Nat} {rs : List Nat} {i : Int32} (hsh : shp a = .inl (1, n, rs)) (ha : a < NSH) (hin : vp_in i n) (hd : decode X.2.1 pc = .ok (.laload, 1)) (hq : pc + 1 = q) (kk : BW p l e R s m args below meth c G A cells slots Q X M q lv (.long (M.2 a i.toNatClampNeg) :: st)) : BW p l e R s m args below meth c G A cells slots Q X M pc lv (.int i :: .ref a :: st) := by
  subst hq
  intro H locs ls hP hS hl
  exact va_lald hc.1 hc.2.1 (hc.2.2.2.2.2.2.2.1.KA hsh ha) hP a 0 ((wW_get G M ha).trans (by rw [wE_arr hsh]; rfl)) rfl hin hd (kk H locs ls hP hS hl)
theorem hb_aald (hc : CX p s m args meth c G A X) {a n r : Nat} {rs : List Nat} {i : Int32} (hsh : shp a = .inl (3, n, rs)) (ha : a < NSH) (hin : vp_in i n) (hr : rs[i.toNatClampNeg]? = some r) (hd : decode X.2.1 pc = .ok (.aaload, 1)) (hq : pc + 1 = q) (kk : BW p l e R s m args below meth c G A cells slots Q X M q lv (.ref r :: st)) : BW p l e R s m args below meth c G A cells slots Q X M pc lv (.int i :: .ref a :: st) := by
  subst hq
  intro H locs ls hP hS hl
  refine va_aldq hc.1 hc.2.1 (hc.2.2.2.2.2.2.2.1.KA hsh ha) hP a 0 ((wW_get G M ha).trans (by rw [wE_arr hsh]; rfl)) rfl hin hd ?_
  rw [hr]
  exact kk H locs ls hP hS hl
theorem hb_alen (hc : CX p s m args meth c G A X) {a t n : Nat} {rs : List Nat} {v : Int32} (hsh : shp a = .inl (t, n, rs)) (ha : a < NSH) (hv : Int32.ofNat n = v) (hd : decode X.2.1 pc = .ok (.arraylength, 1)) (hq : pc + 1 = q) (kk : BW p l e R s m args below meth c G A cells slots Q X M q lv (.int v :: st)) : BW p l e R s m args below meth c G A cells slots Q X M pc lv (.ref a :: st) := by
  subst hq
  intro H locs ls hP hS hl
  refine va_alen hc.1 hc.2.1 (hc.2.2.2.2.2.2.2.1.KA hsh ha) hP a 0 ((wW_get G M ha).trans (by rw [wE_arr hsh])) rfl (v := v) ?_ hd (kk H locs ls hP hS hl)
  rw [← hv]
  unfold wA
  split <;> rfl
theorem hb_iast (hc : CX p s m args meth c G A X) {a n : Nat} {rs : List Nat} {i : Int32} {x : Int32} (hsh : shp a = .inl (0, n, rs)) (ha : a < NSH) (hin : vp_in i n)  (hd : decode X.2.1 pc = .ok (.iastore, 1)) (hq : pc + 1 = q) (kk : BW p l e R s m args below meth c G A cells slots Q X (wI M a i.toNatClampNeg x) q lv st) : BW p l e R s m args below meth c G A cells slots Q X M pc lv (.int x :: .int i :: .ref a :: st) := by
  subst hq
  intro H locs ls hP hS hl
  refine va_iast hc.1 hc.2.1 (hc.2.2.2.2.2.2.2.1.KA hsh ha) hP (wW_D hc.2.2.2.2.2.2.2.2.1 hc.2.2.2.2.2.2.2.2.2) hS a 0 ((wW_get G M ha).trans (by rw [wE_arr hsh]; rfl)) rfl hin hd (fun H1 locs1 hP1 _ hS1 => kk H1 locs1 ls ?_ hS1 hl)
  rw [wW_set (M' := wI M a i.toNatClampNeg x) ha (by rw [wE_arr hsh]; show _ = Sum.inl (_, n, Sum.inl ((wI M a i.toNatClampNeg x).1 a)); rw [wI_eq]) (fun i hi => wI_off hi)] at hP1
  exact hP1
theorem hb_last (hc : CX p s m args meth c G A X) {a n : Nat} {rs : List Nat} {i : Int32} {x : Int64} (hsh : shp a = .inl (1, n, rs)) (ha : a < NSH) (hin : vp_in i n)  (hd : decode X.2.1 pc = .ok (.lastore, 1)) (hq : pc + 1 = q) (kk : BW p l e R s m args below meth c G A cells slots Q X (wL M a i.toNatClampNeg x) q lv st) : BW p l e R s m args below meth c G A cells slots Q X M pc lv (.long x :: .int i :: .ref a :: st) := by
  subst hq
  intro H locs ls hP hS hl
  refine va_last hc.1 hc.2.1 (hc.2.2.2.2.2.2.2.1.KA hsh ha) hP (wW_D hc.2.2.2.2.2.2.2.2.1 hc.2.2.2.2.2.2.2.2.2) hS a 0 ((wW_get G M ha).trans (by rw [wE_arr hsh]; rfl)) rfl hin hd (fun H1 locs1 hP1 _ hS1 => kk H1 locs1 ls ?_ hS1 hl)
  rw [wW_set (M' := wL M a i.toNatClampNeg x) ha (by rw [wE_arr hsh]; show _ = Sum.inl (_, n, Sum.inr (Sum.inl ((wL M a i.toNatClampNeg x).2 a))); rw [wL_eq]) (fun i hi => wL_off hi)] at hP1
  exact hP1
theorem hb_zast (hc : CX p s m args meth c G A X) {a n : Nat} {rs : List Nat} {i : Int32} {x : Int32} (hsh : shp a = .inl (2, n, rs)) (ha : a < NSH) (hin : vp_in i n) (hz : x = 0 ∨ x = 1) (hd : decode X.2.1 pc = .ok (.bastore, 1)) (hq : pc + 1 = q) (kk : BW p l e R s m args below meth c G A cells slots Q X (wI M a i.toNatClampNeg x) q lv st) : BW p l e R s m args below meth c G A cells slots Q X M pc lv (.int x :: .int i :: .ref a :: st) := by
  subst hq
  intro H locs ls hP hS hl
  refine va_zast hc.1 hc.2.1 (hc.2.2.2.2.2.2.2.1.KA hsh ha) hP (wW_D hc.2.2.2.2.2.2.2.2.1 hc.2.2.2.2.2.2.2.2.2) hS a 0 ((wW_get G M ha).trans (by rw [wE_arr hsh]; rfl)) rfl hin hd (fun H1 locs1 hP1 _ hS1 => kk H1 locs1 ls ?_ hS1 hl)
  have hz2 : vp_nar .boolean x = x := by rcases hz with rfl | rfl <;> decide
  rw [hz2] at hP1
  rw [wW_set (M' := wI M a i.toNatClampNeg x) ha (by rw [wE_arr hsh]; show _ = Sum.inl (_, n, Sum.inl ((wI M a i.toNatClampNeg x).1 a)); rw [wI_eq]) (fun i hi => wI_off hi)] at hP1
  exact hP1
theorem cpI_off {G : Gm} {M : Mm} {sa sp da dp n i : Nat} (h : i ≠ da) : wE G (cpI M sa sp da dp n) i = wE G M i := wE_off (by funext k; simp [cpI, h]) rfl
theorem cpL_off {G : Gm} {M : Mm} {sa sp da dp n i : Nat} (h : i ≠ da) : wE G (cpL M sa sp da dp n) i = wE G M i := wE_off rfl (by funext k; simp [cpL, h])
theorem cpI_eq {M : Mm} {sa sp da dp n : Nat} : (cpI M sa sp da dp n).1 da = va_cpy (M.1 sa) (M.1 da) sp dp n := by funext k; simp [cpI]
theorem cpL_eq {M : Mm} {sa sp da dp n : Nat} : (cpL M sa sp da dp n).2 da = va_cpy (M.2 sa) (M.2 da) sp dp n := by funext k; simp [cpL]
def AY (own : String) (idx : Nat) : Prop := Cond.methodLink own idx arraycopyName ∈ GW ∧ Cond.native arraycopyName ∈ GW ∧ Cond.static arraycopyName ∈ GW ∧ Cond.initialized "java/lang/System" ∈ GW
theorem hb_copyI (hc : CX p s m args meth c G A X) {idx a0 n0 a1 n1 : Nat} {r0 r1 : List Nat} {sp dp n : Int32} (hy : AY X.1.cls idx) (hs0 : shp a0 = .inl (0, n0, r0)) (ha0 : a0 < NSH) (hs1 : shp a1 = .inl (0, n1, r1)) (ha1 : a1 < NSH) (h1 : ¬ sp < 0) (h2 : ¬ dp < 0) (h3 : ¬ n < 0) (h4 : sp.toNatClampNeg + n.toNatClampNeg ≤ n0) (h5 : dp.toNatClampNeg + n.toNatClampNeg ≤ n1) (hfr : 1 ≤ R.frames) (hlo : (st.map fun v => v.category).sum + 40 ≤ R.locals) (hd : decode X.2.1 pc = .ok (.invokestatic idx, 3)) (hq : pc + 3 = q) (kk : BW p l e R s m args below meth c G A cells slots Q X (cpI M a0 sp.toNatClampNeg a1 dp.toNatClampNeg n.toNatClampNeg) q lv st) : BW p l e R s m args below meth c G A cells slots Q X M pc lv (.int n :: .int dp :: .ref a1 :: .int sp :: .ref a0 :: st) := by
  subst hq
  intro H locs ls hP hS hl
  refine va_copyi hc.1 hc.2.1 (hc.2.2.2.1.trans hl.1.symm) hc.2.2.2.2.1 (hc.2.2.2.2.2.1 _ hy.1) (hc.2.2.2.2.2.1 _ hy.2.1) (hc.2.2.2.2.2.1 _ hy.2.2.1) (hc.2.2.2.2.2.1 _ hy.2.2.2) (hc.2.2.2.2.2.2.2.1.KA2 hs0 ha0 hs1 ha1) hP (wW_D hc.2.2.2.2.2.2.2.2.1 hc.2.2.2.2.2.2.2.2.2) hS a0 a1 0 1 ((wW_get G M ha0).trans (by rw [wE_arr hs0]; rfl)) ((wW_get G M ha1).trans (by rw [wE_arr hs1]; rfl)) rfl rfl rfl h1 h2 h3 h4 h5 (fun _ _ => rfl) hfr ?_ hd (fun H1 locs1 hP1 _ hS1 => kk H1 locs1 ls ?_ hS1 hl)
  · refine Nat.le_trans ?_ hlo
    rw [List.map_map]
    have e : ((fun v : Value => v.category) ∘ cvv G.2.1) = fun v => v.category := by funext v; exact cvv_cat _ v
    rw [e]
    exact Nat.add_le_add_left (by decide) _
  · rw [wW_set (M' := cpI M a0 sp.toNatClampNeg a1 dp.toNatClampNeg n.toNatClampNeg) ha1 (by rw [wE_arr hs1]; show _ = Sum.inl (_, n1, Sum.inl ((cpI M a0 sp.toNatClampNeg a1 dp.toNatClampNeg n.toNatClampNeg).1 a1)); rw [cpI_eq]) (fun i hi => cpI_off hi)] at hP1
    exact hP1
theorem hb_copyL (hc : CX p s m args meth c G A X) {idx a0 n0 a1 n1 : Nat} {r0 r1 : List Nat} {sp dp n : Int32} (hy : AY X.1.cls idx) (hs0 : shp a0 = .inl (1, n0, r0)) (ha0 : a0 < NSH) (hs1 : shp a1 = .inl (1, n1, r1)) (ha1 : a1 < NSH) (h1 : ¬ sp < 0) (h2 : ¬ dp < 0) (h3 : ¬ n < 0) (h4 : sp.toNatClampNeg + n.toNatClampNeg ≤ n0) (h5 : dp.toNatClampNeg + n.toNatClampNeg ≤ n1) (hfr : 1 ≤ R.frames) (hlo : (st.map fun v => v.category).sum + 40 ≤ R.locals) (hd : decode X.2.1 pc = .ok (.invokestatic idx, 3)) (hq : pc + 3 = q) (kk : BW p l e R s m args below meth c G A cells slots Q X (cpL M a0 sp.toNatClampNeg a1 dp.toNatClampNeg n.toNatClampNeg) q lv st) : BW p l e R s m args below meth c G A cells slots Q X M pc lv (.int n :: .int dp :: .ref a1 :: .int sp :: .ref a0 :: st) := by
  subst hq
  intro H locs ls hP hS hl
  refine va_copyl hc.1 hc.2.1 (hc.2.2.2.1.trans hl.1.symm) hc.2.2.2.2.1 (hc.2.2.2.2.2.1 _ hy.1) (hc.2.2.2.2.2.1 _ hy.2.1) (hc.2.2.2.2.2.1 _ hy.2.2.1) (hc.2.2.2.2.2.1 _ hy.2.2.2) (hc.2.2.2.2.2.2.2.1.KA2 hs0 ha0 hs1 ha1) hP (wW_D hc.2.2.2.2.2.2.2.2.1 hc.2.2.2.2.2.2.2.2.2) hS a0 a1 0 1 ((wW_get G M ha0).trans (by rw [wE_arr hs0]; rfl)) ((wW_get G M ha1).trans (by rw [wE_arr hs1]; rfl)) rfl rfl rfl h1 h2 h3 h4 h5 (fun _ _ => rfl) hfr ?_ hd (fun H1 locs1 hP1 _ hS1 => kk H1 locs1 ls ?_ hS1 hl)
  · refine Nat.le_trans ?_ hlo
    rw [List.map_map]
    have e : ((fun v : Value => v.category) ∘ cvv G.2.1) = fun v => v.category := by funext v; exact cvv_cat _ v
    rw [e]
    exact Nat.add_le_add_left (by decide) _
  · rw [wW_set (M' := cpL M a0 sp.toNatClampNeg a1 dp.toNatClampNeg n.toNatClampNeg) ha1 (by rw [wE_arr hs1]; show _ = Sum.inl (_, n1, Sum.inr (Sum.inl ((cpL M a0 sp.toNatClampNeg a1 dp.toNatClampNeg n.toNatClampNeg).2 a1))); rw [cpL_eq]) (fun i hi => cpL_off hi)] at hP1
    exact hP1
def MA (own : String) (idx : Nat) (nm : MethodName) (cd : ByteArray) (k : Nat) : Prop := Cond.methodLink own idx nm ∈ GW ∧ Cond.static nm ∈ GW ∧ Cond.initialized "java/lang/Math" ∈ GW ∧ Cond.code nm cd k (some .int) ∈ GW
theorem cats (ro : Nat → Nat) (st : List Value) : ((st.map (cvv ro)).map fun v => v.category).sum = (st.map fun v => v.category).sum := by
  rw [List.map_map]
  have e : ((fun v : Value => v.category) ∘ cvv ro) = fun v => v.category := by funext v; exact cvv_cat _ v
  rw [e]
theorem hb_mabs (hc : CX p s m args meth c G A X) {idx : Nat} {x : Int32} (hy : MA X.1.cls idx Lib.Math.abs.name Lib.Math.abs.code 1) (hfr : 1 ≤ R.frames) (hlo : (st.map fun v => v.category).sum + 13 ≤ R.locals) (hcs : cells ≤ R.cells ∧ slots ≤ R.slots) (hd : decode X.2.1 pc = .ok (.invokestatic idx, 3)) (hq : pc + 3 = q) (kk : BW p l e R s m args below meth c G A cells slots Q X M q lv (.int (if 0 ≤ x then x else 0 - x) :: st)) : BW p l e R s m args below meth c G A cells slots Q X M pc lv (.int x :: st) := by
  subst hq
  intro H locs ls hP hS hl
  exact va_mabs hc.1 hc.2.1 (hc.2.2.2.1.trans hl.1.symm) hc.2.2.2.2.1 (hc.2.2.2.2.2.1 _ hy.1) (hc.2.2.2.2.2.1 _ hy.2.1) (hc.2.2.2.2.2.1 _ hy.2.2.1) (hc.2.2.2.2.2.1 _ hy.2.2.2) hfr (by rw [cats]; exact hlo) hcs.1 hcs.2 hd (kk H locs ls hP hS hl)
theorem hb_mmax (hc : CX p s m args meth c G A X) {idx : Nat} {x y : Int32} (hy : MA X.1.cls idx Lib.Math.max.name Lib.Math.max.code 2) (hfr : 1 ≤ R.frames) (hlo : (st.map fun v => v.category).sum + 13 ≤ R.locals) (hcs : cells ≤ R.cells ∧ slots ≤ R.slots) (hd : decode X.2.1 pc = .ok (.invokestatic idx, 3)) (hq : pc + 3 = q) (kk : BW p l e R s m args below meth c G A cells slots Q X M q lv (.int (if x < y then y else x) :: st)) : BW p l e R s m args below meth c G A cells slots Q X M pc lv (.int y :: .int x :: st) := by
  subst hq
  intro H locs ls hP hS hl
  exact va_mmax hc.1 hc.2.1 (hc.2.2.2.1.trans hl.1.symm) hc.2.2.2.2.1 (hc.2.2.2.2.2.1 _ hy.1) (hc.2.2.2.2.2.1 _ hy.2.1) (hc.2.2.2.2.2.1 _ hy.2.2.1) (hc.2.2.2.2.2.1 _ hy.2.2.2) hfr (by rw [cats]; exact hlo) hcs.1 hcs.2 hd (kk H locs ls hP hS hl)
theorem hb_mmin (hc : CX p s m args meth c G A X) {idx : Nat} {x y : Int32} (hy : MA X.1.cls idx Lib.Math.min.name Lib.Math.min.code 2) (hfr : 1 ≤ R.frames) (hlo : (st.map fun v => v.category).sum + 13 ≤ R.locals) (hcs : cells ≤ R.cells ∧ slots ≤ R.slots) (hd : decode X.2.1 pc = .ok (.invokestatic idx, 3)) (hq : pc + 3 = q) (kk : BW p l e R s m args below meth c G A cells slots Q X M q lv (.int (if y < x then y else x) :: st)) : BW p l e R s m args below meth c G A cells slots Q X M pc lv (.int y :: .int x :: st) := by
  subst hq
  intro H locs ls hP hS hl
  exact va_mmin hc.1 hc.2.1 (hc.2.2.2.1.trans hl.1.symm) hc.2.2.2.2.1 (hc.2.2.2.2.2.1 _ hy.1) (hc.2.2.2.2.2.1 _ hy.2.1) (hc.2.2.2.2.2.1 _ hy.2.2.1) (hc.2.2.2.2.2.1 _ hy.2.2.2) hfr (by rw [cats]; exact hlo) hcs.1 hcs.2 hd (kk H locs ls hP hS hl)
end HB
end
section
/-! CONTRACTS over the abstract memory: AC d Y vs M Q: method Y, called at vs with memory M and room for d frames, comes back with Q. -/
def RM (d : Nat) : Room := { frames := d, cells := 0, slots := 0, locals := 40 * d }
def wd (Y : Md) : List Cond := Cond.code Y.1 Y.2.1 Y.2.2.1 Y.2.2.2 :: GW
abbrev Qt : Type := Gm → Array Value → State → Outcome → State → Prop
def QI (K : Int32 → Mm → Prop) : Qt := fun G => va_Qi K (fun M' t => va_P G.1 classes (wW G M') t.heap) (FA G)
def QL (K : Int64 → Mm → Prop) : Qt := fun G => va_Ql K (fun M' t => va_P G.1 classes (wW G M') t.heap) (FA G)
def QV (K : Mm → Prop) : Qt := fun G => va_Qv K (fun M' t => va_P G.1 classes (wW G M') t.heap) (FA G)
def QR (K : Option Nat → Mm → Prop) : Qt := fun G => va_Qq (fun r M' => ∃ a : Option Nat, r = a.map G.2.1 ∧ K a M') (fun M' t => va_P G.1 classes (wW G M') t.heap) (FA G)
def PC (G : Gm) (vs : List Value) (M : Mm) : Array Value → State → Prop := va_Pc (vs.map (cvv G.2.1)) (fun U => va_P G.1 classes (wW G M) U.heap ∧ KK G (FA G) U U.heap)
def AC (d : Nat) (Y : Md) (vs : List Value) (M : Mm) (Qk : Qt) : Prop := ∀ (l : Launch) (G : Gm), DD G → Met l Y.1 (wd Y) (RM d) (PC G vs M) (Qk G) 0 0 (FA G)
abbrev ACi (d : Nat) (Y : Md) (vs : List Value) (M : Mm) (K : Int32 → Mm → Prop) : Prop := AC d Y vs M (QI K)
abbrev ACl (d : Nat) (Y : Md) (vs : List Value) (M : Mm) (K : Int64 → Mm → Prop) : Prop := AC d Y vs M (QL K)
abbrev ACv (d : Nat) (Y : Md) (vs : List Value) (M : Mm) (K : Mm → Prop) : Prop := AC d Y vs M (QV K)
abbrev ACr (d : Nat) (Y : Md) (vs : List Value) (M : Mm) (K : Option Nat → Mm → Prop) : Prop := AC d Y vs M (QR K)
def AW (d : Nat) (X : Md) (M : Mm) (pc : Nat) (lv : List (Option Value)) (st : List Value) (Qk : Qt) : Prop :=
  ∀ (p : Program) (l : Launch) (e : Env) (s : State) (m : MethodId) (args : Array Value) (below : List Frame) (meth : Method) (c : Code) (G : Gm), CX p s m args meth c G (FA G) X → BW p l e (RM d) s m args below meth c G (FA G) 0 0 (MQ below (Qk G) args s 0 0 (FA G)) X M pc lv st
def lvArgs : List Value → List (Option Value)
  | [] => []
  | v :: vs => if v.category = 2 then some v :: none :: lvArgs vs else some v :: lvArgs vs
theorem lvArgs_in (ro : Nat → Nat) : ∀ (vs : List Value) (k i : Nat) (w : Value), (lvArgs vs)[i]? = some (some w) → (k + i, cvv ro w) ∈ lv_args k (vs.map (cvv ro))
  | [], k, i, w, h => by simp [lvArgs] at h
  | v :: vs, k, i, w, h => by
    unfold lvArgs at h
    rw [List.map_cons, lv_args, cvv_cat]
    by_cases hc : v.category = 2
    · rw [if_pos hc] at h
      rw [if_pos hc]
      match i, h with
      | 0, h =>
        simp only [List.getElem?_cons_zero, Option.some.injEq] at h
        subst h
        exact List.mem_cons_self
      | 1, h => simp at h
      | i + 2, h =>
        simp only [List.getElem?_cons_succ] at h
        have := lvArgs_in ro vs (k + 2) i w h
        rw [show k + (i + 2) = k + 2 + i by omega]
        exact List.mem_cons_of_mem _ this
    · rw [if_neg hc] at h
      rw [if_neg hc]
      match i, h with
      | 0, h =>
        simp only [List.getElem?_cons_zero, Option.some.injEq] at h
        subst h
        exact List.mem_cons_self
      | i + 1, h =>
        simp only [List.getElem?_cons_succ] at h
        have := lvArgs_in ro vs (k + 1) i w h
        rw [show k + (i + 1) = k + 1 + i by omega]
        exact List.mem_cons_of_mem _ this
theorem lg_sl_len (ro : Nat → Nat) : ∀ vs : List Value, (lg_sl (vs.map (cvv ro))).length = (lg_sl vs).length
  | [] => rfl
  | v :: vs => by
    have ih := lg_sl_len ro vs
    unfold lg_sl at ih ⊢
    rw [List.map_cons, List.flatMap_cons, List.flatMap_cons, List.length_append, List.length_append, ih]
    congr 1
    cases v <;> rfl
/-- a contract out of a walk from the entry -/
theorem AC.ofW {d : Nat} {Y : Md} {vs : List Value} {M : Mm} {Qk : Qt} {lv : List (Option Value)} (hy : plainName Y.1.cls = true) (hn : (lg_sl vs).length ≤ Y.2.2.1) (hlv : lvLe lv (lvArgs vs)) (h : AW d Y M 0 lv [] Qk) : AC d Y vs M Qk := by
  intro l G hD
  refine Met.ofW (cc := Y.2.1) (maxL := Y.2.2.1) (ret := Y.2.2.2) hy rfl ?_
  intro p e s m args below meth c s₁ B hml hv
  obtain ⟨rfl, hP, hK⟩ := hv
  have hts := atoms_spec (ws := wd Y) B.pre
  have hC : CX p s m (vs.map (cvv G.2.1)).toArray meth c G (FA G) Y := ⟨B.exec, B.bytes, B.returns, hml, findClass_of_methodNamed B.named, fun w hw => hts w (List.mem_cons_of_mem _ hw), B.notSynchronized, hK, hD, fun i hi => ⟨i, hi, rfl⟩⟩
  have hl := lv_entry (vs.map (cvv G.2.1)) (n := Y.2.2.1) (by rw [lg_sl_len]; exact hn)
  rw [lg_entry_eq]
  exact h p l e s m _ below meth c G hC s.heap [] _ hP va_S.rf ⟨hl.1, hl.2.1, fun i w hw => by
    have h1 := lvArgs_in G.2.1 vs 0 i w (lvLe_at lv _ hlv i w hw)
    rw [Nat.zero_add] at h1
    exact hl.2.2 _ h1⟩
section HC
variable {p : Program} {l : Launch} {e : Env} {R : Room} {s : State} {m : MethodId} {args : Array Value} {below : List Frame} {meth : Method} {c : Code} {G : Gm} {A : Nat → Prop} {cells slots : Nat} {Q : State → Prop} {X : Md} {M : Mm} {pc q : Nat} {lv lv' : List (Option Value)} {st st0 : List Value}
def MV (own : String) (idx : Nat) (Y : Md) (n : Nat) : Prop := Cond.methodLink own idx Y.1 ∈ GW ∧ Cond.instanceMethod Y.1 ∈ GW ∧ Cond.selects Y.1.cls Y.1 Y.1 ∈ GW ∧ Cond.initialized Y.1.cls ∈ GW ∧ Cond.code Y.1 Y.2.1 Y.2.2.1 Y.2.2.2 ∈ GW ∧ (Y.1.cls ≠ "java/lang/invoke/MethodHandle" ∧ Y.1.cls ≠ "java/lang/invoke/VarHandle" ∧ (parseMethodDescriptor Y.1.desc).map (fun d => d.parameters.length) = some n) ∧ Y.2.2.1 ≤ 21
def MS (own : String) (idx : Nat) (Y : Md) (n : Nat) : Prop := Cond.methodLink own idx Y.1 ∈ GW ∧ Cond.static Y.1 ∈ GW ∧ Cond.initialized Y.1.cls ∈ GW ∧ Cond.code Y.1 Y.2.1 Y.2.2.1 Y.2.2.2 ∈ GW ∧ (Y.1.cls ≠ "java/lang/invoke/MethodHandle" ∧ Y.1.cls ≠ "java/lang/invoke/VarHandle" ∧ (parseMethodDescriptor Y.1.desc).map (fun d => d.parameters.length) = some n) ∧ Y.2.2.1 ≤ 21
theorem gwgood {ws : List Cond} (h : ∀ w ∈ ws, w ∈ GW) : GoodIn GW ws := fun w hw => ⟨h w hw, good_of_word (List.mem_filter.mp (h w hw)).2⟩
theorem wd_in {Y : Md} (h : Cond.code Y.1 Y.2.1 Y.2.2.1 Y.2.2.2 ∈ GW) : ∀ w ∈ wd Y, w ∈ GW := fun w hw => by
  rcases List.mem_cons.mp hw with rfl | hw
  · exact h
  · exact hw
theorem PC_blind (G : Gm) (vs : List Value) (M : Mm) : FrameBlind (PC G vs M) := fun a U g mk h => ⟨h.1, h.2.1, KK.same (U := U.calling g mk a) (u := U) h.2.2 rfl⟩
theorem PC_of (hc : CX p s m args meth c G A X) {vs : List Value} {H : Heap} {locs : List Loc} (hP : va_P G.1 classes (wW G M) H) (hS : va_S A s.heap H locs) (U : State) (hU : U.heap = H) (hW : s.WarmedH U.vm) : PC G vs M (vs.map (cvv G.2.1)).toArray U := by
  refine ⟨rfl, by rw [hU]; exact hP, ?_⟩
  rw [hU]
  exact KK.go hc.2.2.2.2.2.2.2.1 hW (fun q hq => by obtain ⟨i, hi, rfl⟩ := hq; exact hc.2.2.2.2.2.2.2.2.2 i hi) hS.2.1
theorem hb_runV (hc : CX p s m args meth c G A X) {idx n b ci d : Nat} {Y : Md} {vs : List Value} {ks : List (Nat ⊕ Bool)} {T : u_T} {N : Nat} {Qk : Qt} {H : Heap} {locs : List Loc} {ls : Array Slot} (hm : MV X.1.cls idx Y n) (hac : AC d Y (.ref b :: vs) M Qk) (hsh : shp b = .inr (ci, ks)) (hb : b < NSH) (hcl : classes[ci]? = some (Y.1.cls, T, N)) (hn : vs.length = n) (hst : st0 = vs.reverse ++ .ref b :: st) (hw : (st.map fun v => v.category).sum ≤ 8) (hR : d + 1 ≤ R.frames ∧ 40 * d + 40 ≤ R.locals) (hcs : cells ≤ R.cells ∧ slots ≤ R.slots) (hd : decode X.2.1 pc = .ok (.invokevirtual idx, 3))
    (hP : va_P G.1 classes (wW G M) H) (hS : va_S A s.heap H locs) (hl : LH ls X.2.2.1 G.2.1 lv) :
    va_Run p l e R s m args below meth c H locs cells slots 0 0 (F0 m pc ls (st0.map (cvv G.2.1))) (st.map (cvv G.2.1)) (Qk G (Value.ref (G.2.1 b) :: vs.map (cvv G.2.1)).toArray) (FA G) := by
  obtain ⟨m1, m2, m3, m4, m5, m6, m7⟩ := hm
  refine va_runV (Ts := GW) (own := X.1.cls) (C := Y.1.cls) (As := vs.map (cvv G.2.1)) (rest := st.map (cvv G.2.1)) ⟨hc.1, hc.2.1, hc.2.2.2.1, hc.2.2.2.2.1, hc.2.2.2.2.2.1⟩ (hac l G hc.2.2.2.2.2.2.2.2.1) (cwV n hc.2.2.2.2.2.1 (gwgood (fun w hw => ?_)) rfl rfl rfl ⟨rfl, m6⟩ ⟨hR.1, ?_⟩) ⟨PC_blind _ _ _, va_recv hc.2.2.2.2.2.2.2.1.K hP hcl ((wW_get G M hb).trans (by rw [wE_obj hsh])), fun U hU hW => PC_of hc (vs := .ref b :: vs) hP hS U hU hW⟩ rfl (by rw [List.length_map]; exact hn) hl.1 ?_ (lv_room (by rw [cats]; exact hw)) hd hcs
  · rcases List.mem_append.mp hw with h | h
    · simp only [List.mem_cons, List.not_mem_nil, or_false] at h
      rcases h with rfl | rfl | rfl | rfl
      · exact m1
      · exact m2
      · exact m3
      · exact m4
    · exact wd_in m5 w h
  · show 8 + (Y.2.2.1 + 11) + 40 * d ≤ R.locals
    omega
  · show st0.map (cvv G.2.1) = _
    rw [hst, List.map_append, List.map_reverse]
    rfl
theorem hb_runS (hc : CX p s m args meth c G A X) {idx n d : Nat} {Y : Md} {vs : List Value} {Qk : Qt} {H : Heap} {locs : List Loc} {ls : Array Slot} (hm : MS X.1.cls idx Y n) (hac : AC d Y vs M Qk) (hn : vs.length = n) (hst : st0 = vs.reverse ++ st) (hw : (st.map fun v => v.category).sum ≤ 8) (hR : d + 1 ≤ R.frames ∧ 40 * d + 40 ≤ R.locals) (hcs : cells ≤ R.cells ∧ slots ≤ R.slots) (hd : decode X.2.1 pc = .ok (.invokestatic idx, 3))
    (hP : va_P G.1 classes (wW G M) H) (hS : va_S A s.heap H locs) (hl : LH ls X.2.2.1 G.2.1 lv) :
    va_Run p l e R s m args below meth c H locs cells slots 0 0 (F0 m pc ls (st0.map (cvv G.2.1))) (st.map (cvv G.2.1)) (Qk G (vs.map (cvv G.2.1)).toArray) (FA G) := by
  obtain ⟨m1, m2, m4, m5, m6, m7⟩ := hm
  refine va_runS (Ts := GW) (own := X.1.cls) (As := vs.map (cvv G.2.1)) (rest := st.map (cvv G.2.1)) ⟨hc.1, hc.2.1, hc.2.2.2.1, hc.2.2.2.2.1, hc.2.2.2.2.2.1⟩ (hac l G hc.2.2.2.2.2.2.2.2.1) (va_cwS n hc.2.2.2.2.2.1 (gwgood (fun w hw => ?_)) rfl rfl rfl m6 ⟨hR.1, ?_⟩) ⟨PC_blind _ _ _, fun U hU hW => PC_of hc hP hS U hU hW⟩ rfl (by rw [List.length_map]; exact hn) hl.1 ?_ (lv_room (by rw [cats]; exact hw)) hd hcs
  · rcases List.mem_append.mp hw with h | h
    · simp only [List.mem_cons, List.not_mem_nil, or_false] at h
      rcases h with rfl | rfl | rfl
      · exact m1
      · exact m2
      · exact m4
    · exact wd_in m5 w h
  · show 8 + (Y.2.2.1 + 11) + 40 * d ≤ R.locals
    omega
  · show st0.map (cvv G.2.1) = _
    rw [hst, List.map_append, List.map_reverse]
/-- a nest mate's private static method: lightsIn -/
theorem hb_runN (hc : CX p s m args meth c G A X) {idx n d : Nat} {Y : Md} {vs : List Value} {Qk : Qt} {H : Heap} {locs : List Loc} {ls : Array Slot} (hnw : KK G A s s.heap → va_Nw (.methodLinkNest X.1.cls idx Y.1 RX8) s) (hm : Cond.static Y.1 ∈ GW ∧ Cond.initialized Y.1.cls ∈ GW ∧ Cond.code Y.1 Y.2.1 Y.2.2.1 Y.2.2.2 ∈ GW ∧ (Y.1.cls ≠ "java/lang/invoke/MethodHandle" ∧ Y.1.cls ≠ "java/lang/invoke/VarHandle" ∧ (parseMethodDescriptor Y.1.desc).map (fun d => d.parameters.length) = some n) ∧ Y.2.2.1 ≤ 21) (hac : AC d Y vs M Qk) (hn : vs.length = n) (hst : st0 = vs.reverse ++ st) (hw : (st.map fun v => v.category).sum ≤ 8) (hR : d + 1 ≤ R.frames ∧ 40 * d + 40 ≤ R.locals) (hcs : cells ≤ R.cells ∧ slots ≤ R.slots) (hd : decode X.2.1 pc = .ok (.invokestatic idx, 3))
    (hP : va_P G.1 classes (wW G M) H) (hS : va_S A s.heap H locs) (hl : LH ls X.2.2.1 G.2.1 lv) :
    va_Run p l e R s m args below meth c H locs cells slots 0 0 (F0 m pc ls (st0.map (cvv G.2.1))) (st.map (cvv G.2.1)) (Qk G (vs.map (cvv G.2.1)).toArray) (FA G) := by
  obtain ⟨m2, m4, m5, m6, m7⟩ := hm
  refine va_runSN (Ts := GW) (own := X.1.cls) (As := vs.map (cvv G.2.1)) (rest := st.map (cvv G.2.1)) ⟨hc.1, hc.2.1, hc.2.2.2.1, hc.2.2.2.2.1, hc.2.2.2.2.2.1⟩ (hac l G hc.2.2.2.2.2.2.2.2.1) ⟨va_cnB n hc.2.2.2.2.2.1 (gwgood (wd_in m5)) rfl rfl rfl (hnw hc.2.2.2.2.2.2.2.1) (hc.2.2.2.2.2.1 _ m4) m6 ⟨hR.1, ?_⟩, hc.2.2.2.2.2.1 _ m2, trivial⟩ ⟨PC_blind _ _ _, fun U hU hW => PC_of hc hP hS U hU hW⟩ rfl (by rw [List.length_map]; exact hn) hl.1 ?_ (lv_room (by rw [cats]; exact hw)) hd hcs
  · show 8 + (Y.2.2.1 + 11) + 40 * d ≤ R.locals
    omega
  · show st0.map (cvv G.2.1) = _
    rw [hst, List.map_append, List.map_reverse]

theorem hb_callVi (hc : CX p s m args meth c G A X) {idx n b ci d : Nat} {Y : Md} {vs : List Value} {ks : List (Nat ⊕ Bool)} {T : u_T} {N : Nat} {K : Int32 → Mm → Prop} (hm : MV X.1.cls idx Y n) (hac : AC d Y (.ref b :: vs) M (QI K)) (hsh : shp b = .inr (ci, ks)) (hb : b < NSH) (hcl : classes[ci]? = some (Y.1.cls, T, N)) (hn : vs.length = n) (hst : st0 = vs.reverse ++ .ref b :: st) (hw : (st.map fun v => v.category).sum ≤ 8) (hR : d + 1 ≤ R.frames ∧ 40 * d + 40 ≤ R.locals) (hcs : cells ≤ R.cells ∧ slots ≤ R.slots) (hd : decode X.2.1 pc = .ok (.invokevirtual idx, 3)) (hq : pc + 3 = q) (kk : ∀ (x : Int32) (M' : Mm), K x M' → BW p l e R s m args below meth c G A cells slots Q X M' q lv (.int x :: st)) : BW p l e R s m args below meth c G A cells slots Q X M pc lv st0 := by
  subst hq
  intro H locs ls hP hS hl
  refine va_calli (hb_runV hc hm hac hsh hb hcl hn hst hw hR hcs hd hP hS hl) hS (fun z _ hz => by obtain ⟨i, hi, rfl⟩ := hz; exact hc.2.2.2.2.2.2.2.2.2 i hi) (fun z hz => by obtain ⟨i, hi, rfl⟩ := hz; exact hc.2.2.2.2.2.2.2.2.2 i hi) (fun r u t H1 locs1 ht hvm hpost hB hz hk hS1 => ?_)
  exact kk r u hpost H1 locs1 ls (by rw [← ht]; exact hB) hS1 hl
theorem hb_callSi (hc : CX p s m args meth c G A X) {idx n d : Nat} {Y : Md} {vs : List Value} {K : Int32 → Mm → Prop} (hm : MS X.1.cls idx Y n) (hac : AC d Y vs M (QI K))  (hn : vs.length = n) (hst : st0 = vs.reverse ++ st) (hw : (st.map fun v => v.category).sum ≤ 8) (hR : d + 1 ≤ R.frames ∧ 40 * d + 40 ≤ R.locals) (hcs : cells ≤ R.cells ∧ slots ≤ R.slots) (hd : decode X.2.1 pc = .ok (.invokestatic idx, 3)) (hq : pc + 3 = q) (kk : ∀ (x : Int32) (M' : Mm), K x M' → BW p l e R s m args below meth c G A cells slots Q X M' q lv (.int x :: st)) : BW p l e R s m args below meth c G A cells slots Q X M pc lv st0 := by
  subst hq
  intro H locs ls hP hS hl
  refine va_calli (hb_runS hc hm hac hn hst hw hR hcs hd hP hS hl) hS (fun z _ hz => by obtain ⟨i, hi, rfl⟩ := hz; exact hc.2.2.2.2.2.2.2.2.2 i hi) (fun z hz => by obtain ⟨i, hi, rfl⟩ := hz; exact hc.2.2.2.2.2.2.2.2.2 i hi) (fun r u t H1 locs1 ht hvm hpost hB hz hk hS1 => ?_)
  exact kk r u hpost H1 locs1 ls (by rw [← ht]; exact hB) hS1 hl
theorem hb_callNi (hc : CX p s m args meth c G A X) {idx n d : Nat} {Y : Md} {vs : List Value} {K : Int32 → Mm → Prop} (hnw : KK G A s s.heap → va_Nw (.methodLinkNest X.1.cls idx Y.1 RX8) s) (hm : Cond.static Y.1 ∈ GW ∧ Cond.initialized Y.1.cls ∈ GW ∧ Cond.code Y.1 Y.2.1 Y.2.2.1 Y.2.2.2 ∈ GW ∧ (Y.1.cls ≠ "java/lang/invoke/MethodHandle" ∧ Y.1.cls ≠ "java/lang/invoke/VarHandle" ∧ (parseMethodDescriptor Y.1.desc).map (fun d => d.parameters.length) = some n) ∧ Y.2.2.1 ≤ 21) (hac : AC d Y vs M (QI K))  (hn : vs.length = n) (hst : st0 = vs.reverse ++ st) (hw : (st.map fun v => v.category).sum ≤ 8) (hR : d + 1 ≤ R.frames ∧ 40 * d + 40 ≤ R.locals) (hcs : cells ≤ R.cells ∧ slots ≤ R.slots) (hd : decode X.2.1 pc = .ok (.invokestatic idx, 3)) (hq : pc + 3 = q) (kk : ∀ (x : Int32) (M' : Mm), K x M' → BW p l e R s m args below meth c G A cells slots Q X M' q lv (.int x :: st)) : BW p l e R s m args below meth c G A cells slots Q X M pc lv st0 := by
  subst hq
  intro H locs ls hP hS hl
  refine va_calli (hb_runN hc hnw hm hac hn hst hw hR hcs hd hP hS hl) hS (fun z _ hz => by obtain ⟨i, hi, rfl⟩ := hz; exact hc.2.2.2.2.2.2.2.2.2 i hi) (fun z hz => by obtain ⟨i, hi, rfl⟩ := hz; exact hc.2.2.2.2.2.2.2.2.2 i hi) (fun r u t H1 locs1 ht hvm hpost hB hz hk hS1 => ?_)
  exact kk r u hpost H1 locs1 ls (by rw [← ht]; exact hB) hS1 hl
theorem hb_callVl (hc : CX p s m args meth c G A X) {idx n b ci d : Nat} {Y : Md} {vs : List Value} {ks : List (Nat ⊕ Bool)} {T : u_T} {N : Nat} {K : Int64 → Mm → Prop} (hm : MV X.1.cls idx Y n) (hac : AC d Y (.ref b :: vs) M (QL K)) (hsh : shp b = .inr (ci, ks)) (hb : b < NSH) (hcl : classes[ci]? = some (Y.1.cls, T, N)) (hn : vs.length = n) (hst : st0 = vs.reverse ++ .ref b :: st) (hw : (st.map fun v => v.category).sum ≤ 8) (hR : d + 1 ≤ R.frames ∧ 40 * d + 40 ≤ R.locals) (hcs : cells ≤ R.cells ∧ slots ≤ R.slots) (hd : decode X.2.1 pc = .ok (.invokevirtual idx, 3)) (hq : pc + 3 = q) (kk : ∀ (x : Int64) (M' : Mm), K x M' → BW p l e R s m args below meth c G A cells slots Q X M' q lv (.long x :: st)) : BW p l e R s m args below meth c G A cells slots Q X M pc lv st0 := by
  subst hq
  intro H locs ls hP hS hl
  refine va_calll (hb_runV hc hm hac hsh hb hcl hn hst hw hR hcs hd hP hS hl) hS (fun z _ hz => by obtain ⟨i, hi, rfl⟩ := hz; exact hc.2.2.2.2.2.2.2.2.2 i hi) (fun z hz => by obtain ⟨i, hi, rfl⟩ := hz; exact hc.2.2.2.2.2.2.2.2.2 i hi) (fun r u t H1 locs1 ht hvm hpost hB hz hk hS1 => ?_)
  exact kk r u hpost H1 locs1 ls (by rw [← ht]; exact hB) hS1 hl
theorem hb_callSl (hc : CX p s m args meth c G A X) {idx n d : Nat} {Y : Md} {vs : List Value} {K : Int64 → Mm → Prop} (hm : MS X.1.cls idx Y n) (hac : AC d Y vs M (QL K))  (hn : vs.length = n) (hst : st0 = vs.reverse ++ st) (hw : (st.map fun v => v.category).sum ≤ 8) (hR : d + 1 ≤ R.frames ∧ 40 * d + 40 ≤ R.locals) (hcs : cells ≤ R.cells ∧ slots ≤ R.slots) (hd : decode X.2.1 pc = .ok (.invokestatic idx, 3)) (hq : pc + 3 = q) (kk : ∀ (x : Int64) (M' : Mm), K x M' → BW p l e R s m args below meth c G A cells slots Q X M' q lv (.long x :: st)) : BW p l e R s m args below meth c G A cells slots Q X M pc lv st0 := by
  subst hq
  intro H locs ls hP hS hl
  refine va_calll (hb_runS hc hm hac hn hst hw hR hcs hd hP hS hl) hS (fun z _ hz => by obtain ⟨i, hi, rfl⟩ := hz; exact hc.2.2.2.2.2.2.2.2.2 i hi) (fun z hz => by obtain ⟨i, hi, rfl⟩ := hz; exact hc.2.2.2.2.2.2.2.2.2 i hi) (fun r u t H1 locs1 ht hvm hpost hB hz hk hS1 => ?_)
  exact kk r u hpost H1 locs1 ls (by rw [← ht]; exact hB) hS1 hl
theorem hb_callVv (hc : CX p s m args meth c G A X) {idx n b ci d : Nat} {Y : Md} {vs : List Value} {ks : List (Nat ⊕ Bool)} {T : u_T} {N : Nat} {K : Mm → Prop} (hm : MV X.1.cls idx Y n) (hac : AC d Y (.ref b :: vs) M (QV K)) (hsh : shp b = .inr (ci, ks)) (hb : b < NSH) (hcl : classes[ci]? = some (Y.1.cls, T, N)) (hn : vs.length = n) (hst : st0 = vs.reverse ++ .ref b :: st) (hw : (st.map fun v => v.category).sum ≤ 8) (hR : d + 1 ≤ R.frames ∧ 40 * d + 40 ≤ R.locals) (hcs : cells ≤ R.cells ∧ slots ≤ R.slots) (hd : decode X.2.1 pc = .ok (.invokevirtual idx, 3)) (hq : pc + 3 = q) (kk : ∀ (M' : Mm), K M' → BW p l e R s m args below meth c G A cells slots Q X M' q lv st) : BW p l e R s m args below meth c G A cells slots Q X M pc lv st0 := by
  subst hq
  intro H locs ls hP hS hl
  refine va_callv (hb_runV hc hm hac hsh hb hcl hn hst hw hR hcs hd hP hS hl) hS (fun z _ hz => by obtain ⟨i, hi, rfl⟩ := hz; exact hc.2.2.2.2.2.2.2.2.2 i hi) (fun z hz => by obtain ⟨i, hi, rfl⟩ := hz; exact hc.2.2.2.2.2.2.2.2.2 i hi) (fun u t H1 locs1 ht hvm hpost hB hz hk hS1 => ?_)
  exact kk u hpost H1 locs1 ls (by rw [← ht]; exact hB) hS1 hl
theorem hb_callSv (hc : CX p s m args meth c G A X) {idx n d : Nat} {Y : Md} {vs : List Value} {K : Mm → Prop} (hm : MS X.1.cls idx Y n) (hac : AC d Y vs M (QV K))  (hn : vs.length = n) (hst : st0 = vs.reverse ++ st) (hw : (st.map fun v => v.category).sum ≤ 8) (hR : d + 1 ≤ R.frames ∧ 40 * d + 40 ≤ R.locals) (hcs : cells ≤ R.cells ∧ slots ≤ R.slots) (hd : decode X.2.1 pc = .ok (.invokestatic idx, 3)) (hq : pc + 3 = q) (kk : ∀ (M' : Mm), K M' → BW p l e R s m args below meth c G A cells slots Q X M' q lv st) : BW p l e R s m args below meth c G A cells slots Q X M pc lv st0 := by
  subst hq
  intro H locs ls hP hS hl
  refine va_callv (hb_runS hc hm hac hn hst hw hR hcs hd hP hS hl) hS (fun z _ hz => by obtain ⟨i, hi, rfl⟩ := hz; exact hc.2.2.2.2.2.2.2.2.2 i hi) (fun z hz => by obtain ⟨i, hi, rfl⟩ := hz; exact hc.2.2.2.2.2.2.2.2.2 i hi) (fun u t H1 locs1 ht hvm hpost hB hz hk hS1 => ?_)
  exact kk u hpost H1 locs1 ls (by rw [← ht]; exact hB) hS1 hl
theorem hb_callVr (hc : CX p s m args meth c G A X) {idx n b ci d : Nat} {Y : Md} {vs : List Value} {ks : List (Nat ⊕ Bool)} {T : u_T} {N : Nat} {K : Option Nat → Mm → Prop} (hm : MV X.1.cls idx Y n) (hac : AC d Y (.ref b :: vs) M (QR K)) (hsh : shp b = .inr (ci, ks)) (hb : b < NSH) (hcl : classes[ci]? = some (Y.1.cls, T, N)) (hn : vs.length = n) (hst : st0 = vs.reverse ++ .ref b :: st) (hw : (st.map fun v => v.category).sum ≤ 8) (hR : d + 1 ≤ R.frames ∧ 40 * d + 40 ≤ R.locals) (hcs : cells ≤ R.cells ∧ slots ≤ R.slots) (hd : decode X.2.1 pc = .ok (.invokevirtual idx, 3)) (hq : pc + 3 = q) (kn : ∀ (M' : Mm), K none M' → BW p l e R s m args below meth c G A cells slots Q X M' q lv (.null :: st)) (ks : ∀ (x : Nat) (M' : Mm), K (some x) M' → BW p l e R s m args below meth c G A cells slots Q X M' q lv (.ref x :: st)) : BW p l e R s m args below meth c G A cells slots Q X M pc lv st0 := by
  subst hq
  intro H locs ls hP hS hl
  refine va_callq (hb_runV hc hm hac hsh hb hcl hn hst hw hR hcs hd hP hS hl) hS (fun z _ hz => by obtain ⟨i, hi, rfl⟩ := hz; exact hc.2.2.2.2.2.2.2.2.2 i hi) (fun z hz => by obtain ⟨i, hi, rfl⟩ := hz; exact hc.2.2.2.2.2.2.2.2.2 i hi) (fun r u t H1 locs1 ht hvm hpost hB hz hk hS1 => ?_)
  obtain ⟨a, rfl, hK⟩ := hpost
  cases a with
  | none => exact kn u hK H1 locs1 ls (by rw [← ht]; exact hB) hS1 hl
  | some x => exact ks x u hK H1 locs1 ls (by rw [← ht]; exact hB) hS1 hl
theorem hb_callSr (hc : CX p s m args meth c G A X) {idx n d : Nat} {Y : Md} {vs : List Value} {K : Option Nat → Mm → Prop} (hm : MS X.1.cls idx Y n) (hac : AC d Y vs M (QR K))  (hn : vs.length = n) (hst : st0 = vs.reverse ++ st) (hw : (st.map fun v => v.category).sum ≤ 8) (hR : d + 1 ≤ R.frames ∧ 40 * d + 40 ≤ R.locals) (hcs : cells ≤ R.cells ∧ slots ≤ R.slots) (hd : decode X.2.1 pc = .ok (.invokestatic idx, 3)) (hq : pc + 3 = q) (kn : ∀ (M' : Mm), K none M' → BW p l e R s m args below meth c G A cells slots Q X M' q lv (.null :: st)) (ks : ∀ (x : Nat) (M' : Mm), K (some x) M' → BW p l e R s m args below meth c G A cells slots Q X M' q lv (.ref x :: st)) : BW p l e R s m args below meth c G A cells slots Q X M pc lv st0 := by
  subst hq
  intro H locs ls hP hS hl
  refine va_callq (hb_runS hc hm hac hn hst hw hR hcs hd hP hS hl) hS (fun z _ hz => by obtain ⟨i, hi, rfl⟩ := hz; exact hc.2.2.2.2.2.2.2.2.2 i hi) (fun z hz => by obtain ⟨i, hi, rfl⟩ := hz; exact hc.2.2.2.2.2.2.2.2.2 i hi) (fun r u t H1 locs1 ht hvm hpost hB hz hk hS1 => ?_)
  obtain ⟨a, rfl, hK⟩ := hpost
  cases a with
  | none => exact kn u hK H1 locs1 ls (by rw [← ht]; exact hB) hS1 hl
  | some x => exact ks x u hK H1 locs1 ls (by rw [← ht]; exact hB) hS1 hl
end HC
section HR
variable {p : Program} {l : Launch} {e : Env} {R : Room} {s : State} {m : MethodId} {args : Array Value} {below : List Frame} {meth : Method} {c : Code} {G : Gm} {X : Md} {M : Mm} {pc : Nat} {lv : List (Option Value)}
theorem hb_iret (hc : CX p s m args meth c G (FA G) X) {K : Int32 → Mm → Prop} {x : Int32} (hr : X.2.2.2 = some .int) (hd : decode X.2.1 pc = .ok (.ireturn, 1)) (kk : K x M) : BW p l e R s m args below meth c G (FA G) 0 0 (MQ below (QI K G) args s 0 0 (FA G)) X M pc lv [.int x] := by
  intro H locs ls hP hS hl
  have hlocks := hc.2.2.2.2.2.2.1
  exact W.iret (v := x) hc.1 hc.2.1 (hc.2.2.1.trans hr) (fun t ht hW => ⟨⟨x, M, rfl, kk, by show va_P _ _ _ _; rw [ht]; exact hP⟩, hS.F ht⟩) hS.2.2 hd hlocks
theorem hb_zret (hc : CX p s m args meth c G (FA G) X) {K : Int32 → Mm → Prop} {x : Int32} (hr : X.2.2.2 = some .boolean) (hz : x = 0 ∨ x = 1) (hd : decode X.2.1 pc = .ok (.ireturn, 1)) (kk : K x M) : BW p l e R s m args below meth c G (FA G) 0 0 (MQ below (QI K G) args s 0 0 (FA G)) X M pc lv [.int x] := by
  intro H locs ls hP hS hl
  have hlocks := hc.2.2.2.2.2.2.1
  exact W.zret (v := x) hc.1 hc.2.1 (hc.2.2.1.trans hr) (narZ hz) (fun t ht hW => ⟨⟨x, M, rfl, kk, by show va_P _ _ _ _; rw [ht]; exact hP⟩, hS.F ht⟩) hS.2.2 hd hlocks
theorem hb_nret (hc : CX p s m args meth c G (FA G) X) {K : Int32 → Mm → Prop} {x : Int32} {ty : FieldType} (hr : X.2.2.2 = some ty) (hz : narrow ty (.int x) = .int x) (hd : decode X.2.1 pc = .ok (.ireturn, 1)) (kk : K x M) : BW p l e R s m args below meth c G (FA G) 0 0 (MQ below (QI K G) args s 0 0 (FA G)) X M pc lv [.int x] := by
  intro H locs ls hP hS hl
  have hlocks := hc.2.2.2.2.2.2.1
  exact W.zret (v := x) hc.1 hc.2.1 (hc.2.2.1.trans hr) hz (fun t ht hW => ⟨⟨x, M, rfl, kk, by show va_P _ _ _ _; rw [ht]; exact hP⟩, hS.F ht⟩) hS.2.2 hd hlocks
theorem hb_lret (hc : CX p s m args meth c G (FA G) X) {K : Int64 → Mm → Prop} {x : Int64} (hr : X.2.2.2 = some .long) (hd : decode X.2.1 pc = .ok (.lreturn, 1)) (kk : K x M) : BW p l e R s m args below meth c G (FA G) 0 0 (MQ below (QL K G) args s 0 0 (FA G)) X M pc lv [.long x] := by
  intro H locs ls hP hS hl
  have hlocks := hc.2.2.2.2.2.2.1
  exact W.lret (v := x) hc.1 hc.2.1 (hc.2.2.1.trans hr) (fun t ht hW => ⟨⟨x, M, rfl, kk, by show va_P _ _ _ _; rw [ht]; exact hP⟩, hS.F ht⟩) hS.2.2 hd hlocks
theorem hb_vret (hc : CX p s m args meth c G (FA G) X) {K : Mm → Prop} (hr : X.2.2.2 = none) (hd : decode X.2.1 pc = .ok (.return_, 1)) (kk : K M) : BW p l e R s m args below meth c G (FA G) 0 0 (MQ below (QV K G) args s 0 0 (FA G)) X M pc lv [] := by
  intro H locs ls hP hS hl
  have hlocks := hc.2.2.2.2.2.2.1
  exact W.vret hc.1 hc.2.1 (hc.2.2.1.trans hr) (fun t ht hW => ⟨⟨M, rfl, kk, by show va_P _ _ _ _; rw [ht]; exact hP⟩, hS.F ht⟩) hS.2.2 hd hlocks
theorem hb_aret (hc : CX p s m args meth c G (FA G) X) {K : Option Nat → Mm → Prop} {x : Nat} {nm : String} (hr : X.2.2.2 = some (.object nm)) (hd : decode X.2.1 pc = .ok (.areturn, 1)) (kk : K (some x) M) : BW p l e R s m args below meth c G (FA G) 0 0 (MQ below (QR K G) args s 0 0 (FA G)) X M pc lv [.ref x] := by
  intro H locs ls hP hS hl
  have hlocks := hc.2.2.2.2.2.2.1
  exact W.aret (v := .ref (G.2.1 x)) hc.1 hc.2.1 (hc.2.2.1.trans hr) (Or.inl ⟨nm, rfl⟩) (Or.inr ⟨_, rfl⟩) (fun t ht hW => ⟨⟨some (G.2.1 x), M, rfl, ⟨some x, rfl, kk⟩, by show va_P _ _ _ _; rw [ht]; exact hP⟩, hS.F ht⟩) hS.2.2 hd hlocks
theorem hb_aretN (hc : CX p s m args meth c G (FA G) X) {K : Option Nat → Mm → Prop} {nm : String} (hr : X.2.2.2 = some (.object nm)) (hd : decode X.2.1 pc = .ok (.areturn, 1)) (kk : K none M) : BW p l e R s m args below meth c G (FA G) 0 0 (MQ below (QR K G) args s 0 0 (FA G)) X M pc lv [.null] := by
  intro H locs ls hP hS hl
  have hlocks := hc.2.2.2.2.2.2.1
  exact W.aret (v := .null) hc.1 hc.2.1 (hc.2.2.1.trans hr) (Or.inl ⟨nm, rfl⟩) (Or.inl rfl) (fun t ht hW => ⟨⟨none, M, rfl, ⟨none, rfl, kk⟩, by show va_P _ _ _ _; rw [ht]; exact hP⟩, hS.F ht⟩) hS.2.2 hd hlocks
end HR
end
