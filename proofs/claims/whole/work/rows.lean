section
-- ===== PART A: goes FIRST, ahead of the names: the tables' words, and 'selects' of the private methods out of them =====
/-- a private method of a class that the tables say can be made, by its rows of tables_1 -/
def lw_okq (q : MethodName × Nat) : Prop := (q.1.cls ≠ "java/lang/invoke/MethodHandle" ∧ q.1.cls ≠ "java/lang/invoke/VarHandle") ∧ Cond.instantiable q.1.cls q.2 ∈ tables_1 ∧ Cond.privateMethod q.1 ∈ tables_1 ∧ Cond.instanceMethod q.1 ∈ tables_1
theorem lw_p0 : lw_okq (⟨"HarbourLights$Text", "advance", "()V"⟩, 5) := ⟨⟨by decide +kernel, by decide +kernel⟩, List.mem_of_getElem? (i := 28) (by decide +kernel), List.mem_of_getElem? (i := 315) (by decide +kernel), List.mem_of_getElem? (i := 316) (by decide +kernel)⟩
theorem lw_p1 : lw_okq (⟨"HarbourLights$Text", "readClause", "(LHarbourLights$Book;)Z"⟩, 5) := ⟨⟨by decide +kernel, by decide +kernel⟩, List.mem_of_getElem? (i := 28) (by decide +kernel), List.mem_of_getElem? (i := 325) (by decide +kernel), List.mem_of_getElem? (i := 326) (by decide +kernel)⟩
theorem lw_p2 : lw_okq (⟨"HarbourLights$Text", "isWord", "(Ljava/lang/String;)Z"⟩, 5) := ⟨⟨by decide +kernel, by decide +kernel⟩, List.mem_of_getElem? (i := 28) (by decide +kernel), List.mem_of_getElem? (i := 330) (by decide +kernel), List.mem_of_getElem? (i := 331) (by decide +kernel)⟩
theorem lw_p3 : lw_okq (⟨"HarbourLights$Text", "readBeats", "(LHarbourLights$Book;)Z"⟩, 5) := ⟨⟨by decide +kernel, by decide +kernel⟩, List.mem_of_getElem? (i := 28) (by decide +kernel), List.mem_of_getElem? (i := 382) (by decide +kernel), List.mem_of_getElem? (i := 383) (by decide +kernel)⟩
theorem lw_p4 : lw_okq (⟨"HarbourLights$Text", "readNumber", "(II)I"⟩, 5) := ⟨⟨by decide +kernel, by decide +kernel⟩, List.mem_of_getElem? (i := 28) (by decide +kernel), List.mem_of_getElem? (i := 386) (by decide +kernel), List.mem_of_getElem? (i := 387) (by decide +kernel)⟩
theorem lw_p5 : lw_okq (⟨"HarbourLights$Text", "readWindow", "(LHarbourLights$Book;)Z"⟩, 5) := ⟨⟨by decide +kernel, by decide +kernel⟩, List.mem_of_getElem? (i := 28) (by decide +kernel), List.mem_of_getElem? (i := 392) (by decide +kernel), List.mem_of_getElem? (i := 393) (by decide +kernel)⟩
theorem lw_p6 : lw_okq (⟨"HarbourLights$Text", "readSight", "(LHarbourLights$Book;)Z"⟩, 5) := ⟨⟨by decide +kernel, by decide +kernel⟩, List.mem_of_getElem? (i := 28) (by decide +kernel), List.mem_of_getElem? (i := 397) (by decide +kernel), List.mem_of_getElem? (i := 398) (by decide +kernel)⟩
theorem lw_p7 : lw_okq (⟨"HarbourLights$Text", "readRhythm", "(LHarbourLights$Book;)Z"⟩, 5) := ⟨⟨by decide +kernel, by decide +kernel⟩, List.mem_of_getElem? (i := 28) (by decide +kernel), List.mem_of_getElem? (i := 402) (by decide +kernel), List.mem_of_getElem? (i := 403) (by decide +kernel)⟩
theorem lw_p8 : lw_okq (⟨"HarbourLights$Text", "readLight", "(LHarbourLights$Book;)Z"⟩, 5) := ⟨⟨by decide +kernel, by decide +kernel⟩, List.mem_of_getElem? (i := 28) (by decide +kernel), List.mem_of_getElem? (i := 411) (by decide +kernel), List.mem_of_getElem? (i := 412) (by decide +kernel)⟩
theorem lw_p9 : lw_okq (⟨"HarbourLights$Text", "readLit", "(LHarbourLights$Book;)Z"⟩, 5) := ⟨⟨by decide +kernel, by decide +kernel⟩, List.mem_of_getElem? (i := 28) (by decide +kernel), List.mem_of_getElem? (i := 420) (by decide +kernel), List.mem_of_getElem? (i := 421) (by decide +kernel)⟩
theorem lw_p10 : lw_okq (⟨"HarbourLights", "forgetWhatWasDone", "()V"⟩, 11) := ⟨⟨by decide +kernel, by decide +kernel⟩, List.mem_of_getElem? (i := 20) (by decide +kernel), List.mem_of_getElem? (i := 430) (by decide +kernel), List.mem_of_getElem? (i := 431) (by decide +kernel)⟩
theorem lw_p11 : lw_okq (⟨"HarbourLights", "tapeAt", "(I)LHarbourLights$Tape;"⟩, 11) := ⟨⟨by decide +kernel, by decide +kernel⟩, List.mem_of_getElem? (i := 20) (by decide +kernel), List.mem_of_getElem? (i := 438) (by decide +kernel), List.mem_of_getElem? (i := 439) (by decide +kernel)⟩
theorem lw_p12 : lw_okq (⟨"HarbourLights", "clashing", "(I)I"⟩, 11) := ⟨⟨by decide +kernel, by decide +kernel⟩, List.mem_of_getElem? (i := 20) (by decide +kernel), List.mem_of_getElem? (i := 488) (by decide +kernel), List.mem_of_getElem? (i := 489) (by decide +kernel)⟩
theorem lw_p13 : lw_okq (⟨"HarbourLights", "prepareChange", "(I)V"⟩, 11) := ⟨⟨by decide +kernel, by decide +kernel⟩, List.mem_of_getElem? (i := 20) (by decide +kernel), List.mem_of_getElem? (i := 510) (by decide +kernel), List.mem_of_getElem? (i := 511) (by decide +kernel)⟩
theorem lw_p14 : lw_okq (⟨"HarbourLights$Done", "forgetOldest", "()V"⟩, 4) := ⟨⟨by decide +kernel, by decide +kernel⟩, List.mem_of_getElem? (i := 128) (by decide +kernel), List.mem_of_getElem? (i := 518) (by decide +kernel), List.mem_of_getElem? (i := 519) (by decide +kernel)⟩
theorem lw_p15 : lw_okq (⟨"HarbourLights", "keptAt", "(I)LHarbourLights$Lights;"⟩, 11) := ⟨⟨by decide +kernel, by decide +kernel⟩, List.mem_of_getElem? (i := 20) (by decide +kernel), List.mem_of_getElem? (i := 546) (by decide +kernel), List.mem_of_getElem? (i := 547) (by decide +kernel)⟩
def lw_privs_1 : List (MethodName × Nat) := [(⟨"HarbourLights$Text", "advance", "()V"⟩, 5), (⟨"HarbourLights$Text", "readClause", "(LHarbourLights$Book;)Z"⟩, 5), (⟨"HarbourLights$Text", "isWord", "(Ljava/lang/String;)Z"⟩, 5), (⟨"HarbourLights$Text", "readBeats", "(LHarbourLights$Book;)Z"⟩, 5), (⟨"HarbourLights$Text", "readNumber", "(II)I"⟩, 5), (⟨"HarbourLights$Text", "readWindow", "(LHarbourLights$Book;)Z"⟩, 5), (⟨"HarbourLights$Text", "readSight", "(LHarbourLights$Book;)Z"⟩, 5), (⟨"HarbourLights$Text", "readRhythm", "(LHarbourLights$Book;)Z"⟩, 5), (⟨"HarbourLights$Text", "readLight", "(LHarbourLights$Book;)Z"⟩, 5), (⟨"HarbourLights$Text", "readLit", "(LHarbourLights$Book;)Z"⟩, 5), (⟨"HarbourLights", "forgetWhatWasDone", "()V"⟩, 11), (⟨"HarbourLights", "tapeAt", "(I)LHarbourLights$Tape;"⟩, 11), (⟨"HarbourLights", "clashing", "(I)I"⟩, 11), (⟨"HarbourLights", "prepareChange", "(I)V"⟩, 11), (⟨"HarbourLights$Done", "forgetOldest", "()V"⟩, 4), (⟨"HarbourLights", "keptAt", "(I)LHarbourLights$Lights;"⟩, 11)]
theorem lw_r1 : ∀ q ∈ lw_privs_1, lw_okq q := List.forall_mem_cons.mpr ⟨lw_p0, List.forall_mem_cons.mpr ⟨lw_p1, List.forall_mem_cons.mpr ⟨lw_p2, List.forall_mem_cons.mpr ⟨lw_p3, List.forall_mem_cons.mpr ⟨lw_p4, List.forall_mem_cons.mpr ⟨lw_p5, List.forall_mem_cons.mpr ⟨lw_p6, List.forall_mem_cons.mpr ⟨lw_p7, List.forall_mem_cons.mpr ⟨lw_p8, List.forall_mem_cons.mpr ⟨lw_p9, List.forall_mem_cons.mpr ⟨lw_p10, List.forall_mem_cons.mpr ⟨lw_p11, List.forall_mem_cons.mpr ⟨lw_p12, List.forall_mem_cons.mpr ⟨lw_p13, List.forall_mem_cons.mpr ⟨lw_p14, List.forall_mem_cons.mpr ⟨lw_p15, fun _ h => absurd h List.not_mem_nil⟩⟩⟩⟩⟩⟩⟩⟩⟩⟩⟩⟩⟩⟩⟩⟩
theorem lw_p16 : lw_okq (⟨"HarbourLights$Planner", "compareRhythms", "(LHarbourLights$Book;I)V"⟩, 7) := ⟨⟨by decide +kernel, by decide +kernel⟩, List.mem_of_getElem? (i := 148) (by decide +kernel), List.mem_of_getElem? (i := 566) (by decide +kernel), List.mem_of_getElem? (i := 567) (by decide +kernel)⟩
theorem lw_p17 : lw_okq (⟨"HarbourLights$Planner", "chooseFrom", "(II)I"⟩, 7) := ⟨⟨by decide +kernel, by decide +kernel⟩, List.mem_of_getElem? (i := 148) (by decide +kernel), List.mem_of_getElem? (i := 576) (by decide +kernel), List.mem_of_getElem? (i := 577) (by decide +kernel)⟩
theorem lw_p18 : lw_okq (⟨"HarbourLights$Planner", "refusedFor", "(I)I"⟩, 7) := ⟨⟨by decide +kernel, by decide +kernel⟩, List.mem_of_getElem? (i := 148) (by decide +kernel), List.mem_of_getElem? (i := 582) (by decide +kernel), List.mem_of_getElem? (i := 583) (by decide +kernel)⟩
theorem lw_p19 : lw_okq (⟨"HarbourLights$Planner", "isUnlike", "(I)Z"⟩, 7) := ⟨⟨by decide +kernel, by decide +kernel⟩, List.mem_of_getElem? (i := 148) (by decide +kernel), List.mem_of_getElem? (i := 594) (by decide +kernel), List.mem_of_getElem? (i := 595) (by decide +kernel)⟩
theorem lw_p20 : lw_okq (⟨"HarbourLights$Machine", "behind", "(JI)J"⟩, 7) := ⟨⟨by decide +kernel, by decide +kernel⟩, List.mem_of_getElem? (i := 178) (by decide +kernel), List.mem_of_getElem? (i := 627) (by decide +kernel), List.mem_of_getElem? (i := 628) (by decide +kernel)⟩
theorem lw_p21 : lw_okq (⟨"HarbourLights$Machine", "addIfNew", "(J)V"⟩, 7) := ⟨⟨by decide +kernel, by decide +kernel⟩, List.mem_of_getElem? (i := 178) (by decide +kernel), List.mem_of_getElem? (i := 632) (by decide +kernel), List.mem_of_getElem? (i := 633) (by decide +kernel)⟩
theorem lw_p22 : lw_okq (⟨"HarbourLights$Machine", "allNameOneLight", "()Z"⟩, 7) := ⟨⟨by decide +kernel, by decide +kernel⟩, List.mem_of_getElem? (i := 178) (by decide +kernel), List.mem_of_getElem? (i := 640) (by decide +kernel), List.mem_of_getElem? (i := 641) (by decide +kernel)⟩
theorem lw_p23 : lw_okq (⟨"HarbourLights$Machine", "takeAnyBeat", "()V"⟩, 7) := ⟨⟨by decide +kernel, by decide +kernel⟩, List.mem_of_getElem? (i := 178) (by decide +kernel), List.mem_of_getElem? (i := 649) (by decide +kernel), List.mem_of_getElem? (i := 650) (by decide +kernel)⟩
theorem lw_p24 : lw_okq (⟨"HarbourLights$Watch", "shiftNow", "(II)I"⟩, 5) := ⟨⟨by decide +kernel, by decide +kernel⟩, List.mem_of_getElem? (i := 207) (by decide +kernel), List.mem_of_getElem? (i := 682) (by decide +kernel), List.mem_of_getElem? (i := 683) (by decide +kernel)⟩
theorem lw_p25 : lw_okq (⟨"HarbourLights$Watch", "strikeOrForgive", "(JZ)V"⟩, 5) := ⟨⟨by decide +kernel, by decide +kernel⟩, List.mem_of_getElem? (i := 207) (by decide +kernel), List.mem_of_getElem? (i := 686) (by decide +kernel), List.mem_of_getElem? (i := 687) (by decide +kernel)⟩
theorem lw_p26 : lw_okq (⟨"HarbourLights", "clashes", "()I"⟩, 11) := ⟨⟨by decide +kernel, by decide +kernel⟩, List.mem_of_getElem? (i := 20) (by decide +kernel), List.mem_of_getElem? (i := 789) (by decide +kernel), List.mem_of_getElem? (i := 790) (by decide +kernel)⟩
theorem lw_p27 : lw_okq (⟨"HarbourLights", "numbersOnTapes", "()I"⟩, 11) := ⟨⟨by decide +kernel, by decide +kernel⟩, List.mem_of_getElem? (i := 20) (by decide +kernel), List.mem_of_getElem? (i := 793) (by decide +kernel), List.mem_of_getElem? (i := 794) (by decide +kernel)⟩
theorem lw_p28 : lw_okq (⟨"HarbourLightsModel", "anew", "(I)V"⟩, 38) := ⟨⟨by decide +kernel, by decide +kernel⟩, List.mem_of_getElem? (i := 797) (by decide +kernel), List.mem_of_getElem? (i := 803) (by decide +kernel), List.mem_of_getElem? (i := 804) (by decide +kernel)⟩
theorem lw_p29 : lw_okq (⟨"HarbourLightsModel", "copyRow", "(II)V"⟩, 38) := ⟨⟨by decide +kernel, by decide +kernel⟩, List.mem_of_getElem? (i := 797) (by decide +kernel), List.mem_of_getElem? (i := 807) (by decide +kernel), List.mem_of_getElem? (i := 808) (by decide +kernel)⟩
theorem lw_p30 : lw_okq (⟨"HarbourLightsModel", "reads", "(Z)Z"⟩, 38) := ⟨⟨by decide +kernel, by decide +kernel⟩, List.mem_of_getElem? (i := 797) (by decide +kernel), List.mem_of_getElem? (i := 943) (by decide +kernel), List.mem_of_getElem? (i := 944) (by decide +kernel)⟩
theorem lw_p31 : lw_okq (⟨"HarbourLightsModel", "nextToken", "()V"⟩, 38) := ⟨⟨by decide +kernel, by decide +kernel⟩, List.mem_of_getElem? (i := 797) (by decide +kernel), List.mem_of_getElem? (i := 947) (by decide +kernel), List.mem_of_getElem? (i := 948) (by decide +kernel)⟩
def lw_privs_2 : List (MethodName × Nat) := [(⟨"HarbourLights$Planner", "compareRhythms", "(LHarbourLights$Book;I)V"⟩, 7), (⟨"HarbourLights$Planner", "chooseFrom", "(II)I"⟩, 7), (⟨"HarbourLights$Planner", "refusedFor", "(I)I"⟩, 7), (⟨"HarbourLights$Planner", "isUnlike", "(I)Z"⟩, 7), (⟨"HarbourLights$Machine", "behind", "(JI)J"⟩, 7), (⟨"HarbourLights$Machine", "addIfNew", "(J)V"⟩, 7), (⟨"HarbourLights$Machine", "allNameOneLight", "()Z"⟩, 7), (⟨"HarbourLights$Machine", "takeAnyBeat", "()V"⟩, 7), (⟨"HarbourLights$Watch", "shiftNow", "(II)I"⟩, 5), (⟨"HarbourLights$Watch", "strikeOrForgive", "(JZ)V"⟩, 5), (⟨"HarbourLights", "clashes", "()I"⟩, 11), (⟨"HarbourLights", "numbersOnTapes", "()I"⟩, 11), (⟨"HarbourLightsModel", "anew", "(I)V"⟩, 38), (⟨"HarbourLightsModel", "copyRow", "(II)V"⟩, 38), (⟨"HarbourLightsModel", "reads", "(Z)Z"⟩, 38), (⟨"HarbourLightsModel", "nextToken", "()V"⟩, 38)]
theorem lw_r2 : ∀ q ∈ lw_privs_2, lw_okq q := List.forall_mem_cons.mpr ⟨lw_p16, List.forall_mem_cons.mpr ⟨lw_p17, List.forall_mem_cons.mpr ⟨lw_p18, List.forall_mem_cons.mpr ⟨lw_p19, List.forall_mem_cons.mpr ⟨lw_p20, List.forall_mem_cons.mpr ⟨lw_p21, List.forall_mem_cons.mpr ⟨lw_p22, List.forall_mem_cons.mpr ⟨lw_p23, List.forall_mem_cons.mpr ⟨lw_p24, List.forall_mem_cons.mpr ⟨lw_p25, List.forall_mem_cons.mpr ⟨lw_p26, List.forall_mem_cons.mpr ⟨lw_p27, List.forall_mem_cons.mpr ⟨lw_p28, List.forall_mem_cons.mpr ⟨lw_p29, List.forall_mem_cons.mpr ⟨lw_p30, List.forall_mem_cons.mpr ⟨lw_p31, fun _ h => absurd h List.not_mem_nil⟩⟩⟩⟩⟩⟩⟩⟩⟩⟩⟩⟩⟩⟩⟩⟩
theorem lw_p32 : lw_okq (⟨"HarbourLightsModel", "readsClause", "()Z"⟩, 38) := ⟨⟨by decide +kernel, by decide +kernel⟩, List.mem_of_getElem? (i := 797) (by decide +kernel), List.mem_of_getElem? (i := 961) (by decide +kernel), List.mem_of_getElem? (i := 962) (by decide +kernel)⟩
theorem lw_p33 : lw_okq (⟨"HarbourLightsModel", "wordHere", "()I"⟩, 38) := ⟨⟨by decide +kernel, by decide +kernel⟩, List.mem_of_getElem? (i := 797) (by decide +kernel), List.mem_of_getElem? (i := 965) (by decide +kernel), List.mem_of_getElem? (i := 966) (by decide +kernel)⟩
theorem lw_p34 : lw_okq (⟨"HarbourLightsModel", "isWord", "([I)Z"⟩, 38) := ⟨⟨by decide +kernel, by decide +kernel⟩, List.mem_of_getElem? (i := 797) (by decide +kernel), List.mem_of_getElem? (i := 969) (by decide +kernel), List.mem_of_getElem? (i := 970) (by decide +kernel)⟩
theorem lw_p35 : lw_okq (⟨"HarbourLightsModel", "readsRest", "(I)Z"⟩, 38) := ⟨⟨by decide +kernel, by decide +kernel⟩, List.mem_of_getElem? (i := 797) (by decide +kernel), List.mem_of_getElem? (i := 973) (by decide +kernel), List.mem_of_getElem? (i := 974) (by decide +kernel)⟩
theorem lw_p36 : lw_okq (⟨"HarbourLightsModel", "number", "(III)Z"⟩, 38) := ⟨⟨by decide +kernel, by decide +kernel⟩, List.mem_of_getElem? (i := 797) (by decide +kernel), List.mem_of_getElem? (i := 977) (by decide +kernel), List.mem_of_getElem? (i := 978) (by decide +kernel)⟩
theorem lw_p37 : lw_okq (⟨"HarbourLightsModel", "readsBeats", "()Z"⟩, 38) := ⟨⟨by decide +kernel, by decide +kernel⟩, List.mem_of_getElem? (i := 797) (by decide +kernel), List.mem_of_getElem? (i := 981) (by decide +kernel), List.mem_of_getElem? (i := 982) (by decide +kernel)⟩
theorem lw_p38 : lw_okq (⟨"HarbourLightsModel", "does", "(I)V"⟩, 38) := ⟨⟨by decide +kernel, by decide +kernel⟩, List.mem_of_getElem? (i := 797) (by decide +kernel), List.mem_of_getElem? (i := 985) (by decide +kernel), List.mem_of_getElem? (i := 986) (by decide +kernel)⟩
theorem lw_p39 : lw_okq (⟨"HarbourLightsModel", "isRhythm", "(I)Z"⟩, 38) := ⟨⟨by decide +kernel, by decide +kernel⟩, List.mem_of_getElem? (i := 797) (by decide +kernel), List.mem_of_getElem? (i := 997) (by decide +kernel), List.mem_of_getElem? (i := 998) (by decide +kernel)⟩
theorem lw_p40 : lw_okq (⟨"HarbourLightsModel", "leastTurn", "(I)I"⟩, 38) := ⟨⟨by decide +kernel, by decide +kernel⟩, List.mem_of_getElem? (i := 797) (by decide +kernel), List.mem_of_getElem? (i := 1001) (by decide +kernel), List.mem_of_getElem? (i := 1002) (by decide +kernel)⟩
theorem lw_p41 : lw_okq (⟨"HarbourLightsModel", "rowOf", "(III)I"⟩, 38) := ⟨⟨by decide +kernel, by decide +kernel⟩, List.mem_of_getElem? (i := 797) (by decide +kernel), List.mem_of_getElem? (i := 1005) (by decide +kernel), List.mem_of_getElem? (i := 1006) (by decide +kernel)⟩
theorem lw_p42 : lw_okq (⟨"HarbourLightsModel", "beatOf", "(II)I"⟩, 38) := ⟨⟨by decide +kernel, by decide +kernel⟩, List.mem_of_getElem? (i := 797) (by decide +kernel), List.mem_of_getElem? (i := 1009) (by decide +kernel), List.mem_of_getElem? (i := 1010) (by decide +kernel)⟩
theorem lw_p43 : lw_okq (⟨"HarbourLightsModel", "repeats", "(I)I"⟩, 38) := ⟨⟨by decide +kernel, by decide +kernel⟩, List.mem_of_getElem? (i := 797) (by decide +kernel), List.mem_of_getElem? (i := 1013) (by decide +kernel), List.mem_of_getElem? (i := 1014) (by decide +kernel)⟩
theorem lw_p44 : lw_okq (⟨"HarbourLightsModel", "flashes", "(I)I"⟩, 38) := ⟨⟨by decide +kernel, by decide +kernel⟩, List.mem_of_getElem? (i := 797) (by decide +kernel), List.mem_of_getElem? (i := 1017) (by decide +kernel), List.mem_of_getElem? (i := 1018) (by decide +kernel)⟩
theorem lw_p45 : lw_okq (⟨"HarbourLightsModel", "areLike", "(IIIZ)Z"⟩, 38) := ⟨⟨by decide +kernel, by decide +kernel⟩, List.mem_of_getElem? (i := 797) (by decide +kernel), List.mem_of_getElem? (i := 1028) (by decide +kernel), List.mem_of_getElem? (i := 1029) (by decide +kernel)⟩
theorem lw_p46 : lw_okq (⟨"HarbourLightsModel", "isLight", "(I)Z"⟩, 38) := ⟨⟨by decide +kernel, by decide +kernel⟩, List.mem_of_getElem? (i := 797) (by decide +kernel), List.mem_of_getElem? (i := 1039) (by decide +kernel), List.mem_of_getElem? (i := 1040) (by decide +kernel)⟩
theorem lw_p47 : lw_okq (⟨"HarbourLightsModel", "thoseOf", "(IZ)I"⟩, 38) := ⟨⟨by decide +kernel, by decide +kernel⟩, List.mem_of_getElem? (i := 797) (by decide +kernel), List.mem_of_getElem? (i := 1043) (by decide +kernel), List.mem_of_getElem? (i := 1044) (by decide +kernel)⟩
def lw_privs_3 : List (MethodName × Nat) := [(⟨"HarbourLightsModel", "readsClause", "()Z"⟩, 38), (⟨"HarbourLightsModel", "wordHere", "()I"⟩, 38), (⟨"HarbourLightsModel", "isWord", "([I)Z"⟩, 38), (⟨"HarbourLightsModel", "readsRest", "(I)Z"⟩, 38), (⟨"HarbourLightsModel", "number", "(III)Z"⟩, 38), (⟨"HarbourLightsModel", "readsBeats", "()Z"⟩, 38), (⟨"HarbourLightsModel", "does", "(I)V"⟩, 38), (⟨"HarbourLightsModel", "isRhythm", "(I)Z"⟩, 38), (⟨"HarbourLightsModel", "leastTurn", "(I)I"⟩, 38), (⟨"HarbourLightsModel", "rowOf", "(III)I"⟩, 38), (⟨"HarbourLightsModel", "beatOf", "(II)I"⟩, 38), (⟨"HarbourLightsModel", "repeats", "(I)I"⟩, 38), (⟨"HarbourLightsModel", "flashes", "(I)I"⟩, 38), (⟨"HarbourLightsModel", "areLike", "(IIIZ)Z"⟩, 38), (⟨"HarbourLightsModel", "isLight", "(I)Z"⟩, 38), (⟨"HarbourLightsModel", "thoseOf", "(IZ)I"⟩, 38)]
theorem lw_r3 : ∀ q ∈ lw_privs_3, lw_okq q := List.forall_mem_cons.mpr ⟨lw_p32, List.forall_mem_cons.mpr ⟨lw_p33, List.forall_mem_cons.mpr ⟨lw_p34, List.forall_mem_cons.mpr ⟨lw_p35, List.forall_mem_cons.mpr ⟨lw_p36, List.forall_mem_cons.mpr ⟨lw_p37, List.forall_mem_cons.mpr ⟨lw_p38, List.forall_mem_cons.mpr ⟨lw_p39, List.forall_mem_cons.mpr ⟨lw_p40, List.forall_mem_cons.mpr ⟨lw_p41, List.forall_mem_cons.mpr ⟨lw_p42, List.forall_mem_cons.mpr ⟨lw_p43, List.forall_mem_cons.mpr ⟨lw_p44, List.forall_mem_cons.mpr ⟨lw_p45, List.forall_mem_cons.mpr ⟨lw_p46, List.forall_mem_cons.mpr ⟨lw_p47, fun _ h => absurd h List.not_mem_nil⟩⟩⟩⟩⟩⟩⟩⟩⟩⟩⟩⟩⟩⟩⟩⟩
theorem lw_p48 : lw_okq (⟨"HarbourLightsModel", "doClash", "(II)Z"⟩, 38) := ⟨⟨by decide +kernel, by decide +kernel⟩, List.mem_of_getElem? (i := 797) (by decide +kernel), List.mem_of_getElem? (i := 1047) (by decide +kernel), List.mem_of_getElem? (i := 1048) (by decide +kernel)⟩
theorem lw_p49 : lw_okq (⟨"HarbourLightsModel", "areNeighbours", "(II)Z"⟩, 38) := ⟨⟨by decide +kernel, by decide +kernel⟩, List.mem_of_getElem? (i := 797) (by decide +kernel), List.mem_of_getElem? (i := 1051) (by decide +kernel), List.mem_of_getElem? (i := 1052) (by decide +kernel)⟩
theorem lw_p50 : lw_okq (⟨"HarbourLightsModel", "become", "(II)V"⟩, 38) := ⟨⟨by decide +kernel, by decide +kernel⟩, List.mem_of_getElem? (i := 797) (by decide +kernel), List.mem_of_getElem? (i := 1059) (by decide +kernel), List.mem_of_getElem? (i := 1060) (by decide +kernel)⟩
theorem lw_p51 : lw_okq (⟨"HarbourLightsModel", "litOnes", "()I"⟩, 38) := ⟨⟨by decide +kernel, by decide +kernel⟩, List.mem_of_getElem? (i := 797) (by decide +kernel), List.mem_of_getElem? (i := 1080) (by decide +kernel), List.mem_of_getElem? (i := 1081) (by decide +kernel)⟩
theorem lw_p52 : lw_okq (⟨"HarbourLightsModel", "layPlan", "(Z)I"⟩, 38) := ⟨⟨by decide +kernel, by decide +kernel⟩, List.mem_of_getElem? (i := 797) (by decide +kernel), List.mem_of_getElem? (i := 1092) (by decide +kernel), List.mem_of_getElem? (i := 1093) (by decide +kernel)⟩
theorem lw_p53 : lw_okq (⟨"HarbourLightsModel", "layBars", "(Z)V"⟩, 38) := ⟨⟨by decide +kernel, by decide +kernel⟩, List.mem_of_getElem? (i := 797) (by decide +kernel), List.mem_of_getElem? (i := 1096) (by decide +kernel), List.mem_of_getElem? (i := 1097) (by decide +kernel)⟩
theorem lw_p54 : lw_okq (⟨"HarbourLightsModel", "isPlan", "()Z"⟩, 38) := ⟨⟨by decide +kernel, by decide +kernel⟩, List.mem_of_getElem? (i := 797) (by decide +kernel), List.mem_of_getElem? (i := 1100) (by decide +kernel), List.mem_of_getElem? (i := 1101) (by decide +kernel)⟩
theorem lw_p55 : lw_okq (⟨"HarbourLightsModel", "statesOf", "(I)I"⟩, 38) := ⟨⟨by decide +kernel, by decide +kernel⟩, List.mem_of_getElem? (i := 797) (by decide +kernel), List.mem_of_getElem? (i := 1119) (by decide +kernel), List.mem_of_getElem? (i := 1120) (by decide +kernel)⟩
theorem lw_p56 : lw_okq (⟨"HarbourLightsModel", "firstSet", "(I)J"⟩, 38) := ⟨⟨by decide +kernel, by decide +kernel⟩, List.mem_of_getElem? (i := 797) (by decide +kernel), List.mem_of_getElem? (i := 1123) (by decide +kernel), List.mem_of_getElem? (i := 1124) (by decide +kernel)⟩
theorem lw_p57 : lw_okq (⟨"HarbourLightsModel", "becomes", "(JI)J"⟩, 38) := ⟨⟨by decide +kernel, by decide +kernel⟩, List.mem_of_getElem? (i := 797) (by decide +kernel), List.mem_of_getElem? (i := 1127) (by decide +kernel), List.mem_of_getElem? (i := 1128) (by decide +kernel)⟩
theorem lw_p58 : lw_okq (⟨"HarbourLightsModel", "namedAt", "(I)I"⟩, 38) := ⟨⟨by decide +kernel, by decide +kernel⟩, List.mem_of_getElem? (i := 797) (by decide +kernel), List.mem_of_getElem? (i := 1131) (by decide +kernel), List.mem_of_getElem? (i := 1132) (by decide +kernel)⟩
theorem lw_p59 : lw_okq (⟨"HarbourLightsModel", "pairsLeft", "()I"⟩, 38) := ⟨⟨by decide +kernel, by decide +kernel⟩, List.mem_of_getElem? (i := 797) (by decide +kernel), List.mem_of_getElem? (i := 1142) (by decide +kernel), List.mem_of_getElem? (i := 1143) (by decide +kernel)⟩
theorem lw_p60 : lw_okq (⟨"HarbourLightsModel", "seePair", "(II)V"⟩, 38) := ⟨⟨by decide +kernel, by decide +kernel⟩, List.mem_of_getElem? (i := 797) (by decide +kernel), List.mem_of_getElem? (i := 1150) (by decide +kernel), List.mem_of_getElem? (i := 1151) (by decide +kernel)⟩
theorem lw_p61 : lw_okq (⟨"HarbourLightsModel", "putAt", "(III)V"⟩, 38) := ⟨⟨by decide +kernel, by decide +kernel⟩, List.mem_of_getElem? (i := 797) (by decide +kernel), List.mem_of_getElem? (i := 1175) (by decide +kernel), List.mem_of_getElem? (i := 1176) (by decide +kernel)⟩
theorem lw_p62 : lw_okq (⟨"HarbourLightsModel", "drawAt", "(II)I"⟩, 38) := ⟨⟨by decide +kernel, by decide +kernel⟩, List.mem_of_getElem? (i := 797) (by decide +kernel), List.mem_of_getElem? (i := 1183) (by decide +kernel), List.mem_of_getElem? (i := 1184) (by decide +kernel)⟩
theorem lw_p63 : lw_okq (⟨"HarbourLightsModel", "clashes", "()I"⟩, 38) := ⟨⟨by decide +kernel, by decide +kernel⟩, List.mem_of_getElem? (i := 797) (by decide +kernel), List.mem_of_getElem? (i := 1214) (by decide +kernel), List.mem_of_getElem? (i := 1215) (by decide +kernel)⟩
def lw_privs_4 : List (MethodName × Nat) := [(⟨"HarbourLightsModel", "doClash", "(II)Z"⟩, 38), (⟨"HarbourLightsModel", "areNeighbours", "(II)Z"⟩, 38), (⟨"HarbourLightsModel", "become", "(II)V"⟩, 38), (⟨"HarbourLightsModel", "litOnes", "()I"⟩, 38), (⟨"HarbourLightsModel", "layPlan", "(Z)I"⟩, 38), (⟨"HarbourLightsModel", "layBars", "(Z)V"⟩, 38), (⟨"HarbourLightsModel", "isPlan", "()Z"⟩, 38), (⟨"HarbourLightsModel", "statesOf", "(I)I"⟩, 38), (⟨"HarbourLightsModel", "firstSet", "(I)J"⟩, 38), (⟨"HarbourLightsModel", "becomes", "(JI)J"⟩, 38), (⟨"HarbourLightsModel", "namedAt", "(I)I"⟩, 38), (⟨"HarbourLightsModel", "pairsLeft", "()I"⟩, 38), (⟨"HarbourLightsModel", "seePair", "(II)V"⟩, 38), (⟨"HarbourLightsModel", "putAt", "(III)V"⟩, 38), (⟨"HarbourLightsModel", "drawAt", "(II)I"⟩, 38), (⟨"HarbourLightsModel", "clashes", "()I"⟩, 38)]
theorem lw_r4 : ∀ q ∈ lw_privs_4, lw_okq q := List.forall_mem_cons.mpr ⟨lw_p48, List.forall_mem_cons.mpr ⟨lw_p49, List.forall_mem_cons.mpr ⟨lw_p50, List.forall_mem_cons.mpr ⟨lw_p51, List.forall_mem_cons.mpr ⟨lw_p52, List.forall_mem_cons.mpr ⟨lw_p53, List.forall_mem_cons.mpr ⟨lw_p54, List.forall_mem_cons.mpr ⟨lw_p55, List.forall_mem_cons.mpr ⟨lw_p56, List.forall_mem_cons.mpr ⟨lw_p57, List.forall_mem_cons.mpr ⟨lw_p58, List.forall_mem_cons.mpr ⟨lw_p59, List.forall_mem_cons.mpr ⟨lw_p60, List.forall_mem_cons.mpr ⟨lw_p61, List.forall_mem_cons.mpr ⟨lw_p62, List.forall_mem_cons.mpr ⟨lw_p63, fun _ h => absurd h List.not_mem_nil⟩⟩⟩⟩⟩⟩⟩⟩⟩⟩⟩⟩⟩⟩⟩⟩
theorem lw_p64 : lw_okq (⟨"HarbourLightsModel", "allNumbers", "()I"⟩, 38) := ⟨⟨by decide +kernel, by decide +kernel⟩, List.mem_of_getElem? (i := 797) (by decide +kernel), List.mem_of_getElem? (i := 1218) (by decide +kernel), List.mem_of_getElem? (i := 1219) (by decide +kernel)⟩
def lw_privs_5 : List (MethodName × Nat) := [(⟨"HarbourLightsModel", "allNumbers", "()I"⟩, 38)]
theorem lw_r5 : ∀ q ∈ lw_privs_5, lw_okq q := List.forall_mem_cons.mpr ⟨lw_p64, fun _ h => absurd h List.not_mem_nil⟩
def lw_privs : List (MethodName × Nat) := lw_privs_1 ++ (lw_privs_2 ++ (lw_privs_3 ++ (lw_privs_4 ++ (lw_privs_5))))
def lw_tbl : List Cond := k2_sels lw_privs ++ tables_1
theorem lw_privs_ok : ∀ q ∈ lw_privs, lw_okq q := by
  show ∀ q ∈ lw_privs_1 ++ (lw_privs_2 ++ (lw_privs_3 ++ (lw_privs_4 ++ (lw_privs_5)))), lw_okq q
  exact List.forall_mem_append.mpr ⟨lw_r1, List.forall_mem_append.mpr ⟨lw_r2, List.forall_mem_append.mpr ⟨lw_r3, List.forall_mem_append.mpr ⟨lw_r4, lw_r5⟩⟩⟩⟩
def RX0 : String := "HarbourLights$Book"
def TX0 : u_T := fun k => match k with
  | 0 => ("HarbourLights$Book", "beats", "I", false)
  | 1 => ("HarbourLights$Book", "window", "I", false)
  | 2 => ("HarbourLights$Book", "sight", "I", false)
  | 3 => ("HarbourLights$Book", "size", "I", false)
  | 4 => ("HarbourLights$Book", "numbers", "[I", true)
  | _ => ("HarbourLights$Book", "lights", "LHarbourLights$Lights;", true)
def tyX0 : Nat → FieldType := fun k => match k with
  | 0 => .int
  | 1 => .int
  | 2 => .int
  | 3 => .int
  | 4 => .array .int
  | _ => .object "HarbourLights$Lights"
theorem nmX0 : ∀ a, a < 6 → ∀ b, b < 6 → a ≠ b → (TX0 a).2.1 ≠ (TX0 b).2.1 := by decide +kernel
theorem tyX0_ok : ∀ k, k < 6 → parseFieldDescriptor (TX0 k).2.2.1 = some (tyX0 k) := by decide +kernel
abbrev cX0_init : ByteArray := prog_2_method_1_code
def yX0_init : MethodName := ⟨RX0, "<init>", "()V"⟩
abbrev cX0_beginAnew : ByteArray := prog_2_method_2_code
def yX0_beginAnew : MethodName := ⟨RX0, "beginAnew", "(I)V"⟩
abbrev cX0_become : ByteArray := prog_2_method_3_code
def yX0_become : MethodName := ⟨RX0, "become", "(LHarbourLights$Book;)V"⟩
abbrev cX0_hasRhythm : ByteArray := prog_2_method_4_code
def yX0_hasRhythm : MethodName := ⟨RX0, "hasRhythm", "(I)Z"⟩
abbrev cX0_addRhythm : ByteArray := prog_2_method_5_code
def yX0_addRhythm : MethodName := ⟨RX0, "addRhythm", "(I)V"⟩
abbrev cX0_hasFlash : ByteArray := prog_2_method_6_code
def yX0_hasFlash : MethodName := ⟨RX0, "hasFlash", "(II)Z"⟩
abbrev cX0_turned : ByteArray := prog_2_method_7_code
def yX0_turned : MethodName := ⟨RX0, "turned", "(II)I"⟩
abbrev cX0_turnsToLeast : ByteArray := prog_2_method_8_code
def yX0_turnsToLeast : MethodName := ⟨RX0, "turnsToLeast", "(I)I"⟩
abbrev cX0_repeats : ByteArray := prog_2_method_9_code
def yX0_repeats : MethodName := ⟨RX0, "repeats", "(I)I"⟩
abbrev cX0_areSuch : ByteArray := prog_2_method_10_code
def yX0_areSuch : MethodName := ⟨RX0, "areSuch", "(III)Z"⟩
abbrev cX0_shareRow : ByteArray := prog_2_method_11_code
def yX0_shareRow : MethodName := ⟨RX0, "shareRow", "(IIII)Z"⟩
abbrev cX0_suchOnes : ByteArray := prog_2_method_12_code
def yX0_suchOnes : MethodName := ⟨RX0, "suchOnes", "(II)I"⟩
def RX1 : String := "HarbourLights$Done"
def TX1 : u_T := fun k => match k with
  | 0 => ("HarbourLights$Done", "size", "I", false)
  | 1 => ("HarbourLights$Done", "light", "[I", true)
  | 2 => ("HarbourLights$Done", "place", "[I", true)
  | _ => ("HarbourLights$Done", "rhythm", "[I", true)
def tyX1 : Nat → FieldType := fun k => match k with
  | 0 => .int
  | 1 => .array .int
  | 2 => .array .int
  | _ => .array .int
theorem nmX1 : ∀ a, a < 4 → ∀ b, b < 4 → a ≠ b → (TX1 a).2.1 ≠ (TX1 b).2.1 := by decide +kernel
theorem tyX1_ok : ∀ k, k < 4 → parseFieldDescriptor (TX1 k).2.2.1 = some (tyX1 k) := by decide +kernel
abbrev cX1_init : ByteArray := prog_3_method_1_code
def yX1_init : MethodName := ⟨RX1, "<init>", "()V"⟩
abbrev cX1_remember : ByteArray := prog_3_method_2_code
def yX1_remember : MethodName := ⟨RX1, "remember", "(LHarbourLights$Lights;I)V"⟩
abbrev cX1_forgetOldest : ByteArray := prog_3_method_3_code
def yX1_forgetOldest : MethodName := ⟨RX1, "forgetOldest", "()V"⟩
abbrev cX1_takeBack : ByteArray := prog_3_method_4_code
def yX1_takeBack : MethodName := ⟨RX1, "takeBack", "(LHarbourLights$Lights;)V"⟩
def RX2 : String := "HarbourLights$Lights"
def TX2 : u_T := fun k => match k with
  | 0 => ("HarbourLights$Lights", "size", "I", false)
  | 1 => ("HarbourLights$Lights", "places", "[I", true)
  | 2 => ("HarbourLights$Lights", "rhythms", "[I", true)
  | _ => ("HarbourLights$Lights", "kept", "Z", false)
def tyX2 : Nat → FieldType := fun k => match k with
  | 0 => .int
  | 1 => .array .int
  | 2 => .array .int
  | _ => .boolean
theorem nmX2 : ∀ a, a < 4 → ∀ b, b < 4 → a ≠ b → (TX2 a).2.1 ≠ (TX2 b).2.1 := by decide +kernel
theorem tyX2_ok : ∀ k, k < 4 → parseFieldDescriptor (TX2 k).2.2.1 = some (tyX2 k) := by decide +kernel
abbrev cX2_init : ByteArray := prog_4_method_1_code
def yX2_init : MethodName := ⟨RX2, "<init>", "()V"⟩
abbrev cX2_become : ByteArray := prog_4_method_2_code
def yX2_become : MethodName := ⟨RX2, "become", "(LHarbourLights$Lights;)V"⟩
abbrev cX2_hasLight : ByteArray := prog_4_method_3_code
def yX2_hasLight : MethodName := ⟨RX2, "hasLight", "(I)Z"⟩
abbrev cX2_addAt : ByteArray := prog_4_method_4_code
def yX2_addAt : MethodName := ⟨RX2, "addAt", "(I)V"⟩
abbrev cX2_neighbours : ByteArray := prog_4_method_5_code
def yX2_neighbours : MethodName := ⟨RX2, "neighbours", "(II)I"⟩
abbrev cX2_litOnes : ByteArray := prog_4_method_6_code
def yX2_litOnes : MethodName := ⟨RX2, "litOnes", "()I"⟩
abbrev cX2_pairsSeenFrom : ByteArray := prog_4_method_7_code
def yX2_pairsSeenFrom : MethodName := ⟨RX2, "pairsSeenFrom", "(ILHarbourLights$Book;)J"⟩
abbrev cX2_pairsThatFlash : ByteArray := prog_4_method_8_code
def yX2_pairsThatFlash : MethodName := ⟨RX2, "pairsThatFlash", "(LHarbourLights$Book;)J"⟩
def RX3 : String := "HarbourLights$Machine"
def TX3 : u_T := fun k => match k with
  | 0 => ("HarbourLights$Machine", "sets", "[J", true)
  | 1 => ("HarbourLights$Machine", "nextSets", "[J", true)
  | 2 => ("HarbourLights$Machine", "size", "I", false)
  | 3 => ("HarbourLights$Machine", "beats", "I", false)
  | 4 => ("HarbourLights$Machine", "first", "J", false)
  | 5 => ("HarbourLights$Machine", "flashing", "J", false)
  | _ => ("HarbourLights$Machine", "lastShifts", "J", false)
def tyX3 : Nat → FieldType := fun k => match k with
  | 0 => .array .long
  | 1 => .array .long
  | 2 => .int
  | 3 => .int
  | 4 => .long
  | 5 => .long
  | _ => .long
theorem nmX3 : ∀ a, a < 7 → ∀ b, b < 7 → a ≠ b → (TX3 a).2.1 ≠ (TX3 b).2.1 := by decide +kernel
theorem tyX3_ok : ∀ k, k < 7 → parseFieldDescriptor (TX3 k).2.2.1 = some (tyX3 k) := by decide +kernel
abbrev cX3_init : ByteArray := prog_5_method_1_code
def yX3_init : MethodName := ⟨RX3, "<init>", "()V"⟩
abbrev cX3_prepare : ByteArray := prog_5_method_2_code
def yX3_prepare : MethodName := ⟨RX3, "prepare", "(LHarbourLights$Book;LHarbourLights$Lights;I)V"⟩
abbrev cX3_states : ByteArray := prog_5_method_3_code
def yX3_states : MethodName := ⟨RX3, "states", "()I"⟩
abbrev cX3_named : ByteArray := prog_5_method_4_code
def yX3_named : MethodName := ⟨RX3, "named", "()I"⟩
abbrev cX3_behind : ByteArray := prog_5_method_5_code
def yX3_behind : MethodName := ⟨RX3, "behind", "(JI)J"⟩
abbrev cX3_addIfNew : ByteArray := prog_5_method_6_code
def yX3_addIfNew : MethodName := ⟨RX3, "addIfNew", "(J)V"⟩
abbrev cX3_takeAnyBeat : ByteArray := prog_5_method_7_code
def yX3_takeAnyBeat : MethodName := ⟨RX3, "takeAnyBeat", "()V"⟩
abbrev cX3_allNameOneLight : ByteArray := prog_5_method_8_code
def yX3_allNameOneLight : MethodName := ⟨RX3, "allNameOneLight", "()Z"⟩
def RX4 : String := "HarbourLights$Planner"
def TX4 : u_T := fun k => match k with
  | 0 => ("HarbourLights$Planner", "fewest", "I", false)
  | 1 => ("HarbourLights$Planner", "best", "[I", true)
  | 2 => ("HarbourLights$Planner", "lights", "I", false)
  | 3 => ("HarbourLights$Planner", "rhythms", "I", false)
  | 4 => ("HarbourLights$Planner", "chosen", "[I", true)
  | 5 => ("HarbourLights$Planner", "neighbours", "[I", true)
  | _ => ("HarbourLights$Planner", "such", "[I", true)
def tyX4 : Nat → FieldType := fun k => match k with
  | 0 => .int
  | 1 => .array .int
  | 2 => .int
  | 3 => .int
  | 4 => .array .int
  | 5 => .array .int
  | _ => .array .int
theorem nmX4 : ∀ a, a < 7 → ∀ b, b < 7 → a ≠ b → (TX4 a).2.1 ≠ (TX4 b).2.1 := by decide +kernel
theorem tyX4_ok : ∀ k, k < 7 → parseFieldDescriptor (TX4 k).2.2.1 = some (tyX4 k) := by decide +kernel
abbrev cX4_init : ByteArray := prog_6_method_1_code
def yX4_init : MethodName := ⟨RX4, "<init>", "()V"⟩
abbrev cX4_makePlan : ByteArray := prog_6_method_2_code
def yX4_makePlan : MethodName := ⟨RX4, "makePlan", "(LHarbourLights$Book;LHarbourLights$Lights;I)Z"⟩
abbrev cX4_compareRhythms : ByteArray := prog_6_method_3_code
def yX4_compareRhythms : MethodName := ⟨RX4, "compareRhythms", "(LHarbourLights$Book;I)V"⟩
abbrev cX4_chooseFrom : ByteArray := prog_6_method_4_code
def yX4_chooseFrom : MethodName := ⟨RX4, "chooseFrom", "(II)I"⟩
abbrev cX4_refusedFor : ByteArray := prog_6_method_5_code
def yX4_refusedFor : MethodName := ⟨RX4, "refusedFor", "(I)I"⟩
abbrev cX4_greatestUnlikeSet : ByteArray := prog_6_method_6_code
def yX4_greatestUnlikeSet : MethodName := ⟨RX4, "greatestUnlikeSet", "(LHarbourLights$Book;I)I"⟩
abbrev cX4_isUnlike : ByteArray := prog_6_method_7_code
def yX4_isUnlike : MethodName := ⟨RX4, "isUnlike", "(I)Z"⟩
def RX5 : String := "HarbourLights$Tape"
def TX5 : u_T := fun k => match k with
  | 0 => ("HarbourLights$Tape", "here", "Z", false)
  | 1 => ("HarbourLights$Tape", "size", "I", false)
  | _ => ("HarbourLights$Tape", "numbers", "[I", true)
def tyX5 : Nat → FieldType := fun k => match k with
  | 0 => .boolean
  | 1 => .int
  | _ => .array .int
theorem nmX5 : ∀ a, a < 3 → ∀ b, b < 3 → a ≠ b → (TX5 a).2.1 ≠ (TX5 b).2.1 := by decide +kernel
theorem tyX5_ok : ∀ k, k < 3 → parseFieldDescriptor (TX5 k).2.2.1 = some (tyX5 k) := by decide +kernel
abbrev cX5_init : ByteArray := prog_7_method_1_code
def yX5_init : MethodName := ⟨RX5, "<init>", "()V"⟩
abbrev cX5_begin : ByteArray := prog_7_method_2_code
def yX5_begin : MethodName := ⟨RX5, "begin", "()V"⟩
abbrev cX5_vanish : ByteArray := prog_7_method_3_code
def yX5_vanish : MethodName := ⟨RX5, "vanish", "()V"⟩
abbrev cX5_addInFront : ByteArray := prog_7_method_4_code
def yX5_addInFront : MethodName := ⟨RX5, "addInFront", "(I)V"⟩
abbrev cX5_addBehind : ByteArray := prog_7_method_5_code
def yX5_addBehind : MethodName := ⟨RX5, "addBehind", "(I)V"⟩
abbrev cX5_takeFirst : ByteArray := prog_7_method_6_code
def yX5_takeFirst : MethodName := ⟨RX5, "takeFirst", "()I"⟩
abbrev cX5_takeLast : ByteArray := prog_7_method_7_code
def yX5_takeLast : MethodName := ⟨RX5, "takeLast", "()I"⟩
abbrev cX5_greatest : ByteArray := prog_7_method_8_code
def yX5_greatest : MethodName := ⟨RX5, "greatest", "()I"⟩
abbrev cX5_least : ByteArray := prog_7_method_9_code
def yX5_least : MethodName := ⟨RX5, "least", "()I"⟩
abbrev cX5_howMany : ByteArray := prog_7_method_10_code
def yX5_howMany : MethodName := ⟨RX5, "howMany", "(I)I"⟩
abbrev cX5_removeAll : ByteArray := prog_7_method_11_code
def yX5_removeAll : MethodName := ⟨RX5, "removeAll", "(I)I"⟩
def RX6 : String := "HarbourLights$Text"
def TX6 : u_T := fun k => match k with
  | 0 => ("HarbourLights$Text", "length", "I", false)
  | 1 => ("HarbourLights$Text", "clauses", "I", false)
  | 2 => ("HarbourLights$Text", "letters", "[I", true)
  | 3 => ("HarbourLights$Text", "begin", "I", false)
  | _ => ("HarbourLights$Text", "end", "I", false)
def tyX6 : Nat → FieldType := fun k => match k with
  | 0 => .int
  | 1 => .int
  | 2 => .array .int
  | 3 => .int
  | _ => .int
theorem nmX6 : ∀ a, a < 5 → ∀ b, b < 5 → a ≠ b → (TX6 a).2.1 ≠ (TX6 b).2.1 := by decide +kernel
theorem tyX6_ok : ∀ k, k < 5 → parseFieldDescriptor (TX6 k).2.2.1 = some (tyX6 k) := by decide +kernel
abbrev cX6_init : ByteArray := prog_8_method_1_code
def yX6_init : MethodName := ⟨RX6, "<init>", "()V"⟩
abbrev cX6_append : ByteArray := prog_8_method_2_code
def yX6_append : MethodName := ⟨RX6, "append", "(I)V"⟩
abbrev cX6_readInto : ByteArray := prog_8_method_3_code
def yX6_readInto : MethodName := ⟨RX6, "readInto", "(LHarbourLights$Book;)I"⟩
abbrev cX6_readClause : ByteArray := prog_8_method_4_code
def yX6_readClause : MethodName := ⟨RX6, "readClause", "(LHarbourLights$Book;)Z"⟩
abbrev cX6_readBeats : ByteArray := prog_8_method_5_code
def yX6_readBeats : MethodName := ⟨RX6, "readBeats", "(LHarbourLights$Book;)Z"⟩
abbrev cX6_readWindow : ByteArray := prog_8_method_6_code
def yX6_readWindow : MethodName := ⟨RX6, "readWindow", "(LHarbourLights$Book;)Z"⟩
abbrev cX6_readSight : ByteArray := prog_8_method_7_code
def yX6_readSight : MethodName := ⟨RX6, "readSight", "(LHarbourLights$Book;)Z"⟩
abbrev cX6_readRhythm : ByteArray := prog_8_method_8_code
def yX6_readRhythm : MethodName := ⟨RX6, "readRhythm", "(LHarbourLights$Book;)Z"⟩
abbrev cX6_readLight : ByteArray := prog_8_method_9_code
def yX6_readLight : MethodName := ⟨RX6, "readLight", "(LHarbourLights$Book;)Z"⟩
abbrev cX6_readLit : ByteArray := prog_8_method_10_code
def yX6_readLit : MethodName := ⟨RX6, "readLit", "(LHarbourLights$Book;)Z"⟩
abbrev cX6_readNumber : ByteArray := prog_8_method_11_code
def yX6_readNumber : MethodName := ⟨RX6, "readNumber", "(II)I"⟩
abbrev cX6_advance : ByteArray := prog_8_method_12_code
def yX6_advance : MethodName := ⟨RX6, "advance", "()V"⟩
abbrev cX6_isWord : ByteArray := prog_8_method_13_code
def yX6_isWord : MethodName := ⟨RX6, "isWord", "(Ljava/lang/String;)Z"⟩
abbrev cX6_isSmall : ByteArray := prog_8_method_14_code
def yX6_isSmall : MethodName := ⟨RX6, "isSmall", "(I)Z"⟩
abbrev cX6_isDigit : ByteArray := prog_8_method_15_code
def yX6_isDigit : MethodName := ⟨RX6, "isDigit", "(I)Z"⟩
def RX7 : String := "HarbourLights$Watch"
def TX7 : u_T := fun k => match k with
  | 0 => ("HarbourLights$Watch", "on", "Z", false)
  | 1 => ("HarbourLights$Watch", "missing", "Z", false)
  | 2 => ("HarbourLights$Watch", "pairs", "J", false)
  | 3 => ("HarbourLights$Watch", "missedOne", "J", false)
  | _ => ("HarbourLights$Watch", "turns", "I", false)
def tyX7 : Nat → FieldType := fun k => match k with
  | 0 => .boolean
  | 1 => .boolean
  | 2 => .long
  | 3 => .long
  | _ => .int
theorem nmX7 : ∀ a, a < 5 → ∀ b, b < 5 → a ≠ b → (TX7 a).2.1 ≠ (TX7 b).2.1 := by decide +kernel
theorem tyX7_ok : ∀ k, k < 5 → parseFieldDescriptor (TX7 k).2.2.1 = some (tyX7 k) := by decide +kernel
abbrev cX7_init : ByteArray := prog_9_method_1_code
def yX7_init : MethodName := ⟨RX7, "<init>", "()V"⟩
abbrev cX7_begin : ByteArray := prog_9_method_2_code
def yX7_begin : MethodName := ⟨RX7, "begin", "(JZ)V"⟩
abbrev cX7_end : ByteArray := prog_9_method_3_code
def yX7_end : MethodName := ⟨RX7, "end", "()V"⟩
abbrev cX7_size : ByteArray := prog_9_method_4_code
def yX7_size : MethodName := ⟨RX7, "size", "()I"⟩
abbrev cX7_lights : ByteArray := prog_9_method_5_code
def yX7_lights : MethodName := ⟨RX7, "lights", "()I"⟩
abbrev cX7_takeBeat : ByteArray := prog_9_method_6_code
def yX7_takeBeat : MethodName := ⟨RX7, "takeBeat", "(IJI)V"⟩
abbrev cX7_strikeOrForgive : ByteArray := prog_9_method_7_code
def yX7_strikeOrForgive : MethodName := ⟨RX7, "strikeOrForgive", "(JZ)V"⟩
abbrev cX7_shiftNow : ByteArray := prog_9_method_8_code
def yX7_shiftNow : MethodName := ⟨RX7, "shiftNow", "(II)I"⟩
abbrev cX7_pairAt : ByteArray := prog_9_method_9_code
def yX7_pairAt : MethodName := ⟨RX7, "pairAt", "(II)I"⟩
def RX8 : String := "HarbourLights"
def TX8 : u_T := fun k => match k with
  | 0 => ("HarbourLights", "text", "LHarbourLights$Text;", true)
  | 1 => ("HarbourLights", "told", "LHarbourLights$Book;", true)
  | 2 => ("HarbourLights", "heard", "LHarbourLights$Book;", true)
  | 3 => ("HarbourLights", "now", "LHarbourLights$Lights;", true)
  | 4 => ("HarbourLights", "done", "LHarbourLights$Done;", true)
  | 5 => ("HarbourLights", "keptFirst", "LHarbourLights$Lights;", true)
  | 6 => ("HarbourLights", "keptSecond", "LHarbourLights$Lights;", true)
  | 7 => ("HarbourLights", "planner", "LHarbourLights$Planner;", true)
  | 8 => ("HarbourLights", "watcher", "LHarbourLights$Machine;", true)
  | 9 => ("HarbourLights", "vigil", "LHarbourLights$Watch;", true)
  | _ => ("HarbourLights", "tapes", "[LHarbourLights$Tape;", true)
def tyX8 : Nat → FieldType := fun k => match k with
  | 0 => .object "HarbourLights$Text"
  | 1 => .object "HarbourLights$Book"
  | 2 => .object "HarbourLights$Book"
  | 3 => .object "HarbourLights$Lights"
  | 4 => .object "HarbourLights$Done"
  | 5 => .object "HarbourLights$Lights"
  | 6 => .object "HarbourLights$Lights"
  | 7 => .object "HarbourLights$Planner"
  | 8 => .object "HarbourLights$Machine"
  | 9 => .object "HarbourLights$Watch"
  | _ => .array (.object "HarbourLights$Tape")
theorem nmX8 : ∀ a, a < 11 → ∀ b, b < 11 → a ≠ b → (TX8 a).2.1 ≠ (TX8 b).2.1 := by decide +kernel
theorem tyX8_ok : ∀ k, k < 11 → parseFieldDescriptor (TX8 k).2.2.1 = some (tyX8 k) := by decide +kernel
abbrev cX8_init : ByteArray := prog_1_method_1_code
def yX8_init : MethodName := ⟨RX8, "<init>", "()V"⟩
abbrev cX8_write : ByteArray := prog_1_method_2_code
def yX8_write : MethodName := ⟨RX8, "write", "(I)I"⟩
abbrev cX8_erase : ByteArray := prog_1_method_3_code
def yX8_erase : MethodName := ⟨RX8, "erase", "()I"⟩
abbrev cX8_fault : ByteArray := prog_1_method_4_code
def yX8_fault : MethodName := ⟨RX8, "fault", "()I"⟩
abbrev cX8_office : ByteArray := prog_1_method_5_code
def yX8_office : MethodName := ⟨RX8, "office", "()I"⟩
abbrev cX8_forgetWhatWasDone : ByteArray := prog_1_method_6_code
def yX8_forgetWhatWasDone : MethodName := ⟨RX8, "forgetWhatWasDone", "()V"⟩
abbrev cX8_rhythm : ByteArray := prog_1_method_7_code
def yX8_rhythm : MethodName := ⟨RX8, "rhythm", "(II)I"⟩
abbrev cX8_light : ByteArray := prog_1_method_8_code
def yX8_light : MethodName := ⟨RX8, "light", "(II)I"⟩
abbrev cX8_clashing : ByteArray := prog_1_method_9_code
def yX8_clashing : MethodName := ⟨RX8, "clashing", "(I)I"⟩
abbrev cX8_like : ByteArray := prog_1_method_10_code
def yX8_like : MethodName := ⟨RX8, "like", "(III)I"⟩
abbrev cX8_lit : ByteArray := prog_1_method_11_code
def yX8_lit : MethodName := ⟨RX8, "lit", "(II)I"⟩
abbrev cX8_dark : ByteArray := prog_1_method_12_code
def yX8_dark : MethodName := ⟨RX8, "dark", "(I)I"⟩
abbrev cX8_move : ByteArray := prog_1_method_13_code
def yX8_move : MethodName := ⟨RX8, "move", "(II)I"⟩
abbrev cX8_prepareChange : ByteArray := prog_1_method_14_code
def yX8_prepareChange : MethodName := ⟨RX8, "prepareChange", "(I)V"⟩
abbrev cX8_undo : ByteArray := prog_1_method_15_code
def yX8_undo : MethodName := ⟨RX8, "undo", "()I"⟩
abbrev cX8_keep : ByteArray := prog_1_method_16_code
def yX8_keep : MethodName := ⟨RX8, "keep", "(I)I"⟩
abbrev cX8_back : ByteArray := prog_1_method_17_code
def yX8_back : MethodName := ⟨RX8, "back", "(I)I"⟩
abbrev cX8_keptAt : ByteArray := prog_1_method_18_code
def yX8_keptAt : MethodName := ⟨RX8, "keptAt", "(I)LHarbourLights$Lights;"⟩
abbrev cX8_plan : ByteArray := prog_1_method_19_code
def yX8_plan : MethodName := ⟨RX8, "plan", "(II)I"⟩
abbrev cX8_most : ByteArray := prog_1_method_20_code
def yX8_most : MethodName := ⟨RX8, "most", "(I)I"⟩
abbrev cX8_apart : ByteArray := prog_1_method_21_code
def yX8_apart : MethodName := ⟨RX8, "apart", "(II)I"⟩
abbrev cX8_machine : ByteArray := prog_1_method_22_code
def yX8_machine : MethodName := ⟨RX8, "machine", "(II)I"⟩
abbrev cX8_watch : ByteArray := prog_1_method_23_code
def yX8_watch : MethodName := ⟨RX8, "watch", "(II)I"⟩
abbrev cX8_see : ByteArray := prog_1_method_24_code
def yX8_see : MethodName := ⟨RX8, "see", "(I)I"⟩
abbrev cX8_left : ByteArray := prog_1_method_25_code
def yX8_left : MethodName := ⟨RX8, "left", "(II)I"⟩
abbrev cX8_tape : ByteArray := prog_1_method_26_code
def yX8_tape : MethodName := ⟨RX8, "tape", "(I)I"⟩
abbrev cX8_put : ByteArray := prog_1_method_27_code
def yX8_put : MethodName := ⟨RX8, "put", "(III)I"⟩
abbrev cX8_draw : ByteArray := prog_1_method_28_code
def yX8_draw : MethodName := ⟨RX8, "draw", "(II)I"⟩
abbrev cX8_turn : ByteArray := prog_1_method_29_code
def yX8_turn : MethodName := ⟨RX8, "turn", "(II)I"⟩
abbrev cX8_find : ByteArray := prog_1_method_30_code
def yX8_find : MethodName := ⟨RX8, "find", "(III)I"⟩
abbrev cX8_strike : ByteArray := prog_1_method_31_code
def yX8_strike : MethodName := ⟨RX8, "strike", "(II)I"⟩
abbrev cX8_load : ByteArray := prog_1_method_32_code
def yX8_load : MethodName := ⟨RX8, "load", "(III)I"⟩
abbrev cX8_drop : ByteArray := prog_1_method_33_code
def yX8_drop : MethodName := ⟨RX8, "drop", "(I)I"⟩
abbrev cX8_count : ByteArray := prog_1_method_34_code
def yX8_count : MethodName := ⟨RX8, "count", "(I)I"⟩
abbrev cX8_clashes : ByteArray := prog_1_method_35_code
def yX8_clashes : MethodName := ⟨RX8, "clashes", "()I"⟩
abbrev cX8_numbersOnTapes : ByteArray := prog_1_method_36_code
def yX8_numbersOnTapes : MethodName := ⟨RX8, "numbersOnTapes", "()I"⟩
abbrev cX8_tapeAt : ByteArray := prog_1_method_37_code
def yX8_tapeAt : MethodName := ⟨RX8, "tapeAt", "(I)LHarbourLights$Tape;"⟩
abbrev cX8_isPlace : ByteArray := prog_1_method_38_code
def yX8_isPlace : MethodName := ⟨RX8, "isPlace", "(I)Z"⟩
abbrev cX8_isEnd : ByteArray := prog_1_method_39_code
def yX8_isEnd : MethodName := ⟨RX8, "isEnd", "(I)Z"⟩
abbrev cX8_isNumber : ByteArray := prog_1_method_40_code
def yX8_isNumber : MethodName := ⟨RX8, "isNumber", "(I)Z"⟩
abbrev cX8_lightsIn : ByteArray := prog_1_method_41_code
def yX8_lightsIn : MethodName := ⟨RX8, "lightsIn", "(J)I"⟩
def RX9 : String := "HarbourLightsModel"
def TX9 : u_T := fun k => match k with
  | 0 => ("HarbourLightsModel", "row", "[I", true)
  | 1 => ("HarbourLightsModel", "beats", "I", false)
  | 2 => ("HarbourLightsModel", "window", "I", false)
  | 3 => ("HarbourLightsModel", "sight", "I", false)
  | 4 => ("HarbourLightsModel", "rhythms", "I", false)
  | 5 => ("HarbourLightsModel", "lights", "I", false)
  | 6 => ("HarbourLightsModel", "numbers", "[I", true)
  | 7 => ("HarbourLightsModel", "undos", "I", false)
  | 8 => ("HarbourLightsModel", "isKept", "[Z", true)
  | 9 => ("HarbourLightsModel", "text", "[I", true)
  | 10 => ("HarbourLightsModel", "length", "I", false)
  | 11 => ("HarbourLightsModel", "isWatched", "Z", false)
  | 12 => ("HarbourLightsModel", "mayMiss", "Z", false)
  | 13 => ("HarbourLightsModel", "isLeft", "[Z", true)
  | 14 => ("HarbourLightsModel", "shifts", "[I", true)
  | 15 => ("HarbourLightsModel", "hasMissed", "[Z", true)
  | 16 => ("HarbourLightsModel", "sizes", "[I", true)
  | 17 => ("HarbourLightsModel", "values", "[I", true)
  | 18 => ("HarbourLightsModel", "first", "I", false)
  | 19 => ("HarbourLightsModel", "behind", "I", false)
  | 20 => ("HarbourLightsModel", "readBeats", "I", false)
  | 21 => ("HarbourLightsModel", "readRhythms", "I", false)
  | 22 => ("HarbourLightsModel", "readLights", "I", false)
  | 23 => ("HarbourLightsModel", "clauses", "I", false)
  | 24 => ("HarbourLightsModel", "doing", "Z", false)
  | 25 => ("HarbourLightsModel", "read", "[I", true)
  | 26 => ("HarbourLightsModel", "beatsWord", "[I", true)
  | 27 => ("HarbourLightsModel", "windowWord", "[I", true)
  | 28 => ("HarbourLightsModel", "sightWord", "[I", true)
  | 29 => ("HarbourLightsModel", "rhythmWord", "[I", true)
  | 30 => ("HarbourLightsModel", "lightWord", "[I", true)
  | 31 => ("HarbourLightsModel", "litWord", "[I", true)
  | 32 => ("HarbourLightsModel", "bars", "[I", true)
  | 33 => ("HarbourLightsModel", "tried", "[I", true)
  | 34 => ("HarbourLightsModel", "planned", "[I", true)
  | 35 => ("HarbourLightsModel", "sets", "[J", true)
  | 36 => ("HarbourLightsModel", "level", "[J", true)
  | _ => ("HarbourLightsModel", "levelThen", "[J", true)
def tyX9 : Nat → FieldType := fun k => match k with
  | 0 => .array .int
  | 1 => .int
  | 2 => .int
  | 3 => .int
  | 4 => .int
  | 5 => .int
  | 6 => .array .int
  | 7 => .int
  | 8 => .array .boolean
  | 9 => .array .int
  | 10 => .int
  | 11 => .boolean
  | 12 => .boolean
  | 13 => .array .boolean
  | 14 => .array .int
  | 15 => .array .boolean
  | 16 => .array .int
  | 17 => .array .int
  | 18 => .int
  | 19 => .int
  | 20 => .int
  | 21 => .int
  | 22 => .int
  | 23 => .int
  | 24 => .boolean
  | 25 => .array .int
  | 26 => .array .int
  | 27 => .array .int
  | 28 => .array .int
  | 29 => .array .int
  | 30 => .array .int
  | 31 => .array .int
  | 32 => .array .int
  | 33 => .array .int
  | 34 => .array .int
  | 35 => .array .long
  | 36 => .array .long
  | _ => .array .long
theorem nmX9 : ∀ a, a < 38 → ∀ b, b < 38 → a ≠ b → (TX9 a).2.1 ≠ (TX9 b).2.1 := by decide +kernel
theorem tyX9_ok : ∀ k, k < 38 → parseFieldDescriptor (TX9 k).2.2.1 = some (tyX9 k) := by decide +kernel
abbrev cX9_init : ByteArray := prog_11_method_1_code
def yX9_init : MethodName := ⟨RX9, "<init>", "()V"⟩
abbrev cX9_in : ByteArray := prog_11_method_2_code
def yX9_in : MethodName := ⟨RX9, "in", "(JJJ)Z"⟩
abbrev cX9_has : ByteArray := prog_11_method_3_code
def yX9_has : MethodName := ⟨RX9, "has", "(II)Z"⟩
abbrev cX9_ones : ByteArray := prog_11_method_4_code
def yX9_ones : MethodName := ⟨RX9, "ones", "(I)I"⟩
abbrev cX9_copyRow : ByteArray := prog_11_method_5_code
def yX9_copyRow : MethodName := ⟨RX9, "copyRow", "(II)V"⟩
abbrev cX9_anew : ByteArray := prog_11_method_6_code
def yX9_anew : MethodName := ⟨RX9, "anew", "(I)V"⟩
abbrev cX9_write : ByteArray := prog_11_method_7_code
def yX9_write : MethodName := ⟨RX9, "write", "(I)I"⟩
abbrev cX9_erase : ByteArray := prog_11_method_8_code
def yX9_erase : MethodName := ⟨RX9, "erase", "()I"⟩
abbrev cX9_isLetter : ByteArray := prog_11_method_9_code
def yX9_isLetter : MethodName := ⟨RX9, "isLetter", "(I)Z"⟩
abbrev cX9_isDigit : ByteArray := prog_11_method_10_code
def yX9_isDigit : MethodName := ⟨RX9, "isDigit", "(I)Z"⟩
abbrev cX9_nextToken : ByteArray := prog_11_method_11_code
def yX9_nextToken : MethodName := ⟨RX9, "nextToken", "()V"⟩
abbrev cX9_isWord : ByteArray := prog_11_method_12_code
def yX9_isWord : MethodName := ⟨RX9, "isWord", "([I)Z"⟩
abbrev cX9_number : ByteArray := prog_11_method_13_code
def yX9_number : MethodName := ⟨RX9, "number", "(III)Z"⟩
abbrev cX9_readsBeats : ByteArray := prog_11_method_14_code
def yX9_readsBeats : MethodName := ⟨RX9, "readsBeats", "()Z"⟩
abbrev cX9_wordHere : ByteArray := prog_11_method_15_code
def yX9_wordHere : MethodName := ⟨RX9, "wordHere", "()I"⟩
abbrev cX9_readsRest : ByteArray := prog_11_method_16_code
def yX9_readsRest : MethodName := ⟨RX9, "readsRest", "(I)Z"⟩
abbrev cX9_does : ByteArray := prog_11_method_17_code
def yX9_does : MethodName := ⟨RX9, "does", "(I)V"⟩
abbrev cX9_readsClause : ByteArray := prog_11_method_18_code
def yX9_readsClause : MethodName := ⟨RX9, "readsClause", "()Z"⟩
abbrev cX9_reads : ByteArray := prog_11_method_19_code
def yX9_reads : MethodName := ⟨RX9, "reads", "(Z)Z"⟩
abbrev cX9_fault : ByteArray := prog_11_method_20_code
def yX9_fault : MethodName := ⟨RX9, "fault", "()I"⟩
abbrev cX9_office : ByteArray := prog_11_method_21_code
def yX9_office : MethodName := ⟨RX9, "office", "()I"⟩
abbrev cX9_isRhythm : ByteArray := prog_11_method_22_code
def yX9_isRhythm : MethodName := ⟨RX9, "isRhythm", "(I)Z"⟩
abbrev cX9_isLight : ByteArray := prog_11_method_23_code
def yX9_isLight : MethodName := ⟨RX9, "isLight", "(I)Z"⟩
abbrev cX9_beatOf : ByteArray := prog_11_method_24_code
def yX9_beatOf : MethodName := ⟨RX9, "beatOf", "(II)I"⟩
abbrev cX9_rowOf : ByteArray := prog_11_method_25_code
def yX9_rowOf : MethodName := ⟨RX9, "rowOf", "(III)I"⟩
abbrev cX9_flashes : ByteArray := prog_11_method_26_code
def yX9_flashes : MethodName := ⟨RX9, "flashes", "(I)I"⟩
abbrev cX9_leastTurn : ByteArray := prog_11_method_27_code
def yX9_leastTurn : MethodName := ⟨RX9, "leastTurn", "(I)I"⟩
abbrev cX9_repeats : ByteArray := prog_11_method_28_code
def yX9_repeats : MethodName := ⟨RX9, "repeats", "(I)I"⟩
abbrev cX9_rhythm : ByteArray := prog_11_method_29_code
def yX9_rhythm : MethodName := ⟨RX9, "rhythm", "(II)I"⟩
abbrev cX9_isDimmed : ByteArray := prog_11_method_30_code
def yX9_isDimmed : MethodName := ⟨RX9, "isDimmed", "(II)Z"⟩
abbrev cX9_areLike : ByteArray := prog_11_method_31_code
def yX9_areLike : MethodName := ⟨RX9, "areLike", "(IIIZ)Z"⟩
abbrev cX9_like : ByteArray := prog_11_method_32_code
def yX9_like : MethodName := ⟨RX9, "like", "(III)I"⟩
abbrev cX9_areNeighbours : ByteArray := prog_11_method_33_code
def yX9_areNeighbours : MethodName := ⟨RX9, "areNeighbours", "(II)Z"⟩
abbrev cX9_doClash : ByteArray := prog_11_method_34_code
def yX9_doClash : MethodName := ⟨RX9, "doClash", "(II)Z"⟩
abbrev cX9_thoseOf : ByteArray := prog_11_method_35_code
def yX9_thoseOf : MethodName := ⟨RX9, "thoseOf", "(IZ)I"⟩
abbrev cX9_light : ByteArray := prog_11_method_36_code
def yX9_light : MethodName := ⟨RX9, "light", "(II)I"⟩
abbrev cX9_become : ByteArray := prog_11_method_37_code
def yX9_become : MethodName := ⟨RX9, "become", "(II)V"⟩
abbrev cX9_lit : ByteArray := prog_11_method_38_code
def yX9_lit : MethodName := ⟨RX9, "lit", "(II)I"⟩
abbrev cX9_dark : ByteArray := prog_11_method_39_code
def yX9_dark : MethodName := ⟨RX9, "dark", "(I)I"⟩
abbrev cX9_move : ByteArray := prog_11_method_40_code
def yX9_move : MethodName := ⟨RX9, "move", "(II)I"⟩
abbrev cX9_undo : ByteArray := prog_11_method_41_code
def yX9_undo : MethodName := ⟨RX9, "undo", "()I"⟩
abbrev cX9_litOnes : ByteArray := prog_11_method_42_code
def yX9_litOnes : MethodName := ⟨RX9, "litOnes", "()I"⟩
abbrev cX9_keep : ByteArray := prog_11_method_43_code
def yX9_keep : MethodName := ⟨RX9, "keep", "(I)I"⟩
abbrev cX9_back : ByteArray := prog_11_method_44_code
def yX9_back : MethodName := ⟨RX9, "back", "(I)I"⟩
abbrev cX9_layBars : ByteArray := prog_11_method_45_code
def yX9_layBars : MethodName := ⟨RX9, "layBars", "(Z)V"⟩
abbrev cX9_isPlan : ByteArray := prog_11_method_46_code
def yX9_isPlan : MethodName := ⟨RX9, "isPlan", "()Z"⟩
abbrev cX9_layPlan : ByteArray := prog_11_method_47_code
def yX9_layPlan : MethodName := ⟨RX9, "layPlan", "(Z)I"⟩
abbrev cX9_plan : ByteArray := prog_11_method_48_code
def yX9_plan : MethodName := ⟨RX9, "plan", "(II)I"⟩
abbrev cX9_most : ByteArray := prog_11_method_49_code
def yX9_most : MethodName := ⟨RX9, "most", "(I)I"⟩
abbrev cX9_apart : ByteArray := prog_11_method_50_code
def yX9_apart : MethodName := ⟨RX9, "apart", "(II)I"⟩
abbrev cX9_firstSet : ByteArray := prog_11_method_51_code
def yX9_firstSet : MethodName := ⟨RX9, "firstSet", "(I)J"⟩
abbrev cX9_becomes : ByteArray := prog_11_method_52_code
def yX9_becomes : MethodName := ⟨RX9, "becomes", "(JI)J"⟩
abbrev cX9_statesOf : ByteArray := prog_11_method_53_code
def yX9_statesOf : MethodName := ⟨RX9, "statesOf", "(I)I"⟩
abbrev cX9_isOfOne : ByteArray := prog_11_method_54_code
def yX9_isOfOne : MethodName := ⟨RX9, "isOfOne", "(J)Z"⟩
abbrev cX9_namedAt : ByteArray := prog_11_method_55_code
def yX9_namedAt : MethodName := ⟨RX9, "namedAt", "(I)I"⟩
abbrev cX9_machine : ByteArray := prog_11_method_56_code
def yX9_machine : MethodName := ⟨RX9, "machine", "(II)I"⟩
abbrev cX9_pairsLeft : ByteArray := prog_11_method_57_code
def yX9_pairsLeft : MethodName := ⟨RX9, "pairsLeft", "()I"⟩
abbrev cX9_watch : ByteArray := prog_11_method_58_code
def yX9_watch : MethodName := ⟨RX9, "watch", "(II)I"⟩
abbrev cX9_seePair : ByteArray := prog_11_method_59_code
def yX9_seePair : MethodName := ⟨RX9, "seePair", "(II)V"⟩
abbrev cX9_see : ByteArray := prog_11_method_60_code
def yX9_see : MethodName := ⟨RX9, "see", "(I)I"⟩
abbrev cX9_left : ByteArray := prog_11_method_61_code
def yX9_left : MethodName := ⟨RX9, "left", "(II)I"⟩
abbrev cX9_isTape : ByteArray := prog_11_method_62_code
def yX9_isTape : MethodName := ⟨RX9, "isTape", "(I)Z"⟩
abbrev cX9_isNumber : ByteArray := prog_11_method_63_code
def yX9_isNumber : MethodName := ⟨RX9, "isNumber", "(I)Z"⟩
abbrev cX9_tape : ByteArray := prog_11_method_64_code
def yX9_tape : MethodName := ⟨RX9, "tape", "(I)I"⟩
abbrev cX9_putAt : ByteArray := prog_11_method_65_code
def yX9_putAt : MethodName := ⟨RX9, "putAt", "(III)V"⟩
abbrev cX9_drawAt : ByteArray := prog_11_method_66_code
def yX9_drawAt : MethodName := ⟨RX9, "drawAt", "(II)I"⟩
abbrev cX9_put : ByteArray := prog_11_method_67_code
def yX9_put : MethodName := ⟨RX9, "put", "(III)I"⟩
abbrev cX9_draw : ByteArray := prog_11_method_68_code
def yX9_draw : MethodName := ⟨RX9, "draw", "(II)I"⟩
abbrev cX9_turn : ByteArray := prog_11_method_69_code
def yX9_turn : MethodName := ⟨RX9, "turn", "(II)I"⟩
abbrev cX9_find : ByteArray := prog_11_method_70_code
def yX9_find : MethodName := ⟨RX9, "find", "(III)I"⟩
abbrev cX9_strike : ByteArray := prog_11_method_71_code
def yX9_strike : MethodName := ⟨RX9, "strike", "(II)I"⟩
abbrev cX9_load : ByteArray := prog_11_method_72_code
def yX9_load : MethodName := ⟨RX9, "load", "(III)I"⟩
abbrev cX9_drop : ByteArray := prog_11_method_73_code
def yX9_drop : MethodName := ⟨RX9, "drop", "(I)I"⟩
abbrev cX9_clashes : ByteArray := prog_11_method_74_code
def yX9_clashes : MethodName := ⟨RX9, "clashes", "()I"⟩
abbrev cX9_allNumbers : ByteArray := prog_11_method_75_code
def yX9_allNumbers : MethodName := ⟨RX9, "allNumbers", "()I"⟩
abbrev cX9_count : ByteArray := prog_11_method_76_code
def yX9_count : MethodName := ⟨RX9, "count", "(I)I"⟩
def RJ6 : String := "java/lang/Integer"
def TJ6 : u_T := fun k => match k with
  | _ => ("", "", "", false)
def tyJ6 : Nat → FieldType := fun k => match k with
  | _ => .int
theorem nmJ6 : ∀ a, a < 0 → ∀ b, b < 0 → a ≠ b → (TJ6 a).2.1 ≠ (TJ6 b).2.1 := by decide +kernel
theorem tyJ6_ok : ∀ k, k < 0 → parseFieldDescriptor (TJ6 k).2.2.1 = some (tyJ6 k) := by decide +kernel
abbrev cJ6_bitCount_0f7a4 : ByteArray := prog_12_method_49_code
def yJ6_bitCount_0f7a4 : MethodName := ⟨RJ6, "bitCount", "(I)I"⟩
def RJ13 : String := "java/lang/Long"
def TJ13 : u_T := fun k => match k with
  | _ => ("", "", "", false)
def tyJ13 : Nat → FieldType := fun k => match k with
  | _ => .int
theorem nmJ13 : ∀ a, a < 0 → ∀ b, b < 0 → a ≠ b → (TJ13 a).2.1 ≠ (TJ13 b).2.1 := by decide +kernel
theorem tyJ13_ok : ∀ k, k < 0 → parseFieldDescriptor (TJ13 k).2.2.1 = some (tyJ13 k) := by decide +kernel
abbrev cJ13_bitCount_95d88 : ByteArray := prog_13_method_50_code
def yJ13_bitCount_95d88 : MethodName := ⟨RJ13, "bitCount", "(J)I"⟩
def RJ9 : String := "java/lang/Math"
def TJ9 : u_T := fun k => match k with
  | _ => ("", "", "", false)
def tyJ9 : Nat → FieldType := fun k => match k with
  | _ => .int
theorem nmJ9 : ∀ a, a < 0 → ∀ b, b < 0 → a ≠ b → (TJ9 a).2.1 ≠ (TJ9 b).2.1 := by decide +kernel
theorem tyJ9_ok : ∀ k, k < 0 → parseFieldDescriptor (TJ9 k).2.2.1 = some (tyJ9 k) := by decide +kernel
abbrev cJ9_abs_0f7a4 : ByteArray := prog_14_method_59_code
def yJ9_abs_0f7a4 : MethodName := ⟨RJ9, "abs", "(I)I"⟩
abbrev cJ9_max_7cf53 : ByteArray := prog_14_method_65_code
def yJ9_max_7cf53 : MethodName := ⟨RJ9, "max", "(II)I"⟩
abbrev cJ9_min_7cf53 : ByteArray := prog_14_method_69_code
def yJ9_min_7cf53 : MethodName := ⟨RJ9, "min", "(II)I"⟩
def RJ0 : String := "java/lang/String"
def TJ0 : u_T := fun k => match k with
  | _ => ("", "", "", false)
def tyJ0 : Nat → FieldType := fun k => match k with
  | _ => .int
theorem nmJ0 : ∀ a, a < 0 → ∀ b, b < 0 → a ≠ b → (TJ0 a).2.1 ≠ (TJ0 b).2.1 := by decide +kernel
theorem tyJ0_ok : ∀ k, k < 0 → parseFieldDescriptor (TJ0 k).2.2.1 = some (tyJ0 k) := by decide +kernel
abbrev cJ0_length_8abf5 : ByteArray := prog_15_method_54_code
def yJ0_length_8abf5 : MethodName := ⟨RJ0, "length", "()I"⟩
abbrev cJ0_charAt_5068e : ByteArray := prog_15_method_56_code
def yJ0_charAt_5068e : MethodName := ⟨RJ0, "charAt", "(I)C"⟩
abbrev cJ0_coder_7d493 : ByteArray := prog_15_method_152_code
def yJ0_coder_7d493 : MethodName := ⟨RJ0, "coder", "()B"⟩
abbrev cJ0_isLatin1_aae02 : ByteArray := prog_15_method_154_code
def yJ0_isLatin1_aae02 : MethodName := ⟨RJ0, "isLatin1", "()Z"⟩
abbrev cJ0_checkIndex_df160 : ByteArray := prog_15_method_155_code
def yJ0_checkIndex_df160 : MethodName := ⟨RJ0, "checkIndex", "(II)V"⟩
def RJ1 : String := "java/lang/StringLatin1"
def TJ1 : u_T := fun k => match k with
  | _ => ("", "", "", false)
def tyJ1 : Nat → FieldType := fun k => match k with
  | _ => .int
theorem nmJ1 : ∀ a, a < 0 → ∀ b, b < 0 → a ≠ b → (TJ1 a).2.1 ≠ (TJ1 b).2.1 := by decide +kernel
theorem tyJ1_ok : ∀ k, k < 0 → parseFieldDescriptor (TJ1 k).2.2.1 = some (tyJ1 k) := by decide +kernel
abbrev cJ1_charAt_3b067 : ByteArray := prog_16_method_2_code
def yJ1_charAt_3b067 : MethodName := ⟨RJ1, "charAt", "([BI)C"⟩
def RJ2 : String := "java/lang/StringUTF16"
def TJ2 : u_T := fun k => match k with
  | _ => ("", "", "", false)
def tyJ2 : Nat → FieldType := fun k => match k with
  | _ => .int
theorem nmJ2 : ∀ a, a < 0 → ∀ b, b < 0 → a ≠ b → (TJ2 a).2.1 ≠ (TJ2 b).2.1 := by decide +kernel
theorem tyJ2_ok : ∀ k, k < 0 → parseFieldDescriptor (TJ2 k).2.2.1 = some (tyJ2 k) := by decide +kernel
abbrev cJ2_getChar_3b067 : ByteArray := prog_17_method_5_code
def yJ2_getChar_3b067 : MethodName := ⟨RJ2, "getChar", "([BI)C"⟩
abbrev cJ2_length_9d52b : ByteArray := prog_17_method_6_code
def yJ2_length_9d52b : MethodName := ⟨RJ2, "length", "([B)I"⟩
abbrev cJ2_charAt_3b067 : ByteArray := prog_17_method_83_code
def yJ2_charAt_3b067 : MethodName := ⟨RJ2, "charAt", "([BI)C"⟩
abbrev cJ2_checkIndex_2214a : ByteArray := prog_17_method_91_code
def yJ2_checkIndex_2214a : MethodName := ⟨RJ2, "checkIndex", "(I[B)V"⟩
def RJ10 : String := "java/lang/System"
def TJ10 : u_T := fun k => match k with
  | _ => ("", "", "", false)
def tyJ10 : Nat → FieldType := fun k => match k with
  | _ => .int
theorem nmJ10 : ∀ a, a < 0 → ∀ b, b < 0 → a ≠ b → (TJ10 a).2.1 ≠ (TJ10 b).2.1 := by decide +kernel
theorem tyJ10_ok : ∀ k, k < 0 → parseFieldDescriptor (TJ10 k).2.2.1 = some (tyJ10 k) := by decide +kernel
def RJ3 : String := "jdk/internal/util/Preconditions"
def TJ3 : u_T := fun k => match k with
  | _ => ("", "", "", false)
def tyJ3 : Nat → FieldType := fun k => match k with
  | _ => .int
theorem nmJ3 : ∀ a, a < 0 → ∀ b, b < 0 → a ≠ b → (TJ3 a).2.1 ≠ (TJ3 b).2.1 := by decide +kernel
theorem tyJ3_ok : ∀ k, k < 0 → parseFieldDescriptor (TJ3 k).2.2.1 = some (tyJ3 k) := by decide +kernel
abbrev cJ3_checkIndex_8e157 : ByteArray := prog_19_method_11_code
def yJ3_checkIndex_8e157 : MethodName := ⟨RJ3, "checkIndex", "(IILjava/util/function/BiFunction;)I"⟩
def RL : String := "HarbourLightsLaw"
abbrev cL_law : ByteArray := code
def yL_law : MethodName := ⟨RL, "law", "([I)Z"⟩
end
section
/-! BASE: an abstract memory over the kit's worlds. Every object and array of the run has a fixed abstract address (a small number); ints and longs live in two plain functions. -/
abbrev Md : Type := MethodName × ByteArray × Nat × Option FieldType
abbrev Mm : Type := (Nat → Nat → Int32) × (Nat → Nat → Int64)
abbrev Gm : Type := va_G × (Nat → Nat) × (Nat → ClassId)
abbrev Shp : Type := (Nat × Nat × List Nat) ⊕ (Nat × List (Nat ⊕ Bool))
abbrev classes : List vw_C := [(RX0, TX0, 6), (RX1, TX1, 4), (RX2, TX2, 4), (RX3, TX3, 7), (RX4, TX4, 7), (RX5, TX5, 3), (RX6, TX6, 5), (RX7, TX7, 5), (RX8, TX8, 11), (RX9, TX9, 38)]
abbrev shpLi : List (Nat ⊕ Bool) := [.inr false, .inr false, .inr false, .inr false]
def shpL : List Shp := [
  .inr (8, [.inl 1, .inl 3, .inl 8, .inl 13, .inl 22, .inl 16, .inl 19, .inl 26, .inl 31, .inl 34, .inl 35]),
  .inr (6, [.inr false, .inr false, .inl 2, .inr false, .inr false]), .inl (0, 200, []),
  .inr (0, [.inr false, .inr false, .inr false, .inr false, .inl 4, .inl 5]), .inl (0, 8, []), .inr (2, [.inr false, .inl 6, .inl 7, .inr false]), .inl (0, 6, []), .inl (0, 6, []),
  .inr (0, [.inr false, .inr false, .inr false, .inr false, .inl 9, .inl 10]), .inl (0, 8, []), .inr (2, [.inr false, .inl 11, .inl 12, .inr false]), .inl (0, 6, []), .inl (0, 6, []),
  .inr (2, [.inr false, .inl 14, .inl 15, .inr false]), .inl (0, 6, []), .inl (0, 6, []),
  .inr (2, [.inr false, .inl 17, .inl 18, .inr false]), .inl (0, 6, []), .inl (0, 6, []),
  .inr (2, [.inr false, .inl 20, .inl 21, .inr false]), .inl (0, 6, []), .inl (0, 6, []),
  .inr (1, [.inr false, .inl 23, .inl 24, .inl 25]), .inl (0, 8, []), .inl (0, 8, []), .inl (0, 8, []),
  .inr (4, [.inr false, .inl 27, .inr false, .inr false, .inl 28, .inl 29, .inl 30]), .inl (0, 6, []), .inl (0, 6, []), .inl (0, 6, []), .inl (0, 8, []),
  .inr (3, [.inl 32, .inl 33, .inr false, .inr false, .inr true, .inr true, .inr true]), .inl (1, 256, []), .inl (1, 48, []),
  .inr (7, [.inr false, .inr false, .inr true, .inr true, .inr false]),
  .inl (3, 3, [36, 38, 40]),
  .inr (5, [.inr false, .inr false, .inl 37]), .inl (0, 12, []), .inr (5, [.inr false, .inr false, .inl 39]), .inl (0, 12, []), .inr (5, [.inr false, .inr false, .inl 41]), .inl (0, 12, []),
  .inr (9, [.inl 43, .inr false, .inr false, .inr false, .inr false, .inr false, .inl 44, .inr false, .inl 45, .inl 46, .inr false, .inr false, .inr false, .inl 47, .inl 48, .inl 49, .inl 50, .inl 51, .inr false, .inr false, .inr false, .inr false, .inr false, .inr false, .inr false, .inl 52, .inl 53, .inl 54, .inl 55, .inl 56, .inl 57, .inl 58, .inl 59, .inl 60, .inl 61, .inl 62, .inl 63, .inl 64]),
  .inl (0, 144, []), .inl (0, 8, []), .inl (2, 2, []), .inl (0, 200, []), .inl (2, 48, []), .inl (0, 48, []), .inl (2, 48, []), .inl (0, 3, []), .inl (0, 36, []), .inl (0, 2, []),
  .inl (0, 5, []), .inl (0, 6, []), .inl (0, 5, []), .inl (0, 6, []), .inl (0, 5, []), .inl (0, 3, []), .inl (0, 8, []), .inl (0, 6, []), .inl (0, 6, []), .inl (1, 640, []), .inl (1, 128, []), .inl (1, 128, [])]
abbrev NSH : Nat := 65
def shp (i : Nat) : Shp := shpL.getD i (.inl (0, 0, []))
def aty : Nat → FieldType
  | 0 => .int
  | 1 => .long
  | 2 => .boolean
  | _ => .object "HarbourLights$Tape"
def cvv (ro : Nat → Nat) : Value → Value
  | .ref a => .ref (ro a)
  | v => v
def sv (G : Gm) (M : Mm) (i j : Nat) : Nat ⊕ Bool → Value
  | .inl a => .ref (G.2.1 a)
  | .inr false => .int (M.1 i j)
  | .inr true => .long (M.2 i j)
def wA (G : Gm) (M : Mm) (i t n : Nat) (rs : List Nat) : vp_A := match t with
  | 0 => (n, .inl (M.1 i))
  | 1 => (n, .inr (.inl (M.2 i)))
  | 2 => (n, .inl (M.1 i))
  | _ => (n, .inr (.inr (.inr (.inr (fun j => (rs[j]?).map G.2.1)))))
def wE (G : Gm) (M : Mm) (i : Nat) : va_E := match shp i with
  | .inl (t, n, rs) => .inl (G.2.2 i, wA G M i t n rs)
  | .inr (ci, ks) => .inr (ci, ks.mapIdx (sv G M i))
def wW (G : Gm) (M : Mm) : va_W := (List.range NSH).map (fun i => (G.2.1 i, wE G M i))
def DD (G : Gm) : Prop := ∀ i j, i < NSH → j < NSH → G.2.1 i = G.2.1 j → i = j
def FA (G : Gm) : Nat → Prop := fun q => ∃ i, i < NSH ∧ q = G.2.1 i
def wI (M : Mm) (a j : Nat) (x : Int32) : Mm := (fun a' j' => if a' = a ∧ j' = j then x else M.1 a' j', M.2)
def wL (M : Mm) (a j : Nat) (x : Int64) : Mm := (M.1, fun a' j' => if a' = a ∧ j' = j then x else M.2 a' j')
def cpI (M : Mm) (sa sp da dp n : Nat) : Mm := (fun a' j' => if a' = da then va_cpy (M.1 sa) (M.1 da) sp dp n j' else M.1 a' j', M.2)
def cpL (M : Mm) (sa sp da dp n : Nat) : Mm := (M.1, fun a' j' => if a' = da then va_cpy (M.2 sa) (M.2 da) sp dp n j' else M.2 a' j')
theorem wW_get (G : Gm) (M : Mm) {a : Nat} (h : a < NSH) : (wW G M)[a]? = some (G.2.1 a, wE G M a) := by
  rw [wW, List.getElem?_map, List.getElem?_range h]; rfl
theorem wW_inv {G : Gm} {M : Mm} {k : Nat} {q : Nat × va_E} (h : (wW G M)[k]? = some q) : k < NSH ∧ q = (G.2.1 k, wE G M k) := by
  have hl : k < (wW G M).length := (List.getElem?_eq_some_iff.mp h).1
  have hk : k < NSH := by simpa [wW] using hl
  rw [wW_get G M hk] at h
  exact ⟨hk, (Option.some.inj h).symm⟩
theorem wW_set {G : Gm} {M M' : Mm} {a : Nat} {e : va_E} (ha : a < NSH) (he : e = wE G M' a) (h : ∀ i, i ≠ a → wE G M' i = wE G M i) : (wW G M).set a (G.2.1 a, e) = wW G M' := by
  apply List.ext_getElem?
  intro k
  by_cases hk : k = a
  · subst hk
    rw [List.getElem?_set_self (by simpa [wW] using ha), wW_get G M' ha, he]
  · rw [List.getElem?_set_ne (Ne.symm hk)]
    by_cases hl : k < NSH
    · rw [wW_get G M hl, wW_get G M' hl, h k hk]
    · rw [List.getElem?_eq_none (by simp [wW]; omega), List.getElem?_eq_none (by simp [wW]; omega)]
theorem wW_D {G : Gm} {M : Mm} {A : Nat → Prop} (hD : DD G) (hA : ∀ i, i < NSH → A (G.2.1 i)) : va_D A (wW G M) := by
  refine ⟨fun i j p q hi hj hpq => ?_, fun k q hk => ?_⟩
  · obtain ⟨h1, rfl⟩ := wW_inv hi
    obtain ⟨h2, rfl⟩ := wW_inv hj
    exact hD i j h1 h2 hpq
  · obtain ⟨h1, rfl⟩ := wW_inv hk
    exact hA k h1
theorem wE_off {G : Gm} {M M' : Mm} {i : Nat} (h1 : M'.1 i = M.1 i) (h2 : M'.2 i = M.2 i) : wE G M' i = wE G M i := by
  have hs : sv G M' i = sv G M i := by
    funext j k
    rcases k with a | b
    · rfl
    · cases b
      · show Value.int (M'.1 i j) = Value.int (M.1 i j); rw [h1]
      · show Value.long (M'.2 i j) = Value.long (M.2 i j); rw [h2]
  have ha : ∀ t n rs, wA G M' i t n rs = wA G M i t n rs := by
    intro t n rs
    unfold wA
    rw [h1, h2]
  unfold wE
  rw [hs]
  split
  · rw [ha]
  · rfl
theorem wI_ne {M : Mm} {a j i : Nat} {x : Int32} (h : i ≠ a) : (wI M a j x).1 i = M.1 i := by
  funext k; simp [wI, h]
theorem wI_eq {M : Mm} {a j : Nat} {x : Int32} : (wI M a j x).1 a = upd (M.1 a) j x := by
  funext k; simp [wI, upd]
theorem wL_ne {M : Mm} {a j i : Nat} {x : Int64} (h : i ≠ a) : (wL M a j x).2 i = M.2 i := by
  funext k; simp [wL, h]
theorem wL_eq {M : Mm} {a j : Nat} {x : Int64} : (wL M a j x).2 a = vp_updL (M.2 a) j x := by
  funext k; simp [wL, vp_updL]
/-! what the tables say, as it rides through every call -/
def GW : List Cond := lw_tbl.filter goodWord
theorem inGW {w : Cond} (h : w ∈ lw_tbl) (hg : goodWord w = true) : w ∈ GW := List.mem_filter.mpr ⟨h, hg⟩
def strL : List (String × Nat × String) := [(RX6, 35, "beats"), (RX6, 44, "window"), (RX6, 49, "sight"), (RX6, 54, "rhythm"), (RX6, 64, "light"), (RX6, 76, "lit")]
def strN : List Nat := [5, 6, 5, 6, 5, 3]
def strB : List (List Int32) := [[98, 101, 97, 116, 115], [119, 105, 110, 100, 111, 119], [115, 105, 103, 104, 116], [114, 104, 121, 116, 104, 109], [108, 105, 103, 104, 116], [108, 105, 116]]
def KS (G : Gm) (A : Nat → Prop) (U : State) (H : Heap) : Prop :=
  vk_S 6 strN strB (fun i => G.2.1 (1000 + i)) (fun i => G.2.1 (2000 + i)) A U H ∧ (∀ (i : Nat) (q : String × Nat × String), strL[i]? = some q → vk_R q.1 q.2.1 q.2.2 (G.2.1 (1000 + i)) U) ∧ va_Z "java/lang/String" "COMPACT_STRINGS" "Z" (.int 1) A U H ∧ va_Zq "jdk/internal/util/Preconditions" "SIOOBE_FORMATTER" "Ljava/util/function/BiFunction;" A U H
def KK (G : Gm) (A : Nat → Prop) (U : State) (H : Heap) : Prop :=
  (∀ (cn : Nat) (q : vw_C), classes[cn]? = some q → u_Kn U q.1 q.2.1 q.2.2 (G.1.1 cn) (G.1.2 cn)) ∧ (∀ i t n rs, shp i = .inl (t, n, rs) → i < NSH → ArrOfT U (G.2.2 i) (aty t) ∧ va_RA U (G.2.2 i) (aty t)) ∧ va_Nw (.methodLinkNest RX3 71 yX8_lightsIn RX8) U ∧ va_Nw (.methodLinkNest RX7 35 yX8_lightsIn RX8) U ∧ KS G A U H
theorem KK.K {G : Gm} {A : Nat → Prop} {U : State} {H : Heap} (h : KK G A U H) : va_K G.1 classes [] U := ⟨h.1, fun k q hk => by simp at hk⟩
theorem KK.KA {G : Gm} {A : Nat → Prop} {U : State} {H : Heap} (h : KK G A U H) {i t n : Nat} {rs : List Nat} (hs : shp i = .inl (t, n, rs)) (hi : i < NSH) : va_K G.1 classes [(G.2.2 i, aty t)] U := by
  refine ⟨h.1, fun k q hk => ?_⟩
  match k, hk with
  | 0, hk => cases hk; exact h.2.1 i t n rs hs hi
  | k + 1, hk => simp at hk
theorem KK.KA2 {G : Gm} {A : Nat → Prop} {U : State} {H : Heap} (h : KK G A U H) {i t n : Nat} {rs : List Nat} (hs : shp i = .inl (t, n, rs)) (hi : i < NSH) {i2 n2 : Nat} {rs2 : List Nat} (hs2 : shp i2 = .inl (t, n2, rs2)) (hi2 : i2 < NSH) : va_K G.1 classes [(G.2.2 i, aty t), (G.2.2 i2, aty t)] U := by
  refine ⟨h.1, fun k q hk => ?_⟩
  match k, hk with
  | 0, hk => cases hk; exact h.2.1 i t n rs hs hi
  | 1, hk => cases hk; exact h.2.1 i2 t n2 rs2 hs2 hi2
  | k + 2, hk => simp at hk
theorem KS.go {G : Gm} {A B : Nat → Prop} {s U : State} {H0 H : Heap} (h : KS G A s H0) (hW : s.WarmedH U.vm) (hAB : ∀ q, B q → A q) (hk : ∀ a : Nat, a < H0.size → ¬ A a → H[a]? = H0[a]?) : KS G B U H := by
  obtain ⟨h1, h2, h3, h4⟩ := h
  refine ⟨((h1.kept hk).moved hW.alike).narrow hAB, fun i q hq => (h2 i q hq).warm hW, ((h3.kept hk).moved hW.alike).narrow hAB, ((h4.kept hk).moved hW.alike).narrow hAB⟩
theorem KK.go {G : Gm} {A B : Nat → Prop} {s U : State} {H0 H : Heap} (h : KK G A s H0) (hW : s.WarmedH U.vm) (hAB : ∀ q, B q → A q) (hk : ∀ a : Nat, a < H0.size → ¬ A a → H[a]? = H0[a]?) : KK G B U H := by
  obtain ⟨h1, h2, h3, h4, h5⟩ := h
  exact ⟨fun cn q hq => u_Kn_moved hW.alike (h1 cn q hq), fun i t n rs hs hi => ⟨arrOfT_moved hW.alike (h2 i t n rs hs hi).1, (h2 i t n rs hs hi).2.moved hW.alike⟩, va_Nw.warmM hW h3, va_Nw.warmM hW h4, h5.go hW hAB hk⟩
theorem KK.same {G : Gm} {A : Nat → Prop} {u U : State} {H : Heap} (h : KK G A u H) (hv : U.vm = u.vm) : KK G A U H := by
  have hvm : u.vm.Alike U.vm := by rw [hv]; exact Vm.Alike.refl _
  obtain ⟨h1, h2, h3, h4, h5, h6, h7, h8⟩ := h
  exact ⟨fun cn q hq => u_Kn_moved hvm (h1 cn q hq), fun i t n rs hs hi => ⟨arrOfT_moved hvm (h2 i t n rs hs hi).1, (h2 i t n rs hs hi).2.moved hvm⟩, va_Nw.same rfl hv.symm h3, va_Nw.same rfl hv.symm h4, h5.moved hvm, fun i q hq => (h6 i q hq).same hv, h7.moved hvm, h8.moved hvm⟩
/-! locals -/
def LH (ls : Array Slot) (nL : Nat) (ro : Nat → Nat) (lv : List (Option Value)) : Prop := ls.size = nL ∧ lv_wf ls ∧ ∀ (i : Nat) (w : Value), lv[i]? = some (some w) → ls[i]? = some (.val (cvv ro w))
def lvp (ro : Nat → Nat) (lv : List (Option Value)) : List (Nat × Value) := (List.range lv.length).filterMap (fun i => match lv[i]? with
  | some (some w) => some (i, cvv ro w)
  | _ => none)
theorem lvp_mem {ro : Nat → Nat} {lv : List (Option Value)} {q : Nat × Value} : q ∈ lvp ro lv ↔ ∃ w, lv[q.1]? = some (some w) ∧ q.2 = cvv ro w := by
  unfold lvp
  rw [List.mem_filterMap]
  constructor
  · rintro ⟨i, -, h⟩
    split at h
    · rename_i w hw
      cases h
      exact ⟨w, hw, rfl⟩
    · cases h
  · rintro ⟨w, hw, he⟩
    refine ⟨q.1, List.mem_range.mpr (List.getElem?_eq_some_iff.mp hw).1, ?_⟩
    rw [hw]
    exact congrArg some (Prod.ext rfl he.symm)
theorem LH.has {ls : Array Slot} {nL : Nat} {ro : Nat → Nat} {lv : List (Option Value)} (h : LH ls nL ro lv) : lv_has ls nL (lvp ro lv) := by
  refine ⟨h.1, h.2.1, fun q hq => ?_⟩
  obtain ⟨w, hw, he⟩ := lvp_mem.mp hq
  rw [he]
  exact h.2.2 q.1 w hw
theorem cvv_cat (ro : Nat → Nat) (w : Value) : (cvv ro w).category = w.category := by cases w <;> rfl
def stI (lv : List (Option Value)) (i : Nat) (v : Value) : List (Option Value) := lv.mapIdx (fun j w => if j = i then some v else if j + 1 = i then (match w with
  | some w => if w.category = 2 then none else some w
  | none => none) else w)
def stL (lv : List (Option Value)) (i : Nat) (v : Value) : List (Option Value) := lv.mapIdx (fun j w => if j = i then some v else if j = i + 1 then none else if j + 1 = i then (match w with
  | some w => if w.category = 2 then none else some w
  | none => none) else w)
theorem LH.ofI {ls : Array Slot} {nL i : Nat} {ro : Nat → Nat} {lv lv' : List (Option Value)} {v : Value} (h : lv_has ls nL ((i, cvv ro v) :: (lvp ro lv).filter (fun q => !(q.1 == i) && !(q.1 + 1 == i && q.2.category == 2)))) (he : stI lv i v = lv') : LH ls nL ro lv' := by
  subst he
  refine ⟨h.1, h.2.1, fun j w hj => ?_⟩
  rw [stI, List.getElem?_mapIdx] at hj
  cases hl : lv[j]? with
  | none => rw [hl] at hj; cases hj
  | some o =>
    rw [hl] at hj
    have hj := Option.some.inj hj
    by_cases h1 : j = i
    · subst h1
      simp at hj
      subst hj
      exact h.2.2 (j, cvv ro v) List.mem_cons_self
    · simp only [h1, if_false] at hj
      by_cases h2 : j + 1 = i
      · simp only [h2, if_true] at hj
        cases o with
        | none => simp at hj
        | some w' =>
          by_cases h3 : w'.category = 2
          · simp [h3] at hj
          · simp [h3] at hj
            subst hj
            refine h.2.2 (j, cvv ro w') (List.mem_cons_of_mem _ (List.mem_filter.mpr ⟨lvp_mem.mpr ⟨w', hl, rfl⟩, ?_⟩))
            simp [h1, cvv_cat, h3]
      · simp only [h2, if_false] at hj
        subst hj
        refine h.2.2 (j, cvv ro w) (List.mem_cons_of_mem _ (List.mem_filter.mpr ⟨lvp_mem.mpr ⟨w, hl, rfl⟩, ?_⟩))
        simp [h1, h2]
theorem LH.ofL {ls : Array Slot} {nL i : Nat} {ro : Nat → Nat} {lv lv' : List (Option Value)} {v : Value} (h : lv_has ls nL ((i, cvv ro v) :: (lvp ro lv).filter (fun q => !(q.1 == i) && (!(q.1 == i + 1) && !(q.1 + 1 == i && q.2.category == 2))))) (he : stL lv i v = lv') : LH ls nL ro lv' := by
  subst he
  refine ⟨h.1, h.2.1, fun j w hj => ?_⟩
  rw [stL, List.getElem?_mapIdx] at hj
  cases hl : lv[j]? with
  | none => rw [hl] at hj; cases hj
  | some o =>
    rw [hl] at hj
    have hj := Option.some.inj hj
    by_cases h1 : j = i
    · subst h1
      simp at hj
      subst hj
      exact h.2.2 (j, cvv ro v) List.mem_cons_self
    · simp only [h1, if_false] at hj
      by_cases h4 : j = i + 1
      · simp [h4] at hj
      · simp only [h4, if_false] at hj
        by_cases h2 : j + 1 = i
        · simp only [h2, if_true] at hj
          cases o with
          | none => simp at hj
          | some w' =>
            by_cases h3 : w'.category = 2
            · simp [h3] at hj
            · simp [h3] at hj
              subst hj
              refine h.2.2 (j, cvv ro w') (List.mem_cons_of_mem _ (List.mem_filter.mpr ⟨lvp_mem.mpr ⟨w', hl, rfl⟩, ?_⟩))
              simp [h1, h4, cvv_cat, h3]
        · simp only [h2, if_false] at hj
          subst hj
          refine h.2.2 (j, cvv ro w) (List.mem_cons_of_mem _ (List.mem_filter.mpr ⟨lvp_mem.mpr ⟨w, hl, rfl⟩, ?_⟩))
          simp [h1, h2, h4]
/-- fewer known locals -/
def lvLe : List (Option Value) → List (Option Value) → Prop
  | [], _ => True
  | none :: a, _ :: b => lvLe a b
  | none :: a, [] => lvLe a []
  | some v :: a, o :: b => o = some v ∧ lvLe a b
  | some _ :: _, [] => False
theorem lvLe_at : ∀ (a b : List (Option Value)), lvLe a b → ∀ (i : Nat) (w : Value), a[i]? = some (some w) → b[i]? = some (some w)
  | [], _, _, i, w, h => by simp at h
  | none :: a, o :: b, hl, 0, w, h => by simp at h
  | none :: a, o :: b, hl, i + 1, w, h => by
    simp only [List.getElem?_cons_succ] at h ⊢
    exact lvLe_at a b hl i w h
  | none :: a, [], hl, 0, w, h => by simp at h
  | none :: a, [], hl, i + 1, w, h => by
    simp only [List.getElem?_cons_succ] at h
    have := lvLe_at a [] hl i w h
    simp at this
  | some v :: a, o :: b, hl, 0, w, h => by
    simp only [List.getElem?_cons_zero] at h ⊢
    rw [hl.1]; exact h
  | some v :: a, o :: b, hl, i + 1, w, h => by
    simp only [List.getElem?_cons_succ] at h ⊢
    exact lvLe_at a b hl.2 i w h
theorem LH.le {ls : Array Slot} {nL : Nat} {ro : Nat → Nat} {a b : List (Option Value)} (h : LH ls nL ro b) (hl : lvLe a b) : LH ls nL ro a := ⟨h.1, h.2.1, fun i w hw => h.2.2 i w (lvLe_at a b hl i w hw)⟩
end
section
/-! RULES: an abstract machine over the abstract memory; each rule stands on a row of the kit. -/
section HB
variable {p : Program} {l : Launch} {e : Env} {R : Room} {s : State} {m : MethodId} {args : Array Value} {below : List Frame} {meth : Method} {c : Code} {G : Gm} {A : Nat → Prop} {cells slots : Nat} {Q : State → Prop} {X : Md} {M : Mm} {pc q : Nat} {lv lv' : List (Option Value)} {st : List Value}
def CX (p : Program) (s : State) (m : MethodId) (args : Array Value) (meth : Method) (c : Code) (G : Gm) (A : Nat → Prop) (X : Md) : Prop :=
  p.tables.exec = Jvm.exec ∧ c.code = X.2.1 ∧ meth.sig.returnType = X.2.2.2 ∧ c.maxLocals = X.2.2.1 ∧ s.vm.findClass X.1.cls = some m.cls ∧ (∀ w ∈ GW, w.before args s = true) ∧ meth.locks = false ∧ KK G A s s.heap ∧ DD G ∧ (∀ i, i < NSH → A (G.2.1 i))
def BW (p : Program) (l : Launch) (e : Env) (R : Room) (s : State) (m : MethodId) (args : Array Value) (below : List Frame) (meth : Method) (c : Code) (G : Gm) (A : Nat → Prop) (cells slots : Nat) (Q : State → Prop) (X : Md) (M : Mm) (pc : Nat) (lv : List (Option Value)) (st : List Value) : Prop :=
  ∀ (H : Heap) (locs : List Loc) (ls : Array Slot), va_P G.1 classes (wW G M) H → va_S A s.heap H locs → LH ls X.2.2.1 G.2.1 lv → W p l e R s m args below meth c H locs cells slots Q (F0 m pc ls (st.map (cvv G.2.1)))

theorem hb_iconst (hc : CX p s m args meth c G A X) {n : Int} {v : Int32} (hd : decode X.2.1 pc = .ok (.iconst n, 1)) (hq : pc + 1 = q) (hv : Int32.ofInt n = v) (kk : BW p l e R s m args below meth c G A cells slots Q X M q lv (.int v :: st)) : BW p l e R s m args below meth c G A cells slots Q X M pc lv (st) := by
  subst hq
  intro H locs ls hP hS hl
  exact lv_iconst hc.1 hc.2.1 hd hv (kk H locs ls hP hS hl)
theorem hb_bipush (hc : CX p s m args meth c G A X) {n : Int} {v : Int32} (hd : decode X.2.1 pc = .ok (.bipush n, 2)) (hq : pc + 2 = q) (hv : (Int8.ofInt n).toInt32 = v) (kk : BW p l e R s m args below meth c G A cells slots Q X M q lv (.int v :: st)) : BW p l e R s m args below meth c G A cells slots Q X M pc lv (st) := by
  subst hq
  intro H locs ls hP hS hl
  exact lv_bipush hc.1 hc.2.1 hd hv (kk H locs ls hP hS hl)
theorem hb_sipush (hc : CX p s m args meth c G A X) {n : Int} {v : Int32} (hd : decode X.2.1 pc = .ok (.sipush n, 3)) (hq : pc + 3 = q) (hv : (Int16.ofInt n).toInt32 = v) (kk : BW p l e R s m args below meth c G A cells slots Q X M q lv (.int v :: st)) : BW p l e R s m args below meth c G A cells slots Q X M pc lv (st) := by
  subst hq
  intro H locs ls hP hS hl
  exact lv_sipush hc.1 hc.2.1 hd hv (kk H locs ls hP hS hl)
theorem hb_lconst (hc : CX p s m args meth c G A X) {n : Fin 2} {v : Int64} (hd : decode X.2.1 pc = .ok (.lconst n, 1)) (hq : pc + 1 = q) (hv : Int64.ofNat (n : Nat) = v) (kk : BW p l e R s m args below meth c G A cells slots Q X M q lv (.long v :: st)) : BW p l e R s m args below meth c G A cells slots Q X M pc lv (st) := by
  subst hq
  intro H locs ls hP hS hl
  exact lv_lconst hc.1 hc.2.1 hd hv (kk H locs ls hP hS hl)
theorem hb_null (hc : CX p s m args meth c G A X)  (hd : decode X.2.1 pc = .ok (.aconst_null, 1)) (hq : pc + 1 = q)  (kk : BW p l e R s m args below meth c G A cells slots Q X M q lv (.null :: st)) : BW p l e R s m args below meth c G A cells slots Q X M pc lv (st) := by
  subst hq
  intro H locs ls hP hS hl
  exact lv_null hc.1 hc.2.1 hd (kk H locs ls hP hS hl)
theorem hb_ldc (hc : CX p s m args meth c G A X) {n : Nat} {v : Int32} (hd : decode X.2.1 pc = .ok (.ldc n, 2)) (hq : pc + 2 = q) (hw : Cond.constant X.1.cls n v ∈ GW) (kk : BW p l e R s m args below meth c G A cells slots Q X M q lv (.int v :: st)) : BW p l e R s m args below meth c G A cells slots Q X M pc lv (st) := by
  subst hq
  intro H locs ls hP hS hl
  exact lv_ldc hc.1 hc.2.1 hc.2.2.2.2.1 (hc.2.2.2.2.2.1 _ hw) hd (kk H locs ls hP hS hl)
theorem hb_ldcw (hc : CX p s m args meth c G A X) {n : Nat} {v : Int32} (hd : decode X.2.1 pc = .ok (.ldc_w n, 3)) (hq : pc + 3 = q) (hw : Cond.constant X.1.cls n v ∈ GW) (kk : BW p l e R s m args below meth c G A cells slots Q X M q lv (.int v :: st)) : BW p l e R s m args below meth c G A cells slots Q X M pc lv (st) := by
  subst hq
  intro H locs ls hP hS hl
  exact lv_ldcw hc.1 hc.2.1 hc.2.2.2.2.1 (hc.2.2.2.2.2.1 _ hw) hd (kk H locs ls hP hS hl)
theorem hb_ldc2 (hc : CX p s m args meth c G A X) {n : Nat} {v : Int64} (hd : decode X.2.1 pc = .ok (.ldc2_w n, 3)) (hq : pc + 3 = q) (hw : Cond.constantLong X.1.cls n v ∈ GW) (kk : BW p l e R s m args below meth c G A cells slots Q X M q lv (.long v :: st)) : BW p l e R s m args below meth c G A cells slots Q X M pc lv (st) := by
  subst hq
  intro H locs ls hP hS hl
  exact lv_ldc2 hc.1 hc.2.1 hc.2.2.2.2.1 (hc.2.2.2.2.2.1 _ hw) hd (kk H locs ls hP hS hl)
theorem hb_iload_n (hc : CX p s m args meth c G A X) {k : Fin 4} {x : Int32} (hd : decode X.2.1 pc = .ok (.iload_n k, 1)) (hq : pc + 1 = q) (hv : lv[(k : Nat)]? = some (some (.int x))) (kk : BW p l e R s m args below meth c G A cells slots Q X M q lv (.int x :: st)) : BW p l e R s m args below meth c G A cells slots Q X M pc lv (st) := by
  subst hq
  intro H locs ls hP hS hl
  exact lv_iload_n hc.1 hc.2.1 hd rfl (hl.2.2 _ _ hv) (kk H locs ls hP hS hl)
theorem hb_iload (hc : CX p s m args meth c G A X) {k : Nat} {x : Int32} (hd : decode X.2.1 pc = .ok (.iload k, 2)) (hq : pc + 2 = q) (hv : lv[k]? = some (some (.int x))) (kk : BW p l e R s m args below meth c G A cells slots Q X M q lv (.int x :: st)) : BW p l e R s m args below meth c G A cells slots Q X M pc lv (st) := by
  subst hq
  intro H locs ls hP hS hl
  exact lv_iload hc.1 hc.2.1 hd (hl.2.2 _ _ hv) (kk H locs ls hP hS hl)
theorem hb_lload_n (hc : CX p s m args meth c G A X) {k : Fin 4} {x : Int64} (hd : decode X.2.1 pc = .ok (.lload_n k, 1)) (hq : pc + 1 = q) (hv : lv[(k : Nat)]? = some (some (.long x))) (kk : BW p l e R s m args below meth c G A cells slots Q X M q lv (.long x :: st)) : BW p l e R s m args below meth c G A cells slots Q X M pc lv (st) := by
  subst hq
  intro H locs ls hP hS hl
  exact lv_lload_n hc.1 hc.2.1 hd rfl (hl.2.2 _ _ hv) (kk H locs ls hP hS hl)
theorem hb_lload (hc : CX p s m args meth c G A X) {k : Nat} {x : Int64} (hd : decode X.2.1 pc = .ok (.lload k, 2)) (hq : pc + 2 = q) (hv : lv[k]? = some (some (.long x))) (kk : BW p l e R s m args below meth c G A cells slots Q X M q lv (.long x :: st)) : BW p l e R s m args below meth c G A cells slots Q X M pc lv (st) := by
  subst hq
  intro H locs ls hP hS hl
  exact lv_lload hc.1 hc.2.1 hd (hl.2.2 _ _ hv) (kk H locs ls hP hS hl)
theorem hb_aload_n (hc : CX p s m args meth c G A X) {k : Fin 4} {x : Nat} (hd : decode X.2.1 pc = .ok (.aload_n k, 1)) (hq : pc + 1 = q) (hv : lv[(k : Nat)]? = some (some (.ref x))) (kk : BW p l e R s m args below meth c G A cells slots Q X M q lv (.ref x :: st)) : BW p l e R s m args below meth c G A cells slots Q X M pc lv (st) := by
  subst hq
  intro H locs ls hP hS hl
  exact lv_aload_n hc.1 hc.2.1 hd rfl (hl.2.2 _ _ hv) (kk H locs ls hP hS hl)
theorem hb_aload (hc : CX p s m args meth c G A X) {k : Nat} {x : Nat} (hd : decode X.2.1 pc = .ok (.aload k, 2)) (hq : pc + 2 = q) (hv : lv[k]? = some (some (.ref x))) (kk : BW p l e R s m args below meth c G A cells slots Q X M q lv (.ref x :: st)) : BW p l e R s m args below meth c G A cells slots Q X M pc lv (st) := by
  subst hq
  intro H locs ls hP hS hl
  exact lv_aload hc.1 hc.2.1 hd (hl.2.2 _ _ hv) (kk H locs ls hP hS hl)
theorem hb_aload_nN (hc : CX p s m args meth c G A X) {k : Fin 4} (hd : decode X.2.1 pc = .ok (.aload_n k, 1)) (hq : pc + 1 = q) (hv : lv[(k : Nat)]? = some (some .null)) (kk : BW p l e R s m args below meth c G A cells slots Q X M q lv (.null :: st)) : BW p l e R s m args below meth c G A cells slots Q X M pc lv (st) := by
  subst hq
  intro H locs ls hP hS hl
  exact lv_aload_nN hc.1 hc.2.1 hd rfl (hl.2.2 _ _ hv) (kk H locs ls hP hS hl)
theorem hb_istore_n (hc : CX p s m args meth c G A X) {k : Fin 4} {x : Int32} (hd : decode X.2.1 pc = .ok (.istore_n k, 1)) (hq : pc + 1 = q) (hn : (k : Nat) < X.2.2.1) (hv : stI lv (k : Nat) (.int x) = lv') (kk : BW p l e R s m args below meth c G A cells slots Q X M q lv' st) : BW p l e R s m args below meth c G A cells slots Q X M pc lv (.int x :: st) := by
  subst hq
  intro H locs ls hP hS hl
  exact lv_istore_n hc.1 hc.2.1 hd rfl hl.has hn rfl (fun ls' hl' => kk H locs ls' hP hS (LH.ofI (v := .int x) hl' hv))
theorem hb_istore (hc : CX p s m args meth c G A X) {k : Nat} {x : Int32} (hd : decode X.2.1 pc = .ok (.istore k, 2)) (hq : pc + 2 = q) (hn : k < X.2.2.1) (hv : stI lv k (.int x) = lv') (kk : BW p l e R s m args below meth c G A cells slots Q X M q lv' st) : BW p l e R s m args below meth c G A cells slots Q X M pc lv (.int x :: st) := by
  subst hq
  intro H locs ls hP hS hl
  exact lv_istore hc.1 hc.2.1 hd hl.has hn rfl (fun ls' hl' => kk H locs ls' hP hS (LH.ofI (v := .int x) hl' hv))
theorem hb_astore_n (hc : CX p s m args meth c G A X) {k : Fin 4} {x : Nat} (hd : decode X.2.1 pc = .ok (.astore_n k, 1)) (hq : pc + 1 = q) (hn : (k : Nat) < X.2.2.1) (hv : stI lv (k : Nat) (.ref x) = lv') (kk : BW p l e R s m args below meth c G A cells slots Q X M q lv' st) : BW p l e R s m args below meth c G A cells slots Q X M pc lv (.ref x :: st) := by
  subst hq
  intro H locs ls hP hS hl
  exact lv_astore_n hc.1 hc.2.1 hd rfl hl.has hn rfl (fun ls' hl' => kk H locs ls' hP hS (LH.ofI (v := .ref x) hl' hv))
theorem hb_astore (hc : CX p s m args meth c G A X) {k : Nat} {x : Nat} (hd : decode X.2.1 pc = .ok (.astore k, 2)) (hq : pc + 2 = q) (hn : k < X.2.2.1) (hv : stI lv k (.ref x) = lv') (kk : BW p l e R s m args below meth c G A cells slots Q X M q lv' st) : BW p l e R s m args below meth c G A cells slots Q X M pc lv (.ref x :: st) := by
  subst hq
  intro H locs ls hP hS hl
  exact lv_astore hc.1 hc.2.1 hd hl.has hn rfl (fun ls' hl' => kk H locs ls' hP hS (LH.ofI (v := .ref x) hl' hv))
theorem hb_lstore_n (hc : CX p s m args meth c G A X) {k : Fin 4} {x : Int64} (hd : decode X.2.1 pc = .ok (.lstore_n k, 1)) (hq : pc + 1 = q) (hn : (k : Nat) + 1 < X.2.2.1) (hv : stL lv (k : Nat) (.long x) = lv') (kk : BW p l e R s m args below meth c G A cells slots Q X M q lv' st) : BW p l e R s m args below meth c G A cells slots Q X M pc lv (.long x :: st) := by
  subst hq
  intro H locs ls hP hS hl
  exact lv_lstore_n hc.1 hc.2.1 hd rfl hl.has hn rfl (fun ls' hl' => kk H locs ls' hP hS (LH.ofL (v := .long x) hl' hv))
theorem hb_lstore (hc : CX p s m args meth c G A X) {k : Nat} {x : Int64} (hd : decode X.2.1 pc = .ok (.lstore k, 2)) (hq : pc + 2 = q) (hn : k + 1 < X.2.2.1) (hv : stL lv k (.long x) = lv') (kk : BW p l e R s m args below meth c G A cells slots Q X M q lv' st) : BW p l e R s m args below meth c G A cells slots Q X M pc lv (.long x :: st) := by
  subst hq
  intro H locs ls hP hS hl
  exact lv_lstore hc.1 hc.2.1 hd hl.has hn rfl (fun ls' hl' => kk H locs ls' hP hS (LH.ofL (v := .long x) hl' hv))
theorem hb_astore_nN (hc : CX p s m args meth c G A X) {k : Fin 4} (hd : decode X.2.1 pc = .ok (.astore_n k, 1)) (hq : pc + 1 = q) (hn : (k : Nat) < X.2.2.1) (hv : stI lv (k : Nat) .null = lv') (kk : BW p l e R s m args below meth c G A cells slots Q X M q lv' st) : BW p l e R s m args below meth c G A cells slots Q X M pc lv (.null :: st) := by
  subst hq
  intro H locs ls hP hS hl
  exact lv_astore_nN hc.1 hc.2.1 hd rfl hl.has hn rfl (fun ls' hl' => kk H locs ls' hP hS (LH.ofI (v := .null) hl' hv))
theorem hb_iinc (hc : CX p s m args meth c G A X) {k : Nat} {n : Int} {x v : Int32} (hd : decode X.2.1 pc = .ok (.iinc k n, 3)) (hq : pc + 3 = q) (hx : lv[k]? = some (some (.int x))) (hw : x + Int32.ofInt n = v) (hn : k < X.2.2.1) (hv : stI lv k (.int v) = lv') (kk : BW p l e R s m args below meth c G A cells slots Q X M q lv' st) : BW p l e R s m args below meth c G A cells slots Q X M pc lv st := by
  subst hq
  intro H locs ls hP hS hl
  obtain ⟨j, hj⟩ := List.getElem?_of_mem (lvp_mem (ro := G.2.1) (lv := lv) (q := (k, .int x)) |>.mpr ⟨.int x, hx, rfl⟩)
  exact lv_iinc hc.1 hc.2.1 hd hl.has hj hw hn rfl (fun ls' hl' => kk H locs ls' hP hS (LH.ofI (v := .int v) hl' hv))
theorem hb_iadd (hc : CX p s m args meth c G A X) {x y : Int32} (hd : decode X.2.1 pc = .ok (.iadd, 1)) (hq : pc + 1 = q)  (kk : BW p l e R s m args below meth c G A cells slots Q X M q lv (.int (x + y) :: st)) : BW p l e R s m args below meth c G A cells slots Q X M pc lv (.int y :: .int x :: st) := by
  subst hq
  intro H locs ls hP hS hl
  exact lv_iadd hc.1 hc.2.1 hd (kk H locs ls hP hS hl)
theorem hb_isub (hc : CX p s m args meth c G A X) {x y : Int32} (hd : decode X.2.1 pc = .ok (.isub, 1)) (hq : pc + 1 = q)  (kk : BW p l e R s m args below meth c G A cells slots Q X M q lv (.int (x - y) :: st)) : BW p l e R s m args below meth c G A cells slots Q X M pc lv (.int y :: .int x :: st) := by
  subst hq
  intro H locs ls hP hS hl
  exact lv_isub hc.1 hc.2.1 hd (kk H locs ls hP hS hl)
theorem hb_imul (hc : CX p s m args meth c G A X) {x y : Int32} (hd : decode X.2.1 pc = .ok (.imul, 1)) (hq : pc + 1 = q)  (kk : BW p l e R s m args below meth c G A cells slots Q X M q lv (.int (x * y) :: st)) : BW p l e R s m args below meth c G A cells slots Q X M pc lv (.int y :: .int x :: st) := by
  subst hq
  intro H locs ls hP hS hl
  exact lv_imul hc.1 hc.2.1 hd (kk H locs ls hP hS hl)
theorem hb_iand (hc : CX p s m args meth c G A X) {x y : Int32} (hd : decode X.2.1 pc = .ok (.iand, 1)) (hq : pc + 1 = q)  (kk : BW p l e R s m args below meth c G A cells slots Q X M q lv (.int (x &&& y) :: st)) : BW p l e R s m args below meth c G A cells slots Q X M pc lv (.int y :: .int x :: st) := by
  subst hq
  intro H locs ls hP hS hl
  exact lv_iand hc.1 hc.2.1 hd (kk H locs ls hP hS hl)
theorem hb_ior (hc : CX p s m args meth c G A X) {x y : Int32} (hd : decode X.2.1 pc = .ok (.ior, 1)) (hq : pc + 1 = q)  (kk : BW p l e R s m args below meth c G A cells slots Q X M q lv (.int (x ||| y) :: st)) : BW p l e R s m args below meth c G A cells slots Q X M pc lv (.int y :: .int x :: st) := by
  subst hq
  intro H locs ls hP hS hl
  exact lv_ior hc.1 hc.2.1 hd (kk H locs ls hP hS hl)
theorem hb_ixor (hc : CX p s m args meth c G A X) {x y : Int32} (hd : decode X.2.1 pc = .ok (.ixor, 1)) (hq : pc + 1 = q)  (kk : BW p l e R s m args below meth c G A cells slots Q X M q lv (.int (x ^^^ y) :: st)) : BW p l e R s m args below meth c G A cells slots Q X M pc lv (.int y :: .int x :: st) := by
  subst hq
  intro H locs ls hP hS hl
  exact lv_ixor hc.1 hc.2.1 hd (kk H locs ls hP hS hl)
theorem hb_ishl (hc : CX p s m args meth c G A X) {x y : Int32} (hd : decode X.2.1 pc = .ok (.ishl, 1)) (hq : pc + 1 = q)  (kk : BW p l e R s m args below meth c G A cells slots Q X M q lv (.int (x <<< (y &&& 31)) :: st)) : BW p l e R s m args below meth c G A cells slots Q X M pc lv (.int y :: .int x :: st) := by
  subst hq
  intro H locs ls hP hS hl
  exact lv_ishl hc.1 hc.2.1 hd (kk H locs ls hP hS hl)
theorem hb_ishr (hc : CX p s m args meth c G A X) {x y : Int32} (hd : decode X.2.1 pc = .ok (.ishr, 1)) (hq : pc + 1 = q)  (kk : BW p l e R s m args below meth c G A cells slots Q X M q lv (.int (x >>> (y &&& 31)) :: st)) : BW p l e R s m args below meth c G A cells slots Q X M pc lv (.int y :: .int x :: st) := by
  subst hq
  intro H locs ls hP hS hl
  exact lv_ishr hc.1 hc.2.1 hd (kk H locs ls hP hS hl)
theorem hb_ineg (hc : CX p s m args meth c G A X) {x : Int32} (hd : decode X.2.1 pc = .ok (.ineg, 1)) (hq : pc + 1 = q)  (kk : BW p l e R s m args below meth c G A cells slots Q X M q lv (.int (-x) :: st)) : BW p l e R s m args below meth c G A cells slots Q X M pc lv (.int x :: st) := by
  subst hq
  intro H locs ls hP hS hl
  exact lv_ineg hc.1 hc.2.1 hd (kk H locs ls hP hS hl)
theorem hb_idiv (hc : CX p s m args meth c G A X) {x y : Int32} (hd : decode X.2.1 pc = .ok (.idiv, 1)) (hq : pc + 1 = q) (hne : ¬ y = 0) (kk : BW p l e R s m args below meth c G A cells slots Q X M q lv (.int (x / y) :: st)) : BW p l e R s m args below meth c G A cells slots Q X M pc lv (.int y :: .int x :: st) := by
  subst hq
  intro H locs ls hP hS hl
  exact lv_idiv hc.1 hc.2.1 hd hne (kk H locs ls hP hS hl)
theorem hb_irem (hc : CX p s m args meth c G A X) {x y : Int32} (hd : decode X.2.1 pc = .ok (.irem, 1)) (hq : pc + 1 = q) (hne : ¬ y = 0) (kk : BW p l e R s m args below meth c G A cells slots Q X M q lv (.int (x - x / y * y) :: st)) : BW p l e R s m args below meth c G A cells slots Q X M pc lv (.int y :: .int x :: st) := by
  subst hq
  intro H locs ls hP hS hl
  exact lv_irem hc.1 hc.2.1 hd hne (kk H locs ls hP hS hl)
theorem hb_iushr (hc : CX p s m args meth c G A X) {x y : Int32} (hd : decode X.2.1 pc = .ok (.iushr, 1)) (hq : pc + 1 = q)  (kk : BW p l e R s m args below meth c G A cells slots Q X M q lv (.int ((x.toUInt32 >>> (y.toUInt32 &&& Int32.toUInt32 31)).toInt32) :: st)) : BW p l e R s m args below meth c G A cells slots Q X M pc lv (.int y :: .int x :: st) := by
  subst hq
  intro H locs ls hP hS hl
  exact lv_iushr hc.1 hc.2.1 hd rfl (kk H locs ls hP hS hl)
theorem hb_ladd (hc : CX p s m args meth c G A X) {x y : Int64} (hd : decode X.2.1 pc = .ok (.ladd, 1)) (hq : pc + 1 = q)  (kk : BW p l e R s m args below meth c G A cells slots Q X M q lv (.long (x + y) :: st)) : BW p l e R s m args below meth c G A cells slots Q X M pc lv (.long y :: .long x :: st) := by
  subst hq
  intro H locs ls hP hS hl
  exact lv_ladd hc.1 hc.2.1 hd (kk H locs ls hP hS hl)
theorem hb_lsub (hc : CX p s m args meth c G A X) {x y : Int64} (hd : decode X.2.1 pc = .ok (.lsub, 1)) (hq : pc + 1 = q)  (kk : BW p l e R s m args below meth c G A cells slots Q X M q lv (.long (x - y) :: st)) : BW p l e R s m args below meth c G A cells slots Q X M pc lv (.long y :: .long x :: st) := by
  subst hq
  intro H locs ls hP hS hl
  exact lv_lsub hc.1 hc.2.1 hd (kk H locs ls hP hS hl)
theorem hb_land (hc : CX p s m args meth c G A X) {x y : Int64} (hd : decode X.2.1 pc = .ok (.land, 1)) (hq : pc + 1 = q)  (kk : BW p l e R s m args below meth c G A cells slots Q X M q lv (.long (x &&& y) :: st)) : BW p l e R s m args below meth c G A cells slots Q X M pc lv (.long y :: .long x :: st) := by
  subst hq
  intro H locs ls hP hS hl
  exact lv_land hc.1 hc.2.1 hd (kk H locs ls hP hS hl)
theorem hb_lor (hc : CX p s m args meth c G A X) {x y : Int64} (hd : decode X.2.1 pc = .ok (.lor, 1)) (hq : pc + 1 = q)  (kk : BW p l e R s m args below meth c G A cells slots Q X M q lv (.long (x ||| y) :: st)) : BW p l e R s m args below meth c G A cells slots Q X M pc lv (.long y :: .long x :: st) := by
  subst hq
  intro H locs ls hP hS hl
  exact lv_lor hc.1 hc.2.1 hd (kk H locs ls hP hS hl)
theorem hb_lxor (hc : CX p s m args meth c G A X) {x y : Int64} (hd : decode X.2.1 pc = .ok (.lxor, 1)) (hq : pc + 1 = q)  (kk : BW p l e R s m args below meth c G A cells slots Q X M q lv (.long (x ^^^ y) :: st)) : BW p l e R s m args below meth c G A cells slots Q X M pc lv (.long y :: .long x :: st) := by
  subst hq
  intro H locs ls hP hS hl
  exact lv_lxor hc.1 hc.2.1 hd (kk H locs ls hP hS hl)
theorem hb_lshl (hc : CX p s m args meth c G A X) {x : Int64} {y : Int32} (hd : decode X.2.1 pc = .ok (.lshl, 1)) (hq : pc + 1 = q)  (kk : BW p l e R s m args below meth c G A cells slots Q X M q lv (.long (x <<< (y.toInt64 &&& 63)) :: st)) : BW p l e R s m args below meth c G A cells slots Q X M pc lv (.int y :: .long x :: st) := by
  subst hq
  intro H locs ls hP hS hl
  exact lv_lshl hc.1 hc.2.1 hd rfl (kk H locs ls hP hS hl)
theorem hb_lshr (hc : CX p s m args meth c G A X) {x : Int64} {y : Int32} (hd : decode X.2.1 pc = .ok (.lshr, 1)) (hq : pc + 1 = q)  (kk : BW p l e R s m args below meth c G A cells slots Q X M q lv (.long (x >>> (y.toInt64 &&& 63)) :: st)) : BW p l e R s m args below meth c G A cells slots Q X M pc lv (.int y :: .long x :: st) := by
  subst hq
  intro H locs ls hP hS hl
  exact lv_lshr hc.1 hc.2.1 hd rfl (kk H locs ls hP hS hl)
theorem hb_lushr (hc : CX p s m args meth c G A X) {x : Int64} {y : Int32} (hd : decode X.2.1 pc = .ok (.lushr, 1)) (hq : pc + 1 = q)  (kk : BW p l e R s m args below meth c G A cells slots Q X M q lv (.long ((x.toUInt64 >>> (y.toInt64.toUInt64 &&& Int64.toUInt64 63)).toInt64) :: st)) : BW p l e R s m args below meth c G A cells slots Q X M pc lv (.int y :: .long x :: st) := by
  subst hq
  intro H locs ls hP hS hl
  exact lv_lushr hc.1 hc.2.1 hd rfl (kk H locs ls hP hS hl)
theorem hb_i2l (hc : CX p s m args meth c G A X) {x : Int32} (hd : decode X.2.1 pc = .ok (.i2l, 1)) (hq : pc + 1 = q)  (kk : BW p l e R s m args below meth c G A cells slots Q X M q lv (.long x.toInt64 :: st)) : BW p l e R s m args below meth c G A cells slots Q X M pc lv (.int x :: st) := by
  subst hq
  intro H locs ls hP hS hl
  exact lv_i2l hc.1 hc.2.1 hd rfl (kk H locs ls hP hS hl)
theorem hb_l2i (hc : CX p s m args meth c G A X) {x : Int64} (hd : decode X.2.1 pc = .ok (.l2i, 1)) (hq : pc + 1 = q)  (kk : BW p l e R s m args below meth c G A cells slots Q X M q lv (.int x.toInt32 :: st)) : BW p l e R s m args below meth c G A cells slots Q X M pc lv (.long x :: st) := by
  subst hq
  intro H locs ls hP hS hl
  exact lv_l2i hc.1 hc.2.1 hd rfl (kk H locs ls hP hS hl)
theorem hb_lcmp (hc : CX p s m args meth c G A X) {x y : Int64} (hd : decode X.2.1 pc = .ok (.lcmp, 1)) (hq : pc + 1 = q)  (kk : BW p l e R s m args below meth c G A cells slots Q X M q lv (.int (lg_cmp x y) :: st)) : BW p l e R s m args below meth c G A cells slots Q X M pc lv (.long y :: .long x :: st) := by
  subst hq
  intro H locs ls hP hS hl
  exact W.lcmp hc.1 hc.2.1 hd (kk H locs ls hP hS hl)
theorem hb_dup (hc : CX p s m args meth c G A X) {v : Value} (hd : decode X.2.1 pc = .ok (.dup, 1)) (hq : pc + 1 = q) (hv : v.category = 1) (kk : BW p l e R s m args below meth c G A cells slots Q X M q lv (v :: v :: st)) : BW p l e R s m args below meth c G A cells slots Q X M pc lv (v :: st) := by
  subst hq
  intro H locs ls hP hS hl
  exact lv_dup hc.1 hc.2.1 hd ((cvv_cat _ _).trans hv) (kk H locs ls hP hS hl)
theorem hb_pop (hc : CX p s m args meth c G A X) {v : Value} (hd : decode X.2.1 pc = .ok (.pop, 1)) (hq : pc + 1 = q) (hv : v.category = 1) (kk : BW p l e R s m args below meth c G A cells slots Q X M q lv (st)) : BW p l e R s m args below meth c G A cells slots Q X M pc lv (v :: st) := by
  subst hq
  intro H locs ls hP hS hl
  exact lv_pop hc.1 hc.2.1 hd ((cvv_cat _ _).trans hv) (kk H locs ls hP hS hl)
theorem hb_dup2 (hc : CX p s m args meth c G A X) {v u : Value} (hd : decode X.2.1 pc = .ok (.dup2, 1)) (hq : pc + 1 = q) (hv : v.category = 1) (hu : u.category = 1) (kk : BW p l e R s m args below meth c G A cells slots Q X M q lv (v :: u :: v :: u :: st)) : BW p l e R s m args below meth c G A cells slots Q X M pc lv (v :: u :: st) := by
  subst hq
  intro H locs ls hP hS hl
  exact lv_dup2_11 hc.1 hc.2.1 hd ((cvv_cat _ _).trans hv) ((cvv_cat _ _).trans hu) (kk H locs ls hP hS hl)
theorem hb_if_eq (hc : CX p s m args meth c G A X) {x : Int32} {off : Int} {tg : Nat} (hd : decode X.2.1 pc = .ok (.ifCond .eq off, 3)) (hq : pc + 3 = q) (ht : (pc : Int) + off = (tg : Int)) (kt : x = 0 → BW p l e R s m args below meth c G A cells slots Q X M tg lv st) (kf : ¬ x = 0 → BW p l e R s m args below meth c G A cells slots Q X M q lv st) : BW p l e R s m args below meth c G A cells slots Q X M pc lv (.int x :: st) := by
  subst hq
  intro H locs ls hP hS hl
  exact lv_if_eq hc.1 hc.2.1 hd ht (fun z => kt z H locs ls hP hS hl) (fun z => kf z H locs ls hP hS hl)
theorem hb_if_ne (hc : CX p s m args meth c G A X) {x : Int32} {off : Int} {tg : Nat} (hd : decode X.2.1 pc = .ok (.ifCond .ne off, 3)) (hq : pc + 3 = q) (ht : (pc : Int) + off = (tg : Int)) (kt : ¬ x = 0 → BW p l e R s m args below meth c G A cells slots Q X M tg lv st) (kf : x = 0 → BW p l e R s m args below meth c G A cells slots Q X M q lv st) : BW p l e R s m args below meth c G A cells slots Q X M pc lv (.int x :: st) := by
  subst hq
  intro H locs ls hP hS hl
  exact lv_if_ne hc.1 hc.2.1 hd ht (fun z => kt z H locs ls hP hS hl) (fun z => kf z H locs ls hP hS hl)
theorem hb_if_lt (hc : CX p s m args meth c G A X) {x : Int32} {off : Int} {tg : Nat} (hd : decode X.2.1 pc = .ok (.ifCond .lt off, 3)) (hq : pc + 3 = q) (ht : (pc : Int) + off = (tg : Int)) (kt : x < 0 → BW p l e R s m args below meth c G A cells slots Q X M tg lv st) (kf : ¬ x < 0 → BW p l e R s m args below meth c G A cells slots Q X M q lv st) : BW p l e R s m args below meth c G A cells slots Q X M pc lv (.int x :: st) := by
  subst hq
  intro H locs ls hP hS hl
  exact lv_if_lt hc.1 hc.2.1 hd ht (fun z => kt z H locs ls hP hS hl) (fun z => kf z H locs ls hP hS hl)
theorem hb_if_ge (hc : CX p s m args meth c G A X) {x : Int32} {off : Int} {tg : Nat} (hd : decode X.2.1 pc = .ok (.ifCond .ge off, 3)) (hq : pc + 3 = q) (ht : (pc : Int) + off = (tg : Int)) (kt : 0 ≤ x → BW p l e R s m args below meth c G A cells slots Q X M tg lv st) (kf : ¬ 0 ≤ x → BW p l e R s m args below meth c G A cells slots Q X M q lv st) : BW p l e R s m args below meth c G A cells slots Q X M pc lv (.int x :: st) := by
  subst hq
  intro H locs ls hP hS hl
  exact lv_if_ge hc.1 hc.2.1 hd ht (fun z => kt z H locs ls hP hS hl) (fun z => kf z H locs ls hP hS hl)
theorem hb_if_gt (hc : CX p s m args meth c G A X) {x : Int32} {off : Int} {tg : Nat} (hd : decode X.2.1 pc = .ok (.ifCond .gt off, 3)) (hq : pc + 3 = q) (ht : (pc : Int) + off = (tg : Int)) (kt : 0 < x → BW p l e R s m args below meth c G A cells slots Q X M tg lv st) (kf : ¬ 0 < x → BW p l e R s m args below meth c G A cells slots Q X M q lv st) : BW p l e R s m args below meth c G A cells slots Q X M pc lv (.int x :: st) := by
  subst hq
  intro H locs ls hP hS hl
  exact lv_if_gt hc.1 hc.2.1 hd ht (fun z => kt z H locs ls hP hS hl) (fun z => kf z H locs ls hP hS hl)
theorem hb_if_le (hc : CX p s m args meth c G A X) {x : Int32} {off : Int} {tg : Nat} (hd : decode X.2.1 pc = .ok (.ifCond .le off, 3)) (hq : pc + 3 = q) (ht : (pc : Int) + off = (tg : Int)) (kt : x ≤ 0 → BW p l e R s m args below meth c G A cells slots Q X M tg lv st) (kf : ¬ x ≤ 0 → BW p l e R s m args below meth c G A cells slots Q X M q lv st) : BW p l e R s m args below meth c G A cells slots Q X M pc lv (.int x :: st) := by
  subst hq
  intro H locs ls hP hS hl
  exact lv_if_le hc.1 hc.2.1 hd ht (fun z => kt z H locs ls hP hS hl) (fun z => kf z H locs ls hP hS hl)
theorem hb_icmp_eq (hc : CX p s m args meth c G A X) {x y : Int32} {off : Int} {tg : Nat} (hd : decode X.2.1 pc = .ok (.if_icmp .eq off, 3)) (hq : pc + 3 = q) (ht : (pc : Int) + off = (tg : Int)) (kt : x = y → BW p l e R s m args below meth c G A cells slots Q X M tg lv st) (kf : ¬ x = y → BW p l e R s m args below meth c G A cells slots Q X M q lv st) : BW p l e R s m args below meth c G A cells slots Q X M pc lv (.int y :: .int x :: st) := by
  subst hq
  intro H locs ls hP hS hl
  exact lv_icmp_eq hc.1 hc.2.1 hd ht (fun z => kt z H locs ls hP hS hl) (fun z => kf z H locs ls hP hS hl)
theorem hb_icmp_ne (hc : CX p s m args meth c G A X) {x y : Int32} {off : Int} {tg : Nat} (hd : decode X.2.1 pc = .ok (.if_icmp .ne off, 3)) (hq : pc + 3 = q) (ht : (pc : Int) + off = (tg : Int)) (kt : ¬ x = y → BW p l e R s m args below meth c G A cells slots Q X M tg lv st) (kf : x = y → BW p l e R s m args below meth c G A cells slots Q X M q lv st) : BW p l e R s m args below meth c G A cells slots Q X M pc lv (.int y :: .int x :: st) := by
  subst hq
  intro H locs ls hP hS hl
  exact lv_icmp_ne hc.1 hc.2.1 hd ht (fun z => kt z H locs ls hP hS hl) (fun z => kf z H locs ls hP hS hl)
theorem hb_icmp_lt (hc : CX p s m args meth c G A X) {x y : Int32} {off : Int} {tg : Nat} (hd : decode X.2.1 pc = .ok (.if_icmp .lt off, 3)) (hq : pc + 3 = q) (ht : (pc : Int) + off = (tg : Int)) (kt : x < y → BW p l e R s m args below meth c G A cells slots Q X M tg lv st) (kf : ¬ x < y → BW p l e R s m args below meth c G A cells slots Q X M q lv st) : BW p l e R s m args below meth c G A cells slots Q X M pc lv (.int y :: .int x :: st) := by
  subst hq
  intro H locs ls hP hS hl
  exact lv_icmp_lt hc.1 hc.2.1 hd ht (fun z => kt z H locs ls hP hS hl) (fun z => kf z H locs ls hP hS hl)
theorem hb_icmp_ge (hc : CX p s m args meth c G A X) {x y : Int32} {off : Int} {tg : Nat} (hd : decode X.2.1 pc = .ok (.if_icmp .ge off, 3)) (hq : pc + 3 = q) (ht : (pc : Int) + off = (tg : Int)) (kt : y ≤ x → BW p l e R s m args below meth c G A cells slots Q X M tg lv st) (kf : ¬ y ≤ x → BW p l e R s m args below meth c G A cells slots Q X M q lv st) : BW p l e R s m args below meth c G A cells slots Q X M pc lv (.int y :: .int x :: st) := by
  subst hq
  intro H locs ls hP hS hl
  exact lv_icmp_ge hc.1 hc.2.1 hd ht (fun z => kt z H locs ls hP hS hl) (fun z => kf z H locs ls hP hS hl)
theorem hb_icmp_gt (hc : CX p s m args meth c G A X) {x y : Int32} {off : Int} {tg : Nat} (hd : decode X.2.1 pc = .ok (.if_icmp .gt off, 3)) (hq : pc + 3 = q) (ht : (pc : Int) + off = (tg : Int)) (kt : y < x → BW p l e R s m args below meth c G A cells slots Q X M tg lv st) (kf : ¬ y < x → BW p l e R s m args below meth c G A cells slots Q X M q lv st) : BW p l e R s m args below meth c G A cells slots Q X M pc lv (.int y :: .int x :: st) := by
  subst hq
  intro H locs ls hP hS hl
  exact lv_icmp_gt hc.1 hc.2.1 hd ht (fun z => kt z H locs ls hP hS hl) (fun z => kf z H locs ls hP hS hl)
theorem hb_icmp_le (hc : CX p s m args meth c G A X) {x y : Int32} {off : Int} {tg : Nat} (hd : decode X.2.1 pc = .ok (.if_icmp .le off, 3)) (hq : pc + 3 = q) (ht : (pc : Int) + off = (tg : Int)) (kt : x ≤ y → BW p l e R s m args below meth c G A cells slots Q X M tg lv st) (kf : ¬ x ≤ y → BW p l e R s m args below meth c G A cells slots Q X M q lv st) : BW p l e R s m args below meth c G A cells slots Q X M pc lv (.int y :: .int x :: st) := by
  subst hq
  intro H locs ls hP hS hl
  exact lv_icmp_le hc.1 hc.2.1 hd ht (fun z => kt z H locs ls hP hS hl) (fun z => kf z H locs ls hP hS hl)
theorem hb_goto (hc : CX p s m args meth c G A X) {off : Int} {tg : Nat} (hd : decode X.2.1 pc = .ok (.goto off, 3)) (ht : (pc : Int) + off = (tg : Int)) (kk : BW p l e R s m args below meth c G A cells slots Q X M tg lv st) : BW p l e R s m args below meth c G A cells slots Q X M pc lv st := by
  intro H locs ls hP hS hl
  exact lv_goto hc.1 hc.2.1 hd ht (kk H locs ls hP hS hl)
theorem hb_ifnull (hc : CX p s m args meth c G A X) {off : Int} {x : Nat} (hd : decode X.2.1 pc = .ok (.ifnull off, 3)) (hq : pc + 3 = q)  (kk : BW p l e R s m args below meth c G A cells slots Q X M q lv (st)) : BW p l e R s m args below meth c G A cells slots Q X M pc lv (.ref x :: st) := by
  subst hq
  intro H locs ls hP hS hl
  exact lv_ifnull hc.1 hc.2.1 hd (kk H locs ls hP hS hl)
theorem hb_ifnonnullN (hc : CX p s m args meth c G A X) {off : Int} (hd : decode X.2.1 pc = .ok (.ifnonnull off, 3)) (hq : pc + 3 = q)  (kk : BW p l e R s m args below meth c G A cells slots Q X M q lv (st)) : BW p l e R s m args below meth c G A cells slots Q X M pc lv (.null :: st) := by
  subst hq
  intro H locs ls hP hS hl
  exact lv_ifnonnullN hc.1 hc.2.1 hd (kk H locs ls hP hS hl)
theorem hb_ifnonnull (hc : CX p s m args meth c G A X) {x : Nat} {off : Int} {tg : Nat} (hd : decode X.2.1 pc = .ok (.ifnonnull off, 3)) (ht : (pc : Int) + off = (tg : Int)) (kk : BW p l e R s m args below meth c G A cells slots Q X M tg lv st) : BW p l e R s m args below meth c G A cells slots Q X M pc lv (.ref x :: st) := by
  intro H locs ls hP hS hl
  exact lv_ifnonnull hc.1 hc.2.1 hd ht (kk H locs ls hP hS hl)
theorem hb_ifnullN (hc : CX p s m args meth c G A X)  {off : Int} {tg : Nat} (hd : decode X.2.1 pc = .ok (.ifnull off, 3)) (ht : (pc : Int) + off = (tg : Int)) (kk : BW p l e R s m args below meth c G A cells slots Q X M tg lv st) : BW p l e R s m args below meth c G A cells slots Q X M pc lv (.null :: st) := by
  intro H locs ls hP hS hl
  exact lv_ifnullN hc.1 hc.2.1 hd ht (kk H locs ls hP hS hl)
theorem hb_tableIn (hc : CX p s m args meth c G A X) {x : Int32} {dflt lo hi : Int} {offs : Array Int} {len : Nat} {off : Int} {tg : Nat} (hd : decode X.2.1 pc = .ok (.tableswitch dflt lo hi offs, len)) (h1 : ¬ x.toInt < lo) (h2 : ¬ hi < x.toInt) (ho : offs[(x.toInt - lo).toNat]? = some off) (ht : (pc : Int) + off = (tg : Int)) (kk : BW p l e R s m args below meth c G A cells slots Q X M tg lv st) : BW p l e R s m args below meth c G A cells slots Q X M pc lv (.int x :: st) := by
  intro H locs ls hP hS hl
  exact lv_tableIn hc.1 hc.2.1 hd h1 h2 ho ht (kk H locs ls hP hS hl)
theorem hb_tableOut (hc : CX p s m args meth c G A X) {x : Int32} {dflt lo hi : Int} {offs : Array Int} {len : Nat} {tg : Nat} (hd : decode X.2.1 pc = .ok (.tableswitch dflt lo hi offs, len)) (h : x.toInt < lo ∨ hi < x.toInt) (ht : (pc : Int) + dflt = (tg : Int)) (kk : BW p l e R s m args below meth c G A cells slots Q X M tg lv st) : BW p l e R s m args below meth c G A cells slots Q X M pc lv (.int x :: st) := by
  intro H locs ls hP hS hl
  exact lv_tableOut hc.1 hc.2.1 hd h ht (kk H locs ls hP hS hl)
theorem hb_weak (hl' : lvLe lv' lv) (kk : BW p l e R s m args below meth c G A cells slots Q X M pc lv' st) : BW p l e R s m args below meth c G A cells slots Q X M pc lv st := fun H locs ls hP hS hl => kk H locs ls hP hS (hl.le hl')
def CK (ci : Nat) (C : String) (T : u_T) (N : Nat) (ty : Nat → FieldType) : Prop := classes[ci]? = some (C, T, N) ∧ (∀ w ∈ u_ws C T N, w ∈ GW) ∧ (∀ a, a < N → ∀ b, b < N → a ≠ b → (T a).2.1 ≠ (T b).2.1) ∧ (∀ k, k < N → parseFieldDescriptor (T k).2.2.1 = some (ty k))
def FL (own : String) (idx ci j : Nat) (ty : FieldType) (fin : Bool) : Prop := ∃ (C : String) (T : u_T) (N : Nat) (tt : Nat → FieldType), CK ci C T N tt ∧ j < N ∧ Cond.fieldLink own idx (T j).1 (T j).2.1 (T j).2.2.1 ∈ GW ∧ tt j = ty ∧ (T j).2.2.2 = fin
theorem wE_obj {G : Gm} {M : Mm} {a ci : Nat} {ks : List (Nat ⊕ Bool)} (h : shp a = .inr (ci, ks)) : wE G M a = .inr (ci, ks.mapIdx (sv G M a)) := by unfold wE; rw [h]
theorem wE_arr {G : Gm} {M : Mm} {a t n : Nat} {rs : List Nat} (h : shp a = .inl (t, n, rs)) : wE G M a = .inl (G.2.2 a, wA G M a t n rs) := by unfold wE; rw [h]
theorem hb_getI (hc : CX p s m args meth c G A X) {idx a j ci : Nat} {ks : List (Nat ⊕ Bool)}  {ty : FieldType} {fin : Bool} (hf : FL X.1.cls idx ci j ty fin) (hsh : shp a = .inr (ci, ks)) (ha : a < NSH) (hk : ks[j]? = some (.inr false)) (hd : decode X.2.1 pc = .ok (.getfield idx, 3)) (hq : pc + 3 = q) (kk : BW p l e R s m args below meth c G A cells slots Q X M q lv (.int (M.1 a j) :: st)) : BW p l e R s m args below meth c G A cells slots Q X M pc lv (.ref a :: st) := by
  subst hq
  intro H locs ls hP hS hl
  obtain ⟨C, T, N, tt, ⟨h1, h2, h3, h4⟩, h5, h6, -, -⟩ := hf
  exact va_get (C := C) (T := T) (N := N) (ci := ci) (ref := (T j).1) hc.1 hc.2.1 hc.2.2.2.2.2.1 h2 hc.2.2.2.2.1 hc.2.2.2.2.2.2.2.1.K hP a ((wW_get G M ha).trans (by rw [wE_obj hsh])) h1 j h5 (hc.2.2.2.2.2.1 _ h6) (fun _ h9 => h9) (by rw [List.getElem?_mapIdx, hk]; rfl) hd (kk H locs ls hP hS hl)
theorem hb_getL (hc : CX p s m args meth c G A X) {idx a j ci : Nat} {ks : List (Nat ⊕ Bool)}  {ty : FieldType} {fin : Bool} (hf : FL X.1.cls idx ci j ty fin) (hsh : shp a = .inr (ci, ks)) (ha : a < NSH) (hk : ks[j]? = some (.inr true)) (hd : decode X.2.1 pc = .ok (.getfield idx, 3)) (hq : pc + 3 = q) (kk : BW p l e R s m args below meth c G A cells slots Q X M q lv (.long (M.2 a j) :: st)) : BW p l e R s m args below meth c G A cells slots Q X M pc lv (.ref a :: st) := by
  subst hq
  intro H locs ls hP hS hl
  obtain ⟨C, T, N, tt, ⟨h1, h2, h3, h4⟩, h5, h6, -, -⟩ := hf
  exact va_get (C := C) (T := T) (N := N) (ci := ci) (ref := (T j).1) hc.1 hc.2.1 hc.2.2.2.2.2.1 h2 hc.2.2.2.2.1 hc.2.2.2.2.2.2.2.1.K hP a ((wW_get G M ha).trans (by rw [wE_obj hsh])) h1 j h5 (hc.2.2.2.2.2.1 _ h6) (fun _ h9 => h9) (by rw [List.getElem?_mapIdx, hk]; rfl) hd (kk H locs ls hP hS hl)
theorem hb_getR (hc : CX p s m args meth c G A X) {idx a j ci : Nat} {ks : List (Nat ⊕ Bool)} {r : Nat} {ty : FieldType} {fin : Bool} (hf : FL X.1.cls idx ci j ty fin) (hsh : shp a = .inr (ci, ks)) (ha : a < NSH) (hk : ks[j]? = some (.inl r)) (hd : decode X.2.1 pc = .ok (.getfield idx, 3)) (hq : pc + 3 = q) (kk : BW p l e R s m args below meth c G A cells slots Q X M q lv (.ref r :: st)) : BW p l e R s m args below meth c G A cells slots Q X M pc lv (.ref a :: st) := by
  subst hq
  intro H locs ls hP hS hl
  obtain ⟨C, T, N, tt, ⟨h1, h2, h3, h4⟩, h5, h6, -, -⟩ := hf
  exact va_get (C := C) (T := T) (N := N) (ci := ci) (ref := (T j).1) hc.1 hc.2.1 hc.2.2.2.2.2.1 h2 hc.2.2.2.2.1 hc.2.2.2.2.2.2.2.1.K hP a ((wW_get G M ha).trans (by rw [wE_obj hsh])) h1 j h5 (hc.2.2.2.2.2.1 _ h6) (fun _ h9 => h9) (by rw [List.getElem?_mapIdx, hk]; rfl) hd (kk H locs ls hP hS hl)
theorem setI {G : Gm} {M : Mm} {a j : Nat} {ks : List (Nat ⊕ Bool)} {x : Int32} (hk : ks[j]? = some (.inr false)) : (ks.mapIdx (sv G M a)).set j (.int x) = ks.mapIdx (sv G (wI M a j x) a) := by
  apply List.ext_getElem?
  intro k
  have hl := (List.getElem?_eq_some_iff.mp hk).1
  by_cases h : k = j
  · subst h
    rw [List.getElem?_set_self (by simpa using hl), List.getElem?_mapIdx, hk]
    show _ = some (Value.int _)
    simp [wI]
  · rw [List.getElem?_set_ne (Ne.symm h), List.getElem?_mapIdx, List.getElem?_mapIdx]
    cases ks[k]? with
    | none => rfl
    | some z =>
      show some _ = some _
      congr 1
      rcases z with z | z
      · rfl
      · cases z
        · show Value.int _ = Value.int _
          simp [wI, h]
        · rfl
theorem setL {G : Gm} {M : Mm} {a j : Nat} {ks : List (Nat ⊕ Bool)} {x : Int64} (hk : ks[j]? = some (.inr true)) : (ks.mapIdx (sv G M a)).set j (.long x) = ks.mapIdx (sv G (wL M a j x) a) := by
  apply List.ext_getElem?
  intro k
  have hl := (List.getElem?_eq_some_iff.mp hk).1
  by_cases h : k = j
  · subst h
    rw [List.getElem?_set_self (by simpa using hl), List.getElem?_mapIdx, hk]
    show _ = some (Value.long _)
    simp [wL]
  · rw [List.getElem?_set_ne (Ne.symm h), List.getElem?_mapIdx, List.getElem?_mapIdx]
    cases ks[k]? with
    | none => rfl
    | some z =>
      show some _ = some _
      congr 1
      rcases z with z | z
      · rfl
      · cases z
        · rfl
        · show Value.long _ = Value.long _
          simp [wL, h]
theorem wI_off {G : Gm} {M : Mm} {a j i : Nat} {x : Int32} (h : i ≠ a) : wE G (wI M a j x) i = wE G M i := wE_off (wI_ne h) rfl
theorem wL_off {G : Gm} {M : Mm} {a j i : Nat} {x : Int64} (h : i ≠ a) : wE G (wL M a j x) i = wE G M i := wE_off rfl (wL_ne h)
theorem narZ {x : Int32} (h : x = 0 ∨ x = 1) : narrow .boolean (.int x) = .int x := by rcases h with rfl | rfl <;> decide
theorem hb_putI (hc : CX p s m args meth c G A X) {idx a j ci : Nat} {ks : List (Nat ⊕ Bool)} {x : Int32} (hf : FL X.1.cls idx ci j .int false) (hsh : shp a = .inr (ci, ks)) (ha : a < NSH) (hk : ks[j]? = some (.inr false))  (hd : decode X.2.1 pc = .ok (.putfield idx, 3)) (hq : pc + 3 = q) (kk : BW p l e R s m args below meth c G A cells slots Q X (wI M a j x) q lv st) : BW p l e R s m args below meth c G A cells slots Q X M pc lv (.int x :: .ref a :: st) := by
  subst hq
  intro H locs ls hP hS hl
  obtain ⟨C, T, N, tt, ⟨h1, h2, h3, h4⟩, h5, h6, h7, h8⟩ := hf
  have hl0 := (List.getElem?_eq_some_iff.mp hk).1
  refine va_put (C := C) (T := T) (N := N) (ci := ci) (ref := (T j).1) (ty := .int) (v := .int x) (fs := ks.mapIdx (sv G M a)) hc.1 hc.2.1 hc.2.2.2.2.2.1 h2 tt h4 h3 hc.2.2.2.2.1 hc.2.2.2.2.2.2.2.1.K hP (wW_D hc.2.2.2.2.2.2.2.2.1 hc.2.2.2.2.2.2.2.2.2) hS a ((wW_get G M ha).trans (by rw [wE_obj hsh])) h1 j h5 (hc.2.2.2.2.2.1 _ h6) (fun _ h9 => h9) h8 ((h4 j h5).trans (by rw [h7])) rfl rfl (by simpa using hl0) hd (fun H1 locs1 hP1 _ hS1 => kk H1 locs1 ls ?_ hS1 hl)
  rw [wW_set (M' := wI M a j x) ha (by rw [wE_obj hsh, setI hk]) (fun i hi => wI_off hi)] at hP1
  exact hP1
theorem hb_putZ (hc : CX p s m args meth c G A X) {idx a j ci : Nat} {ks : List (Nat ⊕ Bool)} {x : Int32} (hf : FL X.1.cls idx ci j .boolean false) (hsh : shp a = .inr (ci, ks)) (ha : a < NSH) (hk : ks[j]? = some (.inr false)) (hz : x = 0 ∨ x = 1) (hd : decode X.2.1 pc = .ok (.putfield idx, 3)) (hq : pc + 3 = q) (kk : BW p l e R s m args below meth c G A cells slots Q X (wI M a j x) q lv st) : BW p l e R s m args below meth c G A cells slots Q X M pc lv (.int x :: .ref a :: st) := by
  subst hq
  intro H locs ls hP hS hl
  obtain ⟨C, T, N, tt, ⟨h1, h2, h3, h4⟩, h5, h6, h7, h8⟩ := hf
  have hl0 := (List.getElem?_eq_some_iff.mp hk).1
  refine va_put (C := C) (T := T) (N := N) (ci := ci) (ref := (T j).1) (ty := .boolean) (v := .int x) (fs := ks.mapIdx (sv G M a)) hc.1 hc.2.1 hc.2.2.2.2.2.1 h2 tt h4 h3 hc.2.2.2.2.1 hc.2.2.2.2.2.2.2.1.K hP (wW_D hc.2.2.2.2.2.2.2.2.1 hc.2.2.2.2.2.2.2.2.2) hS a ((wW_get G M ha).trans (by rw [wE_obj hsh])) h1 j h5 (hc.2.2.2.2.2.1 _ h6) (fun _ h9 => h9) h8 ((h4 j h5).trans (by rw [h7])) (narZ hz) (by rcases hz with rfl | rfl <;> rfl) (by simpa using hl0) hd (fun H1 locs1 hP1 _ hS1 => kk H1 locs1 ls ?_ hS1 hl)
  rw [wW_set (M' := wI M a j x) ha (by rw [wE_obj hsh, setI hk]) (fun i hi => wI_off hi)] at hP1
  exact hP1
theorem hb_putL (hc : CX p s m args meth c G A X) {idx a j ci : Nat} {ks : List (Nat ⊕ Bool)} {x : Int64} (hf : FL X.1.cls idx ci j .long false) (hsh : shp a = .inr (ci, ks)) (ha : a < NSH) (hk : ks[j]? = some (.inr true))  (hd : decode X.2.1 pc = .ok (.putfield idx, 3)) (hq : pc + 3 = q) (kk : BW p l e R s m args below meth c G A cells slots Q X (wL M a j x) q lv st) : BW p l e R s m args below meth c G A cells slots Q X M pc lv (.long x :: .ref a :: st) := by
  subst hq
  intro H locs ls hP hS hl
  obtain ⟨C, T, N, tt, ⟨h1, h2, h3, h4⟩, h5, h6, h7, h8⟩ := hf
  have hl0 := (List.getElem?_eq_some_iff.mp hk).1
  refine va_put (C := C) (T := T) (N := N) (ci := ci) (ref := (T j).1) (ty := .long) (v := .long x) (fs := ks.mapIdx (sv G M a)) hc.1 hc.2.1 hc.2.2.2.2.2.1 h2 tt h4 h3 hc.2.2.2.2.1 hc.2.2.2.2.2.2.2.1.K hP (wW_D hc.2.2.2.2.2.2.2.2.1 hc.2.2.2.2.2.2.2.2.2) hS a ((wW_get G M ha).trans (by rw [wE_obj hsh])) h1 j h5 (hc.2.2.2.2.2.1 _ h6) (fun _ h9 => h9) h8 ((h4 j h5).trans (by rw [h7])) rfl rfl (by simpa using hl0) hd (fun H1 locs1 hP1 _ hS1 => kk H1 locs1 ls ?_ hS1 hl)
  rw [wW_set (M' := wL M a j x) ha (by rw [wE_obj hsh, setL hk]) (fun i hi => wL_off hi)] at hP1
  exact hP1
theorem hb_iald (hc : CX p s m args meth c G A X) {a n : Nat} {rs : List Nat} {i : Int32} (hsh : shp a = .inl (0, n, rs)) (ha : a < NSH) (hin : vp_in i n) (hd : decode X.2.1 pc = .ok (.iaload, 1)) (hq : pc + 1 = q) (kk : BW p l e R s m args below meth c G A cells slots Q X M q lv (.int (M.1 a i.toNatClampNeg) :: st)) : BW p l e R s m args below meth c G A cells slots Q X M pc lv (.int i :: .ref a :: st) := by
  subst hq
  intro H locs ls hP hS hl
  exact va_iald hc.1 hc.2.1 (hc.2.2.2.2.2.2.2.1.KA hsh ha) hP a 0 ((wW_get G M ha).trans (by rw [wE_arr hsh]; rfl)) rfl hin hd (kk H locs ls hP hS hl)
theorem hb_zald (hc : CX p s m args meth c G A X) {a n : Nat} {rs : List Nat} {i : Int32} (hsh : shp a = .inl (2, n, rs)) (ha : a < NSH) (hin : vp_in i n) (hd : decode X.2.1 pc = .ok (.baload, 1)) (hq : pc + 1 = q) (kk : BW p l e R s m args below meth c G A cells slots Q X M q lv (.int (M.1 a i.toNatClampNeg) :: st)) : BW p l e R s m args below meth c G A cells slots Q X M pc lv (.int i :: .ref a :: st) := by
  subst hq
  intro H locs ls hP hS hl
  exact va_zald hc.1 hc.2.1 (hc.2.2.2.2.2.2.2.1.KA hsh ha) hP a 0 ((wW_get G M ha).trans (by rw [wE_arr hsh]; rfl)) rfl hin hd (kk H locs ls hP hS hl)
theorem hb_lald (hc : CX p s m args meth c G A X) {a n : Nat} {rs : List Nat} {i : Int32} (hsh : shp a = .inl (1, n, rs)) (ha : a < NSH) (hin : vp_in i n) (hd : decode X.2.1 pc = .ok (.laload, 1)) (hq : pc + 1 = q) (kk : BW p l e R s m args below meth c G A cells slots Q X M q lv (.long (M.2 a i.toNatClampNeg) :: st)) : BW p l e R s m args below meth c G A cells slots Q X M pc lv (.int i :: .ref a :: st) := by
  subst hq
  intro H locs ls hP hS hl
  exact va_lald hc.1 hc.2.1 (hc.2.2.2.2.2.2.2.1.KA hsh ha) hP a 0 ((wW_get G M ha).trans (by rw [wE_arr hsh]; rfl)) rfl hin hd (kk H locs ls hP hS hl)
theorem hb_aald (hc : CX p s m args meth c G A X) {a n r : Nat} {rs : List Nat} {i : Int32} (hsh : shp a = .inl (3, n, rs)) (ha : a < NSH) (hin : vp_in i n) (hr : rs[i.toNatClampNeg]? = some r) (hd : decode X.2.1 pc = .ok (.aaload, 1)) (hq : pc + 1 = q) (kk : BW p l e R s m args below meth c G A cells slots Q X M q lv (.ref r :: st)) : BW p l e R s m args below meth c G A cells slots Q X M pc lv (.int i :: .ref a :: st) := by
  subst hq
  intro H locs ls hP hS hl
  refine va_aldq hc.1 hc.2.1 (hc.2.2.2.2.2.2.2.1.KA hsh ha) hP a 0 ((wW_get G M ha).trans (by rw [wE_arr hsh]; rfl)) rfl hin hd ?_
  rw [hr]
  exact kk H locs ls hP hS hl
theorem hb_alen (hc : CX p s m args meth c G A X) {a t n : Nat} {rs : List Nat} {v : Int32} (hsh : shp a = .inl (t, n, rs)) (ha : a < NSH) (hv : Int32.ofNat n = v) (hd : decode X.2.1 pc = .ok (.arraylength, 1)) (hq : pc + 1 = q) (kk : BW p l e R s m args below meth c G A cells slots Q X M q lv (.int v :: st)) : BW p l e R s m args below meth c G A cells slots Q X M pc lv (.ref a :: st) := by
  subst hq
  intro H locs ls hP hS hl
  refine va_alen hc.1 hc.2.1 (hc.2.2.2.2.2.2.2.1.KA hsh ha) hP a 0 ((wW_get G M ha).trans (by rw [wE_arr hsh])) rfl (v := v) ?_ hd (kk H locs ls hP hS hl)
  rw [← hv]
  unfold wA
  split <;> rfl
theorem hb_iast (hc : CX p s m args meth c G A X) {a n : Nat} {rs : List Nat} {i : Int32} {x : Int32} (hsh : shp a = .inl (0, n, rs)) (ha : a < NSH) (hin : vp_in i n)  (hd : decode X.2.1 pc = .ok (.iastore, 1)) (hq : pc + 1 = q) (kk : BW p l e R s m args below meth c G A cells slots Q X (wI M a i.toNatClampNeg x) q lv st) : BW p l e R s m args below meth c G A cells slots Q X M pc lv (.int x :: .int i :: .ref a :: st) := by
  subst hq
  intro H locs ls hP hS hl
  refine va_iast hc.1 hc.2.1 (hc.2.2.2.2.2.2.2.1.KA hsh ha) hP (wW_D hc.2.2.2.2.2.2.2.2.1 hc.2.2.2.2.2.2.2.2.2) hS a 0 ((wW_get G M ha).trans (by rw [wE_arr hsh]; rfl)) rfl hin hd (fun H1 locs1 hP1 _ hS1 => kk H1 locs1 ls ?_ hS1 hl)
  rw [wW_set (M' := wI M a i.toNatClampNeg x) ha (by rw [wE_arr hsh]; show _ = Sum.inl (_, n, Sum.inl ((wI M a i.toNatClampNeg x).1 a)); rw [wI_eq]) (fun i hi => wI_off hi)] at hP1
  exact hP1
theorem hb_last (hc : CX p s m args meth c G A X) {a n : Nat} {rs : List Nat} {i : Int32} {x : Int64} (hsh : shp a = .inl (1, n, rs)) (ha : a < NSH) (hin : vp_in i n)  (hd : decode X.2.1 pc = .ok (.lastore, 1)) (hq : pc + 1 = q) (kk : BW p l e R s m args below meth c G A cells slots Q X (wL M a i.toNatClampNeg x) q lv st) : BW p l e R s m args below meth c G A cells slots Q X M pc lv (.long x :: .int i :: .ref a :: st) := by
  subst hq
  intro H locs ls hP hS hl
  refine va_last hc.1 hc.2.1 (hc.2.2.2.2.2.2.2.1.KA hsh ha) hP (wW_D hc.2.2.2.2.2.2.2.2.1 hc.2.2.2.2.2.2.2.2.2) hS a 0 ((wW_get G M ha).trans (by rw [wE_arr hsh]; rfl)) rfl hin hd (fun H1 locs1 hP1 _ hS1 => kk H1 locs1 ls ?_ hS1 hl)
  rw [wW_set (M' := wL M a i.toNatClampNeg x) ha (by rw [wE_arr hsh]; show _ = Sum.inl (_, n, Sum.inr (Sum.inl ((wL M a i.toNatClampNeg x).2 a))); rw [wL_eq]) (fun i hi => wL_off hi)] at hP1
  exact hP1
theorem hb_zast (hc : CX p s m args meth c G A X) {a n : Nat} {rs : List Nat} {i : Int32} {x : Int32} (hsh : shp a = .inl (2, n, rs)) (ha : a < NSH) (hin : vp_in i n) (hz : x = 0 ∨ x = 1) (hd : decode X.2.1 pc = .ok (.bastore, 1)) (hq : pc + 1 = q) (kk : BW p l e R s m args below meth c G A cells slots Q X (wI M a i.toNatClampNeg x) q lv st) : BW p l e R s m args below meth c G A cells slots Q X M pc lv (.int x :: .int i :: .ref a :: st) := by
  subst hq
  intro H locs ls hP hS hl
  refine va_zast hc.1 hc.2.1 (hc.2.2.2.2.2.2.2.1.KA hsh ha) hP (wW_D hc.2.2.2.2.2.2.2.2.1 hc.2.2.2.2.2.2.2.2.2) hS a 0 ((wW_get G M ha).trans (by rw [wE_arr hsh]; rfl)) rfl hin hd (fun H1 locs1 hP1 _ hS1 => kk H1 locs1 ls ?_ hS1 hl)
  have hz2 : vp_nar .boolean x = x := by rcases hz with rfl | rfl <;> decide
  rw [hz2] at hP1
  rw [wW_set (M' := wI M a i.toNatClampNeg x) ha (by rw [wE_arr hsh]; show _ = Sum.inl (_, n, Sum.inl ((wI M a i.toNatClampNeg x).1 a)); rw [wI_eq]) (fun i hi => wI_off hi)] at hP1
  exact hP1
theorem cpI_off {G : Gm} {M : Mm} {sa sp da dp n i : Nat} (h : i ≠ da) : wE G (cpI M sa sp da dp n) i = wE G M i := wE_off (by funext k; simp [cpI, h]) rfl
theorem cpL_off {G : Gm} {M : Mm} {sa sp da dp n i : Nat} (h : i ≠ da) : wE G (cpL M sa sp da dp n) i = wE G M i := wE_off rfl (by funext k; simp [cpL, h])
theorem cpI_eq {M : Mm} {sa sp da dp n : Nat} : (cpI M sa sp da dp n).1 da = va_cpy (M.1 sa) (M.1 da) sp dp n := by funext k; simp [cpI]
theorem cpL_eq {M : Mm} {sa sp da dp n : Nat} : (cpL M sa sp da dp n).2 da = va_cpy (M.2 sa) (M.2 da) sp dp n := by funext k; simp [cpL]
def AY (own : String) (idx : Nat) : Prop := Cond.methodLink own idx arraycopyName ∈ GW ∧ Cond.native arraycopyName ∈ GW ∧ Cond.static arraycopyName ∈ GW ∧ Cond.initialized "java/lang/System" ∈ GW
theorem hb_copyI (hc : CX p s m args meth c G A X) {idx a0 n0 a1 n1 : Nat} {r0 r1 : List Nat} {sp dp n : Int32} (hy : AY X.1.cls idx) (hs0 : shp a0 = .inl (0, n0, r0)) (ha0 : a0 < NSH) (hs1 : shp a1 = .inl (0, n1, r1)) (ha1 : a1 < NSH) (h1 : ¬ sp < 0) (h2 : ¬ dp < 0) (h3 : ¬ n < 0) (h4 : sp.toNatClampNeg + n.toNatClampNeg ≤ n0) (h5 : dp.toNatClampNeg + n.toNatClampNeg ≤ n1) (hfr : 1 ≤ R.frames) (hlo : (st.map fun v => v.category).sum + 40 ≤ R.locals) (hd : decode X.2.1 pc = .ok (.invokestatic idx, 3)) (hq : pc + 3 = q) (kk : BW p l e R s m args below meth c G A cells slots Q X (cpI M a0 sp.toNatClampNeg a1 dp.toNatClampNeg n.toNatClampNeg) q lv st) : BW p l e R s m args below meth c G A cells slots Q X M pc lv (.int n :: .int dp :: .ref a1 :: .int sp :: .ref a0 :: st) := by
  subst hq
  intro H locs ls hP hS hl
  refine va_copyi hc.1 hc.2.1 (hc.2.2.2.1.trans hl.1.symm) hc.2.2.2.2.1 (hc.2.2.2.2.2.1 _ hy.1) (hc.2.2.2.2.2.1 _ hy.2.1) (hc.2.2.2.2.2.1 _ hy.2.2.1) (hc.2.2.2.2.2.1 _ hy.2.2.2) (hc.2.2.2.2.2.2.2.1.KA2 hs0 ha0 hs1 ha1) hP (wW_D hc.2.2.2.2.2.2.2.2.1 hc.2.2.2.2.2.2.2.2.2) hS a0 a1 0 1 ((wW_get G M ha0).trans (by rw [wE_arr hs0]; rfl)) ((wW_get G M ha1).trans (by rw [wE_arr hs1]; rfl)) rfl rfl rfl h1 h2 h3 h4 h5 (fun _ _ => rfl) hfr ?_ hd (fun H1 locs1 hP1 _ hS1 => kk H1 locs1 ls ?_ hS1 hl)
  · refine Nat.le_trans ?_ hlo
    rw [List.map_map]
    have e : ((fun v : Value => v.category) ∘ cvv G.2.1) = fun v => v.category := by funext v; exact cvv_cat _ v
    rw [e]
    exact Nat.add_le_add_left (by decide) _
  · rw [wW_set (M' := cpI M a0 sp.toNatClampNeg a1 dp.toNatClampNeg n.toNatClampNeg) ha1 (by rw [wE_arr hs1]; show _ = Sum.inl (_, n1, Sum.inl ((cpI M a0 sp.toNatClampNeg a1 dp.toNatClampNeg n.toNatClampNeg).1 a1)); rw [cpI_eq]) (fun i hi => cpI_off hi)] at hP1
    exact hP1
theorem hb_copyL (hc : CX p s m args meth c G A X) {idx a0 n0 a1 n1 : Nat} {r0 r1 : List Nat} {sp dp n : Int32} (hy : AY X.1.cls idx) (hs0 : shp a0 = .inl (1, n0, r0)) (ha0 : a0 < NSH) (hs1 : shp a1 = .inl (1, n1, r1)) (ha1 : a1 < NSH) (h1 : ¬ sp < 0) (h2 : ¬ dp < 0) (h3 : ¬ n < 0) (h4 : sp.toNatClampNeg + n.toNatClampNeg ≤ n0) (h5 : dp.toNatClampNeg + n.toNatClampNeg ≤ n1) (hfr : 1 ≤ R.frames) (hlo : (st.map fun v => v.category).sum + 40 ≤ R.locals) (hd : decode X.2.1 pc = .ok (.invokestatic idx, 3)) (hq : pc + 3 = q) (kk : BW p l e R s m args below meth c G A cells slots Q X (cpL M a0 sp.toNatClampNeg a1 dp.toNatClampNeg n.toNatClampNeg) q lv st) : BW p l e R s m args below meth c G A cells slots Q X M pc lv (.int n :: .int dp :: .ref a1 :: .int sp :: .ref a0 :: st) := by
  subst hq
  intro H locs ls hP hS hl
  refine va_copyl hc.1 hc.2.1 (hc.2.2.2.1.trans hl.1.symm) hc.2.2.2.2.1 (hc.2.2.2.2.2.1 _ hy.1) (hc.2.2.2.2.2.1 _ hy.2.1) (hc.2.2.2.2.2.1 _ hy.2.2.1) (hc.2.2.2.2.2.1 _ hy.2.2.2) (hc.2.2.2.2.2.2.2.1.KA2 hs0 ha0 hs1 ha1) hP (wW_D hc.2.2.2.2.2.2.2.2.1 hc.2.2.2.2.2.2.2.2.2) hS a0 a1 0 1 ((wW_get G M ha0).trans (by rw [wE_arr hs0]; rfl)) ((wW_get G M ha1).trans (by rw [wE_arr hs1]; rfl)) rfl rfl rfl h1 h2 h3 h4 h5 (fun _ _ => rfl) hfr ?_ hd (fun H1 locs1 hP1 _ hS1 => kk H1 locs1 ls ?_ hS1 hl)
  · refine Nat.le_trans ?_ hlo
    rw [List.map_map]
    have e : ((fun v : Value => v.category) ∘ cvv G.2.1) = fun v => v.category := by funext v; exact cvv_cat _ v
    rw [e]
    exact Nat.add_le_add_left (by decide) _
  · rw [wW_set (M' := cpL M a0 sp.toNatClampNeg a1 dp.toNatClampNeg n.toNatClampNeg) ha1 (by rw [wE_arr hs1]; show _ = Sum.inl (_, n1, Sum.inr (Sum.inl ((cpL M a0 sp.toNatClampNeg a1 dp.toNatClampNeg n.toNatClampNeg).2 a1))); rw [cpL_eq]) (fun i hi => cpL_off hi)] at hP1
    exact hP1
def MA (own : String) (idx : Nat) (nm : MethodName) (cd : ByteArray) (k : Nat) : Prop := Cond.methodLink own idx nm ∈ GW ∧ Cond.static nm ∈ GW ∧ Cond.initialized "java/lang/Math" ∈ GW ∧ Cond.code nm cd k (some .int) ∈ GW
theorem cats (ro : Nat → Nat) (st : List Value) : ((st.map (cvv ro)).map fun v => v.category).sum = (st.map fun v => v.category).sum := by
  rw [List.map_map]
  have e : ((fun v : Value => v.category) ∘ cvv ro) = fun v => v.category := by funext v; exact cvv_cat _ v
  rw [e]
theorem hb_mabs (hc : CX p s m args meth c G A X) {idx : Nat} {x : Int32} (hy : MA X.1.cls idx Lib.Math.abs.name Lib.Math.abs.code 1) (hfr : 1 ≤ R.frames) (hlo : (st.map fun v => v.category).sum + 13 ≤ R.locals) (hcs : cells ≤ R.cells ∧ slots ≤ R.slots) (hd : decode X.2.1 pc = .ok (.invokestatic idx, 3)) (hq : pc + 3 = q) (kk : BW p l e R s m args below meth c G A cells slots Q X M q lv (.int (if 0 ≤ x then x else 0 - x) :: st)) : BW p l e R s m args below meth c G A cells slots Q X M pc lv (.int x :: st) := by
  subst hq
  intro H locs ls hP hS hl
  exact va_mabs hc.1 hc.2.1 (hc.2.2.2.1.trans hl.1.symm) hc.2.2.2.2.1 (hc.2.2.2.2.2.1 _ hy.1) (hc.2.2.2.2.2.1 _ hy.2.1) (hc.2.2.2.2.2.1 _ hy.2.2.1) (hc.2.2.2.2.2.1 _ hy.2.2.2) hfr (by rw [cats]; exact hlo) hcs.1 hcs.2 hd (kk H locs ls hP hS hl)
theorem hb_mmax (hc : CX p s m args meth c G A X) {idx : Nat} {x y : Int32} (hy : MA X.1.cls idx Lib.Math.max.name Lib.Math.max.code 2) (hfr : 1 ≤ R.frames) (hlo : (st.map fun v => v.category).sum + 13 ≤ R.locals) (hcs : cells ≤ R.cells ∧ slots ≤ R.slots) (hd : decode X.2.1 pc = .ok (.invokestatic idx, 3)) (hq : pc + 3 = q) (kk : BW p l e R s m args below meth c G A cells slots Q X M q lv (.int (if x < y then y else x) :: st)) : BW p l e R s m args below meth c G A cells slots Q X M pc lv (.int y :: .int x :: st) := by
  subst hq
  intro H locs ls hP hS hl
  exact va_mmax hc.1 hc.2.1 (hc.2.2.2.1.trans hl.1.symm) hc.2.2.2.2.1 (hc.2.2.2.2.2.1 _ hy.1) (hc.2.2.2.2.2.1 _ hy.2.1) (hc.2.2.2.2.2.1 _ hy.2.2.1) (hc.2.2.2.2.2.1 _ hy.2.2.2) hfr (by rw [cats]; exact hlo) hcs.1 hcs.2 hd (kk H locs ls hP hS hl)
theorem hb_mmin (hc : CX p s m args meth c G A X) {idx : Nat} {x y : Int32} (hy : MA X.1.cls idx Lib.Math.min.name Lib.Math.min.code 2) (hfr : 1 ≤ R.frames) (hlo : (st.map fun v => v.category).sum + 13 ≤ R.locals) (hcs : cells ≤ R.cells ∧ slots ≤ R.slots) (hd : decode X.2.1 pc = .ok (.invokestatic idx, 3)) (hq : pc + 3 = q) (kk : BW p l e R s m args below meth c G A cells slots Q X M q lv (.int (if y < x then y else x) :: st)) : BW p l e R s m args below meth c G A cells slots Q X M pc lv (.int y :: .int x :: st) := by
  subst hq
  intro H locs ls hP hS hl
  exact va_mmin hc.1 hc.2.1 (hc.2.2.2.1.trans hl.1.symm) hc.2.2.2.2.1 (hc.2.2.2.2.2.1 _ hy.1) (hc.2.2.2.2.2.1 _ hy.2.1) (hc.2.2.2.2.2.1 _ hy.2.2.1) (hc.2.2.2.2.2.1 _ hy.2.2.2) hfr (by rw [cats]; exact hlo) hcs.1 hcs.2 hd (kk H locs ls hP hS hl)
end HB
end
section
/-! CONTRACTS over the abstract memory: AC d Y vs M Q: method Y, called at vs with memory M and room for d frames, comes back with Q. -/
def RM (d : Nat) : Room := { frames := d, cells := 0, slots := 0, locals := 40 * d }
def wd (Y : Md) : List Cond := Cond.code Y.1 Y.2.1 Y.2.2.1 Y.2.2.2 :: GW
abbrev Qt : Type := Gm → Array Value → State → Outcome → State → Prop
def QI (K : Int32 → Mm → Prop) : Qt := fun G => va_Qi K (fun M' t => va_P G.1 classes (wW G M') t.heap) (FA G)
def QL (K : Int64 → Mm → Prop) : Qt := fun G => va_Ql K (fun M' t => va_P G.1 classes (wW G M') t.heap) (FA G)
def QV (K : Mm → Prop) : Qt := fun G => va_Qv K (fun M' t => va_P G.1 classes (wW G M') t.heap) (FA G)
def QR (K : Option Nat → Mm → Prop) : Qt := fun G => va_Qq (fun r M' => ∃ a : Option Nat, r = a.map G.2.1 ∧ K a M') (fun M' t => va_P G.1 classes (wW G M') t.heap) (FA G)
def PC (G : Gm) (vs : List Value) (M : Mm) : Array Value → State → Prop := va_Pc (vs.map (cvv G.2.1)) (fun U => va_P G.1 classes (wW G M) U.heap ∧ KK G (FA G) U U.heap)
def AC (d : Nat) (Y : Md) (vs : List Value) (M : Mm) (Qk : Qt) : Prop := ∀ (l : Launch) (G : Gm), DD G → Met l Y.1 (wd Y) (RM d) (PC G vs M) (Qk G) 0 0 (FA G)
abbrev ACi (d : Nat) (Y : Md) (vs : List Value) (M : Mm) (K : Int32 → Mm → Prop) : Prop := AC d Y vs M (QI K)
abbrev ACl (d : Nat) (Y : Md) (vs : List Value) (M : Mm) (K : Int64 → Mm → Prop) : Prop := AC d Y vs M (QL K)
abbrev ACv (d : Nat) (Y : Md) (vs : List Value) (M : Mm) (K : Mm → Prop) : Prop := AC d Y vs M (QV K)
abbrev ACr (d : Nat) (Y : Md) (vs : List Value) (M : Mm) (K : Option Nat → Mm → Prop) : Prop := AC d Y vs M (QR K)
def AW (d : Nat) (X : Md) (M : Mm) (pc : Nat) (lv : List (Option Value)) (st : List Value) (Qk : Qt) : Prop :=
  ∀ (p : Program) (l : Launch) (e : Env) (s : State) (m : MethodId) (args : Array Value) (below : List Frame) (meth : Method) (c : Code) (G : Gm), CX p s m args meth c G (FA G) X → BW p l e (RM d) s m args below meth c G (FA G) 0 0 (MQ below (Qk G) args s 0 0 (FA G)) X M pc lv st
def lvArgs : List Value → List (Option Value)
  | [] => []
  | v :: vs => if v.category = 2 then some v :: none :: lvArgs vs else some v :: lvArgs vs
theorem lvArgs_in (ro : Nat → Nat) : ∀ (vs : List Value) (k i : Nat) (w : Value), (lvArgs vs)[i]? = some (some w) → (k + i, cvv ro w) ∈ lv_args k (vs.map (cvv ro))
  | [], k, i, w, h => by simp [lvArgs] at h
  | v :: vs, k, i, w, h => by
    unfold lvArgs at h
    rw [List.map_cons, lv_args, cvv_cat]
    by_cases hc : v.category = 2
    · rw [if_pos hc] at h
      rw [if_pos hc]
      match i, h with
      | 0, h =>
        simp only [List.getElem?_cons_zero, Option.some.injEq] at h
        subst h
        exact List.mem_cons_self
      | 1, h => simp at h
      | i + 2, h =>
        simp only [List.getElem?_cons_succ] at h
        have := lvArgs_in ro vs (k + 2) i w h
        rw [show k + (i + 2) = k + 2 + i by omega]
        exact List.mem_cons_of_mem _ this
    · rw [if_neg hc] at h
      rw [if_neg hc]
      match i, h with
      | 0, h =>
        simp only [List.getElem?_cons_zero, Option.some.injEq] at h
        subst h
        exact List.mem_cons_self
      | i + 1, h =>
        simp only [List.getElem?_cons_succ] at h
        have := lvArgs_in ro vs (k + 1) i w h
        rw [show k + (i + 1) = k + 1 + i by omega]
        exact List.mem_cons_of_mem _ this
theorem lg_sl_len (ro : Nat → Nat) : ∀ vs : List Value, (lg_sl (vs.map (cvv ro))).length = (lg_sl vs).length
  | [] => rfl
  | v :: vs => by
    have ih := lg_sl_len ro vs
    unfold lg_sl at ih ⊢
    rw [List.map_cons, List.flatMap_cons, List.flatMap_cons, List.length_append, List.length_append, ih]
    congr 1
    cases v <;> rfl
/-- a contract out of a walk from the entry -/
theorem AC.ofW {d : Nat} {Y : Md} {vs : List Value} {M : Mm} {Qk : Qt} {lv : List (Option Value)} (hy : plainName Y.1.cls = true) (hn : (lg_sl vs).length ≤ Y.2.2.1) (hlv : lvLe lv (lvArgs vs)) (h : AW d Y M 0 lv [] Qk) : AC d Y vs M Qk := by
  intro l G hD
  refine Met.ofW (cc := Y.2.1) (maxL := Y.2.2.1) (ret := Y.2.2.2) hy rfl ?_
  intro p e s m args below meth c s₁ B hml hv
  obtain ⟨rfl, hP, hK⟩ := hv
  have hts := atoms_spec (ws := wd Y) B.pre
  have hC : CX p s m (vs.map (cvv G.2.1)).toArray meth c G (FA G) Y := ⟨B.exec, B.bytes, B.returns, hml, findClass_of_methodNamed B.named, fun w hw => hts w (List.mem_cons_of_mem _ hw), B.notSynchronized, hK, hD, fun i hi => ⟨i, hi, rfl⟩⟩
  have hl := lv_entry (vs.map (cvv G.2.1)) (n := Y.2.2.1) (by rw [lg_sl_len]; exact hn)
  rw [lg_entry_eq]
  exact h p l e s m _ below meth c G hC s.heap [] _ hP va_S.rf ⟨hl.1, hl.2.1, fun i w hw => by
    have h1 := lvArgs_in G.2.1 vs 0 i w (lvLe_at lv _ hlv i w hw)
    rw [Nat.zero_add] at h1
    exact hl.2.2 _ h1⟩
section HC
variable {p : Program} {l : Launch} {e : Env} {R : Room} {s : State} {m : MethodId} {args : Array Value} {below : List Frame} {meth : Method} {c : Code} {G : Gm} {A : Nat → Prop} {cells slots : Nat} {Q : State → Prop} {X : Md} {M : Mm} {pc q : Nat} {lv lv' : List (Option Value)} {st st0 : List Value}
def MV (own : String) (idx : Nat) (Y : Md) (n : Nat) : Prop := Cond.methodLink own idx Y.1 ∈ GW ∧ Cond.instanceMethod Y.1 ∈ GW ∧ Cond.selects Y.1.cls Y.1 Y.1 ∈ GW ∧ Cond.initialized Y.1.cls ∈ GW ∧ Cond.code Y.1 Y.2.1 Y.2.2.1 Y.2.2.2 ∈ GW ∧ (Y.1.cls ≠ "java/lang/invoke/MethodHandle" ∧ Y.1.cls ≠ "java/lang/invoke/VarHandle" ∧ (parseMethodDescriptor Y.1.desc).map (fun d => d.parameters.length) = some n) ∧ Y.2.2.1 ≤ 21
def MS (own : String) (idx : Nat) (Y : Md) (n : Nat) : Prop := Cond.methodLink own idx Y.1 ∈ GW ∧ Cond.static Y.1 ∈ GW ∧ Cond.initialized Y.1.cls ∈ GW ∧ Cond.code Y.1 Y.2.1 Y.2.2.1 Y.2.2.2 ∈ GW ∧ (Y.1.cls ≠ "java/lang/invoke/MethodHandle" ∧ Y.1.cls ≠ "java/lang/invoke/VarHandle" ∧ (parseMethodDescriptor Y.1.desc).map (fun d => d.parameters.length) = some n) ∧ Y.2.2.1 ≤ 21
theorem gwgood {ws : List Cond} (h : ∀ w ∈ ws, w ∈ GW) : GoodIn GW ws := fun w hw => ⟨h w hw, good_of_word (List.mem_filter.mp (h w hw)).2⟩
theorem wd_in {Y : Md} (h : Cond.code Y.1 Y.2.1 Y.2.2.1 Y.2.2.2 ∈ GW) : ∀ w ∈ wd Y, w ∈ GW := fun w hw => by
  rcases List.mem_cons.mp hw with rfl | hw
  · exact h
  · exact hw
theorem PC_blind (G : Gm) (vs : List Value) (M : Mm) : FrameBlind (PC G vs M) := fun a U g mk h => ⟨h.1, h.2.1, KK.same (U := U.calling g mk a) (u := U) h.2.2 rfl⟩
theorem PC_of (hc : CX p s m args meth c G A X) {vs : List Value} {H : Heap} {locs : List Loc} (hP : va_P G.1 classes (wW G M) H) (hS : va_S A s.heap H locs) (U : State) (hU : U.heap = H) (hW : s.WarmedH U.vm) : PC G vs M (vs.map (cvv G.2.1)).toArray U := by
  refine ⟨rfl, by rw [hU]; exact hP, ?_⟩
  rw [hU]
  exact KK.go hc.2.2.2.2.2.2.2.1 hW (fun q hq => by obtain ⟨i, hi, rfl⟩ := hq; exact hc.2.2.2.2.2.2.2.2.2 i hi) hS.2.1
theorem hb_runV (hc : CX p s m args meth c G A X) {idx n b ci d : Nat} {Y : Md} {vs : List Value} {ks : List (Nat ⊕ Bool)} {T : u_T} {N : Nat} {Qk : Qt} {H : Heap} {locs : List Loc} {ls : Array Slot} (hm : MV X.1.cls idx Y n) (hac : AC d Y (.ref b :: vs) M Qk) (hsh : shp b = .inr (ci, ks)) (hb : b < NSH) (hcl : classes[ci]? = some (Y.1.cls, T, N)) (hn : vs.length = n) (hst : st0 = vs.reverse ++ .ref b :: st) (hw : (st.map fun v => v.category).sum ≤ 8) (hR : d + 1 ≤ R.frames ∧ 40 * d + 40 ≤ R.locals) (hcs : cells ≤ R.cells ∧ slots ≤ R.slots) (hd : decode X.2.1 pc = .ok (.invokevirtual idx, 3))
    (hP : va_P G.1 classes (wW G M) H) (hS : va_S A s.heap H locs) (hl : LH ls X.2.2.1 G.2.1 lv) :
    va_Run p l e R s m args below meth c H locs cells slots 0 0 (F0 m pc ls (st0.map (cvv G.2.1))) (st.map (cvv G.2.1)) (Qk G (Value.ref (G.2.1 b) :: vs.map (cvv G.2.1)).toArray) (FA G) := by
  obtain ⟨m1, m2, m3, m4, m5, m6, m7⟩ := hm
  refine va_runV (Ts := GW) (own := X.1.cls) (C := Y.1.cls) (As := vs.map (cvv G.2.1)) (rest := st.map (cvv G.2.1)) ⟨hc.1, hc.2.1, hc.2.2.2.1, hc.2.2.2.2.1, hc.2.2.2.2.2.1⟩ (hac l G hc.2.2.2.2.2.2.2.2.1) (cwV n hc.2.2.2.2.2.1 (gwgood (fun w hw => ?_)) rfl rfl rfl ⟨rfl, m6⟩ ⟨hR.1, ?_⟩) ⟨PC_blind _ _ _, va_recv hc.2.2.2.2.2.2.2.1.K hP hcl ((wW_get G M hb).trans (by rw [wE_obj hsh])), fun U hU hW => PC_of hc (vs := .ref b :: vs) hP hS U hU hW⟩ rfl (by rw [List.length_map]; exact hn) hl.1 ?_ (lv_room (by rw [cats]; exact hw)) hd hcs
  · rcases List.mem_append.mp hw with h | h
    · simp only [List.mem_cons, List.not_mem_nil, or_false] at h
      rcases h with rfl | rfl | rfl | rfl
      · exact m1
      · exact m2
      · exact m3
      · exact m4
    · exact wd_in m5 w h
  · show 8 + (Y.2.2.1 + 11) + 40 * d ≤ R.locals
    omega
  · show st0.map (cvv G.2.1) = _
    rw [hst, List.map_append, List.map_reverse]
    rfl
theorem hb_runS (hc : CX p s m args meth c G A X) {idx n d : Nat} {Y : Md} {vs : List Value} {Qk : Qt} {H : Heap} {locs : List Loc} {ls : Array Slot} (hm : MS X.1.cls idx Y n) (hac : AC d Y vs M Qk) (hn : vs.length = n) (hst : st0 = vs.reverse ++ st) (hw : (st.map fun v => v.category).sum ≤ 8) (hR : d + 1 ≤ R.frames ∧ 40 * d + 40 ≤ R.locals) (hcs : cells ≤ R.cells ∧ slots ≤ R.slots) (hd : decode X.2.1 pc = .ok (.invokestatic idx, 3))
    (hP : va_P G.1 classes (wW G M) H) (hS : va_S A s.heap H locs) (hl : LH ls X.2.2.1 G.2.1 lv) :
    va_Run p l e R s m args below meth c H locs cells slots 0 0 (F0 m pc ls (st0.map (cvv G.2.1))) (st.map (cvv G.2.1)) (Qk G (vs.map (cvv G.2.1)).toArray) (FA G) := by
  obtain ⟨m1, m2, m4, m5, m6, m7⟩ := hm
  refine va_runS (Ts := GW) (own := X.1.cls) (As := vs.map (cvv G.2.1)) (rest := st.map (cvv G.2.1)) ⟨hc.1, hc.2.1, hc.2.2.2.1, hc.2.2.2.2.1, hc.2.2.2.2.2.1⟩ (hac l G hc.2.2.2.2.2.2.2.2.1) (va_cwS n hc.2.2.2.2.2.1 (gwgood (fun w hw => ?_)) rfl rfl rfl m6 ⟨hR.1, ?_⟩) ⟨PC_blind _ _ _, fun U hU hW => PC_of hc hP hS U hU hW⟩ rfl (by rw [List.length_map]; exact hn) hl.1 ?_ (lv_room (by rw [cats]; exact hw)) hd hcs
  · rcases List.mem_append.mp hw with h | h
    · simp only [List.mem_cons, List.not_mem_nil, or_false] at h
      rcases h with rfl | rfl | rfl
      · exact m1
      · exact m2
      · exact m4
    · exact wd_in m5 w h
  · show 8 + (Y.2.2.1 + 11) + 40 * d ≤ R.locals
    omega
  · show st0.map (cvv G.2.1) = _
    rw [hst, List.map_append, List.map_reverse]
/-- a nest mate's private static method: lightsIn -/
theorem hb_runN (hc : CX p s m args meth c G A X) {idx n d : Nat} {Y : Md} {vs : List Value} {Qk : Qt} {H : Heap} {locs : List Loc} {ls : Array Slot} (hnw : KK G A s s.heap → va_Nw (.methodLinkNest X.1.cls idx Y.1 RX8) s) (hm : Cond.static Y.1 ∈ GW ∧ Cond.initialized Y.1.cls ∈ GW ∧ Cond.code Y.1 Y.2.1 Y.2.2.1 Y.2.2.2 ∈ GW ∧ (Y.1.cls ≠ "java/lang/invoke/MethodHandle" ∧ Y.1.cls ≠ "java/lang/invoke/VarHandle" ∧ (parseMethodDescriptor Y.1.desc).map (fun d => d.parameters.length) = some n) ∧ Y.2.2.1 ≤ 21) (hac : AC d Y vs M Qk) (hn : vs.length = n) (hst : st0 = vs.reverse ++ st) (hw : (st.map fun v => v.category).sum ≤ 8) (hR : d + 1 ≤ R.frames ∧ 40 * d + 40 ≤ R.locals) (hcs : cells ≤ R.cells ∧ slots ≤ R.slots) (hd : decode X.2.1 pc = .ok (.invokestatic idx, 3))
    (hP : va_P G.1 classes (wW G M) H) (hS : va_S A s.heap H locs) (hl : LH ls X.2.2.1 G.2.1 lv) :
    va_Run p l e R s m args below meth c H locs cells slots 0 0 (F0 m pc ls (st0.map (cvv G.2.1))) (st.map (cvv G.2.1)) (Qk G (vs.map (cvv G.2.1)).toArray) (FA G) := by
  obtain ⟨m2, m4, m5, m6, m7⟩ := hm
  refine va_runSN (Ts := GW) (own := X.1.cls) (As := vs.map (cvv G.2.1)) (rest := st.map (cvv G.2.1)) ⟨hc.1, hc.2.1, hc.2.2.2.1, hc.2.2.2.2.1, hc.2.2.2.2.2.1⟩ (hac l G hc.2.2.2.2.2.2.2.2.1) ⟨va_cnB n hc.2.2.2.2.2.1 (gwgood (wd_in m5)) rfl rfl rfl (hnw hc.2.2.2.2.2.2.2.1) (hc.2.2.2.2.2.1 _ m4) m6 ⟨hR.1, ?_⟩, hc.2.2.2.2.2.1 _ m2, trivial⟩ ⟨PC_blind _ _ _, fun U hU hW => PC_of hc hP hS U hU hW⟩ rfl (by rw [List.length_map]; exact hn) hl.1 ?_ (lv_room (by rw [cats]; exact hw)) hd hcs
  · show 8 + (Y.2.2.1 + 11) + 40 * d ≤ R.locals
    omega
  · show st0.map (cvv G.2.1) = _
    rw [hst, List.map_append, List.map_reverse]

theorem hb_callVi (hc : CX p s m args meth c G A X) {idx n b ci d : Nat} {Y : Md} {vs : List Value} {ks : List (Nat ⊕ Bool)} {T : u_T} {N : Nat} {K : Int32 → Mm → Prop} (hm : MV X.1.cls idx Y n) (hac : AC d Y (.ref b :: vs) M (QI K)) (hsh : shp b = .inr (ci, ks)) (hb : b < NSH) (hcl : classes[ci]? = some (Y.1.cls, T, N)) (hn : vs.length = n) (hst : st0 = vs.reverse ++ .ref b :: st) (hw : (st.map fun v => v.category).sum ≤ 8) (hR : d + 1 ≤ R.frames ∧ 40 * d + 40 ≤ R.locals) (hcs : cells ≤ R.cells ∧ slots ≤ R.slots) (hd : decode X.2.1 pc = .ok (.invokevirtual idx, 3)) (hq : pc + 3 = q) (kk : ∀ (x : Int32) (M' : Mm), K x M' → BW p l e R s m args below meth c G A cells slots Q X M' q lv (.int x :: st)) : BW p l e R s m args below meth c G A cells slots Q X M pc lv st0 := by
  subst hq
  intro H locs ls hP hS hl
  refine va_calli (hb_runV hc hm hac hsh hb hcl hn hst hw hR hcs hd hP hS hl) hS (fun z _ hz => by obtain ⟨i, hi, rfl⟩ := hz; exact hc.2.2.2.2.2.2.2.2.2 i hi) (fun z hz => by obtain ⟨i, hi, rfl⟩ := hz; exact hc.2.2.2.2.2.2.2.2.2 i hi) (fun r u t H1 locs1 ht hvm hpost hB hz hk hS1 => ?_)
  exact kk r u hpost H1 locs1 ls (by rw [← ht]; exact hB) hS1 hl
theorem hb_callSi (hc : CX p s m args meth c G A X) {idx n d : Nat} {Y : Md} {vs : List Value} {K : Int32 → Mm → Prop} (hm : MS X.1.cls idx Y n) (hac : AC d Y vs M (QI K))  (hn : vs.length = n) (hst : st0 = vs.reverse ++ st) (hw : (st.map fun v => v.category).sum ≤ 8) (hR : d + 1 ≤ R.frames ∧ 40 * d + 40 ≤ R.locals) (hcs : cells ≤ R.cells ∧ slots ≤ R.slots) (hd : decode X.2.1 pc = .ok (.invokestatic idx, 3)) (hq : pc + 3 = q) (kk : ∀ (x : Int32) (M' : Mm), K x M' → BW p l e R s m args below meth c G A cells slots Q X M' q lv (.int x :: st)) : BW p l e R s m args below meth c G A cells slots Q X M pc lv st0 := by
  subst hq
  intro H locs ls hP hS hl
  refine va_calli (hb_runS hc hm hac hn hst hw hR hcs hd hP hS hl) hS (fun z _ hz => by obtain ⟨i, hi, rfl⟩ := hz; exact hc.2.2.2.2.2.2.2.2.2 i hi) (fun z hz => by obtain ⟨i, hi, rfl⟩ := hz; exact hc.2.2.2.2.2.2.2.2.2 i hi) (fun r u t H1 locs1 ht hvm hpost hB hz hk hS1 => ?_)
  exact kk r u hpost H1 locs1 ls (by rw [← ht]; exact hB) hS1 hl
theorem hb_callNi (hc : CX p s m args meth c G A X) {idx n d : Nat} {Y : Md} {vs : List Value} {K : Int32 → Mm → Prop} (hnw : KK G A s s.heap → va_Nw (.methodLinkNest X.1.cls idx Y.1 RX8) s) (hm : Cond.static Y.1 ∈ GW ∧ Cond.initialized Y.1.cls ∈ GW ∧ Cond.code Y.1 Y.2.1 Y.2.2.1 Y.2.2.2 ∈ GW ∧ (Y.1.cls ≠ "java/lang/invoke/MethodHandle" ∧ Y.1.cls ≠ "java/lang/invoke/VarHandle" ∧ (parseMethodDescriptor Y.1.desc).map (fun d => d.parameters.length) = some n) ∧ Y.2.2.1 ≤ 21) (hac : AC d Y vs M (QI K))  (hn : vs.length = n) (hst : st0 = vs.reverse ++ st) (hw : (st.map fun v => v.category).sum ≤ 8) (hR : d + 1 ≤ R.frames ∧ 40 * d + 40 ≤ R.locals) (hcs : cells ≤ R.cells ∧ slots ≤ R.slots) (hd : decode X.2.1 pc = .ok (.invokestatic idx, 3)) (hq : pc + 3 = q) (kk : ∀ (x : Int32) (M' : Mm), K x M' → BW p l e R s m args below meth c G A cells slots Q X M' q lv (.int x :: st)) : BW p l e R s m args below meth c G A cells slots Q X M pc lv st0 := by
  subst hq
  intro H locs ls hP hS hl
  refine va_calli (hb_runN hc hnw hm hac hn hst hw hR hcs hd hP hS hl) hS (fun z _ hz => by obtain ⟨i, hi, rfl⟩ := hz; exact hc.2.2.2.2.2.2.2.2.2 i hi) (fun z hz => by obtain ⟨i, hi, rfl⟩ := hz; exact hc.2.2.2.2.2.2.2.2.2 i hi) (fun r u t H1 locs1 ht hvm hpost hB hz hk hS1 => ?_)
  exact kk r u hpost H1 locs1 ls (by rw [← ht]; exact hB) hS1 hl
theorem hb_callVl (hc : CX p s m args meth c G A X) {idx n b ci d : Nat} {Y : Md} {vs : List Value} {ks : List (Nat ⊕ Bool)} {T : u_T} {N : Nat} {K : Int64 → Mm → Prop} (hm : MV X.1.cls idx Y n) (hac : AC d Y (.ref b :: vs) M (QL K)) (hsh : shp b = .inr (ci, ks)) (hb : b < NSH) (hcl : classes[ci]? = some (Y.1.cls, T, N)) (hn : vs.length = n) (hst : st0 = vs.reverse ++ .ref b :: st) (hw : (st.map fun v => v.category).sum ≤ 8) (hR : d + 1 ≤ R.frames ∧ 40 * d + 40 ≤ R.locals) (hcs : cells ≤ R.cells ∧ slots ≤ R.slots) (hd : decode X.2.1 pc = .ok (.invokevirtual idx, 3)) (hq : pc + 3 = q) (kk : ∀ (x : Int64) (M' : Mm), K x M' → BW p l e R s m args below meth c G A cells slots Q X M' q lv (.long x :: st)) : BW p l e R s m args below meth c G A cells slots Q X M pc lv st0 := by
  subst hq
  intro H locs ls hP hS hl
  refine va_calll (hb_runV hc hm hac hsh hb hcl hn hst hw hR hcs hd hP hS hl) hS (fun z _ hz => by obtain ⟨i, hi, rfl⟩ := hz; exact hc.2.2.2.2.2.2.2.2.2 i hi) (fun z hz => by obtain ⟨i, hi, rfl⟩ := hz; exact hc.2.2.2.2.2.2.2.2.2 i hi) (fun r u t H1 locs1 ht hvm hpost hB hz hk hS1 => ?_)
  exact kk r u hpost H1 locs1 ls (by rw [← ht]; exact hB) hS1 hl
theorem hb_callSl (hc : CX p s m args meth c G A X) {idx n d : Nat} {Y : Md} {vs : List Value} {K : Int64 → Mm → Prop} (hm : MS X.1.cls idx Y n) (hac : AC d Y vs M (QL K))  (hn : vs.length = n) (hst : st0 = vs.reverse ++ st) (hw : (st.map fun v => v.category).sum ≤ 8) (hR : d + 1 ≤ R.frames ∧ 40 * d + 40 ≤ R.locals) (hcs : cells ≤ R.cells ∧ slots ≤ R.slots) (hd : decode X.2.1 pc = .ok (.invokestatic idx, 3)) (hq : pc + 3 = q) (kk : ∀ (x : Int64) (M' : Mm), K x M' → BW p l e R s m args below meth c G A cells slots Q X M' q lv (.long x :: st)) : BW p l e R s m args below meth c G A cells slots Q X M pc lv st0 := by
  subst hq
  intro H locs ls hP hS hl
  refine va_calll (hb_runS hc hm hac hn hst hw hR hcs hd hP hS hl) hS (fun z _ hz => by obtain ⟨i, hi, rfl⟩ := hz; exact hc.2.2.2.2.2.2.2.2.2 i hi) (fun z hz => by obtain ⟨i, hi, rfl⟩ := hz; exact hc.2.2.2.2.2.2.2.2.2 i hi) (fun r u t H1 locs1 ht hvm hpost hB hz hk hS1 => ?_)
  exact kk r u hpost H1 locs1 ls (by rw [← ht]; exact hB) hS1 hl
theorem hb_callVv (hc : CX p s m args meth c G A X) {idx n b ci d : Nat} {Y : Md} {vs : List Value} {ks : List (Nat ⊕ Bool)} {T : u_T} {N : Nat} {K : Mm → Prop} (hm : MV X.1.cls idx Y n) (hac : AC d Y (.ref b :: vs) M (QV K)) (hsh : shp b = .inr (ci, ks)) (hb : b < NSH) (hcl : classes[ci]? = some (Y.1.cls, T, N)) (hn : vs.length = n) (hst : st0 = vs.reverse ++ .ref b :: st) (hw : (st.map fun v => v.category).sum ≤ 8) (hR : d + 1 ≤ R.frames ∧ 40 * d + 40 ≤ R.locals) (hcs : cells ≤ R.cells ∧ slots ≤ R.slots) (hd : decode X.2.1 pc = .ok (.invokevirtual idx, 3)) (hq : pc + 3 = q) (kk : ∀ (M' : Mm), K M' → BW p l e R s m args below meth c G A cells slots Q X M' q lv st) : BW p l e R s m args below meth c G A cells slots Q X M pc lv st0 := by
  subst hq
  intro H locs ls hP hS hl
  refine va_callv (hb_runV hc hm hac hsh hb hcl hn hst hw hR hcs hd hP hS hl) hS (fun z _ hz => by obtain ⟨i, hi, rfl⟩ := hz; exact hc.2.2.2.2.2.2.2.2.2 i hi) (fun z hz => by obtain ⟨i, hi, rfl⟩ := hz; exact hc.2.2.2.2.2.2.2.2.2 i hi) (fun u t H1 locs1 ht hvm hpost hB hz hk hS1 => ?_)
  exact kk u hpost H1 locs1 ls (by rw [← ht]; exact hB) hS1 hl
theorem hb_callSv (hc : CX p s m args meth c G A X) {idx n d : Nat} {Y : Md} {vs : List Value} {K : Mm → Prop} (hm : MS X.1.cls idx Y n) (hac : AC d Y vs M (QV K))  (hn : vs.length = n) (hst : st0 = vs.reverse ++ st) (hw : (st.map fun v => v.category).sum ≤ 8) (hR : d + 1 ≤ R.frames ∧ 40 * d + 40 ≤ R.locals) (hcs : cells ≤ R.cells ∧ slots ≤ R.slots) (hd : decode X.2.1 pc = .ok (.invokestatic idx, 3)) (hq : pc + 3 = q) (kk : ∀ (M' : Mm), K M' → BW p l e R s m args below meth c G A cells slots Q X M' q lv st) : BW p l e R s m args below meth c G A cells slots Q X M pc lv st0 := by
  subst hq
  intro H locs ls hP hS hl
  refine va_callv (hb_runS hc hm hac hn hst hw hR hcs hd hP hS hl) hS (fun z _ hz => by obtain ⟨i, hi, rfl⟩ := hz; exact hc.2.2.2.2.2.2.2.2.2 i hi) (fun z hz => by obtain ⟨i, hi, rfl⟩ := hz; exact hc.2.2.2.2.2.2.2.2.2 i hi) (fun u t H1 locs1 ht hvm hpost hB hz hk hS1 => ?_)
  exact kk u hpost H1 locs1 ls (by rw [← ht]; exact hB) hS1 hl
theorem hb_callVr (hc : CX p s m args meth c G A X) {idx n b ci d : Nat} {Y : Md} {vs : List Value} {ks : List (Nat ⊕ Bool)} {T : u_T} {N : Nat} {K : Option Nat → Mm → Prop} (hm : MV X.1.cls idx Y n) (hac : AC d Y (.ref b :: vs) M (QR K)) (hsh : shp b = .inr (ci, ks)) (hb : b < NSH) (hcl : classes[ci]? = some (Y.1.cls, T, N)) (hn : vs.length = n) (hst : st0 = vs.reverse ++ .ref b :: st) (hw : (st.map fun v => v.category).sum ≤ 8) (hR : d + 1 ≤ R.frames ∧ 40 * d + 40 ≤ R.locals) (hcs : cells ≤ R.cells ∧ slots ≤ R.slots) (hd : decode X.2.1 pc = .ok (.invokevirtual idx, 3)) (hq : pc + 3 = q) (kn : ∀ (M' : Mm), K none M' → BW p l e R s m args below meth c G A cells slots Q X M' q lv (.null :: st)) (ks : ∀ (x : Nat) (M' : Mm), K (some x) M' → BW p l e R s m args below meth c G A cells slots Q X M' q lv (.ref x :: st)) : BW p l e R s m args below meth c G A cells slots Q X M pc lv st0 := by
  subst hq
  intro H locs ls hP hS hl
  refine va_callq (hb_runV hc hm hac hsh hb hcl hn hst hw hR hcs hd hP hS hl) hS (fun z _ hz => by obtain ⟨i, hi, rfl⟩ := hz; exact hc.2.2.2.2.2.2.2.2.2 i hi) (fun z hz => by obtain ⟨i, hi, rfl⟩ := hz; exact hc.2.2.2.2.2.2.2.2.2 i hi) (fun r u t H1 locs1 ht hvm hpost hB hz hk hS1 => ?_)
  obtain ⟨a, rfl, hK⟩ := hpost
  cases a with
  | none => exact kn u hK H1 locs1 ls (by rw [← ht]; exact hB) hS1 hl
  | some x => exact ks x u hK H1 locs1 ls (by rw [← ht]; exact hB) hS1 hl
theorem hb_callSr (hc : CX p s m args meth c G A X) {idx n d : Nat} {Y : Md} {vs : List Value} {K : Option Nat → Mm → Prop} (hm : MS X.1.cls idx Y n) (hac : AC d Y vs M (QR K))  (hn : vs.length = n) (hst : st0 = vs.reverse ++ st) (hw : (st.map fun v => v.category).sum ≤ 8) (hR : d + 1 ≤ R.frames ∧ 40 * d + 40 ≤ R.locals) (hcs : cells ≤ R.cells ∧ slots ≤ R.slots) (hd : decode X.2.1 pc = .ok (.invokestatic idx, 3)) (hq : pc + 3 = q) (kn : ∀ (M' : Mm), K none M' → BW p l e R s m args below meth c G A cells slots Q X M' q lv (.null :: st)) (ks : ∀ (x : Nat) (M' : Mm), K (some x) M' → BW p l e R s m args below meth c G A cells slots Q X M' q lv (.ref x :: st)) : BW p l e R s m args below meth c G A cells slots Q X M pc lv st0 := by
  subst hq
  intro H locs ls hP hS hl
  refine va_callq (hb_runS hc hm hac hn hst hw hR hcs hd hP hS hl) hS (fun z _ hz => by obtain ⟨i, hi, rfl⟩ := hz; exact hc.2.2.2.2.2.2.2.2.2 i hi) (fun z hz => by obtain ⟨i, hi, rfl⟩ := hz; exact hc.2.2.2.2.2.2.2.2.2 i hi) (fun r u t H1 locs1 ht hvm hpost hB hz hk hS1 => ?_)
  obtain ⟨a, rfl, hK⟩ := hpost
  cases a with
  | none => exact kn u hK H1 locs1 ls (by rw [← ht]; exact hB) hS1 hl
  | some x => exact ks x u hK H1 locs1 ls (by rw [← ht]; exact hB) hS1 hl
end HC
section HR
variable {p : Program} {l : Launch} {e : Env} {R : Room} {s : State} {m : MethodId} {args : Array Value} {below : List Frame} {meth : Method} {c : Code} {G : Gm} {X : Md} {M : Mm} {pc : Nat} {lv : List (Option Value)}
theorem hb_iret (hc : CX p s m args meth c G (FA G) X) {K : Int32 → Mm → Prop} {x : Int32} (hr : X.2.2.2 = some .int) (hd : decode X.2.1 pc = .ok (.ireturn, 1)) (kk : K x M) : BW p l e R s m args below meth c G (FA G) 0 0 (MQ below (QI K G) args s 0 0 (FA G)) X M pc lv [.int x] := by
  intro H locs ls hP hS hl
  have hlocks := hc.2.2.2.2.2.2.1
  exact W.iret (v := x) hc.1 hc.2.1 (hc.2.2.1.trans hr) (fun t ht hW => ⟨⟨x, M, rfl, kk, by show va_P _ _ _ _; rw [ht]; exact hP⟩, hS.F ht⟩) hS.2.2 hd hlocks
theorem hb_zret (hc : CX p s m args meth c G (FA G) X) {K : Int32 → Mm → Prop} {x : Int32} (hr : X.2.2.2 = some .boolean) (hz : x = 0 ∨ x = 1) (hd : decode X.2.1 pc = .ok (.ireturn, 1)) (kk : K x M) : BW p l e R s m args below meth c G (FA G) 0 0 (MQ below (QI K G) args s 0 0 (FA G)) X M pc lv [.int x] := by
  intro H locs ls hP hS hl
  have hlocks := hc.2.2.2.2.2.2.1
  exact W.zret (v := x) hc.1 hc.2.1 (hc.2.2.1.trans hr) (narZ hz) (fun t ht hW => ⟨⟨x, M, rfl, kk, by show va_P _ _ _ _; rw [ht]; exact hP⟩, hS.F ht⟩) hS.2.2 hd hlocks
theorem hb_nret (hc : CX p s m args meth c G (FA G) X) {K : Int32 → Mm → Prop} {x : Int32} {ty : FieldType} (hr : X.2.2.2 = some ty) (hz : narrow ty (.int x) = .int x) (hd : decode X.2.1 pc = .ok (.ireturn, 1)) (kk : K x M) : BW p l e R s m args below meth c G (FA G) 0 0 (MQ below (QI K G) args s 0 0 (FA G)) X M pc lv [.int x] := by
  intro H locs ls hP hS hl
  have hlocks := hc.2.2.2.2.2.2.1
  exact W.zret (v := x) hc.1 hc.2.1 (hc.2.2.1.trans hr) hz (fun t ht hW => ⟨⟨x, M, rfl, kk, by show va_P _ _ _ _; rw [ht]; exact hP⟩, hS.F ht⟩) hS.2.2 hd hlocks
theorem hb_lret (hc : CX p s m args meth c G (FA G) X) {K : Int64 → Mm → Prop} {x : Int64} (hr : X.2.2.2 = some .long) (hd : decode X.2.1 pc = .ok (.lreturn, 1)) (kk : K x M) : BW p l e R s m args below meth c G (FA G) 0 0 (MQ below (QL K G) args s 0 0 (FA G)) X M pc lv [.long x] := by
  intro H locs ls hP hS hl
  have hlocks := hc.2.2.2.2.2.2.1
  exact W.lret (v := x) hc.1 hc.2.1 (hc.2.2.1.trans hr) (fun t ht hW => ⟨⟨x, M, rfl, kk, by show va_P _ _ _ _; rw [ht]; exact hP⟩, hS.F ht⟩) hS.2.2 hd hlocks
theorem hb_vret (hc : CX p s m args meth c G (FA G) X) {K : Mm → Prop} (hr : X.2.2.2 = none) (hd : decode X.2.1 pc = .ok (.return_, 1)) (kk : K M) : BW p l e R s m args below meth c G (FA G) 0 0 (MQ below (QV K G) args s 0 0 (FA G)) X M pc lv [] := by
  intro H locs ls hP hS hl
  have hlocks := hc.2.2.2.2.2.2.1
  exact W.vret hc.1 hc.2.1 (hc.2.2.1.trans hr) (fun t ht hW => ⟨⟨M, rfl, kk, by show va_P _ _ _ _; rw [ht]; exact hP⟩, hS.F ht⟩) hS.2.2 hd hlocks
theorem hb_aret (hc : CX p s m args meth c G (FA G) X) {K : Option Nat → Mm → Prop} {x : Nat} {nm : String} (hr : X.2.2.2 = some (.object nm)) (hd : decode X.2.1 pc = .ok (.areturn, 1)) (kk : K (some x) M) : BW p l e R s m args below meth c G (FA G) 0 0 (MQ below (QR K G) args s 0 0 (FA G)) X M pc lv [.ref x] := by
  intro H locs ls hP hS hl
  have hlocks := hc.2.2.2.2.2.2.1
  exact W.aret (v := .ref (G.2.1 x)) hc.1 hc.2.1 (hc.2.2.1.trans hr) (Or.inl ⟨nm, rfl⟩) (Or.inr ⟨_, rfl⟩) (fun t ht hW => ⟨⟨some (G.2.1 x), M, rfl, ⟨some x, rfl, kk⟩, by show va_P _ _ _ _; rw [ht]; exact hP⟩, hS.F ht⟩) hS.2.2 hd hlocks
theorem hb_aretN (hc : CX p s m args meth c G (FA G) X) {K : Option Nat → Mm → Prop} {nm : String} (hr : X.2.2.2 = some (.object nm)) (hd : decode X.2.1 pc = .ok (.areturn, 1)) (kk : K none M) : BW p l e R s m args below meth c G (FA G) 0 0 (MQ below (QR K G) args s 0 0 (FA G)) X M pc lv [.null] := by
  intro H locs ls hP hS hl
  have hlocks := hc.2.2.2.2.2.2.1
  exact W.aret (v := .null) hc.1 hc.2.1 (hc.2.2.1.trans hr) (Or.inl ⟨nm, rfl⟩) (Or.inl rfl) (fun t ht hW => ⟨⟨none, M, rfl, ⟨none, rfl, kk⟩, by show va_P _ _ _ _; rw [ht]; exact hP⟩, hS.F ht⟩) hS.2.2 hd hlocks
end HR
end
section
/-! FACTS, by program: method descriptors, words by their places, links, shapes. -/
def X0_beginAnew : Md := (yX0_beginAnew, cX0_beginAnew, 2, none)
def X0_become : Md := (yX0_become, cX0_become, 2, none)
def X0_hasRhythm : Md := (yX0_hasRhythm, cX0_hasRhythm, 2, (some .boolean))
def X0_addRhythm : Md := (yX0_addRhythm, cX0_addRhythm, 2, none)
def X0_hasFlash : Md := (yX0_hasFlash, cX0_hasFlash, 3, (some .boolean))
def X0_turned : Md := (yX0_turned, cX0_turned, 5, (some .int))
def X0_turnsToLeast : Md := (yX0_turnsToLeast, cX0_turnsToLeast, 4, (some .int))
def X0_repeats : Md := (yX0_repeats, cX0_repeats, 3, (some .int))
def X0_areSuch : Md := (yX0_areSuch, cX0_areSuch, 4, (some .boolean))
def X0_shareRow : Md := (yX0_shareRow, cX0_shareRow, 9, (some .boolean))
def X0_suchOnes : Md := (yX0_suchOnes, cX0_suchOnes, 5, (some .int))
def X1_remember : Md := (yX1_remember, cX1_remember, 3, none)
def X1_forgetOldest : Md := (yX1_forgetOldest, cX1_forgetOldest, 1, none)
def X1_takeBack : Md := (yX1_takeBack, cX1_takeBack, 2, none)
def X2_become : Md := (yX2_become, cX2_become, 2, none)
def X2_hasLight : Md := (yX2_hasLight, cX2_hasLight, 2, (some .boolean))
def X2_addAt : Md := (yX2_addAt, cX2_addAt, 2, none)
def X2_neighbours : Md := (yX2_neighbours, cX2_neighbours, 5, (some .int))
def X2_litOnes : Md := (yX2_litOnes, cX2_litOnes, 3, (some .int))
def X2_pairsSeenFrom : Md := (yX2_pairsSeenFrom, cX2_pairsSeenFrom, 8, (some .long))
def X2_pairsThatFlash : Md := (yX2_pairsThatFlash, cX2_pairsThatFlash, 6, (some .long))
def X3_prepare : Md := (yX3_prepare, cX3_prepare, 5, none)
def X3_states : Md := (yX3_states, cX3_states, 2, (some .int))
def X3_named : Md := (yX3_named, cX3_named, 2, (some .int))
def X3_behind : Md := (yX3_behind, cX3_behind, 8, (some .long))
def X3_addIfNew : Md := (yX3_addIfNew, cX3_addIfNew, 4, none)
def X3_takeAnyBeat : Md := (yX3_takeAnyBeat, cX3_takeAnyBeat, 6, none)
def X3_allNameOneLight : Md := (yX3_allNameOneLight, cX3_allNameOneLight, 2, (some .boolean))
def X4_makePlan : Md := (yX4_makePlan, cX4_makePlan, 5, (some .boolean))
def X4_compareRhythms : Md := (yX4_compareRhythms, cX4_compareRhythms, 4, none)
def X4_chooseFrom : Md := (yX4_chooseFrom, cX4_chooseFrom, 9, (some .int))
def X4_refusedFor : Md := (yX4_refusedFor, cX4_refusedFor, 4, (some .int))
def X4_greatestUnlikeSet : Md := (yX4_greatestUnlikeSet, cX4_greatestUnlikeSet, 5, (some .int))
def X4_isUnlike : Md := (yX4_isUnlike, cX4_isUnlike, 4, (some .boolean))
def X5_begin : Md := (yX5_begin, cX5_begin, 1, none)
def X5_vanish : Md := (yX5_vanish, cX5_vanish, 1, none)
def X5_addInFront : Md := (yX5_addInFront, cX5_addInFront, 2, none)
def X5_addBehind : Md := (yX5_addBehind, cX5_addBehind, 2, none)
def X5_takeFirst : Md := (yX5_takeFirst, cX5_takeFirst, 2, (some .int))
def X5_takeLast : Md := (yX5_takeLast, cX5_takeLast, 1, (some .int))
def X5_greatest : Md := (yX5_greatest, cX5_greatest, 3, (some .int))
def X5_least : Md := (yX5_least, cX5_least, 3, (some .int))
def X5_howMany : Md := (yX5_howMany, cX5_howMany, 4, (some .int))
def X5_removeAll : Md := (yX5_removeAll, cX5_removeAll, 4, (some .int))
def X6_append : Md := (yX6_append, cX6_append, 2, none)
def X6_readInto : Md := (yX6_readInto, cX6_readInto, 3, (some .int))
def X6_readClause : Md := (yX6_readClause, cX6_readClause, 2, (some .boolean))
def X6_readBeats : Md := (yX6_readBeats, cX6_readBeats, 3, (some .boolean))
def X6_readWindow : Md := (yX6_readWindow, cX6_readWindow, 3, (some .boolean))
def X6_readSight : Md := (yX6_readSight, cX6_readSight, 3, (some .boolean))
def X6_readRhythm : Md := (yX6_readRhythm, cX6_readRhythm, 4, (some .boolean))
def X6_readLight : Md := (yX6_readLight, cX6_readLight, 3, (some .boolean))
def X6_readLit : Md := (yX6_readLit, cX6_readLit, 4, (some .boolean))
def X6_readNumber : Md := (yX6_readNumber, cX6_readNumber, 6, (some .int))
def X6_advance : Md := (yX6_advance, cX6_advance, 3, none)
def X6_isWord : Md := (yX6_isWord, cX6_isWord, 3, (some .boolean))
def X6_isSmall : Md := (yX6_isSmall, cX6_isSmall, 1, (some .boolean))
def X6_isDigit : Md := (yX6_isDigit, cX6_isDigit, 1, (some .boolean))
def X7_begin : Md := (yX7_begin, cX7_begin, 4, none)
def X7_end : Md := (yX7_end, cX7_end, 1, none)
def X7_size : Md := (yX7_size, cX7_size, 1, (some .int))
def X7_lights : Md := (yX7_lights, cX7_lights, 1, (some .int))
def X7_takeBeat : Md := (yX7_takeBeat, cX7_takeBeat, 11, none)
def X7_strikeOrForgive : Md := (yX7_strikeOrForgive, cX7_strikeOrForgive, 4, none)
def X7_shiftNow : Md := (yX7_shiftNow, cX7_shiftNow, 4, (some .int))
def X7_pairAt : Md := (yX7_pairAt, cX7_pairAt, 5, (some .int))
def X8_write : Md := (yX8_write, cX8_write, 2, (some .int))
def X8_erase : Md := (yX8_erase, cX8_erase, 2, (some .int))
def X8_fault : Md := (yX8_fault, cX8_fault, 1, (some .int))
def X8_office : Md := (yX8_office, cX8_office, 1, (some .int))
def X8_forgetWhatWasDone : Md := (yX8_forgetWhatWasDone, cX8_forgetWhatWasDone, 3, none)
def X8_rhythm : Md := (yX8_rhythm, cX8_rhythm, 3, (some .int))
def X8_light : Md := (yX8_light, cX8_light, 3, (some .int))
def X8_clashing : Md := (yX8_clashing, cX8_clashing, 6, (some .int))
def X8_like : Md := (yX8_like, cX8_like, 4, (some .int))
def X8_lit : Md := (yX8_lit, cX8_lit, 4, (some .int))
def X8_dark : Md := (yX8_dark, cX8_dark, 3, (some .int))
def X8_move : Md := (yX8_move, cX8_move, 4, (some .int))
def X8_prepareChange : Md := (yX8_prepareChange, cX8_prepareChange, 2, none)
def X8_undo : Md := (yX8_undo, cX8_undo, 1, (some .int))
def X8_keep : Md := (yX8_keep, cX8_keep, 3, (some .int))
def X8_back : Md := (yX8_back, cX8_back, 3, (some .int))
def X8_keptAt : Md := (yX8_keptAt, cX8_keptAt, 2, (some (.object "HarbourLights$Lights")))
def X8_plan : Md := (yX8_plan, cX8_plan, 3, (some .int))
def X8_most : Md := (yX8_most, cX8_most, 2, (some .int))
def X8_apart : Md := (yX8_apart, cX8_apart, 4, (some .int))
def X8_machine : Md := (yX8_machine, cX8_machine, 3, (some .int))
def X8_watch : Md := (yX8_watch, cX8_watch, 3, (some .int))
def X8_see : Md := (yX8_see, cX8_see, 2, (some .int))
def X8_left : Md := (yX8_left, cX8_left, 3, (some .int))
def X8_tape : Md := (yX8_tape, cX8_tape, 3, (some .int))
def X8_put : Md := (yX8_put, cX8_put, 5, (some .int))
def X8_draw : Md := (yX8_draw, cX8_draw, 5, (some .int))
def X8_turn : Md := (yX8_turn, cX8_turn, 5, (some .int))
def X8_find : Md := (yX8_find, cX8_find, 6, (some .int))
def X8_strike : Md := (yX8_strike, cX8_strike, 4, (some .int))
def X8_load : Md := (yX8_load, cX8_load, 7, (some .int))
def X8_drop : Md := (yX8_drop, cX8_drop, 4, (some .int))
def X8_count : Md := (yX8_count, cX8_count, 2, (some .int))
def X8_clashes : Md := (yX8_clashes, cX8_clashes, 3, (some .int))
def X8_numbersOnTapes : Md := (yX8_numbersOnTapes, cX8_numbersOnTapes, 4, (some .int))
def X8_tapeAt : Md := (yX8_tapeAt, cX8_tapeAt, 2, (some (.object "HarbourLights$Tape")))
def X8_isPlace : Md := (yX8_isPlace, cX8_isPlace, 1, (some .boolean))
def X8_isEnd : Md := (yX8_isEnd, cX8_isEnd, 1, (some .boolean))
def X8_isNumber : Md := (yX8_isNumber, cX8_isNumber, 1, (some .boolean))
def X8_lightsIn : Md := (yX8_lightsIn, cX8_lightsIn, 6, (some .int))
def X9_in : Md := (yX9_in, cX9_in, 6, (some .boolean))
def X9_has : Md := (yX9_has, cX9_has, 2, (some .boolean))
def X9_ones : Md := (yX9_ones, cX9_ones, 3, (some .int))
def X9_copyRow : Md := (yX9_copyRow, cX9_copyRow, 4, none)
def X9_anew : Md := (yX9_anew, cX9_anew, 3, none)
def X9_write : Md := (yX9_write, cX9_write, 2, (some .int))
def X9_erase : Md := (yX9_erase, cX9_erase, 2, (some .int))
def X9_isLetter : Md := (yX9_isLetter, cX9_isLetter, 1, (some .boolean))
def X9_isDigit : Md := (yX9_isDigit, cX9_isDigit, 1, (some .boolean))
def X9_nextToken : Md := (yX9_nextToken, cX9_nextToken, 1, none)
def X9_isWord : Md := (yX9_isWord, cX9_isWord, 4, (some .boolean))
def X9_number : Md := (yX9_number, cX9_number, 6, (some .boolean))
def X9_readsBeats : Md := (yX9_readsBeats, cX9_readsBeats, 4, (some .boolean))
def X9_wordHere : Md := (yX9_wordHere, cX9_wordHere, 1, (some .int))
def X9_readsRest : Md := (yX9_readsRest, cX9_readsRest, 2, (some .boolean))
def X9_does : Md := (yX9_does, cX9_does, 2, none)
def X9_readsClause : Md := (yX9_readsClause, cX9_readsClause, 2, (some .boolean))
def X9_reads : Md := (yX9_reads, cX9_reads, 3, (some .boolean))
def X9_fault : Md := (yX9_fault, cX9_fault, 1, (some .int))
def X9_office : Md := (yX9_office, cX9_office, 2, (some .int))
def X9_isRhythm : Md := (yX9_isRhythm, cX9_isRhythm, 2, (some .boolean))
def X9_isLight : Md := (yX9_isLight, cX9_isLight, 2, (some .boolean))
def X9_beatOf : Md := (yX9_beatOf, cX9_beatOf, 3, (some .int))
def X9_rowOf : Md := (yX9_rowOf, cX9_rowOf, 6, (some .int))
def X9_flashes : Md := (yX9_flashes, cX9_flashes, 2, (some .int))
def X9_leastTurn : Md := (yX9_leastTurn, cX9_leastTurn, 4, (some .int))
def X9_repeats : Md := (yX9_repeats, cX9_repeats, 3, (some .int))
def X9_rhythm : Md := (yX9_rhythm, cX9_rhythm, 3, (some .int))
def X9_isDimmed : Md := (yX9_isDimmed, cX9_isDimmed, 3, (some .boolean))
def X9_areLike : Md := (yX9_areLike, cX9_areLike, 9, (some .boolean))
def X9_like : Md := (yX9_like, cX9_like, 4, (some .int))
def X9_areNeighbours : Md := (yX9_areNeighbours, cX9_areNeighbours, 3, (some .boolean))
def X9_doClash : Md := (yX9_doClash, cX9_doClash, 3, (some .boolean))
def X9_thoseOf : Md := (yX9_thoseOf, cX9_thoseOf, 5, (some .int))
def X9_light : Md := (yX9_light, cX9_light, 3, (some .int))
def X9_become : Md := (yX9_become, cX9_become, 4, none)
def X9_lit : Md := (yX9_lit, cX9_lit, 4, (some .int))
def X9_dark : Md := (yX9_dark, cX9_dark, 3, (some .int))
def X9_move : Md := (yX9_move, cX9_move, 4, (some .int))
def X9_undo : Md := (yX9_undo, cX9_undo, 1, (some .int))
def X9_litOnes : Md := (yX9_litOnes, cX9_litOnes, 3, (some .int))
def X9_keep : Md := (yX9_keep, cX9_keep, 2, (some .int))
def X9_back : Md := (yX9_back, cX9_back, 2, (some .int))
def X9_layBars : Md := (yX9_layBars, cX9_layBars, 4, none)
def X9_isPlan : Md := (yX9_isPlan, cX9_isPlan, 3, (some .boolean))
def X9_layPlan : Md := (yX9_layPlan, cX9_layPlan, 9, (some .int))
def X9_plan : Md := (yX9_plan, cX9_plan, 4, (some .int))
def X9_most : Md := (yX9_most, cX9_most, 6, (some .int))
def X9_apart : Md := (yX9_apart, cX9_apart, 4, (some .int))
def X9_firstSet : Md := (yX9_firstSet, cX9_firstSet, 6, (some .long))
def X9_becomes : Md := (yX9_becomes, cX9_becomes, 9, (some .long))
def X9_statesOf : Md := (yX9_statesOf, cX9_statesOf, 9, (some .int))
def X9_isOfOne : Md := (yX9_isOfOne, cX9_isOfOne, 4, (some .boolean))
def X9_namedAt : Md := (yX9_namedAt, cX9_namedAt, 9, (some .int))
def X9_machine : Md := (yX9_machine, cX9_machine, 3, (some .int))
def X9_pairsLeft : Md := (yX9_pairsLeft, cX9_pairsLeft, 3, (some .int))
def X9_watch : Md := (yX9_watch, cX9_watch, 6, (some .int))
def X9_seePair : Md := (yX9_seePair, cX9_seePair, 4, none)
def X9_see : Md := (yX9_see, cX9_see, 3, (some .int))
def X9_left : Md := (yX9_left, cX9_left, 7, (some .int))
def X9_isTape : Md := (yX9_isTape, cX9_isTape, 1, (some .boolean))
def X9_isNumber : Md := (yX9_isNumber, cX9_isNumber, 1, (some .boolean))
def X9_tape : Md := (yX9_tape, cX9_tape, 2, (some .int))
def X9_putAt : Md := (yX9_putAt, cX9_putAt, 5, none)
def X9_drawAt : Md := (yX9_drawAt, cX9_drawAt, 5, (some .int))
def X9_put : Md := (yX9_put, cX9_put, 4, (some .int))
def X9_draw : Md := (yX9_draw, cX9_draw, 3, (some .int))
def X9_turn : Md := (yX9_turn, cX9_turn, 4, (some .int))
def X9_find : Md := (yX9_find, cX9_find, 8, (some .int))
def X9_strike : Md := (yX9_strike, cX9_strike, 5, (some .int))
def X9_load : Md := (yX9_load, cX9_load, 5, (some .int))
def X9_drop : Md := (yX9_drop, cX9_drop, 3, (some .int))
def X9_clashes : Md := (yX9_clashes, cX9_clashes, 4, (some .int))
def X9_allNumbers : Md := (yX9_allNumbers, cX9_allNumbers, 3, (some .int))
def X9_count : Md := (yX9_count, cX9_count, 2, (some .int))
def J6_bitCount_0f7a4 : Md := (yJ6_bitCount_0f7a4, cJ6_bitCount_0f7a4, 1, (some .int))
def J13_bitCount_95d88 : Md := (yJ13_bitCount_95d88, cJ13_bitCount_95d88, 2, (some .int))
theorem gw_sub {ws : List Cond} (ps : List Nat) (h : ws.map some = ps.map (fun i => lw_tbl[i]?)) (hg : ws.all goodWord = true) : ∀ w ∈ ws, w ∈ GW := by
  intro w hw
  refine inGW ?_ (List.all_eq_true.mp hg w hw)
  have h1 : some w ∈ ws.map some := List.mem_map.mpr ⟨w, hw, rfl⟩
  rw [h] at h1
  obtain ⟨i, -, hi⟩ := List.mem_map.mp h1
  exact List.mem_of_getElem? hi
theorem gwp {w : Cond} (i : Nat) (h : lw_tbl[i]? = some w) (hg : goodWord w = true) : w ∈ GW := inGW (List.mem_of_getElem? h) hg
theorem ckX0 : CK 0 RX0 TX0 6 tyX0 := ⟨rfl, gw_sub [177, 179, 181, 183, 185, 187] (by decide +kernel) (by decide +kernel), nmX0, tyX0_ok⟩
theorem ckX1 : CK 1 RX1 TX1 4 tyX1 := ⟨rfl, gw_sub [203, 205, 207, 209] (by decide +kernel) (by decide +kernel), nmX1, tyX1_ok⟩
theorem ckX2 : CK 2 RX2 TX2 4 tyX2 := ⟨rfl, gw_sub [142, 144, 146, 148] (by decide +kernel) (by decide +kernel), nmX2, tyX2_ok⟩
theorem ckX3 : CK 3 RX3 TX3 7 tyX3 := ⟨rfl, gw_sub [255, 257, 259, 261, 263, 265, 267] (by decide +kernel) (by decide +kernel), nmX3, tyX3_ok⟩
theorem ckX4 : CK 4 RX4 TX4 7 tyX4 := ⟨rfl, gw_sub [227, 229, 231, 233, 235, 237, 239] (by decide +kernel) (by decide +kernel), nmX4, tyX4_ok⟩
theorem ckX5 : CK 5 RX5 TX5 3 tyX5 := ⟨rfl, gw_sub [306, 308, 310] (by decide +kernel) (by decide +kernel), nmX5, tyX5_ok⟩
theorem ckX6 : CK 6 RX6 TX6 5 tyX6 := ⟨rfl, gw_sub [105, 107, 109, 111, 113] (by decide +kernel) (by decide +kernel), nmX6, tyX6_ok⟩
theorem ckX7 : CK 7 RX7 TX7 5 tyX7 := ⟨rfl, gw_sub [283, 285, 287, 289, 291] (by decide +kernel) (by decide +kernel), nmX7, tyX7_ok⟩
theorem ckX8 : CK 8 RX8 TX8 11 tyX8 := ⟨rfl, gw_sub [324, 326, 328, 330, 332, 334, 336, 338, 340, 342, 344] (by decide +kernel) (by decide +kernel), nmX8, tyX8_ok⟩
theorem ckX9 : CK 9 RX9 TX9 38 tyX9 := ⟨rfl, gw_sub [913, 915, 917, 919, 921, 923, 925, 927, 929, 931, 933, 935, 937, 939, 941, 943, 945, 947, 949, 951, 953, 955, 957, 959, 961, 963, 965, 967, 969, 971, 973, 975, 977, 979, 981, 983, 985, 987] (by decide +kernel) (by decide +kernel), nmX9, tyX9_ok⟩
theorem iw_155 : Cond.fieldLink RX0 26 (TX0 0).1 (TX0 0).2.1 (TX0 0).2.2.1 ∈ GW := gwp 155 (by decide +kernel) (by decide +kernel)
theorem fl_X0_26 : FL RX0 26 0 0 .int false := ⟨RX0, TX0, 6, tyX0, ckX0, by decide, iw_155, rfl, rfl⟩
theorem iw_160 : Cond.fieldLink RX0 30 (TX0 1).1 (TX0 1).2.1 (TX0 1).2.2.1 ∈ GW := gwp 160 (by decide +kernel) (by decide +kernel)
theorem fl_X0_30 : FL RX0 30 0 1 .int false := ⟨RX0, TX0, 6, tyX0, ckX0, by decide, iw_160, rfl, rfl⟩
theorem iw_163 : Cond.fieldLink RX0 33 (TX0 2).1 (TX0 2).2.1 (TX0 2).2.2.1 ∈ GW := gwp 163 (by decide +kernel) (by decide +kernel)
theorem fl_X0_33 : FL RX0 33 0 2 .int false := ⟨RX0, TX0, 6, tyX0, ckX0, by decide, iw_163, rfl, rfl⟩
theorem iw_168 : Cond.fieldLink RX0 36 (TX0 3).1 (TX0 3).2.1 (TX0 3).2.2.1 ∈ GW := gwp 168 (by decide +kernel) (by decide +kernel)
theorem fl_X0_36 : FL RX0 36 0 3 .int false := ⟨RX0, TX0, 6, tyX0, ckX0, by decide, iw_168, rfl, rfl⟩
theorem iw_174 : Cond.fieldLink RX0 18 (TX0 5).1 (TX0 5).2.1 (TX0 5).2.2.1 ∈ GW := gwp 174 (by decide +kernel) (by decide +kernel)
theorem fl_X0_18 : FL RX0 18 0 5 (.object "HarbourLights$Lights") true := ⟨RX0, TX0, 6, tyX0, ckX0, by decide, iw_174, rfl, rfl⟩
theorem iw_131 : Cond.fieldLink RX0 39 (TX2 0).1 (TX2 0).2.1 (TX2 0).2.2.1 ∈ GW := gwp 131 (by decide +kernel) (by decide +kernel)
theorem fl_X0_39 : FL RX0 39 2 0 .int false := ⟨RX2, TX2, 4, tyX2, ckX2, by decide, iw_131, rfl, rfl⟩
theorem iw_172 : Cond.fieldLink RX0 9 (TX0 4).1 (TX0 4).2.1 (TX0 4).2.2.1 ∈ GW := gwp 172 (by decide +kernel) (by decide +kernel)
theorem fl_X0_9 : FL RX0 9 0 4 (.array .int) true := ⟨RX0, TX0, 6, tyX0, ckX0, by decide, iw_172, rfl, rfl⟩
theorem iw_367 : Cond.methodLink RX0 40 arraycopyName ∈ GW := gwp 367 (by decide +kernel) (by decide +kernel)
theorem iw_369 : Cond.native arraycopyName ∈ GW := gwp 369 (by decide +kernel) (by decide +kernel)
theorem iw_368 : Cond.static arraycopyName ∈ GW := gwp 368 (by decide +kernel) (by decide +kernel)
theorem iw_76 : Cond.initialized "java/lang/System" ∈ GW := gwp 76 (by decide +kernel) (by decide +kernel)
theorem mv_X0_40 : AY RX0 40 := ⟨iw_367, iw_369, iw_368, iw_76⟩
theorem iw_370 : Cond.methodLink RX0 46 X2_become.1 ∈ GW := gwp 370 (by decide +kernel) (by decide +kernel)
theorem iw_371 : Cond.instanceMethod X2_become.1 ∈ GW := gwp 371 (by decide +kernel) (by decide +kernel)
theorem iw_372 : Cond.selects X2_become.1.cls X2_become.1 X2_become.1 ∈ GW := gwp 372 (by decide +kernel) (by decide +kernel)
theorem iw_69 : Cond.initialized X2_become.1.cls ∈ GW := gwp 69 (by decide +kernel) (by decide +kernel)
theorem iw_373 : Cond.code X2_become.1 X2_become.2.1 X2_become.2.2.1 X2_become.2.2.2 ∈ GW := gwp 373 (by decide +kernel) (by decide +kernel)
theorem mv_X0_46 : MV RX0 46 X2_become 1 := ⟨iw_370, iw_371, iw_372, iw_69, iw_373, ⟨by decide +kernel, by decide +kernel, by decide +kernel⟩, by decide⟩
theorem iw_560 : Cond.methodLink RX0 50 X0_hasRhythm.1 ∈ GW := gwp 560 (by decide +kernel) (by decide +kernel)
theorem iw_515 : Cond.instanceMethod X0_hasRhythm.1 ∈ GW := gwp 515 (by decide +kernel) (by decide +kernel)
theorem iw_516 : Cond.selects X0_hasRhythm.1.cls X0_hasRhythm.1 X0_hasRhythm.1 ∈ GW := gwp 516 (by decide +kernel) (by decide +kernel)
theorem iw_68 : Cond.initialized X0_hasRhythm.1.cls ∈ GW := gwp 68 (by decide +kernel) (by decide +kernel)
theorem iw_517 : Cond.code X0_hasRhythm.1 X0_hasRhythm.2.1 X0_hasRhythm.2.2.1 X0_hasRhythm.2.2.2 ∈ GW := gwp 517 (by decide +kernel) (by decide +kernel)
theorem mv_X0_50 : MV RX0 50 X0_hasRhythm 1 := ⟨iw_560, iw_515, iw_516, iw_68, iw_517, ⟨by decide +kernel, by decide +kernel, by decide +kernel⟩, by decide⟩
theorem iw_522 : Cond.methodLink RX0 54 X0_turned.1 ∈ GW := gwp 522 (by decide +kernel) (by decide +kernel)
theorem iw_523 : Cond.instanceMethod X0_turned.1 ∈ GW := gwp 523 (by decide +kernel) (by decide +kernel)
theorem iw_524 : Cond.selects X0_turned.1.cls X0_turned.1 X0_turned.1 ∈ GW := gwp 524 (by decide +kernel) (by decide +kernel)
theorem iw_525 : Cond.code X0_turned.1 X0_turned.2.1 X0_turned.2.2.1 X0_turned.2.2.2 ∈ GW := gwp 525 (by decide +kernel) (by decide +kernel)
theorem mv_X0_54 : MV RX0 54 X0_turned 2 := ⟨iw_522, iw_523, iw_524, iw_68, iw_525, ⟨by decide +kernel, by decide +kernel, by decide +kernel⟩, by decide⟩
theorem iw_561 : Cond.methodLink RX0 58 X0_shareRow.1 ∈ GW := gwp 561 (by decide +kernel) (by decide +kernel)
theorem iw_562 : Cond.instanceMethod X0_shareRow.1 ∈ GW := gwp 562 (by decide +kernel) (by decide +kernel)
theorem iw_563 : Cond.selects X0_shareRow.1.cls X0_shareRow.1 X0_shareRow.1 ∈ GW := gwp 563 (by decide +kernel) (by decide +kernel)
theorem iw_564 : Cond.code X0_shareRow.1 X0_shareRow.2.1 X0_shareRow.2.2.1 X0_shareRow.2.2.2 ∈ GW := gwp 564 (by decide +kernel) (by decide +kernel)
theorem mv_X0_58 : MV RX0 58 X0_shareRow 4 := ⟨iw_561, iw_562, iw_563, iw_68, iw_564, ⟨by decide +kernel, by decide +kernel, by decide +kernel⟩, by decide⟩
theorem iw_565 : Cond.methodLink RX0 62 J6_bitCount_0f7a4.1 ∈ GW := gwp 565 (by decide +kernel) (by decide +kernel)
theorem iw_532 : Cond.static J6_bitCount_0f7a4.1 ∈ GW := gwp 532 (by decide +kernel) (by decide +kernel)
theorem iw_81 : Cond.initialized J6_bitCount_0f7a4.1.cls ∈ GW := gwp 81 (by decide +kernel) (by decide +kernel)
theorem iw_533 : Cond.code J6_bitCount_0f7a4.1 J6_bitCount_0f7a4.2.1 J6_bitCount_0f7a4.2.2.1 J6_bitCount_0f7a4.2.2.2 ∈ GW := gwp 533 (by decide +kernel) (by decide +kernel)
theorem mv_X0_62 : MS RX0 62 J6_bitCount_0f7a4 1 := ⟨iw_565, iw_532, iw_81, iw_533, ⟨by decide +kernel, by decide +kernel, by decide +kernel⟩, by decide⟩
theorem iw_638 : Cond.methodLink RX0 68 X0_areSuch.1 ∈ GW := gwp 638 (by decide +kernel) (by decide +kernel)
theorem iw_557 : Cond.instanceMethod X0_areSuch.1 ∈ GW := gwp 557 (by decide +kernel) (by decide +kernel)
theorem iw_558 : Cond.selects X0_areSuch.1.cls X0_areSuch.1 X0_areSuch.1 ∈ GW := gwp 558 (by decide +kernel) (by decide +kernel)
theorem iw_559 : Cond.code X0_areSuch.1 X0_areSuch.2.1 X0_areSuch.2.2.1 X0_areSuch.2.2.2 ∈ GW := gwp 559 (by decide +kernel) (by decide +kernel)
theorem mv_X0_68 : MV RX0 68 X0_areSuch 3 := ⟨iw_638, iw_557, iw_558, iw_68, iw_559, ⟨by decide +kernel, by decide +kernel, by decide +kernel⟩, by decide⟩
theorem iw_198 : Cond.fieldLink RX1 21 (TX1 0).1 (TX1 0).2.1 (TX1 0).2.2.1 ∈ GW := gwp 198 (by decide +kernel) (by decide +kernel)
theorem fl_X1_21 : FL RX1 21 1 0 .int false := ⟨RX1, TX1, 4, tyX1, ckX1, by decide, iw_198, rfl, rfl⟩
theorem iw_582 : Cond.methodLink RX1 25 X1_forgetOldest.1 ∈ GW := gwp 582 (by decide +kernel) (by decide +kernel)
theorem iw_584 : Cond.instanceMethod X1_forgetOldest.1 ∈ GW := gwp 584 (by decide +kernel) (by decide +kernel)
theorem iw_14 : Cond.selects X1_forgetOldest.1.cls X1_forgetOldest.1 X1_forgetOldest.1 ∈ GW := gwp 14 (by decide +kernel) (by decide +kernel)
theorem iw_70 : Cond.initialized X1_forgetOldest.1.cls ∈ GW := gwp 70 (by decide +kernel) (by decide +kernel)
theorem iw_585 : Cond.code X1_forgetOldest.1 X1_forgetOldest.2.1 X1_forgetOldest.2.2.1 X1_forgetOldest.2.2.2 ∈ GW := gwp 585 (by decide +kernel) (by decide +kernel)
theorem mv_X1_25 : MV RX1 25 X1_forgetOldest 0 := ⟨iw_582, iw_584, iw_14, iw_70, iw_585, ⟨by decide +kernel, by decide +kernel, by decide +kernel⟩, by decide⟩
theorem iw_200 : Cond.fieldLink RX1 9 (TX1 1).1 (TX1 1).2.1 (TX1 1).2.2.1 ∈ GW := gwp 200 (by decide +kernel) (by decide +kernel)
theorem fl_X1_9 : FL RX1 9 1 1 (.array .int) true := ⟨RX1, TX1, 4, tyX1, ckX1, by decide, iw_200, rfl, rfl⟩
theorem iw_201 : Cond.fieldLink RX1 15 (TX1 2).1 (TX1 2).2.1 (TX1 2).2.2.1 ∈ GW := gwp 201 (by decide +kernel) (by decide +kernel)
theorem fl_X1_15 : FL RX1 15 1 2 (.array .int) true := ⟨RX1, TX1, 4, tyX1, ckX1, by decide, iw_201, rfl, rfl⟩
theorem iw_135 : Cond.fieldLink RX1 28 (TX2 1).1 (TX2 1).2.1 (TX2 1).2.2.1 ∈ GW := gwp 135 (by decide +kernel) (by decide +kernel)
theorem fl_X1_28 : FL RX1 28 2 1 (.array .int) true := ⟨RX2, TX2, 4, tyX2, ckX2, by decide, iw_135, rfl, rfl⟩
theorem iw_202 : Cond.fieldLink RX1 18 (TX1 3).1 (TX1 3).2.1 (TX1 3).2.2.1 ∈ GW := gwp 202 (by decide +kernel) (by decide +kernel)
theorem fl_X1_18 : FL RX1 18 1 3 (.array .int) true := ⟨RX1, TX1, 4, tyX1, ckX1, by decide, iw_202, rfl, rfl⟩
theorem iw_138 : Cond.fieldLink RX1 33 (TX2 2).1 (TX2 2).2.1 (TX2 2).2.2.1 ∈ GW := gwp 138 (by decide +kernel) (by decide +kernel)
theorem fl_X1_33 : FL RX1 33 2 2 (.array .int) true := ⟨RX2, TX2, 4, tyX2, ckX2, by decide, iw_138, rfl, rfl⟩
theorem iw_586 : Cond.methodLink RX1 36 arraycopyName ∈ GW := gwp 586 (by decide +kernel) (by decide +kernel)
theorem mv_X1_36 : AY RX1 36 := ⟨iw_586, iw_369, iw_368, iw_76⟩
theorem iw_129 : Cond.fieldLink RX2 18 (TX2 0).1 (TX2 0).2.1 (TX2 0).2.2.1 ∈ GW := gwp 129 (by decide +kernel) (by decide +kernel)
theorem fl_X2_18 : FL RX2 18 2 0 .int false := ⟨RX2, TX2, 4, tyX2, ckX2, by decide, iw_129, rfl, rfl⟩
theorem iw_134 : Cond.fieldLink RX2 9 (TX2 1).1 (TX2 1).2.1 (TX2 1).2.2.1 ∈ GW := gwp 134 (by decide +kernel) (by decide +kernel)
theorem fl_X2_9 : FL RX2 9 2 1 (.array .int) true := ⟨RX2, TX2, 4, tyX2, ckX2, by decide, iw_134, rfl, rfl⟩
theorem iw_374 : Cond.methodLink RX2 22 arraycopyName ∈ GW := gwp 374 (by decide +kernel) (by decide +kernel)
theorem mv_X2_22 : AY RX2 22 := ⟨iw_374, iw_369, iw_368, iw_76⟩
theorem iw_137 : Cond.fieldLink RX2 15 (TX2 2).1 (TX2 2).2.1 (TX2 2).2.2.1 ∈ GW := gwp 137 (by decide +kernel) (by decide +kernel)
theorem fl_X2_15 : FL RX2 15 2 2 (.array .int) true := ⟨RX2, TX2, 4, tyX2, ckX2, by decide, iw_137, rfl, rfl⟩
theorem iw_549 : Cond.methodLink RX2 28 Lib.Math.abs.name ∈ GW := gwp 549 (by decide +kernel) (by decide +kernel)
theorem iw_550 : Cond.static Lib.Math.abs.name ∈ GW := gwp 550 (by decide +kernel) (by decide +kernel)
theorem iw_82 : Cond.initialized "java/lang/Math" ∈ GW := gwp 82 (by decide +kernel) (by decide +kernel)
theorem iw_551 : Cond.code Lib.Math.abs.name Lib.Math.abs.code 1 (some .int) ∈ GW := gwp 551 (by decide +kernel) (by decide +kernel)
theorem mv_X2_28 : MA RX2 28 Lib.Math.abs.name Lib.Math.abs.code 1 := ⟨iw_549, iw_550, iw_82, iw_551⟩
theorem iw_158 : Cond.fieldLink RX2 34 (TX0 0).1 (TX0 0).2.1 (TX0 0).2.2.1 ∈ GW := gwp 158 (by decide +kernel) (by decide +kernel)
theorem fl_X2_34 : FL RX2 34 0 0 .int false := ⟨RX0, TX0, 6, tyX0, ckX0, by decide, iw_158, rfl, rfl⟩
theorem iw_166 : Cond.fieldLink RX2 39 (TX0 2).1 (TX0 2).2.1 (TX0 2).2.2.1 ∈ GW := gwp 166 (by decide +kernel) (by decide +kernel)
theorem fl_X2_39 : FL RX2 39 0 2 .int false := ⟨RX0, TX0, 6, tyX0, ckX0, by decide, iw_166, rfl, rfl⟩
theorem iw_683 : Cond.methodLink RX2 42 X0_hasFlash.1 ∈ GW := gwp 683 (by decide +kernel) (by decide +kernel)
theorem iw_684 : Cond.instanceMethod X0_hasFlash.1 ∈ GW := gwp 684 (by decide +kernel) (by decide +kernel)
theorem iw_685 : Cond.selects X0_hasFlash.1.cls X0_hasFlash.1 X0_hasFlash.1 ∈ GW := gwp 685 (by decide +kernel) (by decide +kernel)
theorem iw_686 : Cond.code X0_hasFlash.1 X0_hasFlash.2.1 X0_hasFlash.2.2.1 X0_hasFlash.2.2.2 ∈ GW := gwp 686 (by decide +kernel) (by decide +kernel)
theorem mv_X2_42 : MV RX2 42 X0_hasFlash 2 := ⟨iw_683, iw_684, iw_685, iw_68, iw_686, ⟨by decide +kernel, by decide +kernel, by decide +kernel⟩, by decide⟩
theorem iw_156 : Cond.fieldLink RX3 18 (TX0 0).1 (TX0 0).2.1 (TX0 0).2.2.1 ∈ GW := gwp 156 (by decide +kernel) (by decide +kernel)
theorem fl_X3_18 : FL RX3 18 0 0 .int false := ⟨RX0, TX0, 6, tyX0, ckX0, by decide, iw_156, rfl, rfl⟩
theorem iw_251 : Cond.fieldLink RX3 24 (TX3 3).1 (TX3 3).2.1 (TX3 3).2.2.1 ∈ GW := gwp 251 (by decide +kernel) (by decide +kernel)
theorem fl_X3_24 : FL RX3 24 3 3 .int false := ⟨RX3, TX3, 7, tyX3, ckX3, by decide, iw_251, rfl, rfl⟩
theorem iw_675 : Cond.methodLink RX3 25 X2_pairsSeenFrom.1 ∈ GW := gwp 675 (by decide +kernel) (by decide +kernel)
theorem iw_676 : Cond.instanceMethod X2_pairsSeenFrom.1 ∈ GW := gwp 676 (by decide +kernel) (by decide +kernel)
theorem iw_677 : Cond.selects X2_pairsSeenFrom.1.cls X2_pairsSeenFrom.1 X2_pairsSeenFrom.1 ∈ GW := gwp 677 (by decide +kernel) (by decide +kernel)
theorem iw_678 : Cond.code X2_pairsSeenFrom.1 X2_pairsSeenFrom.2.1 X2_pairsSeenFrom.2.2.1 X2_pairsSeenFrom.2.2.2 ∈ GW := gwp 678 (by decide +kernel) (by decide +kernel)
theorem mv_X3_25 : MV RX3 25 X2_pairsSeenFrom 2 := ⟨iw_675, iw_676, iw_677, iw_69, iw_678, ⟨by decide +kernel, by decide +kernel, by decide +kernel⟩, by decide⟩
theorem iw_252 : Cond.fieldLink RX3 31 (TX3 4).1 (TX3 4).2.1 (TX3 4).2.2.1 ∈ GW := gwp 252 (by decide +kernel) (by decide +kernel)
theorem fl_X3_31 : FL RX3 31 3 4 .long false := ⟨RX3, TX3, 7, tyX3, ckX3, by decide, iw_252, rfl, rfl⟩
theorem iw_679 : Cond.methodLink RX3 35 X2_pairsThatFlash.1 ∈ GW := gwp 679 (by decide +kernel) (by decide +kernel)
theorem iw_680 : Cond.instanceMethod X2_pairsThatFlash.1 ∈ GW := gwp 680 (by decide +kernel) (by decide +kernel)
theorem iw_681 : Cond.selects X2_pairsThatFlash.1.cls X2_pairsThatFlash.1 X2_pairsThatFlash.1 ∈ GW := gwp 681 (by decide +kernel) (by decide +kernel)
theorem iw_682 : Cond.code X2_pairsThatFlash.1 X2_pairsThatFlash.2.1 X2_pairsThatFlash.2.2.1 X2_pairsThatFlash.2.2.2 ∈ GW := gwp 682 (by decide +kernel) (by decide +kernel)
theorem mv_X3_35 : MV RX3 35 X2_pairsThatFlash 1 := ⟨iw_679, iw_680, iw_681, iw_69, iw_682, ⟨by decide +kernel, by decide +kernel, by decide +kernel⟩, by decide⟩
theorem iw_253 : Cond.fieldLink RX3 39 (TX3 5).1 (TX3 5).2.1 (TX3 5).2.2.1 ∈ GW := gwp 253 (by decide +kernel) (by decide +kernel)
theorem fl_X3_39 : FL RX3 39 3 5 .long false := ⟨RX3, TX3, 7, tyX3, ckX3, by decide, iw_253, rfl, rfl⟩
theorem iw_254 : Cond.fieldLink RX3 42 (TX3 6).1 (TX3 6).2.1 (TX3 6).2.2.1 ∈ GW := gwp 254 (by decide +kernel) (by decide +kernel)
theorem fl_X3_42 : FL RX3 42 3 6 .long false := ⟨RX3, TX3, 7, tyX3, ckX3, by decide, iw_254, rfl, rfl⟩
theorem iw_248 : Cond.fieldLink RX3 11 (TX3 0).1 (TX3 0).2.1 (TX3 0).2.2.1 ∈ GW := gwp 248 (by decide +kernel) (by decide +kernel)
theorem fl_X3_11 : FL RX3 11 3 0 (.array .long) true := ⟨RX3, TX3, 7, tyX3, ckX3, by decide, iw_248, rfl, rfl⟩
theorem iw_250 : Cond.fieldLink RX3 45 (TX3 2).1 (TX3 2).2.1 (TX3 2).2.2.1 ∈ GW := gwp 250 (by decide +kernel) (by decide +kernel)
theorem fl_X3_45 : FL RX3 45 3 2 .int false := ⟨RX3, TX3, 7, tyX3, ckX3, by decide, iw_250, rfl, rfl⟩
theorem iw_691 : Cond.methodLink RX3 48 X3_behind.1 ∈ GW := gwp 691 (by decide +kernel) (by decide +kernel)
theorem iw_693 : Cond.instanceMethod X3_behind.1 ∈ GW := gwp 693 (by decide +kernel) (by decide +kernel)
theorem iw_20 : Cond.selects X3_behind.1.cls X3_behind.1 X3_behind.1 ∈ GW := gwp 20 (by decide +kernel) (by decide +kernel)
theorem iw_72 : Cond.initialized X3_behind.1.cls ∈ GW := gwp 72 (by decide +kernel) (by decide +kernel)
theorem iw_694 : Cond.code X3_behind.1 X3_behind.2.1 X3_behind.2.2.1 X3_behind.2.2.2 ∈ GW := gwp 694 (by decide +kernel) (by decide +kernel)
theorem mv_X3_48 : MV RX3 48 X3_behind 2 := ⟨iw_691, iw_693, iw_20, iw_72, iw_694, ⟨by decide +kernel, by decide +kernel, by decide +kernel⟩, by decide⟩
theorem iw_696 : Cond.methodLink RX3 52 X3_addIfNew.1 ∈ GW := gwp 696 (by decide +kernel) (by decide +kernel)
theorem iw_698 : Cond.instanceMethod X3_addIfNew.1 ∈ GW := gwp 698 (by decide +kernel) (by decide +kernel)
theorem iw_21 : Cond.selects X3_addIfNew.1.cls X3_addIfNew.1 X3_addIfNew.1 ∈ GW := gwp 21 (by decide +kernel) (by decide +kernel)
theorem iw_699 : Cond.code X3_addIfNew.1 X3_addIfNew.2.1 X3_addIfNew.2.2.1 X3_addIfNew.2.2.2 ∈ GW := gwp 699 (by decide +kernel) (by decide +kernel)
theorem mv_X3_52 : MV RX3 52 X3_addIfNew 1 := ⟨iw_696, iw_698, iw_21, iw_72, iw_699, ⟨by decide +kernel, by decide +kernel, by decide +kernel⟩, by decide⟩
theorem iw_704 : Cond.methodLink RX3 56 X3_allNameOneLight.1 ∈ GW := gwp 704 (by decide +kernel) (by decide +kernel)
theorem iw_706 : Cond.instanceMethod X3_allNameOneLight.1 ∈ GW := gwp 706 (by decide +kernel) (by decide +kernel)
theorem iw_22 : Cond.selects X3_allNameOneLight.1.cls X3_allNameOneLight.1 X3_allNameOneLight.1 ∈ GW := gwp 22 (by decide +kernel) (by decide +kernel)
theorem iw_707 : Cond.code X3_allNameOneLight.1 X3_allNameOneLight.2.1 X3_allNameOneLight.2.2.1 X3_allNameOneLight.2.2.2 ∈ GW := gwp 707 (by decide +kernel) (by decide +kernel)
theorem mv_X3_56 : MV RX3 56 X3_allNameOneLight 0 := ⟨iw_704, iw_706, iw_22, iw_72, iw_707, ⟨by decide +kernel, by decide +kernel, by decide +kernel⟩, by decide⟩
theorem iw_713 : Cond.methodLink RX3 60 X3_takeAnyBeat.1 ∈ GW := gwp 713 (by decide +kernel) (by decide +kernel)
theorem iw_715 : Cond.instanceMethod X3_takeAnyBeat.1 ∈ GW := gwp 715 (by decide +kernel) (by decide +kernel)
theorem iw_23 : Cond.selects X3_takeAnyBeat.1.cls X3_takeAnyBeat.1 X3_takeAnyBeat.1 ∈ GW := gwp 23 (by decide +kernel) (by decide +kernel)
theorem iw_716 : Cond.code X3_takeAnyBeat.1 X3_takeAnyBeat.2.1 X3_takeAnyBeat.2.2.1 X3_takeAnyBeat.2.2.2 ∈ GW := gwp 716 (by decide +kernel) (by decide +kernel)
theorem mv_X3_60 : MV RX3 60 X3_takeAnyBeat 0 := ⟨iw_713, iw_715, iw_23, iw_72, iw_716, ⟨by decide +kernel, by decide +kernel, by decide +kernel⟩, by decide⟩
theorem iw_695 : Cond.constantLong RX3 63 (-1) ∈ GW := gwp 695 (by decide +kernel) (by decide +kernel)
theorem iw_249 : Cond.fieldLink RX3 15 (TX3 1).1 (TX3 1).2.1 (TX3 1).2.2.1 ∈ GW := gwp 249 (by decide +kernel) (by decide +kernel)
theorem fl_X3_15 : FL RX3 15 3 1 (.array .long) true := ⟨RX3, TX3, 7, tyX3, ckX3, by decide, iw_249, rfl, rfl⟩
theorem iw_717 : Cond.methodLink RX3 65 arraycopyName ∈ GW := gwp 717 (by decide +kernel) (by decide +kernel)
theorem mv_X3_65 : AY RX3 65 := ⟨iw_717, iw_369, iw_368, iw_76⟩
theorem iw_709 : Cond.static X8_lightsIn.1 ∈ GW := gwp 709 (by decide +kernel) (by decide +kernel)
theorem iw_66 : Cond.initialized X8_lightsIn.1.cls ∈ GW := gwp 66 (by decide +kernel) (by decide +kernel)
theorem iw_710 : Cond.code X8_lightsIn.1 X8_lightsIn.2.1 X8_lightsIn.2.2.1 X8_lightsIn.2.2.2 ∈ GW := gwp 710 (by decide +kernel) (by decide +kernel)
theorem mv_X3_71 : Cond.static X8_lightsIn.1 ∈ GW ∧ Cond.initialized X8_lightsIn.1.cls ∈ GW ∧ Cond.code X8_lightsIn.1 X8_lightsIn.2.1 X8_lightsIn.2.2.1 X8_lightsIn.2.2.2 ∈ GW ∧ (X8_lightsIn.1.cls ≠ "java/lang/invoke/MethodHandle" ∧ X8_lightsIn.1.cls ≠ "java/lang/invoke/VarHandle" ∧ (parseMethodDescriptor X8_lightsIn.1.desc).map (fun d => d.parameters.length) = some 1) ∧ X8_lightsIn.2.2.1 ≤ 21 := ⟨iw_709, iw_66, iw_710, ⟨by decide +kernel, by decide +kernel, by decide +kernel⟩, by decide⟩
theorem iw_712 : Cond.methodLink RX3 75 J6_bitCount_0f7a4.1 ∈ GW := gwp 712 (by decide +kernel) (by decide +kernel)
theorem mv_X3_75 : MS RX3 75 J6_bitCount_0f7a4 1 := ⟨iw_712, iw_532, iw_81, iw_533, ⟨by decide +kernel, by decide +kernel, by decide +kernel⟩, by decide⟩
theorem iw_630 : Cond.methodLink RX4 24 X4_compareRhythms.1 ∈ GW := gwp 630 (by decide +kernel) (by decide +kernel)
theorem iw_632 : Cond.instanceMethod X4_compareRhythms.1 ∈ GW := gwp 632 (by decide +kernel) (by decide +kernel)
theorem iw_16 : Cond.selects X4_compareRhythms.1.cls X4_compareRhythms.1 X4_compareRhythms.1 ∈ GW := gwp 16 (by decide +kernel) (by decide +kernel)
theorem iw_71 : Cond.initialized X4_compareRhythms.1.cls ∈ GW := gwp 71 (by decide +kernel) (by decide +kernel)
theorem iw_633 : Cond.code X4_compareRhythms.1 X4_compareRhythms.2.1 X4_compareRhythms.2.2.1 X4_compareRhythms.2.2.2 ∈ GW := gwp 633 (by decide +kernel) (by decide +kernel)
theorem mv_X4_24 : MV RX4 24 X4_compareRhythms 2 := ⟨iw_630, iw_632, iw_16, iw_71, iw_633, ⟨by decide +kernel, by decide +kernel, by decide +kernel⟩, by decide⟩
theorem iw_130 : Cond.fieldLink RX4 28 (TX2 0).1 (TX2 0).2.1 (TX2 0).2.2.1 ∈ GW := gwp 130 (by decide +kernel) (by decide +kernel)
theorem fl_X4_28 : FL RX4 28 2 0 .int false := ⟨RX2, TX2, 4, tyX2, ckX2, by decide, iw_130, rfl, rfl⟩
theorem iw_222 : Cond.fieldLink RX4 34 (TX4 2).1 (TX4 2).2.1 (TX4 2).2.2.1 ∈ GW := gwp 222 (by decide +kernel) (by decide +kernel)
theorem fl_X4_34 : FL RX4 34 4 2 .int false := ⟨RX4, TX4, 7, tyX4, ckX4, by decide, iw_222, rfl, rfl⟩
theorem iw_225 : Cond.fieldLink RX4 18 (TX4 5).1 (TX4 5).2.1 (TX4 5).2.2.1 ∈ GW := gwp 225 (by decide +kernel) (by decide +kernel)
theorem fl_X4_18 : FL RX4 18 4 5 (.array .int) true := ⟨RX4, TX4, 7, tyX4, ckX4, by decide, iw_225, rfl, rfl⟩
theorem iw_164 : Cond.fieldLink RX4 37 (TX0 2).1 (TX0 2).2.1 (TX0 2).2.2.1 ∈ GW := gwp 164 (by decide +kernel) (by decide +kernel)
theorem fl_X4_37 : FL RX4 37 0 2 .int false := ⟨RX0, TX0, 6, tyX0, ckX0, by decide, iw_164, rfl, rfl⟩
theorem iw_639 : Cond.methodLink RX4 42 X2_neighbours.1 ∈ GW := gwp 639 (by decide +kernel) (by decide +kernel)
theorem iw_546 : Cond.instanceMethod X2_neighbours.1 ∈ GW := gwp 546 (by decide +kernel) (by decide +kernel)
theorem iw_547 : Cond.selects X2_neighbours.1.cls X2_neighbours.1 X2_neighbours.1 ∈ GW := gwp 547 (by decide +kernel) (by decide +kernel)
theorem iw_548 : Cond.code X2_neighbours.1 X2_neighbours.2.1 X2_neighbours.2.2.1 X2_neighbours.2.2.2 ∈ GW := gwp 548 (by decide +kernel) (by decide +kernel)
theorem mv_X4_42 : MV RX4 42 X2_neighbours 2 := ⟨iw_639, iw_546, iw_547, iw_69, iw_548, ⟨by decide +kernel, by decide +kernel, by decide +kernel⟩, by decide⟩
theorem iw_218 : Cond.fieldLink RX4 45 (TX4 0).1 (TX4 0).2.1 (TX4 0).2.2.1 ∈ GW := gwp 218 (by decide +kernel) (by decide +kernel)
theorem fl_X4_45 : FL RX4 45 4 0 .int false := ⟨RX4, TX4, 7, tyX4, ckX4, by decide, iw_218, rfl, rfl⟩
theorem iw_640 : Cond.methodLink RX4 48 X4_chooseFrom.1 ∈ GW := gwp 640 (by decide +kernel) (by decide +kernel)
theorem iw_642 : Cond.instanceMethod X4_chooseFrom.1 ∈ GW := gwp 642 (by decide +kernel) (by decide +kernel)
theorem iw_17 : Cond.selects X4_chooseFrom.1.cls X4_chooseFrom.1 X4_chooseFrom.1 ∈ GW := gwp 17 (by decide +kernel) (by decide +kernel)
theorem iw_643 : Cond.code X4_chooseFrom.1 X4_chooseFrom.2.1 X4_chooseFrom.2.2.1 X4_chooseFrom.2.2.2 ∈ GW := gwp 643 (by decide +kernel) (by decide +kernel)
theorem mv_X4_48 : MV RX4 48 X4_chooseFrom 2 := ⟨iw_640, iw_642, iw_17, iw_71, iw_643, ⟨by decide +kernel, by decide +kernel, by decide +kernel⟩, by decide⟩
theorem iw_169 : Cond.fieldLink RX4 51 (TX0 3).1 (TX0 3).2.1 (TX0 3).2.2.1 ∈ GW := gwp 169 (by decide +kernel) (by decide +kernel)
theorem fl_X4_51 : FL RX4 51 0 3 .int false := ⟨RX0, TX0, 6, tyX0, ckX0, by decide, iw_169, rfl, rfl⟩
theorem iw_223 : Cond.fieldLink RX4 52 (TX4 3).1 (TX4 3).2.1 (TX4 3).2.2.1 ∈ GW := gwp 223 (by decide +kernel) (by decide +kernel)
theorem fl_X4_52 : FL RX4 52 4 3 .int false := ⟨RX4, TX4, 7, tyX4, ckX4, by decide, iw_223, rfl, rfl⟩
theorem iw_226 : Cond.fieldLink RX4 21 (TX4 6).1 (TX4 6).2.1 (TX4 6).2.2.1 ∈ GW := gwp 226 (by decide +kernel) (by decide +kernel)
theorem fl_X4_21 : FL RX4 21 4 6 (.array .int) true := ⟨RX4, TX4, 7, tyX4, ckX4, by decide, iw_226, rfl, rfl⟩
theorem iw_634 : Cond.methodLink RX4 55 X0_suchOnes.1 ∈ GW := gwp 634 (by decide +kernel) (by decide +kernel)
theorem iw_635 : Cond.instanceMethod X0_suchOnes.1 ∈ GW := gwp 635 (by decide +kernel) (by decide +kernel)
theorem iw_636 : Cond.selects X0_suchOnes.1.cls X0_suchOnes.1 X0_suchOnes.1 ∈ GW := gwp 636 (by decide +kernel) (by decide +kernel)
theorem iw_637 : Cond.code X0_suchOnes.1 X0_suchOnes.2.1 X0_suchOnes.2.2.1 X0_suchOnes.2.2.2 ∈ GW := gwp 637 (by decide +kernel) (by decide +kernel)
theorem mv_X4_55 : MV RX4 55 X0_suchOnes 2 := ⟨iw_634, iw_635, iw_636, iw_68, iw_637, ⟨by decide +kernel, by decide +kernel, by decide +kernel⟩, by decide⟩
theorem iw_644 : Cond.methodLink RX4 58 J6_bitCount_0f7a4.1 ∈ GW := gwp 644 (by decide +kernel) (by decide +kernel)
theorem mv_X4_58 : MS RX4 58 J6_bitCount_0f7a4 1 := ⟨iw_644, iw_532, iw_81, iw_533, ⟨by decide +kernel, by decide +kernel, by decide +kernel⟩, by decide⟩
theorem iw_224 : Cond.fieldLink RX4 15 (TX4 4).1 (TX4 4).2.1 (TX4 4).2.2.1 ∈ GW := gwp 224 (by decide +kernel) (by decide +kernel)
theorem fl_X4_15 : FL RX4 15 4 4 (.array .int) true := ⟨RX4, TX4, 7, tyX4, ckX4, by decide, iw_224, rfl, rfl⟩
theorem iw_220 : Cond.fieldLink RX4 9 (TX4 1).1 (TX4 1).2.1 (TX4 1).2.2.1 ∈ GW := gwp 220 (by decide +kernel) (by decide +kernel)
theorem fl_X4_9 : FL RX4 9 4 1 (.array .int) true := ⟨RX4, TX4, 7, tyX4, ckX4, by decide, iw_220, rfl, rfl⟩
theorem iw_645 : Cond.methodLink RX4 64 arraycopyName ∈ GW := gwp 645 (by decide +kernel) (by decide +kernel)
theorem mv_X4_64 : AY RX4 64 := ⟨iw_645, iw_369, iw_368, iw_76⟩
theorem iw_646 : Cond.methodLink RX4 70 X4_refusedFor.1 ∈ GW := gwp 646 (by decide +kernel) (by decide +kernel)
theorem iw_648 : Cond.instanceMethod X4_refusedFor.1 ∈ GW := gwp 648 (by decide +kernel) (by decide +kernel)
theorem iw_18 : Cond.selects X4_refusedFor.1.cls X4_refusedFor.1 X4_refusedFor.1 ∈ GW := gwp 18 (by decide +kernel) (by decide +kernel)
theorem iw_649 : Cond.code X4_refusedFor.1 X4_refusedFor.2.1 X4_refusedFor.2.2.1 X4_refusedFor.2.2.2 ∈ GW := gwp 649 (by decide +kernel) (by decide +kernel)
theorem mv_X4_70 : MV RX4 70 X4_refusedFor 1 := ⟨iw_646, iw_648, iw_18, iw_71, iw_649, ⟨by decide +kernel, by decide +kernel, by decide +kernel⟩, by decide⟩
theorem iw_658 : Cond.methodLink RX4 73 X4_isUnlike.1 ∈ GW := gwp 658 (by decide +kernel) (by decide +kernel)
theorem iw_660 : Cond.instanceMethod X4_isUnlike.1 ∈ GW := gwp 660 (by decide +kernel) (by decide +kernel)
theorem iw_19 : Cond.selects X4_isUnlike.1.cls X4_isUnlike.1 X4_isUnlike.1 ∈ GW := gwp 19 (by decide +kernel) (by decide +kernel)
theorem iw_661 : Cond.code X4_isUnlike.1 X4_isUnlike.2.1 X4_isUnlike.2.2.1 X4_isUnlike.2.2.2 ∈ GW := gwp 661 (by decide +kernel) (by decide +kernel)
theorem mv_X4_73 : MV RX4 73 X4_isUnlike 1 := ⟨iw_658, iw_660, iw_19, iw_71, iw_661, ⟨by decide +kernel, by decide +kernel, by decide +kernel⟩, by decide⟩
theorem iw_301 : Cond.fieldLink RX5 15 (TX5 0).1 (TX5 0).2.1 (TX5 0).2.2.1 ∈ GW := gwp 301 (by decide +kernel) (by decide +kernel)
theorem fl_X5_15 : FL RX5 15 5 0 .boolean false := ⟨RX5, TX5, 3, tyX5, ckX5, by decide, iw_301, rfl, rfl⟩
theorem iw_303 : Cond.fieldLink RX5 19 (TX5 1).1 (TX5 1).2.1 (TX5 1).2.2.1 ∈ GW := gwp 303 (by decide +kernel) (by decide +kernel)
theorem fl_X5_19 : FL RX5 19 5 1 .int false := ⟨RX5, TX5, 3, tyX5, ckX5, by decide, iw_303, rfl, rfl⟩
theorem iw_305 : Cond.fieldLink RX5 9 (TX5 2).1 (TX5 2).2.1 (TX5 2).2.2.1 ∈ GW := gwp 305 (by decide +kernel) (by decide +kernel)
theorem fl_X5_9 : FL RX5 9 5 2 (.array .int) true := ⟨RX5, TX5, 3, tyX5, ckX5, by decide, iw_305, rfl, rfl⟩
theorem iw_789 : Cond.methodLink RX5 23 arraycopyName ∈ GW := gwp 789 (by decide +kernel) (by decide +kernel)
theorem mv_X5_23 : AY RX5 23 := ⟨iw_789, iw_369, iw_368, iw_76⟩
theorem iw_823 : Cond.methodLink RX5 29 Lib.Math.max.name ∈ GW := gwp 823 (by decide +kernel) (by decide +kernel)
theorem iw_824 : Cond.static Lib.Math.max.name ∈ GW := gwp 824 (by decide +kernel) (by decide +kernel)
theorem iw_825 : Cond.code Lib.Math.max.name Lib.Math.max.code 2 (some .int) ∈ GW := gwp 825 (by decide +kernel) (by decide +kernel)
theorem mv_X5_29 : MA RX5 29 Lib.Math.max.name Lib.Math.max.code 2 := ⟨iw_823, iw_824, iw_82, iw_825⟩
theorem iw_830 : Cond.methodLink RX5 35 Lib.Math.min.name ∈ GW := gwp 830 (by decide +kernel) (by decide +kernel)
theorem iw_831 : Cond.static Lib.Math.min.name ∈ GW := gwp 831 (by decide +kernel) (by decide +kernel)
theorem iw_832 : Cond.code Lib.Math.min.name Lib.Math.min.code 2 (some .int) ∈ GW := gwp 832 (by decide +kernel) (by decide +kernel)
theorem mv_X5_35 : MA RX5 35 Lib.Math.min.name Lib.Math.min.code 2 := ⟨iw_830, iw_831, iw_82, iw_832⟩
theorem iw_98 : Cond.fieldLink RX6 15 (TX6 0).1 (TX6 0).2.1 (TX6 0).2.2.1 ∈ GW := gwp 98 (by decide +kernel) (by decide +kernel)
theorem fl_X6_15 : FL RX6 15 6 0 .int false := ⟨RX6, TX6, 5, tyX6, ckX6, by decide, iw_98, rfl, rfl⟩
theorem iw_102 : Cond.fieldLink RX6 9 (TX6 2).1 (TX6 2).2.1 (TX6 2).2.2.1 ∈ GW := gwp 102 (by decide +kernel) (by decide +kernel)
theorem fl_X6_9 : FL RX6 9 6 2 (.array .int) true := ⟨RX6, TX6, 5, tyX6, ckX6, by decide, iw_102, rfl, rfl⟩
theorem iw_104 : Cond.fieldLink RX6 19 (TX6 4).1 (TX6 4).2.1 (TX6 4).2.2.1 ∈ GW := gwp 104 (by decide +kernel) (by decide +kernel)
theorem fl_X6_19 : FL RX6 19 6 4 .int false := ⟨RX6, TX6, 5, tyX6, ckX6, by decide, iw_104, rfl, rfl⟩
theorem iw_379 : Cond.methodLink RX6 22 X6_advance.1 ∈ GW := gwp 379 (by decide +kernel) (by decide +kernel)
theorem iw_381 : Cond.instanceMethod X6_advance.1 ∈ GW := gwp 381 (by decide +kernel) (by decide +kernel)
theorem iw_0 : Cond.selects X6_advance.1.cls X6_advance.1 X6_advance.1 ∈ GW := gwp 0 (by decide +kernel) (by decide +kernel)
theorem iw_67 : Cond.initialized X6_advance.1.cls ∈ GW := gwp 67 (by decide +kernel) (by decide +kernel)
theorem iw_382 : Cond.code X6_advance.1 X6_advance.2.1 X6_advance.2.2.1 X6_advance.2.2.2 ∈ GW := gwp 382 (by decide +kernel) (by decide +kernel)
theorem mv_X6_22 : MV RX6 22 X6_advance 0 := ⟨iw_379, iw_381, iw_0, iw_67, iw_382, ⟨by decide +kernel, by decide +kernel, by decide +kernel⟩, by decide⟩
theorem iw_389 : Cond.methodLink RX6 25 X6_readClause.1 ∈ GW := gwp 389 (by decide +kernel) (by decide +kernel)
theorem iw_391 : Cond.instanceMethod X6_readClause.1 ∈ GW := gwp 391 (by decide +kernel) (by decide +kernel)
theorem iw_1 : Cond.selects X6_readClause.1.cls X6_readClause.1 X6_readClause.1 ∈ GW := gwp 1 (by decide +kernel) (by decide +kernel)
theorem iw_392 : Cond.code X6_readClause.1 X6_readClause.2.1 X6_readClause.2.2.1 X6_readClause.2.2.2 ∈ GW := gwp 392 (by decide +kernel) (by decide +kernel)
theorem mv_X6_25 : MV RX6 25 X6_readClause 1 := ⟨iw_389, iw_391, iw_1, iw_67, iw_392, ⟨by decide +kernel, by decide +kernel, by decide +kernel⟩, by decide⟩
theorem iw_103 : Cond.fieldLink RX6 29 (TX6 3).1 (TX6 3).2.1 (TX6 3).2.2.1 ∈ GW := gwp 103 (by decide +kernel) (by decide +kernel)
theorem fl_X6_29 : FL RX6 29 6 3 .int false := ⟨RX6, TX6, 5, tyX6, ckX6, by decide, iw_103, rfl, rfl⟩
theorem iw_100 : Cond.fieldLink RX6 32 (TX6 1).1 (TX6 1).2.1 (TX6 1).2.2.1 ∈ GW := gwp 100 (by decide +kernel) (by decide +kernel)
theorem fl_X6_32 : FL RX6 32 6 1 .int false := ⟨RX6, TX6, 5, tyX6, ckX6, by decide, iw_100, rfl, rfl⟩
theorem iw_394 : Cond.methodLink RX6 37 X6_isWord.1 ∈ GW := gwp 394 (by decide +kernel) (by decide +kernel)
theorem iw_396 : Cond.instanceMethod X6_isWord.1 ∈ GW := gwp 396 (by decide +kernel) (by decide +kernel)
theorem iw_2 : Cond.selects X6_isWord.1.cls X6_isWord.1 X6_isWord.1 ∈ GW := gwp 2 (by decide +kernel) (by decide +kernel)
theorem iw_397 : Cond.code X6_isWord.1 X6_isWord.2.1 X6_isWord.2.2.1 X6_isWord.2.2.2 ∈ GW := gwp 397 (by decide +kernel) (by decide +kernel)
theorem mv_X6_37 : MV RX6 37 X6_isWord 1 := ⟨iw_394, iw_396, iw_2, iw_67, iw_397, ⟨by decide +kernel, by decide +kernel, by decide +kernel⟩, by decide⟩
theorem iw_446 : Cond.methodLink RX6 41 X6_readBeats.1 ∈ GW := gwp 446 (by decide +kernel) (by decide +kernel)
theorem iw_448 : Cond.instanceMethod X6_readBeats.1 ∈ GW := gwp 448 (by decide +kernel) (by decide +kernel)
theorem iw_3 : Cond.selects X6_readBeats.1.cls X6_readBeats.1 X6_readBeats.1 ∈ GW := gwp 3 (by decide +kernel) (by decide +kernel)
theorem iw_449 : Cond.code X6_readBeats.1 X6_readBeats.2.1 X6_readBeats.2.2.1 X6_readBeats.2.2.2 ∈ GW := gwp 449 (by decide +kernel) (by decide +kernel)
theorem mv_X6_41 : MV RX6 41 X6_readBeats 1 := ⟨iw_446, iw_448, iw_3, iw_67, iw_449, ⟨by decide +kernel, by decide +kernel, by decide +kernel⟩, by decide⟩
theorem iw_456 : Cond.methodLink RX6 46 X6_readWindow.1 ∈ GW := gwp 456 (by decide +kernel) (by decide +kernel)
theorem iw_458 : Cond.instanceMethod X6_readWindow.1 ∈ GW := gwp 458 (by decide +kernel) (by decide +kernel)
theorem iw_5 : Cond.selects X6_readWindow.1.cls X6_readWindow.1 X6_readWindow.1 ∈ GW := gwp 5 (by decide +kernel) (by decide +kernel)
theorem iw_459 : Cond.code X6_readWindow.1 X6_readWindow.2.1 X6_readWindow.2.2.1 X6_readWindow.2.2.2 ∈ GW := gwp 459 (by decide +kernel) (by decide +kernel)
theorem mv_X6_46 : MV RX6 46 X6_readWindow 1 := ⟨iw_456, iw_458, iw_5, iw_67, iw_459, ⟨by decide +kernel, by decide +kernel, by decide +kernel⟩, by decide⟩
theorem iw_461 : Cond.methodLink RX6 51 X6_readSight.1 ∈ GW := gwp 461 (by decide +kernel) (by decide +kernel)
theorem iw_463 : Cond.instanceMethod X6_readSight.1 ∈ GW := gwp 463 (by decide +kernel) (by decide +kernel)
theorem iw_6 : Cond.selects X6_readSight.1.cls X6_readSight.1 X6_readSight.1 ∈ GW := gwp 6 (by decide +kernel) (by decide +kernel)
theorem iw_464 : Cond.code X6_readSight.1 X6_readSight.2.1 X6_readSight.2.2.1 X6_readSight.2.2.2 ∈ GW := gwp 464 (by decide +kernel) (by decide +kernel)
theorem mv_X6_51 : MV RX6 51 X6_readSight 1 := ⟨iw_461, iw_463, iw_6, iw_67, iw_464, ⟨by decide +kernel, by decide +kernel, by decide +kernel⟩, by decide⟩
theorem iw_170 : Cond.fieldLink RX6 56 (TX0 3).1 (TX0 3).2.1 (TX0 3).2.2.1 ∈ GW := gwp 170 (by decide +kernel) (by decide +kernel)
theorem fl_X6_56 : FL RX6 56 0 3 .int false := ⟨RX0, TX0, 6, tyX0, ckX0, by decide, iw_170, rfl, rfl⟩
theorem iw_466 : Cond.methodLink RX6 61 X6_readRhythm.1 ∈ GW := gwp 466 (by decide +kernel) (by decide +kernel)
theorem iw_468 : Cond.instanceMethod X6_readRhythm.1 ∈ GW := gwp 468 (by decide +kernel) (by decide +kernel)
theorem iw_7 : Cond.selects X6_readRhythm.1.cls X6_readRhythm.1 X6_readRhythm.1 ∈ GW := gwp 7 (by decide +kernel) (by decide +kernel)
theorem iw_469 : Cond.code X6_readRhythm.1 X6_readRhythm.2.1 X6_readRhythm.2.2.1 X6_readRhythm.2.2.2 ∈ GW := gwp 469 (by decide +kernel) (by decide +kernel)
theorem mv_X6_61 : MV RX6 61 X6_readRhythm 1 := ⟨iw_466, iw_468, iw_7, iw_67, iw_469, ⟨by decide +kernel, by decide +kernel, by decide +kernel⟩, by decide⟩
theorem iw_175 : Cond.fieldLink RX6 66 (TX0 5).1 (TX0 5).2.1 (TX0 5).2.2.1 ∈ GW := gwp 175 (by decide +kernel) (by decide +kernel)
theorem fl_X6_66 : FL RX6 66 0 5 (.object "HarbourLights$Lights") true := ⟨RX0, TX0, 6, tyX0, ckX0, by decide, iw_175, rfl, rfl⟩
theorem iw_132 : Cond.fieldLink RX6 70 (TX2 0).1 (TX2 0).2.1 (TX2 0).2.2.1 ∈ GW := gwp 132 (by decide +kernel) (by decide +kernel)
theorem fl_X6_70 : FL RX6 70 2 0 .int false := ⟨RX2, TX2, 4, tyX2, ckX2, by decide, iw_132, rfl, rfl⟩
theorem iw_475 : Cond.methodLink RX6 73 X6_readLight.1 ∈ GW := gwp 475 (by decide +kernel) (by decide +kernel)
theorem iw_477 : Cond.instanceMethod X6_readLight.1 ∈ GW := gwp 477 (by decide +kernel) (by decide +kernel)
theorem iw_8 : Cond.selects X6_readLight.1.cls X6_readLight.1 X6_readLight.1 ∈ GW := gwp 8 (by decide +kernel) (by decide +kernel)
theorem iw_478 : Cond.code X6_readLight.1 X6_readLight.2.1 X6_readLight.2.2.1 X6_readLight.2.2.2 ∈ GW := gwp 478 (by decide +kernel) (by decide +kernel)
theorem mv_X6_73 : MV RX6 73 X6_readLight 1 := ⟨iw_475, iw_477, iw_8, iw_67, iw_478, ⟨by decide +kernel, by decide +kernel, by decide +kernel⟩, by decide⟩
theorem iw_484 : Cond.methodLink RX6 78 X6_readLit.1 ∈ GW := gwp 484 (by decide +kernel) (by decide +kernel)
theorem iw_486 : Cond.instanceMethod X6_readLit.1 ∈ GW := gwp 486 (by decide +kernel) (by decide +kernel)
theorem iw_9 : Cond.selects X6_readLit.1.cls X6_readLit.1 X6_readLit.1 ∈ GW := gwp 9 (by decide +kernel) (by decide +kernel)
theorem iw_487 : Cond.code X6_readLit.1 X6_readLit.2.1 X6_readLit.2.2.1 X6_readLit.2.2.2 ∈ GW := gwp 487 (by decide +kernel) (by decide +kernel)
theorem mv_X6_78 : MV RX6 78 X6_readLit 1 := ⟨iw_484, iw_486, iw_9, iw_67, iw_487, ⟨by decide +kernel, by decide +kernel, by decide +kernel⟩, by decide⟩
theorem iw_450 : Cond.methodLink RX6 81 X6_readNumber.1 ∈ GW := gwp 450 (by decide +kernel) (by decide +kernel)
theorem iw_452 : Cond.instanceMethod X6_readNumber.1 ∈ GW := gwp 452 (by decide +kernel) (by decide +kernel)
theorem iw_4 : Cond.selects X6_readNumber.1.cls X6_readNumber.1 X6_readNumber.1 ∈ GW := gwp 4 (by decide +kernel) (by decide +kernel)
theorem iw_453 : Cond.code X6_readNumber.1 X6_readNumber.2.1 X6_readNumber.2.2.1 X6_readNumber.2.2.2 ∈ GW := gwp 453 (by decide +kernel) (by decide +kernel)
theorem mv_X6_81 : MV RX6 81 X6_readNumber 2 := ⟨iw_450, iw_452, iw_4, iw_67, iw_453, ⟨by decide +kernel, by decide +kernel, by decide +kernel⟩, by decide⟩
theorem iw_454 : Cond.methodLink RX6 85 X0_beginAnew.1 ∈ GW := gwp 454 (by decide +kernel) (by decide +kernel)
theorem iw_152 : Cond.instanceMethod X0_beginAnew.1 ∈ GW := gwp 152 (by decide +kernel) (by decide +kernel)
theorem iw_153 : Cond.selects X0_beginAnew.1.cls X0_beginAnew.1 X0_beginAnew.1 ∈ GW := gwp 153 (by decide +kernel) (by decide +kernel)
theorem iw_154 : Cond.code X0_beginAnew.1 X0_beginAnew.2.1 X0_beginAnew.2.2.1 X0_beginAnew.2.2.2 ∈ GW := gwp 154 (by decide +kernel) (by decide +kernel)
theorem mv_X6_85 : MV RX6 85 X0_beginAnew 1 := ⟨iw_454, iw_152, iw_153, iw_68, iw_154, ⟨by decide +kernel, by decide +kernel, by decide +kernel⟩, by decide⟩
theorem iw_157 : Cond.fieldLink RX6 89 (TX0 0).1 (TX0 0).2.1 (TX0 0).2.2.1 ∈ GW := gwp 157 (by decide +kernel) (by decide +kernel)
theorem fl_X6_89 : FL RX6 89 0 0 .int false := ⟨RX0, TX0, 6, tyX0, ckX0, by decide, iw_157, rfl, rfl⟩
theorem iw_161 : Cond.fieldLink RX6 91 (TX0 1).1 (TX0 1).2.1 (TX0 1).2.2.1 ∈ GW := gwp 161 (by decide +kernel) (by decide +kernel)
theorem fl_X6_91 : FL RX6 91 0 1 .int false := ⟨RX0, TX0, 6, tyX0, ckX0, by decide, iw_161, rfl, rfl⟩
theorem iw_165 : Cond.fieldLink RX6 93 (TX0 2).1 (TX0 2).2.1 (TX0 2).2.2.1 ∈ GW := gwp 165 (by decide +kernel) (by decide +kernel)
theorem fl_X6_93 : FL RX6 93 0 2 .int false := ⟨RX0, TX0, 6, tyX0, ckX0, by decide, iw_165, rfl, rfl⟩
theorem iw_470 : Cond.methodLink RX6 95 X0_addRhythm.1 ∈ GW := gwp 470 (by decide +kernel) (by decide +kernel)
theorem iw_471 : Cond.instanceMethod X0_addRhythm.1 ∈ GW := gwp 471 (by decide +kernel) (by decide +kernel)
theorem iw_472 : Cond.selects X0_addRhythm.1.cls X0_addRhythm.1 X0_addRhythm.1 ∈ GW := gwp 472 (by decide +kernel) (by decide +kernel)
theorem iw_473 : Cond.code X0_addRhythm.1 X0_addRhythm.2.1 X0_addRhythm.2.2.1 X0_addRhythm.2.2.2 ∈ GW := gwp 473 (by decide +kernel) (by decide +kernel)
theorem mv_X6_95 : MV RX6 95 X0_addRhythm 1 := ⟨iw_470, iw_471, iw_472, iw_68, iw_473, ⟨by decide +kernel, by decide +kernel, by decide +kernel⟩, by decide⟩
theorem iw_479 : Cond.methodLink RX6 98 X2_addAt.1 ∈ GW := gwp 479 (by decide +kernel) (by decide +kernel)
theorem iw_480 : Cond.instanceMethod X2_addAt.1 ∈ GW := gwp 480 (by decide +kernel) (by decide +kernel)
theorem iw_481 : Cond.selects X2_addAt.1.cls X2_addAt.1 X2_addAt.1 ∈ GW := gwp 481 (by decide +kernel) (by decide +kernel)
theorem iw_482 : Cond.code X2_addAt.1 X2_addAt.2.1 X2_addAt.2.2.1 X2_addAt.2.2.2 ∈ GW := gwp 482 (by decide +kernel) (by decide +kernel)
theorem mv_X6_98 : MV RX6 98 X2_addAt 1 := ⟨iw_479, iw_480, iw_481, iw_69, iw_482, ⟨by decide +kernel, by decide +kernel, by decide +kernel⟩, by decide⟩
theorem iw_140 : Cond.fieldLink RX6 101 (TX2 2).1 (TX2 2).2.1 (TX2 2).2.2.1 ∈ GW := gwp 140 (by decide +kernel) (by decide +kernel)
theorem fl_X6_101 : FL RX6 101 2 2 (.array .int) true := ⟨RX2, TX2, 4, tyX2, ckX2, by decide, iw_140, rfl, rfl⟩
theorem iw_386 : Cond.methodLink RX6 104 X6_isDigit.1 ∈ GW := gwp 386 (by decide +kernel) (by decide +kernel)
theorem iw_387 : Cond.static X6_isDigit.1 ∈ GW := gwp 387 (by decide +kernel) (by decide +kernel)
theorem iw_388 : Cond.code X6_isDigit.1 X6_isDigit.2.1 X6_isDigit.2.2.1 X6_isDigit.2.2.2 ∈ GW := gwp 388 (by decide +kernel) (by decide +kernel)
theorem mv_X6_104 : MS RX6 104 X6_isDigit 1 := ⟨iw_386, iw_387, iw_67, iw_388, ⟨by decide +kernel, by decide +kernel, by decide +kernel⟩, by decide⟩
theorem iw_383 : Cond.methodLink RX6 108 X6_isSmall.1 ∈ GW := gwp 383 (by decide +kernel) (by decide +kernel)
theorem iw_384 : Cond.static X6_isSmall.1 ∈ GW := gwp 384 (by decide +kernel) (by decide +kernel)
theorem iw_385 : Cond.code X6_isSmall.1 X6_isSmall.2.1 X6_isSmall.2.2.1 X6_isSmall.2.2.2 ∈ GW := gwp 385 (by decide +kernel) (by decide +kernel)
theorem mv_X6_108 : MS RX6 108 X6_isSmall 1 := ⟨iw_383, iw_384, iw_67, iw_385, ⟨by decide +kernel, by decide +kernel, by decide +kernel⟩, by decide⟩
theorem iw_277 : Cond.fieldLink RX7 9 (TX7 0).1 (TX7 0).2.1 (TX7 0).2.2.1 ∈ GW := gwp 277 (by decide +kernel) (by decide +kernel)
theorem fl_X7_9 : FL RX7 9 7 0 .boolean false := ⟨RX7, TX7, 5, tyX7, ckX7, by decide, iw_277, rfl, rfl⟩
theorem iw_279 : Cond.fieldLink RX7 15 (TX7 1).1 (TX7 1).2.1 (TX7 1).2.2.1 ∈ GW := gwp 279 (by decide +kernel) (by decide +kernel)
theorem fl_X7_15 : FL RX7 15 7 1 .boolean false := ⟨RX7, TX7, 5, tyX7, ckX7, by decide, iw_279, rfl, rfl⟩
theorem iw_280 : Cond.fieldLink RX7 18 (TX7 2).1 (TX7 2).2.1 (TX7 2).2.2.1 ∈ GW := gwp 280 (by decide +kernel) (by decide +kernel)
theorem fl_X7_18 : FL RX7 18 7 2 .long false := ⟨RX7, TX7, 5, tyX7, ckX7, by decide, iw_280, rfl, rfl⟩
theorem iw_281 : Cond.fieldLink RX7 22 (TX7 3).1 (TX7 3).2.1 (TX7 3).2.2.1 ∈ GW := gwp 281 (by decide +kernel) (by decide +kernel)
theorem fl_X7_22 : FL RX7 22 7 3 .long false := ⟨RX7, TX7, 5, tyX7, ckX7, by decide, iw_281, rfl, rfl⟩
theorem iw_282 : Cond.fieldLink RX7 25 (TX7 4).1 (TX7 4).2.1 (TX7 4).2.2.1 ∈ GW := gwp 282 (by decide +kernel) (by decide +kernel)
theorem fl_X7_25 : FL RX7 25 7 4 .int false := ⟨RX7, TX7, 5, tyX7, ckX7, by decide, iw_282, rfl, rfl⟩
theorem iw_731 : Cond.methodLink RX7 29 J13_bitCount_95d88.1 ∈ GW := gwp 731 (by decide +kernel) (by decide +kernel)
theorem iw_732 : Cond.static J13_bitCount_95d88.1 ∈ GW := gwp 732 (by decide +kernel) (by decide +kernel)
theorem iw_83 : Cond.initialized J13_bitCount_95d88.1.cls ∈ GW := gwp 83 (by decide +kernel) (by decide +kernel)
theorem iw_733 : Cond.code J13_bitCount_95d88.1 J13_bitCount_95d88.2.1 J13_bitCount_95d88.2.2.1 J13_bitCount_95d88.2.2.2 ∈ GW := gwp 733 (by decide +kernel) (by decide +kernel)
theorem mv_X7_29 : MS RX7 29 J13_bitCount_95d88 1 := ⟨iw_731, iw_732, iw_83, iw_733, ⟨by decide +kernel, by decide +kernel, by decide +kernel⟩, by decide⟩
theorem mv_X7_35 : Cond.static X8_lightsIn.1 ∈ GW ∧ Cond.initialized X8_lightsIn.1.cls ∈ GW ∧ Cond.code X8_lightsIn.1 X8_lightsIn.2.1 X8_lightsIn.2.2.1 X8_lightsIn.2.2.2 ∈ GW ∧ (X8_lightsIn.1.cls ≠ "java/lang/invoke/MethodHandle" ∧ X8_lightsIn.1.cls ≠ "java/lang/invoke/VarHandle" ∧ (parseMethodDescriptor X8_lightsIn.1.desc).map (fun d => d.parameters.length) = some 1) ∧ X8_lightsIn.2.2.1 ≤ 21 := ⟨iw_709, iw_66, iw_710, ⟨by decide +kernel, by decide +kernel, by decide +kernel⟩, by decide⟩
theorem iw_746 : Cond.methodLink RX7 38 X7_shiftNow.1 ∈ GW := gwp 746 (by decide +kernel) (by decide +kernel)
theorem iw_748 : Cond.instanceMethod X7_shiftNow.1 ∈ GW := gwp 748 (by decide +kernel) (by decide +kernel)
theorem iw_24 : Cond.selects X7_shiftNow.1.cls X7_shiftNow.1 X7_shiftNow.1 ∈ GW := gwp 24 (by decide +kernel) (by decide +kernel)
theorem iw_73 : Cond.initialized X7_shiftNow.1.cls ∈ GW := gwp 73 (by decide +kernel) (by decide +kernel)
theorem iw_749 : Cond.code X7_shiftNow.1 X7_shiftNow.2.1 X7_shiftNow.2.2.1 X7_shiftNow.2.2.2 ∈ GW := gwp 749 (by decide +kernel) (by decide +kernel)
theorem mv_X7_38 : MV RX7 38 X7_shiftNow 2 := ⟨iw_746, iw_748, iw_24, iw_73, iw_749, ⟨by decide +kernel, by decide +kernel, by decide +kernel⟩, by decide⟩
theorem iw_750 : Cond.methodLink RX7 42 X7_strikeOrForgive.1 ∈ GW := gwp 750 (by decide +kernel) (by decide +kernel)
theorem iw_752 : Cond.instanceMethod X7_strikeOrForgive.1 ∈ GW := gwp 752 (by decide +kernel) (by decide +kernel)
theorem iw_25 : Cond.selects X7_strikeOrForgive.1.cls X7_strikeOrForgive.1 X7_strikeOrForgive.1 ∈ GW := gwp 25 (by decide +kernel) (by decide +kernel)
theorem iw_753 : Cond.code X7_strikeOrForgive.1 X7_strikeOrForgive.2.1 X7_strikeOrForgive.2.2.1 X7_strikeOrForgive.2.2.2 ∈ GW := gwp 753 (by decide +kernel) (by decide +kernel)
theorem mv_X7_42 : MV RX7 42 X7_strikeOrForgive 2 := ⟨iw_750, iw_752, iw_25, iw_73, iw_753, ⟨by decide +kernel, by decide +kernel, by decide +kernel⟩, by decide⟩
theorem iw_313 : Cond.fieldLink RX8 12 (TX8 0).1 (TX8 0).2.1 (TX8 0).2.2.1 ∈ GW := gwp 313 (by decide +kernel) (by decide +kernel)
theorem fl_X8_12 : FL RX8 12 8 0 (.object "HarbourLights$Text") true := ⟨RX8, TX8, 11, tyX8, ckX8, by decide, iw_313, rfl, rfl⟩
theorem iw_99 : Cond.fieldLink RX8 74 (TX6 0).1 (TX6 0).2.1 (TX6 0).2.2.1 ∈ GW := gwp 99 (by decide +kernel) (by decide +kernel)
theorem fl_X8_74 : FL RX8 74 6 0 .int false := ⟨RX6, TX6, 5, tyX6, ckX6, by decide, iw_99, rfl, rfl⟩
theorem iw_351 : Cond.methodLink RX8 78 X6_append.1 ∈ GW := gwp 351 (by decide +kernel) (by decide +kernel)
theorem iw_352 : Cond.instanceMethod X6_append.1 ∈ GW := gwp 352 (by decide +kernel) (by decide +kernel)
theorem iw_353 : Cond.selects X6_append.1.cls X6_append.1 X6_append.1 ∈ GW := gwp 353 (by decide +kernel) (by decide +kernel)
theorem iw_354 : Cond.code X6_append.1 X6_append.2.1 X6_append.2.2.1 X6_append.2.2.2 ∈ GW := gwp 354 (by decide +kernel) (by decide +kernel)
theorem mv_X8_78 : MV RX8 78 X6_append 1 := ⟨iw_351, iw_352, iw_353, iw_67, iw_354, ⟨by decide +kernel, by decide +kernel, by decide +kernel⟩, by decide⟩
theorem iw_315 : Cond.fieldLink RX8 23 (TX8 2).1 (TX8 2).2.1 (TX8 2).2.2.1 ∈ GW := gwp 315 (by decide +kernel) (by decide +kernel)
theorem fl_X8_23 : FL RX8 23 8 2 (.object "HarbourLights$Book") true := ⟨RX8, TX8, 11, tyX8, ckX8, by decide, iw_315, rfl, rfl⟩
theorem iw_314 : Cond.fieldLink RX8 19 (TX8 1).1 (TX8 1).2.1 (TX8 1).2.2.1 ∈ GW := gwp 314 (by decide +kernel) (by decide +kernel)
theorem fl_X8_19 : FL RX8 19 8 1 (.object "HarbourLights$Book") true := ⟨RX8, TX8, 11, tyX8, ckX8, by decide, iw_314, rfl, rfl⟩
theorem iw_363 : Cond.methodLink RX8 82 X0_become.1 ∈ GW := gwp 363 (by decide +kernel) (by decide +kernel)
theorem iw_364 : Cond.instanceMethod X0_become.1 ∈ GW := gwp 364 (by decide +kernel) (by decide +kernel)
theorem iw_365 : Cond.selects X0_become.1.cls X0_become.1 X0_become.1 ∈ GW := gwp 365 (by decide +kernel) (by decide +kernel)
theorem iw_366 : Cond.code X0_become.1 X0_become.2.1 X0_become.2.2.1 X0_become.2.2.2 ∈ GW := gwp 366 (by decide +kernel) (by decide +kernel)
theorem mv_X8_82 : MV RX8 82 X0_become 1 := ⟨iw_363, iw_364, iw_365, iw_68, iw_366, ⟨by decide +kernel, by decide +kernel, by decide +kernel⟩, by decide⟩
theorem iw_375 : Cond.methodLink RX8 86 X6_readInto.1 ∈ GW := gwp 375 (by decide +kernel) (by decide +kernel)
theorem iw_376 : Cond.instanceMethod X6_readInto.1 ∈ GW := gwp 376 (by decide +kernel) (by decide +kernel)
theorem iw_377 : Cond.selects X6_readInto.1.cls X6_readInto.1 X6_readInto.1 ∈ GW := gwp 377 (by decide +kernel) (by decide +kernel)
theorem iw_378 : Cond.code X6_readInto.1 X6_readInto.2.1 X6_readInto.2.2.1 X6_readInto.2.2.2 ∈ GW := gwp 378 (by decide +kernel) (by decide +kernel)
theorem mv_X8_86 : MV RX8 86 X6_readInto 1 := ⟨iw_375, iw_376, iw_377, iw_67, iw_378, ⟨by decide +kernel, by decide +kernel, by decide +kernel⟩, by decide⟩
theorem iw_316 : Cond.fieldLink RX8 29 (TX8 3).1 (TX8 3).2.1 (TX8 3).2.2.1 ∈ GW := gwp 316 (by decide +kernel) (by decide +kernel)
theorem fl_X8_29 : FL RX8 29 8 3 (.object "HarbourLights$Lights") true := ⟨RX8, TX8, 11, tyX8, ckX8, by decide, iw_316, rfl, rfl⟩
theorem iw_176 : Cond.fieldLink RX8 90 (TX0 5).1 (TX0 5).2.1 (TX0 5).2.2.1 ∈ GW := gwp 176 (by decide +kernel) (by decide +kernel)
theorem fl_X8_90 : FL RX8 90 0 5 (.object "HarbourLights$Lights") true := ⟨RX0, TX0, 6, tyX0, ckX0, by decide, iw_176, rfl, rfl⟩
theorem iw_493 : Cond.methodLink RX8 93 X2_become.1 ∈ GW := gwp 493 (by decide +kernel) (by decide +kernel)
theorem mv_X8_93 : MV RX8 93 X2_become 1 := ⟨iw_493, iw_371, iw_372, iw_69, iw_373, ⟨by decide +kernel, by decide +kernel, by decide +kernel⟩, by decide⟩
theorem iw_494 : Cond.methodLink RX8 96 X8_forgetWhatWasDone.1 ∈ GW := gwp 494 (by decide +kernel) (by decide +kernel)
theorem iw_496 : Cond.instanceMethod X8_forgetWhatWasDone.1 ∈ GW := gwp 496 (by decide +kernel) (by decide +kernel)
theorem iw_10 : Cond.selects X8_forgetWhatWasDone.1.cls X8_forgetWhatWasDone.1 X8_forgetWhatWasDone.1 ∈ GW := gwp 10 (by decide +kernel) (by decide +kernel)
theorem iw_497 : Cond.code X8_forgetWhatWasDone.1 X8_forgetWhatWasDone.2.1 X8_forgetWhatWasDone.2.2.1 X8_forgetWhatWasDone.2.2.2 ∈ GW := gwp 497 (by decide +kernel) (by decide +kernel)
theorem mv_X8_96 : MV RX8 96 X8_forgetWhatWasDone 0 := ⟨iw_494, iw_496, iw_10, iw_66, iw_497, ⟨by decide +kernel, by decide +kernel, by decide +kernel⟩, by decide⟩
theorem iw_101 : Cond.fieldLink RX8 99 (TX6 1).1 (TX6 1).2.1 (TX6 1).2.2.1 ∈ GW := gwp 101 (by decide +kernel) (by decide +kernel)
theorem fl_X8_99 : FL RX8 99 6 1 .int false := ⟨RX6, TX6, 5, tyX6, ckX6, by decide, iw_101, rfl, rfl⟩
theorem iw_322 : Cond.fieldLink RX8 63 (TX8 9).1 (TX8 9).2.1 (TX8 9).2.2.1 ∈ GW := gwp 322 (by decide +kernel) (by decide +kernel)
theorem fl_X8_63 : FL RX8 63 8 9 (.object "HarbourLights$Watch") true := ⟨RX8, TX8, 11, tyX8, ckX8, by decide, iw_322, rfl, rfl⟩
theorem iw_498 : Cond.methodLink RX8 102 X7_end.1 ∈ GW := gwp 498 (by decide +kernel) (by decide +kernel)
theorem iw_499 : Cond.instanceMethod X7_end.1 ∈ GW := gwp 499 (by decide +kernel) (by decide +kernel)
theorem iw_500 : Cond.selects X7_end.1.cls X7_end.1 X7_end.1 ∈ GW := gwp 500 (by decide +kernel) (by decide +kernel)
theorem iw_501 : Cond.code X7_end.1 X7_end.2.1 X7_end.2.2.1 X7_end.2.2.2 ∈ GW := gwp 501 (by decide +kernel) (by decide +kernel)
theorem mv_X8_102 : MV RX8 102 X7_end 0 := ⟨iw_498, iw_499, iw_500, iw_73, iw_501, ⟨by decide +kernel, by decide +kernel, by decide +kernel⟩, by decide⟩
theorem iw_317 : Cond.fieldLink RX8 36 (TX8 4).1 (TX8 4).2.1 (TX8 4).2.2.1 ∈ GW := gwp 317 (by decide +kernel) (by decide +kernel)
theorem fl_X8_36 : FL RX8 36 8 4 (.object "HarbourLights$Done") true := ⟨RX8, TX8, 11, tyX8, ckX8, by decide, iw_317, rfl, rfl⟩
theorem iw_199 : Cond.fieldLink RX8 105 (TX1 0).1 (TX1 0).2.1 (TX1 0).2.2.1 ∈ GW := gwp 199 (by decide +kernel) (by decide +kernel)
theorem fl_X8_105 : FL RX8 105 1 0 .int false := ⟨RX1, TX1, 4, tyX1, ckX1, by decide, iw_199, rfl, rfl⟩
theorem iw_318 : Cond.fieldLink RX8 40 (TX8 5).1 (TX8 5).2.1 (TX8 5).2.2.1 ∈ GW := gwp 318 (by decide +kernel) (by decide +kernel)
theorem fl_X8_40 : FL RX8 40 8 5 (.object "HarbourLights$Lights") true := ⟨RX8, TX8, 11, tyX8, ckX8, by decide, iw_318, rfl, rfl⟩
theorem iw_141 : Cond.fieldLink RX8 108 (TX2 3).1 (TX2 3).2.1 (TX2 3).2.2.1 ∈ GW := gwp 141 (by decide +kernel) (by decide +kernel)
theorem fl_X8_108 : FL RX8 108 2 3 .boolean false := ⟨RX2, TX2, 4, tyX2, ckX2, by decide, iw_141, rfl, rfl⟩
theorem iw_319 : Cond.fieldLink RX8 43 (TX8 6).1 (TX8 6).2.1 (TX8 6).2.2.1 ∈ GW := gwp 319 (by decide +kernel) (by decide +kernel)
theorem fl_X8_43 : FL RX8 43 8 6 (.object "HarbourLights$Lights") true := ⟨RX8, TX8, 11, tyX8, ckX8, by decide, iw_319, rfl, rfl⟩
theorem iw_502 : Cond.methodLink RX8 112 X8_tapeAt.1 ∈ GW := gwp 502 (by decide +kernel) (by decide +kernel)
theorem iw_504 : Cond.instanceMethod X8_tapeAt.1 ∈ GW := gwp 504 (by decide +kernel) (by decide +kernel)
theorem iw_11 : Cond.selects X8_tapeAt.1.cls X8_tapeAt.1 X8_tapeAt.1 ∈ GW := gwp 11 (by decide +kernel) (by decide +kernel)
theorem iw_505 : Cond.code X8_tapeAt.1 X8_tapeAt.2.1 X8_tapeAt.2.2.1 X8_tapeAt.2.2.2 ∈ GW := gwp 505 (by decide +kernel) (by decide +kernel)
theorem mv_X8_112 : MV RX8 112 X8_tapeAt 1 := ⟨iw_502, iw_504, iw_11, iw_66, iw_505, ⟨by decide +kernel, by decide +kernel, by decide +kernel⟩, by decide⟩
theorem iw_506 : Cond.methodLink RX8 116 X5_vanish.1 ∈ GW := gwp 506 (by decide +kernel) (by decide +kernel)
theorem iw_507 : Cond.instanceMethod X5_vanish.1 ∈ GW := gwp 507 (by decide +kernel) (by decide +kernel)
theorem iw_508 : Cond.selects X5_vanish.1.cls X5_vanish.1 X5_vanish.1 ∈ GW := gwp 508 (by decide +kernel) (by decide +kernel)
theorem iw_74 : Cond.initialized X5_vanish.1.cls ∈ GW := gwp 74 (by decide +kernel) (by decide +kernel)
theorem iw_509 : Cond.code X5_vanish.1 X5_vanish.2.1 X5_vanish.2.2.1 X5_vanish.2.2.2 ∈ GW := gwp 509 (by decide +kernel) (by decide +kernel)
theorem mv_X8_116 : MV RX8 116 X5_vanish 0 := ⟨iw_506, iw_507, iw_508, iw_74, iw_509, ⟨by decide +kernel, by decide +kernel, by decide +kernel⟩, by decide⟩
theorem iw_514 : Cond.methodLink RX8 119 X0_hasRhythm.1 ∈ GW := gwp 514 (by decide +kernel) (by decide +kernel)
theorem mv_X8_119 : MV RX8 119 X0_hasRhythm 1 := ⟨iw_514, iw_515, iw_516, iw_68, iw_517, ⟨by decide +kernel, by decide +kernel, by decide +kernel⟩, by decide⟩
theorem iw_173 : Cond.fieldLink RX8 123 (TX0 4).1 (TX0 4).2.1 (TX0 4).2.2.1 ∈ GW := gwp 173 (by decide +kernel) (by decide +kernel)
theorem fl_X8_123 : FL RX8 123 0 4 (.array .int) true := ⟨RX0, TX0, 6, tyX0, ckX0, by decide, iw_173, rfl, rfl⟩
theorem iw_518 : Cond.methodLink RX8 127 X0_turnsToLeast.1 ∈ GW := gwp 518 (by decide +kernel) (by decide +kernel)
theorem iw_519 : Cond.instanceMethod X0_turnsToLeast.1 ∈ GW := gwp 519 (by decide +kernel) (by decide +kernel)
theorem iw_520 : Cond.selects X0_turnsToLeast.1.cls X0_turnsToLeast.1 X0_turnsToLeast.1 ∈ GW := gwp 520 (by decide +kernel) (by decide +kernel)
theorem iw_521 : Cond.code X0_turnsToLeast.1 X0_turnsToLeast.2.1 X0_turnsToLeast.2.2.1 X0_turnsToLeast.2.2.2 ∈ GW := gwp 521 (by decide +kernel) (by decide +kernel)
theorem mv_X8_127 : MV RX8 127 X0_turnsToLeast 1 := ⟨iw_518, iw_519, iw_520, iw_68, iw_521, ⟨by decide +kernel, by decide +kernel, by decide +kernel⟩, by decide⟩
theorem iw_526 : Cond.methodLink RX8 131 X0_turned.1 ∈ GW := gwp 526 (by decide +kernel) (by decide +kernel)
theorem mv_X8_131 : MV RX8 131 X0_turned 2 := ⟨iw_526, iw_523, iw_524, iw_68, iw_525, ⟨by decide +kernel, by decide +kernel, by decide +kernel⟩, by decide⟩
theorem iw_527 : Cond.methodLink RX8 135 X0_repeats.1 ∈ GW := gwp 527 (by decide +kernel) (by decide +kernel)
theorem iw_528 : Cond.instanceMethod X0_repeats.1 ∈ GW := gwp 528 (by decide +kernel) (by decide +kernel)
theorem iw_529 : Cond.selects X0_repeats.1.cls X0_repeats.1 X0_repeats.1 ∈ GW := gwp 529 (by decide +kernel) (by decide +kernel)
theorem iw_530 : Cond.code X0_repeats.1 X0_repeats.2.1 X0_repeats.2.2.1 X0_repeats.2.2.2 ∈ GW := gwp 530 (by decide +kernel) (by decide +kernel)
theorem mv_X8_135 : MV RX8 135 X0_repeats 1 := ⟨iw_527, iw_528, iw_529, iw_68, iw_530, ⟨by decide +kernel, by decide +kernel, by decide +kernel⟩, by decide⟩
theorem iw_531 : Cond.methodLink RX8 138 J6_bitCount_0f7a4.1 ∈ GW := gwp 531 (by decide +kernel) (by decide +kernel)
theorem mv_X8_138 : MS RX8 138 J6_bitCount_0f7a4 1 := ⟨iw_531, iw_532, iw_81, iw_533, ⟨by decide +kernel, by decide +kernel, by decide +kernel⟩, by decide⟩
theorem iw_541 : Cond.methodLink RX8 143 X2_hasLight.1 ∈ GW := gwp 541 (by decide +kernel) (by decide +kernel)
theorem iw_542 : Cond.instanceMethod X2_hasLight.1 ∈ GW := gwp 542 (by decide +kernel) (by decide +kernel)
theorem iw_543 : Cond.selects X2_hasLight.1.cls X2_hasLight.1 X2_hasLight.1 ∈ GW := gwp 543 (by decide +kernel) (by decide +kernel)
theorem iw_544 : Cond.code X2_hasLight.1 X2_hasLight.2.1 X2_hasLight.2.2.1 X2_hasLight.2.2.2 ∈ GW := gwp 544 (by decide +kernel) (by decide +kernel)
theorem mv_X8_143 : MV RX8 143 X2_hasLight 1 := ⟨iw_541, iw_542, iw_543, iw_69, iw_544, ⟨by decide +kernel, by decide +kernel, by decide +kernel⟩, by decide⟩
theorem iw_136 : Cond.fieldLink RX8 146 (TX2 1).1 (TX2 1).2.1 (TX2 1).2.2.1 ∈ GW := gwp 136 (by decide +kernel) (by decide +kernel)
theorem fl_X8_146 : FL RX8 146 2 1 (.array .int) true := ⟨RX2, TX2, 4, tyX2, ckX2, by decide, iw_136, rfl, rfl⟩
theorem iw_139 : Cond.fieldLink RX8 149 (TX2 2).1 (TX2 2).2.1 (TX2 2).2.2.1 ∈ GW := gwp 139 (by decide +kernel) (by decide +kernel)
theorem fl_X8_149 : FL RX8 149 2 2 (.array .int) true := ⟨RX2, TX2, 4, tyX2, ckX2, by decide, iw_139, rfl, rfl⟩
theorem iw_167 : Cond.fieldLink RX8 152 (TX0 2).1 (TX0 2).2.1 (TX0 2).2.2.1 ∈ GW := gwp 167 (by decide +kernel) (by decide +kernel)
theorem fl_X8_152 : FL RX8 152 0 2 .int false := ⟨RX0, TX0, 6, tyX0, ckX0, by decide, iw_167, rfl, rfl⟩
theorem iw_545 : Cond.methodLink RX8 155 X2_neighbours.1 ∈ GW := gwp 545 (by decide +kernel) (by decide +kernel)
theorem mv_X8_155 : MV RX8 155 X2_neighbours 2 := ⟨iw_545, iw_546, iw_547, iw_69, iw_548, ⟨by decide +kernel, by decide +kernel, by decide +kernel⟩, by decide⟩
theorem iw_552 : Cond.methodLink RX8 158 X8_clashing.1 ∈ GW := gwp 552 (by decide +kernel) (by decide +kernel)
theorem iw_554 : Cond.instanceMethod X8_clashing.1 ∈ GW := gwp 554 (by decide +kernel) (by decide +kernel)
theorem iw_12 : Cond.selects X8_clashing.1.cls X8_clashing.1 X8_clashing.1 ∈ GW := gwp 12 (by decide +kernel) (by decide +kernel)
theorem iw_555 : Cond.code X8_clashing.1 X8_clashing.2.1 X8_clashing.2.2.1 X8_clashing.2.2.2 ∈ GW := gwp 555 (by decide +kernel) (by decide +kernel)
theorem mv_X8_158 : MV RX8 158 X8_clashing 1 := ⟨iw_552, iw_554, iw_12, iw_66, iw_555, ⟨by decide +kernel, by decide +kernel, by decide +kernel⟩, by decide⟩
theorem iw_133 : Cond.fieldLink RX8 161 (TX2 0).1 (TX2 0).2.1 (TX2 0).2.2.1 ∈ GW := gwp 133 (by decide +kernel) (by decide +kernel)
theorem fl_X8_161 : FL RX8 161 2 0 .int false := ⟨RX2, TX2, 4, tyX2, ckX2, by decide, iw_133, rfl, rfl⟩
theorem iw_556 : Cond.methodLink RX8 162 X0_areSuch.1 ∈ GW := gwp 556 (by decide +kernel) (by decide +kernel)
theorem mv_X8_162 : MV RX8 162 X0_areSuch 3 := ⟨iw_556, iw_557, iw_558, iw_68, iw_559, ⟨by decide +kernel, by decide +kernel, by decide +kernel⟩, by decide⟩
theorem iw_574 : Cond.methodLink RX8 166 X8_prepareChange.1 ∈ GW := gwp 574 (by decide +kernel) (by decide +kernel)
theorem iw_576 : Cond.instanceMethod X8_prepareChange.1 ∈ GW := gwp 576 (by decide +kernel) (by decide +kernel)
theorem iw_13 : Cond.selects X8_prepareChange.1.cls X8_prepareChange.1 X8_prepareChange.1 ∈ GW := gwp 13 (by decide +kernel) (by decide +kernel)
theorem iw_577 : Cond.code X8_prepareChange.1 X8_prepareChange.2.1 X8_prepareChange.2.2.1 X8_prepareChange.2.2.2 ∈ GW := gwp 577 (by decide +kernel) (by decide +kernel)
theorem mv_X8_166 : MV RX8 166 X8_prepareChange 1 := ⟨iw_574, iw_576, iw_13, iw_66, iw_577, ⟨by decide +kernel, by decide +kernel, by decide +kernel⟩, by decide⟩
theorem iw_595 : Cond.methodLink RX8 169 X8_isPlace.1 ∈ GW := gwp 595 (by decide +kernel) (by decide +kernel)
theorem iw_596 : Cond.static X8_isPlace.1 ∈ GW := gwp 596 (by decide +kernel) (by decide +kernel)
theorem iw_597 : Cond.code X8_isPlace.1 X8_isPlace.2.1 X8_isPlace.2.2.1 X8_isPlace.2.2.2 ∈ GW := gwp 597 (by decide +kernel) (by decide +kernel)
theorem mv_X8_169 : MS RX8 169 X8_isPlace 1 := ⟨iw_595, iw_596, iw_66, iw_597, ⟨by decide +kernel, by decide +kernel, by decide +kernel⟩, by decide⟩
theorem iw_578 : Cond.methodLink RX8 172 X1_remember.1 ∈ GW := gwp 578 (by decide +kernel) (by decide +kernel)
theorem iw_579 : Cond.instanceMethod X1_remember.1 ∈ GW := gwp 579 (by decide +kernel) (by decide +kernel)
theorem iw_580 : Cond.selects X1_remember.1.cls X1_remember.1 X1_remember.1 ∈ GW := gwp 580 (by decide +kernel) (by decide +kernel)
theorem iw_581 : Cond.code X1_remember.1 X1_remember.2.1 X1_remember.2.2.1 X1_remember.2.2.2 ∈ GW := gwp 581 (by decide +kernel) (by decide +kernel)
theorem mv_X8_172 : MV RX8 172 X1_remember 2 := ⟨iw_578, iw_579, iw_580, iw_70, iw_581, ⟨by decide +kernel, by decide +kernel, by decide +kernel⟩, by decide⟩
theorem iw_602 : Cond.methodLink RX8 176 X1_takeBack.1 ∈ GW := gwp 602 (by decide +kernel) (by decide +kernel)
theorem iw_603 : Cond.instanceMethod X1_takeBack.1 ∈ GW := gwp 603 (by decide +kernel) (by decide +kernel)
theorem iw_604 : Cond.selects X1_takeBack.1.cls X1_takeBack.1 X1_takeBack.1 ∈ GW := gwp 604 (by decide +kernel) (by decide +kernel)
theorem iw_605 : Cond.code X1_takeBack.1 X1_takeBack.2.1 X1_takeBack.2.2.1 X1_takeBack.2.2.2 ∈ GW := gwp 605 (by decide +kernel) (by decide +kernel)
theorem mv_X8_176 : MV RX8 176 X1_takeBack 1 := ⟨iw_602, iw_603, iw_604, iw_70, iw_605, ⟨by decide +kernel, by decide +kernel, by decide +kernel⟩, by decide⟩
theorem iw_610 : Cond.methodLink RX8 179 X8_keptAt.1 ∈ GW := gwp 610 (by decide +kernel) (by decide +kernel)
theorem iw_612 : Cond.instanceMethod X8_keptAt.1 ∈ GW := gwp 612 (by decide +kernel) (by decide +kernel)
theorem iw_15 : Cond.selects X8_keptAt.1.cls X8_keptAt.1 X8_keptAt.1 ∈ GW := gwp 15 (by decide +kernel) (by decide +kernel)
theorem iw_613 : Cond.code X8_keptAt.1 X8_keptAt.2.1 X8_keptAt.2.2.1 X8_keptAt.2.2.2 ∈ GW := gwp 613 (by decide +kernel) (by decide +kernel)
theorem mv_X8_179 : MV RX8 179 X8_keptAt 1 := ⟨iw_610, iw_612, iw_15, iw_66, iw_613, ⟨by decide +kernel, by decide +kernel, by decide +kernel⟩, by decide⟩
theorem iw_614 : Cond.methodLink RX8 183 X2_litOnes.1 ∈ GW := gwp 614 (by decide +kernel) (by decide +kernel)
theorem iw_615 : Cond.instanceMethod X2_litOnes.1 ∈ GW := gwp 615 (by decide +kernel) (by decide +kernel)
theorem iw_616 : Cond.selects X2_litOnes.1.cls X2_litOnes.1 X2_litOnes.1 ∈ GW := gwp 616 (by decide +kernel) (by decide +kernel)
theorem iw_617 : Cond.code X2_litOnes.1 X2_litOnes.2.1 X2_litOnes.2.2.1 X2_litOnes.2.2.2 ∈ GW := gwp 617 (by decide +kernel) (by decide +kernel)
theorem mv_X8_183 : MV RX8 183 X2_litOnes 0 := ⟨iw_614, iw_615, iw_616, iw_69, iw_617, ⟨by decide +kernel, by decide +kernel, by decide +kernel⟩, by decide⟩
theorem iw_320 : Cond.fieldLink RX8 49 (TX8 7).1 (TX8 7).2.1 (TX8 7).2.2.1 ∈ GW := gwp 320 (by decide +kernel) (by decide +kernel)
theorem fl_X8_49 : FL RX8 49 8 7 (.object "HarbourLights$Planner") true := ⟨RX8, TX8, 11, tyX8, ckX8, by decide, iw_320, rfl, rfl⟩
theorem iw_626 : Cond.methodLink RX8 187 X4_makePlan.1 ∈ GW := gwp 626 (by decide +kernel) (by decide +kernel)
theorem iw_627 : Cond.instanceMethod X4_makePlan.1 ∈ GW := gwp 627 (by decide +kernel) (by decide +kernel)
theorem iw_628 : Cond.selects X4_makePlan.1.cls X4_makePlan.1 X4_makePlan.1 ∈ GW := gwp 628 (by decide +kernel) (by decide +kernel)
theorem iw_629 : Cond.code X4_makePlan.1 X4_makePlan.2.1 X4_makePlan.2.2.1 X4_makePlan.2.2.2 ∈ GW := gwp 629 (by decide +kernel) (by decide +kernel)
theorem mv_X8_187 : MV RX8 187 X4_makePlan 3 := ⟨iw_626, iw_627, iw_628, iw_71, iw_629, ⟨by decide +kernel, by decide +kernel, by decide +kernel⟩, by decide⟩
theorem iw_219 : Cond.fieldLink RX8 191 (TX4 0).1 (TX4 0).2.1 (TX4 0).2.2.1 ∈ GW := gwp 219 (by decide +kernel) (by decide +kernel)
theorem fl_X8_191 : FL RX8 191 4 0 .int false := ⟨RX4, TX4, 7, tyX4, ckX4, by decide, iw_219, rfl, rfl⟩
theorem iw_221 : Cond.fieldLink RX8 194 (TX4 1).1 (TX4 1).2.1 (TX4 1).2.2.1 ∈ GW := gwp 221 (by decide +kernel) (by decide +kernel)
theorem fl_X8_194 : FL RX8 194 4 1 (.array .int) true := ⟨RX4, TX4, 7, tyX4, ckX4, by decide, iw_221, rfl, rfl⟩
theorem iw_654 : Cond.methodLink RX8 197 X4_greatestUnlikeSet.1 ∈ GW := gwp 654 (by decide +kernel) (by decide +kernel)
theorem iw_655 : Cond.instanceMethod X4_greatestUnlikeSet.1 ∈ GW := gwp 655 (by decide +kernel) (by decide +kernel)
theorem iw_656 : Cond.selects X4_greatestUnlikeSet.1.cls X4_greatestUnlikeSet.1 X4_greatestUnlikeSet.1 ∈ GW := gwp 656 (by decide +kernel) (by decide +kernel)
theorem iw_657 : Cond.code X4_greatestUnlikeSet.1 X4_greatestUnlikeSet.2.1 X4_greatestUnlikeSet.2.2.1 X4_greatestUnlikeSet.2.2.2 ∈ GW := gwp 657 (by decide +kernel) (by decide +kernel)
theorem mv_X8_197 : MV RX8 197 X4_greatestUnlikeSet 2 := ⟨iw_654, iw_655, iw_656, iw_71, iw_657, ⟨by decide +kernel, by decide +kernel, by decide +kernel⟩, by decide⟩
theorem iw_159 : Cond.fieldLink RX8 201 (TX0 0).1 (TX0 0).2.1 (TX0 0).2.2.1 ∈ GW := gwp 159 (by decide +kernel) (by decide +kernel)
theorem fl_X8_201 : FL RX8 201 0 0 .int false := ⟨RX0, TX0, 6, tyX0, ckX0, by decide, iw_159, rfl, rfl⟩
theorem iw_666 : Cond.methodLink RX8 204 X0_shareRow.1 ∈ GW := gwp 666 (by decide +kernel) (by decide +kernel)
theorem mv_X8_204 : MV RX8 204 X0_shareRow 4 := ⟨iw_666, iw_562, iw_563, iw_68, iw_564, ⟨by decide +kernel, by decide +kernel, by decide +kernel⟩, by decide⟩
theorem iw_321 : Cond.fieldLink RX8 56 (TX8 8).1 (TX8 8).2.1 (TX8 8).2.2.1 ∈ GW := gwp 321 (by decide +kernel) (by decide +kernel)
theorem fl_X8_56 : FL RX8 56 8 8 (.object "HarbourLights$Machine") true := ⟨RX8, TX8, 11, tyX8, ckX8, by decide, iw_321, rfl, rfl⟩
theorem iw_671 : Cond.methodLink RX8 208 X3_prepare.1 ∈ GW := gwp 671 (by decide +kernel) (by decide +kernel)
theorem iw_672 : Cond.instanceMethod X3_prepare.1 ∈ GW := gwp 672 (by decide +kernel) (by decide +kernel)
theorem iw_673 : Cond.selects X3_prepare.1.cls X3_prepare.1 X3_prepare.1 ∈ GW := gwp 673 (by decide +kernel) (by decide +kernel)
theorem iw_674 : Cond.code X3_prepare.1 X3_prepare.2.1 X3_prepare.2.2.1 X3_prepare.2.2.2 ∈ GW := gwp 674 (by decide +kernel) (by decide +kernel)
theorem mv_X8_208 : MV RX8 208 X3_prepare 3 := ⟨iw_671, iw_672, iw_673, iw_72, iw_674, ⟨by decide +kernel, by decide +kernel, by decide +kernel⟩, by decide⟩
theorem iw_687 : Cond.methodLink RX8 212 X3_states.1 ∈ GW := gwp 687 (by decide +kernel) (by decide +kernel)
theorem iw_688 : Cond.instanceMethod X3_states.1 ∈ GW := gwp 688 (by decide +kernel) (by decide +kernel)
theorem iw_689 : Cond.selects X3_states.1.cls X3_states.1 X3_states.1 ∈ GW := gwp 689 (by decide +kernel) (by decide +kernel)
theorem iw_690 : Cond.code X3_states.1 X3_states.2.1 X3_states.2.2.1 X3_states.2.2.2 ∈ GW := gwp 690 (by decide +kernel) (by decide +kernel)
theorem mv_X8_212 : MV RX8 212 X3_states 0 := ⟨iw_687, iw_688, iw_689, iw_72, iw_690, ⟨by decide +kernel, by decide +kernel, by decide +kernel⟩, by decide⟩
theorem iw_700 : Cond.methodLink RX8 215 X3_named.1 ∈ GW := gwp 700 (by decide +kernel) (by decide +kernel)
theorem iw_701 : Cond.instanceMethod X3_named.1 ∈ GW := gwp 701 (by decide +kernel) (by decide +kernel)
theorem iw_702 : Cond.selects X3_named.1.cls X3_named.1 X3_named.1 ∈ GW := gwp 702 (by decide +kernel) (by decide +kernel)
theorem iw_703 : Cond.code X3_named.1 X3_named.2.1 X3_named.2.2.1 X3_named.2.2.2 ∈ GW := gwp 703 (by decide +kernel) (by decide +kernel)
theorem mv_X8_215 : MV RX8 215 X3_named 0 := ⟨iw_700, iw_701, iw_702, iw_72, iw_703, ⟨by decide +kernel, by decide +kernel, by decide +kernel⟩, by decide⟩
theorem iw_722 : Cond.methodLink RX8 218 X2_pairsSeenFrom.1 ∈ GW := gwp 722 (by decide +kernel) (by decide +kernel)
theorem mv_X8_218 : MV RX8 218 X2_pairsSeenFrom 2 := ⟨iw_722, iw_676, iw_677, iw_69, iw_678, ⟨by decide +kernel, by decide +kernel, by decide +kernel⟩, by decide⟩
theorem iw_723 : Cond.methodLink RX8 222 X7_begin.1 ∈ GW := gwp 723 (by decide +kernel) (by decide +kernel)
theorem iw_724 : Cond.instanceMethod X7_begin.1 ∈ GW := gwp 724 (by decide +kernel) (by decide +kernel)
theorem iw_725 : Cond.selects X7_begin.1.cls X7_begin.1 X7_begin.1 ∈ GW := gwp 725 (by decide +kernel) (by decide +kernel)
theorem iw_726 : Cond.code X7_begin.1 X7_begin.2.1 X7_begin.2.2.1 X7_begin.2.2.2 ∈ GW := gwp 726 (by decide +kernel) (by decide +kernel)
theorem mv_X8_222 : MV RX8 222 X7_begin 2 := ⟨iw_723, iw_724, iw_725, iw_73, iw_726, ⟨by decide +kernel, by decide +kernel, by decide +kernel⟩, by decide⟩
theorem iw_727 : Cond.methodLink RX8 226 X7_size.1 ∈ GW := gwp 727 (by decide +kernel) (by decide +kernel)
theorem iw_728 : Cond.instanceMethod X7_size.1 ∈ GW := gwp 728 (by decide +kernel) (by decide +kernel)
theorem iw_729 : Cond.selects X7_size.1.cls X7_size.1 X7_size.1 ∈ GW := gwp 729 (by decide +kernel) (by decide +kernel)
theorem iw_730 : Cond.code X7_size.1 X7_size.2.1 X7_size.2.2.1 X7_size.2.2.2 ∈ GW := gwp 730 (by decide +kernel) (by decide +kernel)
theorem mv_X8_226 : MV RX8 226 X7_size 0 := ⟨iw_727, iw_728, iw_729, iw_73, iw_730, ⟨by decide +kernel, by decide +kernel, by decide +kernel⟩, by decide⟩
theorem iw_278 : Cond.fieldLink RX8 228 (TX7 0).1 (TX7 0).2.1 (TX7 0).2.2.1 ∈ GW := gwp 278 (by decide +kernel) (by decide +kernel)
theorem fl_X8_228 : FL RX8 228 7 0 .boolean false := ⟨RX7, TX7, 5, tyX7, ckX7, by decide, iw_278, rfl, rfl⟩
theorem iw_741 : Cond.methodLink RX8 231 X2_pairsThatFlash.1 ∈ GW := gwp 741 (by decide +kernel) (by decide +kernel)
theorem mv_X8_231 : MV RX8 231 X2_pairsThatFlash 1 := ⟨iw_741, iw_680, iw_681, iw_69, iw_682, ⟨by decide +kernel, by decide +kernel, by decide +kernel⟩, by decide⟩
theorem iw_742 : Cond.methodLink RX8 235 X7_takeBeat.1 ∈ GW := gwp 742 (by decide +kernel) (by decide +kernel)
theorem iw_743 : Cond.instanceMethod X7_takeBeat.1 ∈ GW := gwp 743 (by decide +kernel) (by decide +kernel)
theorem iw_744 : Cond.selects X7_takeBeat.1.cls X7_takeBeat.1 X7_takeBeat.1 ∈ GW := gwp 744 (by decide +kernel) (by decide +kernel)
theorem iw_745 : Cond.code X7_takeBeat.1 X7_takeBeat.2.1 X7_takeBeat.2.2.1 X7_takeBeat.2.2.2 ∈ GW := gwp 745 (by decide +kernel) (by decide +kernel)
theorem mv_X8_235 : MV RX8 235 X7_takeBeat 3 := ⟨iw_742, iw_743, iw_744, iw_73, iw_745, ⟨by decide +kernel, by decide +kernel, by decide +kernel⟩, by decide⟩
theorem iw_758 : Cond.methodLink RX8 239 X7_lights.1 ∈ GW := gwp 758 (by decide +kernel) (by decide +kernel)
theorem iw_759 : Cond.instanceMethod X7_lights.1 ∈ GW := gwp 759 (by decide +kernel) (by decide +kernel)
theorem iw_760 : Cond.selects X7_lights.1.cls X7_lights.1 X7_lights.1 ∈ GW := gwp 760 (by decide +kernel) (by decide +kernel)
theorem iw_761 : Cond.code X7_lights.1 X7_lights.2.1 X7_lights.2.2.1 X7_lights.2.2.2 ∈ GW := gwp 761 (by decide +kernel) (by decide +kernel)
theorem mv_X8_239 : MV RX8 239 X7_lights 0 := ⟨iw_758, iw_759, iw_760, iw_73, iw_761, ⟨by decide +kernel, by decide +kernel, by decide +kernel⟩, by decide⟩
theorem iw_763 : Cond.methodLink RX8 241 X7_pairAt.1 ∈ GW := gwp 763 (by decide +kernel) (by decide +kernel)
theorem iw_764 : Cond.instanceMethod X7_pairAt.1 ∈ GW := gwp 764 (by decide +kernel) (by decide +kernel)
theorem iw_765 : Cond.selects X7_pairAt.1.cls X7_pairAt.1 X7_pairAt.1 ∈ GW := gwp 765 (by decide +kernel) (by decide +kernel)
theorem iw_766 : Cond.code X7_pairAt.1 X7_pairAt.2.1 X7_pairAt.2.2.1 X7_pairAt.2.2.2 ∈ GW := gwp 766 (by decide +kernel) (by decide +kernel)
theorem mv_X8_241 : MV RX8 241 X7_pairAt 2 := ⟨iw_763, iw_764, iw_765, iw_73, iw_766, ⟨by decide +kernel, by decide +kernel, by decide +kernel⟩, by decide⟩
theorem iw_771 : Cond.methodLink RX8 244 X5_begin.1 ∈ GW := gwp 771 (by decide +kernel) (by decide +kernel)
theorem iw_772 : Cond.instanceMethod X5_begin.1 ∈ GW := gwp 772 (by decide +kernel) (by decide +kernel)
theorem iw_773 : Cond.selects X5_begin.1.cls X5_begin.1 X5_begin.1 ∈ GW := gwp 773 (by decide +kernel) (by decide +kernel)
theorem iw_774 : Cond.code X5_begin.1 X5_begin.2.1 X5_begin.2.2.1 X5_begin.2.2.2 ∈ GW := gwp 774 (by decide +kernel) (by decide +kernel)
theorem mv_X8_244 : MV RX8 244 X5_begin 0 := ⟨iw_771, iw_772, iw_773, iw_74, iw_774, ⟨by decide +kernel, by decide +kernel, by decide +kernel⟩, by decide⟩
theorem iw_779 : Cond.methodLink RX8 246 X8_isEnd.1 ∈ GW := gwp 779 (by decide +kernel) (by decide +kernel)
theorem iw_780 : Cond.static X8_isEnd.1 ∈ GW := gwp 780 (by decide +kernel) (by decide +kernel)
theorem iw_781 : Cond.code X8_isEnd.1 X8_isEnd.2.1 X8_isEnd.2.2.1 X8_isEnd.2.2.2 ∈ GW := gwp 781 (by decide +kernel) (by decide +kernel)
theorem mv_X8_246 : MS RX8 246 X8_isEnd 1 := ⟨iw_779, iw_780, iw_66, iw_781, ⟨by decide +kernel, by decide +kernel, by decide +kernel⟩, by decide⟩
theorem iw_782 : Cond.methodLink RX8 249 X8_isNumber.1 ∈ GW := gwp 782 (by decide +kernel) (by decide +kernel)
theorem iw_783 : Cond.static X8_isNumber.1 ∈ GW := gwp 783 (by decide +kernel) (by decide +kernel)
theorem iw_784 : Cond.code X8_isNumber.1 X8_isNumber.2.1 X8_isNumber.2.2.1 X8_isNumber.2.2.2 ∈ GW := gwp 784 (by decide +kernel) (by decide +kernel)
theorem mv_X8_249 : MS RX8 249 X8_isNumber 1 := ⟨iw_782, iw_783, iw_66, iw_784, ⟨by decide +kernel, by decide +kernel, by decide +kernel⟩, by decide⟩
theorem iw_302 : Cond.fieldLink RX8 252 (TX5 0).1 (TX5 0).2.1 (TX5 0).2.2.1 ∈ GW := gwp 302 (by decide +kernel) (by decide +kernel)
theorem fl_X8_252 : FL RX8 252 5 0 .boolean false := ⟨RX5, TX5, 3, tyX5, ckX5, by decide, iw_302, rfl, rfl⟩
theorem iw_304 : Cond.fieldLink RX8 255 (TX5 1).1 (TX5 1).2.1 (TX5 1).2.2.1 ∈ GW := gwp 304 (by decide +kernel) (by decide +kernel)
theorem fl_X8_255 : FL RX8 255 5 1 .int false := ⟨RX5, TX5, 3, tyX5, ckX5, by decide, iw_304, rfl, rfl⟩
theorem iw_785 : Cond.methodLink RX8 256 X5_addInFront.1 ∈ GW := gwp 785 (by decide +kernel) (by decide +kernel)
theorem iw_786 : Cond.instanceMethod X5_addInFront.1 ∈ GW := gwp 786 (by decide +kernel) (by decide +kernel)
theorem iw_787 : Cond.selects X5_addInFront.1.cls X5_addInFront.1 X5_addInFront.1 ∈ GW := gwp 787 (by decide +kernel) (by decide +kernel)
theorem iw_788 : Cond.code X5_addInFront.1 X5_addInFront.2.1 X5_addInFront.2.2.1 X5_addInFront.2.2.2 ∈ GW := gwp 788 (by decide +kernel) (by decide +kernel)
theorem mv_X8_256 : MV RX8 256 X5_addInFront 1 := ⟨iw_785, iw_786, iw_787, iw_74, iw_788, ⟨by decide +kernel, by decide +kernel, by decide +kernel⟩, by decide⟩
theorem iw_790 : Cond.methodLink RX8 259 X5_addBehind.1 ∈ GW := gwp 790 (by decide +kernel) (by decide +kernel)
theorem iw_791 : Cond.instanceMethod X5_addBehind.1 ∈ GW := gwp 791 (by decide +kernel) (by decide +kernel)
theorem iw_792 : Cond.selects X5_addBehind.1.cls X5_addBehind.1 X5_addBehind.1 ∈ GW := gwp 792 (by decide +kernel) (by decide +kernel)
theorem iw_793 : Cond.code X5_addBehind.1 X5_addBehind.2.1 X5_addBehind.2.2.1 X5_addBehind.2.2.2 ∈ GW := gwp 793 (by decide +kernel) (by decide +kernel)
theorem mv_X8_259 : MV RX8 259 X5_addBehind 1 := ⟨iw_790, iw_791, iw_792, iw_74, iw_793, ⟨by decide +kernel, by decide +kernel, by decide +kernel⟩, by decide⟩
theorem iw_798 : Cond.methodLink RX8 262 X5_takeFirst.1 ∈ GW := gwp 798 (by decide +kernel) (by decide +kernel)
theorem iw_799 : Cond.instanceMethod X5_takeFirst.1 ∈ GW := gwp 799 (by decide +kernel) (by decide +kernel)
theorem iw_800 : Cond.selects X5_takeFirst.1.cls X5_takeFirst.1 X5_takeFirst.1 ∈ GW := gwp 800 (by decide +kernel) (by decide +kernel)
theorem iw_801 : Cond.code X5_takeFirst.1 X5_takeFirst.2.1 X5_takeFirst.2.2.1 X5_takeFirst.2.2.2 ∈ GW := gwp 801 (by decide +kernel) (by decide +kernel)
theorem mv_X8_262 : MV RX8 262 X5_takeFirst 0 := ⟨iw_798, iw_799, iw_800, iw_74, iw_801, ⟨by decide +kernel, by decide +kernel, by decide +kernel⟩, by decide⟩
theorem iw_802 : Cond.methodLink RX8 265 X5_takeLast.1 ∈ GW := gwp 802 (by decide +kernel) (by decide +kernel)
theorem iw_803 : Cond.instanceMethod X5_takeLast.1 ∈ GW := gwp 803 (by decide +kernel) (by decide +kernel)
theorem iw_804 : Cond.selects X5_takeLast.1.cls X5_takeLast.1 X5_takeLast.1 ∈ GW := gwp 804 (by decide +kernel) (by decide +kernel)
theorem iw_805 : Cond.code X5_takeLast.1 X5_takeLast.2.1 X5_takeLast.2.2.1 X5_takeLast.2.2.2 ∈ GW := gwp 805 (by decide +kernel) (by decide +kernel)
theorem mv_X8_265 : MV RX8 265 X5_takeLast 0 := ⟨iw_802, iw_803, iw_804, iw_74, iw_805, ⟨by decide +kernel, by decide +kernel, by decide +kernel⟩, by decide⟩
theorem iw_806 : Cond.constant RX8 268 (50000) ∈ GW := gwp 806 (by decide +kernel) (by decide +kernel)
theorem iw_815 : Cond.methodLink RX8 269 X5_howMany.1 ∈ GW := gwp 815 (by decide +kernel) (by decide +kernel)
theorem iw_816 : Cond.instanceMethod X5_howMany.1 ∈ GW := gwp 816 (by decide +kernel) (by decide +kernel)
theorem iw_817 : Cond.selects X5_howMany.1.cls X5_howMany.1 X5_howMany.1 ∈ GW := gwp 817 (by decide +kernel) (by decide +kernel)
theorem iw_818 : Cond.code X5_howMany.1 X5_howMany.2.1 X5_howMany.2.2.1 X5_howMany.2.2.2 ∈ GW := gwp 818 (by decide +kernel) (by decide +kernel)
theorem mv_X8_269 : MV RX8 269 X5_howMany 1 := ⟨iw_815, iw_816, iw_817, iw_74, iw_818, ⟨by decide +kernel, by decide +kernel, by decide +kernel⟩, by decide⟩
theorem iw_819 : Cond.methodLink RX8 272 X5_greatest.1 ∈ GW := gwp 819 (by decide +kernel) (by decide +kernel)
theorem iw_820 : Cond.instanceMethod X5_greatest.1 ∈ GW := gwp 820 (by decide +kernel) (by decide +kernel)
theorem iw_821 : Cond.selects X5_greatest.1.cls X5_greatest.1 X5_greatest.1 ∈ GW := gwp 821 (by decide +kernel) (by decide +kernel)
theorem iw_822 : Cond.code X5_greatest.1 X5_greatest.2.1 X5_greatest.2.2.1 X5_greatest.2.2.2 ∈ GW := gwp 822 (by decide +kernel) (by decide +kernel)
theorem mv_X8_272 : MV RX8 272 X5_greatest 0 := ⟨iw_819, iw_820, iw_821, iw_74, iw_822, ⟨by decide +kernel, by decide +kernel, by decide +kernel⟩, by decide⟩
theorem iw_826 : Cond.methodLink RX8 275 X5_least.1 ∈ GW := gwp 826 (by decide +kernel) (by decide +kernel)
theorem iw_827 : Cond.instanceMethod X5_least.1 ∈ GW := gwp 827 (by decide +kernel) (by decide +kernel)
theorem iw_828 : Cond.selects X5_least.1.cls X5_least.1 X5_least.1 ∈ GW := gwp 828 (by decide +kernel) (by decide +kernel)
theorem iw_829 : Cond.code X5_least.1 X5_least.2.1 X5_least.2.2.1 X5_least.2.2.2 ∈ GW := gwp 829 (by decide +kernel) (by decide +kernel)
theorem mv_X8_275 : MV RX8 275 X5_least 0 := ⟨iw_826, iw_827, iw_828, iw_74, iw_829, ⟨by decide +kernel, by decide +kernel, by decide +kernel⟩, by decide⟩
theorem iw_837 : Cond.methodLink RX8 278 X5_removeAll.1 ∈ GW := gwp 837 (by decide +kernel) (by decide +kernel)
theorem iw_838 : Cond.instanceMethod X5_removeAll.1 ∈ GW := gwp 838 (by decide +kernel) (by decide +kernel)
theorem iw_839 : Cond.selects X5_removeAll.1.cls X5_removeAll.1 X5_removeAll.1 ∈ GW := gwp 839 (by decide +kernel) (by decide +kernel)
theorem iw_840 : Cond.code X5_removeAll.1 X5_removeAll.2.1 X5_removeAll.2.2.1 X5_removeAll.2.2.2 ∈ GW := gwp 840 (by decide +kernel) (by decide +kernel)
theorem mv_X8_278 : MV RX8 278 X5_removeAll 1 := ⟨iw_837, iw_838, iw_839, iw_74, iw_840, ⟨by decide +kernel, by decide +kernel, by decide +kernel⟩, by decide⟩
theorem iw_162 : Cond.fieldLink RX8 281 (TX0 1).1 (TX0 1).2.1 (TX0 1).2.2.1 ∈ GW := gwp 162 (by decide +kernel) (by decide +kernel)
theorem fl_X8_281 : FL RX8 281 0 1 .int false := ⟨RX0, TX0, 6, tyX0, ckX0, by decide, iw_162, rfl, rfl⟩
theorem iw_171 : Cond.fieldLink RX8 284 (TX0 3).1 (TX0 3).2.1 (TX0 3).2.2.1 ∈ GW := gwp 171 (by decide +kernel) (by decide +kernel)
theorem fl_X8_284 : FL RX8 284 0 3 .int false := ⟨RX0, TX0, 6, tyX0, ckX0, by decide, iw_171, rfl, rfl⟩
theorem iw_853 : Cond.methodLink RX8 285 X8_clashes.1 ∈ GW := gwp 853 (by decide +kernel) (by decide +kernel)
theorem iw_855 : Cond.instanceMethod X8_clashes.1 ∈ GW := gwp 855 (by decide +kernel) (by decide +kernel)
theorem iw_26 : Cond.selects X8_clashes.1.cls X8_clashes.1 X8_clashes.1 ∈ GW := gwp 26 (by decide +kernel) (by decide +kernel)
theorem iw_856 : Cond.code X8_clashes.1 X8_clashes.2.1 X8_clashes.2.2.1 X8_clashes.2.2.2 ∈ GW := gwp 856 (by decide +kernel) (by decide +kernel)
theorem mv_X8_285 : MV RX8 285 X8_clashes 0 := ⟨iw_853, iw_855, iw_26, iw_66, iw_856, ⟨by decide +kernel, by decide +kernel, by decide +kernel⟩, by decide⟩
theorem iw_857 : Cond.methodLink RX8 288 X8_numbersOnTapes.1 ∈ GW := gwp 857 (by decide +kernel) (by decide +kernel)
theorem iw_859 : Cond.instanceMethod X8_numbersOnTapes.1 ∈ GW := gwp 859 (by decide +kernel) (by decide +kernel)
theorem iw_27 : Cond.selects X8_numbersOnTapes.1.cls X8_numbersOnTapes.1 X8_numbersOnTapes.1 ∈ GW := gwp 27 (by decide +kernel) (by decide +kernel)
theorem iw_860 : Cond.code X8_numbersOnTapes.1 X8_numbersOnTapes.2.1 X8_numbersOnTapes.2.2.1 X8_numbersOnTapes.2.2.2 ∈ GW := gwp 860 (by decide +kernel) (by decide +kernel)
theorem mv_X8_288 : MV RX8 288 X8_numbersOnTapes 0 := ⟨iw_857, iw_859, iw_27, iw_66, iw_860, ⟨by decide +kernel, by decide +kernel, by decide +kernel⟩, by decide⟩
theorem iw_323 : Cond.fieldLink RX8 69 (TX8 10).1 (TX8 10).2.1 (TX8 10).2.2.1 ∈ GW := gwp 323 (by decide +kernel) (by decide +kernel)
theorem fl_X8_69 : FL RX8 69 8 10 (.array (.object "HarbourLights$Tape")) true := ⟨RX8, TX8, 11, tyX8, ckX8, by decide, iw_323, rfl, rfl⟩
theorem iw_711 : Cond.constantLong RX8 291 (255) ∈ GW := gwp 711 (by decide +kernel) (by decide +kernel)
theorem iw_875 : Cond.fieldLink RX9 7 (TX9 0).1 (TX9 0).2.1 (TX9 0).2.2.1 ∈ GW := gwp 875 (by decide +kernel) (by decide +kernel)
theorem fl_X9_7 : FL RX9 7 9 0 (.array .int) true := ⟨RX9, TX9, 38, tyX9, ckX9, by decide, iw_875, rfl, rfl⟩
theorem iw_876 : Cond.fieldLink RX9 86 (TX9 1).1 (TX9 1).2.1 (TX9 1).2.2.1 ∈ GW := gwp 876 (by decide +kernel) (by decide +kernel)
theorem fl_X9_86 : FL RX9 86 9 1 .int false := ⟨RX9, TX9, 38, tyX9, ckX9, by decide, iw_876, rfl, rfl⟩
theorem iw_877 : Cond.fieldLink RX9 90 (TX9 2).1 (TX9 2).2.1 (TX9 2).2.2.1 ∈ GW := gwp 877 (by decide +kernel) (by decide +kernel)
theorem fl_X9_90 : FL RX9 90 9 2 .int false := ⟨RX9, TX9, 38, tyX9, ckX9, by decide, iw_877, rfl, rfl⟩
theorem iw_878 : Cond.fieldLink RX9 93 (TX9 3).1 (TX9 3).2.1 (TX9 3).2.2.1 ∈ GW := gwp 878 (by decide +kernel) (by decide +kernel)
theorem fl_X9_93 : FL RX9 93 9 3 .int false := ⟨RX9, TX9, 38, tyX9, ckX9, by decide, iw_878, rfl, rfl⟩
theorem iw_879 : Cond.fieldLink RX9 96 (TX9 4).1 (TX9 4).2.1 (TX9 4).2.2.1 ∈ GW := gwp 879 (by decide +kernel) (by decide +kernel)
theorem fl_X9_96 : FL RX9 96 9 4 .int false := ⟨RX9, TX9, 38, tyX9, ckX9, by decide, iw_879, rfl, rfl⟩
theorem iw_880 : Cond.fieldLink RX9 99 (TX9 5).1 (TX9 5).2.1 (TX9 5).2.2.1 ∈ GW := gwp 880 (by decide +kernel) (by decide +kernel)
theorem fl_X9_99 : FL RX9 99 9 5 .int false := ⟨RX9, TX9, 38, tyX9, ckX9, by decide, iw_880, rfl, rfl⟩
theorem iw_995 : Cond.constantLong RX9 102 (255) ∈ GW := gwp 995 (by decide +kernel) (by decide +kernel)
theorem iw_996 : Cond.methodLink RX9 104 X9_in.1 ∈ GW := gwp 996 (by decide +kernel) (by decide +kernel)
theorem iw_997 : Cond.static X9_in.1 ∈ GW := gwp 997 (by decide +kernel) (by decide +kernel)
theorem iw_75 : Cond.initialized X9_in.1.cls ∈ GW := gwp 75 (by decide +kernel) (by decide +kernel)
theorem iw_998 : Cond.code X9_in.1 X9_in.2.1 X9_in.2.2.1 X9_in.2.2.2 ∈ GW := gwp 998 (by decide +kernel) (by decide +kernel)
theorem mv_X9_104 : MS RX9 104 X9_in 3 := ⟨iw_996, iw_997, iw_75, iw_998, ⟨by decide +kernel, by decide +kernel, by decide +kernel⟩, by decide⟩
theorem iw_885 : Cond.fieldLink RX9 108 (TX9 10).1 (TX9 10).2.1 (TX9 10).2.2.1 ∈ GW := gwp 885 (by decide +kernel) (by decide +kernel)
theorem fl_X9_108 : FL RX9 108 9 10 .int false := ⟨RX9, TX9, 38, tyX9, ckX9, by decide, iw_885, rfl, rfl⟩
theorem iw_884 : Cond.fieldLink RX9 20 (TX9 9).1 (TX9 9).2.1 (TX9 9).2.2.1 ∈ GW := gwp 884 (by decide +kernel) (by decide +kernel)
theorem fl_X9_20 : FL RX9 20 9 9 (.array .int) true := ⟨RX9, TX9, 38, tyX9, ckX9, by decide, iw_884, rfl, rfl⟩
theorem iw_1018 : Cond.constantLong RX9 111 (97) ∈ GW := gwp 1018 (by decide +kernel) (by decide +kernel)
theorem iw_1019 : Cond.constantLong RX9 113 (122) ∈ GW := gwp 1019 (by decide +kernel) (by decide +kernel)
theorem iw_1023 : Cond.constantLong RX9 115 (48) ∈ GW := gwp 1023 (by decide +kernel) (by decide +kernel)
theorem iw_1024 : Cond.constantLong RX9 117 (57) ∈ GW := gwp 1024 (by decide +kernel) (by decide +kernel)
theorem iw_894 : Cond.fieldLink RX9 119 (TX9 19).1 (TX9 19).2.1 (TX9 19).2.2.1 ∈ GW := gwp 894 (by decide +kernel) (by decide +kernel)
theorem fl_X9_119 : FL RX9 119 9 19 .int false := ⟨RX9, TX9, 38, tyX9, ckX9, by decide, iw_894, rfl, rfl⟩
theorem iw_893 : Cond.fieldLink RX9 122 (TX9 18).1 (TX9 18).2.1 (TX9 18).2.2.1 ∈ GW := gwp 893 (by decide +kernel) (by decide +kernel)
theorem fl_X9_122 : FL RX9 122 9 18 .int false := ⟨RX9, TX9, 38, tyX9, ckX9, by decide, iw_893, rfl, rfl⟩
theorem iw_1015 : Cond.methodLink RX9 125 X9_isLetter.1 ∈ GW := gwp 1015 (by decide +kernel) (by decide +kernel)
theorem iw_1016 : Cond.static X9_isLetter.1 ∈ GW := gwp 1016 (by decide +kernel) (by decide +kernel)
theorem iw_1017 : Cond.code X9_isLetter.1 X9_isLetter.2.1 X9_isLetter.2.2.1 X9_isLetter.2.2.2 ∈ GW := gwp 1017 (by decide +kernel) (by decide +kernel)
theorem mv_X9_125 : MS RX9 125 X9_isLetter 1 := ⟨iw_1015, iw_1016, iw_75, iw_1017, ⟨by decide +kernel, by decide +kernel, by decide +kernel⟩, by decide⟩
theorem iw_1020 : Cond.methodLink RX9 129 X9_isDigit.1 ∈ GW := gwp 1020 (by decide +kernel) (by decide +kernel)
theorem iw_1021 : Cond.static X9_isDigit.1 ∈ GW := gwp 1021 (by decide +kernel) (by decide +kernel)
theorem iw_1022 : Cond.code X9_isDigit.1 X9_isDigit.2.1 X9_isDigit.2.2.1 X9_isDigit.2.2.2 ∈ GW := gwp 1022 (by decide +kernel) (by decide +kernel)
theorem mv_X9_129 : MS RX9 129 X9_isDigit 1 := ⟨iw_1020, iw_1021, iw_75, iw_1022, ⟨by decide +kernel, by decide +kernel, by decide +kernel⟩, by decide⟩
theorem iw_900 : Cond.fieldLink RX9 38 (TX9 25).1 (TX9 25).2.1 (TX9 25).2.2.1 ∈ GW := gwp 900 (by decide +kernel) (by decide +kernel)
theorem fl_X9_38 : FL RX9 38 9 25 (.array .int) true := ⟨RX9, TX9, 38, tyX9, ckX9, by decide, iw_900, rfl, rfl⟩
theorem iw_1011 : Cond.methodLink RX9 132 X9_nextToken.1 ∈ GW := gwp 1011 (by decide +kernel) (by decide +kernel)
theorem iw_1013 : Cond.instanceMethod X9_nextToken.1 ∈ GW := gwp 1013 (by decide +kernel) (by decide +kernel)
theorem iw_31 : Cond.selects X9_nextToken.1.cls X9_nextToken.1 X9_nextToken.1 ∈ GW := gwp 31 (by decide +kernel) (by decide +kernel)
theorem iw_1014 : Cond.code X9_nextToken.1 X9_nextToken.2.1 X9_nextToken.2.2.1 X9_nextToken.2.2.2 ∈ GW := gwp 1014 (by decide +kernel) (by decide +kernel)
theorem mv_X9_132 : MV RX9 132 X9_nextToken 0 := ⟨iw_1011, iw_1013, iw_31, iw_75, iw_1014, ⟨by decide +kernel, by decide +kernel, by decide +kernel⟩, by decide⟩
theorem iw_895 : Cond.fieldLink RX9 135 (TX9 20).1 (TX9 20).2.1 (TX9 20).2.2.1 ∈ GW := gwp 895 (by decide +kernel) (by decide +kernel)
theorem fl_X9_135 : FL RX9 135 9 20 .int false := ⟨RX9, TX9, 38, tyX9, ckX9, by decide, iw_895, rfl, rfl⟩
theorem iw_901 : Cond.fieldLink RX9 41 (TX9 26).1 (TX9 26).2.1 (TX9 26).2.2.1 ∈ GW := gwp 901 (by decide +kernel) (by decide +kernel)
theorem fl_X9_41 : FL RX9 41 9 26 (.array .int) true := ⟨RX9, TX9, 38, tyX9, ckX9, by decide, iw_901, rfl, rfl⟩
theorem iw_1033 : Cond.methodLink RX9 138 X9_isWord.1 ∈ GW := gwp 1033 (by decide +kernel) (by decide +kernel)
theorem iw_1035 : Cond.instanceMethod X9_isWord.1 ∈ GW := gwp 1035 (by decide +kernel) (by decide +kernel)
theorem iw_34 : Cond.selects X9_isWord.1.cls X9_isWord.1 X9_isWord.1 ∈ GW := gwp 34 (by decide +kernel) (by decide +kernel)
theorem iw_1036 : Cond.code X9_isWord.1 X9_isWord.2.1 X9_isWord.2.2.1 X9_isWord.2.2.2 ∈ GW := gwp 1036 (by decide +kernel) (by decide +kernel)
theorem mv_X9_138 : MV RX9 138 X9_isWord 1 := ⟨iw_1033, iw_1035, iw_34, iw_75, iw_1036, ⟨by decide +kernel, by decide +kernel, by decide +kernel⟩, by decide⟩
theorem iw_902 : Cond.fieldLink RX9 44 (TX9 27).1 (TX9 27).2.1 (TX9 27).2.2.1 ∈ GW := gwp 902 (by decide +kernel) (by decide +kernel)
theorem fl_X9_44 : FL RX9 44 9 27 (.array .int) true := ⟨RX9, TX9, 38, tyX9, ckX9, by decide, iw_902, rfl, rfl⟩
theorem iw_903 : Cond.fieldLink RX9 47 (TX9 28).1 (TX9 28).2.1 (TX9 28).2.2.1 ∈ GW := gwp 903 (by decide +kernel) (by decide +kernel)
theorem fl_X9_47 : FL RX9 47 9 28 (.array .int) true := ⟨RX9, TX9, 38, tyX9, ckX9, by decide, iw_903, rfl, rfl⟩
theorem iw_904 : Cond.fieldLink RX9 50 (TX9 29).1 (TX9 29).2.1 (TX9 29).2.2.1 ∈ GW := gwp 904 (by decide +kernel) (by decide +kernel)
theorem fl_X9_50 : FL RX9 50 9 29 (.array .int) true := ⟨RX9, TX9, 38, tyX9, ckX9, by decide, iw_904, rfl, rfl⟩
theorem iw_905 : Cond.fieldLink RX9 53 (TX9 30).1 (TX9 30).2.1 (TX9 30).2.2.1 ∈ GW := gwp 905 (by decide +kernel) (by decide +kernel)
theorem fl_X9_53 : FL RX9 53 9 30 (.array .int) true := ⟨RX9, TX9, 38, tyX9, ckX9, by decide, iw_905, rfl, rfl⟩
theorem iw_906 : Cond.fieldLink RX9 56 (TX9 31).1 (TX9 31).2.1 (TX9 31).2.2.1 ∈ GW := gwp 906 (by decide +kernel) (by decide +kernel)
theorem fl_X9_56 : FL RX9 56 9 31 (.array .int) true := ⟨RX9, TX9, 38, tyX9, ckX9, by decide, iw_906, rfl, rfl⟩
theorem iw_1041 : Cond.methodLink RX9 142 X9_number.1 ∈ GW := gwp 1041 (by decide +kernel) (by decide +kernel)
theorem iw_1043 : Cond.instanceMethod X9_number.1 ∈ GW := gwp 1043 (by decide +kernel) (by decide +kernel)
theorem iw_36 : Cond.selects X9_number.1.cls X9_number.1 X9_number.1 ∈ GW := gwp 36 (by decide +kernel) (by decide +kernel)
theorem iw_1044 : Cond.code X9_number.1 X9_number.2.1 X9_number.2.2.1 X9_number.2.2.2 ∈ GW := gwp 1044 (by decide +kernel) (by decide +kernel)
theorem mv_X9_142 : MV RX9 142 X9_number 3 := ⟨iw_1041, iw_1043, iw_36, iw_75, iw_1044, ⟨by decide +kernel, by decide +kernel, by decide +kernel⟩, by decide⟩
theorem iw_1045 : Cond.methodLink RX9 146 X9_readsBeats.1 ∈ GW := gwp 1045 (by decide +kernel) (by decide +kernel)
theorem iw_1047 : Cond.instanceMethod X9_readsBeats.1 ∈ GW := gwp 1047 (by decide +kernel) (by decide +kernel)
theorem iw_37 : Cond.selects X9_readsBeats.1.cls X9_readsBeats.1 X9_readsBeats.1 ∈ GW := gwp 37 (by decide +kernel) (by decide +kernel)
theorem iw_1048 : Cond.code X9_readsBeats.1 X9_readsBeats.2.1 X9_readsBeats.2.2.1 X9_readsBeats.2.2.2 ∈ GW := gwp 1048 (by decide +kernel) (by decide +kernel)
theorem mv_X9_146 : MV RX9 146 X9_readsBeats 0 := ⟨iw_1045, iw_1047, iw_37, iw_75, iw_1048, ⟨by decide +kernel, by decide +kernel, by decide +kernel⟩, by decide⟩
theorem iw_897 : Cond.fieldLink RX9 150 (TX9 22).1 (TX9 22).2.1 (TX9 22).2.2.1 ∈ GW := gwp 897 (by decide +kernel) (by decide +kernel)
theorem fl_X9_150 : FL RX9 150 9 22 .int false := ⟨RX9, TX9, 38, tyX9, ckX9, by decide, iw_897, rfl, rfl⟩
theorem iw_896 : Cond.fieldLink RX9 153 (TX9 21).1 (TX9 21).2.1 (TX9 21).2.2.1 ∈ GW := gwp 896 (by decide +kernel) (by decide +kernel)
theorem fl_X9_153 : FL RX9 153 9 21 .int false := ⟨RX9, TX9, 38, tyX9, ckX9, by decide, iw_896, rfl, rfl⟩
theorem iw_867 : Cond.methodLink RX9 78 X9_anew.1 ∈ GW := gwp 867 (by decide +kernel) (by decide +kernel)
theorem iw_869 : Cond.instanceMethod X9_anew.1 ∈ GW := gwp 869 (by decide +kernel) (by decide +kernel)
theorem iw_28 : Cond.selects X9_anew.1.cls X9_anew.1 X9_anew.1 ∈ GW := gwp 28 (by decide +kernel) (by decide +kernel)
theorem iw_870 : Cond.code X9_anew.1 X9_anew.2.1 X9_anew.2.2.1 X9_anew.2.2.2 ∈ GW := gwp 870 (by decide +kernel) (by decide +kernel)
theorem mv_X9_78 : MV RX9 78 X9_anew 1 := ⟨iw_867, iw_869, iw_28, iw_75, iw_870, ⟨by decide +kernel, by decide +kernel, by decide +kernel⟩, by decide⟩
theorem iw_881 : Cond.fieldLink RX9 13 (TX9 6).1 (TX9 6).2.1 (TX9 6).2.2.1 ∈ GW := gwp 881 (by decide +kernel) (by decide +kernel)
theorem fl_X9_13 : FL RX9 13 9 6 (.array .int) true := ⟨RX9, TX9, 38, tyX9, ckX9, by decide, iw_881, rfl, rfl⟩
theorem iw_1029 : Cond.methodLink RX9 156 X9_wordHere.1 ∈ GW := gwp 1029 (by decide +kernel) (by decide +kernel)
theorem iw_1031 : Cond.instanceMethod X9_wordHere.1 ∈ GW := gwp 1031 (by decide +kernel) (by decide +kernel)
theorem iw_33 : Cond.selects X9_wordHere.1.cls X9_wordHere.1 X9_wordHere.1 ∈ GW := gwp 33 (by decide +kernel) (by decide +kernel)
theorem iw_1032 : Cond.code X9_wordHere.1 X9_wordHere.2.1 X9_wordHere.2.2.1 X9_wordHere.2.2.2 ∈ GW := gwp 1032 (by decide +kernel) (by decide +kernel)
theorem mv_X9_156 : MV RX9 156 X9_wordHere 0 := ⟨iw_1029, iw_1031, iw_33, iw_75, iw_1032, ⟨by decide +kernel, by decide +kernel, by decide +kernel⟩, by decide⟩
theorem iw_1037 : Cond.methodLink RX9 160 X9_readsRest.1 ∈ GW := gwp 1037 (by decide +kernel) (by decide +kernel)
theorem iw_1039 : Cond.instanceMethod X9_readsRest.1 ∈ GW := gwp 1039 (by decide +kernel) (by decide +kernel)
theorem iw_35 : Cond.selects X9_readsRest.1.cls X9_readsRest.1 X9_readsRest.1 ∈ GW := gwp 35 (by decide +kernel) (by decide +kernel)
theorem iw_1040 : Cond.code X9_readsRest.1 X9_readsRest.2.1 X9_readsRest.2.2.1 X9_readsRest.2.2.2 ∈ GW := gwp 1040 (by decide +kernel) (by decide +kernel)
theorem mv_X9_160 : MV RX9 160 X9_readsRest 1 := ⟨iw_1037, iw_1039, iw_35, iw_75, iw_1040, ⟨by decide +kernel, by decide +kernel, by decide +kernel⟩, by decide⟩
theorem iw_899 : Cond.fieldLink RX9 163 (TX9 24).1 (TX9 24).2.1 (TX9 24).2.2.1 ∈ GW := gwp 899 (by decide +kernel) (by decide +kernel)
theorem fl_X9_163 : FL RX9 163 9 24 .boolean false := ⟨RX9, TX9, 38, tyX9, ckX9, by decide, iw_899, rfl, rfl⟩
theorem iw_1049 : Cond.methodLink RX9 167 X9_does.1 ∈ GW := gwp 1049 (by decide +kernel) (by decide +kernel)
theorem iw_1051 : Cond.instanceMethod X9_does.1 ∈ GW := gwp 1051 (by decide +kernel) (by decide +kernel)
theorem iw_38 : Cond.selects X9_does.1.cls X9_does.1 X9_does.1 ∈ GW := gwp 38 (by decide +kernel) (by decide +kernel)
theorem iw_1052 : Cond.code X9_does.1 X9_does.2.1 X9_does.2.2.1 X9_does.2.2.2 ∈ GW := gwp 1052 (by decide +kernel) (by decide +kernel)
theorem mv_X9_167 : MV RX9 167 X9_does 1 := ⟨iw_1049, iw_1051, iw_38, iw_75, iw_1052, ⟨by decide +kernel, by decide +kernel, by decide +kernel⟩, by decide⟩
theorem iw_898 : Cond.fieldLink RX9 170 (TX9 23).1 (TX9 23).2.1 (TX9 23).2.2.1 ∈ GW := gwp 898 (by decide +kernel) (by decide +kernel)
theorem fl_X9_170 : FL RX9 170 9 23 .int false := ⟨RX9, TX9, 38, tyX9, ckX9, by decide, iw_898, rfl, rfl⟩
theorem iw_1025 : Cond.methodLink RX9 173 X9_readsClause.1 ∈ GW := gwp 1025 (by decide +kernel) (by decide +kernel)
theorem iw_1027 : Cond.instanceMethod X9_readsClause.1 ∈ GW := gwp 1027 (by decide +kernel) (by decide +kernel)
theorem iw_32 : Cond.selects X9_readsClause.1.cls X9_readsClause.1 X9_readsClause.1 ∈ GW := gwp 32 (by decide +kernel) (by decide +kernel)
theorem iw_1028 : Cond.code X9_readsClause.1 X9_readsClause.2.1 X9_readsClause.2.2.1 X9_readsClause.2.2.2 ∈ GW := gwp 1028 (by decide +kernel) (by decide +kernel)
theorem mv_X9_173 : MV RX9 173 X9_readsClause 0 := ⟨iw_1025, iw_1027, iw_32, iw_75, iw_1028, ⟨by decide +kernel, by decide +kernel, by decide +kernel⟩, by decide⟩
theorem iw_1007 : Cond.methodLink RX9 176 X9_reads.1 ∈ GW := gwp 1007 (by decide +kernel) (by decide +kernel)
theorem iw_1009 : Cond.instanceMethod X9_reads.1 ∈ GW := gwp 1009 (by decide +kernel) (by decide +kernel)
theorem iw_30 : Cond.selects X9_reads.1.cls X9_reads.1 X9_reads.1 ∈ GW := gwp 30 (by decide +kernel) (by decide +kernel)
theorem iw_1010 : Cond.code X9_reads.1 X9_reads.2.1 X9_reads.2.2.1 X9_reads.2.2.2 ∈ GW := gwp 1010 (by decide +kernel) (by decide +kernel)
theorem mv_X9_176 : MV RX9 176 X9_reads 1 := ⟨iw_1007, iw_1009, iw_30, iw_75, iw_1010, ⟨by decide +kernel, by decide +kernel, by decide +kernel⟩, by decide⟩
theorem iw_871 : Cond.methodLink RX9 82 X9_copyRow.1 ∈ GW := gwp 871 (by decide +kernel) (by decide +kernel)
theorem iw_873 : Cond.instanceMethod X9_copyRow.1 ∈ GW := gwp 873 (by decide +kernel) (by decide +kernel)
theorem iw_29 : Cond.selects X9_copyRow.1.cls X9_copyRow.1 X9_copyRow.1 ∈ GW := gwp 29 (by decide +kernel) (by decide +kernel)
theorem iw_874 : Cond.code X9_copyRow.1 X9_copyRow.2.1 X9_copyRow.2.2.1 X9_copyRow.2.2.2 ∈ GW := gwp 874 (by decide +kernel) (by decide +kernel)
theorem mv_X9_82 : MV RX9 82 X9_copyRow 2 := ⟨iw_871, iw_873, iw_29, iw_75, iw_874, ⟨by decide +kernel, by decide +kernel, by decide +kernel⟩, by decide⟩
theorem iw_882 : Cond.fieldLink RX9 180 (TX9 7).1 (TX9 7).2.1 (TX9 7).2.2.1 ∈ GW := gwp 882 (by decide +kernel) (by decide +kernel)
theorem fl_X9_180 : FL RX9 180 9 7 .int false := ⟨RX9, TX9, 38, tyX9, ckX9, by decide, iw_882, rfl, rfl⟩
theorem iw_883 : Cond.fieldLink RX9 16 (TX9 8).1 (TX9 8).2.1 (TX9 8).2.2.1 ∈ GW := gwp 883 (by decide +kernel) (by decide +kernel)
theorem fl_X9_16 : FL RX9 16 9 8 (.array .boolean) true := ⟨RX9, TX9, 38, tyX9, ckX9, by decide, iw_883, rfl, rfl⟩
theorem iw_886 : Cond.fieldLink RX9 183 (TX9 11).1 (TX9 11).2.1 (TX9 11).2.2.1 ∈ GW := gwp 886 (by decide +kernel) (by decide +kernel)
theorem fl_X9_183 : FL RX9 183 9 11 .boolean false := ⟨RX9, TX9, 38, tyX9, ckX9, by decide, iw_886, rfl, rfl⟩
theorem iw_891 : Cond.fieldLink RX9 32 (TX9 16).1 (TX9 16).2.1 (TX9 16).2.2.1 ∈ GW := gwp 891 (by decide +kernel) (by decide +kernel)
theorem fl_X9_32 : FL RX9 32 9 16 (.array .int) true := ⟨RX9, TX9, 38, tyX9, ckX9, by decide, iw_891, rfl, rfl⟩
theorem iw_1073 : Cond.methodLink RX9 186 X9_beatOf.1 ∈ GW := gwp 1073 (by decide +kernel) (by decide +kernel)
theorem iw_1075 : Cond.instanceMethod X9_beatOf.1 ∈ GW := gwp 1075 (by decide +kernel) (by decide +kernel)
theorem iw_42 : Cond.selects X9_beatOf.1.cls X9_beatOf.1 X9_beatOf.1 ∈ GW := gwp 42 (by decide +kernel) (by decide +kernel)
theorem iw_1076 : Cond.code X9_beatOf.1 X9_beatOf.2.1 X9_beatOf.2.2.1 X9_beatOf.2.2.2 ∈ GW := gwp 1076 (by decide +kernel) (by decide +kernel)
theorem mv_X9_186 : MV RX9 186 X9_beatOf 2 := ⟨iw_1073, iw_1075, iw_42, iw_75, iw_1076, ⟨by decide +kernel, by decide +kernel, by decide +kernel⟩, by decide⟩
theorem iw_1085 : Cond.methodLink RX9 190 X9_ones.1 ∈ GW := gwp 1085 (by decide +kernel) (by decide +kernel)
theorem iw_1086 : Cond.static X9_ones.1 ∈ GW := gwp 1086 (by decide +kernel) (by decide +kernel)
theorem iw_1087 : Cond.code X9_ones.1 X9_ones.2.1 X9_ones.2.2.1 X9_ones.2.2.2 ∈ GW := gwp 1087 (by decide +kernel) (by decide +kernel)
theorem mv_X9_190 : MS RX9 190 X9_ones 1 := ⟨iw_1085, iw_1086, iw_75, iw_1087, ⟨by decide +kernel, by decide +kernel, by decide +kernel⟩, by decide⟩
theorem iw_1069 : Cond.methodLink RX9 194 X9_rowOf.1 ∈ GW := gwp 1069 (by decide +kernel) (by decide +kernel)
theorem iw_1071 : Cond.instanceMethod X9_rowOf.1 ∈ GW := gwp 1071 (by decide +kernel) (by decide +kernel)
theorem iw_41 : Cond.selects X9_rowOf.1.cls X9_rowOf.1 X9_rowOf.1 ∈ GW := gwp 41 (by decide +kernel) (by decide +kernel)
theorem iw_1072 : Cond.code X9_rowOf.1 X9_rowOf.2.1 X9_rowOf.2.2.1 X9_rowOf.2.2.2 ∈ GW := gwp 1072 (by decide +kernel) (by decide +kernel)
theorem mv_X9_194 : MV RX9 194 X9_rowOf 3 := ⟨iw_1069, iw_1071, iw_41, iw_75, iw_1072, ⟨by decide +kernel, by decide +kernel, by decide +kernel⟩, by decide⟩
theorem iw_1061 : Cond.methodLink RX9 198 X9_isRhythm.1 ∈ GW := gwp 1061 (by decide +kernel) (by decide +kernel)
theorem iw_1063 : Cond.instanceMethod X9_isRhythm.1 ∈ GW := gwp 1063 (by decide +kernel) (by decide +kernel)
theorem iw_39 : Cond.selects X9_isRhythm.1.cls X9_isRhythm.1 X9_isRhythm.1 ∈ GW := gwp 39 (by decide +kernel) (by decide +kernel)
theorem iw_1064 : Cond.code X9_isRhythm.1 X9_isRhythm.2.1 X9_isRhythm.2.2.1 X9_isRhythm.2.2.2 ∈ GW := gwp 1064 (by decide +kernel) (by decide +kernel)
theorem mv_X9_198 : MV RX9 198 X9_isRhythm 1 := ⟨iw_1061, iw_1063, iw_39, iw_75, iw_1064, ⟨by decide +kernel, by decide +kernel, by decide +kernel⟩, by decide⟩
theorem iw_1065 : Cond.methodLink RX9 201 X9_leastTurn.1 ∈ GW := gwp 1065 (by decide +kernel) (by decide +kernel)
theorem iw_1067 : Cond.instanceMethod X9_leastTurn.1 ∈ GW := gwp 1067 (by decide +kernel) (by decide +kernel)
theorem iw_40 : Cond.selects X9_leastTurn.1.cls X9_leastTurn.1 X9_leastTurn.1 ∈ GW := gwp 40 (by decide +kernel) (by decide +kernel)
theorem iw_1068 : Cond.code X9_leastTurn.1 X9_leastTurn.2.1 X9_leastTurn.2.2.1 X9_leastTurn.2.2.2 ∈ GW := gwp 1068 (by decide +kernel) (by decide +kernel)
theorem mv_X9_201 : MV RX9 201 X9_leastTurn 1 := ⟨iw_1065, iw_1067, iw_40, iw_75, iw_1068, ⟨by decide +kernel, by decide +kernel, by decide +kernel⟩, by decide⟩
theorem iw_1077 : Cond.methodLink RX9 204 X9_repeats.1 ∈ GW := gwp 1077 (by decide +kernel) (by decide +kernel)
theorem iw_1079 : Cond.instanceMethod X9_repeats.1 ∈ GW := gwp 1079 (by decide +kernel) (by decide +kernel)
theorem iw_43 : Cond.selects X9_repeats.1.cls X9_repeats.1 X9_repeats.1 ∈ GW := gwp 43 (by decide +kernel) (by decide +kernel)
theorem iw_1080 : Cond.code X9_repeats.1 X9_repeats.2.1 X9_repeats.2.2.1 X9_repeats.2.2.2 ∈ GW := gwp 1080 (by decide +kernel) (by decide +kernel)
theorem mv_X9_204 : MV RX9 204 X9_repeats 1 := ⟨iw_1077, iw_1079, iw_43, iw_75, iw_1080, ⟨by decide +kernel, by decide +kernel, by decide +kernel⟩, by decide⟩
theorem iw_1081 : Cond.methodLink RX9 207 X9_flashes.1 ∈ GW := gwp 1081 (by decide +kernel) (by decide +kernel)
theorem iw_1083 : Cond.instanceMethod X9_flashes.1 ∈ GW := gwp 1083 (by decide +kernel) (by decide +kernel)
theorem iw_44 : Cond.selects X9_flashes.1.cls X9_flashes.1 X9_flashes.1 ∈ GW := gwp 44 (by decide +kernel) (by decide +kernel)
theorem iw_1084 : Cond.code X9_flashes.1 X9_flashes.2.1 X9_flashes.2.2.1 X9_flashes.2.2.2 ∈ GW := gwp 1084 (by decide +kernel) (by decide +kernel)
theorem mv_X9_207 : MV RX9 207 X9_flashes 1 := ⟨iw_1081, iw_1083, iw_44, iw_75, iw_1084, ⟨by decide +kernel, by decide +kernel, by decide +kernel⟩, by decide⟩
theorem iw_1096 : Cond.methodLink RX9 210 X9_isDimmed.1 ∈ GW := gwp 1096 (by decide +kernel) (by decide +kernel)
theorem iw_1097 : Cond.static X9_isDimmed.1 ∈ GW := gwp 1097 (by decide +kernel) (by decide +kernel)
theorem iw_1098 : Cond.code X9_isDimmed.1 X9_isDimmed.2.1 X9_isDimmed.2.2.1 X9_isDimmed.2.2.2 ∈ GW := gwp 1098 (by decide +kernel) (by decide +kernel)
theorem mv_X9_210 : MS RX9 210 X9_isDimmed 2 := ⟨iw_1096, iw_1097, iw_75, iw_1098, ⟨by decide +kernel, by decide +kernel, by decide +kernel⟩, by decide⟩
theorem iw_1092 : Cond.methodLink RX9 214 X9_areLike.1 ∈ GW := gwp 1092 (by decide +kernel) (by decide +kernel)
theorem iw_1094 : Cond.instanceMethod X9_areLike.1 ∈ GW := gwp 1094 (by decide +kernel) (by decide +kernel)
theorem iw_45 : Cond.selects X9_areLike.1.cls X9_areLike.1 X9_areLike.1 ∈ GW := gwp 45 (by decide +kernel) (by decide +kernel)
theorem iw_1095 : Cond.code X9_areLike.1 X9_areLike.2.1 X9_areLike.2.2.1 X9_areLike.2.2.2 ∈ GW := gwp 1095 (by decide +kernel) (by decide +kernel)
theorem mv_X9_214 : MV RX9 214 X9_areLike 4 := ⟨iw_1092, iw_1094, iw_45, iw_75, iw_1095, ⟨by decide +kernel, by decide +kernel, by decide +kernel⟩, by decide⟩
theorem iw_1115 : Cond.methodLink RX9 218 X9_areNeighbours.1 ∈ GW := gwp 1115 (by decide +kernel) (by decide +kernel)
theorem iw_1117 : Cond.instanceMethod X9_areNeighbours.1 ∈ GW := gwp 1117 (by decide +kernel) (by decide +kernel)
theorem iw_49 : Cond.selects X9_areNeighbours.1.cls X9_areNeighbours.1 X9_areNeighbours.1 ∈ GW := gwp 49 (by decide +kernel) (by decide +kernel)
theorem iw_1118 : Cond.code X9_areNeighbours.1 X9_areNeighbours.2.1 X9_areNeighbours.2.2.1 X9_areNeighbours.2.2.2 ∈ GW := gwp 1118 (by decide +kernel) (by decide +kernel)
theorem mv_X9_218 : MV RX9 218 X9_areNeighbours 2 := ⟨iw_1115, iw_1117, iw_49, iw_75, iw_1118, ⟨by decide +kernel, by decide +kernel, by decide +kernel⟩, by decide⟩
theorem iw_1111 : Cond.methodLink RX9 221 X9_doClash.1 ∈ GW := gwp 1111 (by decide +kernel) (by decide +kernel)
theorem iw_1113 : Cond.instanceMethod X9_doClash.1 ∈ GW := gwp 1113 (by decide +kernel) (by decide +kernel)
theorem iw_48 : Cond.selects X9_doClash.1.cls X9_doClash.1 X9_doClash.1 ∈ GW := gwp 48 (by decide +kernel) (by decide +kernel)
theorem iw_1114 : Cond.code X9_doClash.1 X9_doClash.2.1 X9_doClash.2.2.1 X9_doClash.2.2.2 ∈ GW := gwp 1114 (by decide +kernel) (by decide +kernel)
theorem mv_X9_221 : MV RX9 221 X9_doClash 2 := ⟨iw_1111, iw_1113, iw_48, iw_75, iw_1114, ⟨by decide +kernel, by decide +kernel, by decide +kernel⟩, by decide⟩
theorem iw_1103 : Cond.methodLink RX9 224 X9_isLight.1 ∈ GW := gwp 1103 (by decide +kernel) (by decide +kernel)
theorem iw_1105 : Cond.instanceMethod X9_isLight.1 ∈ GW := gwp 1105 (by decide +kernel) (by decide +kernel)
theorem iw_46 : Cond.selects X9_isLight.1.cls X9_isLight.1 X9_isLight.1 ∈ GW := gwp 46 (by decide +kernel) (by decide +kernel)
theorem iw_1106 : Cond.code X9_isLight.1 X9_isLight.2.1 X9_isLight.2.2.1 X9_isLight.2.2.2 ∈ GW := gwp 1106 (by decide +kernel) (by decide +kernel)
theorem mv_X9_224 : MV RX9 224 X9_isLight 1 := ⟨iw_1103, iw_1105, iw_46, iw_75, iw_1106, ⟨by decide +kernel, by decide +kernel, by decide +kernel⟩, by decide⟩
theorem iw_1107 : Cond.methodLink RX9 227 X9_thoseOf.1 ∈ GW := gwp 1107 (by decide +kernel) (by decide +kernel)
theorem iw_1109 : Cond.instanceMethod X9_thoseOf.1 ∈ GW := gwp 1109 (by decide +kernel) (by decide +kernel)
theorem iw_47 : Cond.selects X9_thoseOf.1.cls X9_thoseOf.1 X9_thoseOf.1 ∈ GW := gwp 47 (by decide +kernel) (by decide +kernel)
theorem iw_1110 : Cond.code X9_thoseOf.1 X9_thoseOf.2.1 X9_thoseOf.2.2.1 X9_thoseOf.2.2.2 ∈ GW := gwp 1110 (by decide +kernel) (by decide +kernel)
theorem mv_X9_227 : MV RX9 227 X9_thoseOf 2 := ⟨iw_1107, iw_1109, iw_47, iw_75, iw_1110, ⟨by decide +kernel, by decide +kernel, by decide +kernel⟩, by decide⟩
theorem iw_1123 : Cond.methodLink RX9 231 X9_become.1 ∈ GW := gwp 1123 (by decide +kernel) (by decide +kernel)
theorem iw_1125 : Cond.instanceMethod X9_become.1 ∈ GW := gwp 1125 (by decide +kernel) (by decide +kernel)
theorem iw_50 : Cond.selects X9_become.1.cls X9_become.1 X9_become.1 ∈ GW := gwp 50 (by decide +kernel) (by decide +kernel)
theorem iw_1126 : Cond.code X9_become.1 X9_become.2.1 X9_become.2.2.1 X9_become.2.2.2 ∈ GW := gwp 1126 (by decide +kernel) (by decide +kernel)
theorem mv_X9_231 : MV RX9 231 X9_become 2 := ⟨iw_1123, iw_1125, iw_50, iw_75, iw_1126, ⟨by decide +kernel, by decide +kernel, by decide +kernel⟩, by decide⟩
theorem iw_1135 : Cond.constantLong RX9 234 (99) ∈ GW := gwp 1135 (by decide +kernel) (by decide +kernel)
theorem iw_1144 : Cond.methodLink RX9 236 X9_litOnes.1 ∈ GW := gwp 1144 (by decide +kernel) (by decide +kernel)
theorem iw_1146 : Cond.instanceMethod X9_litOnes.1 ∈ GW := gwp 1146 (by decide +kernel) (by decide +kernel)
theorem iw_51 : Cond.selects X9_litOnes.1.cls X9_litOnes.1 X9_litOnes.1 ∈ GW := gwp 51 (by decide +kernel) (by decide +kernel)
theorem iw_1147 : Cond.code X9_litOnes.1 X9_litOnes.2.1 X9_litOnes.2.2.1 X9_litOnes.2.2.2 ∈ GW := gwp 1147 (by decide +kernel) (by decide +kernel)
theorem mv_X9_236 : MV RX9 236 X9_litOnes 0 := ⟨iw_1144, iw_1146, iw_51, iw_75, iw_1147, ⟨by decide +kernel, by decide +kernel, by decide +kernel⟩, by decide⟩
theorem iw_907 : Cond.fieldLink RX9 59 (TX9 32).1 (TX9 32).2.1 (TX9 32).2.2.1 ∈ GW := gwp 907 (by decide +kernel) (by decide +kernel)
theorem fl_X9_59 : FL RX9 59 9 32 (.array .int) true := ⟨RX9, TX9, 38, tyX9, ckX9, by decide, iw_907, rfl, rfl⟩
theorem iw_908 : Cond.fieldLink RX9 62 (TX9 33).1 (TX9 33).2.1 (TX9 33).2.2.1 ∈ GW := gwp 908 (by decide +kernel) (by decide +kernel)
theorem fl_X9_62 : FL RX9 62 9 33 (.array .int) true := ⟨RX9, TX9, 38, tyX9, ckX9, by decide, iw_908, rfl, rfl⟩
theorem iw_1168 : Cond.methodLink RX9 239 X9_has.1 ∈ GW := gwp 1168 (by decide +kernel) (by decide +kernel)
theorem iw_1169 : Cond.static X9_has.1 ∈ GW := gwp 1169 (by decide +kernel) (by decide +kernel)
theorem iw_1170 : Cond.code X9_has.1 X9_has.2.1 X9_has.2.2.1 X9_has.2.2.2 ∈ GW := gwp 1170 (by decide +kernel) (by decide +kernel)
theorem mv_X9_239 : MS RX9 239 X9_has 2 := ⟨iw_1168, iw_1169, iw_75, iw_1170, ⟨by decide +kernel, by decide +kernel, by decide +kernel⟩, by decide⟩
theorem iw_1160 : Cond.methodLink RX9 242 X9_layBars.1 ∈ GW := gwp 1160 (by decide +kernel) (by decide +kernel)
theorem iw_1162 : Cond.instanceMethod X9_layBars.1 ∈ GW := gwp 1162 (by decide +kernel) (by decide +kernel)
theorem iw_53 : Cond.selects X9_layBars.1.cls X9_layBars.1 X9_layBars.1 ∈ GW := gwp 53 (by decide +kernel) (by decide +kernel)
theorem iw_1163 : Cond.code X9_layBars.1 X9_layBars.2.1 X9_layBars.2.2.1 X9_layBars.2.2.2 ∈ GW := gwp 1163 (by decide +kernel) (by decide +kernel)
theorem mv_X9_242 : MV RX9 242 X9_layBars 1 := ⟨iw_1160, iw_1162, iw_53, iw_75, iw_1163, ⟨by decide +kernel, by decide +kernel, by decide +kernel⟩, by decide⟩
theorem iw_1164 : Cond.methodLink RX9 246 X9_isPlan.1 ∈ GW := gwp 1164 (by decide +kernel) (by decide +kernel)
theorem iw_1166 : Cond.instanceMethod X9_isPlan.1 ∈ GW := gwp 1166 (by decide +kernel) (by decide +kernel)
theorem iw_54 : Cond.selects X9_isPlan.1.cls X9_isPlan.1 X9_isPlan.1 ∈ GW := gwp 54 (by decide +kernel) (by decide +kernel)
theorem iw_1167 : Cond.code X9_isPlan.1 X9_isPlan.2.1 X9_isPlan.2.2.1 X9_isPlan.2.2.2 ∈ GW := gwp 1167 (by decide +kernel) (by decide +kernel)
theorem mv_X9_246 : MV RX9 246 X9_isPlan 0 := ⟨iw_1164, iw_1166, iw_54, iw_75, iw_1167, ⟨by decide +kernel, by decide +kernel, by decide +kernel⟩, by decide⟩
theorem iw_909 : Cond.fieldLink RX9 65 (TX9 34).1 (TX9 34).2.1 (TX9 34).2.2.1 ∈ GW := gwp 909 (by decide +kernel) (by decide +kernel)
theorem fl_X9_65 : FL RX9 65 9 34 (.array .int) true := ⟨RX9, TX9, 38, tyX9, ckX9, by decide, iw_909, rfl, rfl⟩
theorem iw_1156 : Cond.methodLink RX9 249 X9_layPlan.1 ∈ GW := gwp 1156 (by decide +kernel) (by decide +kernel)
theorem iw_1158 : Cond.instanceMethod X9_layPlan.1 ∈ GW := gwp 1158 (by decide +kernel) (by decide +kernel)
theorem iw_52 : Cond.selects X9_layPlan.1.cls X9_layPlan.1 X9_layPlan.1 ∈ GW := gwp 52 (by decide +kernel) (by decide +kernel)
theorem iw_1159 : Cond.code X9_layPlan.1 X9_layPlan.2.1 X9_layPlan.2.2.1 X9_layPlan.2.2.2 ∈ GW := gwp 1159 (by decide +kernel) (by decide +kernel)
theorem mv_X9_249 : MV RX9 249 X9_layPlan 1 := ⟨iw_1156, iw_1158, iw_52, iw_75, iw_1159, ⟨by decide +kernel, by decide +kernel, by decide +kernel⟩, by decide⟩
theorem iw_910 : Cond.fieldLink RX9 68 (TX9 35).1 (TX9 35).2.1 (TX9 35).2.2.1 ∈ GW := gwp 910 (by decide +kernel) (by decide +kernel)
theorem fl_X9_68 : FL RX9 68 9 35 (.array .long) true := ⟨RX9, TX9, 38, tyX9, ckX9, by decide, iw_910, rfl, rfl⟩
theorem iw_1187 : Cond.methodLink RX9 253 X9_firstSet.1 ∈ GW := gwp 1187 (by decide +kernel) (by decide +kernel)
theorem iw_1189 : Cond.instanceMethod X9_firstSet.1 ∈ GW := gwp 1189 (by decide +kernel) (by decide +kernel)
theorem iw_56 : Cond.selects X9_firstSet.1.cls X9_firstSet.1 X9_firstSet.1 ∈ GW := gwp 56 (by decide +kernel) (by decide +kernel)
theorem iw_1190 : Cond.code X9_firstSet.1 X9_firstSet.2.1 X9_firstSet.2.2.1 X9_firstSet.2.2.2 ∈ GW := gwp 1190 (by decide +kernel) (by decide +kernel)
theorem mv_X9_253 : MV RX9 253 X9_firstSet 1 := ⟨iw_1187, iw_1189, iw_56, iw_75, iw_1190, ⟨by decide +kernel, by decide +kernel, by decide +kernel⟩, by decide⟩
theorem iw_1191 : Cond.methodLink RX9 257 X9_becomes.1 ∈ GW := gwp 1191 (by decide +kernel) (by decide +kernel)
theorem iw_1193 : Cond.instanceMethod X9_becomes.1 ∈ GW := gwp 1193 (by decide +kernel) (by decide +kernel)
theorem iw_57 : Cond.selects X9_becomes.1.cls X9_becomes.1 X9_becomes.1 ∈ GW := gwp 57 (by decide +kernel) (by decide +kernel)
theorem iw_1194 : Cond.code X9_becomes.1 X9_becomes.2.1 X9_becomes.2.2.1 X9_becomes.2.2.2 ∈ GW := gwp 1194 (by decide +kernel) (by decide +kernel)
theorem mv_X9_257 : MV RX9 257 X9_becomes 2 := ⟨iw_1191, iw_1193, iw_57, iw_75, iw_1194, ⟨by decide +kernel, by decide +kernel, by decide +kernel⟩, by decide⟩
theorem iw_911 : Cond.fieldLink RX9 72 (TX9 36).1 (TX9 36).2.1 (TX9 36).2.2.1 ∈ GW := gwp 911 (by decide +kernel) (by decide +kernel)
theorem fl_X9_72 : FL RX9 72 9 36 (.array .long) true := ⟨RX9, TX9, 38, tyX9, ckX9, by decide, iw_911, rfl, rfl⟩
theorem iw_1199 : Cond.methodLink RX9 261 X9_isOfOne.1 ∈ GW := gwp 1199 (by decide +kernel) (by decide +kernel)
theorem iw_1200 : Cond.static X9_isOfOne.1 ∈ GW := gwp 1200 (by decide +kernel) (by decide +kernel)
theorem iw_1201 : Cond.code X9_isOfOne.1 X9_isOfOne.2.1 X9_isOfOne.2.2.1 X9_isOfOne.2.2.2 ∈ GW := gwp 1201 (by decide +kernel) (by decide +kernel)
theorem mv_X9_261 : MS RX9 261 X9_isOfOne 1 := ⟨iw_1199, iw_1200, iw_75, iw_1201, ⟨by decide +kernel, by decide +kernel, by decide +kernel⟩, by decide⟩
theorem iw_912 : Cond.fieldLink RX9 75 (TX9 37).1 (TX9 37).2.1 (TX9 37).2.2.1 ∈ GW := gwp 912 (by decide +kernel) (by decide +kernel)
theorem fl_X9_75 : FL RX9 75 9 37 (.array .long) true := ⟨RX9, TX9, 38, tyX9, ckX9, by decide, iw_912, rfl, rfl⟩
theorem iw_1183 : Cond.methodLink RX9 265 X9_statesOf.1 ∈ GW := gwp 1183 (by decide +kernel) (by decide +kernel)
theorem iw_1185 : Cond.instanceMethod X9_statesOf.1 ∈ GW := gwp 1185 (by decide +kernel) (by decide +kernel)
theorem iw_55 : Cond.selects X9_statesOf.1.cls X9_statesOf.1 X9_statesOf.1 ∈ GW := gwp 55 (by decide +kernel) (by decide +kernel)
theorem iw_1186 : Cond.code X9_statesOf.1 X9_statesOf.2.1 X9_statesOf.2.2.1 X9_statesOf.2.2.2 ∈ GW := gwp 1186 (by decide +kernel) (by decide +kernel)
theorem mv_X9_265 : MV RX9 265 X9_statesOf 1 := ⟨iw_1183, iw_1185, iw_55, iw_75, iw_1186, ⟨by decide +kernel, by decide +kernel, by decide +kernel⟩, by decide⟩
theorem iw_1195 : Cond.methodLink RX9 268 X9_namedAt.1 ∈ GW := gwp 1195 (by decide +kernel) (by decide +kernel)
theorem iw_1197 : Cond.instanceMethod X9_namedAt.1 ∈ GW := gwp 1197 (by decide +kernel) (by decide +kernel)
theorem iw_58 : Cond.selects X9_namedAt.1.cls X9_namedAt.1 X9_namedAt.1 ∈ GW := gwp 58 (by decide +kernel) (by decide +kernel)
theorem iw_1198 : Cond.code X9_namedAt.1 X9_namedAt.2.1 X9_namedAt.2.2.1 X9_namedAt.2.2.2 ∈ GW := gwp 1198 (by decide +kernel) (by decide +kernel)
theorem mv_X9_268 : MV RX9 268 X9_namedAt 1 := ⟨iw_1195, iw_1197, iw_58, iw_75, iw_1198, ⟨by decide +kernel, by decide +kernel, by decide +kernel⟩, by decide⟩
theorem iw_888 : Cond.fieldLink RX9 23 (TX9 13).1 (TX9 13).2.1 (TX9 13).2.2.1 ∈ GW := gwp 888 (by decide +kernel) (by decide +kernel)
theorem fl_X9_23 : FL RX9 23 9 13 (.array .boolean) true := ⟨RX9, TX9, 38, tyX9, ckX9, by decide, iw_888, rfl, rfl⟩
theorem iw_889 : Cond.fieldLink RX9 26 (TX9 14).1 (TX9 14).2.1 (TX9 14).2.2.1 ∈ GW := gwp 889 (by decide +kernel) (by decide +kernel)
theorem fl_X9_26 : FL RX9 26 9 14 (.array .int) true := ⟨RX9, TX9, 38, tyX9, ckX9, by decide, iw_889, rfl, rfl⟩
theorem iw_890 : Cond.fieldLink RX9 29 (TX9 15).1 (TX9 15).2.1 (TX9 15).2.2.1 ∈ GW := gwp 890 (by decide +kernel) (by decide +kernel)
theorem fl_X9_29 : FL RX9 29 9 15 (.array .boolean) true := ⟨RX9, TX9, 38, tyX9, ckX9, by decide, iw_890, rfl, rfl⟩
theorem iw_887 : Cond.fieldLink RX9 271 (TX9 12).1 (TX9 12).2.1 (TX9 12).2.2.1 ∈ GW := gwp 887 (by decide +kernel) (by decide +kernel)
theorem fl_X9_271 : FL RX9 271 9 12 .boolean false := ⟨RX9, TX9, 38, tyX9, ckX9, by decide, iw_887, rfl, rfl⟩
theorem iw_1206 : Cond.methodLink RX9 274 X9_pairsLeft.1 ∈ GW := gwp 1206 (by decide +kernel) (by decide +kernel)
theorem iw_1208 : Cond.instanceMethod X9_pairsLeft.1 ∈ GW := gwp 1208 (by decide +kernel) (by decide +kernel)
theorem iw_59 : Cond.selects X9_pairsLeft.1.cls X9_pairsLeft.1 X9_pairsLeft.1 ∈ GW := gwp 59 (by decide +kernel) (by decide +kernel)
theorem iw_1209 : Cond.code X9_pairsLeft.1 X9_pairsLeft.2.1 X9_pairsLeft.2.2.1 X9_pairsLeft.2.2.2 ∈ GW := gwp 1209 (by decide +kernel) (by decide +kernel)
theorem mv_X9_274 : MV RX9 274 X9_pairsLeft 0 := ⟨iw_1206, iw_1208, iw_59, iw_75, iw_1209, ⟨by decide +kernel, by decide +kernel, by decide +kernel⟩, by decide⟩
theorem iw_1214 : Cond.methodLink RX9 277 X9_seePair.1 ∈ GW := gwp 1214 (by decide +kernel) (by decide +kernel)
theorem iw_1216 : Cond.instanceMethod X9_seePair.1 ∈ GW := gwp 1216 (by decide +kernel) (by decide +kernel)
theorem iw_60 : Cond.selects X9_seePair.1.cls X9_seePair.1 X9_seePair.1 ∈ GW := gwp 60 (by decide +kernel) (by decide +kernel)
theorem iw_1217 : Cond.code X9_seePair.1 X9_seePair.2.1 X9_seePair.2.2.1 X9_seePair.2.2.2 ∈ GW := gwp 1217 (by decide +kernel) (by decide +kernel)
theorem mv_X9_277 : MV RX9 277 X9_seePair 2 := ⟨iw_1214, iw_1216, iw_60, iw_75, iw_1217, ⟨by decide +kernel, by decide +kernel, by decide +kernel⟩, by decide⟩
theorem iw_1229 : Cond.constantLong RX9 280 (2) ∈ GW := gwp 1229 (by decide +kernel) (by decide +kernel)
theorem iw_1237 : Cond.constantLong RX9 282 (-9999) ∈ GW := gwp 1237 (by decide +kernel) (by decide +kernel)
theorem iw_1238 : Cond.constantLong RX9 284 (9999) ∈ GW := gwp 1238 (by decide +kernel) (by decide +kernel)
theorem iw_1226 : Cond.methodLink RX9 286 X9_isTape.1 ∈ GW := gwp 1226 (by decide +kernel) (by decide +kernel)
theorem iw_1227 : Cond.static X9_isTape.1 ∈ GW := gwp 1227 (by decide +kernel) (by decide +kernel)
theorem iw_1228 : Cond.code X9_isTape.1 X9_isTape.2.1 X9_isTape.2.2.1 X9_isTape.2.2.2 ∈ GW := gwp 1228 (by decide +kernel) (by decide +kernel)
theorem mv_X9_286 : MS RX9 286 X9_isTape 1 := ⟨iw_1226, iw_1227, iw_75, iw_1228, ⟨by decide +kernel, by decide +kernel, by decide +kernel⟩, by decide⟩
theorem iw_892 : Cond.fieldLink RX9 35 (TX9 17).1 (TX9 17).2.1 (TX9 17).2.2.1 ∈ GW := gwp 892 (by decide +kernel) (by decide +kernel)
theorem fl_X9_35 : FL RX9 35 9 17 (.array .int) true := ⟨RX9, TX9, 38, tyX9, ckX9, by decide, iw_892, rfl, rfl⟩
theorem iw_1234 : Cond.methodLink RX9 289 X9_isNumber.1 ∈ GW := gwp 1234 (by decide +kernel) (by decide +kernel)
theorem iw_1235 : Cond.static X9_isNumber.1 ∈ GW := gwp 1235 (by decide +kernel) (by decide +kernel)
theorem iw_1236 : Cond.code X9_isNumber.1 X9_isNumber.2.1 X9_isNumber.2.2.1 X9_isNumber.2.2.2 ∈ GW := gwp 1236 (by decide +kernel) (by decide +kernel)
theorem mv_X9_289 : MS RX9 289 X9_isNumber 1 := ⟨iw_1234, iw_1235, iw_75, iw_1236, ⟨by decide +kernel, by decide +kernel, by decide +kernel⟩, by decide⟩
theorem iw_1239 : Cond.methodLink RX9 292 X9_putAt.1 ∈ GW := gwp 1239 (by decide +kernel) (by decide +kernel)
theorem iw_1241 : Cond.instanceMethod X9_putAt.1 ∈ GW := gwp 1241 (by decide +kernel) (by decide +kernel)
theorem iw_61 : Cond.selects X9_putAt.1.cls X9_putAt.1 X9_putAt.1 ∈ GW := gwp 61 (by decide +kernel) (by decide +kernel)
theorem iw_1242 : Cond.code X9_putAt.1 X9_putAt.2.1 X9_putAt.2.2.1 X9_putAt.2.2.2 ∈ GW := gwp 1242 (by decide +kernel) (by decide +kernel)
theorem mv_X9_292 : MV RX9 292 X9_putAt 3 := ⟨iw_1239, iw_1241, iw_61, iw_75, iw_1242, ⟨by decide +kernel, by decide +kernel, by decide +kernel⟩, by decide⟩
theorem iw_1247 : Cond.methodLink RX9 296 X9_drawAt.1 ∈ GW := gwp 1247 (by decide +kernel) (by decide +kernel)
theorem iw_1249 : Cond.instanceMethod X9_drawAt.1 ∈ GW := gwp 1249 (by decide +kernel) (by decide +kernel)
theorem iw_62 : Cond.selects X9_drawAt.1.cls X9_drawAt.1 X9_drawAt.1 ∈ GW := gwp 62 (by decide +kernel) (by decide +kernel)
theorem iw_1250 : Cond.code X9_drawAt.1 X9_drawAt.2.1 X9_drawAt.2.2.1 X9_drawAt.2.2.2 ∈ GW := gwp 1250 (by decide +kernel) (by decide +kernel)
theorem mv_X9_296 : MV RX9 296 X9_drawAt 2 := ⟨iw_1247, iw_1249, iw_62, iw_75, iw_1250, ⟨by decide +kernel, by decide +kernel, by decide +kernel⟩, by decide⟩
theorem iw_1251 : Cond.constant RX9 299 (50000) ∈ GW := gwp 1251 (by decide +kernel) (by decide +kernel)
theorem iw_1260 : Cond.constant RX9 300 (-99999) ∈ GW := gwp 1260 (by decide +kernel) (by decide +kernel)
theorem iw_1261 : Cond.constant RX9 301 (99999) ∈ GW := gwp 1261 (by decide +kernel) (by decide +kernel)
theorem iw_1278 : Cond.methodLink RX9 302 X9_clashes.1 ∈ GW := gwp 1278 (by decide +kernel) (by decide +kernel)
theorem iw_1280 : Cond.instanceMethod X9_clashes.1 ∈ GW := gwp 1280 (by decide +kernel) (by decide +kernel)
theorem iw_63 : Cond.selects X9_clashes.1.cls X9_clashes.1 X9_clashes.1 ∈ GW := gwp 63 (by decide +kernel) (by decide +kernel)
theorem iw_1281 : Cond.code X9_clashes.1 X9_clashes.2.1 X9_clashes.2.2.1 X9_clashes.2.2.2 ∈ GW := gwp 1281 (by decide +kernel) (by decide +kernel)
theorem mv_X9_302 : MV RX9 302 X9_clashes 0 := ⟨iw_1278, iw_1280, iw_63, iw_75, iw_1281, ⟨by decide +kernel, by decide +kernel, by decide +kernel⟩, by decide⟩
theorem iw_1282 : Cond.methodLink RX9 305 X9_allNumbers.1 ∈ GW := gwp 1282 (by decide +kernel) (by decide +kernel)
theorem iw_1284 : Cond.instanceMethod X9_allNumbers.1 ∈ GW := gwp 1284 (by decide +kernel) (by decide +kernel)
theorem iw_64 : Cond.selects X9_allNumbers.1.cls X9_allNumbers.1 X9_allNumbers.1 ∈ GW := gwp 64 (by decide +kernel) (by decide +kernel)
theorem iw_1285 : Cond.code X9_allNumbers.1 X9_allNumbers.2.1 X9_allNumbers.2.2.1 X9_allNumbers.2.2.2 ∈ GW := gwp 1285 (by decide +kernel) (by decide +kernel)
theorem mv_X9_305 : MV RX9 305 X9_allNumbers 0 := ⟨iw_1282, iw_1284, iw_64, iw_75, iw_1285, ⟨by decide +kernel, by decide +kernel, by decide +kernel⟩, by decide⟩
theorem iw_534 : Cond.constant RJ6 265 (1431655765) ∈ GW := gwp 534 (by decide +kernel) (by decide +kernel)
theorem iw_535 : Cond.constant RJ6 266 (858993459) ∈ GW := gwp 535 (by decide +kernel) (by decide +kernel)
theorem iw_536 : Cond.constant RJ6 267 (252645135) ∈ GW := gwp 536 (by decide +kernel) (by decide +kernel)
theorem iw_734 : Cond.constantLong RJ13 314 (6148914691236517205) ∈ GW := gwp 734 (by decide +kernel) (by decide +kernel)
theorem iw_735 : Cond.constantLong RJ13 316 (3689348814741910323) ∈ GW := gwp 735 (by decide +kernel) (by decide +kernel)
theorem iw_736 : Cond.constantLong RJ13 318 (1085102592571150095) ∈ GW := gwp 736 (by decide +kernel) (by decide +kernel)
theorem ic_m1 : Int32.ofInt (-1) = (-1) := by decide
theorem ic_0 : Int32.ofInt (0) = (0) := by decide
theorem ic_1 : Int32.ofInt (1) = (1) := by decide
theorem ic_2 : Int32.ofInt (2) = (2) := by decide
theorem ic_3 : Int32.ofInt (3) = (3) := by decide
theorem ic_4 : Int32.ofInt (4) = (4) := by decide
theorem ic_5 : Int32.ofInt (5) = (5) := by decide
theorem bp_m13 : (Int8.ofInt (-13)).toInt32 = (-13) := by decide
theorem bp_m12 : (Int8.ofInt (-12)).toInt32 = (-12) := by decide
theorem bp_m11 : (Int8.ofInt (-11)).toInt32 = (-11) := by decide
theorem bp_m5 : (Int8.ofInt (-5)).toInt32 = (-5) := by decide
theorem bp_m4 : (Int8.ofInt (-4)).toInt32 = (-4) := by decide
theorem bp_m3 : (Int8.ofInt (-3)).toInt32 = (-3) := by decide
theorem bp_m2 : (Int8.ofInt (-2)).toInt32 = (-2) := by decide
theorem bp_6 : (Int8.ofInt (6)).toInt32 = (6) := by decide
theorem bp_7 : (Int8.ofInt (7)).toInt32 = (7) := by decide
theorem bp_8 : (Int8.ofInt (8)).toInt32 = (8) := by decide
theorem bp_9 : (Int8.ofInt (9)).toInt32 = (9) := by decide
theorem bp_10 : (Int8.ofInt (10)).toInt32 = (10) := by decide
theorem bp_12 : (Int8.ofInt (12)).toInt32 = (12) := by decide
theorem bp_16 : (Int8.ofInt (16)).toInt32 = (16) := by decide
theorem bp_20 : (Int8.ofInt (20)).toInt32 = (20) := by decide
theorem bp_24 : (Int8.ofInt (24)).toInt32 = (24) := by decide
theorem bp_32 : (Int8.ofInt (32)).toInt32 = (32) := by decide
theorem bp_40 : (Int8.ofInt (40)).toInt32 = (40) := by decide
theorem bp_41 : (Int8.ofInt (41)).toInt32 = (41) := by decide
theorem bp_48 : (Int8.ofInt (48)).toInt32 = (48) := by decide
theorem bp_57 : (Int8.ofInt (57)).toInt32 = (57) := by decide
theorem bp_59 : (Int8.ofInt (59)).toInt32 = (59) := by decide
theorem bp_63 : (Int8.ofInt (63)).toInt32 = (63) := by decide
theorem bp_84 : (Int8.ofInt (84)).toInt32 = (84) := by decide
theorem bp_97 : (Int8.ofInt (97)).toInt32 = (97) := by decide
theorem bp_99 : (Int8.ofInt (99)).toInt32 = (99) := by decide
theorem bp_100 : (Int8.ofInt (100)).toInt32 = (100) := by decide
theorem bp_102 : (Int8.ofInt (102)).toInt32 = (102) := by decide
theorem bp_108 : (Int8.ofInt (108)).toInt32 = (108) := by decide
theorem bp_122 : (Int8.ofInt (122)).toInt32 = (122) := by decide
theorem bp_127 : (Int8.ofInt (127)).toInt32 = (127) := by decide
theorem sp_m9999 : (Int16.ofInt (-9999)).toInt32 = (-9999) := by decide
theorem sp_132 : (Int16.ofInt (132)).toInt32 = (132) := by decide
theorem sp_200 : (Int16.ofInt (200)).toInt32 = (200) := by decide
theorem sp_255 : (Int16.ofInt (255)).toInt32 = (255) := by decide
theorem sp_256 : (Int16.ofInt (256)).toInt32 = (256) := by decide
theorem sp_9999 : (Int16.ofInt (9999)).toInt32 = (9999) := by decide
theorem lc_0 : Int64.ofNat ((0 : Fin 2) : Nat) = 0 := by decide
theorem lc_1 : Int64.ofNat ((1 : Fin 2) : Nat) = 1 := by decide
end
section
/-! DECODE ROWS, by program. -/
theorem dd_X0_beginAnew_0 : decode X0_beginAnew.2.1 0 = .ok (.aload_n 0, 1) := by decide +kernel
theorem dd_X0_beginAnew_1 : decode X0_beginAnew.2.1 1 = .ok (.iload_n 1, 1) := by decide +kernel
theorem dd_X0_beginAnew_2 : decode X0_beginAnew.2.1 2 = .ok (.putfield 26, 3) := by decide +kernel
theorem dd_X0_beginAnew_5 : decode X0_beginAnew.2.1 5 = .ok (.aload_n 0, 1) := by decide +kernel
theorem dd_X0_beginAnew_6 : decode X0_beginAnew.2.1 6 = .ok (.iconst 2, 1) := by decide +kernel
theorem dd_X0_beginAnew_7 : decode X0_beginAnew.2.1 7 = .ok (.putfield 30, 3) := by decide +kernel
theorem dd_X0_beginAnew_10 : decode X0_beginAnew.2.1 10 = .ok (.aload_n 0, 1) := by decide +kernel
theorem dd_X0_beginAnew_11 : decode X0_beginAnew.2.1 11 = .ok (.bipush 20, 2) := by decide +kernel
theorem dd_X0_beginAnew_13 : decode X0_beginAnew.2.1 13 = .ok (.putfield 33, 3) := by decide +kernel
theorem dd_X0_beginAnew_16 : decode X0_beginAnew.2.1 16 = .ok (.aload_n 0, 1) := by decide +kernel
theorem dd_X0_beginAnew_17 : decode X0_beginAnew.2.1 17 = .ok (.iconst 0, 1) := by decide +kernel
theorem dd_X0_beginAnew_18 : decode X0_beginAnew.2.1 18 = .ok (.putfield 36, 3) := by decide +kernel
theorem dd_X0_beginAnew_21 : decode X0_beginAnew.2.1 21 = .ok (.aload_n 0, 1) := by decide +kernel
theorem dd_X0_beginAnew_22 : decode X0_beginAnew.2.1 22 = .ok (.getfield 18, 3) := by decide +kernel
theorem dd_X0_beginAnew_25 : decode X0_beginAnew.2.1 25 = .ok (.iconst 0, 1) := by decide +kernel
theorem dd_X0_beginAnew_26 : decode X0_beginAnew.2.1 26 = .ok (.putfield 39, 3) := by decide +kernel
theorem dd_X0_beginAnew_29 : decode X0_beginAnew.2.1 29 = .ok (.return_, 1) := by decide +kernel
theorem dd_X0_become_0 : decode X0_become.2.1 0 = .ok (.aload_n 0, 1) := by decide +kernel
theorem dd_X0_become_1 : decode X0_become.2.1 1 = .ok (.aload_n 1, 1) := by decide +kernel
theorem dd_X0_become_2 : decode X0_become.2.1 2 = .ok (.getfield 26, 3) := by decide +kernel
theorem dd_X0_become_5 : decode X0_become.2.1 5 = .ok (.putfield 26, 3) := by decide +kernel
theorem dd_X0_become_8 : decode X0_become.2.1 8 = .ok (.aload_n 0, 1) := by decide +kernel
theorem dd_X0_become_9 : decode X0_become.2.1 9 = .ok (.aload_n 1, 1) := by decide +kernel
theorem dd_X0_become_10 : decode X0_become.2.1 10 = .ok (.getfield 30, 3) := by decide +kernel
theorem dd_X0_become_13 : decode X0_become.2.1 13 = .ok (.putfield 30, 3) := by decide +kernel
theorem dd_X0_become_16 : decode X0_become.2.1 16 = .ok (.aload_n 0, 1) := by decide +kernel
theorem dd_X0_become_17 : decode X0_become.2.1 17 = .ok (.aload_n 1, 1) := by decide +kernel
theorem dd_X0_become_18 : decode X0_become.2.1 18 = .ok (.getfield 33, 3) := by decide +kernel
theorem dd_X0_become_21 : decode X0_become.2.1 21 = .ok (.putfield 33, 3) := by decide +kernel
theorem dd_X0_become_24 : decode X0_become.2.1 24 = .ok (.aload_n 0, 1) := by decide +kernel
theorem dd_X0_become_25 : decode X0_become.2.1 25 = .ok (.aload_n 1, 1) := by decide +kernel
theorem dd_X0_become_26 : decode X0_become.2.1 26 = .ok (.getfield 36, 3) := by decide +kernel
theorem dd_X0_become_29 : decode X0_become.2.1 29 = .ok (.putfield 36, 3) := by decide +kernel
theorem dd_X0_become_32 : decode X0_become.2.1 32 = .ok (.aload_n 1, 1) := by decide +kernel
theorem dd_X0_become_33 : decode X0_become.2.1 33 = .ok (.getfield 9, 3) := by decide +kernel
theorem dd_X0_become_36 : decode X0_become.2.1 36 = .ok (.iconst 0, 1) := by decide +kernel
theorem dd_X0_become_37 : decode X0_become.2.1 37 = .ok (.aload_n 0, 1) := by decide +kernel
theorem dd_X0_become_38 : decode X0_become.2.1 38 = .ok (.getfield 9, 3) := by decide +kernel
theorem dd_X0_become_41 : decode X0_become.2.1 41 = .ok (.iconst 0, 1) := by decide +kernel
theorem dd_X0_become_42 : decode X0_become.2.1 42 = .ok (.bipush 8, 2) := by decide +kernel
theorem dd_X0_become_44 : decode X0_become.2.1 44 = .ok (.invokestatic 40, 3) := by decide +kernel
theorem dd_X0_become_47 : decode X0_become.2.1 47 = .ok (.aload_n 0, 1) := by decide +kernel
theorem dd_X0_become_48 : decode X0_become.2.1 48 = .ok (.getfield 18, 3) := by decide +kernel
theorem dd_X0_become_51 : decode X0_become.2.1 51 = .ok (.aload_n 1, 1) := by decide +kernel
theorem dd_X0_become_52 : decode X0_become.2.1 52 = .ok (.getfield 18, 3) := by decide +kernel
theorem dd_X0_become_55 : decode X0_become.2.1 55 = .ok (.invokevirtual 46, 3) := by decide +kernel
theorem dd_X0_become_58 : decode X0_become.2.1 58 = .ok (.return_, 1) := by decide +kernel
theorem dd_X0_hasRhythm_0 : decode X0_hasRhythm.2.1 0 = .ok (.iload_n 1, 1) := by decide +kernel
theorem dd_X0_hasRhythm_1 : decode X0_hasRhythm.2.1 1 = .ok (.ifCond .lt 15, 3) := by decide +kernel
theorem dd_X0_hasRhythm_4 : decode X0_hasRhythm.2.1 4 = .ok (.iload_n 1, 1) := by decide +kernel
theorem dd_X0_hasRhythm_5 : decode X0_hasRhythm.2.1 5 = .ok (.aload_n 0, 1) := by decide +kernel
theorem dd_X0_hasRhythm_6 : decode X0_hasRhythm.2.1 6 = .ok (.getfield 36, 3) := by decide +kernel
theorem dd_X0_hasRhythm_9 : decode X0_hasRhythm.2.1 9 = .ok (.if_icmp .ge 7, 3) := by decide +kernel
theorem dd_X0_hasRhythm_12 : decode X0_hasRhythm.2.1 12 = .ok (.iconst 1, 1) := by decide +kernel
theorem dd_X0_hasRhythm_13 : decode X0_hasRhythm.2.1 13 = .ok (.goto 4, 3) := by decide +kernel
theorem dd_X0_hasRhythm_16 : decode X0_hasRhythm.2.1 16 = .ok (.iconst 0, 1) := by decide +kernel
theorem dd_X0_hasRhythm_17 : decode X0_hasRhythm.2.1 17 = .ok (.ireturn, 1) := by decide +kernel
theorem dd_X0_addRhythm_0 : decode X0_addRhythm.2.1 0 = .ok (.aload_n 0, 1) := by decide +kernel
theorem dd_X0_addRhythm_1 : decode X0_addRhythm.2.1 1 = .ok (.getfield 36, 3) := by decide +kernel
theorem dd_X0_addRhythm_4 : decode X0_addRhythm.2.1 4 = .ok (.bipush 8, 2) := by decide +kernel
theorem dd_X0_addRhythm_6 : decode X0_addRhythm.2.1 6 = .ok (.if_icmp .ge 23, 3) := by decide +kernel
theorem dd_X0_addRhythm_9 : decode X0_addRhythm.2.1 9 = .ok (.aload_n 0, 1) := by decide +kernel
theorem dd_X0_addRhythm_10 : decode X0_addRhythm.2.1 10 = .ok (.getfield 9, 3) := by decide +kernel
theorem dd_X0_addRhythm_13 : decode X0_addRhythm.2.1 13 = .ok (.aload_n 0, 1) := by decide +kernel
theorem dd_X0_addRhythm_14 : decode X0_addRhythm.2.1 14 = .ok (.getfield 36, 3) := by decide +kernel
theorem dd_X0_addRhythm_17 : decode X0_addRhythm.2.1 17 = .ok (.iload_n 1, 1) := by decide +kernel
theorem dd_X0_addRhythm_18 : decode X0_addRhythm.2.1 18 = .ok (.iastore, 1) := by decide +kernel
theorem dd_X0_addRhythm_19 : decode X0_addRhythm.2.1 19 = .ok (.aload_n 0, 1) := by decide +kernel
theorem dd_X0_addRhythm_20 : decode X0_addRhythm.2.1 20 = .ok (.dup, 1) := by decide +kernel
theorem dd_X0_addRhythm_21 : decode X0_addRhythm.2.1 21 = .ok (.getfield 36, 3) := by decide +kernel
theorem dd_X0_addRhythm_24 : decode X0_addRhythm.2.1 24 = .ok (.iconst 1, 1) := by decide +kernel
theorem dd_X0_addRhythm_25 : decode X0_addRhythm.2.1 25 = .ok (.iadd, 1) := by decide +kernel
theorem dd_X0_addRhythm_26 : decode X0_addRhythm.2.1 26 = .ok (.putfield 36, 3) := by decide +kernel
theorem dd_X0_addRhythm_29 : decode X0_addRhythm.2.1 29 = .ok (.return_, 1) := by decide +kernel
theorem dd_X0_hasFlash_0 : decode X0_hasFlash.2.1 0 = .ok (.aload_n 0, 1) := by decide +kernel
theorem dd_X0_hasFlash_1 : decode X0_hasFlash.2.1 1 = .ok (.iload_n 1, 1) := by decide +kernel
theorem dd_X0_hasFlash_2 : decode X0_hasFlash.2.1 2 = .ok (.invokevirtual 50, 3) := by decide +kernel
theorem dd_X0_hasFlash_5 : decode X0_hasFlash.2.1 5 = .ok (.ifCond .eq 28, 3) := by decide +kernel
theorem dd_X0_hasFlash_8 : decode X0_hasFlash.2.1 8 = .ok (.aload_n 0, 1) := by decide +kernel
theorem dd_X0_hasFlash_9 : decode X0_hasFlash.2.1 9 = .ok (.getfield 9, 3) := by decide +kernel
theorem dd_X0_hasFlash_12 : decode X0_hasFlash.2.1 12 = .ok (.iload_n 1, 1) := by decide +kernel
theorem dd_X0_hasFlash_13 : decode X0_hasFlash.2.1 13 = .ok (.iaload, 1) := by decide +kernel
theorem dd_X0_hasFlash_14 : decode X0_hasFlash.2.1 14 = .ok (.aload_n 0, 1) := by decide +kernel
theorem dd_X0_hasFlash_15 : decode X0_hasFlash.2.1 15 = .ok (.getfield 26, 3) := by decide +kernel
theorem dd_X0_hasFlash_18 : decode X0_hasFlash.2.1 18 = .ok (.iconst 1, 1) := by decide +kernel
theorem dd_X0_hasFlash_19 : decode X0_hasFlash.2.1 19 = .ok (.isub, 1) := by decide +kernel
theorem dd_X0_hasFlash_20 : decode X0_hasFlash.2.1 20 = .ok (.iload_n 2, 1) := by decide +kernel
theorem dd_X0_hasFlash_21 : decode X0_hasFlash.2.1 21 = .ok (.isub, 1) := by decide +kernel
theorem dd_X0_hasFlash_22 : decode X0_hasFlash.2.1 22 = .ok (.ishr, 1) := by decide +kernel
theorem dd_X0_hasFlash_23 : decode X0_hasFlash.2.1 23 = .ok (.iconst 1, 1) := by decide +kernel
theorem dd_X0_hasFlash_24 : decode X0_hasFlash.2.1 24 = .ok (.iand, 1) := by decide +kernel
theorem dd_X0_hasFlash_25 : decode X0_hasFlash.2.1 25 = .ok (.iconst 1, 1) := by decide +kernel
theorem dd_X0_hasFlash_26 : decode X0_hasFlash.2.1 26 = .ok (.if_icmp .ne 7, 3) := by decide +kernel
theorem dd_X0_hasFlash_29 : decode X0_hasFlash.2.1 29 = .ok (.iconst 1, 1) := by decide +kernel
theorem dd_X0_hasFlash_30 : decode X0_hasFlash.2.1 30 = .ok (.goto 4, 3) := by decide +kernel
theorem dd_X0_hasFlash_33 : decode X0_hasFlash.2.1 33 = .ok (.iconst 0, 1) := by decide +kernel
theorem dd_X0_hasFlash_34 : decode X0_hasFlash.2.1 34 = .ok (.ireturn, 1) := by decide +kernel
theorem dd_X0_turned_0 : decode X0_turned.2.1 0 = .ok (.aload_n 0, 1) := by decide +kernel
theorem dd_X0_turned_1 : decode X0_turned.2.1 1 = .ok (.getfield 9, 3) := by decide +kernel
theorem dd_X0_turned_4 : decode X0_turned.2.1 4 = .ok (.iload_n 1, 1) := by decide +kernel
theorem dd_X0_turned_5 : decode X0_turned.2.1 5 = .ok (.iaload, 1) := by decide +kernel
theorem dd_X0_turned_6 : decode X0_turned.2.1 6 = .ok (.istore_n 3, 1) := by decide +kernel
theorem dd_X0_turned_7 : decode X0_turned.2.1 7 = .ok (.iconst 1, 1) := by decide +kernel
theorem dd_X0_turned_8 : decode X0_turned.2.1 8 = .ok (.aload_n 0, 1) := by decide +kernel
theorem dd_X0_turned_9 : decode X0_turned.2.1 9 = .ok (.getfield 26, 3) := by decide +kernel
theorem dd_X0_turned_12 : decode X0_turned.2.1 12 = .ok (.ishl, 1) := by decide +kernel
theorem dd_X0_turned_13 : decode X0_turned.2.1 13 = .ok (.iconst 1, 1) := by decide +kernel
theorem dd_X0_turned_14 : decode X0_turned.2.1 14 = .ok (.isub, 1) := by decide +kernel
theorem dd_X0_turned_15 : decode X0_turned.2.1 15 = .ok (.istore 4, 2) := by decide +kernel
theorem dd_X0_turned_17 : decode X0_turned.2.1 17 = .ok (.iload_n 3, 1) := by decide +kernel
theorem dd_X0_turned_18 : decode X0_turned.2.1 18 = .ok (.iload_n 2, 1) := by decide +kernel
theorem dd_X0_turned_19 : decode X0_turned.2.1 19 = .ok (.ishl, 1) := by decide +kernel
theorem dd_X0_turned_20 : decode X0_turned.2.1 20 = .ok (.iload_n 3, 1) := by decide +kernel
theorem dd_X0_turned_21 : decode X0_turned.2.1 21 = .ok (.aload_n 0, 1) := by decide +kernel
theorem dd_X0_turned_22 : decode X0_turned.2.1 22 = .ok (.getfield 26, 3) := by decide +kernel
theorem dd_X0_turned_25 : decode X0_turned.2.1 25 = .ok (.iload_n 2, 1) := by decide +kernel
theorem dd_X0_turned_26 : decode X0_turned.2.1 26 = .ok (.isub, 1) := by decide +kernel
theorem dd_X0_turned_27 : decode X0_turned.2.1 27 = .ok (.ishr, 1) := by decide +kernel
theorem dd_X0_turned_28 : decode X0_turned.2.1 28 = .ok (.ior, 1) := by decide +kernel
theorem dd_X0_turned_29 : decode X0_turned.2.1 29 = .ok (.iload 4, 2) := by decide +kernel
theorem dd_X0_turned_31 : decode X0_turned.2.1 31 = .ok (.iand, 1) := by decide +kernel
theorem dd_X0_turned_32 : decode X0_turned.2.1 32 = .ok (.ireturn, 1) := by decide +kernel
theorem dd_X0_turnsToLeast_0 : decode X0_turnsToLeast.2.1 0 = .ok (.iconst 0, 1) := by decide +kernel
theorem dd_X0_turnsToLeast_1 : decode X0_turnsToLeast.2.1 1 = .ok (.istore_n 2, 1) := by decide +kernel
theorem dd_X0_turnsToLeast_2 : decode X0_turnsToLeast.2.1 2 = .ok (.iconst 1, 1) := by decide +kernel
theorem dd_X0_turnsToLeast_3 : decode X0_turnsToLeast.2.1 3 = .ok (.istore_n 3, 1) := by decide +kernel
theorem dd_X0_turnsToLeast_4 : decode X0_turnsToLeast.2.1 4 = .ok (.iload_n 3, 1) := by decide +kernel
theorem dd_X0_turnsToLeast_5 : decode X0_turnsToLeast.2.1 5 = .ok (.aload_n 0, 1) := by decide +kernel
theorem dd_X0_turnsToLeast_6 : decode X0_turnsToLeast.2.1 6 = .ok (.getfield 26, 3) := by decide +kernel
theorem dd_X0_turnsToLeast_9 : decode X0_turnsToLeast.2.1 9 = .ok (.if_icmp .ge 26, 3) := by decide +kernel
theorem dd_X0_turnsToLeast_12 : decode X0_turnsToLeast.2.1 12 = .ok (.aload_n 0, 1) := by decide +kernel
theorem dd_X0_turnsToLeast_13 : decode X0_turnsToLeast.2.1 13 = .ok (.iload_n 1, 1) := by decide +kernel
theorem dd_X0_turnsToLeast_14 : decode X0_turnsToLeast.2.1 14 = .ok (.iload_n 3, 1) := by decide +kernel
theorem dd_X0_turnsToLeast_15 : decode X0_turnsToLeast.2.1 15 = .ok (.invokevirtual 54, 3) := by decide +kernel
theorem dd_X0_turnsToLeast_18 : decode X0_turnsToLeast.2.1 18 = .ok (.aload_n 0, 1) := by decide +kernel
theorem dd_X0_turnsToLeast_19 : decode X0_turnsToLeast.2.1 19 = .ok (.iload_n 1, 1) := by decide +kernel
theorem dd_X0_turnsToLeast_20 : decode X0_turnsToLeast.2.1 20 = .ok (.iload_n 2, 1) := by decide +kernel
theorem dd_X0_turnsToLeast_21 : decode X0_turnsToLeast.2.1 21 = .ok (.invokevirtual 54, 3) := by decide +kernel
theorem dd_X0_turnsToLeast_24 : decode X0_turnsToLeast.2.1 24 = .ok (.if_icmp .ge 5, 3) := by decide +kernel
theorem dd_X0_turnsToLeast_27 : decode X0_turnsToLeast.2.1 27 = .ok (.iload_n 3, 1) := by decide +kernel
theorem dd_X0_turnsToLeast_28 : decode X0_turnsToLeast.2.1 28 = .ok (.istore_n 2, 1) := by decide +kernel
theorem dd_X0_turnsToLeast_29 : decode X0_turnsToLeast.2.1 29 = .ok (.iinc 3 1, 3) := by decide +kernel
theorem dd_X0_turnsToLeast_32 : decode X0_turnsToLeast.2.1 32 = .ok (.goto (-28), 3) := by decide +kernel
theorem dd_X0_turnsToLeast_35 : decode X0_turnsToLeast.2.1 35 = .ok (.iload_n 2, 1) := by decide +kernel
theorem dd_X0_turnsToLeast_36 : decode X0_turnsToLeast.2.1 36 = .ok (.ireturn, 1) := by decide +kernel
theorem dd_X0_repeats_0 : decode X0_repeats.2.1 0 = .ok (.iconst 1, 1) := by decide +kernel
theorem dd_X0_repeats_1 : decode X0_repeats.2.1 1 = .ok (.istore_n 2, 1) := by decide +kernel
theorem dd_X0_repeats_2 : decode X0_repeats.2.1 2 = .ok (.iload_n 2, 1) := by decide +kernel
theorem dd_X0_repeats_3 : decode X0_repeats.2.1 3 = .ok (.aload_n 0, 1) := by decide +kernel
theorem dd_X0_repeats_4 : decode X0_repeats.2.1 4 = .ok (.getfield 26, 3) := by decide +kernel
theorem dd_X0_repeats_7 : decode X0_repeats.2.1 7 = .ok (.if_icmp .ge 26, 3) := by decide +kernel
theorem dd_X0_repeats_10 : decode X0_repeats.2.1 10 = .ok (.aload_n 0, 1) := by decide +kernel
theorem dd_X0_repeats_11 : decode X0_repeats.2.1 11 = .ok (.iload_n 1, 1) := by decide +kernel
theorem dd_X0_repeats_12 : decode X0_repeats.2.1 12 = .ok (.iload_n 2, 1) := by decide +kernel
theorem dd_X0_repeats_13 : decode X0_repeats.2.1 13 = .ok (.invokevirtual 54, 3) := by decide +kernel
theorem dd_X0_repeats_16 : decode X0_repeats.2.1 16 = .ok (.aload_n 0, 1) := by decide +kernel
theorem dd_X0_repeats_17 : decode X0_repeats.2.1 17 = .ok (.getfield 9, 3) := by decide +kernel
theorem dd_X0_repeats_20 : decode X0_repeats.2.1 20 = .ok (.iload_n 1, 1) := by decide +kernel
theorem dd_X0_repeats_21 : decode X0_repeats.2.1 21 = .ok (.iaload, 1) := by decide +kernel
theorem dd_X0_repeats_22 : decode X0_repeats.2.1 22 = .ok (.if_icmp .ne 5, 3) := by decide +kernel
theorem dd_X0_repeats_25 : decode X0_repeats.2.1 25 = .ok (.iload_n 2, 1) := by decide +kernel
theorem dd_X0_repeats_26 : decode X0_repeats.2.1 26 = .ok (.ireturn, 1) := by decide +kernel
theorem dd_X0_repeats_27 : decode X0_repeats.2.1 27 = .ok (.iinc 2 1, 3) := by decide +kernel
theorem dd_X0_repeats_30 : decode X0_repeats.2.1 30 = .ok (.goto (-28), 3) := by decide +kernel
theorem dd_X0_repeats_33 : decode X0_repeats.2.1 33 = .ok (.aload_n 0, 1) := by decide +kernel
theorem dd_X0_repeats_34 : decode X0_repeats.2.1 34 = .ok (.getfield 26, 3) := by decide +kernel
theorem dd_X0_repeats_37 : decode X0_repeats.2.1 37 = .ok (.ireturn, 1) := by decide +kernel
theorem dd_X0_areSuch_0 : decode X0_areSuch.2.1 0 = .ok (.aload_n 0, 1) := by decide +kernel
theorem dd_X0_areSuch_1 : decode X0_areSuch.2.1 1 = .ok (.iload_n 1, 1) := by decide +kernel
theorem dd_X0_areSuch_2 : decode X0_areSuch.2.1 2 = .ok (.invokevirtual 50, 3) := by decide +kernel
theorem dd_X0_areSuch_5 : decode X0_areSuch.2.1 5 = .ok (.ifCond .eq 29, 3) := by decide +kernel
theorem dd_X0_areSuch_8 : decode X0_areSuch.2.1 8 = .ok (.aload_n 0, 1) := by decide +kernel
theorem dd_X0_areSuch_9 : decode X0_areSuch.2.1 9 = .ok (.iload_n 2, 1) := by decide +kernel
theorem dd_X0_areSuch_10 : decode X0_areSuch.2.1 10 = .ok (.invokevirtual 50, 3) := by decide +kernel
theorem dd_X0_areSuch_13 : decode X0_areSuch.2.1 13 = .ok (.ifCond .eq 21, 3) := by decide +kernel
theorem dd_X0_areSuch_16 : decode X0_areSuch.2.1 16 = .ok (.aload_n 0, 1) := by decide +kernel
theorem dd_X0_areSuch_17 : decode X0_areSuch.2.1 17 = .ok (.iload_n 1, 1) := by decide +kernel
theorem dd_X0_areSuch_18 : decode X0_areSuch.2.1 18 = .ok (.iload_n 2, 1) := by decide +kernel
theorem dd_X0_areSuch_19 : decode X0_areSuch.2.1 19 = .ok (.aload_n 0, 1) := by decide +kernel
theorem dd_X0_areSuch_20 : decode X0_areSuch.2.1 20 = .ok (.getfield 30, 3) := by decide +kernel
theorem dd_X0_areSuch_23 : decode X0_areSuch.2.1 23 = .ok (.iload_n 3, 1) := by decide +kernel
theorem dd_X0_areSuch_24 : decode X0_areSuch.2.1 24 = .ok (.invokevirtual 58, 3) := by decide +kernel
theorem dd_X0_areSuch_27 : decode X0_areSuch.2.1 27 = .ok (.ifCond .eq 7, 3) := by decide +kernel
theorem dd_X0_areSuch_30 : decode X0_areSuch.2.1 30 = .ok (.iconst 1, 1) := by decide +kernel
theorem dd_X0_areSuch_31 : decode X0_areSuch.2.1 31 = .ok (.goto 4, 3) := by decide +kernel
theorem dd_X0_areSuch_34 : decode X0_areSuch.2.1 34 = .ok (.iconst 0, 1) := by decide +kernel
theorem dd_X0_areSuch_35 : decode X0_areSuch.2.1 35 = .ok (.ireturn, 1) := by decide +kernel
theorem dd_X0_shareRow_0 : decode X0_shareRow.2.1 0 = .ok (.aload_n 0, 1) := by decide +kernel
theorem dd_X0_shareRow_1 : decode X0_shareRow.2.1 1 = .ok (.getfield 26, 3) := by decide +kernel
theorem dd_X0_shareRow_4 : decode X0_shareRow.2.1 4 = .ok (.iload_n 3, 1) := by decide +kernel
theorem dd_X0_shareRow_5 : decode X0_shareRow.2.1 5 = .ok (.isub, 1) := by decide +kernel
theorem dd_X0_shareRow_6 : decode X0_shareRow.2.1 6 = .ok (.istore 5, 2) := by decide +kernel
theorem dd_X0_shareRow_8 : decode X0_shareRow.2.1 8 = .ok (.iconst 0, 1) := by decide +kernel
theorem dd_X0_shareRow_9 : decode X0_shareRow.2.1 9 = .ok (.istore 6, 2) := by decide +kernel
theorem dd_X0_shareRow_11 : decode X0_shareRow.2.1 11 = .ok (.iload 6, 2) := by decide +kernel
theorem dd_X0_shareRow_13 : decode X0_shareRow.2.1 13 = .ok (.aload_n 0, 1) := by decide +kernel
theorem dd_X0_shareRow_14 : decode X0_shareRow.2.1 14 = .ok (.getfield 26, 3) := by decide +kernel
theorem dd_X0_shareRow_17 : decode X0_shareRow.2.1 17 = .ok (.if_icmp .ge 62, 3) := by decide +kernel
theorem dd_X0_shareRow_20 : decode X0_shareRow.2.1 20 = .ok (.aload_n 0, 1) := by decide +kernel
theorem dd_X0_shareRow_21 : decode X0_shareRow.2.1 21 = .ok (.iload_n 1, 1) := by decide +kernel
theorem dd_X0_shareRow_22 : decode X0_shareRow.2.1 22 = .ok (.iload 6, 2) := by decide +kernel
theorem dd_X0_shareRow_24 : decode X0_shareRow.2.1 24 = .ok (.invokevirtual 54, 3) := by decide +kernel
theorem dd_X0_shareRow_27 : decode X0_shareRow.2.1 27 = .ok (.iload 5, 2) := by decide +kernel
theorem dd_X0_shareRow_29 : decode X0_shareRow.2.1 29 = .ok (.ishr, 1) := by decide +kernel
theorem dd_X0_shareRow_30 : decode X0_shareRow.2.1 30 = .ok (.istore 7, 2) := by decide +kernel
theorem dd_X0_shareRow_32 : decode X0_shareRow.2.1 32 = .ok (.iconst 0, 1) := by decide +kernel
theorem dd_X0_shareRow_33 : decode X0_shareRow.2.1 33 = .ok (.istore 8, 2) := by decide +kernel
theorem dd_X0_shareRow_35 : decode X0_shareRow.2.1 35 = .ok (.iload 8, 2) := by decide +kernel
theorem dd_X0_shareRow_37 : decode X0_shareRow.2.1 37 = .ok (.aload_n 0, 1) := by decide +kernel
theorem dd_X0_shareRow_38 : decode X0_shareRow.2.1 38 = .ok (.getfield 26, 3) := by decide +kernel
theorem dd_X0_shareRow_41 : decode X0_shareRow.2.1 41 = .ok (.if_icmp .ge 32, 3) := by decide +kernel
theorem dd_X0_shareRow_44 : decode X0_shareRow.2.1 44 = .ok (.iload 7, 2) := by decide +kernel
theorem dd_X0_shareRow_46 : decode X0_shareRow.2.1 46 = .ok (.aload_n 0, 1) := by decide +kernel
theorem dd_X0_shareRow_47 : decode X0_shareRow.2.1 47 = .ok (.iload_n 2, 1) := by decide +kernel
theorem dd_X0_shareRow_48 : decode X0_shareRow.2.1 48 = .ok (.iload 8, 2) := by decide +kernel
theorem dd_X0_shareRow_50 : decode X0_shareRow.2.1 50 = .ok (.invokevirtual 54, 3) := by decide +kernel
theorem dd_X0_shareRow_53 : decode X0_shareRow.2.1 53 = .ok (.iload 5, 2) := by decide +kernel
theorem dd_X0_shareRow_55 : decode X0_shareRow.2.1 55 = .ok (.ishr, 1) := by decide +kernel
theorem dd_X0_shareRow_56 : decode X0_shareRow.2.1 56 = .ok (.ixor, 1) := by decide +kernel
theorem dd_X0_shareRow_57 : decode X0_shareRow.2.1 57 = .ok (.invokestatic 62, 3) := by decide +kernel
theorem dd_X0_shareRow_60 : decode X0_shareRow.2.1 60 = .ok (.iload 4, 2) := by decide +kernel
theorem dd_X0_shareRow_62 : decode X0_shareRow.2.1 62 = .ok (.if_icmp .gt 5, 3) := by decide +kernel
theorem dd_X0_shareRow_65 : decode X0_shareRow.2.1 65 = .ok (.iconst 1, 1) := by decide +kernel
theorem dd_X0_shareRow_66 : decode X0_shareRow.2.1 66 = .ok (.ireturn, 1) := by decide +kernel
theorem dd_X0_shareRow_67 : decode X0_shareRow.2.1 67 = .ok (.iinc 8 1, 3) := by decide +kernel
theorem dd_X0_shareRow_70 : decode X0_shareRow.2.1 70 = .ok (.goto (-35), 3) := by decide +kernel
theorem dd_X0_shareRow_73 : decode X0_shareRow.2.1 73 = .ok (.iinc 6 1, 3) := by decide +kernel
theorem dd_X0_shareRow_76 : decode X0_shareRow.2.1 76 = .ok (.goto (-65), 3) := by decide +kernel
theorem dd_X0_shareRow_79 : decode X0_shareRow.2.1 79 = .ok (.iconst 0, 1) := by decide +kernel
theorem dd_X0_shareRow_80 : decode X0_shareRow.2.1 80 = .ok (.ireturn, 1) := by decide +kernel
theorem dd_X0_suchOnes_0 : decode X0_suchOnes.2.1 0 = .ok (.iconst 0, 1) := by decide +kernel
theorem dd_X0_suchOnes_1 : decode X0_suchOnes.2.1 1 = .ok (.istore_n 3, 1) := by decide +kernel
theorem dd_X0_suchOnes_2 : decode X0_suchOnes.2.1 2 = .ok (.iconst 0, 1) := by decide +kernel
theorem dd_X0_suchOnes_3 : decode X0_suchOnes.2.1 3 = .ok (.istore 4, 2) := by decide +kernel
theorem dd_X0_suchOnes_5 : decode X0_suchOnes.2.1 5 = .ok (.iload 4, 2) := by decide +kernel
theorem dd_X0_suchOnes_7 : decode X0_suchOnes.2.1 7 = .ok (.aload_n 0, 1) := by decide +kernel
theorem dd_X0_suchOnes_8 : decode X0_suchOnes.2.1 8 = .ok (.getfield 36, 3) := by decide +kernel
theorem dd_X0_suchOnes_11 : decode X0_suchOnes.2.1 11 = .ok (.if_icmp .ge 27, 3) := by decide +kernel
theorem dd_X0_suchOnes_14 : decode X0_suchOnes.2.1 14 = .ok (.aload_n 0, 1) := by decide +kernel
theorem dd_X0_suchOnes_15 : decode X0_suchOnes.2.1 15 = .ok (.iload_n 1, 1) := by decide +kernel
theorem dd_X0_suchOnes_16 : decode X0_suchOnes.2.1 16 = .ok (.iload 4, 2) := by decide +kernel
theorem dd_X0_suchOnes_18 : decode X0_suchOnes.2.1 18 = .ok (.iload_n 2, 1) := by decide +kernel
theorem dd_X0_suchOnes_19 : decode X0_suchOnes.2.1 19 = .ok (.invokevirtual 68, 3) := by decide +kernel
theorem dd_X0_suchOnes_22 : decode X0_suchOnes.2.1 22 = .ok (.ifCond .eq 10, 3) := by decide +kernel
theorem dd_X0_suchOnes_25 : decode X0_suchOnes.2.1 25 = .ok (.iload_n 3, 1) := by decide +kernel
theorem dd_X0_suchOnes_26 : decode X0_suchOnes.2.1 26 = .ok (.iconst 1, 1) := by decide +kernel
theorem dd_X0_suchOnes_27 : decode X0_suchOnes.2.1 27 = .ok (.iload 4, 2) := by decide +kernel
theorem dd_X0_suchOnes_29 : decode X0_suchOnes.2.1 29 = .ok (.ishl, 1) := by decide +kernel
theorem dd_X0_suchOnes_30 : decode X0_suchOnes.2.1 30 = .ok (.ior, 1) := by decide +kernel
theorem dd_X0_suchOnes_31 : decode X0_suchOnes.2.1 31 = .ok (.istore_n 3, 1) := by decide +kernel
theorem dd_X0_suchOnes_32 : decode X0_suchOnes.2.1 32 = .ok (.iinc 4 1, 3) := by decide +kernel
theorem dd_X0_suchOnes_35 : decode X0_suchOnes.2.1 35 = .ok (.goto (-30), 3) := by decide +kernel
theorem dd_X0_suchOnes_38 : decode X0_suchOnes.2.1 38 = .ok (.iload_n 3, 1) := by decide +kernel
theorem dd_X0_suchOnes_39 : decode X0_suchOnes.2.1 39 = .ok (.ireturn, 1) := by decide +kernel
theorem dd_X1_remember_0 : decode X1_remember.2.1 0 = .ok (.aload_n 0, 1) := by decide +kernel
theorem dd_X1_remember_1 : decode X1_remember.2.1 1 = .ok (.getfield 21, 3) := by decide +kernel
theorem dd_X1_remember_4 : decode X1_remember.2.1 4 = .ok (.bipush 8, 2) := by decide +kernel
theorem dd_X1_remember_6 : decode X1_remember.2.1 6 = .ok (.if_icmp .lt 7, 3) := by decide +kernel
theorem dd_X1_remember_9 : decode X1_remember.2.1 9 = .ok (.aload_n 0, 1) := by decide +kernel
theorem dd_X1_remember_10 : decode X1_remember.2.1 10 = .ok (.invokevirtual 25, 3) := by decide +kernel
theorem dd_X1_remember_13 : decode X1_remember.2.1 13 = .ok (.aload_n 0, 1) := by decide +kernel
theorem dd_X1_remember_14 : decode X1_remember.2.1 14 = .ok (.getfield 9, 3) := by decide +kernel
theorem dd_X1_remember_17 : decode X1_remember.2.1 17 = .ok (.aload_n 0, 1) := by decide +kernel
theorem dd_X1_remember_18 : decode X1_remember.2.1 18 = .ok (.getfield 21, 3) := by decide +kernel
theorem dd_X1_remember_21 : decode X1_remember.2.1 21 = .ok (.iload_n 2, 1) := by decide +kernel
theorem dd_X1_remember_22 : decode X1_remember.2.1 22 = .ok (.iastore, 1) := by decide +kernel
theorem dd_X1_remember_23 : decode X1_remember.2.1 23 = .ok (.aload_n 0, 1) := by decide +kernel
theorem dd_X1_remember_24 : decode X1_remember.2.1 24 = .ok (.getfield 15, 3) := by decide +kernel
theorem dd_X1_remember_27 : decode X1_remember.2.1 27 = .ok (.aload_n 0, 1) := by decide +kernel
theorem dd_X1_remember_28 : decode X1_remember.2.1 28 = .ok (.getfield 21, 3) := by decide +kernel
theorem dd_X1_remember_31 : decode X1_remember.2.1 31 = .ok (.aload_n 1, 1) := by decide +kernel
theorem dd_X1_remember_32 : decode X1_remember.2.1 32 = .ok (.getfield 28, 3) := by decide +kernel
theorem dd_X1_remember_35 : decode X1_remember.2.1 35 = .ok (.iload_n 2, 1) := by decide +kernel
theorem dd_X1_remember_36 : decode X1_remember.2.1 36 = .ok (.iaload, 1) := by decide +kernel
theorem dd_X1_remember_37 : decode X1_remember.2.1 37 = .ok (.iastore, 1) := by decide +kernel
theorem dd_X1_remember_38 : decode X1_remember.2.1 38 = .ok (.aload_n 0, 1) := by decide +kernel
theorem dd_X1_remember_39 : decode X1_remember.2.1 39 = .ok (.getfield 18, 3) := by decide +kernel
theorem dd_X1_remember_42 : decode X1_remember.2.1 42 = .ok (.aload_n 0, 1) := by decide +kernel
theorem dd_X1_remember_43 : decode X1_remember.2.1 43 = .ok (.getfield 21, 3) := by decide +kernel
theorem dd_X1_remember_46 : decode X1_remember.2.1 46 = .ok (.aload_n 1, 1) := by decide +kernel
theorem dd_X1_remember_47 : decode X1_remember.2.1 47 = .ok (.getfield 33, 3) := by decide +kernel
theorem dd_X1_remember_50 : decode X1_remember.2.1 50 = .ok (.iload_n 2, 1) := by decide +kernel
theorem dd_X1_remember_51 : decode X1_remember.2.1 51 = .ok (.iaload, 1) := by decide +kernel
theorem dd_X1_remember_52 : decode X1_remember.2.1 52 = .ok (.iastore, 1) := by decide +kernel
theorem dd_X1_remember_53 : decode X1_remember.2.1 53 = .ok (.aload_n 0, 1) := by decide +kernel
theorem dd_X1_remember_54 : decode X1_remember.2.1 54 = .ok (.dup, 1) := by decide +kernel
theorem dd_X1_remember_55 : decode X1_remember.2.1 55 = .ok (.getfield 21, 3) := by decide +kernel
theorem dd_X1_remember_58 : decode X1_remember.2.1 58 = .ok (.iconst 1, 1) := by decide +kernel
theorem dd_X1_remember_59 : decode X1_remember.2.1 59 = .ok (.iadd, 1) := by decide +kernel
theorem dd_X1_remember_60 : decode X1_remember.2.1 60 = .ok (.putfield 21, 3) := by decide +kernel
theorem dd_X1_remember_63 : decode X1_remember.2.1 63 = .ok (.return_, 1) := by decide +kernel
theorem dd_X1_forgetOldest_0 : decode X1_forgetOldest.2.1 0 = .ok (.aload_n 0, 1) := by decide +kernel
theorem dd_X1_forgetOldest_1 : decode X1_forgetOldest.2.1 1 = .ok (.bipush 7, 2) := by decide +kernel
theorem dd_X1_forgetOldest_3 : decode X1_forgetOldest.2.1 3 = .ok (.putfield 21, 3) := by decide +kernel
theorem dd_X1_forgetOldest_6 : decode X1_forgetOldest.2.1 6 = .ok (.aload_n 0, 1) := by decide +kernel
theorem dd_X1_forgetOldest_7 : decode X1_forgetOldest.2.1 7 = .ok (.getfield 9, 3) := by decide +kernel
theorem dd_X1_forgetOldest_10 : decode X1_forgetOldest.2.1 10 = .ok (.iconst 1, 1) := by decide +kernel
theorem dd_X1_forgetOldest_11 : decode X1_forgetOldest.2.1 11 = .ok (.aload_n 0, 1) := by decide +kernel
theorem dd_X1_forgetOldest_12 : decode X1_forgetOldest.2.1 12 = .ok (.getfield 9, 3) := by decide +kernel
theorem dd_X1_forgetOldest_15 : decode X1_forgetOldest.2.1 15 = .ok (.iconst 0, 1) := by decide +kernel
theorem dd_X1_forgetOldest_16 : decode X1_forgetOldest.2.1 16 = .ok (.aload_n 0, 1) := by decide +kernel
theorem dd_X1_forgetOldest_17 : decode X1_forgetOldest.2.1 17 = .ok (.getfield 21, 3) := by decide +kernel
theorem dd_X1_forgetOldest_20 : decode X1_forgetOldest.2.1 20 = .ok (.invokestatic 36, 3) := by decide +kernel
theorem dd_X1_forgetOldest_23 : decode X1_forgetOldest.2.1 23 = .ok (.aload_n 0, 1) := by decide +kernel
theorem dd_X1_forgetOldest_24 : decode X1_forgetOldest.2.1 24 = .ok (.getfield 15, 3) := by decide +kernel
theorem dd_X1_forgetOldest_27 : decode X1_forgetOldest.2.1 27 = .ok (.iconst 1, 1) := by decide +kernel
theorem dd_X1_forgetOldest_28 : decode X1_forgetOldest.2.1 28 = .ok (.aload_n 0, 1) := by decide +kernel
theorem dd_X1_forgetOldest_29 : decode X1_forgetOldest.2.1 29 = .ok (.getfield 15, 3) := by decide +kernel
theorem dd_X1_forgetOldest_32 : decode X1_forgetOldest.2.1 32 = .ok (.iconst 0, 1) := by decide +kernel
theorem dd_X1_forgetOldest_33 : decode X1_forgetOldest.2.1 33 = .ok (.aload_n 0, 1) := by decide +kernel
theorem dd_X1_forgetOldest_34 : decode X1_forgetOldest.2.1 34 = .ok (.getfield 21, 3) := by decide +kernel
theorem dd_X1_forgetOldest_37 : decode X1_forgetOldest.2.1 37 = .ok (.invokestatic 36, 3) := by decide +kernel
theorem dd_X1_forgetOldest_40 : decode X1_forgetOldest.2.1 40 = .ok (.aload_n 0, 1) := by decide +kernel
theorem dd_X1_forgetOldest_41 : decode X1_forgetOldest.2.1 41 = .ok (.getfield 18, 3) := by decide +kernel
theorem dd_X1_forgetOldest_44 : decode X1_forgetOldest.2.1 44 = .ok (.iconst 1, 1) := by decide +kernel
theorem dd_X1_forgetOldest_45 : decode X1_forgetOldest.2.1 45 = .ok (.aload_n 0, 1) := by decide +kernel
theorem dd_X1_forgetOldest_46 : decode X1_forgetOldest.2.1 46 = .ok (.getfield 18, 3) := by decide +kernel
theorem dd_X1_forgetOldest_49 : decode X1_forgetOldest.2.1 49 = .ok (.iconst 0, 1) := by decide +kernel
theorem dd_X1_forgetOldest_50 : decode X1_forgetOldest.2.1 50 = .ok (.aload_n 0, 1) := by decide +kernel
theorem dd_X1_forgetOldest_51 : decode X1_forgetOldest.2.1 51 = .ok (.getfield 21, 3) := by decide +kernel
theorem dd_X1_forgetOldest_54 : decode X1_forgetOldest.2.1 54 = .ok (.invokestatic 36, 3) := by decide +kernel
theorem dd_X1_forgetOldest_57 : decode X1_forgetOldest.2.1 57 = .ok (.return_, 1) := by decide +kernel
theorem dd_X1_takeBack_0 : decode X1_takeBack.2.1 0 = .ok (.aload_n 0, 1) := by decide +kernel
theorem dd_X1_takeBack_1 : decode X1_takeBack.2.1 1 = .ok (.getfield 21, 3) := by decide +kernel
theorem dd_X1_takeBack_4 : decode X1_takeBack.2.1 4 = .ok (.ifCond .le 59, 3) := by decide +kernel
theorem dd_X1_takeBack_7 : decode X1_takeBack.2.1 7 = .ok (.aload_n 0, 1) := by decide +kernel
theorem dd_X1_takeBack_8 : decode X1_takeBack.2.1 8 = .ok (.dup, 1) := by decide +kernel
theorem dd_X1_takeBack_9 : decode X1_takeBack.2.1 9 = .ok (.getfield 21, 3) := by decide +kernel
theorem dd_X1_takeBack_12 : decode X1_takeBack.2.1 12 = .ok (.iconst 1, 1) := by decide +kernel
theorem dd_X1_takeBack_13 : decode X1_takeBack.2.1 13 = .ok (.isub, 1) := by decide +kernel
theorem dd_X1_takeBack_14 : decode X1_takeBack.2.1 14 = .ok (.putfield 21, 3) := by decide +kernel
theorem dd_X1_takeBack_17 : decode X1_takeBack.2.1 17 = .ok (.aload_n 1, 1) := by decide +kernel
theorem dd_X1_takeBack_18 : decode X1_takeBack.2.1 18 = .ok (.getfield 28, 3) := by decide +kernel
theorem dd_X1_takeBack_21 : decode X1_takeBack.2.1 21 = .ok (.aload_n 0, 1) := by decide +kernel
theorem dd_X1_takeBack_22 : decode X1_takeBack.2.1 22 = .ok (.getfield 9, 3) := by decide +kernel
theorem dd_X1_takeBack_25 : decode X1_takeBack.2.1 25 = .ok (.aload_n 0, 1) := by decide +kernel
theorem dd_X1_takeBack_26 : decode X1_takeBack.2.1 26 = .ok (.getfield 21, 3) := by decide +kernel
theorem dd_X1_takeBack_29 : decode X1_takeBack.2.1 29 = .ok (.iaload, 1) := by decide +kernel
theorem dd_X1_takeBack_30 : decode X1_takeBack.2.1 30 = .ok (.aload_n 0, 1) := by decide +kernel
theorem dd_X1_takeBack_31 : decode X1_takeBack.2.1 31 = .ok (.getfield 15, 3) := by decide +kernel
theorem dd_X1_takeBack_34 : decode X1_takeBack.2.1 34 = .ok (.aload_n 0, 1) := by decide +kernel
theorem dd_X1_takeBack_35 : decode X1_takeBack.2.1 35 = .ok (.getfield 21, 3) := by decide +kernel
theorem dd_X1_takeBack_38 : decode X1_takeBack.2.1 38 = .ok (.iaload, 1) := by decide +kernel
theorem dd_X1_takeBack_39 : decode X1_takeBack.2.1 39 = .ok (.iastore, 1) := by decide +kernel
theorem dd_X1_takeBack_40 : decode X1_takeBack.2.1 40 = .ok (.aload_n 1, 1) := by decide +kernel
theorem dd_X1_takeBack_41 : decode X1_takeBack.2.1 41 = .ok (.getfield 33, 3) := by decide +kernel
theorem dd_X1_takeBack_44 : decode X1_takeBack.2.1 44 = .ok (.aload_n 0, 1) := by decide +kernel
theorem dd_X1_takeBack_45 : decode X1_takeBack.2.1 45 = .ok (.getfield 9, 3) := by decide +kernel
theorem dd_X1_takeBack_48 : decode X1_takeBack.2.1 48 = .ok (.aload_n 0, 1) := by decide +kernel
theorem dd_X1_takeBack_49 : decode X1_takeBack.2.1 49 = .ok (.getfield 21, 3) := by decide +kernel
theorem dd_X1_takeBack_52 : decode X1_takeBack.2.1 52 = .ok (.iaload, 1) := by decide +kernel
theorem dd_X1_takeBack_53 : decode X1_takeBack.2.1 53 = .ok (.aload_n 0, 1) := by decide +kernel
theorem dd_X1_takeBack_54 : decode X1_takeBack.2.1 54 = .ok (.getfield 18, 3) := by decide +kernel
theorem dd_X1_takeBack_57 : decode X1_takeBack.2.1 57 = .ok (.aload_n 0, 1) := by decide +kernel
theorem dd_X1_takeBack_58 : decode X1_takeBack.2.1 58 = .ok (.getfield 21, 3) := by decide +kernel
theorem dd_X1_takeBack_61 : decode X1_takeBack.2.1 61 = .ok (.iaload, 1) := by decide +kernel
theorem dd_X1_takeBack_62 : decode X1_takeBack.2.1 62 = .ok (.iastore, 1) := by decide +kernel
theorem dd_X1_takeBack_63 : decode X1_takeBack.2.1 63 = .ok (.return_, 1) := by decide +kernel
theorem dd_X2_become_0 : decode X2_become.2.1 0 = .ok (.aload_n 0, 1) := by decide +kernel
theorem dd_X2_become_1 : decode X2_become.2.1 1 = .ok (.aload_n 1, 1) := by decide +kernel
theorem dd_X2_become_2 : decode X2_become.2.1 2 = .ok (.getfield 18, 3) := by decide +kernel
theorem dd_X2_become_5 : decode X2_become.2.1 5 = .ok (.putfield 18, 3) := by decide +kernel
theorem dd_X2_become_8 : decode X2_become.2.1 8 = .ok (.aload_n 1, 1) := by decide +kernel
theorem dd_X2_become_9 : decode X2_become.2.1 9 = .ok (.getfield 9, 3) := by decide +kernel
theorem dd_X2_become_12 : decode X2_become.2.1 12 = .ok (.iconst 0, 1) := by decide +kernel
theorem dd_X2_become_13 : decode X2_become.2.1 13 = .ok (.aload_n 0, 1) := by decide +kernel
theorem dd_X2_become_14 : decode X2_become.2.1 14 = .ok (.getfield 9, 3) := by decide +kernel
theorem dd_X2_become_17 : decode X2_become.2.1 17 = .ok (.iconst 0, 1) := by decide +kernel
theorem dd_X2_become_18 : decode X2_become.2.1 18 = .ok (.bipush 6, 2) := by decide +kernel
theorem dd_X2_become_20 : decode X2_become.2.1 20 = .ok (.invokestatic 22, 3) := by decide +kernel
theorem dd_X2_become_23 : decode X2_become.2.1 23 = .ok (.aload_n 1, 1) := by decide +kernel
theorem dd_X2_become_24 : decode X2_become.2.1 24 = .ok (.getfield 15, 3) := by decide +kernel
theorem dd_X2_become_27 : decode X2_become.2.1 27 = .ok (.iconst 0, 1) := by decide +kernel
theorem dd_X2_become_28 : decode X2_become.2.1 28 = .ok (.aload_n 0, 1) := by decide +kernel
theorem dd_X2_become_29 : decode X2_become.2.1 29 = .ok (.getfield 15, 3) := by decide +kernel
theorem dd_X2_become_32 : decode X2_become.2.1 32 = .ok (.iconst 0, 1) := by decide +kernel
theorem dd_X2_become_33 : decode X2_become.2.1 33 = .ok (.bipush 6, 2) := by decide +kernel
theorem dd_X2_become_35 : decode X2_become.2.1 35 = .ok (.invokestatic 22, 3) := by decide +kernel
theorem dd_X2_become_38 : decode X2_become.2.1 38 = .ok (.return_, 1) := by decide +kernel
theorem dd_X2_hasLight_0 : decode X2_hasLight.2.1 0 = .ok (.iload_n 1, 1) := by decide +kernel
theorem dd_X2_hasLight_1 : decode X2_hasLight.2.1 1 = .ok (.ifCond .lt 15, 3) := by decide +kernel
theorem dd_X2_hasLight_4 : decode X2_hasLight.2.1 4 = .ok (.iload_n 1, 1) := by decide +kernel
theorem dd_X2_hasLight_5 : decode X2_hasLight.2.1 5 = .ok (.aload_n 0, 1) := by decide +kernel
theorem dd_X2_hasLight_6 : decode X2_hasLight.2.1 6 = .ok (.getfield 18, 3) := by decide +kernel
theorem dd_X2_hasLight_9 : decode X2_hasLight.2.1 9 = .ok (.if_icmp .ge 7, 3) := by decide +kernel
theorem dd_X2_hasLight_12 : decode X2_hasLight.2.1 12 = .ok (.iconst 1, 1) := by decide +kernel
theorem dd_X2_hasLight_13 : decode X2_hasLight.2.1 13 = .ok (.goto 4, 3) := by decide +kernel
theorem dd_X2_hasLight_16 : decode X2_hasLight.2.1 16 = .ok (.iconst 0, 1) := by decide +kernel
theorem dd_X2_hasLight_17 : decode X2_hasLight.2.1 17 = .ok (.ireturn, 1) := by decide +kernel
theorem dd_X2_addAt_0 : decode X2_addAt.2.1 0 = .ok (.aload_n 0, 1) := by decide +kernel
theorem dd_X2_addAt_1 : decode X2_addAt.2.1 1 = .ok (.getfield 18, 3) := by decide +kernel
theorem dd_X2_addAt_4 : decode X2_addAt.2.1 4 = .ok (.bipush 6, 2) := by decide +kernel
theorem dd_X2_addAt_6 : decode X2_addAt.2.1 6 = .ok (.if_icmp .ge 33, 3) := by decide +kernel
theorem dd_X2_addAt_9 : decode X2_addAt.2.1 9 = .ok (.aload_n 0, 1) := by decide +kernel
theorem dd_X2_addAt_10 : decode X2_addAt.2.1 10 = .ok (.getfield 9, 3) := by decide +kernel
theorem dd_X2_addAt_13 : decode X2_addAt.2.1 13 = .ok (.aload_n 0, 1) := by decide +kernel
theorem dd_X2_addAt_14 : decode X2_addAt.2.1 14 = .ok (.getfield 18, 3) := by decide +kernel
theorem dd_X2_addAt_17 : decode X2_addAt.2.1 17 = .ok (.iload_n 1, 1) := by decide +kernel
theorem dd_X2_addAt_18 : decode X2_addAt.2.1 18 = .ok (.iastore, 1) := by decide +kernel
theorem dd_X2_addAt_19 : decode X2_addAt.2.1 19 = .ok (.aload_n 0, 1) := by decide +kernel
theorem dd_X2_addAt_20 : decode X2_addAt.2.1 20 = .ok (.getfield 15, 3) := by decide +kernel
theorem dd_X2_addAt_23 : decode X2_addAt.2.1 23 = .ok (.aload_n 0, 1) := by decide +kernel
theorem dd_X2_addAt_24 : decode X2_addAt.2.1 24 = .ok (.getfield 18, 3) := by decide +kernel
theorem dd_X2_addAt_27 : decode X2_addAt.2.1 27 = .ok (.iconst (-1), 1) := by decide +kernel
theorem dd_X2_addAt_28 : decode X2_addAt.2.1 28 = .ok (.iastore, 1) := by decide +kernel
theorem dd_X2_addAt_29 : decode X2_addAt.2.1 29 = .ok (.aload_n 0, 1) := by decide +kernel
theorem dd_X2_addAt_30 : decode X2_addAt.2.1 30 = .ok (.dup, 1) := by decide +kernel
theorem dd_X2_addAt_31 : decode X2_addAt.2.1 31 = .ok (.getfield 18, 3) := by decide +kernel
theorem dd_X2_addAt_34 : decode X2_addAt.2.1 34 = .ok (.iconst 1, 1) := by decide +kernel
theorem dd_X2_addAt_35 : decode X2_addAt.2.1 35 = .ok (.iadd, 1) := by decide +kernel
theorem dd_X2_addAt_36 : decode X2_addAt.2.1 36 = .ok (.putfield 18, 3) := by decide +kernel
theorem dd_X2_addAt_39 : decode X2_addAt.2.1 39 = .ok (.return_, 1) := by decide +kernel
theorem dd_X2_neighbours_0 : decode X2_neighbours.2.1 0 = .ok (.iconst 0, 1) := by decide +kernel
theorem dd_X2_neighbours_1 : decode X2_neighbours.2.1 1 = .ok (.istore_n 3, 1) := by decide +kernel
theorem dd_X2_neighbours_2 : decode X2_neighbours.2.1 2 = .ok (.iconst 0, 1) := by decide +kernel
theorem dd_X2_neighbours_3 : decode X2_neighbours.2.1 3 = .ok (.istore 4, 2) := by decide +kernel
theorem dd_X2_neighbours_5 : decode X2_neighbours.2.1 5 = .ok (.iload 4, 2) := by decide +kernel
theorem dd_X2_neighbours_7 : decode X2_neighbours.2.1 7 = .ok (.aload_n 0, 1) := by decide +kernel
theorem dd_X2_neighbours_8 : decode X2_neighbours.2.1 8 = .ok (.getfield 18, 3) := by decide +kernel
theorem dd_X2_neighbours_11 : decode X2_neighbours.2.1 11 = .ok (.if_icmp .ge 43, 3) := by decide +kernel
theorem dd_X2_neighbours_14 : decode X2_neighbours.2.1 14 = .ok (.iload 4, 2) := by decide +kernel
theorem dd_X2_neighbours_16 : decode X2_neighbours.2.1 16 = .ok (.iload_n 1, 1) := by decide +kernel
theorem dd_X2_neighbours_17 : decode X2_neighbours.2.1 17 = .ok (.if_icmp .eq 31, 3) := by decide +kernel
theorem dd_X2_neighbours_20 : decode X2_neighbours.2.1 20 = .ok (.aload_n 0, 1) := by decide +kernel
theorem dd_X2_neighbours_21 : decode X2_neighbours.2.1 21 = .ok (.getfield 9, 3) := by decide +kernel
theorem dd_X2_neighbours_24 : decode X2_neighbours.2.1 24 = .ok (.iload 4, 2) := by decide +kernel
theorem dd_X2_neighbours_26 : decode X2_neighbours.2.1 26 = .ok (.iaload, 1) := by decide +kernel
theorem dd_X2_neighbours_27 : decode X2_neighbours.2.1 27 = .ok (.aload_n 0, 1) := by decide +kernel
theorem dd_X2_neighbours_28 : decode X2_neighbours.2.1 28 = .ok (.getfield 9, 3) := by decide +kernel
theorem dd_X2_neighbours_31 : decode X2_neighbours.2.1 31 = .ok (.iload_n 1, 1) := by decide +kernel
theorem dd_X2_neighbours_32 : decode X2_neighbours.2.1 32 = .ok (.iaload, 1) := by decide +kernel
theorem dd_X2_neighbours_33 : decode X2_neighbours.2.1 33 = .ok (.isub, 1) := by decide +kernel
theorem dd_X2_neighbours_34 : decode X2_neighbours.2.1 34 = .ok (.invokestatic 28, 3) := by decide +kernel
theorem dd_X2_neighbours_37 : decode X2_neighbours.2.1 37 = .ok (.iload_n 2, 1) := by decide +kernel
theorem dd_X2_neighbours_38 : decode X2_neighbours.2.1 38 = .ok (.if_icmp .gt 10, 3) := by decide +kernel
theorem dd_X2_neighbours_41 : decode X2_neighbours.2.1 41 = .ok (.iload_n 3, 1) := by decide +kernel
theorem dd_X2_neighbours_42 : decode X2_neighbours.2.1 42 = .ok (.iconst 1, 1) := by decide +kernel
theorem dd_X2_neighbours_43 : decode X2_neighbours.2.1 43 = .ok (.iload 4, 2) := by decide +kernel
theorem dd_X2_neighbours_45 : decode X2_neighbours.2.1 45 = .ok (.ishl, 1) := by decide +kernel
theorem dd_X2_neighbours_46 : decode X2_neighbours.2.1 46 = .ok (.ior, 1) := by decide +kernel
theorem dd_X2_neighbours_47 : decode X2_neighbours.2.1 47 = .ok (.istore_n 3, 1) := by decide +kernel
theorem dd_X2_neighbours_48 : decode X2_neighbours.2.1 48 = .ok (.iinc 4 1, 3) := by decide +kernel
theorem dd_X2_neighbours_51 : decode X2_neighbours.2.1 51 = .ok (.goto (-46), 3) := by decide +kernel
theorem dd_X2_neighbours_54 : decode X2_neighbours.2.1 54 = .ok (.iload_n 3, 1) := by decide +kernel
theorem dd_X2_neighbours_55 : decode X2_neighbours.2.1 55 = .ok (.ireturn, 1) := by decide +kernel
theorem dd_X2_litOnes_0 : decode X2_litOnes.2.1 0 = .ok (.iconst 0, 1) := by decide +kernel
theorem dd_X2_litOnes_1 : decode X2_litOnes.2.1 1 = .ok (.istore_n 1, 1) := by decide +kernel
theorem dd_X2_litOnes_2 : decode X2_litOnes.2.1 2 = .ok (.iconst 0, 1) := by decide +kernel
theorem dd_X2_litOnes_3 : decode X2_litOnes.2.1 3 = .ok (.istore_n 2, 1) := by decide +kernel
theorem dd_X2_litOnes_4 : decode X2_litOnes.2.1 4 = .ok (.iload_n 2, 1) := by decide +kernel
theorem dd_X2_litOnes_5 : decode X2_litOnes.2.1 5 = .ok (.aload_n 0, 1) := by decide +kernel
theorem dd_X2_litOnes_6 : decode X2_litOnes.2.1 6 = .ok (.getfield 18, 3) := by decide +kernel
theorem dd_X2_litOnes_9 : decode X2_litOnes.2.1 9 = .ok (.if_icmp .ge 25, 3) := by decide +kernel
theorem dd_X2_litOnes_12 : decode X2_litOnes.2.1 12 = .ok (.aload_n 0, 1) := by decide +kernel
theorem dd_X2_litOnes_13 : decode X2_litOnes.2.1 13 = .ok (.getfield 15, 3) := by decide +kernel
theorem dd_X2_litOnes_16 : decode X2_litOnes.2.1 16 = .ok (.iload_n 2, 1) := by decide +kernel
theorem dd_X2_litOnes_17 : decode X2_litOnes.2.1 17 = .ok (.iaload, 1) := by decide +kernel
theorem dd_X2_litOnes_18 : decode X2_litOnes.2.1 18 = .ok (.iconst (-1), 1) := by decide +kernel
theorem dd_X2_litOnes_19 : decode X2_litOnes.2.1 19 = .ok (.if_icmp .eq 9, 3) := by decide +kernel
theorem dd_X2_litOnes_22 : decode X2_litOnes.2.1 22 = .ok (.iload_n 1, 1) := by decide +kernel
theorem dd_X2_litOnes_23 : decode X2_litOnes.2.1 23 = .ok (.iconst 1, 1) := by decide +kernel
theorem dd_X2_litOnes_24 : decode X2_litOnes.2.1 24 = .ok (.iload_n 2, 1) := by decide +kernel
theorem dd_X2_litOnes_25 : decode X2_litOnes.2.1 25 = .ok (.ishl, 1) := by decide +kernel
theorem dd_X2_litOnes_26 : decode X2_litOnes.2.1 26 = .ok (.ior, 1) := by decide +kernel
theorem dd_X2_litOnes_27 : decode X2_litOnes.2.1 27 = .ok (.istore_n 1, 1) := by decide +kernel
theorem dd_X2_litOnes_28 : decode X2_litOnes.2.1 28 = .ok (.iinc 2 1, 3) := by decide +kernel
theorem dd_X2_litOnes_31 : decode X2_litOnes.2.1 31 = .ok (.goto (-27), 3) := by decide +kernel
theorem dd_X2_litOnes_34 : decode X2_litOnes.2.1 34 = .ok (.iload_n 1, 1) := by decide +kernel
theorem dd_X2_litOnes_35 : decode X2_litOnes.2.1 35 = .ok (.ireturn, 1) := by decide +kernel
theorem dd_X2_pairsSeenFrom_0 : decode X2_pairsSeenFrom.2.1 0 = .ok (.lconst 1, 1) := by decide +kernel
theorem dd_X2_pairsSeenFrom_1 : decode X2_pairsSeenFrom.2.1 1 = .ok (.aload_n 2, 1) := by decide +kernel
theorem dd_X2_pairsSeenFrom_2 : decode X2_pairsSeenFrom.2.1 2 = .ok (.getfield 34, 3) := by decide +kernel
theorem dd_X2_pairsSeenFrom_5 : decode X2_pairsSeenFrom.2.1 5 = .ok (.lshl, 1) := by decide +kernel
theorem dd_X2_pairsSeenFrom_6 : decode X2_pairsSeenFrom.2.1 6 = .ok (.lconst 1, 1) := by decide +kernel
theorem dd_X2_pairsSeenFrom_7 : decode X2_pairsSeenFrom.2.1 7 = .ok (.lsub, 1) := by decide +kernel
theorem dd_X2_pairsSeenFrom_8 : decode X2_pairsSeenFrom.2.1 8 = .ok (.lstore_n 3, 1) := by decide +kernel
theorem dd_X2_pairsSeenFrom_9 : decode X2_pairsSeenFrom.2.1 9 = .ok (.lconst 0, 1) := by decide +kernel
theorem dd_X2_pairsSeenFrom_10 : decode X2_pairsSeenFrom.2.1 10 = .ok (.lstore 5, 2) := by decide +kernel
theorem dd_X2_pairsSeenFrom_12 : decode X2_pairsSeenFrom.2.1 12 = .ok (.iconst 0, 1) := by decide +kernel
theorem dd_X2_pairsSeenFrom_13 : decode X2_pairsSeenFrom.2.1 13 = .ok (.istore 7, 2) := by decide +kernel
theorem dd_X2_pairsSeenFrom_15 : decode X2_pairsSeenFrom.2.1 15 = .ok (.iload 7, 2) := by decide +kernel
theorem dd_X2_pairsSeenFrom_17 : decode X2_pairsSeenFrom.2.1 17 = .ok (.aload_n 0, 1) := by decide +kernel
theorem dd_X2_pairsSeenFrom_18 : decode X2_pairsSeenFrom.2.1 18 = .ok (.getfield 18, 3) := by decide +kernel
theorem dd_X2_pairsSeenFrom_21 : decode X2_pairsSeenFrom.2.1 21 = .ok (.if_icmp .ge 51, 3) := by decide +kernel
theorem dd_X2_pairsSeenFrom_24 : decode X2_pairsSeenFrom.2.1 24 = .ok (.aload_n 0, 1) := by decide +kernel
theorem dd_X2_pairsSeenFrom_25 : decode X2_pairsSeenFrom.2.1 25 = .ok (.getfield 15, 3) := by decide +kernel
theorem dd_X2_pairsSeenFrom_28 : decode X2_pairsSeenFrom.2.1 28 = .ok (.iload 7, 2) := by decide +kernel
theorem dd_X2_pairsSeenFrom_30 : decode X2_pairsSeenFrom.2.1 30 = .ok (.iaload, 1) := by decide +kernel
theorem dd_X2_pairsSeenFrom_31 : decode X2_pairsSeenFrom.2.1 31 = .ok (.iconst (-1), 1) := by decide +kernel
theorem dd_X2_pairsSeenFrom_32 : decode X2_pairsSeenFrom.2.1 32 = .ok (.if_icmp .eq 34, 3) := by decide +kernel
theorem dd_X2_pairsSeenFrom_35 : decode X2_pairsSeenFrom.2.1 35 = .ok (.aload_n 0, 1) := by decide +kernel
theorem dd_X2_pairsSeenFrom_36 : decode X2_pairsSeenFrom.2.1 36 = .ok (.getfield 9, 3) := by decide +kernel
theorem dd_X2_pairsSeenFrom_39 : decode X2_pairsSeenFrom.2.1 39 = .ok (.iload 7, 2) := by decide +kernel
theorem dd_X2_pairsSeenFrom_41 : decode X2_pairsSeenFrom.2.1 41 = .ok (.iaload, 1) := by decide +kernel
theorem dd_X2_pairsSeenFrom_42 : decode X2_pairsSeenFrom.2.1 42 = .ok (.iload_n 1, 1) := by decide +kernel
theorem dd_X2_pairsSeenFrom_43 : decode X2_pairsSeenFrom.2.1 43 = .ok (.isub, 1) := by decide +kernel
theorem dd_X2_pairsSeenFrom_44 : decode X2_pairsSeenFrom.2.1 44 = .ok (.invokestatic 28, 3) := by decide +kernel
theorem dd_X2_pairsSeenFrom_47 : decode X2_pairsSeenFrom.2.1 47 = .ok (.aload_n 2, 1) := by decide +kernel
theorem dd_X2_pairsSeenFrom_48 : decode X2_pairsSeenFrom.2.1 48 = .ok (.getfield 39, 3) := by decide +kernel
theorem dd_X2_pairsSeenFrom_51 : decode X2_pairsSeenFrom.2.1 51 = .ok (.if_icmp .gt 15, 3) := by decide +kernel
theorem dd_X2_pairsSeenFrom_54 : decode X2_pairsSeenFrom.2.1 54 = .ok (.lload 5, 2) := by decide +kernel
theorem dd_X2_pairsSeenFrom_56 : decode X2_pairsSeenFrom.2.1 56 = .ok (.lload_n 3, 1) := by decide +kernel
theorem dd_X2_pairsSeenFrom_57 : decode X2_pairsSeenFrom.2.1 57 = .ok (.iload 7, 2) := by decide +kernel
theorem dd_X2_pairsSeenFrom_59 : decode X2_pairsSeenFrom.2.1 59 = .ok (.bipush 8, 2) := by decide +kernel
theorem dd_X2_pairsSeenFrom_61 : decode X2_pairsSeenFrom.2.1 61 = .ok (.imul, 1) := by decide +kernel
theorem dd_X2_pairsSeenFrom_62 : decode X2_pairsSeenFrom.2.1 62 = .ok (.lshl, 1) := by decide +kernel
theorem dd_X2_pairsSeenFrom_63 : decode X2_pairsSeenFrom.2.1 63 = .ok (.lor, 1) := by decide +kernel
theorem dd_X2_pairsSeenFrom_64 : decode X2_pairsSeenFrom.2.1 64 = .ok (.lstore 5, 2) := by decide +kernel
theorem dd_X2_pairsSeenFrom_66 : decode X2_pairsSeenFrom.2.1 66 = .ok (.iinc 7 1, 3) := by decide +kernel
theorem dd_X2_pairsSeenFrom_69 : decode X2_pairsSeenFrom.2.1 69 = .ok (.goto (-54), 3) := by decide +kernel
theorem dd_X2_pairsSeenFrom_72 : decode X2_pairsSeenFrom.2.1 72 = .ok (.lload 5, 2) := by decide +kernel
theorem dd_X2_pairsSeenFrom_74 : decode X2_pairsSeenFrom.2.1 74 = .ok (.lreturn, 1) := by decide +kernel
theorem dd_X2_pairsThatFlash_0 : decode X2_pairsThatFlash.2.1 0 = .ok (.lconst 0, 1) := by decide +kernel
theorem dd_X2_pairsThatFlash_1 : decode X2_pairsThatFlash.2.1 1 = .ok (.lstore_n 2, 1) := by decide +kernel
theorem dd_X2_pairsThatFlash_2 : decode X2_pairsThatFlash.2.1 2 = .ok (.iconst 0, 1) := by decide +kernel
theorem dd_X2_pairsThatFlash_3 : decode X2_pairsThatFlash.2.1 3 = .ok (.istore 4, 2) := by decide +kernel
theorem dd_X2_pairsThatFlash_5 : decode X2_pairsThatFlash.2.1 5 = .ok (.iload 4, 2) := by decide +kernel
theorem dd_X2_pairsThatFlash_7 : decode X2_pairsThatFlash.2.1 7 = .ok (.aload_n 0, 1) := by decide +kernel
theorem dd_X2_pairsThatFlash_8 : decode X2_pairsThatFlash.2.1 8 = .ok (.getfield 18, 3) := by decide +kernel
theorem dd_X2_pairsThatFlash_11 : decode X2_pairsThatFlash.2.1 11 = .ok (.if_icmp .ge 56, 3) := by decide +kernel
theorem dd_X2_pairsThatFlash_14 : decode X2_pairsThatFlash.2.1 14 = .ok (.iconst 0, 1) := by decide +kernel
theorem dd_X2_pairsThatFlash_15 : decode X2_pairsThatFlash.2.1 15 = .ok (.istore 5, 2) := by decide +kernel
theorem dd_X2_pairsThatFlash_17 : decode X2_pairsThatFlash.2.1 17 = .ok (.iload 5, 2) := by decide +kernel
theorem dd_X2_pairsThatFlash_19 : decode X2_pairsThatFlash.2.1 19 = .ok (.aload_n 1, 1) := by decide +kernel
theorem dd_X2_pairsThatFlash_20 : decode X2_pairsThatFlash.2.1 20 = .ok (.getfield 34, 3) := by decide +kernel
theorem dd_X2_pairsThatFlash_23 : decode X2_pairsThatFlash.2.1 23 = .ok (.if_icmp .ge 38, 3) := by decide +kernel
theorem dd_X2_pairsThatFlash_26 : decode X2_pairsThatFlash.2.1 26 = .ok (.aload_n 1, 1) := by decide +kernel
theorem dd_X2_pairsThatFlash_27 : decode X2_pairsThatFlash.2.1 27 = .ok (.aload_n 0, 1) := by decide +kernel
theorem dd_X2_pairsThatFlash_28 : decode X2_pairsThatFlash.2.1 28 = .ok (.getfield 15, 3) := by decide +kernel
theorem dd_X2_pairsThatFlash_31 : decode X2_pairsThatFlash.2.1 31 = .ok (.iload 4, 2) := by decide +kernel
theorem dd_X2_pairsThatFlash_33 : decode X2_pairsThatFlash.2.1 33 = .ok (.iaload, 1) := by decide +kernel
theorem dd_X2_pairsThatFlash_34 : decode X2_pairsThatFlash.2.1 34 = .ok (.iload 5, 2) := by decide +kernel
theorem dd_X2_pairsThatFlash_36 : decode X2_pairsThatFlash.2.1 36 = .ok (.invokevirtual 42, 3) := by decide +kernel
theorem dd_X2_pairsThatFlash_39 : decode X2_pairsThatFlash.2.1 39 = .ok (.ifCond .eq 16, 3) := by decide +kernel
theorem dd_X2_pairsThatFlash_42 : decode X2_pairsThatFlash.2.1 42 = .ok (.lload_n 2, 1) := by decide +kernel
theorem dd_X2_pairsThatFlash_43 : decode X2_pairsThatFlash.2.1 43 = .ok (.lconst 1, 1) := by decide +kernel
theorem dd_X2_pairsThatFlash_44 : decode X2_pairsThatFlash.2.1 44 = .ok (.iload 4, 2) := by decide +kernel
theorem dd_X2_pairsThatFlash_46 : decode X2_pairsThatFlash.2.1 46 = .ok (.bipush 8, 2) := by decide +kernel
theorem dd_X2_pairsThatFlash_48 : decode X2_pairsThatFlash.2.1 48 = .ok (.imul, 1) := by decide +kernel
theorem dd_X2_pairsThatFlash_49 : decode X2_pairsThatFlash.2.1 49 = .ok (.iload 5, 2) := by decide +kernel
theorem dd_X2_pairsThatFlash_51 : decode X2_pairsThatFlash.2.1 51 = .ok (.iadd, 1) := by decide +kernel
theorem dd_X2_pairsThatFlash_52 : decode X2_pairsThatFlash.2.1 52 = .ok (.lshl, 1) := by decide +kernel
theorem dd_X2_pairsThatFlash_53 : decode X2_pairsThatFlash.2.1 53 = .ok (.lor, 1) := by decide +kernel
theorem dd_X2_pairsThatFlash_54 : decode X2_pairsThatFlash.2.1 54 = .ok (.lstore_n 2, 1) := by decide +kernel
theorem dd_X2_pairsThatFlash_55 : decode X2_pairsThatFlash.2.1 55 = .ok (.iinc 5 1, 3) := by decide +kernel
theorem dd_X2_pairsThatFlash_58 : decode X2_pairsThatFlash.2.1 58 = .ok (.goto (-41), 3) := by decide +kernel
theorem dd_X2_pairsThatFlash_61 : decode X2_pairsThatFlash.2.1 61 = .ok (.iinc 4 1, 3) := by decide +kernel
theorem dd_X2_pairsThatFlash_64 : decode X2_pairsThatFlash.2.1 64 = .ok (.goto (-59), 3) := by decide +kernel
theorem dd_X2_pairsThatFlash_67 : decode X2_pairsThatFlash.2.1 67 = .ok (.lload_n 2, 1) := by decide +kernel
theorem dd_X2_pairsThatFlash_68 : decode X2_pairsThatFlash.2.1 68 = .ok (.lreturn, 1) := by decide +kernel
theorem dd_X3_prepare_0 : decode X3_prepare.2.1 0 = .ok (.aload_n 0, 1) := by decide +kernel
theorem dd_X3_prepare_1 : decode X3_prepare.2.1 1 = .ok (.aload_n 1, 1) := by decide +kernel
theorem dd_X3_prepare_2 : decode X3_prepare.2.1 2 = .ok (.getfield 18, 3) := by decide +kernel
theorem dd_X3_prepare_5 : decode X3_prepare.2.1 5 = .ok (.putfield 24, 3) := by decide +kernel
theorem dd_X3_prepare_8 : decode X3_prepare.2.1 8 = .ok (.aload_n 0, 1) := by decide +kernel
theorem dd_X3_prepare_9 : decode X3_prepare.2.1 9 = .ok (.aload_n 2, 1) := by decide +kernel
theorem dd_X3_prepare_10 : decode X3_prepare.2.1 10 = .ok (.iload_n 3, 1) := by decide +kernel
theorem dd_X3_prepare_11 : decode X3_prepare.2.1 11 = .ok (.aload_n 1, 1) := by decide +kernel
theorem dd_X3_prepare_12 : decode X3_prepare.2.1 12 = .ok (.invokevirtual 25, 3) := by decide +kernel
theorem dd_X3_prepare_15 : decode X3_prepare.2.1 15 = .ok (.putfield 31, 3) := by decide +kernel
theorem dd_X3_prepare_18 : decode X3_prepare.2.1 18 = .ok (.aload_n 0, 1) := by decide +kernel
theorem dd_X3_prepare_19 : decode X3_prepare.2.1 19 = .ok (.aload_n 2, 1) := by decide +kernel
theorem dd_X3_prepare_20 : decode X3_prepare.2.1 20 = .ok (.aload_n 1, 1) := by decide +kernel
theorem dd_X3_prepare_21 : decode X3_prepare.2.1 21 = .ok (.invokevirtual 35, 3) := by decide +kernel
theorem dd_X3_prepare_24 : decode X3_prepare.2.1 24 = .ok (.putfield 39, 3) := by decide +kernel
theorem dd_X3_prepare_27 : decode X3_prepare.2.1 27 = .ok (.aload_n 0, 1) := by decide +kernel
theorem dd_X3_prepare_28 : decode X3_prepare.2.1 28 = .ok (.lconst 0, 1) := by decide +kernel
theorem dd_X3_prepare_29 : decode X3_prepare.2.1 29 = .ok (.putfield 42, 3) := by decide +kernel
theorem dd_X3_prepare_32 : decode X3_prepare.2.1 32 = .ok (.iconst 0, 1) := by decide +kernel
theorem dd_X3_prepare_33 : decode X3_prepare.2.1 33 = .ok (.istore 4, 2) := by decide +kernel
theorem dd_X3_prepare_35 : decode X3_prepare.2.1 35 = .ok (.iload 4, 2) := by decide +kernel
theorem dd_X3_prepare_37 : decode X3_prepare.2.1 37 = .ok (.bipush 6, 2) := by decide +kernel
theorem dd_X3_prepare_39 : decode X3_prepare.2.1 39 = .ok (.if_icmp .ge 32, 3) := by decide +kernel
theorem dd_X3_prepare_42 : decode X3_prepare.2.1 42 = .ok (.aload_n 0, 1) := by decide +kernel
theorem dd_X3_prepare_43 : decode X3_prepare.2.1 43 = .ok (.dup, 1) := by decide +kernel
theorem dd_X3_prepare_44 : decode X3_prepare.2.1 44 = .ok (.getfield 42, 3) := by decide +kernel
theorem dd_X3_prepare_47 : decode X3_prepare.2.1 47 = .ok (.lconst 1, 1) := by decide +kernel
theorem dd_X3_prepare_48 : decode X3_prepare.2.1 48 = .ok (.iload 4, 2) := by decide +kernel
theorem dd_X3_prepare_50 : decode X3_prepare.2.1 50 = .ok (.bipush 8, 2) := by decide +kernel
theorem dd_X3_prepare_52 : decode X3_prepare.2.1 52 = .ok (.imul, 1) := by decide +kernel
theorem dd_X3_prepare_53 : decode X3_prepare.2.1 53 = .ok (.aload_n 0, 1) := by decide +kernel
theorem dd_X3_prepare_54 : decode X3_prepare.2.1 54 = .ok (.getfield 24, 3) := by decide +kernel
theorem dd_X3_prepare_57 : decode X3_prepare.2.1 57 = .ok (.iadd, 1) := by decide +kernel
theorem dd_X3_prepare_58 : decode X3_prepare.2.1 58 = .ok (.iconst 1, 1) := by decide +kernel
theorem dd_X3_prepare_59 : decode X3_prepare.2.1 59 = .ok (.isub, 1) := by decide +kernel
theorem dd_X3_prepare_60 : decode X3_prepare.2.1 60 = .ok (.lshl, 1) := by decide +kernel
theorem dd_X3_prepare_61 : decode X3_prepare.2.1 61 = .ok (.lor, 1) := by decide +kernel
theorem dd_X3_prepare_62 : decode X3_prepare.2.1 62 = .ok (.putfield 42, 3) := by decide +kernel
theorem dd_X3_prepare_65 : decode X3_prepare.2.1 65 = .ok (.iinc 4 1, 3) := by decide +kernel
theorem dd_X3_prepare_68 : decode X3_prepare.2.1 68 = .ok (.goto (-33), 3) := by decide +kernel
theorem dd_X3_prepare_71 : decode X3_prepare.2.1 71 = .ok (.aload_n 0, 1) := by decide +kernel
theorem dd_X3_prepare_72 : decode X3_prepare.2.1 72 = .ok (.getfield 11, 3) := by decide +kernel
theorem dd_X3_prepare_75 : decode X3_prepare.2.1 75 = .ok (.iconst 0, 1) := by decide +kernel
theorem dd_X3_prepare_76 : decode X3_prepare.2.1 76 = .ok (.aload_n 0, 1) := by decide +kernel
theorem dd_X3_prepare_77 : decode X3_prepare.2.1 77 = .ok (.getfield 31, 3) := by decide +kernel
theorem dd_X3_prepare_80 : decode X3_prepare.2.1 80 = .ok (.lastore, 1) := by decide +kernel
theorem dd_X3_prepare_81 : decode X3_prepare.2.1 81 = .ok (.aload_n 0, 1) := by decide +kernel
theorem dd_X3_prepare_82 : decode X3_prepare.2.1 82 = .ok (.aload_n 0, 1) := by decide +kernel
theorem dd_X3_prepare_83 : decode X3_prepare.2.1 83 = .ok (.getfield 31, 3) := by decide +kernel
theorem dd_X3_prepare_86 : decode X3_prepare.2.1 86 = .ok (.lconst 0, 1) := by decide +kernel
theorem dd_X3_prepare_87 : decode X3_prepare.2.1 87 = .ok (.lcmp, 1) := by decide +kernel
theorem dd_X3_prepare_88 : decode X3_prepare.2.1 88 = .ok (.ifCond .ne 7, 3) := by decide +kernel
theorem dd_X3_prepare_91 : decode X3_prepare.2.1 91 = .ok (.iconst 0, 1) := by decide +kernel
theorem dd_X3_prepare_92 : decode X3_prepare.2.1 92 = .ok (.goto 4, 3) := by decide +kernel
theorem dd_X3_prepare_95 : decode X3_prepare.2.1 95 = .ok (.iconst 1, 1) := by decide +kernel
theorem dd_X3_prepare_96 : decode X3_prepare.2.1 96 = .ok (.putfield 45, 3) := by decide +kernel
theorem dd_X3_prepare_99 : decode X3_prepare.2.1 99 = .ok (.return_, 1) := by decide +kernel
theorem dd_X3_states_0 : decode X3_states.2.1 0 = .ok (.iconst 0, 1) := by decide +kernel
theorem dd_X3_states_1 : decode X3_states.2.1 1 = .ok (.istore_n 1, 1) := by decide +kernel
theorem dd_X3_states_2 : decode X3_states.2.1 2 = .ok (.iload_n 1, 1) := by decide +kernel
theorem dd_X3_states_3 : decode X3_states.2.1 3 = .ok (.aload_n 0, 1) := by decide +kernel
theorem dd_X3_states_4 : decode X3_states.2.1 4 = .ok (.getfield 45, 3) := by decide +kernel
theorem dd_X3_states_7 : decode X3_states.2.1 7 = .ok (.if_icmp .ge 46, 3) := by decide +kernel
theorem dd_X3_states_10 : decode X3_states.2.1 10 = .ok (.iload_n 1, 1) := by decide +kernel
theorem dd_X3_states_11 : decode X3_states.2.1 11 = .ok (.sipush 256, 3) := by decide +kernel
theorem dd_X3_states_14 : decode X3_states.2.1 14 = .ok (.if_icmp .ge 39, 3) := by decide +kernel
theorem dd_X3_states_17 : decode X3_states.2.1 17 = .ok (.aload_n 0, 1) := by decide +kernel
theorem dd_X3_states_18 : decode X3_states.2.1 18 = .ok (.aload_n 0, 1) := by decide +kernel
theorem dd_X3_states_19 : decode X3_states.2.1 19 = .ok (.aload_n 0, 1) := by decide +kernel
theorem dd_X3_states_20 : decode X3_states.2.1 20 = .ok (.getfield 11, 3) := by decide +kernel
theorem dd_X3_states_23 : decode X3_states.2.1 23 = .ok (.iload_n 1, 1) := by decide +kernel
theorem dd_X3_states_24 : decode X3_states.2.1 24 = .ok (.laload, 1) := by decide +kernel
theorem dd_X3_states_25 : decode X3_states.2.1 25 = .ok (.iconst 0, 1) := by decide +kernel
theorem dd_X3_states_26 : decode X3_states.2.1 26 = .ok (.invokevirtual 48, 3) := by decide +kernel
theorem dd_X3_states_29 : decode X3_states.2.1 29 = .ok (.invokevirtual 52, 3) := by decide +kernel
theorem dd_X3_states_32 : decode X3_states.2.1 32 = .ok (.aload_n 0, 1) := by decide +kernel
theorem dd_X3_states_33 : decode X3_states.2.1 33 = .ok (.aload_n 0, 1) := by decide +kernel
theorem dd_X3_states_34 : decode X3_states.2.1 34 = .ok (.aload_n 0, 1) := by decide +kernel
theorem dd_X3_states_35 : decode X3_states.2.1 35 = .ok (.getfield 11, 3) := by decide +kernel
theorem dd_X3_states_38 : decode X3_states.2.1 38 = .ok (.iload_n 1, 1) := by decide +kernel
theorem dd_X3_states_39 : decode X3_states.2.1 39 = .ok (.laload, 1) := by decide +kernel
theorem dd_X3_states_40 : decode X3_states.2.1 40 = .ok (.iconst 1, 1) := by decide +kernel
theorem dd_X3_states_41 : decode X3_states.2.1 41 = .ok (.invokevirtual 48, 3) := by decide +kernel
theorem dd_X3_states_44 : decode X3_states.2.1 44 = .ok (.invokevirtual 52, 3) := by decide +kernel
theorem dd_X3_states_47 : decode X3_states.2.1 47 = .ok (.iinc 1 1, 3) := by decide +kernel
theorem dd_X3_states_50 : decode X3_states.2.1 50 = .ok (.goto (-48), 3) := by decide +kernel
theorem dd_X3_states_53 : decode X3_states.2.1 53 = .ok (.aload_n 0, 1) := by decide +kernel
theorem dd_X3_states_54 : decode X3_states.2.1 54 = .ok (.getfield 45, 3) := by decide +kernel
theorem dd_X3_states_57 : decode X3_states.2.1 57 = .ok (.ireturn, 1) := by decide +kernel
theorem dd_X3_named_0 : decode X3_named.2.1 0 = .ok (.iconst 0, 1) := by decide +kernel
theorem dd_X3_named_1 : decode X3_named.2.1 1 = .ok (.istore_n 1, 1) := by decide +kernel
theorem dd_X3_named_2 : decode X3_named.2.1 2 = .ok (.aload_n 0, 1) := by decide +kernel
theorem dd_X3_named_3 : decode X3_named.2.1 3 = .ok (.getfield 45, 3) := by decide +kernel
theorem dd_X3_named_6 : decode X3_named.2.1 6 = .ok (.ifCond .le 28, 3) := by decide +kernel
theorem dd_X3_named_9 : decode X3_named.2.1 9 = .ok (.iload_n 1, 1) := by decide +kernel
theorem dd_X3_named_10 : decode X3_named.2.1 10 = .ok (.bipush 40, 2) := by decide +kernel
theorem dd_X3_named_12 : decode X3_named.2.1 12 = .ok (.if_icmp .gt 22, 3) := by decide +kernel
theorem dd_X3_named_15 : decode X3_named.2.1 15 = .ok (.aload_n 0, 1) := by decide +kernel
theorem dd_X3_named_16 : decode X3_named.2.1 16 = .ok (.invokevirtual 56, 3) := by decide +kernel
theorem dd_X3_named_19 : decode X3_named.2.1 19 = .ok (.ifCond .eq 5, 3) := by decide +kernel
theorem dd_X3_named_22 : decode X3_named.2.1 22 = .ok (.iload_n 1, 1) := by decide +kernel
theorem dd_X3_named_23 : decode X3_named.2.1 23 = .ok (.ireturn, 1) := by decide +kernel
theorem dd_X3_named_24 : decode X3_named.2.1 24 = .ok (.aload_n 0, 1) := by decide +kernel
theorem dd_X3_named_25 : decode X3_named.2.1 25 = .ok (.invokevirtual 60, 3) := by decide +kernel
theorem dd_X3_named_28 : decode X3_named.2.1 28 = .ok (.iinc 1 1, 3) := by decide +kernel
theorem dd_X3_named_31 : decode X3_named.2.1 31 = .ok (.goto (-29), 3) := by decide +kernel
theorem dd_X3_named_34 : decode X3_named.2.1 34 = .ok (.iconst (-1), 1) := by decide +kernel
theorem dd_X3_named_35 : decode X3_named.2.1 35 = .ok (.ireturn, 1) := by decide +kernel
theorem dd_X3_behind_0 : decode X3_behind.2.1 0 = .ok (.iload_n 3, 1) := by decide +kernel
theorem dd_X3_behind_1 : decode X3_behind.2.1 1 = .ok (.iconst 1, 1) := by decide +kernel
theorem dd_X3_behind_2 : decode X3_behind.2.1 2 = .ok (.if_icmp .ne 12, 3) := by decide +kernel
theorem dd_X3_behind_5 : decode X3_behind.2.1 5 = .ok (.lload_n 1, 1) := by decide +kernel
theorem dd_X3_behind_6 : decode X3_behind.2.1 6 = .ok (.aload_n 0, 1) := by decide +kernel
theorem dd_X3_behind_7 : decode X3_behind.2.1 7 = .ok (.getfield 39, 3) := by decide +kernel
theorem dd_X3_behind_10 : decode X3_behind.2.1 10 = .ok (.land, 1) := by decide +kernel
theorem dd_X3_behind_11 : decode X3_behind.2.1 11 = .ok (.goto 13, 3) := by decide +kernel
theorem dd_X3_behind_14 : decode X3_behind.2.1 14 = .ok (.lload_n 1, 1) := by decide +kernel
theorem dd_X3_behind_15 : decode X3_behind.2.1 15 = .ok (.aload_n 0, 1) := by decide +kernel
theorem dd_X3_behind_16 : decode X3_behind.2.1 16 = .ok (.getfield 39, 3) := by decide +kernel
theorem dd_X3_behind_19 : decode X3_behind.2.1 19 = .ok (.ldc2_w 63, 3) := by decide +kernel
theorem dd_X3_behind_22 : decode X3_behind.2.1 22 = .ok (.lxor, 1) := by decide +kernel
theorem dd_X3_behind_23 : decode X3_behind.2.1 23 = .ok (.land, 1) := by decide +kernel
theorem dd_X3_behind_24 : decode X3_behind.2.1 24 = .ok (.lstore 4, 2) := by decide +kernel
theorem dd_X3_behind_26 : decode X3_behind.2.1 26 = .ok (.lload 4, 2) := by decide +kernel
theorem dd_X3_behind_28 : decode X3_behind.2.1 28 = .ok (.aload_n 0, 1) := by decide +kernel
theorem dd_X3_behind_29 : decode X3_behind.2.1 29 = .ok (.getfield 42, 3) := by decide +kernel
theorem dd_X3_behind_32 : decode X3_behind.2.1 32 = .ok (.land, 1) := by decide +kernel
theorem dd_X3_behind_33 : decode X3_behind.2.1 33 = .ok (.lstore 6, 2) := by decide +kernel
theorem dd_X3_behind_35 : decode X3_behind.2.1 35 = .ok (.lload 4, 2) := by decide +kernel
theorem dd_X3_behind_37 : decode X3_behind.2.1 37 = .ok (.lload 6, 2) := by decide +kernel
theorem dd_X3_behind_39 : decode X3_behind.2.1 39 = .ok (.lxor, 1) := by decide +kernel
theorem dd_X3_behind_40 : decode X3_behind.2.1 40 = .ok (.iconst 1, 1) := by decide +kernel
theorem dd_X3_behind_41 : decode X3_behind.2.1 41 = .ok (.lshl, 1) := by decide +kernel
theorem dd_X3_behind_42 : decode X3_behind.2.1 42 = .ok (.lload 6, 2) := by decide +kernel
theorem dd_X3_behind_44 : decode X3_behind.2.1 44 = .ok (.aload_n 0, 1) := by decide +kernel
theorem dd_X3_behind_45 : decode X3_behind.2.1 45 = .ok (.getfield 24, 3) := by decide +kernel
theorem dd_X3_behind_48 : decode X3_behind.2.1 48 = .ok (.iconst 1, 1) := by decide +kernel
theorem dd_X3_behind_49 : decode X3_behind.2.1 49 = .ok (.isub, 1) := by decide +kernel
theorem dd_X3_behind_50 : decode X3_behind.2.1 50 = .ok (.lushr, 1) := by decide +kernel
theorem dd_X3_behind_51 : decode X3_behind.2.1 51 = .ok (.lor, 1) := by decide +kernel
theorem dd_X3_behind_52 : decode X3_behind.2.1 52 = .ok (.lreturn, 1) := by decide +kernel
theorem dd_X3_addIfNew_0 : decode X3_addIfNew.2.1 0 = .ok (.lload_n 1, 1) := by decide +kernel
theorem dd_X3_addIfNew_1 : decode X3_addIfNew.2.1 1 = .ok (.lconst 0, 1) := by decide +kernel
theorem dd_X3_addIfNew_2 : decode X3_addIfNew.2.1 2 = .ok (.lcmp, 1) := by decide +kernel
theorem dd_X3_addIfNew_3 : decode X3_addIfNew.2.1 3 = .ok (.ifCond .eq 13, 3) := by decide +kernel
theorem dd_X3_addIfNew_6 : decode X3_addIfNew.2.1 6 = .ok (.aload_n 0, 1) := by decide +kernel
theorem dd_X3_addIfNew_7 : decode X3_addIfNew.2.1 7 = .ok (.getfield 45, 3) := by decide +kernel
theorem dd_X3_addIfNew_10 : decode X3_addIfNew.2.1 10 = .ok (.sipush 256, 3) := by decide +kernel
theorem dd_X3_addIfNew_13 : decode X3_addIfNew.2.1 13 = .ok (.if_icmp .lt 4, 3) := by decide +kernel
theorem dd_X3_addIfNew_16 : decode X3_addIfNew.2.1 16 = .ok (.return_, 1) := by decide +kernel
theorem dd_X3_addIfNew_17 : decode X3_addIfNew.2.1 17 = .ok (.iconst 0, 1) := by decide +kernel
theorem dd_X3_addIfNew_18 : decode X3_addIfNew.2.1 18 = .ok (.istore_n 3, 1) := by decide +kernel
theorem dd_X3_addIfNew_19 : decode X3_addIfNew.2.1 19 = .ok (.iload_n 3, 1) := by decide +kernel
theorem dd_X3_addIfNew_20 : decode X3_addIfNew.2.1 20 = .ok (.aload_n 0, 1) := by decide +kernel
theorem dd_X3_addIfNew_21 : decode X3_addIfNew.2.1 21 = .ok (.getfield 45, 3) := by decide +kernel
theorem dd_X3_addIfNew_24 : decode X3_addIfNew.2.1 24 = .ok (.if_icmp .ge 21, 3) := by decide +kernel
theorem dd_X3_addIfNew_27 : decode X3_addIfNew.2.1 27 = .ok (.aload_n 0, 1) := by decide +kernel
theorem dd_X3_addIfNew_28 : decode X3_addIfNew.2.1 28 = .ok (.getfield 11, 3) := by decide +kernel
theorem dd_X3_addIfNew_31 : decode X3_addIfNew.2.1 31 = .ok (.iload_n 3, 1) := by decide +kernel
theorem dd_X3_addIfNew_32 : decode X3_addIfNew.2.1 32 = .ok (.laload, 1) := by decide +kernel
theorem dd_X3_addIfNew_33 : decode X3_addIfNew.2.1 33 = .ok (.lload_n 1, 1) := by decide +kernel
theorem dd_X3_addIfNew_34 : decode X3_addIfNew.2.1 34 = .ok (.lcmp, 1) := by decide +kernel
theorem dd_X3_addIfNew_35 : decode X3_addIfNew.2.1 35 = .ok (.ifCond .ne 4, 3) := by decide +kernel
theorem dd_X3_addIfNew_38 : decode X3_addIfNew.2.1 38 = .ok (.return_, 1) := by decide +kernel
theorem dd_X3_addIfNew_39 : decode X3_addIfNew.2.1 39 = .ok (.iinc 3 1, 3) := by decide +kernel
theorem dd_X3_addIfNew_42 : decode X3_addIfNew.2.1 42 = .ok (.goto (-23), 3) := by decide +kernel
theorem dd_X3_addIfNew_45 : decode X3_addIfNew.2.1 45 = .ok (.aload_n 0, 1) := by decide +kernel
theorem dd_X3_addIfNew_46 : decode X3_addIfNew.2.1 46 = .ok (.getfield 11, 3) := by decide +kernel
theorem dd_X3_addIfNew_49 : decode X3_addIfNew.2.1 49 = .ok (.aload_n 0, 1) := by decide +kernel
theorem dd_X3_addIfNew_50 : decode X3_addIfNew.2.1 50 = .ok (.getfield 45, 3) := by decide +kernel
theorem dd_X3_addIfNew_53 : decode X3_addIfNew.2.1 53 = .ok (.lload_n 1, 1) := by decide +kernel
theorem dd_X3_addIfNew_54 : decode X3_addIfNew.2.1 54 = .ok (.lastore, 1) := by decide +kernel
theorem dd_X3_addIfNew_55 : decode X3_addIfNew.2.1 55 = .ok (.aload_n 0, 1) := by decide +kernel
theorem dd_X3_addIfNew_56 : decode X3_addIfNew.2.1 56 = .ok (.dup, 1) := by decide +kernel
theorem dd_X3_addIfNew_57 : decode X3_addIfNew.2.1 57 = .ok (.getfield 45, 3) := by decide +kernel
theorem dd_X3_addIfNew_60 : decode X3_addIfNew.2.1 60 = .ok (.iconst 1, 1) := by decide +kernel
theorem dd_X3_addIfNew_61 : decode X3_addIfNew.2.1 61 = .ok (.iadd, 1) := by decide +kernel
theorem dd_X3_addIfNew_62 : decode X3_addIfNew.2.1 62 = .ok (.putfield 45, 3) := by decide +kernel
theorem dd_X3_addIfNew_65 : decode X3_addIfNew.2.1 65 = .ok (.return_, 1) := by decide +kernel
theorem dd_X3_takeAnyBeat_0 : decode X3_takeAnyBeat.2.1 0 = .ok (.iconst 0, 1) := by decide +kernel
theorem dd_X3_takeAnyBeat_1 : decode X3_takeAnyBeat.2.1 1 = .ok (.istore_n 1, 1) := by decide +kernel
theorem dd_X3_takeAnyBeat_2 : decode X3_takeAnyBeat.2.1 2 = .ok (.iconst 0, 1) := by decide +kernel
theorem dd_X3_takeAnyBeat_3 : decode X3_takeAnyBeat.2.1 3 = .ok (.istore_n 2, 1) := by decide +kernel
theorem dd_X3_takeAnyBeat_4 : decode X3_takeAnyBeat.2.1 4 = .ok (.iload_n 2, 1) := by decide +kernel
theorem dd_X3_takeAnyBeat_5 : decode X3_takeAnyBeat.2.1 5 = .ok (.aload_n 0, 1) := by decide +kernel
theorem dd_X3_takeAnyBeat_6 : decode X3_takeAnyBeat.2.1 6 = .ok (.getfield 45, 3) := by decide +kernel
theorem dd_X3_takeAnyBeat_9 : decode X3_takeAnyBeat.2.1 9 = .ok (.if_icmp .ge 59, 3) := by decide +kernel
theorem dd_X3_takeAnyBeat_12 : decode X3_takeAnyBeat.2.1 12 = .ok (.iconst 0, 1) := by decide +kernel
theorem dd_X3_takeAnyBeat_13 : decode X3_takeAnyBeat.2.1 13 = .ok (.istore_n 3, 1) := by decide +kernel
theorem dd_X3_takeAnyBeat_14 : decode X3_takeAnyBeat.2.1 14 = .ok (.iload_n 3, 1) := by decide +kernel
theorem dd_X3_takeAnyBeat_15 : decode X3_takeAnyBeat.2.1 15 = .ok (.iconst 1, 1) := by decide +kernel
theorem dd_X3_takeAnyBeat_16 : decode X3_takeAnyBeat.2.1 16 = .ok (.if_icmp .gt 46, 3) := by decide +kernel
theorem dd_X3_takeAnyBeat_19 : decode X3_takeAnyBeat.2.1 19 = .ok (.aload_n 0, 1) := by decide +kernel
theorem dd_X3_takeAnyBeat_20 : decode X3_takeAnyBeat.2.1 20 = .ok (.aload_n 0, 1) := by decide +kernel
theorem dd_X3_takeAnyBeat_21 : decode X3_takeAnyBeat.2.1 21 = .ok (.getfield 11, 3) := by decide +kernel
theorem dd_X3_takeAnyBeat_24 : decode X3_takeAnyBeat.2.1 24 = .ok (.iload_n 2, 1) := by decide +kernel
theorem dd_X3_takeAnyBeat_25 : decode X3_takeAnyBeat.2.1 25 = .ok (.laload, 1) := by decide +kernel
theorem dd_X3_takeAnyBeat_26 : decode X3_takeAnyBeat.2.1 26 = .ok (.iload_n 3, 1) := by decide +kernel
theorem dd_X3_takeAnyBeat_27 : decode X3_takeAnyBeat.2.1 27 = .ok (.invokevirtual 48, 3) := by decide +kernel
theorem dd_X3_takeAnyBeat_30 : decode X3_takeAnyBeat.2.1 30 = .ok (.lstore 4, 2) := by decide +kernel
theorem dd_X3_takeAnyBeat_32 : decode X3_takeAnyBeat.2.1 32 = .ok (.lload 4, 2) := by decide +kernel
theorem dd_X3_takeAnyBeat_34 : decode X3_takeAnyBeat.2.1 34 = .ok (.lconst 0, 1) := by decide +kernel
theorem dd_X3_takeAnyBeat_35 : decode X3_takeAnyBeat.2.1 35 = .ok (.lcmp, 1) := by decide +kernel
theorem dd_X3_takeAnyBeat_36 : decode X3_takeAnyBeat.2.1 36 = .ok (.ifCond .eq 20, 3) := by decide +kernel
theorem dd_X3_takeAnyBeat_39 : decode X3_takeAnyBeat.2.1 39 = .ok (.iload_n 1, 1) := by decide +kernel
theorem dd_X3_takeAnyBeat_40 : decode X3_takeAnyBeat.2.1 40 = .ok (.bipush 48, 2) := by decide +kernel
theorem dd_X3_takeAnyBeat_42 : decode X3_takeAnyBeat.2.1 42 = .ok (.if_icmp .ge 14, 3) := by decide +kernel
theorem dd_X3_takeAnyBeat_45 : decode X3_takeAnyBeat.2.1 45 = .ok (.aload_n 0, 1) := by decide +kernel
theorem dd_X3_takeAnyBeat_46 : decode X3_takeAnyBeat.2.1 46 = .ok (.getfield 15, 3) := by decide +kernel
theorem dd_X3_takeAnyBeat_49 : decode X3_takeAnyBeat.2.1 49 = .ok (.iload_n 1, 1) := by decide +kernel
theorem dd_X3_takeAnyBeat_50 : decode X3_takeAnyBeat.2.1 50 = .ok (.lload 4, 2) := by decide +kernel
theorem dd_X3_takeAnyBeat_52 : decode X3_takeAnyBeat.2.1 52 = .ok (.lastore, 1) := by decide +kernel
theorem dd_X3_takeAnyBeat_53 : decode X3_takeAnyBeat.2.1 53 = .ok (.iinc 1 1, 3) := by decide +kernel
theorem dd_X3_takeAnyBeat_56 : decode X3_takeAnyBeat.2.1 56 = .ok (.iinc 3 1, 3) := by decide +kernel
theorem dd_X3_takeAnyBeat_59 : decode X3_takeAnyBeat.2.1 59 = .ok (.goto (-45), 3) := by decide +kernel
theorem dd_X3_takeAnyBeat_62 : decode X3_takeAnyBeat.2.1 62 = .ok (.iinc 2 1, 3) := by decide +kernel
theorem dd_X3_takeAnyBeat_65 : decode X3_takeAnyBeat.2.1 65 = .ok (.goto (-61), 3) := by decide +kernel
theorem dd_X3_takeAnyBeat_68 : decode X3_takeAnyBeat.2.1 68 = .ok (.aload_n 0, 1) := by decide +kernel
theorem dd_X3_takeAnyBeat_69 : decode X3_takeAnyBeat.2.1 69 = .ok (.iload_n 1, 1) := by decide +kernel
theorem dd_X3_takeAnyBeat_70 : decode X3_takeAnyBeat.2.1 70 = .ok (.putfield 45, 3) := by decide +kernel
theorem dd_X3_takeAnyBeat_73 : decode X3_takeAnyBeat.2.1 73 = .ok (.aload_n 0, 1) := by decide +kernel
theorem dd_X3_takeAnyBeat_74 : decode X3_takeAnyBeat.2.1 74 = .ok (.getfield 15, 3) := by decide +kernel
theorem dd_X3_takeAnyBeat_77 : decode X3_takeAnyBeat.2.1 77 = .ok (.iconst 0, 1) := by decide +kernel
theorem dd_X3_takeAnyBeat_78 : decode X3_takeAnyBeat.2.1 78 = .ok (.aload_n 0, 1) := by decide +kernel
theorem dd_X3_takeAnyBeat_79 : decode X3_takeAnyBeat.2.1 79 = .ok (.getfield 11, 3) := by decide +kernel
theorem dd_X3_takeAnyBeat_82 : decode X3_takeAnyBeat.2.1 82 = .ok (.iconst 0, 1) := by decide +kernel
theorem dd_X3_takeAnyBeat_83 : decode X3_takeAnyBeat.2.1 83 = .ok (.aload_n 0, 1) := by decide +kernel
theorem dd_X3_takeAnyBeat_84 : decode X3_takeAnyBeat.2.1 84 = .ok (.getfield 45, 3) := by decide +kernel
theorem dd_X3_takeAnyBeat_87 : decode X3_takeAnyBeat.2.1 87 = .ok (.invokestatic 65, 3) := by decide +kernel
theorem dd_X3_takeAnyBeat_90 : decode X3_takeAnyBeat.2.1 90 = .ok (.return_, 1) := by decide +kernel
theorem dd_X3_allNameOneLight_0 : decode X3_allNameOneLight.2.1 0 = .ok (.iconst 0, 1) := by decide +kernel
theorem dd_X3_allNameOneLight_1 : decode X3_allNameOneLight.2.1 1 = .ok (.istore_n 1, 1) := by decide +kernel
theorem dd_X3_allNameOneLight_2 : decode X3_allNameOneLight.2.1 2 = .ok (.iload_n 1, 1) := by decide +kernel
theorem dd_X3_allNameOneLight_3 : decode X3_allNameOneLight.2.1 3 = .ok (.aload_n 0, 1) := by decide +kernel
theorem dd_X3_allNameOneLight_4 : decode X3_allNameOneLight.2.1 4 = .ok (.getfield 45, 3) := by decide +kernel
theorem dd_X3_allNameOneLight_7 : decode X3_allNameOneLight.2.1 7 = .ok (.if_icmp .ge 27, 3) := by decide +kernel
theorem dd_X3_allNameOneLight_10 : decode X3_allNameOneLight.2.1 10 = .ok (.aload_n 0, 1) := by decide +kernel
theorem dd_X3_allNameOneLight_11 : decode X3_allNameOneLight.2.1 11 = .ok (.getfield 11, 3) := by decide +kernel
theorem dd_X3_allNameOneLight_14 : decode X3_allNameOneLight.2.1 14 = .ok (.iload_n 1, 1) := by decide +kernel
theorem dd_X3_allNameOneLight_15 : decode X3_allNameOneLight.2.1 15 = .ok (.laload, 1) := by decide +kernel
theorem dd_X3_allNameOneLight_16 : decode X3_allNameOneLight.2.1 16 = .ok (.invokestatic 71, 3) := by decide +kernel
theorem dd_X3_allNameOneLight_19 : decode X3_allNameOneLight.2.1 19 = .ok (.invokestatic 75, 3) := by decide +kernel
theorem dd_X3_allNameOneLight_22 : decode X3_allNameOneLight.2.1 22 = .ok (.iconst 1, 1) := by decide +kernel
theorem dd_X3_allNameOneLight_23 : decode X3_allNameOneLight.2.1 23 = .ok (.if_icmp .eq 5, 3) := by decide +kernel
theorem dd_X3_allNameOneLight_26 : decode X3_allNameOneLight.2.1 26 = .ok (.iconst 0, 1) := by decide +kernel
theorem dd_X3_allNameOneLight_27 : decode X3_allNameOneLight.2.1 27 = .ok (.ireturn, 1) := by decide +kernel
theorem dd_X3_allNameOneLight_28 : decode X3_allNameOneLight.2.1 28 = .ok (.iinc 1 1, 3) := by decide +kernel
theorem dd_X3_allNameOneLight_31 : decode X3_allNameOneLight.2.1 31 = .ok (.goto (-29), 3) := by decide +kernel
theorem dd_X3_allNameOneLight_34 : decode X3_allNameOneLight.2.1 34 = .ok (.iconst 1, 1) := by decide +kernel
theorem dd_X3_allNameOneLight_35 : decode X3_allNameOneLight.2.1 35 = .ok (.ireturn, 1) := by decide +kernel
theorem dd_X4_makePlan_0 : decode X4_makePlan.2.1 0 = .ok (.aload_n 0, 1) := by decide +kernel
theorem dd_X4_makePlan_1 : decode X4_makePlan.2.1 1 = .ok (.aload_n 1, 1) := by decide +kernel
theorem dd_X4_makePlan_2 : decode X4_makePlan.2.1 2 = .ok (.iload_n 3, 1) := by decide +kernel
theorem dd_X4_makePlan_3 : decode X4_makePlan.2.1 3 = .ok (.invokevirtual 24, 3) := by decide +kernel
theorem dd_X4_makePlan_6 : decode X4_makePlan.2.1 6 = .ok (.aload_n 0, 1) := by decide +kernel
theorem dd_X4_makePlan_7 : decode X4_makePlan.2.1 7 = .ok (.aload_n 2, 1) := by decide +kernel
theorem dd_X4_makePlan_8 : decode X4_makePlan.2.1 8 = .ok (.getfield 28, 3) := by decide +kernel
theorem dd_X4_makePlan_11 : decode X4_makePlan.2.1 11 = .ok (.putfield 34, 3) := by decide +kernel
theorem dd_X4_makePlan_14 : decode X4_makePlan.2.1 14 = .ok (.iconst 0, 1) := by decide +kernel
theorem dd_X4_makePlan_15 : decode X4_makePlan.2.1 15 = .ok (.istore 4, 2) := by decide +kernel
theorem dd_X4_makePlan_17 : decode X4_makePlan.2.1 17 = .ok (.iload 4, 2) := by decide +kernel
theorem dd_X4_makePlan_19 : decode X4_makePlan.2.1 19 = .ok (.aload_n 0, 1) := by decide +kernel
theorem dd_X4_makePlan_20 : decode X4_makePlan.2.1 20 = .ok (.getfield 34, 3) := by decide +kernel
theorem dd_X4_makePlan_23 : decode X4_makePlan.2.1 23 = .ok (.if_icmp .ge 26, 3) := by decide +kernel
theorem dd_X4_makePlan_26 : decode X4_makePlan.2.1 26 = .ok (.aload_n 0, 1) := by decide +kernel
theorem dd_X4_makePlan_27 : decode X4_makePlan.2.1 27 = .ok (.getfield 18, 3) := by decide +kernel
theorem dd_X4_makePlan_30 : decode X4_makePlan.2.1 30 = .ok (.iload 4, 2) := by decide +kernel
theorem dd_X4_makePlan_32 : decode X4_makePlan.2.1 32 = .ok (.aload_n 2, 1) := by decide +kernel
theorem dd_X4_makePlan_33 : decode X4_makePlan.2.1 33 = .ok (.iload 4, 2) := by decide +kernel
theorem dd_X4_makePlan_35 : decode X4_makePlan.2.1 35 = .ok (.aload_n 1, 1) := by decide +kernel
theorem dd_X4_makePlan_36 : decode X4_makePlan.2.1 36 = .ok (.getfield 37, 3) := by decide +kernel
theorem dd_X4_makePlan_39 : decode X4_makePlan.2.1 39 = .ok (.invokevirtual 42, 3) := by decide +kernel
theorem dd_X4_makePlan_42 : decode X4_makePlan.2.1 42 = .ok (.iastore, 1) := by decide +kernel
theorem dd_X4_makePlan_43 : decode X4_makePlan.2.1 43 = .ok (.iinc 4 1, 3) := by decide +kernel
theorem dd_X4_makePlan_46 : decode X4_makePlan.2.1 46 = .ok (.goto (-29), 3) := by decide +kernel
theorem dd_X4_makePlan_49 : decode X4_makePlan.2.1 49 = .ok (.aload_n 0, 1) := by decide +kernel
theorem dd_X4_makePlan_50 : decode X4_makePlan.2.1 50 = .ok (.bipush 9, 2) := by decide +kernel
theorem dd_X4_makePlan_52 : decode X4_makePlan.2.1 52 = .ok (.putfield 45, 3) := by decide +kernel
theorem dd_X4_makePlan_55 : decode X4_makePlan.2.1 55 = .ok (.aload_n 0, 1) := by decide +kernel
theorem dd_X4_makePlan_56 : decode X4_makePlan.2.1 56 = .ok (.iconst 0, 1) := by decide +kernel
theorem dd_X4_makePlan_57 : decode X4_makePlan.2.1 57 = .ok (.iconst 0, 1) := by decide +kernel
theorem dd_X4_makePlan_58 : decode X4_makePlan.2.1 58 = .ok (.invokevirtual 48, 3) := by decide +kernel
theorem dd_X4_makePlan_61 : decode X4_makePlan.2.1 61 = .ok (.pop, 1) := by decide +kernel
theorem dd_X4_makePlan_62 : decode X4_makePlan.2.1 62 = .ok (.aload_n 0, 1) := by decide +kernel
theorem dd_X4_makePlan_63 : decode X4_makePlan.2.1 63 = .ok (.getfield 45, 3) := by decide +kernel
theorem dd_X4_makePlan_66 : decode X4_makePlan.2.1 66 = .ok (.bipush 8, 2) := by decide +kernel
theorem dd_X4_makePlan_68 : decode X4_makePlan.2.1 68 = .ok (.if_icmp .gt 7, 3) := by decide +kernel
theorem dd_X4_makePlan_71 : decode X4_makePlan.2.1 71 = .ok (.iconst 1, 1) := by decide +kernel
theorem dd_X4_makePlan_72 : decode X4_makePlan.2.1 72 = .ok (.goto 4, 3) := by decide +kernel
theorem dd_X4_makePlan_75 : decode X4_makePlan.2.1 75 = .ok (.iconst 0, 1) := by decide +kernel
theorem dd_X4_makePlan_76 : decode X4_makePlan.2.1 76 = .ok (.ireturn, 1) := by decide +kernel
theorem dd_X4_compareRhythms_0 : decode X4_compareRhythms.2.1 0 = .ok (.aload_n 0, 1) := by decide +kernel
theorem dd_X4_compareRhythms_1 : decode X4_compareRhythms.2.1 1 = .ok (.aload_n 1, 1) := by decide +kernel
theorem dd_X4_compareRhythms_2 : decode X4_compareRhythms.2.1 2 = .ok (.getfield 51, 3) := by decide +kernel
theorem dd_X4_compareRhythms_5 : decode X4_compareRhythms.2.1 5 = .ok (.putfield 52, 3) := by decide +kernel
theorem dd_X4_compareRhythms_8 : decode X4_compareRhythms.2.1 8 = .ok (.iconst 0, 1) := by decide +kernel
theorem dd_X4_compareRhythms_9 : decode X4_compareRhythms.2.1 9 = .ok (.istore_n 3, 1) := by decide +kernel
theorem dd_X4_compareRhythms_10 : decode X4_compareRhythms.2.1 10 = .ok (.iload_n 3, 1) := by decide +kernel
theorem dd_X4_compareRhythms_11 : decode X4_compareRhythms.2.1 11 = .ok (.aload_n 0, 1) := by decide +kernel
theorem dd_X4_compareRhythms_12 : decode X4_compareRhythms.2.1 12 = .ok (.getfield 52, 3) := by decide +kernel
theorem dd_X4_compareRhythms_15 : decode X4_compareRhythms.2.1 15 = .ok (.if_icmp .ge 21, 3) := by decide +kernel
theorem dd_X4_compareRhythms_18 : decode X4_compareRhythms.2.1 18 = .ok (.aload_n 0, 1) := by decide +kernel
theorem dd_X4_compareRhythms_19 : decode X4_compareRhythms.2.1 19 = .ok (.getfield 21, 3) := by decide +kernel
theorem dd_X4_compareRhythms_22 : decode X4_compareRhythms.2.1 22 = .ok (.iload_n 3, 1) := by decide +kernel
theorem dd_X4_compareRhythms_23 : decode X4_compareRhythms.2.1 23 = .ok (.aload_n 1, 1) := by decide +kernel
theorem dd_X4_compareRhythms_24 : decode X4_compareRhythms.2.1 24 = .ok (.iload_n 3, 1) := by decide +kernel
theorem dd_X4_compareRhythms_25 : decode X4_compareRhythms.2.1 25 = .ok (.iload_n 2, 1) := by decide +kernel
theorem dd_X4_compareRhythms_26 : decode X4_compareRhythms.2.1 26 = .ok (.invokevirtual 55, 3) := by decide +kernel
theorem dd_X4_compareRhythms_29 : decode X4_compareRhythms.2.1 29 = .ok (.iastore, 1) := by decide +kernel
theorem dd_X4_compareRhythms_30 : decode X4_compareRhythms.2.1 30 = .ok (.iinc 3 1, 3) := by decide +kernel
theorem dd_X4_compareRhythms_33 : decode X4_compareRhythms.2.1 33 = .ok (.goto (-23), 3) := by decide +kernel
theorem dd_X4_compareRhythms_36 : decode X4_compareRhythms.2.1 36 = .ok (.return_, 1) := by decide +kernel
theorem dd_X4_chooseFrom_0 : decode X4_chooseFrom.2.1 0 = .ok (.iload_n 1, 1) := by decide +kernel
theorem dd_X4_chooseFrom_1 : decode X4_chooseFrom.2.1 1 = .ok (.aload_n 0, 1) := by decide +kernel
theorem dd_X4_chooseFrom_2 : decode X4_chooseFrom.2.1 2 = .ok (.getfield 34, 3) := by decide +kernel
theorem dd_X4_chooseFrom_5 : decode X4_chooseFrom.2.1 5 = .ok (.if_icmp .lt 29, 3) := by decide +kernel
theorem dd_X4_chooseFrom_8 : decode X4_chooseFrom.2.1 8 = .ok (.aload_n 0, 1) := by decide +kernel
theorem dd_X4_chooseFrom_9 : decode X4_chooseFrom.2.1 9 = .ok (.iload_n 2, 1) := by decide +kernel
theorem dd_X4_chooseFrom_10 : decode X4_chooseFrom.2.1 10 = .ok (.invokestatic 58, 3) := by decide +kernel
theorem dd_X4_chooseFrom_13 : decode X4_chooseFrom.2.1 13 = .ok (.putfield 45, 3) := by decide +kernel
theorem dd_X4_chooseFrom_16 : decode X4_chooseFrom.2.1 16 = .ok (.aload_n 0, 1) := by decide +kernel
theorem dd_X4_chooseFrom_17 : decode X4_chooseFrom.2.1 17 = .ok (.getfield 15, 3) := by decide +kernel
theorem dd_X4_chooseFrom_20 : decode X4_chooseFrom.2.1 20 = .ok (.iconst 0, 1) := by decide +kernel
theorem dd_X4_chooseFrom_21 : decode X4_chooseFrom.2.1 21 = .ok (.aload_n 0, 1) := by decide +kernel
theorem dd_X4_chooseFrom_22 : decode X4_chooseFrom.2.1 22 = .ok (.getfield 9, 3) := by decide +kernel
theorem dd_X4_chooseFrom_25 : decode X4_chooseFrom.2.1 25 = .ok (.iconst 0, 1) := by decide +kernel
theorem dd_X4_chooseFrom_26 : decode X4_chooseFrom.2.1 26 = .ok (.bipush 6, 2) := by decide +kernel
theorem dd_X4_chooseFrom_28 : decode X4_chooseFrom.2.1 28 = .ok (.invokestatic 64, 3) := by decide +kernel
theorem dd_X4_chooseFrom_31 : decode X4_chooseFrom.2.1 31 = .ok (.bipush 63, 2) := by decide +kernel
theorem dd_X4_chooseFrom_33 : decode X4_chooseFrom.2.1 33 = .ok (.ireturn, 1) := by decide +kernel
theorem dd_X4_chooseFrom_34 : decode X4_chooseFrom.2.1 34 = .ok (.aload_n 0, 1) := by decide +kernel
theorem dd_X4_chooseFrom_35 : decode X4_chooseFrom.2.1 35 = .ok (.iload_n 1, 1) := by decide +kernel
theorem dd_X4_chooseFrom_36 : decode X4_chooseFrom.2.1 36 = .ok (.invokevirtual 70, 3) := by decide +kernel
theorem dd_X4_chooseFrom_39 : decode X4_chooseFrom.2.1 39 = .ok (.istore_n 3, 1) := by decide +kernel
theorem dd_X4_chooseFrom_40 : decode X4_chooseFrom.2.1 40 = .ok (.aload_n 0, 1) := by decide +kernel
theorem dd_X4_chooseFrom_41 : decode X4_chooseFrom.2.1 41 = .ok (.getfield 18, 3) := by decide +kernel
theorem dd_X4_chooseFrom_44 : decode X4_chooseFrom.2.1 44 = .ok (.iload_n 1, 1) := by decide +kernel
theorem dd_X4_chooseFrom_45 : decode X4_chooseFrom.2.1 45 = .ok (.iaload, 1) := by decide +kernel
theorem dd_X4_chooseFrom_46 : decode X4_chooseFrom.2.1 46 = .ok (.istore 4, 2) := by decide +kernel
theorem dd_X4_chooseFrom_48 : decode X4_chooseFrom.2.1 48 = .ok (.iconst 0, 1) := by decide +kernel
theorem dd_X4_chooseFrom_49 : decode X4_chooseFrom.2.1 49 = .ok (.istore 5, 2) := by decide +kernel
theorem dd_X4_chooseFrom_51 : decode X4_chooseFrom.2.1 51 = .ok (.iload 5, 2) := by decide +kernel
theorem dd_X4_chooseFrom_53 : decode X4_chooseFrom.2.1 53 = .ok (.aload_n 0, 1) := by decide +kernel
theorem dd_X4_chooseFrom_54 : decode X4_chooseFrom.2.1 54 = .ok (.getfield 52, 3) := by decide +kernel
theorem dd_X4_chooseFrom_57 : decode X4_chooseFrom.2.1 57 = .ok (.if_icmp .ge 100, 3) := by decide +kernel
theorem dd_X4_chooseFrom_60 : decode X4_chooseFrom.2.1 60 = .ok (.iload_n 2, 1) := by decide +kernel
theorem dd_X4_chooseFrom_61 : decode X4_chooseFrom.2.1 61 = .ok (.iconst 1, 1) := by decide +kernel
theorem dd_X4_chooseFrom_62 : decode X4_chooseFrom.2.1 62 = .ok (.iload 5, 2) := by decide +kernel
theorem dd_X4_chooseFrom_64 : decode X4_chooseFrom.2.1 64 = .ok (.ishl, 1) := by decide +kernel
theorem dd_X4_chooseFrom_65 : decode X4_chooseFrom.2.1 65 = .ok (.ior, 1) := by decide +kernel
theorem dd_X4_chooseFrom_66 : decode X4_chooseFrom.2.1 66 = .ok (.istore 6, 2) := by decide +kernel
theorem dd_X4_chooseFrom_68 : decode X4_chooseFrom.2.1 68 = .ok (.iload_n 3, 1) := by decide +kernel
theorem dd_X4_chooseFrom_69 : decode X4_chooseFrom.2.1 69 = .ok (.iload 5, 2) := by decide +kernel
theorem dd_X4_chooseFrom_71 : decode X4_chooseFrom.2.1 71 = .ok (.ishr, 1) := by decide +kernel
theorem dd_X4_chooseFrom_72 : decode X4_chooseFrom.2.1 72 = .ok (.iconst 1, 1) := by decide +kernel
theorem dd_X4_chooseFrom_73 : decode X4_chooseFrom.2.1 73 = .ok (.iand, 1) := by decide +kernel
theorem dd_X4_chooseFrom_74 : decode X4_chooseFrom.2.1 74 = .ok (.ifCond .ne 7, 3) := by decide +kernel
theorem dd_X4_chooseFrom_77 : decode X4_chooseFrom.2.1 77 = .ok (.iconst 1, 1) := by decide +kernel
theorem dd_X4_chooseFrom_78 : decode X4_chooseFrom.2.1 78 = .ok (.goto 4, 3) := by decide +kernel
theorem dd_X4_chooseFrom_81 : decode X4_chooseFrom.2.1 81 = .ok (.iconst 0, 1) := by decide +kernel
theorem dd_X4_chooseFrom_82 : decode X4_chooseFrom.2.1 82 = .ok (.istore 7, 2) := by decide +kernel
theorem dd_X4_chooseFrom_84 : decode X4_chooseFrom.2.1 84 = .ok (.iload 7, 2) := by decide +kernel
theorem dd_X4_chooseFrom_86 : decode X4_chooseFrom.2.1 86 = .ok (.ifCond .eq 22, 3) := by decide +kernel
theorem dd_X4_chooseFrom_89 : decode X4_chooseFrom.2.1 89 = .ok (.iload 6, 2) := by decide +kernel
theorem dd_X4_chooseFrom_91 : decode X4_chooseFrom.2.1 91 = .ok (.invokestatic 58, 3) := by decide +kernel
theorem dd_X4_chooseFrom_94 : decode X4_chooseFrom.2.1 94 = .ok (.aload_n 0, 1) := by decide +kernel
theorem dd_X4_chooseFrom_95 : decode X4_chooseFrom.2.1 95 = .ok (.getfield 45, 3) := by decide +kernel
theorem dd_X4_chooseFrom_98 : decode X4_chooseFrom.2.1 98 = .ok (.if_icmp .lt 10, 3) := by decide +kernel
theorem dd_X4_chooseFrom_101 : decode X4_chooseFrom.2.1 101 = .ok (.bipush 63, 2) := by decide +kernel
theorem dd_X4_chooseFrom_103 : decode X4_chooseFrom.2.1 103 = .ok (.istore 4, 2) := by decide +kernel
theorem dd_X4_chooseFrom_105 : decode X4_chooseFrom.2.1 105 = .ok (.goto 46, 3) := by decide +kernel
theorem dd_X4_chooseFrom_108 : decode X4_chooseFrom.2.1 108 = .ok (.iload 7, 2) := by decide +kernel
theorem dd_X4_chooseFrom_110 : decode X4_chooseFrom.2.1 110 = .ok (.ifCond .eq 41, 3) := by decide +kernel
theorem dd_X4_chooseFrom_113 : decode X4_chooseFrom.2.1 113 = .ok (.aload_n 0, 1) := by decide +kernel
theorem dd_X4_chooseFrom_114 : decode X4_chooseFrom.2.1 114 = .ok (.getfield 15, 3) := by decide +kernel
theorem dd_X4_chooseFrom_117 : decode X4_chooseFrom.2.1 117 = .ok (.iload_n 1, 1) := by decide +kernel
theorem dd_X4_chooseFrom_118 : decode X4_chooseFrom.2.1 118 = .ok (.iload 5, 2) := by decide +kernel
theorem dd_X4_chooseFrom_120 : decode X4_chooseFrom.2.1 120 = .ok (.iastore, 1) := by decide +kernel
theorem dd_X4_chooseFrom_121 : decode X4_chooseFrom.2.1 121 = .ok (.aload_n 0, 1) := by decide +kernel
theorem dd_X4_chooseFrom_122 : decode X4_chooseFrom.2.1 122 = .ok (.iload_n 1, 1) := by decide +kernel
theorem dd_X4_chooseFrom_123 : decode X4_chooseFrom.2.1 123 = .ok (.iconst 1, 1) := by decide +kernel
theorem dd_X4_chooseFrom_124 : decode X4_chooseFrom.2.1 124 = .ok (.iadd, 1) := by decide +kernel
theorem dd_X4_chooseFrom_125 : decode X4_chooseFrom.2.1 125 = .ok (.iload 6, 2) := by decide +kernel
theorem dd_X4_chooseFrom_127 : decode X4_chooseFrom.2.1 127 = .ok (.invokevirtual 48, 3) := by decide +kernel
theorem dd_X4_chooseFrom_130 : decode X4_chooseFrom.2.1 130 = .ok (.istore 8, 2) := by decide +kernel
theorem dd_X4_chooseFrom_132 : decode X4_chooseFrom.2.1 132 = .ok (.iload 8, 2) := by decide +kernel
theorem dd_X4_chooseFrom_134 : decode X4_chooseFrom.2.1 134 = .ok (.iload_n 1, 1) := by decide +kernel
theorem dd_X4_chooseFrom_135 : decode X4_chooseFrom.2.1 135 = .ok (.ishr, 1) := by decide +kernel
theorem dd_X4_chooseFrom_136 : decode X4_chooseFrom.2.1 136 = .ok (.iconst 1, 1) := by decide +kernel
theorem dd_X4_chooseFrom_137 : decode X4_chooseFrom.2.1 137 = .ok (.iand, 1) := by decide +kernel
theorem dd_X4_chooseFrom_138 : decode X4_chooseFrom.2.1 138 = .ok (.ifCond .ne 6, 3) := by decide +kernel
theorem dd_X4_chooseFrom_141 : decode X4_chooseFrom.2.1 141 = .ok (.iload 8, 2) := by decide +kernel
theorem dd_X4_chooseFrom_143 : decode X4_chooseFrom.2.1 143 = .ok (.ireturn, 1) := by decide +kernel
theorem dd_X4_chooseFrom_144 : decode X4_chooseFrom.2.1 144 = .ok (.iload 4, 2) := by decide +kernel
theorem dd_X4_chooseFrom_146 : decode X4_chooseFrom.2.1 146 = .ok (.iload 8, 2) := by decide +kernel
theorem dd_X4_chooseFrom_148 : decode X4_chooseFrom.2.1 148 = .ok (.ior, 1) := by decide +kernel
theorem dd_X4_chooseFrom_149 : decode X4_chooseFrom.2.1 149 = .ok (.istore 4, 2) := by decide +kernel
theorem dd_X4_chooseFrom_151 : decode X4_chooseFrom.2.1 151 = .ok (.iinc 5 1, 3) := by decide +kernel
theorem dd_X4_chooseFrom_154 : decode X4_chooseFrom.2.1 154 = .ok (.goto (-103), 3) := by decide +kernel
theorem dd_X4_chooseFrom_157 : decode X4_chooseFrom.2.1 157 = .ok (.iload 4, 2) := by decide +kernel
theorem dd_X4_chooseFrom_159 : decode X4_chooseFrom.2.1 159 = .ok (.ireturn, 1) := by decide +kernel
theorem dd_X4_refusedFor_0 : decode X4_refusedFor.2.1 0 = .ok (.iconst 0, 1) := by decide +kernel
theorem dd_X4_refusedFor_1 : decode X4_refusedFor.2.1 1 = .ok (.istore_n 2, 1) := by decide +kernel
theorem dd_X4_refusedFor_2 : decode X4_refusedFor.2.1 2 = .ok (.iconst 0, 1) := by decide +kernel
theorem dd_X4_refusedFor_3 : decode X4_refusedFor.2.1 3 = .ok (.istore_n 3, 1) := by decide +kernel
theorem dd_X4_refusedFor_4 : decode X4_refusedFor.2.1 4 = .ok (.iload_n 3, 1) := by decide +kernel
theorem dd_X4_refusedFor_5 : decode X4_refusedFor.2.1 5 = .ok (.iload_n 1, 1) := by decide +kernel
theorem dd_X4_refusedFor_6 : decode X4_refusedFor.2.1 6 = .ok (.if_icmp .ge 37, 3) := by decide +kernel
theorem dd_X4_refusedFor_9 : decode X4_refusedFor.2.1 9 = .ok (.aload_n 0, 1) := by decide +kernel
theorem dd_X4_refusedFor_10 : decode X4_refusedFor.2.1 10 = .ok (.getfield 18, 3) := by decide +kernel
theorem dd_X4_refusedFor_13 : decode X4_refusedFor.2.1 13 = .ok (.iload_n 1, 1) := by decide +kernel
theorem dd_X4_refusedFor_14 : decode X4_refusedFor.2.1 14 = .ok (.iaload, 1) := by decide +kernel
theorem dd_X4_refusedFor_15 : decode X4_refusedFor.2.1 15 = .ok (.iload_n 3, 1) := by decide +kernel
theorem dd_X4_refusedFor_16 : decode X4_refusedFor.2.1 16 = .ok (.ishr, 1) := by decide +kernel
theorem dd_X4_refusedFor_17 : decode X4_refusedFor.2.1 17 = .ok (.iconst 1, 1) := by decide +kernel
theorem dd_X4_refusedFor_18 : decode X4_refusedFor.2.1 18 = .ok (.iand, 1) := by decide +kernel
theorem dd_X4_refusedFor_19 : decode X4_refusedFor.2.1 19 = .ok (.iconst 1, 1) := by decide +kernel
theorem dd_X4_refusedFor_20 : decode X4_refusedFor.2.1 20 = .ok (.if_icmp .ne 17, 3) := by decide +kernel
theorem dd_X4_refusedFor_23 : decode X4_refusedFor.2.1 23 = .ok (.iload_n 2, 1) := by decide +kernel
theorem dd_X4_refusedFor_24 : decode X4_refusedFor.2.1 24 = .ok (.aload_n 0, 1) := by decide +kernel
theorem dd_X4_refusedFor_25 : decode X4_refusedFor.2.1 25 = .ok (.getfield 21, 3) := by decide +kernel
theorem dd_X4_refusedFor_28 : decode X4_refusedFor.2.1 28 = .ok (.aload_n 0, 1) := by decide +kernel
theorem dd_X4_refusedFor_29 : decode X4_refusedFor.2.1 29 = .ok (.getfield 15, 3) := by decide +kernel
theorem dd_X4_refusedFor_32 : decode X4_refusedFor.2.1 32 = .ok (.iload_n 3, 1) := by decide +kernel
theorem dd_X4_refusedFor_33 : decode X4_refusedFor.2.1 33 = .ok (.iaload, 1) := by decide +kernel
theorem dd_X4_refusedFor_34 : decode X4_refusedFor.2.1 34 = .ok (.iaload, 1) := by decide +kernel
theorem dd_X4_refusedFor_35 : decode X4_refusedFor.2.1 35 = .ok (.ior, 1) := by decide +kernel
theorem dd_X4_refusedFor_36 : decode X4_refusedFor.2.1 36 = .ok (.istore_n 2, 1) := by decide +kernel
theorem dd_X4_refusedFor_37 : decode X4_refusedFor.2.1 37 = .ok (.iinc 3 1, 3) := by decide +kernel
theorem dd_X4_refusedFor_40 : decode X4_refusedFor.2.1 40 = .ok (.goto (-36), 3) := by decide +kernel
theorem dd_X4_refusedFor_43 : decode X4_refusedFor.2.1 43 = .ok (.iload_n 2, 1) := by decide +kernel
theorem dd_X4_refusedFor_44 : decode X4_refusedFor.2.1 44 = .ok (.ireturn, 1) := by decide +kernel
theorem dd_X4_greatestUnlikeSet_0 : decode X4_greatestUnlikeSet.2.1 0 = .ok (.aload_n 0, 1) := by decide +kernel
theorem dd_X4_greatestUnlikeSet_1 : decode X4_greatestUnlikeSet.2.1 1 = .ok (.aload_n 1, 1) := by decide +kernel
theorem dd_X4_greatestUnlikeSet_2 : decode X4_greatestUnlikeSet.2.1 2 = .ok (.iload_n 2, 1) := by decide +kernel
theorem dd_X4_greatestUnlikeSet_3 : decode X4_greatestUnlikeSet.2.1 3 = .ok (.invokevirtual 24, 3) := by decide +kernel
theorem dd_X4_greatestUnlikeSet_6 : decode X4_greatestUnlikeSet.2.1 6 = .ok (.iconst 0, 1) := by decide +kernel
theorem dd_X4_greatestUnlikeSet_7 : decode X4_greatestUnlikeSet.2.1 7 = .ok (.istore_n 3, 1) := by decide +kernel
theorem dd_X4_greatestUnlikeSet_8 : decode X4_greatestUnlikeSet.2.1 8 = .ok (.iconst 1, 1) := by decide +kernel
theorem dd_X4_greatestUnlikeSet_9 : decode X4_greatestUnlikeSet.2.1 9 = .ok (.istore 4, 2) := by decide +kernel
theorem dd_X4_greatestUnlikeSet_11 : decode X4_greatestUnlikeSet.2.1 11 = .ok (.iload 4, 2) := by decide +kernel
theorem dd_X4_greatestUnlikeSet_13 : decode X4_greatestUnlikeSet.2.1 13 = .ok (.iconst 1, 1) := by decide +kernel
theorem dd_X4_greatestUnlikeSet_14 : decode X4_greatestUnlikeSet.2.1 14 = .ok (.aload_n 0, 1) := by decide +kernel
theorem dd_X4_greatestUnlikeSet_15 : decode X4_greatestUnlikeSet.2.1 15 = .ok (.getfield 52, 3) := by decide +kernel
theorem dd_X4_greatestUnlikeSet_18 : decode X4_greatestUnlikeSet.2.1 18 = .ok (.ishl, 1) := by decide +kernel
theorem dd_X4_greatestUnlikeSet_19 : decode X4_greatestUnlikeSet.2.1 19 = .ok (.if_icmp .ge 33, 3) := by decide +kernel
theorem dd_X4_greatestUnlikeSet_22 : decode X4_greatestUnlikeSet.2.1 22 = .ok (.iload 4, 2) := by decide +kernel
theorem dd_X4_greatestUnlikeSet_24 : decode X4_greatestUnlikeSet.2.1 24 = .ok (.invokestatic 58, 3) := by decide +kernel
theorem dd_X4_greatestUnlikeSet_27 : decode X4_greatestUnlikeSet.2.1 27 = .ok (.iload_n 3, 1) := by decide +kernel
theorem dd_X4_greatestUnlikeSet_28 : decode X4_greatestUnlikeSet.2.1 28 = .ok (.invokestatic 58, 3) := by decide +kernel
theorem dd_X4_greatestUnlikeSet_31 : decode X4_greatestUnlikeSet.2.1 31 = .ok (.if_icmp .le 15, 3) := by decide +kernel
theorem dd_X4_greatestUnlikeSet_34 : decode X4_greatestUnlikeSet.2.1 34 = .ok (.aload_n 0, 1) := by decide +kernel
theorem dd_X4_greatestUnlikeSet_35 : decode X4_greatestUnlikeSet.2.1 35 = .ok (.iload 4, 2) := by decide +kernel
theorem dd_X4_greatestUnlikeSet_37 : decode X4_greatestUnlikeSet.2.1 37 = .ok (.invokevirtual 73, 3) := by decide +kernel
theorem dd_X4_greatestUnlikeSet_40 : decode X4_greatestUnlikeSet.2.1 40 = .ok (.ifCond .eq 6, 3) := by decide +kernel
theorem dd_X4_greatestUnlikeSet_43 : decode X4_greatestUnlikeSet.2.1 43 = .ok (.iload 4, 2) := by decide +kernel
theorem dd_X4_greatestUnlikeSet_45 : decode X4_greatestUnlikeSet.2.1 45 = .ok (.istore_n 3, 1) := by decide +kernel
theorem dd_X4_greatestUnlikeSet_46 : decode X4_greatestUnlikeSet.2.1 46 = .ok (.iinc 4 1, 3) := by decide +kernel
theorem dd_X4_greatestUnlikeSet_49 : decode X4_greatestUnlikeSet.2.1 49 = .ok (.goto (-38), 3) := by decide +kernel
theorem dd_X4_greatestUnlikeSet_52 : decode X4_greatestUnlikeSet.2.1 52 = .ok (.iload_n 3, 1) := by decide +kernel
theorem dd_X4_greatestUnlikeSet_53 : decode X4_greatestUnlikeSet.2.1 53 = .ok (.ireturn, 1) := by decide +kernel
theorem dd_X4_isUnlike_0 : decode X4_isUnlike.2.1 0 = .ok (.iconst 0, 1) := by decide +kernel
theorem dd_X4_isUnlike_1 : decode X4_isUnlike.2.1 1 = .ok (.istore_n 2, 1) := by decide +kernel
theorem dd_X4_isUnlike_2 : decode X4_isUnlike.2.1 2 = .ok (.iload_n 2, 1) := by decide +kernel
theorem dd_X4_isUnlike_3 : decode X4_isUnlike.2.1 3 = .ok (.aload_n 0, 1) := by decide +kernel
theorem dd_X4_isUnlike_4 : decode X4_isUnlike.2.1 4 = .ok (.getfield 52, 3) := by decide +kernel
theorem dd_X4_isUnlike_7 : decode X4_isUnlike.2.1 7 = .ok (.if_icmp .ge 35, 3) := by decide +kernel
theorem dd_X4_isUnlike_10 : decode X4_isUnlike.2.1 10 = .ok (.iload_n 1, 1) := by decide +kernel
theorem dd_X4_isUnlike_11 : decode X4_isUnlike.2.1 11 = .ok (.iconst 1, 1) := by decide +kernel
theorem dd_X4_isUnlike_12 : decode X4_isUnlike.2.1 12 = .ok (.iload_n 2, 1) := by decide +kernel
theorem dd_X4_isUnlike_13 : decode X4_isUnlike.2.1 13 = .ok (.ishl, 1) := by decide +kernel
theorem dd_X4_isUnlike_14 : decode X4_isUnlike.2.1 14 = .ok (.iconst (-1), 1) := by decide +kernel
theorem dd_X4_isUnlike_15 : decode X4_isUnlike.2.1 15 = .ok (.ixor, 1) := by decide +kernel
theorem dd_X4_isUnlike_16 : decode X4_isUnlike.2.1 16 = .ok (.iand, 1) := by decide +kernel
theorem dd_X4_isUnlike_17 : decode X4_isUnlike.2.1 17 = .ok (.istore_n 3, 1) := by decide +kernel
theorem dd_X4_isUnlike_18 : decode X4_isUnlike.2.1 18 = .ok (.iload_n 3, 1) := by decide +kernel
theorem dd_X4_isUnlike_19 : decode X4_isUnlike.2.1 19 = .ok (.iload_n 1, 1) := by decide +kernel
theorem dd_X4_isUnlike_20 : decode X4_isUnlike.2.1 20 = .ok (.if_icmp .eq 16, 3) := by decide +kernel
theorem dd_X4_isUnlike_23 : decode X4_isUnlike.2.1 23 = .ok (.aload_n 0, 1) := by decide +kernel
theorem dd_X4_isUnlike_24 : decode X4_isUnlike.2.1 24 = .ok (.getfield 21, 3) := by decide +kernel
theorem dd_X4_isUnlike_27 : decode X4_isUnlike.2.1 27 = .ok (.iload_n 2, 1) := by decide +kernel
theorem dd_X4_isUnlike_28 : decode X4_isUnlike.2.1 28 = .ok (.iaload, 1) := by decide +kernel
theorem dd_X4_isUnlike_29 : decode X4_isUnlike.2.1 29 = .ok (.iload_n 3, 1) := by decide +kernel
theorem dd_X4_isUnlike_30 : decode X4_isUnlike.2.1 30 = .ok (.iand, 1) := by decide +kernel
theorem dd_X4_isUnlike_31 : decode X4_isUnlike.2.1 31 = .ok (.ifCond .eq 5, 3) := by decide +kernel
theorem dd_X4_isUnlike_34 : decode X4_isUnlike.2.1 34 = .ok (.iconst 0, 1) := by decide +kernel
theorem dd_X4_isUnlike_35 : decode X4_isUnlike.2.1 35 = .ok (.ireturn, 1) := by decide +kernel
theorem dd_X4_isUnlike_36 : decode X4_isUnlike.2.1 36 = .ok (.iinc 2 1, 3) := by decide +kernel
theorem dd_X4_isUnlike_39 : decode X4_isUnlike.2.1 39 = .ok (.goto (-37), 3) := by decide +kernel
theorem dd_X4_isUnlike_42 : decode X4_isUnlike.2.1 42 = .ok (.iconst 1, 1) := by decide +kernel
theorem dd_X4_isUnlike_43 : decode X4_isUnlike.2.1 43 = .ok (.ireturn, 1) := by decide +kernel
theorem dd_X5_begin_0 : decode X5_begin.2.1 0 = .ok (.aload_n 0, 1) := by decide +kernel
theorem dd_X5_begin_1 : decode X5_begin.2.1 1 = .ok (.iconst 1, 1) := by decide +kernel
theorem dd_X5_begin_2 : decode X5_begin.2.1 2 = .ok (.putfield 15, 3) := by decide +kernel
theorem dd_X5_begin_5 : decode X5_begin.2.1 5 = .ok (.aload_n 0, 1) := by decide +kernel
theorem dd_X5_begin_6 : decode X5_begin.2.1 6 = .ok (.iconst 0, 1) := by decide +kernel
theorem dd_X5_begin_7 : decode X5_begin.2.1 7 = .ok (.putfield 19, 3) := by decide +kernel
theorem dd_X5_begin_10 : decode X5_begin.2.1 10 = .ok (.return_, 1) := by decide +kernel
theorem dd_X5_vanish_0 : decode X5_vanish.2.1 0 = .ok (.aload_n 0, 1) := by decide +kernel
theorem dd_X5_vanish_1 : decode X5_vanish.2.1 1 = .ok (.iconst 0, 1) := by decide +kernel
theorem dd_X5_vanish_2 : decode X5_vanish.2.1 2 = .ok (.putfield 15, 3) := by decide +kernel
theorem dd_X5_vanish_5 : decode X5_vanish.2.1 5 = .ok (.aload_n 0, 1) := by decide +kernel
theorem dd_X5_vanish_6 : decode X5_vanish.2.1 6 = .ok (.iconst 0, 1) := by decide +kernel
theorem dd_X5_vanish_7 : decode X5_vanish.2.1 7 = .ok (.putfield 19, 3) := by decide +kernel
theorem dd_X5_vanish_10 : decode X5_vanish.2.1 10 = .ok (.return_, 1) := by decide +kernel
theorem dd_X5_addInFront_0 : decode X5_addInFront.2.1 0 = .ok (.aload_n 0, 1) := by decide +kernel
theorem dd_X5_addInFront_1 : decode X5_addInFront.2.1 1 = .ok (.getfield 19, 3) := by decide +kernel
theorem dd_X5_addInFront_4 : decode X5_addInFront.2.1 4 = .ok (.bipush 12, 2) := by decide +kernel
theorem dd_X5_addInFront_6 : decode X5_addInFront.2.1 6 = .ok (.if_icmp .ge 37, 3) := by decide +kernel
theorem dd_X5_addInFront_9 : decode X5_addInFront.2.1 9 = .ok (.aload_n 0, 1) := by decide +kernel
theorem dd_X5_addInFront_10 : decode X5_addInFront.2.1 10 = .ok (.getfield 9, 3) := by decide +kernel
theorem dd_X5_addInFront_13 : decode X5_addInFront.2.1 13 = .ok (.iconst 0, 1) := by decide +kernel
theorem dd_X5_addInFront_14 : decode X5_addInFront.2.1 14 = .ok (.aload_n 0, 1) := by decide +kernel
theorem dd_X5_addInFront_15 : decode X5_addInFront.2.1 15 = .ok (.getfield 9, 3) := by decide +kernel
theorem dd_X5_addInFront_18 : decode X5_addInFront.2.1 18 = .ok (.iconst 1, 1) := by decide +kernel
theorem dd_X5_addInFront_19 : decode X5_addInFront.2.1 19 = .ok (.aload_n 0, 1) := by decide +kernel
theorem dd_X5_addInFront_20 : decode X5_addInFront.2.1 20 = .ok (.getfield 19, 3) := by decide +kernel
theorem dd_X5_addInFront_23 : decode X5_addInFront.2.1 23 = .ok (.invokestatic 23, 3) := by decide +kernel
theorem dd_X5_addInFront_26 : decode X5_addInFront.2.1 26 = .ok (.aload_n 0, 1) := by decide +kernel
theorem dd_X5_addInFront_27 : decode X5_addInFront.2.1 27 = .ok (.getfield 9, 3) := by decide +kernel
theorem dd_X5_addInFront_30 : decode X5_addInFront.2.1 30 = .ok (.iconst 0, 1) := by decide +kernel
theorem dd_X5_addInFront_31 : decode X5_addInFront.2.1 31 = .ok (.iload_n 1, 1) := by decide +kernel
theorem dd_X5_addInFront_32 : decode X5_addInFront.2.1 32 = .ok (.iastore, 1) := by decide +kernel
theorem dd_X5_addInFront_33 : decode X5_addInFront.2.1 33 = .ok (.aload_n 0, 1) := by decide +kernel
theorem dd_X5_addInFront_34 : decode X5_addInFront.2.1 34 = .ok (.dup, 1) := by decide +kernel
theorem dd_X5_addInFront_35 : decode X5_addInFront.2.1 35 = .ok (.getfield 19, 3) := by decide +kernel
theorem dd_X5_addInFront_38 : decode X5_addInFront.2.1 38 = .ok (.iconst 1, 1) := by decide +kernel
theorem dd_X5_addInFront_39 : decode X5_addInFront.2.1 39 = .ok (.iadd, 1) := by decide +kernel
theorem dd_X5_addInFront_40 : decode X5_addInFront.2.1 40 = .ok (.putfield 19, 3) := by decide +kernel
theorem dd_X5_addInFront_43 : decode X5_addInFront.2.1 43 = .ok (.return_, 1) := by decide +kernel
theorem dd_X5_addBehind_0 : decode X5_addBehind.2.1 0 = .ok (.aload_n 0, 1) := by decide +kernel
theorem dd_X5_addBehind_1 : decode X5_addBehind.2.1 1 = .ok (.getfield 19, 3) := by decide +kernel
theorem dd_X5_addBehind_4 : decode X5_addBehind.2.1 4 = .ok (.bipush 12, 2) := by decide +kernel
theorem dd_X5_addBehind_6 : decode X5_addBehind.2.1 6 = .ok (.if_icmp .ge 23, 3) := by decide +kernel
theorem dd_X5_addBehind_9 : decode X5_addBehind.2.1 9 = .ok (.aload_n 0, 1) := by decide +kernel
theorem dd_X5_addBehind_10 : decode X5_addBehind.2.1 10 = .ok (.getfield 9, 3) := by decide +kernel
theorem dd_X5_addBehind_13 : decode X5_addBehind.2.1 13 = .ok (.aload_n 0, 1) := by decide +kernel
theorem dd_X5_addBehind_14 : decode X5_addBehind.2.1 14 = .ok (.getfield 19, 3) := by decide +kernel
theorem dd_X5_addBehind_17 : decode X5_addBehind.2.1 17 = .ok (.iload_n 1, 1) := by decide +kernel
theorem dd_X5_addBehind_18 : decode X5_addBehind.2.1 18 = .ok (.iastore, 1) := by decide +kernel
theorem dd_X5_addBehind_19 : decode X5_addBehind.2.1 19 = .ok (.aload_n 0, 1) := by decide +kernel
theorem dd_X5_addBehind_20 : decode X5_addBehind.2.1 20 = .ok (.dup, 1) := by decide +kernel
theorem dd_X5_addBehind_21 : decode X5_addBehind.2.1 21 = .ok (.getfield 19, 3) := by decide +kernel
theorem dd_X5_addBehind_24 : decode X5_addBehind.2.1 24 = .ok (.iconst 1, 1) := by decide +kernel
theorem dd_X5_addBehind_25 : decode X5_addBehind.2.1 25 = .ok (.iadd, 1) := by decide +kernel
theorem dd_X5_addBehind_26 : decode X5_addBehind.2.1 26 = .ok (.putfield 19, 3) := by decide +kernel
theorem dd_X5_addBehind_29 : decode X5_addBehind.2.1 29 = .ok (.return_, 1) := by decide +kernel
theorem dd_X5_takeFirst_0 : decode X5_takeFirst.2.1 0 = .ok (.aload_n 0, 1) := by decide +kernel
theorem dd_X5_takeFirst_1 : decode X5_takeFirst.2.1 1 = .ok (.getfield 9, 3) := by decide +kernel
theorem dd_X5_takeFirst_4 : decode X5_takeFirst.2.1 4 = .ok (.iconst 0, 1) := by decide +kernel
theorem dd_X5_takeFirst_5 : decode X5_takeFirst.2.1 5 = .ok (.iaload, 1) := by decide +kernel
theorem dd_X5_takeFirst_6 : decode X5_takeFirst.2.1 6 = .ok (.istore_n 1, 1) := by decide +kernel
theorem dd_X5_takeFirst_7 : decode X5_takeFirst.2.1 7 = .ok (.aload_n 0, 1) := by decide +kernel
theorem dd_X5_takeFirst_8 : decode X5_takeFirst.2.1 8 = .ok (.getfield 19, 3) := by decide +kernel
theorem dd_X5_takeFirst_11 : decode X5_takeFirst.2.1 11 = .ok (.ifCond .le 30, 3) := by decide +kernel
theorem dd_X5_takeFirst_14 : decode X5_takeFirst.2.1 14 = .ok (.aload_n 0, 1) := by decide +kernel
theorem dd_X5_takeFirst_15 : decode X5_takeFirst.2.1 15 = .ok (.dup, 1) := by decide +kernel
theorem dd_X5_takeFirst_16 : decode X5_takeFirst.2.1 16 = .ok (.getfield 19, 3) := by decide +kernel
theorem dd_X5_takeFirst_19 : decode X5_takeFirst.2.1 19 = .ok (.iconst 1, 1) := by decide +kernel
theorem dd_X5_takeFirst_20 : decode X5_takeFirst.2.1 20 = .ok (.isub, 1) := by decide +kernel
theorem dd_X5_takeFirst_21 : decode X5_takeFirst.2.1 21 = .ok (.putfield 19, 3) := by decide +kernel
theorem dd_X5_takeFirst_24 : decode X5_takeFirst.2.1 24 = .ok (.aload_n 0, 1) := by decide +kernel
theorem dd_X5_takeFirst_25 : decode X5_takeFirst.2.1 25 = .ok (.getfield 9, 3) := by decide +kernel
theorem dd_X5_takeFirst_28 : decode X5_takeFirst.2.1 28 = .ok (.iconst 1, 1) := by decide +kernel
theorem dd_X5_takeFirst_29 : decode X5_takeFirst.2.1 29 = .ok (.aload_n 0, 1) := by decide +kernel
theorem dd_X5_takeFirst_30 : decode X5_takeFirst.2.1 30 = .ok (.getfield 9, 3) := by decide +kernel
theorem dd_X5_takeFirst_33 : decode X5_takeFirst.2.1 33 = .ok (.iconst 0, 1) := by decide +kernel
theorem dd_X5_takeFirst_34 : decode X5_takeFirst.2.1 34 = .ok (.aload_n 0, 1) := by decide +kernel
theorem dd_X5_takeFirst_35 : decode X5_takeFirst.2.1 35 = .ok (.getfield 19, 3) := by decide +kernel
theorem dd_X5_takeFirst_38 : decode X5_takeFirst.2.1 38 = .ok (.invokestatic 23, 3) := by decide +kernel
theorem dd_X5_takeFirst_41 : decode X5_takeFirst.2.1 41 = .ok (.iload_n 1, 1) := by decide +kernel
theorem dd_X5_takeFirst_42 : decode X5_takeFirst.2.1 42 = .ok (.ireturn, 1) := by decide +kernel
theorem dd_X5_takeLast_0 : decode X5_takeLast.2.1 0 = .ok (.aload_n 0, 1) := by decide +kernel
theorem dd_X5_takeLast_1 : decode X5_takeLast.2.1 1 = .ok (.getfield 19, 3) := by decide +kernel
theorem dd_X5_takeLast_4 : decode X5_takeLast.2.1 4 = .ok (.ifCond .le 13, 3) := by decide +kernel
theorem dd_X5_takeLast_7 : decode X5_takeLast.2.1 7 = .ok (.aload_n 0, 1) := by decide +kernel
theorem dd_X5_takeLast_8 : decode X5_takeLast.2.1 8 = .ok (.dup, 1) := by decide +kernel
theorem dd_X5_takeLast_9 : decode X5_takeLast.2.1 9 = .ok (.getfield 19, 3) := by decide +kernel
theorem dd_X5_takeLast_12 : decode X5_takeLast.2.1 12 = .ok (.iconst 1, 1) := by decide +kernel
theorem dd_X5_takeLast_13 : decode X5_takeLast.2.1 13 = .ok (.isub, 1) := by decide +kernel
theorem dd_X5_takeLast_14 : decode X5_takeLast.2.1 14 = .ok (.putfield 19, 3) := by decide +kernel
theorem dd_X5_takeLast_17 : decode X5_takeLast.2.1 17 = .ok (.aload_n 0, 1) := by decide +kernel
theorem dd_X5_takeLast_18 : decode X5_takeLast.2.1 18 = .ok (.getfield 9, 3) := by decide +kernel
theorem dd_X5_takeLast_21 : decode X5_takeLast.2.1 21 = .ok (.aload_n 0, 1) := by decide +kernel
theorem dd_X5_takeLast_22 : decode X5_takeLast.2.1 22 = .ok (.getfield 19, 3) := by decide +kernel
theorem dd_X5_takeLast_25 : decode X5_takeLast.2.1 25 = .ok (.iaload, 1) := by decide +kernel
theorem dd_X5_takeLast_26 : decode X5_takeLast.2.1 26 = .ok (.ireturn, 1) := by decide +kernel
theorem dd_X5_greatest_0 : decode X5_greatest.2.1 0 = .ok (.aload_n 0, 1) := by decide +kernel
theorem dd_X5_greatest_1 : decode X5_greatest.2.1 1 = .ok (.getfield 9, 3) := by decide +kernel
theorem dd_X5_greatest_4 : decode X5_greatest.2.1 4 = .ok (.iconst 0, 1) := by decide +kernel
theorem dd_X5_greatest_5 : decode X5_greatest.2.1 5 = .ok (.iaload, 1) := by decide +kernel
theorem dd_X5_greatest_6 : decode X5_greatest.2.1 6 = .ok (.istore_n 1, 1) := by decide +kernel
theorem dd_X5_greatest_7 : decode X5_greatest.2.1 7 = .ok (.iconst 1, 1) := by decide +kernel
theorem dd_X5_greatest_8 : decode X5_greatest.2.1 8 = .ok (.istore_n 2, 1) := by decide +kernel
theorem dd_X5_greatest_9 : decode X5_greatest.2.1 9 = .ok (.iload_n 2, 1) := by decide +kernel
theorem dd_X5_greatest_10 : decode X5_greatest.2.1 10 = .ok (.aload_n 0, 1) := by decide +kernel
theorem dd_X5_greatest_11 : decode X5_greatest.2.1 11 = .ok (.getfield 19, 3) := by decide +kernel
theorem dd_X5_greatest_14 : decode X5_greatest.2.1 14 = .ok (.if_icmp .ge 20, 3) := by decide +kernel
theorem dd_X5_greatest_17 : decode X5_greatest.2.1 17 = .ok (.iload_n 1, 1) := by decide +kernel
theorem dd_X5_greatest_18 : decode X5_greatest.2.1 18 = .ok (.aload_n 0, 1) := by decide +kernel
theorem dd_X5_greatest_19 : decode X5_greatest.2.1 19 = .ok (.getfield 9, 3) := by decide +kernel
theorem dd_X5_greatest_22 : decode X5_greatest.2.1 22 = .ok (.iload_n 2, 1) := by decide +kernel
theorem dd_X5_greatest_23 : decode X5_greatest.2.1 23 = .ok (.iaload, 1) := by decide +kernel
theorem dd_X5_greatest_24 : decode X5_greatest.2.1 24 = .ok (.invokestatic 29, 3) := by decide +kernel
theorem dd_X5_greatest_27 : decode X5_greatest.2.1 27 = .ok (.istore_n 1, 1) := by decide +kernel
theorem dd_X5_greatest_28 : decode X5_greatest.2.1 28 = .ok (.iinc 2 1, 3) := by decide +kernel
theorem dd_X5_greatest_31 : decode X5_greatest.2.1 31 = .ok (.goto (-22), 3) := by decide +kernel
theorem dd_X5_greatest_34 : decode X5_greatest.2.1 34 = .ok (.iload_n 1, 1) := by decide +kernel
theorem dd_X5_greatest_35 : decode X5_greatest.2.1 35 = .ok (.ireturn, 1) := by decide +kernel
theorem dd_X5_least_0 : decode X5_least.2.1 0 = .ok (.aload_n 0, 1) := by decide +kernel
theorem dd_X5_least_1 : decode X5_least.2.1 1 = .ok (.getfield 9, 3) := by decide +kernel
theorem dd_X5_least_4 : decode X5_least.2.1 4 = .ok (.iconst 0, 1) := by decide +kernel
theorem dd_X5_least_5 : decode X5_least.2.1 5 = .ok (.iaload, 1) := by decide +kernel
theorem dd_X5_least_6 : decode X5_least.2.1 6 = .ok (.istore_n 1, 1) := by decide +kernel
theorem dd_X5_least_7 : decode X5_least.2.1 7 = .ok (.iconst 1, 1) := by decide +kernel
theorem dd_X5_least_8 : decode X5_least.2.1 8 = .ok (.istore_n 2, 1) := by decide +kernel
theorem dd_X5_least_9 : decode X5_least.2.1 9 = .ok (.iload_n 2, 1) := by decide +kernel
theorem dd_X5_least_10 : decode X5_least.2.1 10 = .ok (.aload_n 0, 1) := by decide +kernel
theorem dd_X5_least_11 : decode X5_least.2.1 11 = .ok (.getfield 19, 3) := by decide +kernel
theorem dd_X5_least_14 : decode X5_least.2.1 14 = .ok (.if_icmp .ge 20, 3) := by decide +kernel
theorem dd_X5_least_17 : decode X5_least.2.1 17 = .ok (.iload_n 1, 1) := by decide +kernel
theorem dd_X5_least_18 : decode X5_least.2.1 18 = .ok (.aload_n 0, 1) := by decide +kernel
theorem dd_X5_least_19 : decode X5_least.2.1 19 = .ok (.getfield 9, 3) := by decide +kernel
theorem dd_X5_least_22 : decode X5_least.2.1 22 = .ok (.iload_n 2, 1) := by decide +kernel
theorem dd_X5_least_23 : decode X5_least.2.1 23 = .ok (.iaload, 1) := by decide +kernel
theorem dd_X5_least_24 : decode X5_least.2.1 24 = .ok (.invokestatic 35, 3) := by decide +kernel
theorem dd_X5_least_27 : decode X5_least.2.1 27 = .ok (.istore_n 1, 1) := by decide +kernel
theorem dd_X5_least_28 : decode X5_least.2.1 28 = .ok (.iinc 2 1, 3) := by decide +kernel
theorem dd_X5_least_31 : decode X5_least.2.1 31 = .ok (.goto (-22), 3) := by decide +kernel
theorem dd_X5_least_34 : decode X5_least.2.1 34 = .ok (.iload_n 1, 1) := by decide +kernel
theorem dd_X5_least_35 : decode X5_least.2.1 35 = .ok (.ireturn, 1) := by decide +kernel
theorem dd_X5_howMany_0 : decode X5_howMany.2.1 0 = .ok (.iconst 0, 1) := by decide +kernel
theorem dd_X5_howMany_1 : decode X5_howMany.2.1 1 = .ok (.istore_n 2, 1) := by decide +kernel
theorem dd_X5_howMany_2 : decode X5_howMany.2.1 2 = .ok (.iconst 0, 1) := by decide +kernel
theorem dd_X5_howMany_3 : decode X5_howMany.2.1 3 = .ok (.istore_n 3, 1) := by decide +kernel
theorem dd_X5_howMany_4 : decode X5_howMany.2.1 4 = .ok (.iload_n 3, 1) := by decide +kernel
theorem dd_X5_howMany_5 : decode X5_howMany.2.1 5 = .ok (.aload_n 0, 1) := by decide +kernel
theorem dd_X5_howMany_6 : decode X5_howMany.2.1 6 = .ok (.getfield 19, 3) := by decide +kernel
theorem dd_X5_howMany_9 : decode X5_howMany.2.1 9 = .ok (.if_icmp .ge 22, 3) := by decide +kernel
theorem dd_X5_howMany_12 : decode X5_howMany.2.1 12 = .ok (.aload_n 0, 1) := by decide +kernel
theorem dd_X5_howMany_13 : decode X5_howMany.2.1 13 = .ok (.getfield 9, 3) := by decide +kernel
theorem dd_X5_howMany_16 : decode X5_howMany.2.1 16 = .ok (.iload_n 3, 1) := by decide +kernel
theorem dd_X5_howMany_17 : decode X5_howMany.2.1 17 = .ok (.iaload, 1) := by decide +kernel
theorem dd_X5_howMany_18 : decode X5_howMany.2.1 18 = .ok (.iload_n 1, 1) := by decide +kernel
theorem dd_X5_howMany_19 : decode X5_howMany.2.1 19 = .ok (.if_icmp .ne 6, 3) := by decide +kernel
theorem dd_X5_howMany_22 : decode X5_howMany.2.1 22 = .ok (.iinc 2 1, 3) := by decide +kernel
theorem dd_X5_howMany_25 : decode X5_howMany.2.1 25 = .ok (.iinc 3 1, 3) := by decide +kernel
theorem dd_X5_howMany_28 : decode X5_howMany.2.1 28 = .ok (.goto (-24), 3) := by decide +kernel
theorem dd_X5_howMany_31 : decode X5_howMany.2.1 31 = .ok (.iload_n 2, 1) := by decide +kernel
theorem dd_X5_howMany_32 : decode X5_howMany.2.1 32 = .ok (.ireturn, 1) := by decide +kernel
theorem dd_X5_removeAll_0 : decode X5_removeAll.2.1 0 = .ok (.aload_n 0, 1) := by decide +kernel
theorem dd_X5_removeAll_1 : decode X5_removeAll.2.1 1 = .ok (.getfield 19, 3) := by decide +kernel
theorem dd_X5_removeAll_4 : decode X5_removeAll.2.1 4 = .ok (.istore_n 2, 1) := by decide +kernel
theorem dd_X5_removeAll_5 : decode X5_removeAll.2.1 5 = .ok (.aload_n 0, 1) := by decide +kernel
theorem dd_X5_removeAll_6 : decode X5_removeAll.2.1 6 = .ok (.iconst 0, 1) := by decide +kernel
theorem dd_X5_removeAll_7 : decode X5_removeAll.2.1 7 = .ok (.putfield 19, 3) := by decide +kernel
theorem dd_X5_removeAll_10 : decode X5_removeAll.2.1 10 = .ok (.iconst 0, 1) := by decide +kernel
theorem dd_X5_removeAll_11 : decode X5_removeAll.2.1 11 = .ok (.istore_n 3, 1) := by decide +kernel
theorem dd_X5_removeAll_12 : decode X5_removeAll.2.1 12 = .ok (.iload_n 3, 1) := by decide +kernel
theorem dd_X5_removeAll_13 : decode X5_removeAll.2.1 13 = .ok (.iload_n 2, 1) := by decide +kernel
theorem dd_X5_removeAll_14 : decode X5_removeAll.2.1 14 = .ok (.if_icmp .ge 44, 3) := by decide +kernel
theorem dd_X5_removeAll_17 : decode X5_removeAll.2.1 17 = .ok (.aload_n 0, 1) := by decide +kernel
theorem dd_X5_removeAll_18 : decode X5_removeAll.2.1 18 = .ok (.getfield 9, 3) := by decide +kernel
theorem dd_X5_removeAll_21 : decode X5_removeAll.2.1 21 = .ok (.iload_n 3, 1) := by decide +kernel
theorem dd_X5_removeAll_22 : decode X5_removeAll.2.1 22 = .ok (.iaload, 1) := by decide +kernel
theorem dd_X5_removeAll_23 : decode X5_removeAll.2.1 23 = .ok (.iload_n 1, 1) := by decide +kernel
theorem dd_X5_removeAll_24 : decode X5_removeAll.2.1 24 = .ok (.if_icmp .eq 28, 3) := by decide +kernel
theorem dd_X5_removeAll_27 : decode X5_removeAll.2.1 27 = .ok (.aload_n 0, 1) := by decide +kernel
theorem dd_X5_removeAll_28 : decode X5_removeAll.2.1 28 = .ok (.getfield 9, 3) := by decide +kernel
theorem dd_X5_removeAll_31 : decode X5_removeAll.2.1 31 = .ok (.aload_n 0, 1) := by decide +kernel
theorem dd_X5_removeAll_32 : decode X5_removeAll.2.1 32 = .ok (.getfield 19, 3) := by decide +kernel
theorem dd_X5_removeAll_35 : decode X5_removeAll.2.1 35 = .ok (.aload_n 0, 1) := by decide +kernel
theorem dd_X5_removeAll_36 : decode X5_removeAll.2.1 36 = .ok (.getfield 9, 3) := by decide +kernel
theorem dd_X5_removeAll_39 : decode X5_removeAll.2.1 39 = .ok (.iload_n 3, 1) := by decide +kernel
theorem dd_X5_removeAll_40 : decode X5_removeAll.2.1 40 = .ok (.iaload, 1) := by decide +kernel
theorem dd_X5_removeAll_41 : decode X5_removeAll.2.1 41 = .ok (.iastore, 1) := by decide +kernel
theorem dd_X5_removeAll_42 : decode X5_removeAll.2.1 42 = .ok (.aload_n 0, 1) := by decide +kernel
theorem dd_X5_removeAll_43 : decode X5_removeAll.2.1 43 = .ok (.dup, 1) := by decide +kernel
theorem dd_X5_removeAll_44 : decode X5_removeAll.2.1 44 = .ok (.getfield 19, 3) := by decide +kernel
theorem dd_X5_removeAll_47 : decode X5_removeAll.2.1 47 = .ok (.iconst 1, 1) := by decide +kernel
theorem dd_X5_removeAll_48 : decode X5_removeAll.2.1 48 = .ok (.iadd, 1) := by decide +kernel
theorem dd_X5_removeAll_49 : decode X5_removeAll.2.1 49 = .ok (.putfield 19, 3) := by decide +kernel
theorem dd_X5_removeAll_52 : decode X5_removeAll.2.1 52 = .ok (.iinc 3 1, 3) := by decide +kernel
theorem dd_X5_removeAll_55 : decode X5_removeAll.2.1 55 = .ok (.goto (-43), 3) := by decide +kernel
theorem dd_X5_removeAll_58 : decode X5_removeAll.2.1 58 = .ok (.iload_n 2, 1) := by decide +kernel
theorem dd_X5_removeAll_59 : decode X5_removeAll.2.1 59 = .ok (.aload_n 0, 1) := by decide +kernel
theorem dd_X5_removeAll_60 : decode X5_removeAll.2.1 60 = .ok (.getfield 19, 3) := by decide +kernel
theorem dd_X5_removeAll_63 : decode X5_removeAll.2.1 63 = .ok (.isub, 1) := by decide +kernel
theorem dd_X5_removeAll_64 : decode X5_removeAll.2.1 64 = .ok (.ireturn, 1) := by decide +kernel
theorem dd_X6_append_0 : decode X6_append.2.1 0 = .ok (.aload_n 0, 1) := by decide +kernel
theorem dd_X6_append_1 : decode X6_append.2.1 1 = .ok (.getfield 15, 3) := by decide +kernel
theorem dd_X6_append_4 : decode X6_append.2.1 4 = .ok (.sipush 200, 3) := by decide +kernel
theorem dd_X6_append_7 : decode X6_append.2.1 7 = .ok (.if_icmp .ge 23, 3) := by decide +kernel
theorem dd_X6_append_10 : decode X6_append.2.1 10 = .ok (.aload_n 0, 1) := by decide +kernel
theorem dd_X6_append_11 : decode X6_append.2.1 11 = .ok (.getfield 9, 3) := by decide +kernel
theorem dd_X6_append_14 : decode X6_append.2.1 14 = .ok (.aload_n 0, 1) := by decide +kernel
theorem dd_X6_append_15 : decode X6_append.2.1 15 = .ok (.getfield 15, 3) := by decide +kernel
theorem dd_X6_append_18 : decode X6_append.2.1 18 = .ok (.iload_n 1, 1) := by decide +kernel
theorem dd_X6_append_19 : decode X6_append.2.1 19 = .ok (.iastore, 1) := by decide +kernel
theorem dd_X6_append_20 : decode X6_append.2.1 20 = .ok (.aload_n 0, 1) := by decide +kernel
theorem dd_X6_append_21 : decode X6_append.2.1 21 = .ok (.dup, 1) := by decide +kernel
theorem dd_X6_append_22 : decode X6_append.2.1 22 = .ok (.getfield 15, 3) := by decide +kernel
theorem dd_X6_append_25 : decode X6_append.2.1 25 = .ok (.iconst 1, 1) := by decide +kernel
theorem dd_X6_append_26 : decode X6_append.2.1 26 = .ok (.iadd, 1) := by decide +kernel
theorem dd_X6_append_27 : decode X6_append.2.1 27 = .ok (.putfield 15, 3) := by decide +kernel
theorem dd_X6_append_30 : decode X6_append.2.1 30 = .ok (.return_, 1) := by decide +kernel
theorem dd_X6_readInto_0 : decode X6_readInto.2.1 0 = .ok (.aload_n 0, 1) := by decide +kernel
theorem dd_X6_readInto_1 : decode X6_readInto.2.1 1 = .ok (.iconst 0, 1) := by decide +kernel
theorem dd_X6_readInto_2 : decode X6_readInto.2.1 2 = .ok (.putfield 19, 3) := by decide +kernel
theorem dd_X6_readInto_5 : decode X6_readInto.2.1 5 = .ok (.iconst 1, 1) := by decide +kernel
theorem dd_X6_readInto_6 : decode X6_readInto.2.1 6 = .ok (.istore_n 2, 1) := by decide +kernel
theorem dd_X6_readInto_7 : decode X6_readInto.2.1 7 = .ok (.iload_n 2, 1) := by decide +kernel
theorem dd_X6_readInto_8 : decode X6_readInto.2.1 8 = .ok (.bipush 24, 2) := by decide +kernel
theorem dd_X6_readInto_10 : decode X6_readInto.2.1 10 = .ok (.if_icmp .gt 67, 3) := by decide +kernel
theorem dd_X6_readInto_13 : decode X6_readInto.2.1 13 = .ok (.aload_n 0, 1) := by decide +kernel
theorem dd_X6_readInto_14 : decode X6_readInto.2.1 14 = .ok (.invokevirtual 22, 3) := by decide +kernel
theorem dd_X6_readInto_17 : decode X6_readInto.2.1 17 = .ok (.aload_n 0, 1) := by decide +kernel
theorem dd_X6_readInto_18 : decode X6_readInto.2.1 18 = .ok (.aload_n 1, 1) := by decide +kernel
theorem dd_X6_readInto_19 : decode X6_readInto.2.1 19 = .ok (.invokevirtual 25, 3) := by decide +kernel
theorem dd_X6_readInto_22 : decode X6_readInto.2.1 22 = .ok (.ifCond .ne 8, 3) := by decide +kernel
theorem dd_X6_readInto_25 : decode X6_readInto.2.1 25 = .ok (.aload_n 0, 1) := by decide +kernel
theorem dd_X6_readInto_26 : decode X6_readInto.2.1 26 = .ok (.getfield 29, 3) := by decide +kernel
theorem dd_X6_readInto_29 : decode X6_readInto.2.1 29 = .ok (.ireturn, 1) := by decide +kernel
theorem dd_X6_readInto_30 : decode X6_readInto.2.1 30 = .ok (.aload_n 0, 1) := by decide +kernel
theorem dd_X6_readInto_31 : decode X6_readInto.2.1 31 = .ok (.iload_n 2, 1) := by decide +kernel
theorem dd_X6_readInto_32 : decode X6_readInto.2.1 32 = .ok (.putfield 32, 3) := by decide +kernel
theorem dd_X6_readInto_35 : decode X6_readInto.2.1 35 = .ok (.aload_n 0, 1) := by decide +kernel
theorem dd_X6_readInto_36 : decode X6_readInto.2.1 36 = .ok (.invokevirtual 22, 3) := by decide +kernel
theorem dd_X6_readInto_39 : decode X6_readInto.2.1 39 = .ok (.aload_n 0, 1) := by decide +kernel
theorem dd_X6_readInto_40 : decode X6_readInto.2.1 40 = .ok (.getfield 29, 3) := by decide +kernel
theorem dd_X6_readInto_43 : decode X6_readInto.2.1 43 = .ok (.aload_n 0, 1) := by decide +kernel
theorem dd_X6_readInto_44 : decode X6_readInto.2.1 44 = .ok (.getfield 15, 3) := by decide +kernel
theorem dd_X6_readInto_47 : decode X6_readInto.2.1 47 = .ok (.if_icmp .lt 5, 3) := by decide +kernel
theorem dd_X6_readInto_50 : decode X6_readInto.2.1 50 = .ok (.iconst (-1), 1) := by decide +kernel
theorem dd_X6_readInto_51 : decode X6_readInto.2.1 51 = .ok (.ireturn, 1) := by decide +kernel
theorem dd_X6_readInto_52 : decode X6_readInto.2.1 52 = .ok (.aload_n 0, 1) := by decide +kernel
theorem dd_X6_readInto_53 : decode X6_readInto.2.1 53 = .ok (.getfield 9, 3) := by decide +kernel
theorem dd_X6_readInto_56 : decode X6_readInto.2.1 56 = .ok (.aload_n 0, 1) := by decide +kernel
theorem dd_X6_readInto_57 : decode X6_readInto.2.1 57 = .ok (.getfield 29, 3) := by decide +kernel
theorem dd_X6_readInto_60 : decode X6_readInto.2.1 60 = .ok (.iaload, 1) := by decide +kernel
theorem dd_X6_readInto_61 : decode X6_readInto.2.1 61 = .ok (.bipush 59, 2) := by decide +kernel
theorem dd_X6_readInto_63 : decode X6_readInto.2.1 63 = .ok (.if_icmp .eq 8, 3) := by decide +kernel
theorem dd_X6_readInto_66 : decode X6_readInto.2.1 66 = .ok (.aload_n 0, 1) := by decide +kernel
theorem dd_X6_readInto_67 : decode X6_readInto.2.1 67 = .ok (.getfield 29, 3) := by decide +kernel
theorem dd_X6_readInto_70 : decode X6_readInto.2.1 70 = .ok (.ireturn, 1) := by decide +kernel
theorem dd_X6_readInto_71 : decode X6_readInto.2.1 71 = .ok (.iinc 2 1, 3) := by decide +kernel
theorem dd_X6_readInto_74 : decode X6_readInto.2.1 74 = .ok (.goto (-67), 3) := by decide +kernel
theorem dd_X6_readInto_77 : decode X6_readInto.2.1 77 = .ok (.aload_n 0, 1) := by decide +kernel
theorem dd_X6_readInto_78 : decode X6_readInto.2.1 78 = .ok (.getfield 29, 3) := by decide +kernel
theorem dd_X6_readInto_81 : decode X6_readInto.2.1 81 = .ok (.ireturn, 1) := by decide +kernel
theorem dd_X6_readClause_0 : decode X6_readClause.2.1 0 = .ok (.aload_n 0, 1) := by decide +kernel
theorem dd_X6_readClause_1 : decode X6_readClause.2.1 1 = .ok (.ldc 35, 2) := by decide +kernel
theorem dd_X6_readClause_3 : decode X6_readClause.2.1 3 = .ok (.invokevirtual 37, 3) := by decide +kernel
theorem dd_X6_readClause_6 : decode X6_readClause.2.1 6 = .ok (.ifCond .eq 9, 3) := by decide +kernel
theorem dd_X6_readClause_9 : decode X6_readClause.2.1 9 = .ok (.aload_n 0, 1) := by decide +kernel
theorem dd_X6_readClause_10 : decode X6_readClause.2.1 10 = .ok (.aload_n 1, 1) := by decide +kernel
theorem dd_X6_readClause_11 : decode X6_readClause.2.1 11 = .ok (.invokevirtual 41, 3) := by decide +kernel
theorem dd_X6_readClause_14 : decode X6_readClause.2.1 14 = .ok (.ireturn, 1) := by decide +kernel
theorem dd_X6_readClause_15 : decode X6_readClause.2.1 15 = .ok (.aload_n 0, 1) := by decide +kernel
theorem dd_X6_readClause_16 : decode X6_readClause.2.1 16 = .ok (.ldc 44, 2) := by decide +kernel
theorem dd_X6_readClause_18 : decode X6_readClause.2.1 18 = .ok (.invokevirtual 37, 3) := by decide +kernel
theorem dd_X6_readClause_21 : decode X6_readClause.2.1 21 = .ok (.ifCond .eq 9, 3) := by decide +kernel
theorem dd_X6_readClause_24 : decode X6_readClause.2.1 24 = .ok (.aload_n 0, 1) := by decide +kernel
theorem dd_X6_readClause_25 : decode X6_readClause.2.1 25 = .ok (.aload_n 1, 1) := by decide +kernel
theorem dd_X6_readClause_26 : decode X6_readClause.2.1 26 = .ok (.invokevirtual 46, 3) := by decide +kernel
theorem dd_X6_readClause_29 : decode X6_readClause.2.1 29 = .ok (.ireturn, 1) := by decide +kernel
theorem dd_X6_readClause_30 : decode X6_readClause.2.1 30 = .ok (.aload_n 0, 1) := by decide +kernel
theorem dd_X6_readClause_31 : decode X6_readClause.2.1 31 = .ok (.ldc 49, 2) := by decide +kernel
theorem dd_X6_readClause_33 : decode X6_readClause.2.1 33 = .ok (.invokevirtual 37, 3) := by decide +kernel
theorem dd_X6_readClause_36 : decode X6_readClause.2.1 36 = .ok (.ifCond .eq 9, 3) := by decide +kernel
theorem dd_X6_readClause_39 : decode X6_readClause.2.1 39 = .ok (.aload_n 0, 1) := by decide +kernel
theorem dd_X6_readClause_40 : decode X6_readClause.2.1 40 = .ok (.aload_n 1, 1) := by decide +kernel
theorem dd_X6_readClause_41 : decode X6_readClause.2.1 41 = .ok (.invokevirtual 51, 3) := by decide +kernel
theorem dd_X6_readClause_44 : decode X6_readClause.2.1 44 = .ok (.ireturn, 1) := by decide +kernel
theorem dd_X6_readClause_45 : decode X6_readClause.2.1 45 = .ok (.aload_n 0, 1) := by decide +kernel
theorem dd_X6_readClause_46 : decode X6_readClause.2.1 46 = .ok (.ldc 54, 2) := by decide +kernel
theorem dd_X6_readClause_48 : decode X6_readClause.2.1 48 = .ok (.invokevirtual 37, 3) := by decide +kernel
theorem dd_X6_readClause_51 : decode X6_readClause.2.1 51 = .ok (.ifCond .eq 26, 3) := by decide +kernel
theorem dd_X6_readClause_54 : decode X6_readClause.2.1 54 = .ok (.aload_n 1, 1) := by decide +kernel
theorem dd_X6_readClause_55 : decode X6_readClause.2.1 55 = .ok (.getfield 56, 3) := by decide +kernel
theorem dd_X6_readClause_58 : decode X6_readClause.2.1 58 = .ok (.bipush 8, 2) := by decide +kernel
theorem dd_X6_readClause_60 : decode X6_readClause.2.1 60 = .ok (.if_icmp .ge 15, 3) := by decide +kernel
theorem dd_X6_readClause_63 : decode X6_readClause.2.1 63 = .ok (.aload_n 0, 1) := by decide +kernel
theorem dd_X6_readClause_64 : decode X6_readClause.2.1 64 = .ok (.aload_n 1, 1) := by decide +kernel
theorem dd_X6_readClause_65 : decode X6_readClause.2.1 65 = .ok (.invokevirtual 61, 3) := by decide +kernel
theorem dd_X6_readClause_68 : decode X6_readClause.2.1 68 = .ok (.ifCond .eq 7, 3) := by decide +kernel
theorem dd_X6_readClause_71 : decode X6_readClause.2.1 71 = .ok (.iconst 1, 1) := by decide +kernel
theorem dd_X6_readClause_72 : decode X6_readClause.2.1 72 = .ok (.goto 4, 3) := by decide +kernel
theorem dd_X6_readClause_75 : decode X6_readClause.2.1 75 = .ok (.iconst 0, 1) := by decide +kernel
theorem dd_X6_readClause_76 : decode X6_readClause.2.1 76 = .ok (.ireturn, 1) := by decide +kernel
theorem dd_X6_readClause_77 : decode X6_readClause.2.1 77 = .ok (.aload_n 0, 1) := by decide +kernel
theorem dd_X6_readClause_78 : decode X6_readClause.2.1 78 = .ok (.ldc 64, 2) := by decide +kernel
theorem dd_X6_readClause_80 : decode X6_readClause.2.1 80 = .ok (.invokevirtual 37, 3) := by decide +kernel
theorem dd_X6_readClause_83 : decode X6_readClause.2.1 83 = .ok (.ifCond .eq 29, 3) := by decide +kernel
theorem dd_X6_readClause_86 : decode X6_readClause.2.1 86 = .ok (.aload_n 1, 1) := by decide +kernel
theorem dd_X6_readClause_87 : decode X6_readClause.2.1 87 = .ok (.getfield 66, 3) := by decide +kernel
theorem dd_X6_readClause_90 : decode X6_readClause.2.1 90 = .ok (.getfield 70, 3) := by decide +kernel
theorem dd_X6_readClause_93 : decode X6_readClause.2.1 93 = .ok (.bipush 6, 2) := by decide +kernel
theorem dd_X6_readClause_95 : decode X6_readClause.2.1 95 = .ok (.if_icmp .ge 15, 3) := by decide +kernel
theorem dd_X6_readClause_98 : decode X6_readClause.2.1 98 = .ok (.aload_n 0, 1) := by decide +kernel
theorem dd_X6_readClause_99 : decode X6_readClause.2.1 99 = .ok (.aload_n 1, 1) := by decide +kernel
theorem dd_X6_readClause_100 : decode X6_readClause.2.1 100 = .ok (.invokevirtual 73, 3) := by decide +kernel
theorem dd_X6_readClause_103 : decode X6_readClause.2.1 103 = .ok (.ifCond .eq 7, 3) := by decide +kernel
theorem dd_X6_readClause_106 : decode X6_readClause.2.1 106 = .ok (.iconst 1, 1) := by decide +kernel
theorem dd_X6_readClause_107 : decode X6_readClause.2.1 107 = .ok (.goto 4, 3) := by decide +kernel
theorem dd_X6_readClause_110 : decode X6_readClause.2.1 110 = .ok (.iconst 0, 1) := by decide +kernel
theorem dd_X6_readClause_111 : decode X6_readClause.2.1 111 = .ok (.ireturn, 1) := by decide +kernel
theorem dd_X6_readClause_112 : decode X6_readClause.2.1 112 = .ok (.aload_n 0, 1) := by decide +kernel
theorem dd_X6_readClause_113 : decode X6_readClause.2.1 113 = .ok (.ldc 76, 2) := by decide +kernel
theorem dd_X6_readClause_115 : decode X6_readClause.2.1 115 = .ok (.invokevirtual 37, 3) := by decide +kernel
theorem dd_X6_readClause_118 : decode X6_readClause.2.1 118 = .ok (.ifCond .eq 15, 3) := by decide +kernel
theorem dd_X6_readClause_121 : decode X6_readClause.2.1 121 = .ok (.aload_n 0, 1) := by decide +kernel
theorem dd_X6_readClause_122 : decode X6_readClause.2.1 122 = .ok (.aload_n 1, 1) := by decide +kernel
theorem dd_X6_readClause_123 : decode X6_readClause.2.1 123 = .ok (.invokevirtual 78, 3) := by decide +kernel
theorem dd_X6_readClause_126 : decode X6_readClause.2.1 126 = .ok (.ifCond .eq 7, 3) := by decide +kernel
theorem dd_X6_readClause_129 : decode X6_readClause.2.1 129 = .ok (.iconst 1, 1) := by decide +kernel
theorem dd_X6_readClause_130 : decode X6_readClause.2.1 130 = .ok (.goto 4, 3) := by decide +kernel
theorem dd_X6_readClause_133 : decode X6_readClause.2.1 133 = .ok (.iconst 0, 1) := by decide +kernel
theorem dd_X6_readClause_134 : decode X6_readClause.2.1 134 = .ok (.ireturn, 1) := by decide +kernel
theorem dd_X6_readBeats_0 : decode X6_readBeats.2.1 0 = .ok (.aload_n 0, 1) := by decide +kernel
theorem dd_X6_readBeats_1 : decode X6_readBeats.2.1 1 = .ok (.iconst 3, 1) := by decide +kernel
theorem dd_X6_readBeats_2 : decode X6_readBeats.2.1 2 = .ok (.bipush 8, 2) := by decide +kernel
theorem dd_X6_readBeats_4 : decode X6_readBeats.2.1 4 = .ok (.invokevirtual 81, 3) := by decide +kernel
theorem dd_X6_readBeats_7 : decode X6_readBeats.2.1 7 = .ok (.istore_n 2, 1) := by decide +kernel
theorem dd_X6_readBeats_8 : decode X6_readBeats.2.1 8 = .ok (.iload_n 2, 1) := by decide +kernel
theorem dd_X6_readBeats_9 : decode X6_readBeats.2.1 9 = .ok (.iconst (-1), 1) := by decide +kernel
theorem dd_X6_readBeats_10 : decode X6_readBeats.2.1 10 = .ok (.if_icmp .eq 8, 3) := by decide +kernel
theorem dd_X6_readBeats_13 : decode X6_readBeats.2.1 13 = .ok (.aload_n 1, 1) := by decide +kernel
theorem dd_X6_readBeats_14 : decode X6_readBeats.2.1 14 = .ok (.iload_n 2, 1) := by decide +kernel
theorem dd_X6_readBeats_15 : decode X6_readBeats.2.1 15 = .ok (.invokevirtual 85, 3) := by decide +kernel
theorem dd_X6_readBeats_18 : decode X6_readBeats.2.1 18 = .ok (.iload_n 2, 1) := by decide +kernel
theorem dd_X6_readBeats_19 : decode X6_readBeats.2.1 19 = .ok (.iconst (-1), 1) := by decide +kernel
theorem dd_X6_readBeats_20 : decode X6_readBeats.2.1 20 = .ok (.if_icmp .eq 7, 3) := by decide +kernel
theorem dd_X6_readBeats_23 : decode X6_readBeats.2.1 23 = .ok (.iconst 1, 1) := by decide +kernel
theorem dd_X6_readBeats_24 : decode X6_readBeats.2.1 24 = .ok (.goto 4, 3) := by decide +kernel
theorem dd_X6_readBeats_27 : decode X6_readBeats.2.1 27 = .ok (.iconst 0, 1) := by decide +kernel
theorem dd_X6_readBeats_28 : decode X6_readBeats.2.1 28 = .ok (.ireturn, 1) := by decide +kernel
theorem dd_X6_readWindow_0 : decode X6_readWindow.2.1 0 = .ok (.aload_n 0, 1) := by decide +kernel
theorem dd_X6_readWindow_1 : decode X6_readWindow.2.1 1 = .ok (.iconst 2, 1) := by decide +kernel
theorem dd_X6_readWindow_2 : decode X6_readWindow.2.1 2 = .ok (.aload_n 1, 1) := by decide +kernel
theorem dd_X6_readWindow_3 : decode X6_readWindow.2.1 3 = .ok (.getfield 89, 3) := by decide +kernel
theorem dd_X6_readWindow_6 : decode X6_readWindow.2.1 6 = .ok (.invokevirtual 81, 3) := by decide +kernel
theorem dd_X6_readWindow_9 : decode X6_readWindow.2.1 9 = .ok (.istore_n 2, 1) := by decide +kernel
theorem dd_X6_readWindow_10 : decode X6_readWindow.2.1 10 = .ok (.iload_n 2, 1) := by decide +kernel
theorem dd_X6_readWindow_11 : decode X6_readWindow.2.1 11 = .ok (.iconst (-1), 1) := by decide +kernel
theorem dd_X6_readWindow_12 : decode X6_readWindow.2.1 12 = .ok (.if_icmp .eq 8, 3) := by decide +kernel
theorem dd_X6_readWindow_15 : decode X6_readWindow.2.1 15 = .ok (.aload_n 1, 1) := by decide +kernel
theorem dd_X6_readWindow_16 : decode X6_readWindow.2.1 16 = .ok (.iload_n 2, 1) := by decide +kernel
theorem dd_X6_readWindow_17 : decode X6_readWindow.2.1 17 = .ok (.putfield 91, 3) := by decide +kernel
theorem dd_X6_readWindow_20 : decode X6_readWindow.2.1 20 = .ok (.iload_n 2, 1) := by decide +kernel
theorem dd_X6_readWindow_21 : decode X6_readWindow.2.1 21 = .ok (.iconst (-1), 1) := by decide +kernel
theorem dd_X6_readWindow_22 : decode X6_readWindow.2.1 22 = .ok (.if_icmp .eq 7, 3) := by decide +kernel
theorem dd_X6_readWindow_25 : decode X6_readWindow.2.1 25 = .ok (.iconst 1, 1) := by decide +kernel
theorem dd_X6_readWindow_26 : decode X6_readWindow.2.1 26 = .ok (.goto 4, 3) := by decide +kernel
theorem dd_X6_readWindow_29 : decode X6_readWindow.2.1 29 = .ok (.iconst 0, 1) := by decide +kernel
theorem dd_X6_readWindow_30 : decode X6_readWindow.2.1 30 = .ok (.ireturn, 1) := by decide +kernel
theorem dd_X6_readSight_0 : decode X6_readSight.2.1 0 = .ok (.aload_n 0, 1) := by decide +kernel
theorem dd_X6_readSight_1 : decode X6_readSight.2.1 1 = .ok (.iconst 1, 1) := by decide +kernel
theorem dd_X6_readSight_2 : decode X6_readSight.2.1 2 = .ok (.bipush 99, 2) := by decide +kernel
theorem dd_X6_readSight_4 : decode X6_readSight.2.1 4 = .ok (.invokevirtual 81, 3) := by decide +kernel
theorem dd_X6_readSight_7 : decode X6_readSight.2.1 7 = .ok (.istore_n 2, 1) := by decide +kernel
theorem dd_X6_readSight_8 : decode X6_readSight.2.1 8 = .ok (.iload_n 2, 1) := by decide +kernel
theorem dd_X6_readSight_9 : decode X6_readSight.2.1 9 = .ok (.iconst (-1), 1) := by decide +kernel
theorem dd_X6_readSight_10 : decode X6_readSight.2.1 10 = .ok (.if_icmp .eq 8, 3) := by decide +kernel
theorem dd_X6_readSight_13 : decode X6_readSight.2.1 13 = .ok (.aload_n 1, 1) := by decide +kernel
theorem dd_X6_readSight_14 : decode X6_readSight.2.1 14 = .ok (.iload_n 2, 1) := by decide +kernel
theorem dd_X6_readSight_15 : decode X6_readSight.2.1 15 = .ok (.putfield 93, 3) := by decide +kernel
theorem dd_X6_readSight_18 : decode X6_readSight.2.1 18 = .ok (.iload_n 2, 1) := by decide +kernel
theorem dd_X6_readSight_19 : decode X6_readSight.2.1 19 = .ok (.iconst (-1), 1) := by decide +kernel
theorem dd_X6_readSight_20 : decode X6_readSight.2.1 20 = .ok (.if_icmp .eq 7, 3) := by decide +kernel
theorem dd_X6_readSight_23 : decode X6_readSight.2.1 23 = .ok (.iconst 1, 1) := by decide +kernel
theorem dd_X6_readSight_24 : decode X6_readSight.2.1 24 = .ok (.goto 4, 3) := by decide +kernel
theorem dd_X6_readSight_27 : decode X6_readSight.2.1 27 = .ok (.iconst 0, 1) := by decide +kernel
theorem dd_X6_readSight_28 : decode X6_readSight.2.1 28 = .ok (.ireturn, 1) := by decide +kernel
theorem dd_X6_readRhythm_0 : decode X6_readRhythm.2.1 0 = .ok (.aload_n 0, 1) := by decide +kernel
theorem dd_X6_readRhythm_1 : decode X6_readRhythm.2.1 1 = .ok (.invokevirtual 22, 3) := by decide +kernel
theorem dd_X6_readRhythm_4 : decode X6_readRhythm.2.1 4 = .ok (.aload_n 0, 1) := by decide +kernel
theorem dd_X6_readRhythm_5 : decode X6_readRhythm.2.1 5 = .ok (.getfield 19, 3) := by decide +kernel
theorem dd_X6_readRhythm_8 : decode X6_readRhythm.2.1 8 = .ok (.aload_n 0, 1) := by decide +kernel
theorem dd_X6_readRhythm_9 : decode X6_readRhythm.2.1 9 = .ok (.getfield 29, 3) := by decide +kernel
theorem dd_X6_readRhythm_12 : decode X6_readRhythm.2.1 12 = .ok (.isub, 1) := by decide +kernel
theorem dd_X6_readRhythm_13 : decode X6_readRhythm.2.1 13 = .ok (.aload_n 1, 1) := by decide +kernel
theorem dd_X6_readRhythm_14 : decode X6_readRhythm.2.1 14 = .ok (.getfield 89, 3) := by decide +kernel
theorem dd_X6_readRhythm_17 : decode X6_readRhythm.2.1 17 = .ok (.if_icmp .eq 5, 3) := by decide +kernel
theorem dd_X6_readRhythm_20 : decode X6_readRhythm.2.1 20 = .ok (.iconst 0, 1) := by decide +kernel
theorem dd_X6_readRhythm_21 : decode X6_readRhythm.2.1 21 = .ok (.ireturn, 1) := by decide +kernel
theorem dd_X6_readRhythm_22 : decode X6_readRhythm.2.1 22 = .ok (.iconst 0, 1) := by decide +kernel
theorem dd_X6_readRhythm_23 : decode X6_readRhythm.2.1 23 = .ok (.istore_n 2, 1) := by decide +kernel
theorem dd_X6_readRhythm_24 : decode X6_readRhythm.2.1 24 = .ok (.aload_n 0, 1) := by decide +kernel
theorem dd_X6_readRhythm_25 : decode X6_readRhythm.2.1 25 = .ok (.getfield 29, 3) := by decide +kernel
theorem dd_X6_readRhythm_28 : decode X6_readRhythm.2.1 28 = .ok (.istore_n 3, 1) := by decide +kernel
theorem dd_X6_readRhythm_29 : decode X6_readRhythm.2.1 29 = .ok (.iload_n 3, 1) := by decide +kernel
theorem dd_X6_readRhythm_30 : decode X6_readRhythm.2.1 30 = .ok (.aload_n 0, 1) := by decide +kernel
theorem dd_X6_readRhythm_31 : decode X6_readRhythm.2.1 31 = .ok (.getfield 19, 3) := by decide +kernel
theorem dd_X6_readRhythm_34 : decode X6_readRhythm.2.1 34 = .ok (.if_icmp .ge 54, 3) := by decide +kernel
theorem dd_X6_readRhythm_37 : decode X6_readRhythm.2.1 37 = .ok (.aload_n 0, 1) := by decide +kernel
theorem dd_X6_readRhythm_38 : decode X6_readRhythm.2.1 38 = .ok (.getfield 9, 3) := by decide +kernel
theorem dd_X6_readRhythm_41 : decode X6_readRhythm.2.1 41 = .ok (.iload_n 3, 1) := by decide +kernel
theorem dd_X6_readRhythm_42 : decode X6_readRhythm.2.1 42 = .ok (.iaload, 1) := by decide +kernel
theorem dd_X6_readRhythm_43 : decode X6_readRhythm.2.1 43 = .ok (.bipush 100, 2) := by decide +kernel
theorem dd_X6_readRhythm_45 : decode X6_readRhythm.2.1 45 = .ok (.if_icmp .eq 16, 3) := by decide +kernel
theorem dd_X6_readRhythm_48 : decode X6_readRhythm.2.1 48 = .ok (.aload_n 0, 1) := by decide +kernel
theorem dd_X6_readRhythm_49 : decode X6_readRhythm.2.1 49 = .ok (.getfield 9, 3) := by decide +kernel
theorem dd_X6_readRhythm_52 : decode X6_readRhythm.2.1 52 = .ok (.iload_n 3, 1) := by decide +kernel
theorem dd_X6_readRhythm_53 : decode X6_readRhythm.2.1 53 = .ok (.iaload, 1) := by decide +kernel
theorem dd_X6_readRhythm_54 : decode X6_readRhythm.2.1 54 = .ok (.bipush 102, 2) := by decide +kernel
theorem dd_X6_readRhythm_56 : decode X6_readRhythm.2.1 56 = .ok (.if_icmp .eq 5, 3) := by decide +kernel
theorem dd_X6_readRhythm_59 : decode X6_readRhythm.2.1 59 = .ok (.iconst 0, 1) := by decide +kernel
theorem dd_X6_readRhythm_60 : decode X6_readRhythm.2.1 60 = .ok (.ireturn, 1) := by decide +kernel
theorem dd_X6_readRhythm_61 : decode X6_readRhythm.2.1 61 = .ok (.iload_n 2, 1) := by decide +kernel
theorem dd_X6_readRhythm_62 : decode X6_readRhythm.2.1 62 = .ok (.iconst 1, 1) := by decide +kernel
theorem dd_X6_readRhythm_63 : decode X6_readRhythm.2.1 63 = .ok (.ishl, 1) := by decide +kernel
theorem dd_X6_readRhythm_64 : decode X6_readRhythm.2.1 64 = .ok (.aload_n 0, 1) := by decide +kernel
theorem dd_X6_readRhythm_65 : decode X6_readRhythm.2.1 65 = .ok (.getfield 9, 3) := by decide +kernel
theorem dd_X6_readRhythm_68 : decode X6_readRhythm.2.1 68 = .ok (.iload_n 3, 1) := by decide +kernel
theorem dd_X6_readRhythm_69 : decode X6_readRhythm.2.1 69 = .ok (.iaload, 1) := by decide +kernel
theorem dd_X6_readRhythm_70 : decode X6_readRhythm.2.1 70 = .ok (.bipush 102, 2) := by decide +kernel
theorem dd_X6_readRhythm_72 : decode X6_readRhythm.2.1 72 = .ok (.if_icmp .ne 7, 3) := by decide +kernel
theorem dd_X6_readRhythm_75 : decode X6_readRhythm.2.1 75 = .ok (.iconst 1, 1) := by decide +kernel
theorem dd_X6_readRhythm_76 : decode X6_readRhythm.2.1 76 = .ok (.goto 4, 3) := by decide +kernel
theorem dd_X6_readRhythm_79 : decode X6_readRhythm.2.1 79 = .ok (.iconst 0, 1) := by decide +kernel
theorem dd_X6_readRhythm_80 : decode X6_readRhythm.2.1 80 = .ok (.ior, 1) := by decide +kernel
theorem dd_X6_readRhythm_81 : decode X6_readRhythm.2.1 81 = .ok (.istore_n 2, 1) := by decide +kernel
theorem dd_X6_readRhythm_82 : decode X6_readRhythm.2.1 82 = .ok (.iinc 3 1, 3) := by decide +kernel
theorem dd_X6_readRhythm_85 : decode X6_readRhythm.2.1 85 = .ok (.goto (-56), 3) := by decide +kernel
theorem dd_X6_readRhythm_88 : decode X6_readRhythm.2.1 88 = .ok (.aload_n 1, 1) := by decide +kernel
theorem dd_X6_readRhythm_89 : decode X6_readRhythm.2.1 89 = .ok (.iload_n 2, 1) := by decide +kernel
theorem dd_X6_readRhythm_90 : decode X6_readRhythm.2.1 90 = .ok (.invokevirtual 95, 3) := by decide +kernel
theorem dd_X6_readRhythm_93 : decode X6_readRhythm.2.1 93 = .ok (.iconst 1, 1) := by decide +kernel
theorem dd_X6_readRhythm_94 : decode X6_readRhythm.2.1 94 = .ok (.ireturn, 1) := by decide +kernel
theorem dd_X6_readLight_0 : decode X6_readLight.2.1 0 = .ok (.aload_n 0, 1) := by decide +kernel
theorem dd_X6_readLight_1 : decode X6_readLight.2.1 1 = .ok (.iconst 0, 1) := by decide +kernel
theorem dd_X6_readLight_2 : decode X6_readLight.2.1 2 = .ok (.bipush 99, 2) := by decide +kernel
theorem dd_X6_readLight_4 : decode X6_readLight.2.1 4 = .ok (.invokevirtual 81, 3) := by decide +kernel
theorem dd_X6_readLight_7 : decode X6_readLight.2.1 7 = .ok (.istore_n 2, 1) := by decide +kernel
theorem dd_X6_readLight_8 : decode X6_readLight.2.1 8 = .ok (.iload_n 2, 1) := by decide +kernel
theorem dd_X6_readLight_9 : decode X6_readLight.2.1 9 = .ok (.iconst (-1), 1) := by decide +kernel
theorem dd_X6_readLight_10 : decode X6_readLight.2.1 10 = .ok (.if_icmp .eq 11, 3) := by decide +kernel
theorem dd_X6_readLight_13 : decode X6_readLight.2.1 13 = .ok (.aload_n 1, 1) := by decide +kernel
theorem dd_X6_readLight_14 : decode X6_readLight.2.1 14 = .ok (.getfield 66, 3) := by decide +kernel
theorem dd_X6_readLight_17 : decode X6_readLight.2.1 17 = .ok (.iload_n 2, 1) := by decide +kernel
theorem dd_X6_readLight_18 : decode X6_readLight.2.1 18 = .ok (.invokevirtual 98, 3) := by decide +kernel
theorem dd_X6_readLight_21 : decode X6_readLight.2.1 21 = .ok (.iload_n 2, 1) := by decide +kernel
theorem dd_X6_readLight_22 : decode X6_readLight.2.1 22 = .ok (.iconst (-1), 1) := by decide +kernel
theorem dd_X6_readLight_23 : decode X6_readLight.2.1 23 = .ok (.if_icmp .eq 7, 3) := by decide +kernel
theorem dd_X6_readLight_26 : decode X6_readLight.2.1 26 = .ok (.iconst 1, 1) := by decide +kernel
theorem dd_X6_readLight_27 : decode X6_readLight.2.1 27 = .ok (.goto 4, 3) := by decide +kernel
theorem dd_X6_readLight_30 : decode X6_readLight.2.1 30 = .ok (.iconst 0, 1) := by decide +kernel
theorem dd_X6_readLight_31 : decode X6_readLight.2.1 31 = .ok (.ireturn, 1) := by decide +kernel
theorem dd_X6_readLit_0 : decode X6_readLit.2.1 0 = .ok (.aload_n 0, 1) := by decide +kernel
theorem dd_X6_readLit_1 : decode X6_readLit.2.1 1 = .ok (.iconst 0, 1) := by decide +kernel
theorem dd_X6_readLit_2 : decode X6_readLit.2.1 2 = .ok (.aload_n 1, 1) := by decide +kernel
theorem dd_X6_readLit_3 : decode X6_readLit.2.1 3 = .ok (.getfield 66, 3) := by decide +kernel
theorem dd_X6_readLit_6 : decode X6_readLit.2.1 6 = .ok (.getfield 70, 3) := by decide +kernel
theorem dd_X6_readLit_9 : decode X6_readLit.2.1 9 = .ok (.iconst 1, 1) := by decide +kernel
theorem dd_X6_readLit_10 : decode X6_readLit.2.1 10 = .ok (.isub, 1) := by decide +kernel
theorem dd_X6_readLit_11 : decode X6_readLit.2.1 11 = .ok (.invokevirtual 81, 3) := by decide +kernel
theorem dd_X6_readLit_14 : decode X6_readLit.2.1 14 = .ok (.istore_n 2, 1) := by decide +kernel
theorem dd_X6_readLit_15 : decode X6_readLit.2.1 15 = .ok (.iload_n 2, 1) := by decide +kernel
theorem dd_X6_readLit_16 : decode X6_readLit.2.1 16 = .ok (.iconst (-1), 1) := by decide +kernel
theorem dd_X6_readLit_17 : decode X6_readLit.2.1 17 = .ok (.if_icmp .ne 5, 3) := by decide +kernel
theorem dd_X6_readLit_20 : decode X6_readLit.2.1 20 = .ok (.iconst 0, 1) := by decide +kernel
theorem dd_X6_readLit_21 : decode X6_readLit.2.1 21 = .ok (.ireturn, 1) := by decide +kernel
theorem dd_X6_readLit_22 : decode X6_readLit.2.1 22 = .ok (.aload_n 0, 1) := by decide +kernel
theorem dd_X6_readLit_23 : decode X6_readLit.2.1 23 = .ok (.iconst 0, 1) := by decide +kernel
theorem dd_X6_readLit_24 : decode X6_readLit.2.1 24 = .ok (.aload_n 1, 1) := by decide +kernel
theorem dd_X6_readLit_25 : decode X6_readLit.2.1 25 = .ok (.getfield 56, 3) := by decide +kernel
theorem dd_X6_readLit_28 : decode X6_readLit.2.1 28 = .ok (.iconst 1, 1) := by decide +kernel
theorem dd_X6_readLit_29 : decode X6_readLit.2.1 29 = .ok (.isub, 1) := by decide +kernel
theorem dd_X6_readLit_30 : decode X6_readLit.2.1 30 = .ok (.invokevirtual 81, 3) := by decide +kernel
theorem dd_X6_readLit_33 : decode X6_readLit.2.1 33 = .ok (.istore_n 3, 1) := by decide +kernel
theorem dd_X6_readLit_34 : decode X6_readLit.2.1 34 = .ok (.iload_n 3, 1) := by decide +kernel
theorem dd_X6_readLit_35 : decode X6_readLit.2.1 35 = .ok (.iconst (-1), 1) := by decide +kernel
theorem dd_X6_readLit_36 : decode X6_readLit.2.1 36 = .ok (.if_icmp .eq 13, 3) := by decide +kernel
theorem dd_X6_readLit_39 : decode X6_readLit.2.1 39 = .ok (.aload_n 1, 1) := by decide +kernel
theorem dd_X6_readLit_40 : decode X6_readLit.2.1 40 = .ok (.getfield 66, 3) := by decide +kernel
theorem dd_X6_readLit_43 : decode X6_readLit.2.1 43 = .ok (.getfield 101, 3) := by decide +kernel
theorem dd_X6_readLit_46 : decode X6_readLit.2.1 46 = .ok (.iload_n 2, 1) := by decide +kernel
theorem dd_X6_readLit_47 : decode X6_readLit.2.1 47 = .ok (.iload_n 3, 1) := by decide +kernel
theorem dd_X6_readLit_48 : decode X6_readLit.2.1 48 = .ok (.iastore, 1) := by decide +kernel
theorem dd_X6_readLit_49 : decode X6_readLit.2.1 49 = .ok (.iload_n 3, 1) := by decide +kernel
theorem dd_X6_readLit_50 : decode X6_readLit.2.1 50 = .ok (.iconst (-1), 1) := by decide +kernel
theorem dd_X6_readLit_51 : decode X6_readLit.2.1 51 = .ok (.if_icmp .eq 7, 3) := by decide +kernel
theorem dd_X6_readLit_54 : decode X6_readLit.2.1 54 = .ok (.iconst 1, 1) := by decide +kernel
theorem dd_X6_readLit_55 : decode X6_readLit.2.1 55 = .ok (.goto 4, 3) := by decide +kernel
theorem dd_X6_readLit_58 : decode X6_readLit.2.1 58 = .ok (.iconst 0, 1) := by decide +kernel
theorem dd_X6_readLit_59 : decode X6_readLit.2.1 59 = .ok (.ireturn, 1) := by decide +kernel
theorem dd_X6_readNumber_0 : decode X6_readNumber.2.1 0 = .ok (.aload_n 0, 1) := by decide +kernel
theorem dd_X6_readNumber_1 : decode X6_readNumber.2.1 1 = .ok (.invokevirtual 22, 3) := by decide +kernel
theorem dd_X6_readNumber_4 : decode X6_readNumber.2.1 4 = .ok (.aload_n 0, 1) := by decide +kernel
theorem dd_X6_readNumber_5 : decode X6_readNumber.2.1 5 = .ok (.getfield 19, 3) := by decide +kernel
theorem dd_X6_readNumber_8 : decode X6_readNumber.2.1 8 = .ok (.aload_n 0, 1) := by decide +kernel
theorem dd_X6_readNumber_9 : decode X6_readNumber.2.1 9 = .ok (.getfield 29, 3) := by decide +kernel
theorem dd_X6_readNumber_12 : decode X6_readNumber.2.1 12 = .ok (.isub, 1) := by decide +kernel
theorem dd_X6_readNumber_13 : decode X6_readNumber.2.1 13 = .ok (.istore_n 3, 1) := by decide +kernel
theorem dd_X6_readNumber_14 : decode X6_readNumber.2.1 14 = .ok (.iload_n 3, 1) := by decide +kernel
theorem dd_X6_readNumber_15 : decode X6_readNumber.2.1 15 = .ok (.iconst 1, 1) := by decide +kernel
theorem dd_X6_readNumber_16 : decode X6_readNumber.2.1 16 = .ok (.if_icmp .lt 8, 3) := by decide +kernel
theorem dd_X6_readNumber_19 : decode X6_readNumber.2.1 19 = .ok (.iload_n 3, 1) := by decide +kernel
theorem dd_X6_readNumber_20 : decode X6_readNumber.2.1 20 = .ok (.iconst 2, 1) := by decide +kernel
theorem dd_X6_readNumber_21 : decode X6_readNumber.2.1 21 = .ok (.if_icmp .le 5, 3) := by decide +kernel
theorem dd_X6_readNumber_24 : decode X6_readNumber.2.1 24 = .ok (.iconst (-1), 1) := by decide +kernel
theorem dd_X6_readNumber_25 : decode X6_readNumber.2.1 25 = .ok (.ireturn, 1) := by decide +kernel
theorem dd_X6_readNumber_26 : decode X6_readNumber.2.1 26 = .ok (.iconst 0, 1) := by decide +kernel
theorem dd_X6_readNumber_27 : decode X6_readNumber.2.1 27 = .ok (.istore 4, 2) := by decide +kernel
theorem dd_X6_readNumber_29 : decode X6_readNumber.2.1 29 = .ok (.aload_n 0, 1) := by decide +kernel
theorem dd_X6_readNumber_30 : decode X6_readNumber.2.1 30 = .ok (.getfield 29, 3) := by decide +kernel
theorem dd_X6_readNumber_33 : decode X6_readNumber.2.1 33 = .ok (.istore 5, 2) := by decide +kernel
theorem dd_X6_readNumber_35 : decode X6_readNumber.2.1 35 = .ok (.iload 5, 2) := by decide +kernel
theorem dd_X6_readNumber_37 : decode X6_readNumber.2.1 37 = .ok (.aload_n 0, 1) := by decide +kernel
theorem dd_X6_readNumber_38 : decode X6_readNumber.2.1 38 = .ok (.getfield 19, 3) := by decide +kernel
theorem dd_X6_readNumber_41 : decode X6_readNumber.2.1 41 = .ok (.if_icmp .ge 42, 3) := by decide +kernel
theorem dd_X6_readNumber_44 : decode X6_readNumber.2.1 44 = .ok (.aload_n 0, 1) := by decide +kernel
theorem dd_X6_readNumber_45 : decode X6_readNumber.2.1 45 = .ok (.getfield 9, 3) := by decide +kernel
theorem dd_X6_readNumber_48 : decode X6_readNumber.2.1 48 = .ok (.iload 5, 2) := by decide +kernel
theorem dd_X6_readNumber_50 : decode X6_readNumber.2.1 50 = .ok (.iaload, 1) := by decide +kernel
theorem dd_X6_readNumber_51 : decode X6_readNumber.2.1 51 = .ok (.invokestatic 104, 3) := by decide +kernel
theorem dd_X6_readNumber_54 : decode X6_readNumber.2.1 54 = .ok (.ifCond .ne 5, 3) := by decide +kernel
theorem dd_X6_readNumber_57 : decode X6_readNumber.2.1 57 = .ok (.iconst (-1), 1) := by decide +kernel
theorem dd_X6_readNumber_58 : decode X6_readNumber.2.1 58 = .ok (.ireturn, 1) := by decide +kernel
theorem dd_X6_readNumber_59 : decode X6_readNumber.2.1 59 = .ok (.iload 4, 2) := by decide +kernel
theorem dd_X6_readNumber_61 : decode X6_readNumber.2.1 61 = .ok (.bipush 10, 2) := by decide +kernel
theorem dd_X6_readNumber_63 : decode X6_readNumber.2.1 63 = .ok (.imul, 1) := by decide +kernel
theorem dd_X6_readNumber_64 : decode X6_readNumber.2.1 64 = .ok (.aload_n 0, 1) := by decide +kernel
theorem dd_X6_readNumber_65 : decode X6_readNumber.2.1 65 = .ok (.getfield 9, 3) := by decide +kernel
theorem dd_X6_readNumber_68 : decode X6_readNumber.2.1 68 = .ok (.iload 5, 2) := by decide +kernel
theorem dd_X6_readNumber_70 : decode X6_readNumber.2.1 70 = .ok (.iaload, 1) := by decide +kernel
theorem dd_X6_readNumber_71 : decode X6_readNumber.2.1 71 = .ok (.iadd, 1) := by decide +kernel
theorem dd_X6_readNumber_72 : decode X6_readNumber.2.1 72 = .ok (.bipush 48, 2) := by decide +kernel
theorem dd_X6_readNumber_74 : decode X6_readNumber.2.1 74 = .ok (.isub, 1) := by decide +kernel
theorem dd_X6_readNumber_75 : decode X6_readNumber.2.1 75 = .ok (.istore 4, 2) := by decide +kernel
theorem dd_X6_readNumber_77 : decode X6_readNumber.2.1 77 = .ok (.iinc 5 1, 3) := by decide +kernel
theorem dd_X6_readNumber_80 : decode X6_readNumber.2.1 80 = .ok (.goto (-45), 3) := by decide +kernel
theorem dd_X6_readNumber_83 : decode X6_readNumber.2.1 83 = .ok (.iload 4, 2) := by decide +kernel
theorem dd_X6_readNumber_85 : decode X6_readNumber.2.1 85 = .ok (.iload_n 1, 1) := by decide +kernel
theorem dd_X6_readNumber_86 : decode X6_readNumber.2.1 86 = .ok (.if_icmp .lt 9, 3) := by decide +kernel
theorem dd_X6_readNumber_89 : decode X6_readNumber.2.1 89 = .ok (.iload 4, 2) := by decide +kernel
theorem dd_X6_readNumber_91 : decode X6_readNumber.2.1 91 = .ok (.iload_n 2, 1) := by decide +kernel
theorem dd_X6_readNumber_92 : decode X6_readNumber.2.1 92 = .ok (.if_icmp .le 7, 3) := by decide +kernel
theorem dd_X6_readNumber_95 : decode X6_readNumber.2.1 95 = .ok (.iconst (-1), 1) := by decide +kernel
theorem dd_X6_readNumber_96 : decode X6_readNumber.2.1 96 = .ok (.goto 5, 3) := by decide +kernel
theorem dd_X6_readNumber_99 : decode X6_readNumber.2.1 99 = .ok (.iload 4, 2) := by decide +kernel
theorem dd_X6_readNumber_101 : decode X6_readNumber.2.1 101 = .ok (.ireturn, 1) := by decide +kernel
theorem dd_X6_advance_0 : decode X6_advance.2.1 0 = .ok (.aload_n 0, 1) := by decide +kernel
theorem dd_X6_advance_1 : decode X6_advance.2.1 1 = .ok (.aload_n 0, 1) := by decide +kernel
theorem dd_X6_advance_2 : decode X6_advance.2.1 2 = .ok (.getfield 19, 3) := by decide +kernel
theorem dd_X6_advance_5 : decode X6_advance.2.1 5 = .ok (.putfield 29, 3) := by decide +kernel
theorem dd_X6_advance_8 : decode X6_advance.2.1 8 = .ok (.aload_n 0, 1) := by decide +kernel
theorem dd_X6_advance_9 : decode X6_advance.2.1 9 = .ok (.getfield 29, 3) := by decide +kernel
theorem dd_X6_advance_12 : decode X6_advance.2.1 12 = .ok (.aload_n 0, 1) := by decide +kernel
theorem dd_X6_advance_13 : decode X6_advance.2.1 13 = .ok (.getfield 15, 3) := by decide +kernel
theorem dd_X6_advance_16 : decode X6_advance.2.1 16 = .ok (.if_icmp .ge 30, 3) := by decide +kernel
theorem dd_X6_advance_19 : decode X6_advance.2.1 19 = .ok (.aload_n 0, 1) := by decide +kernel
theorem dd_X6_advance_20 : decode X6_advance.2.1 20 = .ok (.getfield 9, 3) := by decide +kernel
theorem dd_X6_advance_23 : decode X6_advance.2.1 23 = .ok (.aload_n 0, 1) := by decide +kernel
theorem dd_X6_advance_24 : decode X6_advance.2.1 24 = .ok (.getfield 29, 3) := by decide +kernel
theorem dd_X6_advance_27 : decode X6_advance.2.1 27 = .ok (.iaload, 1) := by decide +kernel
theorem dd_X6_advance_28 : decode X6_advance.2.1 28 = .ok (.bipush 32, 2) := by decide +kernel
theorem dd_X6_advance_30 : decode X6_advance.2.1 30 = .ok (.if_icmp .ne 16, 3) := by decide +kernel
theorem dd_X6_advance_33 : decode X6_advance.2.1 33 = .ok (.aload_n 0, 1) := by decide +kernel
theorem dd_X6_advance_34 : decode X6_advance.2.1 34 = .ok (.dup, 1) := by decide +kernel
theorem dd_X6_advance_35 : decode X6_advance.2.1 35 = .ok (.getfield 29, 3) := by decide +kernel
theorem dd_X6_advance_38 : decode X6_advance.2.1 38 = .ok (.iconst 1, 1) := by decide +kernel
theorem dd_X6_advance_39 : decode X6_advance.2.1 39 = .ok (.iadd, 1) := by decide +kernel
theorem dd_X6_advance_40 : decode X6_advance.2.1 40 = .ok (.putfield 29, 3) := by decide +kernel
theorem dd_X6_advance_43 : decode X6_advance.2.1 43 = .ok (.goto (-35), 3) := by decide +kernel
theorem dd_X6_advance_46 : decode X6_advance.2.1 46 = .ok (.aload_n 0, 1) := by decide +kernel
theorem dd_X6_advance_47 : decode X6_advance.2.1 47 = .ok (.aload_n 0, 1) := by decide +kernel
theorem dd_X6_advance_48 : decode X6_advance.2.1 48 = .ok (.getfield 29, 3) := by decide +kernel
theorem dd_X6_advance_51 : decode X6_advance.2.1 51 = .ok (.putfield 19, 3) := by decide +kernel
theorem dd_X6_advance_54 : decode X6_advance.2.1 54 = .ok (.aload_n 0, 1) := by decide +kernel
theorem dd_X6_advance_55 : decode X6_advance.2.1 55 = .ok (.getfield 29, 3) := by decide +kernel
theorem dd_X6_advance_58 : decode X6_advance.2.1 58 = .ok (.aload_n 0, 1) := by decide +kernel
theorem dd_X6_advance_59 : decode X6_advance.2.1 59 = .ok (.getfield 15, 3) := by decide +kernel
theorem dd_X6_advance_62 : decode X6_advance.2.1 62 = .ok (.if_icmp .lt 4, 3) := by decide +kernel
theorem dd_X6_advance_65 : decode X6_advance.2.1 65 = .ok (.return_, 1) := by decide +kernel
theorem dd_X6_advance_66 : decode X6_advance.2.1 66 = .ok (.aload_n 0, 1) := by decide +kernel
theorem dd_X6_advance_67 : decode X6_advance.2.1 67 = .ok (.dup, 1) := by decide +kernel
theorem dd_X6_advance_68 : decode X6_advance.2.1 68 = .ok (.getfield 19, 3) := by decide +kernel
theorem dd_X6_advance_71 : decode X6_advance.2.1 71 = .ok (.iconst 1, 1) := by decide +kernel
theorem dd_X6_advance_72 : decode X6_advance.2.1 72 = .ok (.iadd, 1) := by decide +kernel
theorem dd_X6_advance_73 : decode X6_advance.2.1 73 = .ok (.putfield 19, 3) := by decide +kernel
theorem dd_X6_advance_76 : decode X6_advance.2.1 76 = .ok (.aload_n 0, 1) := by decide +kernel
theorem dd_X6_advance_77 : decode X6_advance.2.1 77 = .ok (.getfield 9, 3) := by decide +kernel
theorem dd_X6_advance_80 : decode X6_advance.2.1 80 = .ok (.aload_n 0, 1) := by decide +kernel
theorem dd_X6_advance_81 : decode X6_advance.2.1 81 = .ok (.getfield 29, 3) := by decide +kernel
theorem dd_X6_advance_84 : decode X6_advance.2.1 84 = .ok (.iaload, 1) := by decide +kernel
theorem dd_X6_advance_85 : decode X6_advance.2.1 85 = .ok (.invokestatic 108, 3) := by decide +kernel
theorem dd_X6_advance_88 : decode X6_advance.2.1 88 = .ok (.istore_n 1, 1) := by decide +kernel
theorem dd_X6_advance_89 : decode X6_advance.2.1 89 = .ok (.aload_n 0, 1) := by decide +kernel
theorem dd_X6_advance_90 : decode X6_advance.2.1 90 = .ok (.getfield 9, 3) := by decide +kernel
theorem dd_X6_advance_93 : decode X6_advance.2.1 93 = .ok (.aload_n 0, 1) := by decide +kernel
theorem dd_X6_advance_94 : decode X6_advance.2.1 94 = .ok (.getfield 29, 3) := by decide +kernel
theorem dd_X6_advance_97 : decode X6_advance.2.1 97 = .ok (.iaload, 1) := by decide +kernel
theorem dd_X6_advance_98 : decode X6_advance.2.1 98 = .ok (.invokestatic 104, 3) := by decide +kernel
theorem dd_X6_advance_101 : decode X6_advance.2.1 101 = .ok (.istore_n 2, 1) := by decide +kernel
theorem dd_X6_advance_102 : decode X6_advance.2.1 102 = .ok (.aload_n 0, 1) := by decide +kernel
theorem dd_X6_advance_103 : decode X6_advance.2.1 103 = .ok (.getfield 19, 3) := by decide +kernel
theorem dd_X6_advance_106 : decode X6_advance.2.1 106 = .ok (.aload_n 0, 1) := by decide +kernel
theorem dd_X6_advance_107 : decode X6_advance.2.1 107 = .ok (.getfield 15, 3) := by decide +kernel
theorem dd_X6_advance_110 : decode X6_advance.2.1 110 = .ok (.if_icmp .ge 54, 3) := by decide +kernel
theorem dd_X6_advance_113 : decode X6_advance.2.1 113 = .ok (.iload_n 1, 1) := by decide +kernel
theorem dd_X6_advance_114 : decode X6_advance.2.1 114 = .ok (.ifCond .eq 18, 3) := by decide +kernel
theorem dd_X6_advance_117 : decode X6_advance.2.1 117 = .ok (.aload_n 0, 1) := by decide +kernel
theorem dd_X6_advance_118 : decode X6_advance.2.1 118 = .ok (.getfield 9, 3) := by decide +kernel
theorem dd_X6_advance_121 : decode X6_advance.2.1 121 = .ok (.aload_n 0, 1) := by decide +kernel
theorem dd_X6_advance_122 : decode X6_advance.2.1 122 = .ok (.getfield 19, 3) := by decide +kernel
theorem dd_X6_advance_125 : decode X6_advance.2.1 125 = .ok (.iaload, 1) := by decide +kernel
theorem dd_X6_advance_126 : decode X6_advance.2.1 126 = .ok (.invokestatic 108, 3) := by decide +kernel
theorem dd_X6_advance_129 : decode X6_advance.2.1 129 = .ok (.ifCond .ne 22, 3) := by decide +kernel
theorem dd_X6_advance_132 : decode X6_advance.2.1 132 = .ok (.iload_n 2, 1) := by decide +kernel
theorem dd_X6_advance_133 : decode X6_advance.2.1 133 = .ok (.ifCond .eq 31, 3) := by decide +kernel
theorem dd_X6_advance_136 : decode X6_advance.2.1 136 = .ok (.aload_n 0, 1) := by decide +kernel
theorem dd_X6_advance_137 : decode X6_advance.2.1 137 = .ok (.getfield 9, 3) := by decide +kernel
theorem dd_X6_advance_140 : decode X6_advance.2.1 140 = .ok (.aload_n 0, 1) := by decide +kernel
theorem dd_X6_advance_141 : decode X6_advance.2.1 141 = .ok (.getfield 19, 3) := by decide +kernel
theorem dd_X6_advance_144 : decode X6_advance.2.1 144 = .ok (.iaload, 1) := by decide +kernel
theorem dd_X6_advance_145 : decode X6_advance.2.1 145 = .ok (.invokestatic 104, 3) := by decide +kernel
theorem dd_X6_advance_148 : decode X6_advance.2.1 148 = .ok (.ifCond .eq 16, 3) := by decide +kernel
theorem dd_X6_advance_151 : decode X6_advance.2.1 151 = .ok (.aload_n 0, 1) := by decide +kernel
theorem dd_X6_advance_152 : decode X6_advance.2.1 152 = .ok (.dup, 1) := by decide +kernel
theorem dd_X6_advance_153 : decode X6_advance.2.1 153 = .ok (.getfield 19, 3) := by decide +kernel
theorem dd_X6_advance_156 : decode X6_advance.2.1 156 = .ok (.iconst 1, 1) := by decide +kernel
theorem dd_X6_advance_157 : decode X6_advance.2.1 157 = .ok (.iadd, 1) := by decide +kernel
theorem dd_X6_advance_158 : decode X6_advance.2.1 158 = .ok (.putfield 19, 3) := by decide +kernel
theorem dd_X6_advance_161 : decode X6_advance.2.1 161 = .ok (.goto (-59), 3) := by decide +kernel
theorem dd_X6_advance_164 : decode X6_advance.2.1 164 = .ok (.return_, 1) := by decide +kernel
end
section
/-! DECODE ROWS, by program. -/
theorem dd_X6_isWord_0 : decode X6_isWord.2.1 0 = .ok (.aload_n 0, 1) := by decide +kernel
theorem dd_X6_isWord_1 : decode X6_isWord.2.1 1 = .ok (.getfield 19, 3) := by decide +kernel
theorem dd_X6_isWord_4 : decode X6_isWord.2.1 4 = .ok (.aload_n 0, 1) := by decide +kernel
theorem dd_X6_isWord_5 : decode X6_isWord.2.1 5 = .ok (.getfield 29, 3) := by decide +kernel
theorem dd_X6_isWord_8 : decode X6_isWord.2.1 8 = .ok (.isub, 1) := by decide +kernel
theorem dd_X6_isWord_9 : decode X6_isWord.2.1 9 = .ok (.aload_n 1, 1) := by decide +kernel
theorem dd_X6_isWord_10 : decode X6_isWord.2.1 10 = .ok (.invokevirtual 111, 3) := by decide +kernel
theorem dd_X6_isWord_13 : decode X6_isWord.2.1 13 = .ok (.if_icmp .eq 5, 3) := by decide +kernel
theorem dd_X6_isWord_16 : decode X6_isWord.2.1 16 = .ok (.iconst 0, 1) := by decide +kernel
theorem dd_X6_isWord_17 : decode X6_isWord.2.1 17 = .ok (.ireturn, 1) := by decide +kernel
theorem dd_X6_isWord_18 : decode X6_isWord.2.1 18 = .ok (.aload_n 0, 1) := by decide +kernel
theorem dd_X6_isWord_19 : decode X6_isWord.2.1 19 = .ok (.getfield 29, 3) := by decide +kernel
theorem dd_X6_isWord_22 : decode X6_isWord.2.1 22 = .ok (.istore_n 2, 1) := by decide +kernel
theorem dd_X6_isWord_23 : decode X6_isWord.2.1 23 = .ok (.iload_n 2, 1) := by decide +kernel
theorem dd_X6_isWord_24 : decode X6_isWord.2.1 24 = .ok (.aload_n 0, 1) := by decide +kernel
theorem dd_X6_isWord_25 : decode X6_isWord.2.1 25 = .ok (.getfield 19, 3) := by decide +kernel
theorem dd_X6_isWord_28 : decode X6_isWord.2.1 28 = .ok (.if_icmp .ge 30, 3) := by decide +kernel
theorem dd_X6_isWord_31 : decode X6_isWord.2.1 31 = .ok (.aload_n 0, 1) := by decide +kernel
theorem dd_X6_isWord_32 : decode X6_isWord.2.1 32 = .ok (.getfield 9, 3) := by decide +kernel
theorem dd_X6_isWord_35 : decode X6_isWord.2.1 35 = .ok (.iload_n 2, 1) := by decide +kernel
theorem dd_X6_isWord_36 : decode X6_isWord.2.1 36 = .ok (.iaload, 1) := by decide +kernel
theorem dd_X6_isWord_37 : decode X6_isWord.2.1 37 = .ok (.aload_n 1, 1) := by decide +kernel
theorem dd_X6_isWord_38 : decode X6_isWord.2.1 38 = .ok (.iload_n 2, 1) := by decide +kernel
theorem dd_X6_isWord_39 : decode X6_isWord.2.1 39 = .ok (.aload_n 0, 1) := by decide +kernel
theorem dd_X6_isWord_40 : decode X6_isWord.2.1 40 = .ok (.getfield 29, 3) := by decide +kernel
theorem dd_X6_isWord_43 : decode X6_isWord.2.1 43 = .ok (.isub, 1) := by decide +kernel
theorem dd_X6_isWord_44 : decode X6_isWord.2.1 44 = .ok (.invokevirtual 116, 3) := by decide +kernel
theorem dd_X6_isWord_47 : decode X6_isWord.2.1 47 = .ok (.if_icmp .eq 5, 3) := by decide +kernel
theorem dd_X6_isWord_50 : decode X6_isWord.2.1 50 = .ok (.iconst 0, 1) := by decide +kernel
theorem dd_X6_isWord_51 : decode X6_isWord.2.1 51 = .ok (.ireturn, 1) := by decide +kernel
theorem dd_X6_isWord_52 : decode X6_isWord.2.1 52 = .ok (.iinc 2 1, 3) := by decide +kernel
theorem dd_X6_isWord_55 : decode X6_isWord.2.1 55 = .ok (.goto (-32), 3) := by decide +kernel
theorem dd_X6_isWord_58 : decode X6_isWord.2.1 58 = .ok (.iconst 1, 1) := by decide +kernel
theorem dd_X6_isWord_59 : decode X6_isWord.2.1 59 = .ok (.ireturn, 1) := by decide +kernel
theorem dd_X6_isSmall_0 : decode X6_isSmall.2.1 0 = .ok (.iload_n 0, 1) := by decide +kernel
theorem dd_X6_isSmall_1 : decode X6_isSmall.2.1 1 = .ok (.bipush 97, 2) := by decide +kernel
theorem dd_X6_isSmall_3 : decode X6_isSmall.2.1 3 = .ok (.if_icmp .lt 13, 3) := by decide +kernel
theorem dd_X6_isSmall_6 : decode X6_isSmall.2.1 6 = .ok (.iload_n 0, 1) := by decide +kernel
theorem dd_X6_isSmall_7 : decode X6_isSmall.2.1 7 = .ok (.bipush 122, 2) := by decide +kernel
theorem dd_X6_isSmall_9 : decode X6_isSmall.2.1 9 = .ok (.if_icmp .gt 7, 3) := by decide +kernel
theorem dd_X6_isSmall_12 : decode X6_isSmall.2.1 12 = .ok (.iconst 1, 1) := by decide +kernel
theorem dd_X6_isSmall_13 : decode X6_isSmall.2.1 13 = .ok (.goto 4, 3) := by decide +kernel
theorem dd_X6_isSmall_16 : decode X6_isSmall.2.1 16 = .ok (.iconst 0, 1) := by decide +kernel
theorem dd_X6_isSmall_17 : decode X6_isSmall.2.1 17 = .ok (.ireturn, 1) := by decide +kernel
theorem dd_X6_isDigit_0 : decode X6_isDigit.2.1 0 = .ok (.iload_n 0, 1) := by decide +kernel
theorem dd_X6_isDigit_1 : decode X6_isDigit.2.1 1 = .ok (.bipush 48, 2) := by decide +kernel
theorem dd_X6_isDigit_3 : decode X6_isDigit.2.1 3 = .ok (.if_icmp .lt 13, 3) := by decide +kernel
theorem dd_X6_isDigit_6 : decode X6_isDigit.2.1 6 = .ok (.iload_n 0, 1) := by decide +kernel
theorem dd_X6_isDigit_7 : decode X6_isDigit.2.1 7 = .ok (.bipush 57, 2) := by decide +kernel
theorem dd_X6_isDigit_9 : decode X6_isDigit.2.1 9 = .ok (.if_icmp .gt 7, 3) := by decide +kernel
theorem dd_X6_isDigit_12 : decode X6_isDigit.2.1 12 = .ok (.iconst 1, 1) := by decide +kernel
theorem dd_X6_isDigit_13 : decode X6_isDigit.2.1 13 = .ok (.goto 4, 3) := by decide +kernel
theorem dd_X6_isDigit_16 : decode X6_isDigit.2.1 16 = .ok (.iconst 0, 1) := by decide +kernel
theorem dd_X6_isDigit_17 : decode X6_isDigit.2.1 17 = .ok (.ireturn, 1) := by decide +kernel
theorem dd_X7_begin_0 : decode X7_begin.2.1 0 = .ok (.aload_n 0, 1) := by decide +kernel
theorem dd_X7_begin_1 : decode X7_begin.2.1 1 = .ok (.iconst 1, 1) := by decide +kernel
theorem dd_X7_begin_2 : decode X7_begin.2.1 2 = .ok (.putfield 9, 3) := by decide +kernel
theorem dd_X7_begin_5 : decode X7_begin.2.1 5 = .ok (.aload_n 0, 1) := by decide +kernel
theorem dd_X7_begin_6 : decode X7_begin.2.1 6 = .ok (.iload_n 3, 1) := by decide +kernel
theorem dd_X7_begin_7 : decode X7_begin.2.1 7 = .ok (.putfield 15, 3) := by decide +kernel
theorem dd_X7_begin_10 : decode X7_begin.2.1 10 = .ok (.aload_n 0, 1) := by decide +kernel
theorem dd_X7_begin_11 : decode X7_begin.2.1 11 = .ok (.lload_n 1, 1) := by decide +kernel
theorem dd_X7_begin_12 : decode X7_begin.2.1 12 = .ok (.putfield 18, 3) := by decide +kernel
theorem dd_X7_begin_15 : decode X7_begin.2.1 15 = .ok (.aload_n 0, 1) := by decide +kernel
theorem dd_X7_begin_16 : decode X7_begin.2.1 16 = .ok (.lconst 0, 1) := by decide +kernel
theorem dd_X7_begin_17 : decode X7_begin.2.1 17 = .ok (.putfield 22, 3) := by decide +kernel
theorem dd_X7_begin_20 : decode X7_begin.2.1 20 = .ok (.aload_n 0, 1) := by decide +kernel
theorem dd_X7_begin_21 : decode X7_begin.2.1 21 = .ok (.iconst 0, 1) := by decide +kernel
theorem dd_X7_begin_22 : decode X7_begin.2.1 22 = .ok (.putfield 25, 3) := by decide +kernel
theorem dd_X7_begin_25 : decode X7_begin.2.1 25 = .ok (.return_, 1) := by decide +kernel
theorem dd_X7_end_0 : decode X7_end.2.1 0 = .ok (.aload_n 0, 1) := by decide +kernel
theorem dd_X7_end_1 : decode X7_end.2.1 1 = .ok (.iconst 0, 1) := by decide +kernel
theorem dd_X7_end_2 : decode X7_end.2.1 2 = .ok (.putfield 9, 3) := by decide +kernel
theorem dd_X7_end_5 : decode X7_end.2.1 5 = .ok (.aload_n 0, 1) := by decide +kernel
theorem dd_X7_end_6 : decode X7_end.2.1 6 = .ok (.lconst 0, 1) := by decide +kernel
theorem dd_X7_end_7 : decode X7_end.2.1 7 = .ok (.putfield 18, 3) := by decide +kernel
theorem dd_X7_end_10 : decode X7_end.2.1 10 = .ok (.return_, 1) := by decide +kernel
theorem dd_X7_size_0 : decode X7_size.2.1 0 = .ok (.aload_n 0, 1) := by decide +kernel
theorem dd_X7_size_1 : decode X7_size.2.1 1 = .ok (.getfield 18, 3) := by decide +kernel
theorem dd_X7_size_4 : decode X7_size.2.1 4 = .ok (.invokestatic 29, 3) := by decide +kernel
theorem dd_X7_size_7 : decode X7_size.2.1 7 = .ok (.ireturn, 1) := by decide +kernel
theorem dd_X7_lights_0 : decode X7_lights.2.1 0 = .ok (.aload_n 0, 1) := by decide +kernel
theorem dd_X7_lights_1 : decode X7_lights.2.1 1 = .ok (.getfield 18, 3) := by decide +kernel
theorem dd_X7_lights_4 : decode X7_lights.2.1 4 = .ok (.invokestatic 35, 3) := by decide +kernel
theorem dd_X7_lights_7 : decode X7_lights.2.1 7 = .ok (.ireturn, 1) := by decide +kernel
theorem dd_X7_takeBeat_0 : decode X7_takeBeat.2.1 0 = .ok (.iconst 0, 1) := by decide +kernel
theorem dd_X7_takeBeat_1 : decode X7_takeBeat.2.1 1 = .ok (.istore 5, 2) := by decide +kernel
theorem dd_X7_takeBeat_3 : decode X7_takeBeat.2.1 3 = .ok (.iload 5, 2) := by decide +kernel
theorem dd_X7_takeBeat_5 : decode X7_takeBeat.2.1 5 = .ok (.bipush 48, 2) := by decide +kernel
theorem dd_X7_takeBeat_7 : decode X7_takeBeat.2.1 7 = .ok (.if_icmp .ge 87, 3) := by decide +kernel
theorem dd_X7_takeBeat_10 : decode X7_takeBeat.2.1 10 = .ok (.lconst 1, 1) := by decide +kernel
theorem dd_X7_takeBeat_11 : decode X7_takeBeat.2.1 11 = .ok (.iload 5, 2) := by decide +kernel
theorem dd_X7_takeBeat_13 : decode X7_takeBeat.2.1 13 = .ok (.lshl, 1) := by decide +kernel
theorem dd_X7_takeBeat_14 : decode X7_takeBeat.2.1 14 = .ok (.lstore 6, 2) := by decide +kernel
theorem dd_X7_takeBeat_16 : decode X7_takeBeat.2.1 16 = .ok (.lconst 1, 1) := by decide +kernel
theorem dd_X7_takeBeat_17 : decode X7_takeBeat.2.1 17 = .ok (.iload 5, 2) := by decide +kernel
theorem dd_X7_takeBeat_19 : decode X7_takeBeat.2.1 19 = .ok (.iload 5, 2) := by decide +kernel
theorem dd_X7_takeBeat_21 : decode X7_takeBeat.2.1 21 = .ok (.bipush 8, 2) := by decide +kernel
theorem dd_X7_takeBeat_23 : decode X7_takeBeat.2.1 23 = .ok (.irem, 1) := by decide +kernel
theorem dd_X7_takeBeat_24 : decode X7_takeBeat.2.1 24 = .ok (.isub, 1) := by decide +kernel
theorem dd_X7_takeBeat_25 : decode X7_takeBeat.2.1 25 = .ok (.aload_n 0, 1) := by decide +kernel
theorem dd_X7_takeBeat_26 : decode X7_takeBeat.2.1 26 = .ok (.iload 5, 2) := by decide +kernel
theorem dd_X7_takeBeat_28 : decode X7_takeBeat.2.1 28 = .ok (.iload 4, 2) := by decide +kernel
theorem dd_X7_takeBeat_30 : decode X7_takeBeat.2.1 30 = .ok (.invokevirtual 38, 3) := by decide +kernel
theorem dd_X7_takeBeat_33 : decode X7_takeBeat.2.1 33 = .ok (.iadd, 1) := by decide +kernel
theorem dd_X7_takeBeat_34 : decode X7_takeBeat.2.1 34 = .ok (.lshl, 1) := by decide +kernel
theorem dd_X7_takeBeat_35 : decode X7_takeBeat.2.1 35 = .ok (.lstore 8, 2) := by decide +kernel
theorem dd_X7_takeBeat_37 : decode X7_takeBeat.2.1 37 = .ok (.lload_n 2, 1) := by decide +kernel
theorem dd_X7_takeBeat_38 : decode X7_takeBeat.2.1 38 = .ok (.lload 8, 2) := by decide +kernel
theorem dd_X7_takeBeat_40 : decode X7_takeBeat.2.1 40 = .ok (.land, 1) := by decide +kernel
theorem dd_X7_takeBeat_41 : decode X7_takeBeat.2.1 41 = .ok (.lconst 0, 1) := by decide +kernel
theorem dd_X7_takeBeat_42 : decode X7_takeBeat.2.1 42 = .ok (.lcmp, 1) := by decide +kernel
theorem dd_X7_takeBeat_43 : decode X7_takeBeat.2.1 43 = .ok (.ifCond .eq 7, 3) := by decide +kernel
theorem dd_X7_takeBeat_46 : decode X7_takeBeat.2.1 46 = .ok (.iconst 1, 1) := by decide +kernel
theorem dd_X7_takeBeat_47 : decode X7_takeBeat.2.1 47 = .ok (.goto 4, 3) := by decide +kernel
theorem dd_X7_takeBeat_50 : decode X7_takeBeat.2.1 50 = .ok (.iconst 0, 1) := by decide +kernel
theorem dd_X7_takeBeat_51 : decode X7_takeBeat.2.1 51 = .ok (.istore 10, 2) := by decide +kernel
theorem dd_X7_takeBeat_53 : decode X7_takeBeat.2.1 53 = .ok (.aload_n 0, 1) := by decide +kernel
theorem dd_X7_takeBeat_54 : decode X7_takeBeat.2.1 54 = .ok (.getfield 18, 3) := by decide +kernel
theorem dd_X7_takeBeat_57 : decode X7_takeBeat.2.1 57 = .ok (.lload 6, 2) := by decide +kernel
theorem dd_X7_takeBeat_59 : decode X7_takeBeat.2.1 59 = .ok (.land, 1) := by decide +kernel
theorem dd_X7_takeBeat_60 : decode X7_takeBeat.2.1 60 = .ok (.lconst 0, 1) := by decide +kernel
theorem dd_X7_takeBeat_61 : decode X7_takeBeat.2.1 61 = .ok (.lcmp, 1) := by decide +kernel
theorem dd_X7_takeBeat_62 : decode X7_takeBeat.2.1 62 = .ok (.ifCond .eq 26, 3) := by decide +kernel
theorem dd_X7_takeBeat_65 : decode X7_takeBeat.2.1 65 = .ok (.iload 10, 2) := by decide +kernel
theorem dd_X7_takeBeat_67 : decode X7_takeBeat.2.1 67 = .ok (.iload_n 1, 1) := by decide +kernel
theorem dd_X7_takeBeat_68 : decode X7_takeBeat.2.1 68 = .ok (.iconst 1, 1) := by decide +kernel
theorem dd_X7_takeBeat_69 : decode X7_takeBeat.2.1 69 = .ok (.if_icmp .ne 7, 3) := by decide +kernel
theorem dd_X7_takeBeat_72 : decode X7_takeBeat.2.1 72 = .ok (.iconst 1, 1) := by decide +kernel
theorem dd_X7_takeBeat_73 : decode X7_takeBeat.2.1 73 = .ok (.goto 4, 3) := by decide +kernel
theorem dd_X7_takeBeat_76 : decode X7_takeBeat.2.1 76 = .ok (.iconst 0, 1) := by decide +kernel
theorem dd_X7_takeBeat_77 : decode X7_takeBeat.2.1 77 = .ok (.if_icmp .eq 11, 3) := by decide +kernel
theorem dd_X7_takeBeat_80 : decode X7_takeBeat.2.1 80 = .ok (.aload_n 0, 1) := by decide +kernel
theorem dd_X7_takeBeat_81 : decode X7_takeBeat.2.1 81 = .ok (.lload 6, 2) := by decide +kernel
theorem dd_X7_takeBeat_83 : decode X7_takeBeat.2.1 83 = .ok (.iload 10, 2) := by decide +kernel
theorem dd_X7_takeBeat_85 : decode X7_takeBeat.2.1 85 = .ok (.invokevirtual 42, 3) := by decide +kernel
theorem dd_X7_takeBeat_88 : decode X7_takeBeat.2.1 88 = .ok (.iinc 5 1, 3) := by decide +kernel
theorem dd_X7_takeBeat_91 : decode X7_takeBeat.2.1 91 = .ok (.goto (-88), 3) := by decide +kernel
theorem dd_X7_takeBeat_94 : decode X7_takeBeat.2.1 94 = .ok (.aload_n 0, 1) := by decide +kernel
theorem dd_X7_takeBeat_95 : decode X7_takeBeat.2.1 95 = .ok (.aload_n 0, 1) := by decide +kernel
theorem dd_X7_takeBeat_96 : decode X7_takeBeat.2.1 96 = .ok (.getfield 25, 3) := by decide +kernel
theorem dd_X7_takeBeat_99 : decode X7_takeBeat.2.1 99 = .ok (.iconst 1, 1) := by decide +kernel
theorem dd_X7_takeBeat_100 : decode X7_takeBeat.2.1 100 = .ok (.iadd, 1) := by decide +kernel
theorem dd_X7_takeBeat_101 : decode X7_takeBeat.2.1 101 = .ok (.iload 4, 2) := by decide +kernel
theorem dd_X7_takeBeat_103 : decode X7_takeBeat.2.1 103 = .ok (.if_icmp .ge 12, 3) := by decide +kernel
theorem dd_X7_takeBeat_106 : decode X7_takeBeat.2.1 106 = .ok (.aload_n 0, 1) := by decide +kernel
theorem dd_X7_takeBeat_107 : decode X7_takeBeat.2.1 107 = .ok (.getfield 25, 3) := by decide +kernel
theorem dd_X7_takeBeat_110 : decode X7_takeBeat.2.1 110 = .ok (.iconst 1, 1) := by decide +kernel
theorem dd_X7_takeBeat_111 : decode X7_takeBeat.2.1 111 = .ok (.iadd, 1) := by decide +kernel
theorem dd_X7_takeBeat_112 : decode X7_takeBeat.2.1 112 = .ok (.goto 4, 3) := by decide +kernel
theorem dd_X7_takeBeat_115 : decode X7_takeBeat.2.1 115 = .ok (.iconst 0, 1) := by decide +kernel
theorem dd_X7_takeBeat_116 : decode X7_takeBeat.2.1 116 = .ok (.putfield 25, 3) := by decide +kernel
theorem dd_X7_takeBeat_119 : decode X7_takeBeat.2.1 119 = .ok (.return_, 1) := by decide +kernel
theorem dd_X7_strikeOrForgive_0 : decode X7_strikeOrForgive.2.1 0 = .ok (.aload_n 0, 1) := by decide +kernel
theorem dd_X7_strikeOrForgive_1 : decode X7_strikeOrForgive.2.1 1 = .ok (.getfield 15, 3) := by decide +kernel
theorem dd_X7_strikeOrForgive_4 : decode X7_strikeOrForgive.2.1 4 = .ok (.ifCond .eq 31, 3) := by decide +kernel
theorem dd_X7_strikeOrForgive_7 : decode X7_strikeOrForgive.2.1 7 = .ok (.iload_n 3, 1) := by decide +kernel
theorem dd_X7_strikeOrForgive_8 : decode X7_strikeOrForgive.2.1 8 = .ok (.ifCond .eq 27, 3) := by decide +kernel
theorem dd_X7_strikeOrForgive_11 : decode X7_strikeOrForgive.2.1 11 = .ok (.aload_n 0, 1) := by decide +kernel
theorem dd_X7_strikeOrForgive_12 : decode X7_strikeOrForgive.2.1 12 = .ok (.getfield 22, 3) := by decide +kernel
theorem dd_X7_strikeOrForgive_15 : decode X7_strikeOrForgive.2.1 15 = .ok (.lload_n 1, 1) := by decide +kernel
theorem dd_X7_strikeOrForgive_16 : decode X7_strikeOrForgive.2.1 16 = .ok (.land, 1) := by decide +kernel
theorem dd_X7_strikeOrForgive_17 : decode X7_strikeOrForgive.2.1 17 = .ok (.lconst 0, 1) := by decide +kernel
theorem dd_X7_strikeOrForgive_18 : decode X7_strikeOrForgive.2.1 18 = .ok (.lcmp, 1) := by decide +kernel
theorem dd_X7_strikeOrForgive_19 : decode X7_strikeOrForgive.2.1 19 = .ok (.ifCond .ne 16, 3) := by decide +kernel
theorem dd_X7_strikeOrForgive_22 : decode X7_strikeOrForgive.2.1 22 = .ok (.aload_n 0, 1) := by decide +kernel
theorem dd_X7_strikeOrForgive_23 : decode X7_strikeOrForgive.2.1 23 = .ok (.dup, 1) := by decide +kernel
theorem dd_X7_strikeOrForgive_24 : decode X7_strikeOrForgive.2.1 24 = .ok (.getfield 22, 3) := by decide +kernel
theorem dd_X7_strikeOrForgive_27 : decode X7_strikeOrForgive.2.1 27 = .ok (.lload_n 1, 1) := by decide +kernel
theorem dd_X7_strikeOrForgive_28 : decode X7_strikeOrForgive.2.1 28 = .ok (.lor, 1) := by decide +kernel
theorem dd_X7_strikeOrForgive_29 : decode X7_strikeOrForgive.2.1 29 = .ok (.putfield 22, 3) := by decide +kernel
theorem dd_X7_strikeOrForgive_32 : decode X7_strikeOrForgive.2.1 32 = .ok (.goto 13, 3) := by decide +kernel
theorem dd_X7_strikeOrForgive_35 : decode X7_strikeOrForgive.2.1 35 = .ok (.aload_n 0, 1) := by decide +kernel
theorem dd_X7_strikeOrForgive_36 : decode X7_strikeOrForgive.2.1 36 = .ok (.dup, 1) := by decide +kernel
theorem dd_X7_strikeOrForgive_37 : decode X7_strikeOrForgive.2.1 37 = .ok (.getfield 18, 3) := by decide +kernel
theorem dd_X7_strikeOrForgive_40 : decode X7_strikeOrForgive.2.1 40 = .ok (.lload_n 1, 1) := by decide +kernel
theorem dd_X7_strikeOrForgive_41 : decode X7_strikeOrForgive.2.1 41 = .ok (.lxor, 1) := by decide +kernel
theorem dd_X7_strikeOrForgive_42 : decode X7_strikeOrForgive.2.1 42 = .ok (.putfield 18, 3) := by decide +kernel
theorem dd_X7_strikeOrForgive_45 : decode X7_strikeOrForgive.2.1 45 = .ok (.return_, 1) := by decide +kernel
theorem dd_X7_shiftNow_0 : decode X7_shiftNow.2.1 0 = .ok (.iload_n 1, 1) := by decide +kernel
theorem dd_X7_shiftNow_1 : decode X7_shiftNow.2.1 1 = .ok (.bipush 8, 2) := by decide +kernel
theorem dd_X7_shiftNow_3 : decode X7_shiftNow.2.1 3 = .ok (.irem, 1) := by decide +kernel
theorem dd_X7_shiftNow_4 : decode X7_shiftNow.2.1 4 = .ok (.aload_n 0, 1) := by decide +kernel
theorem dd_X7_shiftNow_5 : decode X7_shiftNow.2.1 5 = .ok (.getfield 25, 3) := by decide +kernel
theorem dd_X7_shiftNow_8 : decode X7_shiftNow.2.1 8 = .ok (.iadd, 1) := by decide +kernel
theorem dd_X7_shiftNow_9 : decode X7_shiftNow.2.1 9 = .ok (.istore_n 3, 1) := by decide +kernel
theorem dd_X7_shiftNow_10 : decode X7_shiftNow.2.1 10 = .ok (.iload_n 3, 1) := by decide +kernel
theorem dd_X7_shiftNow_11 : decode X7_shiftNow.2.1 11 = .ok (.iload_n 2, 1) := by decide +kernel
theorem dd_X7_shiftNow_12 : decode X7_shiftNow.2.1 12 = .ok (.if_icmp .ge 7, 3) := by decide +kernel
theorem dd_X7_shiftNow_15 : decode X7_shiftNow.2.1 15 = .ok (.iload_n 3, 1) := by decide +kernel
theorem dd_X7_shiftNow_16 : decode X7_shiftNow.2.1 16 = .ok (.goto 6, 3) := by decide +kernel
theorem dd_X7_shiftNow_19 : decode X7_shiftNow.2.1 19 = .ok (.iload_n 3, 1) := by decide +kernel
theorem dd_X7_shiftNow_20 : decode X7_shiftNow.2.1 20 = .ok (.iload_n 2, 1) := by decide +kernel
theorem dd_X7_shiftNow_21 : decode X7_shiftNow.2.1 21 = .ok (.isub, 1) := by decide +kernel
theorem dd_X7_shiftNow_22 : decode X7_shiftNow.2.1 22 = .ok (.ireturn, 1) := by decide +kernel
theorem dd_X7_pairAt_0 : decode X7_pairAt.2.1 0 = .ok (.iload_n 1, 1) := by decide +kernel
theorem dd_X7_pairAt_1 : decode X7_pairAt.2.1 1 = .ok (.istore_n 3, 1) := by decide +kernel
theorem dd_X7_pairAt_2 : decode X7_pairAt.2.1 2 = .ok (.iconst 0, 1) := by decide +kernel
theorem dd_X7_pairAt_3 : decode X7_pairAt.2.1 3 = .ok (.istore 4, 2) := by decide +kernel
theorem dd_X7_pairAt_5 : decode X7_pairAt.2.1 5 = .ok (.iload 4, 2) := by decide +kernel
theorem dd_X7_pairAt_7 : decode X7_pairAt.2.1 7 = .ok (.bipush 48, 2) := by decide +kernel
theorem dd_X7_pairAt_9 : decode X7_pairAt.2.1 9 = .ok (.if_icmp .ge 47, 3) := by decide +kernel
theorem dd_X7_pairAt_12 : decode X7_pairAt.2.1 12 = .ok (.aload_n 0, 1) := by decide +kernel
theorem dd_X7_pairAt_13 : decode X7_pairAt.2.1 13 = .ok (.getfield 18, 3) := by decide +kernel
theorem dd_X7_pairAt_16 : decode X7_pairAt.2.1 16 = .ok (.iload 4, 2) := by decide +kernel
theorem dd_X7_pairAt_18 : decode X7_pairAt.2.1 18 = .ok (.lshr, 1) := by decide +kernel
theorem dd_X7_pairAt_19 : decode X7_pairAt.2.1 19 = .ok (.lconst 1, 1) := by decide +kernel
theorem dd_X7_pairAt_20 : decode X7_pairAt.2.1 20 = .ok (.land, 1) := by decide +kernel
theorem dd_X7_pairAt_21 : decode X7_pairAt.2.1 21 = .ok (.lconst 1, 1) := by decide +kernel
theorem dd_X7_pairAt_22 : decode X7_pairAt.2.1 22 = .ok (.lcmp, 1) := by decide +kernel
theorem dd_X7_pairAt_23 : decode X7_pairAt.2.1 23 = .ok (.ifCond .ne 27, 3) := by decide +kernel
theorem dd_X7_pairAt_26 : decode X7_pairAt.2.1 26 = .ok (.iload_n 3, 1) := by decide +kernel
theorem dd_X7_pairAt_27 : decode X7_pairAt.2.1 27 = .ok (.ifCond .ne 20, 3) := by decide +kernel
theorem dd_X7_pairAt_30 : decode X7_pairAt.2.1 30 = .ok (.iload 4, 2) := by decide +kernel
theorem dd_X7_pairAt_32 : decode X7_pairAt.2.1 32 = .ok (.bipush 8, 2) := by decide +kernel
theorem dd_X7_pairAt_34 : decode X7_pairAt.2.1 34 = .ok (.idiv, 1) := by decide +kernel
theorem dd_X7_pairAt_35 : decode X7_pairAt.2.1 35 = .ok (.bipush 10, 2) := by decide +kernel
theorem dd_X7_pairAt_37 : decode X7_pairAt.2.1 37 = .ok (.imul, 1) := by decide +kernel
theorem dd_X7_pairAt_38 : decode X7_pairAt.2.1 38 = .ok (.aload_n 0, 1) := by decide +kernel
theorem dd_X7_pairAt_39 : decode X7_pairAt.2.1 39 = .ok (.iload 4, 2) := by decide +kernel
theorem dd_X7_pairAt_41 : decode X7_pairAt.2.1 41 = .ok (.iload_n 2, 1) := by decide +kernel
theorem dd_X7_pairAt_42 : decode X7_pairAt.2.1 42 = .ok (.invokevirtual 38, 3) := by decide +kernel
theorem dd_X7_pairAt_45 : decode X7_pairAt.2.1 45 = .ok (.iadd, 1) := by decide +kernel
theorem dd_X7_pairAt_46 : decode X7_pairAt.2.1 46 = .ok (.ireturn, 1) := by decide +kernel
theorem dd_X7_pairAt_47 : decode X7_pairAt.2.1 47 = .ok (.iinc 3 (-1), 3) := by decide +kernel
theorem dd_X7_pairAt_50 : decode X7_pairAt.2.1 50 = .ok (.iinc 4 1, 3) := by decide +kernel
theorem dd_X7_pairAt_53 : decode X7_pairAt.2.1 53 = .ok (.goto (-48), 3) := by decide +kernel
theorem dd_X7_pairAt_56 : decode X7_pairAt.2.1 56 = .ok (.iconst (-1), 1) := by decide +kernel
theorem dd_X7_pairAt_57 : decode X7_pairAt.2.1 57 = .ok (.ireturn, 1) := by decide +kernel
theorem dd_X8_write_0 : decode X8_write.2.1 0 = .ok (.iload_n 1, 1) := by decide +kernel
theorem dd_X8_write_1 : decode X8_write.2.1 1 = .ok (.ifCond .lt 10, 3) := by decide +kernel
theorem dd_X8_write_4 : decode X8_write.2.1 4 = .ok (.iload_n 1, 1) := by decide +kernel
theorem dd_X8_write_5 : decode X8_write.2.1 5 = .ok (.sipush 255, 3) := by decide +kernel
theorem dd_X8_write_8 : decode X8_write.2.1 8 = .ok (.if_icmp .le 6, 3) := by decide +kernel
theorem dd_X8_write_11 : decode X8_write.2.1 11 = .ok (.bipush (-3), 2) := by decide +kernel
theorem dd_X8_write_13 : decode X8_write.2.1 13 = .ok (.ireturn, 1) := by decide +kernel
theorem dd_X8_write_14 : decode X8_write.2.1 14 = .ok (.aload_n 0, 1) := by decide +kernel
theorem dd_X8_write_15 : decode X8_write.2.1 15 = .ok (.getfield 12, 3) := by decide +kernel
theorem dd_X8_write_18 : decode X8_write.2.1 18 = .ok (.getfield 74, 3) := by decide +kernel
theorem dd_X8_write_21 : decode X8_write.2.1 21 = .ok (.sipush 200, 3) := by decide +kernel
theorem dd_X8_write_24 : decode X8_write.2.1 24 = .ok (.if_icmp .lt 6, 3) := by decide +kernel
theorem dd_X8_write_27 : decode X8_write.2.1 27 = .ok (.bipush (-5), 2) := by decide +kernel
theorem dd_X8_write_29 : decode X8_write.2.1 29 = .ok (.ireturn, 1) := by decide +kernel
theorem dd_X8_write_30 : decode X8_write.2.1 30 = .ok (.aload_n 0, 1) := by decide +kernel
theorem dd_X8_write_31 : decode X8_write.2.1 31 = .ok (.getfield 12, 3) := by decide +kernel
theorem dd_X8_write_34 : decode X8_write.2.1 34 = .ok (.iload_n 1, 1) := by decide +kernel
theorem dd_X8_write_35 : decode X8_write.2.1 35 = .ok (.invokevirtual 78, 3) := by decide +kernel
theorem dd_X8_write_38 : decode X8_write.2.1 38 = .ok (.aload_n 0, 1) := by decide +kernel
theorem dd_X8_write_39 : decode X8_write.2.1 39 = .ok (.getfield 12, 3) := by decide +kernel
theorem dd_X8_write_42 : decode X8_write.2.1 42 = .ok (.getfield 74, 3) := by decide +kernel
theorem dd_X8_write_45 : decode X8_write.2.1 45 = .ok (.ireturn, 1) := by decide +kernel
theorem dd_X8_erase_0 : decode X8_erase.2.1 0 = .ok (.aload_n 0, 1) := by decide +kernel
theorem dd_X8_erase_1 : decode X8_erase.2.1 1 = .ok (.getfield 12, 3) := by decide +kernel
theorem dd_X8_erase_4 : decode X8_erase.2.1 4 = .ok (.getfield 74, 3) := by decide +kernel
theorem dd_X8_erase_7 : decode X8_erase.2.1 7 = .ok (.istore_n 1, 1) := by decide +kernel
theorem dd_X8_erase_8 : decode X8_erase.2.1 8 = .ok (.aload_n 0, 1) := by decide +kernel
theorem dd_X8_erase_9 : decode X8_erase.2.1 9 = .ok (.getfield 12, 3) := by decide +kernel
theorem dd_X8_erase_12 : decode X8_erase.2.1 12 = .ok (.iconst 0, 1) := by decide +kernel
theorem dd_X8_erase_13 : decode X8_erase.2.1 13 = .ok (.putfield 74, 3) := by decide +kernel
theorem dd_X8_erase_16 : decode X8_erase.2.1 16 = .ok (.iload_n 1, 1) := by decide +kernel
theorem dd_X8_erase_17 : decode X8_erase.2.1 17 = .ok (.ireturn, 1) := by decide +kernel
theorem dd_X8_fault_0 : decode X8_fault.2.1 0 = .ok (.aload_n 0, 1) := by decide +kernel
theorem dd_X8_fault_1 : decode X8_fault.2.1 1 = .ok (.getfield 23, 3) := by decide +kernel
theorem dd_X8_fault_4 : decode X8_fault.2.1 4 = .ok (.aload_n 0, 1) := by decide +kernel
theorem dd_X8_fault_5 : decode X8_fault.2.1 5 = .ok (.getfield 19, 3) := by decide +kernel
theorem dd_X8_fault_8 : decode X8_fault.2.1 8 = .ok (.invokevirtual 82, 3) := by decide +kernel
theorem dd_X8_fault_11 : decode X8_fault.2.1 11 = .ok (.aload_n 0, 1) := by decide +kernel
theorem dd_X8_fault_12 : decode X8_fault.2.1 12 = .ok (.getfield 12, 3) := by decide +kernel
theorem dd_X8_fault_15 : decode X8_fault.2.1 15 = .ok (.aload_n 0, 1) := by decide +kernel
theorem dd_X8_fault_16 : decode X8_fault.2.1 16 = .ok (.getfield 23, 3) := by decide +kernel
theorem dd_X8_fault_19 : decode X8_fault.2.1 19 = .ok (.invokevirtual 86, 3) := by decide +kernel
theorem dd_X8_fault_22 : decode X8_fault.2.1 22 = .ok (.ireturn, 1) := by decide +kernel
theorem dd_X8_office_0 : decode X8_office.2.1 0 = .ok (.aload_n 0, 1) := by decide +kernel
theorem dd_X8_office_1 : decode X8_office.2.1 1 = .ok (.getfield 23, 3) := by decide +kernel
theorem dd_X8_office_4 : decode X8_office.2.1 4 = .ok (.aload_n 0, 1) := by decide +kernel
theorem dd_X8_office_5 : decode X8_office.2.1 5 = .ok (.getfield 19, 3) := by decide +kernel
theorem dd_X8_office_8 : decode X8_office.2.1 8 = .ok (.invokevirtual 82, 3) := by decide +kernel
theorem dd_X8_office_11 : decode X8_office.2.1 11 = .ok (.aload_n 0, 1) := by decide +kernel
theorem dd_X8_office_12 : decode X8_office.2.1 12 = .ok (.getfield 12, 3) := by decide +kernel
theorem dd_X8_office_15 : decode X8_office.2.1 15 = .ok (.aload_n 0, 1) := by decide +kernel
theorem dd_X8_office_16 : decode X8_office.2.1 16 = .ok (.getfield 23, 3) := by decide +kernel
theorem dd_X8_office_19 : decode X8_office.2.1 19 = .ok (.invokevirtual 86, 3) := by decide +kernel
theorem dd_X8_office_22 : decode X8_office.2.1 22 = .ok (.iconst (-1), 1) := by decide +kernel
theorem dd_X8_office_23 : decode X8_office.2.1 23 = .ok (.if_icmp .eq 6, 3) := by decide +kernel
theorem dd_X8_office_26 : decode X8_office.2.1 26 = .ok (.bipush (-4), 2) := by decide +kernel
theorem dd_X8_office_28 : decode X8_office.2.1 28 = .ok (.ireturn, 1) := by decide +kernel
theorem dd_X8_office_29 : decode X8_office.2.1 29 = .ok (.aload_n 0, 1) := by decide +kernel
theorem dd_X8_office_30 : decode X8_office.2.1 30 = .ok (.getfield 19, 3) := by decide +kernel
theorem dd_X8_office_33 : decode X8_office.2.1 33 = .ok (.aload_n 0, 1) := by decide +kernel
theorem dd_X8_office_34 : decode X8_office.2.1 34 = .ok (.getfield 23, 3) := by decide +kernel
theorem dd_X8_office_37 : decode X8_office.2.1 37 = .ok (.invokevirtual 82, 3) := by decide +kernel
theorem dd_X8_office_40 : decode X8_office.2.1 40 = .ok (.aload_n 0, 1) := by decide +kernel
theorem dd_X8_office_41 : decode X8_office.2.1 41 = .ok (.getfield 29, 3) := by decide +kernel
theorem dd_X8_office_44 : decode X8_office.2.1 44 = .ok (.aload_n 0, 1) := by decide +kernel
theorem dd_X8_office_45 : decode X8_office.2.1 45 = .ok (.getfield 19, 3) := by decide +kernel
theorem dd_X8_office_48 : decode X8_office.2.1 48 = .ok (.getfield 90, 3) := by decide +kernel
theorem dd_X8_office_51 : decode X8_office.2.1 51 = .ok (.invokevirtual 93, 3) := by decide +kernel
theorem dd_X8_office_54 : decode X8_office.2.1 54 = .ok (.aload_n 0, 1) := by decide +kernel
theorem dd_X8_office_55 : decode X8_office.2.1 55 = .ok (.invokevirtual 96, 3) := by decide +kernel
theorem dd_X8_office_58 : decode X8_office.2.1 58 = .ok (.aload_n 0, 1) := by decide +kernel
theorem dd_X8_office_59 : decode X8_office.2.1 59 = .ok (.getfield 12, 3) := by decide +kernel
theorem dd_X8_office_62 : decode X8_office.2.1 62 = .ok (.iconst 0, 1) := by decide +kernel
theorem dd_X8_office_63 : decode X8_office.2.1 63 = .ok (.putfield 74, 3) := by decide +kernel
theorem dd_X8_office_66 : decode X8_office.2.1 66 = .ok (.aload_n 0, 1) := by decide +kernel
theorem dd_X8_office_67 : decode X8_office.2.1 67 = .ok (.getfield 12, 3) := by decide +kernel
theorem dd_X8_office_70 : decode X8_office.2.1 70 = .ok (.getfield 99, 3) := by decide +kernel
theorem dd_X8_office_73 : decode X8_office.2.1 73 = .ok (.ireturn, 1) := by decide +kernel
theorem dd_X8_forgetWhatWasDone_0 : decode X8_forgetWhatWasDone.2.1 0 = .ok (.aload_n 0, 1) := by decide +kernel
theorem dd_X8_forgetWhatWasDone_1 : decode X8_forgetWhatWasDone.2.1 1 = .ok (.getfield 63, 3) := by decide +kernel
theorem dd_X8_forgetWhatWasDone_4 : decode X8_forgetWhatWasDone.2.1 4 = .ok (.invokevirtual 102, 3) := by decide +kernel
theorem dd_X8_forgetWhatWasDone_7 : decode X8_forgetWhatWasDone.2.1 7 = .ok (.aload_n 0, 1) := by decide +kernel
theorem dd_X8_forgetWhatWasDone_8 : decode X8_forgetWhatWasDone.2.1 8 = .ok (.getfield 36, 3) := by decide +kernel
theorem dd_X8_forgetWhatWasDone_11 : decode X8_forgetWhatWasDone.2.1 11 = .ok (.iconst 0, 1) := by decide +kernel
theorem dd_X8_forgetWhatWasDone_12 : decode X8_forgetWhatWasDone.2.1 12 = .ok (.putfield 105, 3) := by decide +kernel
theorem dd_X8_forgetWhatWasDone_15 : decode X8_forgetWhatWasDone.2.1 15 = .ok (.aload_n 0, 1) := by decide +kernel
theorem dd_X8_forgetWhatWasDone_16 : decode X8_forgetWhatWasDone.2.1 16 = .ok (.getfield 40, 3) := by decide +kernel
theorem dd_X8_forgetWhatWasDone_19 : decode X8_forgetWhatWasDone.2.1 19 = .ok (.iconst 0, 1) := by decide +kernel
theorem dd_X8_forgetWhatWasDone_20 : decode X8_forgetWhatWasDone.2.1 20 = .ok (.putfield 108, 3) := by decide +kernel
theorem dd_X8_forgetWhatWasDone_23 : decode X8_forgetWhatWasDone.2.1 23 = .ok (.aload_n 0, 1) := by decide +kernel
theorem dd_X8_forgetWhatWasDone_24 : decode X8_forgetWhatWasDone.2.1 24 = .ok (.getfield 43, 3) := by decide +kernel
theorem dd_X8_forgetWhatWasDone_27 : decode X8_forgetWhatWasDone.2.1 27 = .ok (.iconst 0, 1) := by decide +kernel
theorem dd_X8_forgetWhatWasDone_28 : decode X8_forgetWhatWasDone.2.1 28 = .ok (.putfield 108, 3) := by decide +kernel
theorem dd_X8_forgetWhatWasDone_31 : decode X8_forgetWhatWasDone.2.1 31 = .ok (.iconst 0, 1) := by decide +kernel
theorem dd_X8_forgetWhatWasDone_32 : decode X8_forgetWhatWasDone.2.1 32 = .ok (.istore_n 1, 1) := by decide +kernel
theorem dd_X8_forgetWhatWasDone_33 : decode X8_forgetWhatWasDone.2.1 33 = .ok (.iload_n 1, 1) := by decide +kernel
theorem dd_X8_forgetWhatWasDone_34 : decode X8_forgetWhatWasDone.2.1 34 = .ok (.iconst 3, 1) := by decide +kernel
theorem dd_X8_forgetWhatWasDone_35 : decode X8_forgetWhatWasDone.2.1 35 = .ok (.if_icmp .ge 23, 3) := by decide +kernel
theorem dd_X8_forgetWhatWasDone_38 : decode X8_forgetWhatWasDone.2.1 38 = .ok (.aload_n 0, 1) := by decide +kernel
theorem dd_X8_forgetWhatWasDone_39 : decode X8_forgetWhatWasDone.2.1 39 = .ok (.iload_n 1, 1) := by decide +kernel
theorem dd_X8_forgetWhatWasDone_40 : decode X8_forgetWhatWasDone.2.1 40 = .ok (.invokevirtual 112, 3) := by decide +kernel
theorem dd_X8_forgetWhatWasDone_43 : decode X8_forgetWhatWasDone.2.1 43 = .ok (.astore_n 2, 1) := by decide +kernel
theorem dd_X8_forgetWhatWasDone_44 : decode X8_forgetWhatWasDone.2.1 44 = .ok (.aload_n 2, 1) := by decide +kernel
theorem dd_X8_forgetWhatWasDone_45 : decode X8_forgetWhatWasDone.2.1 45 = .ok (.ifnull 7, 3) := by decide +kernel
theorem dd_X8_forgetWhatWasDone_48 : decode X8_forgetWhatWasDone.2.1 48 = .ok (.aload_n 2, 1) := by decide +kernel
theorem dd_X8_forgetWhatWasDone_49 : decode X8_forgetWhatWasDone.2.1 49 = .ok (.invokevirtual 116, 3) := by decide +kernel
theorem dd_X8_forgetWhatWasDone_52 : decode X8_forgetWhatWasDone.2.1 52 = .ok (.iinc 1 1, 3) := by decide +kernel
theorem dd_X8_forgetWhatWasDone_55 : decode X8_forgetWhatWasDone.2.1 55 = .ok (.goto (-22), 3) := by decide +kernel
theorem dd_X8_forgetWhatWasDone_58 : decode X8_forgetWhatWasDone.2.1 58 = .ok (.return_, 1) := by decide +kernel
theorem dd_X8_rhythm_0 : decode X8_rhythm.2.1 0 = .ok (.aload_n 0, 1) := by decide +kernel
theorem dd_X8_rhythm_1 : decode X8_rhythm.2.1 1 = .ok (.getfield 19, 3) := by decide +kernel
theorem dd_X8_rhythm_4 : decode X8_rhythm.2.1 4 = .ok (.iload_n 1, 1) := by decide +kernel
theorem dd_X8_rhythm_5 : decode X8_rhythm.2.1 5 = .ok (.invokevirtual 119, 3) := by decide +kernel
theorem dd_X8_rhythm_8 : decode X8_rhythm.2.1 8 = .ok (.ifCond .ne 6, 3) := by decide +kernel
theorem dd_X8_rhythm_11 : decode X8_rhythm.2.1 11 = .ok (.bipush (-2), 2) := by decide +kernel
theorem dd_X8_rhythm_13 : decode X8_rhythm.2.1 13 = .ok (.ireturn, 1) := by decide +kernel
theorem dd_X8_rhythm_14 : decode X8_rhythm.2.1 14 = .ok (.iload_n 2, 1) := by decide +kernel
theorem dd_X8_rhythm_15 : decode X8_rhythm.2.1 15 = .ok (.tableswitch 91 0 4 #[33, 43, 60, 69, 82], 33) := by decide +kernel
theorem dd_X8_rhythm_48 : decode X8_rhythm.2.1 48 = .ok (.aload_n 0, 1) := by decide +kernel
theorem dd_X8_rhythm_49 : decode X8_rhythm.2.1 49 = .ok (.getfield 19, 3) := by decide +kernel
theorem dd_X8_rhythm_52 : decode X8_rhythm.2.1 52 = .ok (.getfield 123, 3) := by decide +kernel
theorem dd_X8_rhythm_55 : decode X8_rhythm.2.1 55 = .ok (.iload_n 1, 1) := by decide +kernel
theorem dd_X8_rhythm_56 : decode X8_rhythm.2.1 56 = .ok (.iaload, 1) := by decide +kernel
theorem dd_X8_rhythm_57 : decode X8_rhythm.2.1 57 = .ok (.ireturn, 1) := by decide +kernel
theorem dd_X8_rhythm_58 : decode X8_rhythm.2.1 58 = .ok (.aload_n 0, 1) := by decide +kernel
theorem dd_X8_rhythm_59 : decode X8_rhythm.2.1 59 = .ok (.getfield 19, 3) := by decide +kernel
theorem dd_X8_rhythm_62 : decode X8_rhythm.2.1 62 = .ok (.iload_n 1, 1) := by decide +kernel
theorem dd_X8_rhythm_63 : decode X8_rhythm.2.1 63 = .ok (.aload_n 0, 1) := by decide +kernel
theorem dd_X8_rhythm_64 : decode X8_rhythm.2.1 64 = .ok (.getfield 19, 3) := by decide +kernel
theorem dd_X8_rhythm_67 : decode X8_rhythm.2.1 67 = .ok (.iload_n 1, 1) := by decide +kernel
theorem dd_X8_rhythm_68 : decode X8_rhythm.2.1 68 = .ok (.invokevirtual 127, 3) := by decide +kernel
theorem dd_X8_rhythm_71 : decode X8_rhythm.2.1 71 = .ok (.invokevirtual 131, 3) := by decide +kernel
theorem dd_X8_rhythm_74 : decode X8_rhythm.2.1 74 = .ok (.ireturn, 1) := by decide +kernel
theorem dd_X8_rhythm_75 : decode X8_rhythm.2.1 75 = .ok (.aload_n 0, 1) := by decide +kernel
theorem dd_X8_rhythm_76 : decode X8_rhythm.2.1 76 = .ok (.getfield 19, 3) := by decide +kernel
theorem dd_X8_rhythm_79 : decode X8_rhythm.2.1 79 = .ok (.iload_n 1, 1) := by decide +kernel
theorem dd_X8_rhythm_80 : decode X8_rhythm.2.1 80 = .ok (.invokevirtual 135, 3) := by decide +kernel
theorem dd_X8_rhythm_83 : decode X8_rhythm.2.1 83 = .ok (.ireturn, 1) := by decide +kernel
theorem dd_X8_rhythm_84 : decode X8_rhythm.2.1 84 = .ok (.aload_n 0, 1) := by decide +kernel
theorem dd_X8_rhythm_85 : decode X8_rhythm.2.1 85 = .ok (.getfield 19, 3) := by decide +kernel
theorem dd_X8_rhythm_88 : decode X8_rhythm.2.1 88 = .ok (.getfield 123, 3) := by decide +kernel
theorem dd_X8_rhythm_91 : decode X8_rhythm.2.1 91 = .ok (.iload_n 1, 1) := by decide +kernel
theorem dd_X8_rhythm_92 : decode X8_rhythm.2.1 92 = .ok (.iaload, 1) := by decide +kernel
theorem dd_X8_rhythm_93 : decode X8_rhythm.2.1 93 = .ok (.invokestatic 138, 3) := by decide +kernel
theorem dd_X8_rhythm_96 : decode X8_rhythm.2.1 96 = .ok (.ireturn, 1) := by decide +kernel
theorem dd_X8_rhythm_97 : decode X8_rhythm.2.1 97 = .ok (.aload_n 0, 1) := by decide +kernel
theorem dd_X8_rhythm_98 : decode X8_rhythm.2.1 98 = .ok (.getfield 19, 3) := by decide +kernel
theorem dd_X8_rhythm_101 : decode X8_rhythm.2.1 101 = .ok (.iload_n 1, 1) := by decide +kernel
theorem dd_X8_rhythm_102 : decode X8_rhythm.2.1 102 = .ok (.invokevirtual 127, 3) := by decide +kernel
theorem dd_X8_rhythm_105 : decode X8_rhythm.2.1 105 = .ok (.ireturn, 1) := by decide +kernel
theorem dd_X8_rhythm_106 : decode X8_rhythm.2.1 106 = .ok (.bipush (-3), 2) := by decide +kernel
theorem dd_X8_rhythm_108 : decode X8_rhythm.2.1 108 = .ok (.ireturn, 1) := by decide +kernel
theorem dd_X8_light_0 : decode X8_light.2.1 0 = .ok (.aload_n 0, 1) := by decide +kernel
theorem dd_X8_light_1 : decode X8_light.2.1 1 = .ok (.getfield 29, 3) := by decide +kernel
theorem dd_X8_light_4 : decode X8_light.2.1 4 = .ok (.iload_n 1, 1) := by decide +kernel
theorem dd_X8_light_5 : decode X8_light.2.1 5 = .ok (.invokevirtual 143, 3) := by decide +kernel
theorem dd_X8_light_8 : decode X8_light.2.1 8 = .ok (.ifCond .ne 6, 3) := by decide +kernel
theorem dd_X8_light_11 : decode X8_light.2.1 11 = .ok (.bipush (-2), 2) := by decide +kernel
theorem dd_X8_light_13 : decode X8_light.2.1 13 = .ok (.ireturn, 1) := by decide +kernel
theorem dd_X8_light_14 : decode X8_light.2.1 14 = .ok (.iload_n 2, 1) := by decide +kernel
theorem dd_X8_light_15 : decode X8_light.2.1 15 = .ok (.tableswitch 71 0 3 #[29, 39, 49, 65], 29) := by decide +kernel
theorem dd_X8_light_44 : decode X8_light.2.1 44 = .ok (.aload_n 0, 1) := by decide +kernel
theorem dd_X8_light_45 : decode X8_light.2.1 45 = .ok (.getfield 29, 3) := by decide +kernel
theorem dd_X8_light_48 : decode X8_light.2.1 48 = .ok (.getfield 146, 3) := by decide +kernel
theorem dd_X8_light_51 : decode X8_light.2.1 51 = .ok (.iload_n 1, 1) := by decide +kernel
theorem dd_X8_light_52 : decode X8_light.2.1 52 = .ok (.iaload, 1) := by decide +kernel
theorem dd_X8_light_53 : decode X8_light.2.1 53 = .ok (.ireturn, 1) := by decide +kernel
theorem dd_X8_light_54 : decode X8_light.2.1 54 = .ok (.aload_n 0, 1) := by decide +kernel
theorem dd_X8_light_55 : decode X8_light.2.1 55 = .ok (.getfield 29, 3) := by decide +kernel
theorem dd_X8_light_58 : decode X8_light.2.1 58 = .ok (.getfield 149, 3) := by decide +kernel
theorem dd_X8_light_61 : decode X8_light.2.1 61 = .ok (.iload_n 1, 1) := by decide +kernel
theorem dd_X8_light_62 : decode X8_light.2.1 62 = .ok (.iaload, 1) := by decide +kernel
theorem dd_X8_light_63 : decode X8_light.2.1 63 = .ok (.ireturn, 1) := by decide +kernel
theorem dd_X8_light_64 : decode X8_light.2.1 64 = .ok (.aload_n 0, 1) := by decide +kernel
theorem dd_X8_light_65 : decode X8_light.2.1 65 = .ok (.getfield 29, 3) := by decide +kernel
theorem dd_X8_light_68 : decode X8_light.2.1 68 = .ok (.iload_n 1, 1) := by decide +kernel
theorem dd_X8_light_69 : decode X8_light.2.1 69 = .ok (.aload_n 0, 1) := by decide +kernel
theorem dd_X8_light_70 : decode X8_light.2.1 70 = .ok (.getfield 19, 3) := by decide +kernel
theorem dd_X8_light_73 : decode X8_light.2.1 73 = .ok (.getfield 152, 3) := by decide +kernel
theorem dd_X8_light_76 : decode X8_light.2.1 76 = .ok (.invokevirtual 155, 3) := by decide +kernel
theorem dd_X8_light_79 : decode X8_light.2.1 79 = .ok (.ireturn, 1) := by decide +kernel
theorem dd_X8_light_80 : decode X8_light.2.1 80 = .ok (.aload_n 0, 1) := by decide +kernel
theorem dd_X8_light_81 : decode X8_light.2.1 81 = .ok (.iload_n 1, 1) := by decide +kernel
theorem dd_X8_light_82 : decode X8_light.2.1 82 = .ok (.invokevirtual 158, 3) := by decide +kernel
theorem dd_X8_light_85 : decode X8_light.2.1 85 = .ok (.ireturn, 1) := by decide +kernel
theorem dd_X8_light_86 : decode X8_light.2.1 86 = .ok (.bipush (-3), 2) := by decide +kernel
theorem dd_X8_light_88 : decode X8_light.2.1 88 = .ok (.ireturn, 1) := by decide +kernel
theorem dd_X8_clashing_0 : decode X8_clashing.2.1 0 = .ok (.aload_n 0, 1) := by decide +kernel
theorem dd_X8_clashing_1 : decode X8_clashing.2.1 1 = .ok (.getfield 29, 3) := by decide +kernel
theorem dd_X8_clashing_4 : decode X8_clashing.2.1 4 = .ok (.iload_n 1, 1) := by decide +kernel
theorem dd_X8_clashing_5 : decode X8_clashing.2.1 5 = .ok (.aload_n 0, 1) := by decide +kernel
theorem dd_X8_clashing_6 : decode X8_clashing.2.1 6 = .ok (.getfield 19, 3) := by decide +kernel
theorem dd_X8_clashing_9 : decode X8_clashing.2.1 9 = .ok (.getfield 152, 3) := by decide +kernel
theorem dd_X8_clashing_12 : decode X8_clashing.2.1 12 = .ok (.invokevirtual 155, 3) := by decide +kernel
theorem dd_X8_clashing_15 : decode X8_clashing.2.1 15 = .ok (.istore_n 2, 1) := by decide +kernel
theorem dd_X8_clashing_16 : decode X8_clashing.2.1 16 = .ok (.iconst 0, 1) := by decide +kernel
theorem dd_X8_clashing_17 : decode X8_clashing.2.1 17 = .ok (.istore_n 3, 1) := by decide +kernel
theorem dd_X8_clashing_18 : decode X8_clashing.2.1 18 = .ok (.iconst 0, 1) := by decide +kernel
theorem dd_X8_clashing_19 : decode X8_clashing.2.1 19 = .ok (.istore 4, 2) := by decide +kernel
theorem dd_X8_clashing_21 : decode X8_clashing.2.1 21 = .ok (.iload 4, 2) := by decide +kernel
theorem dd_X8_clashing_23 : decode X8_clashing.2.1 23 = .ok (.aload_n 0, 1) := by decide +kernel
theorem dd_X8_clashing_24 : decode X8_clashing.2.1 24 = .ok (.getfield 29, 3) := by decide +kernel
theorem dd_X8_clashing_27 : decode X8_clashing.2.1 27 = .ok (.getfield 161, 3) := by decide +kernel
theorem dd_X8_clashing_30 : decode X8_clashing.2.1 30 = .ok (.if_icmp .ge 68, 3) := by decide +kernel
theorem dd_X8_clashing_33 : decode X8_clashing.2.1 33 = .ok (.iload_n 2, 1) := by decide +kernel
theorem dd_X8_clashing_34 : decode X8_clashing.2.1 34 = .ok (.iload 4, 2) := by decide +kernel
theorem dd_X8_clashing_36 : decode X8_clashing.2.1 36 = .ok (.ishr, 1) := by decide +kernel
theorem dd_X8_clashing_37 : decode X8_clashing.2.1 37 = .ok (.iconst 1, 1) := by decide +kernel
theorem dd_X8_clashing_38 : decode X8_clashing.2.1 38 = .ok (.iand, 1) := by decide +kernel
theorem dd_X8_clashing_39 : decode X8_clashing.2.1 39 = .ok (.iconst 1, 1) := by decide +kernel
theorem dd_X8_clashing_40 : decode X8_clashing.2.1 40 = .ok (.if_icmp .ne 7, 3) := by decide +kernel
theorem dd_X8_clashing_43 : decode X8_clashing.2.1 43 = .ok (.iconst 1, 1) := by decide +kernel
theorem dd_X8_clashing_44 : decode X8_clashing.2.1 44 = .ok (.goto 4, 3) := by decide +kernel
theorem dd_X8_clashing_47 : decode X8_clashing.2.1 47 = .ok (.iconst 0, 1) := by decide +kernel
theorem dd_X8_clashing_48 : decode X8_clashing.2.1 48 = .ok (.istore 5, 2) := by decide +kernel
theorem dd_X8_clashing_50 : decode X8_clashing.2.1 50 = .ok (.iload 5, 2) := by decide +kernel
theorem dd_X8_clashing_52 : decode X8_clashing.2.1 52 = .ok (.ifCond .eq 40, 3) := by decide +kernel
theorem dd_X8_clashing_55 : decode X8_clashing.2.1 55 = .ok (.aload_n 0, 1) := by decide +kernel
theorem dd_X8_clashing_56 : decode X8_clashing.2.1 56 = .ok (.getfield 19, 3) := by decide +kernel
theorem dd_X8_clashing_59 : decode X8_clashing.2.1 59 = .ok (.aload_n 0, 1) := by decide +kernel
theorem dd_X8_clashing_60 : decode X8_clashing.2.1 60 = .ok (.getfield 29, 3) := by decide +kernel
theorem dd_X8_clashing_63 : decode X8_clashing.2.1 63 = .ok (.getfield 149, 3) := by decide +kernel
theorem dd_X8_clashing_66 : decode X8_clashing.2.1 66 = .ok (.iload_n 1, 1) := by decide +kernel
theorem dd_X8_clashing_67 : decode X8_clashing.2.1 67 = .ok (.iaload, 1) := by decide +kernel
theorem dd_X8_clashing_68 : decode X8_clashing.2.1 68 = .ok (.aload_n 0, 1) := by decide +kernel
theorem dd_X8_clashing_69 : decode X8_clashing.2.1 69 = .ok (.getfield 29, 3) := by decide +kernel
theorem dd_X8_clashing_72 : decode X8_clashing.2.1 72 = .ok (.getfield 149, 3) := by decide +kernel
theorem dd_X8_clashing_75 : decode X8_clashing.2.1 75 = .ok (.iload 4, 2) := by decide +kernel
theorem dd_X8_clashing_77 : decode X8_clashing.2.1 77 = .ok (.iaload, 1) := by decide +kernel
theorem dd_X8_clashing_78 : decode X8_clashing.2.1 78 = .ok (.iconst 0, 1) := by decide +kernel
theorem dd_X8_clashing_79 : decode X8_clashing.2.1 79 = .ok (.invokevirtual 162, 3) := by decide +kernel
theorem dd_X8_clashing_82 : decode X8_clashing.2.1 82 = .ok (.ifCond .eq 10, 3) := by decide +kernel
theorem dd_X8_clashing_85 : decode X8_clashing.2.1 85 = .ok (.iload_n 3, 1) := by decide +kernel
theorem dd_X8_clashing_86 : decode X8_clashing.2.1 86 = .ok (.iconst 1, 1) := by decide +kernel
theorem dd_X8_clashing_87 : decode X8_clashing.2.1 87 = .ok (.iload 4, 2) := by decide +kernel
theorem dd_X8_clashing_89 : decode X8_clashing.2.1 89 = .ok (.ishl, 1) := by decide +kernel
theorem dd_X8_clashing_90 : decode X8_clashing.2.1 90 = .ok (.ior, 1) := by decide +kernel
theorem dd_X8_clashing_91 : decode X8_clashing.2.1 91 = .ok (.istore_n 3, 1) := by decide +kernel
theorem dd_X8_clashing_92 : decode X8_clashing.2.1 92 = .ok (.iinc 4 1, 3) := by decide +kernel
theorem dd_X8_clashing_95 : decode X8_clashing.2.1 95 = .ok (.goto (-74), 3) := by decide +kernel
theorem dd_X8_clashing_98 : decode X8_clashing.2.1 98 = .ok (.iload_n 3, 1) := by decide +kernel
theorem dd_X8_clashing_99 : decode X8_clashing.2.1 99 = .ok (.ireturn, 1) := by decide +kernel
theorem dd_X8_like_0 : decode X8_like.2.1 0 = .ok (.aload_n 0, 1) := by decide +kernel
theorem dd_X8_like_1 : decode X8_like.2.1 1 = .ok (.getfield 19, 3) := by decide +kernel
theorem dd_X8_like_4 : decode X8_like.2.1 4 = .ok (.iload_n 1, 1) := by decide +kernel
theorem dd_X8_like_5 : decode X8_like.2.1 5 = .ok (.invokevirtual 119, 3) := by decide +kernel
theorem dd_X8_like_8 : decode X8_like.2.1 8 = .ok (.ifCond .eq 14, 3) := by decide +kernel
theorem dd_X8_like_11 : decode X8_like.2.1 11 = .ok (.aload_n 0, 1) := by decide +kernel
theorem dd_X8_like_12 : decode X8_like.2.1 12 = .ok (.getfield 19, 3) := by decide +kernel
theorem dd_X8_like_15 : decode X8_like.2.1 15 = .ok (.iload_n 2, 1) := by decide +kernel
theorem dd_X8_like_16 : decode X8_like.2.1 16 = .ok (.invokevirtual 119, 3) := by decide +kernel
theorem dd_X8_like_19 : decode X8_like.2.1 19 = .ok (.ifCond .ne 6, 3) := by decide +kernel
theorem dd_X8_like_22 : decode X8_like.2.1 22 = .ok (.bipush (-2), 2) := by decide +kernel
theorem dd_X8_like_24 : decode X8_like.2.1 24 = .ok (.ireturn, 1) := by decide +kernel
theorem dd_X8_like_25 : decode X8_like.2.1 25 = .ok (.iload_n 3, 1) := by decide +kernel
theorem dd_X8_like_26 : decode X8_like.2.1 26 = .ok (.ifCond .lt 8, 3) := by decide +kernel
theorem dd_X8_like_29 : decode X8_like.2.1 29 = .ok (.iload_n 3, 1) := by decide +kernel
theorem dd_X8_like_30 : decode X8_like.2.1 30 = .ok (.iconst 1, 1) := by decide +kernel
theorem dd_X8_like_31 : decode X8_like.2.1 31 = .ok (.if_icmp .le 6, 3) := by decide +kernel
theorem dd_X8_like_34 : decode X8_like.2.1 34 = .ok (.bipush (-3), 2) := by decide +kernel
theorem dd_X8_like_36 : decode X8_like.2.1 36 = .ok (.ireturn, 1) := by decide +kernel
theorem dd_X8_like_37 : decode X8_like.2.1 37 = .ok (.aload_n 0, 1) := by decide +kernel
theorem dd_X8_like_38 : decode X8_like.2.1 38 = .ok (.getfield 19, 3) := by decide +kernel
theorem dd_X8_like_41 : decode X8_like.2.1 41 = .ok (.iload_n 1, 1) := by decide +kernel
theorem dd_X8_like_42 : decode X8_like.2.1 42 = .ok (.iload_n 2, 1) := by decide +kernel
theorem dd_X8_like_43 : decode X8_like.2.1 43 = .ok (.iload_n 3, 1) := by decide +kernel
theorem dd_X8_like_44 : decode X8_like.2.1 44 = .ok (.invokevirtual 162, 3) := by decide +kernel
theorem dd_X8_like_47 : decode X8_like.2.1 47 = .ok (.ifCond .eq 7, 3) := by decide +kernel
theorem dd_X8_like_50 : decode X8_like.2.1 50 = .ok (.iconst 1, 1) := by decide +kernel
theorem dd_X8_like_51 : decode X8_like.2.1 51 = .ok (.goto 4, 3) := by decide +kernel
theorem dd_X8_like_54 : decode X8_like.2.1 54 = .ok (.iconst 0, 1) := by decide +kernel
theorem dd_X8_like_55 : decode X8_like.2.1 55 = .ok (.ireturn, 1) := by decide +kernel
theorem dd_X8_lit_0 : decode X8_lit.2.1 0 = .ok (.aload_n 0, 1) := by decide +kernel
theorem dd_X8_lit_1 : decode X8_lit.2.1 1 = .ok (.getfield 29, 3) := by decide +kernel
theorem dd_X8_lit_4 : decode X8_lit.2.1 4 = .ok (.iload_n 1, 1) := by decide +kernel
theorem dd_X8_lit_5 : decode X8_lit.2.1 5 = .ok (.invokevirtual 143, 3) := by decide +kernel
theorem dd_X8_lit_8 : decode X8_lit.2.1 8 = .ok (.ifCond .eq 14, 3) := by decide +kernel
theorem dd_X8_lit_11 : decode X8_lit.2.1 11 = .ok (.aload_n 0, 1) := by decide +kernel
theorem dd_X8_lit_12 : decode X8_lit.2.1 12 = .ok (.getfield 19, 3) := by decide +kernel
theorem dd_X8_lit_15 : decode X8_lit.2.1 15 = .ok (.iload_n 2, 1) := by decide +kernel
theorem dd_X8_lit_16 : decode X8_lit.2.1 16 = .ok (.invokevirtual 119, 3) := by decide +kernel
theorem dd_X8_lit_19 : decode X8_lit.2.1 19 = .ok (.ifCond .ne 6, 3) := by decide +kernel
theorem dd_X8_lit_22 : decode X8_lit.2.1 22 = .ok (.bipush (-2), 2) := by decide +kernel
theorem dd_X8_lit_24 : decode X8_lit.2.1 24 = .ok (.ireturn, 1) := by decide +kernel
theorem dd_X8_lit_25 : decode X8_lit.2.1 25 = .ok (.aload_n 0, 1) := by decide +kernel
theorem dd_X8_lit_26 : decode X8_lit.2.1 26 = .ok (.getfield 29, 3) := by decide +kernel
theorem dd_X8_lit_29 : decode X8_lit.2.1 29 = .ok (.getfield 149, 3) := by decide +kernel
theorem dd_X8_lit_32 : decode X8_lit.2.1 32 = .ok (.iload_n 1, 1) := by decide +kernel
theorem dd_X8_lit_33 : decode X8_lit.2.1 33 = .ok (.iaload, 1) := by decide +kernel
theorem dd_X8_lit_34 : decode X8_lit.2.1 34 = .ok (.istore_n 3, 1) := by decide +kernel
theorem dd_X8_lit_35 : decode X8_lit.2.1 35 = .ok (.iload_n 3, 1) := by decide +kernel
theorem dd_X8_lit_36 : decode X8_lit.2.1 36 = .ok (.iload_n 2, 1) := by decide +kernel
theorem dd_X8_lit_37 : decode X8_lit.2.1 37 = .ok (.if_icmp .ne 6, 3) := by decide +kernel
theorem dd_X8_lit_40 : decode X8_lit.2.1 40 = .ok (.bipush (-4), 2) := by decide +kernel
theorem dd_X8_lit_42 : decode X8_lit.2.1 42 = .ok (.ireturn, 1) := by decide +kernel
theorem dd_X8_lit_43 : decode X8_lit.2.1 43 = .ok (.aload_n 0, 1) := by decide +kernel
theorem dd_X8_lit_44 : decode X8_lit.2.1 44 = .ok (.iload_n 1, 1) := by decide +kernel
theorem dd_X8_lit_45 : decode X8_lit.2.1 45 = .ok (.invokevirtual 166, 3) := by decide +kernel
theorem dd_X8_lit_48 : decode X8_lit.2.1 48 = .ok (.aload_n 0, 1) := by decide +kernel
theorem dd_X8_lit_49 : decode X8_lit.2.1 49 = .ok (.getfield 29, 3) := by decide +kernel
theorem dd_X8_lit_52 : decode X8_lit.2.1 52 = .ok (.getfield 149, 3) := by decide +kernel
theorem dd_X8_lit_55 : decode X8_lit.2.1 55 = .ok (.iload_n 1, 1) := by decide +kernel
theorem dd_X8_lit_56 : decode X8_lit.2.1 56 = .ok (.iload_n 2, 1) := by decide +kernel
theorem dd_X8_lit_57 : decode X8_lit.2.1 57 = .ok (.iastore, 1) := by decide +kernel
theorem dd_X8_lit_58 : decode X8_lit.2.1 58 = .ok (.iload_n 3, 1) := by decide +kernel
theorem dd_X8_lit_59 : decode X8_lit.2.1 59 = .ok (.ireturn, 1) := by decide +kernel
theorem dd_X8_dark_0 : decode X8_dark.2.1 0 = .ok (.aload_n 0, 1) := by decide +kernel
theorem dd_X8_dark_1 : decode X8_dark.2.1 1 = .ok (.getfield 29, 3) := by decide +kernel
theorem dd_X8_dark_4 : decode X8_dark.2.1 4 = .ok (.iload_n 1, 1) := by decide +kernel
theorem dd_X8_dark_5 : decode X8_dark.2.1 5 = .ok (.invokevirtual 143, 3) := by decide +kernel
theorem dd_X8_dark_8 : decode X8_dark.2.1 8 = .ok (.ifCond .ne 6, 3) := by decide +kernel
theorem dd_X8_dark_11 : decode X8_dark.2.1 11 = .ok (.bipush (-2), 2) := by decide +kernel
theorem dd_X8_dark_13 : decode X8_dark.2.1 13 = .ok (.ireturn, 1) := by decide +kernel
theorem dd_X8_dark_14 : decode X8_dark.2.1 14 = .ok (.aload_n 0, 1) := by decide +kernel
theorem dd_X8_dark_15 : decode X8_dark.2.1 15 = .ok (.getfield 29, 3) := by decide +kernel
theorem dd_X8_dark_18 : decode X8_dark.2.1 18 = .ok (.getfield 149, 3) := by decide +kernel
theorem dd_X8_dark_21 : decode X8_dark.2.1 21 = .ok (.iload_n 1, 1) := by decide +kernel
theorem dd_X8_dark_22 : decode X8_dark.2.1 22 = .ok (.iaload, 1) := by decide +kernel
theorem dd_X8_dark_23 : decode X8_dark.2.1 23 = .ok (.istore_n 2, 1) := by decide +kernel
theorem dd_X8_dark_24 : decode X8_dark.2.1 24 = .ok (.iload_n 2, 1) := by decide +kernel
theorem dd_X8_dark_25 : decode X8_dark.2.1 25 = .ok (.iconst (-1), 1) := by decide +kernel
theorem dd_X8_dark_26 : decode X8_dark.2.1 26 = .ok (.if_icmp .ne 6, 3) := by decide +kernel
theorem dd_X8_dark_29 : decode X8_dark.2.1 29 = .ok (.bipush (-4), 2) := by decide +kernel
theorem dd_X8_dark_31 : decode X8_dark.2.1 31 = .ok (.ireturn, 1) := by decide +kernel
theorem dd_X8_dark_32 : decode X8_dark.2.1 32 = .ok (.aload_n 0, 1) := by decide +kernel
theorem dd_X8_dark_33 : decode X8_dark.2.1 33 = .ok (.iload_n 1, 1) := by decide +kernel
theorem dd_X8_dark_34 : decode X8_dark.2.1 34 = .ok (.invokevirtual 166, 3) := by decide +kernel
theorem dd_X8_dark_37 : decode X8_dark.2.1 37 = .ok (.aload_n 0, 1) := by decide +kernel
theorem dd_X8_dark_38 : decode X8_dark.2.1 38 = .ok (.getfield 29, 3) := by decide +kernel
theorem dd_X8_dark_41 : decode X8_dark.2.1 41 = .ok (.getfield 149, 3) := by decide +kernel
theorem dd_X8_dark_44 : decode X8_dark.2.1 44 = .ok (.iload_n 1, 1) := by decide +kernel
theorem dd_X8_dark_45 : decode X8_dark.2.1 45 = .ok (.iconst (-1), 1) := by decide +kernel
theorem dd_X8_dark_46 : decode X8_dark.2.1 46 = .ok (.iastore, 1) := by decide +kernel
theorem dd_X8_dark_47 : decode X8_dark.2.1 47 = .ok (.iload_n 2, 1) := by decide +kernel
theorem dd_X8_dark_48 : decode X8_dark.2.1 48 = .ok (.ireturn, 1) := by decide +kernel
theorem dd_X8_move_0 : decode X8_move.2.1 0 = .ok (.aload_n 0, 1) := by decide +kernel
theorem dd_X8_move_1 : decode X8_move.2.1 1 = .ok (.getfield 29, 3) := by decide +kernel
theorem dd_X8_move_4 : decode X8_move.2.1 4 = .ok (.iload_n 1, 1) := by decide +kernel
theorem dd_X8_move_5 : decode X8_move.2.1 5 = .ok (.invokevirtual 143, 3) := by decide +kernel
theorem dd_X8_move_8 : decode X8_move.2.1 8 = .ok (.ifCond .ne 6, 3) := by decide +kernel
theorem dd_X8_move_11 : decode X8_move.2.1 11 = .ok (.bipush (-2), 2) := by decide +kernel
theorem dd_X8_move_13 : decode X8_move.2.1 13 = .ok (.ireturn, 1) := by decide +kernel
theorem dd_X8_move_14 : decode X8_move.2.1 14 = .ok (.iload_n 2, 1) := by decide +kernel
theorem dd_X8_move_15 : decode X8_move.2.1 15 = .ok (.invokestatic 169, 3) := by decide +kernel
theorem dd_X8_move_18 : decode X8_move.2.1 18 = .ok (.ifCond .ne 6, 3) := by decide +kernel
theorem dd_X8_move_21 : decode X8_move.2.1 21 = .ok (.bipush (-3), 2) := by decide +kernel
theorem dd_X8_move_23 : decode X8_move.2.1 23 = .ok (.ireturn, 1) := by decide +kernel
theorem dd_X8_move_24 : decode X8_move.2.1 24 = .ok (.aload_n 0, 1) := by decide +kernel
theorem dd_X8_move_25 : decode X8_move.2.1 25 = .ok (.getfield 29, 3) := by decide +kernel
theorem dd_X8_move_28 : decode X8_move.2.1 28 = .ok (.getfield 146, 3) := by decide +kernel
theorem dd_X8_move_31 : decode X8_move.2.1 31 = .ok (.iload_n 1, 1) := by decide +kernel
theorem dd_X8_move_32 : decode X8_move.2.1 32 = .ok (.iaload, 1) := by decide +kernel
theorem dd_X8_move_33 : decode X8_move.2.1 33 = .ok (.istore_n 3, 1) := by decide +kernel
theorem dd_X8_move_34 : decode X8_move.2.1 34 = .ok (.iload_n 3, 1) := by decide +kernel
theorem dd_X8_move_35 : decode X8_move.2.1 35 = .ok (.iload_n 2, 1) := by decide +kernel
theorem dd_X8_move_36 : decode X8_move.2.1 36 = .ok (.if_icmp .ne 6, 3) := by decide +kernel
theorem dd_X8_move_39 : decode X8_move.2.1 39 = .ok (.bipush (-4), 2) := by decide +kernel
theorem dd_X8_move_41 : decode X8_move.2.1 41 = .ok (.ireturn, 1) := by decide +kernel
theorem dd_X8_move_42 : decode X8_move.2.1 42 = .ok (.aload_n 0, 1) := by decide +kernel
theorem dd_X8_move_43 : decode X8_move.2.1 43 = .ok (.iload_n 1, 1) := by decide +kernel
theorem dd_X8_move_44 : decode X8_move.2.1 44 = .ok (.invokevirtual 166, 3) := by decide +kernel
theorem dd_X8_move_47 : decode X8_move.2.1 47 = .ok (.aload_n 0, 1) := by decide +kernel
theorem dd_X8_move_48 : decode X8_move.2.1 48 = .ok (.getfield 29, 3) := by decide +kernel
theorem dd_X8_move_51 : decode X8_move.2.1 51 = .ok (.getfield 146, 3) := by decide +kernel
theorem dd_X8_move_54 : decode X8_move.2.1 54 = .ok (.iload_n 1, 1) := by decide +kernel
theorem dd_X8_move_55 : decode X8_move.2.1 55 = .ok (.iload_n 2, 1) := by decide +kernel
theorem dd_X8_move_56 : decode X8_move.2.1 56 = .ok (.iastore, 1) := by decide +kernel
theorem dd_X8_move_57 : decode X8_move.2.1 57 = .ok (.iload_n 3, 1) := by decide +kernel
theorem dd_X8_move_58 : decode X8_move.2.1 58 = .ok (.ireturn, 1) := by decide +kernel
theorem dd_X8_prepareChange_0 : decode X8_prepareChange.2.1 0 = .ok (.aload_n 0, 1) := by decide +kernel
theorem dd_X8_prepareChange_1 : decode X8_prepareChange.2.1 1 = .ok (.getfield 36, 3) := by decide +kernel
theorem dd_X8_prepareChange_4 : decode X8_prepareChange.2.1 4 = .ok (.aload_n 0, 1) := by decide +kernel
theorem dd_X8_prepareChange_5 : decode X8_prepareChange.2.1 5 = .ok (.getfield 29, 3) := by decide +kernel
theorem dd_X8_prepareChange_8 : decode X8_prepareChange.2.1 8 = .ok (.iload_n 1, 1) := by decide +kernel
theorem dd_X8_prepareChange_9 : decode X8_prepareChange.2.1 9 = .ok (.invokevirtual 172, 3) := by decide +kernel
theorem dd_X8_prepareChange_12 : decode X8_prepareChange.2.1 12 = .ok (.aload_n 0, 1) := by decide +kernel
theorem dd_X8_prepareChange_13 : decode X8_prepareChange.2.1 13 = .ok (.getfield 63, 3) := by decide +kernel
theorem dd_X8_prepareChange_16 : decode X8_prepareChange.2.1 16 = .ok (.invokevirtual 102, 3) := by decide +kernel
theorem dd_X8_prepareChange_19 : decode X8_prepareChange.2.1 19 = .ok (.return_, 1) := by decide +kernel
theorem dd_X8_undo_0 : decode X8_undo.2.1 0 = .ok (.aload_n 0, 1) := by decide +kernel
theorem dd_X8_undo_1 : decode X8_undo.2.1 1 = .ok (.getfield 36, 3) := by decide +kernel
theorem dd_X8_undo_4 : decode X8_undo.2.1 4 = .ok (.getfield 105, 3) := by decide +kernel
theorem dd_X8_undo_7 : decode X8_undo.2.1 7 = .ok (.ifCond .ne 6, 3) := by decide +kernel
theorem dd_X8_undo_10 : decode X8_undo.2.1 10 = .ok (.bipush (-4), 2) := by decide +kernel
theorem dd_X8_undo_12 : decode X8_undo.2.1 12 = .ok (.ireturn, 1) := by decide +kernel
theorem dd_X8_undo_13 : decode X8_undo.2.1 13 = .ok (.aload_n 0, 1) := by decide +kernel
theorem dd_X8_undo_14 : decode X8_undo.2.1 14 = .ok (.getfield 36, 3) := by decide +kernel
theorem dd_X8_undo_17 : decode X8_undo.2.1 17 = .ok (.aload_n 0, 1) := by decide +kernel
theorem dd_X8_undo_18 : decode X8_undo.2.1 18 = .ok (.getfield 29, 3) := by decide +kernel
theorem dd_X8_undo_21 : decode X8_undo.2.1 21 = .ok (.invokevirtual 176, 3) := by decide +kernel
theorem dd_X8_undo_24 : decode X8_undo.2.1 24 = .ok (.aload_n 0, 1) := by decide +kernel
theorem dd_X8_undo_25 : decode X8_undo.2.1 25 = .ok (.getfield 63, 3) := by decide +kernel
theorem dd_X8_undo_28 : decode X8_undo.2.1 28 = .ok (.invokevirtual 102, 3) := by decide +kernel
theorem dd_X8_undo_31 : decode X8_undo.2.1 31 = .ok (.aload_n 0, 1) := by decide +kernel
theorem dd_X8_undo_32 : decode X8_undo.2.1 32 = .ok (.getfield 36, 3) := by decide +kernel
theorem dd_X8_undo_35 : decode X8_undo.2.1 35 = .ok (.getfield 105, 3) := by decide +kernel
theorem dd_X8_undo_38 : decode X8_undo.2.1 38 = .ok (.ireturn, 1) := by decide +kernel
theorem dd_X8_keep_0 : decode X8_keep.2.1 0 = .ok (.aload_n 0, 1) := by decide +kernel
theorem dd_X8_keep_1 : decode X8_keep.2.1 1 = .ok (.iload_n 1, 1) := by decide +kernel
theorem dd_X8_keep_2 : decode X8_keep.2.1 2 = .ok (.invokevirtual 179, 3) := by decide +kernel
theorem dd_X8_keep_5 : decode X8_keep.2.1 5 = .ok (.astore_n 2, 1) := by decide +kernel
theorem dd_X8_keep_6 : decode X8_keep.2.1 6 = .ok (.aload_n 2, 1) := by decide +kernel
theorem dd_X8_keep_7 : decode X8_keep.2.1 7 = .ok (.ifnonnull 6, 3) := by decide +kernel
theorem dd_X8_keep_10 : decode X8_keep.2.1 10 = .ok (.bipush (-2), 2) := by decide +kernel
theorem dd_X8_keep_12 : decode X8_keep.2.1 12 = .ok (.ireturn, 1) := by decide +kernel
theorem dd_X8_keep_13 : decode X8_keep.2.1 13 = .ok (.aload_n 2, 1) := by decide +kernel
theorem dd_X8_keep_14 : decode X8_keep.2.1 14 = .ok (.aload_n 0, 1) := by decide +kernel
theorem dd_X8_keep_15 : decode X8_keep.2.1 15 = .ok (.getfield 29, 3) := by decide +kernel
theorem dd_X8_keep_18 : decode X8_keep.2.1 18 = .ok (.invokevirtual 93, 3) := by decide +kernel
theorem dd_X8_keep_21 : decode X8_keep.2.1 21 = .ok (.aload_n 2, 1) := by decide +kernel
theorem dd_X8_keep_22 : decode X8_keep.2.1 22 = .ok (.iconst 1, 1) := by decide +kernel
theorem dd_X8_keep_23 : decode X8_keep.2.1 23 = .ok (.putfield 108, 3) := by decide +kernel
theorem dd_X8_keep_26 : decode X8_keep.2.1 26 = .ok (.aload_n 0, 1) := by decide +kernel
theorem dd_X8_keep_27 : decode X8_keep.2.1 27 = .ok (.getfield 29, 3) := by decide +kernel
theorem dd_X8_keep_30 : decode X8_keep.2.1 30 = .ok (.invokevirtual 183, 3) := by decide +kernel
theorem dd_X8_keep_33 : decode X8_keep.2.1 33 = .ok (.invokestatic 138, 3) := by decide +kernel
theorem dd_X8_keep_36 : decode X8_keep.2.1 36 = .ok (.ireturn, 1) := by decide +kernel
theorem dd_X8_back_0 : decode X8_back.2.1 0 = .ok (.aload_n 0, 1) := by decide +kernel
theorem dd_X8_back_1 : decode X8_back.2.1 1 = .ok (.iload_n 1, 1) := by decide +kernel
theorem dd_X8_back_2 : decode X8_back.2.1 2 = .ok (.invokevirtual 179, 3) := by decide +kernel
theorem dd_X8_back_5 : decode X8_back.2.1 5 = .ok (.astore_n 2, 1) := by decide +kernel
theorem dd_X8_back_6 : decode X8_back.2.1 6 = .ok (.aload_n 2, 1) := by decide +kernel
theorem dd_X8_back_7 : decode X8_back.2.1 7 = .ok (.ifnonnull 6, 3) := by decide +kernel
theorem dd_X8_back_10 : decode X8_back.2.1 10 = .ok (.bipush (-2), 2) := by decide +kernel
theorem dd_X8_back_12 : decode X8_back.2.1 12 = .ok (.ireturn, 1) := by decide +kernel
theorem dd_X8_back_13 : decode X8_back.2.1 13 = .ok (.aload_n 2, 1) := by decide +kernel
theorem dd_X8_back_14 : decode X8_back.2.1 14 = .ok (.getfield 108, 3) := by decide +kernel
theorem dd_X8_back_17 : decode X8_back.2.1 17 = .ok (.ifCond .ne 6, 3) := by decide +kernel
theorem dd_X8_back_20 : decode X8_back.2.1 20 = .ok (.bipush (-4), 2) := by decide +kernel
theorem dd_X8_back_22 : decode X8_back.2.1 22 = .ok (.ireturn, 1) := by decide +kernel
theorem dd_X8_back_23 : decode X8_back.2.1 23 = .ok (.aload_n 0, 1) := by decide +kernel
theorem dd_X8_back_24 : decode X8_back.2.1 24 = .ok (.getfield 29, 3) := by decide +kernel
theorem dd_X8_back_27 : decode X8_back.2.1 27 = .ok (.aload_n 2, 1) := by decide +kernel
theorem dd_X8_back_28 : decode X8_back.2.1 28 = .ok (.invokevirtual 93, 3) := by decide +kernel
theorem dd_X8_back_31 : decode X8_back.2.1 31 = .ok (.aload_n 0, 1) := by decide +kernel
theorem dd_X8_back_32 : decode X8_back.2.1 32 = .ok (.getfield 36, 3) := by decide +kernel
theorem dd_X8_back_35 : decode X8_back.2.1 35 = .ok (.iconst 0, 1) := by decide +kernel
theorem dd_X8_back_36 : decode X8_back.2.1 36 = .ok (.putfield 105, 3) := by decide +kernel
theorem dd_X8_back_39 : decode X8_back.2.1 39 = .ok (.aload_n 0, 1) := by decide +kernel
theorem dd_X8_back_40 : decode X8_back.2.1 40 = .ok (.getfield 63, 3) := by decide +kernel
theorem dd_X8_back_43 : decode X8_back.2.1 43 = .ok (.invokevirtual 102, 3) := by decide +kernel
theorem dd_X8_back_46 : decode X8_back.2.1 46 = .ok (.aload_n 0, 1) := by decide +kernel
theorem dd_X8_back_47 : decode X8_back.2.1 47 = .ok (.getfield 29, 3) := by decide +kernel
theorem dd_X8_back_50 : decode X8_back.2.1 50 = .ok (.invokevirtual 183, 3) := by decide +kernel
theorem dd_X8_back_53 : decode X8_back.2.1 53 = .ok (.invokestatic 138, 3) := by decide +kernel
theorem dd_X8_back_56 : decode X8_back.2.1 56 = .ok (.ireturn, 1) := by decide +kernel
theorem dd_X8_keptAt_0 : decode X8_keptAt.2.1 0 = .ok (.iload_n 1, 1) := by decide +kernel
theorem dd_X8_keptAt_1 : decode X8_keptAt.2.1 1 = .ok (.ifCond .ne 8, 3) := by decide +kernel
theorem dd_X8_keptAt_4 : decode X8_keptAt.2.1 4 = .ok (.aload_n 0, 1) := by decide +kernel
theorem dd_X8_keptAt_5 : decode X8_keptAt.2.1 5 = .ok (.getfield 40, 3) := by decide +kernel
theorem dd_X8_keptAt_8 : decode X8_keptAt.2.1 8 = .ok (.areturn, 1) := by decide +kernel
theorem dd_X8_keptAt_9 : decode X8_keptAt.2.1 9 = .ok (.iload_n 1, 1) := by decide +kernel
theorem dd_X8_keptAt_10 : decode X8_keptAt.2.1 10 = .ok (.iconst 1, 1) := by decide +kernel
theorem dd_X8_keptAt_11 : decode X8_keptAt.2.1 11 = .ok (.if_icmp .ne 10, 3) := by decide +kernel
theorem dd_X8_keptAt_14 : decode X8_keptAt.2.1 14 = .ok (.aload_n 0, 1) := by decide +kernel
theorem dd_X8_keptAt_15 : decode X8_keptAt.2.1 15 = .ok (.getfield 43, 3) := by decide +kernel
theorem dd_X8_keptAt_18 : decode X8_keptAt.2.1 18 = .ok (.goto 4, 3) := by decide +kernel
theorem dd_X8_keptAt_21 : decode X8_keptAt.2.1 21 = .ok (.aconst_null, 1) := by decide +kernel
theorem dd_X8_keptAt_22 : decode X8_keptAt.2.1 22 = .ok (.areturn, 1) := by decide +kernel
theorem dd_X8_plan_0 : decode X8_plan.2.1 0 = .ok (.iload_n 2, 1) := by decide +kernel
theorem dd_X8_plan_1 : decode X8_plan.2.1 1 = .ok (.iconst (-1), 1) := by decide +kernel
theorem dd_X8_plan_2 : decode X8_plan.2.1 2 = .ok (.if_icmp .eq 17, 3) := by decide +kernel
theorem dd_X8_plan_5 : decode X8_plan.2.1 5 = .ok (.aload_n 0, 1) := by decide +kernel
theorem dd_X8_plan_6 : decode X8_plan.2.1 6 = .ok (.getfield 29, 3) := by decide +kernel
theorem dd_X8_plan_9 : decode X8_plan.2.1 9 = .ok (.iload_n 2, 1) := by decide +kernel
theorem dd_X8_plan_10 : decode X8_plan.2.1 10 = .ok (.invokevirtual 143, 3) := by decide +kernel
theorem dd_X8_plan_13 : decode X8_plan.2.1 13 = .ok (.ifCond .ne 6, 3) := by decide +kernel
theorem dd_X8_plan_16 : decode X8_plan.2.1 16 = .ok (.bipush (-2), 2) := by decide +kernel
theorem dd_X8_plan_18 : decode X8_plan.2.1 18 = .ok (.ireturn, 1) := by decide +kernel
theorem dd_X8_plan_19 : decode X8_plan.2.1 19 = .ok (.iload_n 1, 1) := by decide +kernel
theorem dd_X8_plan_20 : decode X8_plan.2.1 20 = .ok (.ifCond .lt 8, 3) := by decide +kernel
theorem dd_X8_plan_23 : decode X8_plan.2.1 23 = .ok (.iload_n 1, 1) := by decide +kernel
theorem dd_X8_plan_24 : decode X8_plan.2.1 24 = .ok (.iconst 1, 1) := by decide +kernel
theorem dd_X8_plan_25 : decode X8_plan.2.1 25 = .ok (.if_icmp .le 6, 3) := by decide +kernel
theorem dd_X8_plan_28 : decode X8_plan.2.1 28 = .ok (.bipush (-3), 2) := by decide +kernel
theorem dd_X8_plan_30 : decode X8_plan.2.1 30 = .ok (.ireturn, 1) := by decide +kernel
theorem dd_X8_plan_31 : decode X8_plan.2.1 31 = .ok (.aload_n 0, 1) := by decide +kernel
theorem dd_X8_plan_32 : decode X8_plan.2.1 32 = .ok (.getfield 49, 3) := by decide +kernel
theorem dd_X8_plan_35 : decode X8_plan.2.1 35 = .ok (.aload_n 0, 1) := by decide +kernel
theorem dd_X8_plan_36 : decode X8_plan.2.1 36 = .ok (.getfield 19, 3) := by decide +kernel
theorem dd_X8_plan_39 : decode X8_plan.2.1 39 = .ok (.aload_n 0, 1) := by decide +kernel
theorem dd_X8_plan_40 : decode X8_plan.2.1 40 = .ok (.getfield 29, 3) := by decide +kernel
theorem dd_X8_plan_43 : decode X8_plan.2.1 43 = .ok (.iload_n 1, 1) := by decide +kernel
theorem dd_X8_plan_44 : decode X8_plan.2.1 44 = .ok (.invokevirtual 187, 3) := by decide +kernel
theorem dd_X8_plan_47 : decode X8_plan.2.1 47 = .ok (.ifCond .ne 5, 3) := by decide +kernel
theorem dd_X8_plan_50 : decode X8_plan.2.1 50 = .ok (.iconst (-1), 1) := by decide +kernel
theorem dd_X8_plan_51 : decode X8_plan.2.1 51 = .ok (.ireturn, 1) := by decide +kernel
theorem dd_X8_plan_52 : decode X8_plan.2.1 52 = .ok (.iload_n 2, 1) := by decide +kernel
theorem dd_X8_plan_53 : decode X8_plan.2.1 53 = .ok (.iconst (-1), 1) := by decide +kernel
theorem dd_X8_plan_54 : decode X8_plan.2.1 54 = .ok (.if_icmp .ne 13, 3) := by decide +kernel
theorem dd_X8_plan_57 : decode X8_plan.2.1 57 = .ok (.aload_n 0, 1) := by decide +kernel
theorem dd_X8_plan_58 : decode X8_plan.2.1 58 = .ok (.getfield 49, 3) := by decide +kernel
theorem dd_X8_plan_61 : decode X8_plan.2.1 61 = .ok (.getfield 191, 3) := by decide +kernel
theorem dd_X8_plan_64 : decode X8_plan.2.1 64 = .ok (.goto 12, 3) := by decide +kernel
theorem dd_X8_plan_67 : decode X8_plan.2.1 67 = .ok (.aload_n 0, 1) := by decide +kernel
theorem dd_X8_plan_68 : decode X8_plan.2.1 68 = .ok (.getfield 49, 3) := by decide +kernel
theorem dd_X8_plan_71 : decode X8_plan.2.1 71 = .ok (.getfield 194, 3) := by decide +kernel
theorem dd_X8_plan_74 : decode X8_plan.2.1 74 = .ok (.iload_n 2, 1) := by decide +kernel
theorem dd_X8_plan_75 : decode X8_plan.2.1 75 = .ok (.iaload, 1) := by decide +kernel
theorem dd_X8_plan_76 : decode X8_plan.2.1 76 = .ok (.ireturn, 1) := by decide +kernel
theorem dd_X8_most_0 : decode X8_most.2.1 0 = .ok (.iload_n 1, 1) := by decide +kernel
theorem dd_X8_most_1 : decode X8_most.2.1 1 = .ok (.ifCond .lt 8, 3) := by decide +kernel
theorem dd_X8_most_4 : decode X8_most.2.1 4 = .ok (.iload_n 1, 1) := by decide +kernel
theorem dd_X8_most_5 : decode X8_most.2.1 5 = .ok (.iconst 1, 1) := by decide +kernel
theorem dd_X8_most_6 : decode X8_most.2.1 6 = .ok (.if_icmp .le 6, 3) := by decide +kernel
theorem dd_X8_most_9 : decode X8_most.2.1 9 = .ok (.bipush (-3), 2) := by decide +kernel
theorem dd_X8_most_11 : decode X8_most.2.1 11 = .ok (.ireturn, 1) := by decide +kernel
theorem dd_X8_most_12 : decode X8_most.2.1 12 = .ok (.aload_n 0, 1) := by decide +kernel
theorem dd_X8_most_13 : decode X8_most.2.1 13 = .ok (.getfield 49, 3) := by decide +kernel
theorem dd_X8_most_16 : decode X8_most.2.1 16 = .ok (.aload_n 0, 1) := by decide +kernel
theorem dd_X8_most_17 : decode X8_most.2.1 17 = .ok (.getfield 19, 3) := by decide +kernel
theorem dd_X8_most_20 : decode X8_most.2.1 20 = .ok (.iload_n 1, 1) := by decide +kernel
theorem dd_X8_most_21 : decode X8_most.2.1 21 = .ok (.invokevirtual 197, 3) := by decide +kernel
theorem dd_X8_most_24 : decode X8_most.2.1 24 = .ok (.ireturn, 1) := by decide +kernel
theorem dd_X8_apart_0 : decode X8_apart.2.1 0 = .ok (.aload_n 0, 1) := by decide +kernel
theorem dd_X8_apart_1 : decode X8_apart.2.1 1 = .ok (.getfield 19, 3) := by decide +kernel
theorem dd_X8_apart_4 : decode X8_apart.2.1 4 = .ok (.iload_n 1, 1) := by decide +kernel
theorem dd_X8_apart_5 : decode X8_apart.2.1 5 = .ok (.invokevirtual 119, 3) := by decide +kernel
theorem dd_X8_apart_8 : decode X8_apart.2.1 8 = .ok (.ifCond .eq 14, 3) := by decide +kernel
theorem dd_X8_apart_11 : decode X8_apart.2.1 11 = .ok (.aload_n 0, 1) := by decide +kernel
theorem dd_X8_apart_12 : decode X8_apart.2.1 12 = .ok (.getfield 19, 3) := by decide +kernel
theorem dd_X8_apart_15 : decode X8_apart.2.1 15 = .ok (.iload_n 2, 1) := by decide +kernel
theorem dd_X8_apart_16 : decode X8_apart.2.1 16 = .ok (.invokevirtual 119, 3) := by decide +kernel
theorem dd_X8_apart_19 : decode X8_apart.2.1 19 = .ok (.ifCond .ne 6, 3) := by decide +kernel
theorem dd_X8_apart_22 : decode X8_apart.2.1 22 = .ok (.bipush (-2), 2) := by decide +kernel
theorem dd_X8_apart_24 : decode X8_apart.2.1 24 = .ok (.ireturn, 1) := by decide +kernel
theorem dd_X8_apart_25 : decode X8_apart.2.1 25 = .ok (.iconst 1, 1) := by decide +kernel
theorem dd_X8_apart_26 : decode X8_apart.2.1 26 = .ok (.istore_n 3, 1) := by decide +kernel
theorem dd_X8_apart_27 : decode X8_apart.2.1 27 = .ok (.iload_n 3, 1) := by decide +kernel
theorem dd_X8_apart_28 : decode X8_apart.2.1 28 = .ok (.aload_n 0, 1) := by decide +kernel
theorem dd_X8_apart_29 : decode X8_apart.2.1 29 = .ok (.getfield 19, 3) := by decide +kernel
theorem dd_X8_apart_32 : decode X8_apart.2.1 32 = .ok (.getfield 201, 3) := by decide +kernel
theorem dd_X8_apart_35 : decode X8_apart.2.1 35 = .ok (.if_icmp .gt 25, 3) := by decide +kernel
theorem dd_X8_apart_38 : decode X8_apart.2.1 38 = .ok (.aload_n 0, 1) := by decide +kernel
theorem dd_X8_apart_39 : decode X8_apart.2.1 39 = .ok (.getfield 19, 3) := by decide +kernel
theorem dd_X8_apart_42 : decode X8_apart.2.1 42 = .ok (.iload_n 1, 1) := by decide +kernel
theorem dd_X8_apart_43 : decode X8_apart.2.1 43 = .ok (.iload_n 2, 1) := by decide +kernel
theorem dd_X8_apart_44 : decode X8_apart.2.1 44 = .ok (.iload_n 3, 1) := by decide +kernel
theorem dd_X8_apart_45 : decode X8_apart.2.1 45 = .ok (.iconst 0, 1) := by decide +kernel
theorem dd_X8_apart_46 : decode X8_apart.2.1 46 = .ok (.invokevirtual 204, 3) := by decide +kernel
theorem dd_X8_apart_49 : decode X8_apart.2.1 49 = .ok (.ifCond .ne 5, 3) := by decide +kernel
theorem dd_X8_apart_52 : decode X8_apart.2.1 52 = .ok (.iload_n 3, 1) := by decide +kernel
theorem dd_X8_apart_53 : decode X8_apart.2.1 53 = .ok (.ireturn, 1) := by decide +kernel
theorem dd_X8_apart_54 : decode X8_apart.2.1 54 = .ok (.iinc 3 1, 3) := by decide +kernel
theorem dd_X8_apart_57 : decode X8_apart.2.1 57 = .ok (.goto (-30), 3) := by decide +kernel
theorem dd_X8_apart_60 : decode X8_apart.2.1 60 = .ok (.iconst (-1), 1) := by decide +kernel
theorem dd_X8_apart_61 : decode X8_apart.2.1 61 = .ok (.ireturn, 1) := by decide +kernel
theorem dd_X8_machine_0 : decode X8_machine.2.1 0 = .ok (.iload_n 1, 1) := by decide +kernel
theorem dd_X8_machine_1 : decode X8_machine.2.1 1 = .ok (.invokestatic 169, 3) := by decide +kernel
theorem dd_X8_machine_4 : decode X8_machine.2.1 4 = .ok (.ifCond .eq 12, 3) := by decide +kernel
theorem dd_X8_machine_7 : decode X8_machine.2.1 7 = .ok (.iload_n 2, 1) := by decide +kernel
theorem dd_X8_machine_8 : decode X8_machine.2.1 8 = .ok (.ifCond .lt 8, 3) := by decide +kernel
theorem dd_X8_machine_11 : decode X8_machine.2.1 11 = .ok (.iload_n 2, 1) := by decide +kernel
theorem dd_X8_machine_12 : decode X8_machine.2.1 12 = .ok (.iconst 1, 1) := by decide +kernel
theorem dd_X8_machine_13 : decode X8_machine.2.1 13 = .ok (.if_icmp .le 6, 3) := by decide +kernel
theorem dd_X8_machine_16 : decode X8_machine.2.1 16 = .ok (.bipush (-3), 2) := by decide +kernel
theorem dd_X8_machine_18 : decode X8_machine.2.1 18 = .ok (.ireturn, 1) := by decide +kernel
theorem dd_X8_machine_19 : decode X8_machine.2.1 19 = .ok (.aload_n 0, 1) := by decide +kernel
theorem dd_X8_machine_20 : decode X8_machine.2.1 20 = .ok (.getfield 56, 3) := by decide +kernel
theorem dd_X8_machine_23 : decode X8_machine.2.1 23 = .ok (.aload_n 0, 1) := by decide +kernel
theorem dd_X8_machine_24 : decode X8_machine.2.1 24 = .ok (.getfield 19, 3) := by decide +kernel
theorem dd_X8_machine_27 : decode X8_machine.2.1 27 = .ok (.aload_n 0, 1) := by decide +kernel
theorem dd_X8_machine_28 : decode X8_machine.2.1 28 = .ok (.getfield 29, 3) := by decide +kernel
theorem dd_X8_machine_31 : decode X8_machine.2.1 31 = .ok (.iload_n 1, 1) := by decide +kernel
theorem dd_X8_machine_32 : decode X8_machine.2.1 32 = .ok (.invokevirtual 208, 3) := by decide +kernel
theorem dd_X8_machine_35 : decode X8_machine.2.1 35 = .ok (.iload_n 2, 1) := by decide +kernel
theorem dd_X8_machine_36 : decode X8_machine.2.1 36 = .ok (.ifCond .ne 13, 3) := by decide +kernel
theorem dd_X8_machine_39 : decode X8_machine.2.1 39 = .ok (.aload_n 0, 1) := by decide +kernel
theorem dd_X8_machine_40 : decode X8_machine.2.1 40 = .ok (.getfield 56, 3) := by decide +kernel
theorem dd_X8_machine_43 : decode X8_machine.2.1 43 = .ok (.invokevirtual 212, 3) := by decide +kernel
theorem dd_X8_machine_46 : decode X8_machine.2.1 46 = .ok (.goto 10, 3) := by decide +kernel
theorem dd_X8_machine_49 : decode X8_machine.2.1 49 = .ok (.aload_n 0, 1) := by decide +kernel
theorem dd_X8_machine_50 : decode X8_machine.2.1 50 = .ok (.getfield 56, 3) := by decide +kernel
theorem dd_X8_machine_53 : decode X8_machine.2.1 53 = .ok (.invokevirtual 215, 3) := by decide +kernel
theorem dd_X8_machine_56 : decode X8_machine.2.1 56 = .ok (.ireturn, 1) := by decide +kernel
theorem dd_X8_watch_0 : decode X8_watch.2.1 0 = .ok (.iload_n 1, 1) := by decide +kernel
theorem dd_X8_watch_1 : decode X8_watch.2.1 1 = .ok (.invokestatic 169, 3) := by decide +kernel
theorem dd_X8_watch_4 : decode X8_watch.2.1 4 = .ok (.ifCond .eq 12, 3) := by decide +kernel
theorem dd_X8_watch_7 : decode X8_watch.2.1 7 = .ok (.iload_n 2, 1) := by decide +kernel
theorem dd_X8_watch_8 : decode X8_watch.2.1 8 = .ok (.ifCond .lt 8, 3) := by decide +kernel
theorem dd_X8_watch_11 : decode X8_watch.2.1 11 = .ok (.iload_n 2, 1) := by decide +kernel
theorem dd_X8_watch_12 : decode X8_watch.2.1 12 = .ok (.iconst 1, 1) := by decide +kernel
theorem dd_X8_watch_13 : decode X8_watch.2.1 13 = .ok (.if_icmp .le 6, 3) := by decide +kernel
theorem dd_X8_watch_16 : decode X8_watch.2.1 16 = .ok (.bipush (-3), 2) := by decide +kernel
theorem dd_X8_watch_18 : decode X8_watch.2.1 18 = .ok (.ireturn, 1) := by decide +kernel
theorem dd_X8_watch_19 : decode X8_watch.2.1 19 = .ok (.aload_n 0, 1) := by decide +kernel
theorem dd_X8_watch_20 : decode X8_watch.2.1 20 = .ok (.getfield 63, 3) := by decide +kernel
theorem dd_X8_watch_23 : decode X8_watch.2.1 23 = .ok (.aload_n 0, 1) := by decide +kernel
theorem dd_X8_watch_24 : decode X8_watch.2.1 24 = .ok (.getfield 29, 3) := by decide +kernel
theorem dd_X8_watch_27 : decode X8_watch.2.1 27 = .ok (.iload_n 1, 1) := by decide +kernel
theorem dd_X8_watch_28 : decode X8_watch.2.1 28 = .ok (.aload_n 0, 1) := by decide +kernel
theorem dd_X8_watch_29 : decode X8_watch.2.1 29 = .ok (.getfield 19, 3) := by decide +kernel
theorem dd_X8_watch_32 : decode X8_watch.2.1 32 = .ok (.invokevirtual 218, 3) := by decide +kernel
theorem dd_X8_watch_35 : decode X8_watch.2.1 35 = .ok (.iload_n 2, 1) := by decide +kernel
theorem dd_X8_watch_36 : decode X8_watch.2.1 36 = .ok (.iconst 1, 1) := by decide +kernel
theorem dd_X8_watch_37 : decode X8_watch.2.1 37 = .ok (.if_icmp .ne 7, 3) := by decide +kernel
theorem dd_X8_watch_40 : decode X8_watch.2.1 40 = .ok (.iconst 1, 1) := by decide +kernel
theorem dd_X8_watch_41 : decode X8_watch.2.1 41 = .ok (.goto 4, 3) := by decide +kernel
theorem dd_X8_watch_44 : decode X8_watch.2.1 44 = .ok (.iconst 0, 1) := by decide +kernel
theorem dd_X8_watch_45 : decode X8_watch.2.1 45 = .ok (.invokevirtual 222, 3) := by decide +kernel
theorem dd_X8_watch_48 : decode X8_watch.2.1 48 = .ok (.aload_n 0, 1) := by decide +kernel
theorem dd_X8_watch_49 : decode X8_watch.2.1 49 = .ok (.getfield 63, 3) := by decide +kernel
theorem dd_X8_watch_52 : decode X8_watch.2.1 52 = .ok (.invokevirtual 226, 3) := by decide +kernel
theorem dd_X8_watch_55 : decode X8_watch.2.1 55 = .ok (.ireturn, 1) := by decide +kernel
theorem dd_X8_see_0 : decode X8_see.2.1 0 = .ok (.iload_n 1, 1) := by decide +kernel
theorem dd_X8_see_1 : decode X8_see.2.1 1 = .ok (.ifCond .lt 8, 3) := by decide +kernel
theorem dd_X8_see_4 : decode X8_see.2.1 4 = .ok (.iload_n 1, 1) := by decide +kernel
theorem dd_X8_see_5 : decode X8_see.2.1 5 = .ok (.iconst 1, 1) := by decide +kernel
theorem dd_X8_see_6 : decode X8_see.2.1 6 = .ok (.if_icmp .le 6, 3) := by decide +kernel
theorem dd_X8_see_9 : decode X8_see.2.1 9 = .ok (.bipush (-3), 2) := by decide +kernel
theorem dd_X8_see_11 : decode X8_see.2.1 11 = .ok (.ireturn, 1) := by decide +kernel
theorem dd_X8_see_12 : decode X8_see.2.1 12 = .ok (.aload_n 0, 1) := by decide +kernel
theorem dd_X8_see_13 : decode X8_see.2.1 13 = .ok (.getfield 63, 3) := by decide +kernel
theorem dd_X8_see_16 : decode X8_see.2.1 16 = .ok (.getfield 228, 3) := by decide +kernel
theorem dd_X8_see_19 : decode X8_see.2.1 19 = .ok (.ifCond .ne 6, 3) := by decide +kernel
theorem dd_X8_see_22 : decode X8_see.2.1 22 = .ok (.bipush (-4), 2) := by decide +kernel
theorem dd_X8_see_24 : decode X8_see.2.1 24 = .ok (.ireturn, 1) := by decide +kernel
theorem dd_X8_see_25 : decode X8_see.2.1 25 = .ok (.aload_n 0, 1) := by decide +kernel
theorem dd_X8_see_26 : decode X8_see.2.1 26 = .ok (.getfield 63, 3) := by decide +kernel
theorem dd_X8_see_29 : decode X8_see.2.1 29 = .ok (.iload_n 1, 1) := by decide +kernel
theorem dd_X8_see_30 : decode X8_see.2.1 30 = .ok (.aload_n 0, 1) := by decide +kernel
theorem dd_X8_see_31 : decode X8_see.2.1 31 = .ok (.getfield 29, 3) := by decide +kernel
theorem dd_X8_see_34 : decode X8_see.2.1 34 = .ok (.aload_n 0, 1) := by decide +kernel
theorem dd_X8_see_35 : decode X8_see.2.1 35 = .ok (.getfield 19, 3) := by decide +kernel
theorem dd_X8_see_38 : decode X8_see.2.1 38 = .ok (.invokevirtual 231, 3) := by decide +kernel
theorem dd_X8_see_41 : decode X8_see.2.1 41 = .ok (.aload_n 0, 1) := by decide +kernel
theorem dd_X8_see_42 : decode X8_see.2.1 42 = .ok (.getfield 19, 3) := by decide +kernel
theorem dd_X8_see_45 : decode X8_see.2.1 45 = .ok (.getfield 201, 3) := by decide +kernel
theorem dd_X8_see_48 : decode X8_see.2.1 48 = .ok (.invokevirtual 235, 3) := by decide +kernel
theorem dd_X8_see_51 : decode X8_see.2.1 51 = .ok (.aload_n 0, 1) := by decide +kernel
theorem dd_X8_see_52 : decode X8_see.2.1 52 = .ok (.getfield 63, 3) := by decide +kernel
theorem dd_X8_see_55 : decode X8_see.2.1 55 = .ok (.invokevirtual 226, 3) := by decide +kernel
theorem dd_X8_see_58 : decode X8_see.2.1 58 = .ok (.ireturn, 1) := by decide +kernel
theorem dd_X8_left_0 : decode X8_left.2.1 0 = .ok (.iload_n 1, 1) := by decide +kernel
theorem dd_X8_left_1 : decode X8_left.2.1 1 = .ok (.ifCond .lt 12, 3) := by decide +kernel
theorem dd_X8_left_4 : decode X8_left.2.1 4 = .ok (.iload_n 1, 1) := by decide +kernel
theorem dd_X8_left_5 : decode X8_left.2.1 5 = .ok (.iconst 1, 1) := by decide +kernel
theorem dd_X8_left_6 : decode X8_left.2.1 6 = .ok (.if_icmp .gt 7, 3) := by decide +kernel
theorem dd_X8_left_9 : decode X8_left.2.1 9 = .ok (.iload_n 2, 1) := by decide +kernel
theorem dd_X8_left_10 : decode X8_left.2.1 10 = .ok (.ifCond .ge 6, 3) := by decide +kernel
theorem dd_X8_left_13 : decode X8_left.2.1 13 = .ok (.bipush (-3), 2) := by decide +kernel
theorem dd_X8_left_15 : decode X8_left.2.1 15 = .ok (.ireturn, 1) := by decide +kernel
theorem dd_X8_left_16 : decode X8_left.2.1 16 = .ok (.aload_n 0, 1) := by decide +kernel
theorem dd_X8_left_17 : decode X8_left.2.1 17 = .ok (.getfield 63, 3) := by decide +kernel
theorem dd_X8_left_20 : decode X8_left.2.1 20 = .ok (.getfield 228, 3) := by decide +kernel
theorem dd_X8_left_23 : decode X8_left.2.1 23 = .ok (.ifCond .ne 6, 3) := by decide +kernel
theorem dd_X8_left_26 : decode X8_left.2.1 26 = .ok (.bipush (-4), 2) := by decide +kernel
theorem dd_X8_left_28 : decode X8_left.2.1 28 = .ok (.ireturn, 1) := by decide +kernel
theorem dd_X8_left_29 : decode X8_left.2.1 29 = .ok (.iload_n 1, 1) := by decide +kernel
theorem dd_X8_left_30 : decode X8_left.2.1 30 = .ok (.ifCond .ne 13, 3) := by decide +kernel
theorem dd_X8_left_33 : decode X8_left.2.1 33 = .ok (.aload_n 0, 1) := by decide +kernel
theorem dd_X8_left_34 : decode X8_left.2.1 34 = .ok (.getfield 63, 3) := by decide +kernel
theorem dd_X8_left_37 : decode X8_left.2.1 37 = .ok (.invokevirtual 239, 3) := by decide +kernel
theorem dd_X8_left_40 : decode X8_left.2.1 40 = .ok (.goto 18, 3) := by decide +kernel
theorem dd_X8_left_43 : decode X8_left.2.1 43 = .ok (.aload_n 0, 1) := by decide +kernel
theorem dd_X8_left_44 : decode X8_left.2.1 44 = .ok (.getfield 63, 3) := by decide +kernel
theorem dd_X8_left_47 : decode X8_left.2.1 47 = .ok (.iload_n 2, 1) := by decide +kernel
theorem dd_X8_left_48 : decode X8_left.2.1 48 = .ok (.aload_n 0, 1) := by decide +kernel
theorem dd_X8_left_49 : decode X8_left.2.1 49 = .ok (.getfield 19, 3) := by decide +kernel
theorem dd_X8_left_52 : decode X8_left.2.1 52 = .ok (.getfield 201, 3) := by decide +kernel
theorem dd_X8_left_55 : decode X8_left.2.1 55 = .ok (.invokevirtual 241, 3) := by decide +kernel
theorem dd_X8_left_58 : decode X8_left.2.1 58 = .ok (.ireturn, 1) := by decide +kernel
theorem dd_X8_tape_0 : decode X8_tape.2.1 0 = .ok (.aload_n 0, 1) := by decide +kernel
theorem dd_X8_tape_1 : decode X8_tape.2.1 1 = .ok (.iload_n 1, 1) := by decide +kernel
theorem dd_X8_tape_2 : decode X8_tape.2.1 2 = .ok (.invokevirtual 112, 3) := by decide +kernel
theorem dd_X8_tape_5 : decode X8_tape.2.1 5 = .ok (.astore_n 2, 1) := by decide +kernel
theorem dd_X8_tape_6 : decode X8_tape.2.1 6 = .ok (.aload_n 2, 1) := by decide +kernel
theorem dd_X8_tape_7 : decode X8_tape.2.1 7 = .ok (.ifnonnull 6, 3) := by decide +kernel
theorem dd_X8_tape_10 : decode X8_tape.2.1 10 = .ok (.bipush (-2), 2) := by decide +kernel
theorem dd_X8_tape_12 : decode X8_tape.2.1 12 = .ok (.ireturn, 1) := by decide +kernel
theorem dd_X8_tape_13 : decode X8_tape.2.1 13 = .ok (.aload_n 2, 1) := by decide +kernel
theorem dd_X8_tape_14 : decode X8_tape.2.1 14 = .ok (.invokevirtual 244, 3) := by decide +kernel
theorem dd_X8_tape_17 : decode X8_tape.2.1 17 = .ok (.iconst 0, 1) := by decide +kernel
theorem dd_X8_tape_18 : decode X8_tape.2.1 18 = .ok (.ireturn, 1) := by decide +kernel
theorem dd_X8_put_0 : decode X8_put.2.1 0 = .ok (.aload_n 0, 1) := by decide +kernel
theorem dd_X8_put_1 : decode X8_put.2.1 1 = .ok (.iload_n 1, 1) := by decide +kernel
theorem dd_X8_put_2 : decode X8_put.2.1 2 = .ok (.invokevirtual 112, 3) := by decide +kernel
theorem dd_X8_put_5 : decode X8_put.2.1 5 = .ok (.astore 4, 2) := by decide +kernel
theorem dd_X8_put_7 : decode X8_put.2.1 7 = .ok (.aload 4, 2) := by decide +kernel
theorem dd_X8_put_9 : decode X8_put.2.1 9 = .ok (.ifnonnull 6, 3) := by decide +kernel
theorem dd_X8_put_12 : decode X8_put.2.1 12 = .ok (.bipush (-2), 2) := by decide +kernel
theorem dd_X8_put_14 : decode X8_put.2.1 14 = .ok (.ireturn, 1) := by decide +kernel
theorem dd_X8_put_15 : decode X8_put.2.1 15 = .ok (.iload_n 2, 1) := by decide +kernel
theorem dd_X8_put_16 : decode X8_put.2.1 16 = .ok (.invokestatic 246, 3) := by decide +kernel
theorem dd_X8_put_19 : decode X8_put.2.1 19 = .ok (.ifCond .eq 10, 3) := by decide +kernel
theorem dd_X8_put_22 : decode X8_put.2.1 22 = .ok (.iload_n 3, 1) := by decide +kernel
theorem dd_X8_put_23 : decode X8_put.2.1 23 = .ok (.invokestatic 249, 3) := by decide +kernel
theorem dd_X8_put_26 : decode X8_put.2.1 26 = .ok (.ifCond .ne 6, 3) := by decide +kernel
theorem dd_X8_put_29 : decode X8_put.2.1 29 = .ok (.bipush (-3), 2) := by decide +kernel
theorem dd_X8_put_31 : decode X8_put.2.1 31 = .ok (.ireturn, 1) := by decide +kernel
theorem dd_X8_put_32 : decode X8_put.2.1 32 = .ok (.aload 4, 2) := by decide +kernel
theorem dd_X8_put_34 : decode X8_put.2.1 34 = .ok (.getfield 252, 3) := by decide +kernel
theorem dd_X8_put_37 : decode X8_put.2.1 37 = .ok (.ifCond .ne 6, 3) := by decide +kernel
theorem dd_X8_put_40 : decode X8_put.2.1 40 = .ok (.bipush (-11), 2) := by decide +kernel
theorem dd_X8_put_42 : decode X8_put.2.1 42 = .ok (.ireturn, 1) := by decide +kernel
theorem dd_X8_put_43 : decode X8_put.2.1 43 = .ok (.aload 4, 2) := by decide +kernel
theorem dd_X8_put_45 : decode X8_put.2.1 45 = .ok (.getfield 255, 3) := by decide +kernel
theorem dd_X8_put_48 : decode X8_put.2.1 48 = .ok (.bipush 12, 2) := by decide +kernel
theorem dd_X8_put_50 : decode X8_put.2.1 50 = .ok (.if_icmp .lt 6, 3) := by decide +kernel
theorem dd_X8_put_53 : decode X8_put.2.1 53 = .ok (.bipush (-13), 2) := by decide +kernel
theorem dd_X8_put_55 : decode X8_put.2.1 55 = .ok (.ireturn, 1) := by decide +kernel
theorem dd_X8_put_56 : decode X8_put.2.1 56 = .ok (.iload_n 2, 1) := by decide +kernel
theorem dd_X8_put_57 : decode X8_put.2.1 57 = .ok (.ifCond .ne 12, 3) := by decide +kernel
theorem dd_X8_put_60 : decode X8_put.2.1 60 = .ok (.aload 4, 2) := by decide +kernel
theorem dd_X8_put_62 : decode X8_put.2.1 62 = .ok (.iload_n 3, 1) := by decide +kernel
theorem dd_X8_put_63 : decode X8_put.2.1 63 = .ok (.invokevirtual 256, 3) := by decide +kernel
theorem dd_X8_put_66 : decode X8_put.2.1 66 = .ok (.goto 9, 3) := by decide +kernel
theorem dd_X8_put_69 : decode X8_put.2.1 69 = .ok (.aload 4, 2) := by decide +kernel
theorem dd_X8_put_71 : decode X8_put.2.1 71 = .ok (.iload_n 3, 1) := by decide +kernel
theorem dd_X8_put_72 : decode X8_put.2.1 72 = .ok (.invokevirtual 259, 3) := by decide +kernel
theorem dd_X8_put_75 : decode X8_put.2.1 75 = .ok (.aload 4, 2) := by decide +kernel
theorem dd_X8_put_77 : decode X8_put.2.1 77 = .ok (.getfield 255, 3) := by decide +kernel
theorem dd_X8_put_80 : decode X8_put.2.1 80 = .ok (.ireturn, 1) := by decide +kernel
theorem dd_X8_draw_0 : decode X8_draw.2.1 0 = .ok (.aload_n 0, 1) := by decide +kernel
theorem dd_X8_draw_1 : decode X8_draw.2.1 1 = .ok (.iload_n 1, 1) := by decide +kernel
theorem dd_X8_draw_2 : decode X8_draw.2.1 2 = .ok (.invokevirtual 112, 3) := by decide +kernel
theorem dd_X8_draw_5 : decode X8_draw.2.1 5 = .ok (.astore_n 3, 1) := by decide +kernel
theorem dd_X8_draw_6 : decode X8_draw.2.1 6 = .ok (.aload_n 3, 1) := by decide +kernel
theorem dd_X8_draw_7 : decode X8_draw.2.1 7 = .ok (.ifnonnull 6, 3) := by decide +kernel
theorem dd_X8_draw_10 : decode X8_draw.2.1 10 = .ok (.bipush (-2), 2) := by decide +kernel
theorem dd_X8_draw_12 : decode X8_draw.2.1 12 = .ok (.ireturn, 1) := by decide +kernel
theorem dd_X8_draw_13 : decode X8_draw.2.1 13 = .ok (.iload_n 2, 1) := by decide +kernel
theorem dd_X8_draw_14 : decode X8_draw.2.1 14 = .ok (.invokestatic 246, 3) := by decide +kernel
theorem dd_X8_draw_17 : decode X8_draw.2.1 17 = .ok (.ifCond .ne 6, 3) := by decide +kernel
theorem dd_X8_draw_20 : decode X8_draw.2.1 20 = .ok (.bipush (-3), 2) := by decide +kernel
theorem dd_X8_draw_22 : decode X8_draw.2.1 22 = .ok (.ireturn, 1) := by decide +kernel
theorem dd_X8_draw_23 : decode X8_draw.2.1 23 = .ok (.aload_n 3, 1) := by decide +kernel
theorem dd_X8_draw_24 : decode X8_draw.2.1 24 = .ok (.getfield 252, 3) := by decide +kernel
theorem dd_X8_draw_27 : decode X8_draw.2.1 27 = .ok (.ifCond .ne 6, 3) := by decide +kernel
theorem dd_X8_draw_30 : decode X8_draw.2.1 30 = .ok (.bipush (-11), 2) := by decide +kernel
theorem dd_X8_draw_32 : decode X8_draw.2.1 32 = .ok (.ireturn, 1) := by decide +kernel
theorem dd_X8_draw_33 : decode X8_draw.2.1 33 = .ok (.aload_n 3, 1) := by decide +kernel
theorem dd_X8_draw_34 : decode X8_draw.2.1 34 = .ok (.getfield 255, 3) := by decide +kernel
theorem dd_X8_draw_37 : decode X8_draw.2.1 37 = .ok (.ifCond .ne 6, 3) := by decide +kernel
theorem dd_X8_draw_40 : decode X8_draw.2.1 40 = .ok (.bipush (-12), 2) := by decide +kernel
theorem dd_X8_draw_42 : decode X8_draw.2.1 42 = .ok (.ireturn, 1) := by decide +kernel
theorem dd_X8_draw_43 : decode X8_draw.2.1 43 = .ok (.iload_n 2, 1) := by decide +kernel
theorem dd_X8_draw_44 : decode X8_draw.2.1 44 = .ok (.ifCond .ne 10, 3) := by decide +kernel
theorem dd_X8_draw_47 : decode X8_draw.2.1 47 = .ok (.aload_n 3, 1) := by decide +kernel
theorem dd_X8_draw_48 : decode X8_draw.2.1 48 = .ok (.invokevirtual 262, 3) := by decide +kernel
theorem dd_X8_draw_51 : decode X8_draw.2.1 51 = .ok (.goto 7, 3) := by decide +kernel
theorem dd_X8_draw_54 : decode X8_draw.2.1 54 = .ok (.aload_n 3, 1) := by decide +kernel
theorem dd_X8_draw_55 : decode X8_draw.2.1 55 = .ok (.invokevirtual 265, 3) := by decide +kernel
theorem dd_X8_draw_58 : decode X8_draw.2.1 58 = .ok (.istore 4, 2) := by decide +kernel
theorem dd_X8_draw_60 : decode X8_draw.2.1 60 = .ok (.iload 4, 2) := by decide +kernel
theorem dd_X8_draw_62 : decode X8_draw.2.1 62 = .ok (.ldc_w 268, 3) := by decide +kernel
theorem dd_X8_draw_65 : decode X8_draw.2.1 65 = .ok (.iadd, 1) := by decide +kernel
theorem dd_X8_draw_66 : decode X8_draw.2.1 66 = .ok (.ireturn, 1) := by decide +kernel
theorem dd_X8_turn_0 : decode X8_turn.2.1 0 = .ok (.aload_n 0, 1) := by decide +kernel
theorem dd_X8_turn_1 : decode X8_turn.2.1 1 = .ok (.iload_n 1, 1) := by decide +kernel
theorem dd_X8_turn_2 : decode X8_turn.2.1 2 = .ok (.invokevirtual 112, 3) := by decide +kernel
theorem dd_X8_turn_5 : decode X8_turn.2.1 5 = .ok (.astore_n 3, 1) := by decide +kernel
theorem dd_X8_turn_6 : decode X8_turn.2.1 6 = .ok (.aload_n 3, 1) := by decide +kernel
theorem dd_X8_turn_7 : decode X8_turn.2.1 7 = .ok (.ifnonnull 6, 3) := by decide +kernel
theorem dd_X8_turn_10 : decode X8_turn.2.1 10 = .ok (.bipush (-2), 2) := by decide +kernel
theorem dd_X8_turn_12 : decode X8_turn.2.1 12 = .ok (.ireturn, 1) := by decide +kernel
theorem dd_X8_turn_13 : decode X8_turn.2.1 13 = .ok (.iload_n 2, 1) := by decide +kernel
theorem dd_X8_turn_14 : decode X8_turn.2.1 14 = .ok (.ifCond .lt 9, 3) := by decide +kernel
theorem dd_X8_turn_17 : decode X8_turn.2.1 17 = .ok (.iload_n 2, 1) := by decide +kernel
theorem dd_X8_turn_18 : decode X8_turn.2.1 18 = .ok (.bipush 99, 2) := by decide +kernel
theorem dd_X8_turn_20 : decode X8_turn.2.1 20 = .ok (.if_icmp .le 6, 3) := by decide +kernel
theorem dd_X8_turn_23 : decode X8_turn.2.1 23 = .ok (.bipush (-3), 2) := by decide +kernel
theorem dd_X8_turn_25 : decode X8_turn.2.1 25 = .ok (.ireturn, 1) := by decide +kernel
theorem dd_X8_turn_26 : decode X8_turn.2.1 26 = .ok (.aload_n 3, 1) := by decide +kernel
theorem dd_X8_turn_27 : decode X8_turn.2.1 27 = .ok (.getfield 252, 3) := by decide +kernel
theorem dd_X8_turn_30 : decode X8_turn.2.1 30 = .ok (.ifCond .ne 6, 3) := by decide +kernel
theorem dd_X8_turn_33 : decode X8_turn.2.1 33 = .ok (.bipush (-11), 2) := by decide +kernel
theorem dd_X8_turn_35 : decode X8_turn.2.1 35 = .ok (.ireturn, 1) := by decide +kernel
theorem dd_X8_turn_36 : decode X8_turn.2.1 36 = .ok (.aload_n 3, 1) := by decide +kernel
theorem dd_X8_turn_37 : decode X8_turn.2.1 37 = .ok (.getfield 255, 3) := by decide +kernel
theorem dd_X8_turn_40 : decode X8_turn.2.1 40 = .ok (.ifCond .ne 6, 3) := by decide +kernel
theorem dd_X8_turn_43 : decode X8_turn.2.1 43 = .ok (.bipush (-12), 2) := by decide +kernel
theorem dd_X8_turn_45 : decode X8_turn.2.1 45 = .ok (.ireturn, 1) := by decide +kernel
theorem dd_X8_turn_46 : decode X8_turn.2.1 46 = .ok (.iconst 0, 1) := by decide +kernel
theorem dd_X8_turn_47 : decode X8_turn.2.1 47 = .ok (.istore 4, 2) := by decide +kernel
theorem dd_X8_turn_49 : decode X8_turn.2.1 49 = .ok (.iload 4, 2) := by decide +kernel
theorem dd_X8_turn_51 : decode X8_turn.2.1 51 = .ok (.iload_n 2, 1) := by decide +kernel
theorem dd_X8_turn_52 : decode X8_turn.2.1 52 = .ok (.if_icmp .ge 17, 3) := by decide +kernel
theorem dd_X8_turn_55 : decode X8_turn.2.1 55 = .ok (.aload_n 3, 1) := by decide +kernel
theorem dd_X8_turn_56 : decode X8_turn.2.1 56 = .ok (.aload_n 3, 1) := by decide +kernel
theorem dd_X8_turn_57 : decode X8_turn.2.1 57 = .ok (.invokevirtual 262, 3) := by decide +kernel
theorem dd_X8_turn_60 : decode X8_turn.2.1 60 = .ok (.invokevirtual 259, 3) := by decide +kernel
theorem dd_X8_turn_63 : decode X8_turn.2.1 63 = .ok (.iinc 4 1, 3) := by decide +kernel
theorem dd_X8_turn_66 : decode X8_turn.2.1 66 = .ok (.goto (-17), 3) := by decide +kernel
theorem dd_X8_turn_69 : decode X8_turn.2.1 69 = .ok (.aload_n 3, 1) := by decide +kernel
theorem dd_X8_turn_70 : decode X8_turn.2.1 70 = .ok (.getfield 255, 3) := by decide +kernel
theorem dd_X8_turn_73 : decode X8_turn.2.1 73 = .ok (.ireturn, 1) := by decide +kernel
theorem dd_X8_find_0 : decode X8_find.2.1 0 = .ok (.aload_n 0, 1) := by decide +kernel
theorem dd_X8_find_1 : decode X8_find.2.1 1 = .ok (.iload_n 1, 1) := by decide +kernel
theorem dd_X8_find_2 : decode X8_find.2.1 2 = .ok (.invokevirtual 112, 3) := by decide +kernel
theorem dd_X8_find_5 : decode X8_find.2.1 5 = .ok (.astore 4, 2) := by decide +kernel
theorem dd_X8_find_7 : decode X8_find.2.1 7 = .ok (.aload 4, 2) := by decide +kernel
theorem dd_X8_find_9 : decode X8_find.2.1 9 = .ok (.ifnonnull 6, 3) := by decide +kernel
theorem dd_X8_find_12 : decode X8_find.2.1 12 = .ok (.bipush (-2), 2) := by decide +kernel
theorem dd_X8_find_14 : decode X8_find.2.1 14 = .ok (.ireturn, 1) := by decide +kernel
theorem dd_X8_find_15 : decode X8_find.2.1 15 = .ok (.iload_n 2, 1) := by decide +kernel
theorem dd_X8_find_16 : decode X8_find.2.1 16 = .ok (.ifCond .lt 15, 3) := by decide +kernel
theorem dd_X8_find_19 : decode X8_find.2.1 19 = .ok (.iload_n 2, 1) := by decide +kernel
theorem dd_X8_find_20 : decode X8_find.2.1 20 = .ok (.iconst 2, 1) := by decide +kernel
theorem dd_X8_find_21 : decode X8_find.2.1 21 = .ok (.if_icmp .gt 10, 3) := by decide +kernel
theorem dd_X8_find_24 : decode X8_find.2.1 24 = .ok (.iload_n 3, 1) := by decide +kernel
theorem dd_X8_find_25 : decode X8_find.2.1 25 = .ok (.invokestatic 249, 3) := by decide +kernel
theorem dd_X8_find_28 : decode X8_find.2.1 28 = .ok (.ifCond .ne 6, 3) := by decide +kernel
theorem dd_X8_find_31 : decode X8_find.2.1 31 = .ok (.bipush (-3), 2) := by decide +kernel
theorem dd_X8_find_33 : decode X8_find.2.1 33 = .ok (.ireturn, 1) := by decide +kernel
theorem dd_X8_find_34 : decode X8_find.2.1 34 = .ok (.aload 4, 2) := by decide +kernel
theorem dd_X8_find_36 : decode X8_find.2.1 36 = .ok (.getfield 252, 3) := by decide +kernel
theorem dd_X8_find_39 : decode X8_find.2.1 39 = .ok (.ifCond .ne 6, 3) := by decide +kernel
theorem dd_X8_find_42 : decode X8_find.2.1 42 = .ok (.bipush (-11), 2) := by decide +kernel
theorem dd_X8_find_44 : decode X8_find.2.1 44 = .ok (.ireturn, 1) := by decide +kernel
theorem dd_X8_find_45 : decode X8_find.2.1 45 = .ok (.iload_n 2, 1) := by decide +kernel
theorem dd_X8_find_46 : decode X8_find.2.1 46 = .ok (.iconst 2, 1) := by decide +kernel
theorem dd_X8_find_47 : decode X8_find.2.1 47 = .ok (.if_icmp .ne 10, 3) := by decide +kernel
theorem dd_X8_find_50 : decode X8_find.2.1 50 = .ok (.aload 4, 2) := by decide +kernel
theorem dd_X8_find_52 : decode X8_find.2.1 52 = .ok (.iload_n 3, 1) := by decide +kernel
theorem dd_X8_find_53 : decode X8_find.2.1 53 = .ok (.invokevirtual 269, 3) := by decide +kernel
theorem dd_X8_find_56 : decode X8_find.2.1 56 = .ok (.ireturn, 1) := by decide +kernel
theorem dd_X8_find_57 : decode X8_find.2.1 57 = .ok (.aload 4, 2) := by decide +kernel
theorem dd_X8_find_59 : decode X8_find.2.1 59 = .ok (.getfield 255, 3) := by decide +kernel
theorem dd_X8_find_62 : decode X8_find.2.1 62 = .ok (.ifCond .ne 6, 3) := by decide +kernel
theorem dd_X8_find_65 : decode X8_find.2.1 65 = .ok (.bipush (-12), 2) := by decide +kernel
theorem dd_X8_find_67 : decode X8_find.2.1 67 = .ok (.ireturn, 1) := by decide +kernel
theorem dd_X8_find_68 : decode X8_find.2.1 68 = .ok (.iload_n 2, 1) := by decide +kernel
theorem dd_X8_find_69 : decode X8_find.2.1 69 = .ok (.ifCond .ne 11, 3) := by decide +kernel
theorem dd_X8_find_72 : decode X8_find.2.1 72 = .ok (.aload 4, 2) := by decide +kernel
theorem dd_X8_find_74 : decode X8_find.2.1 74 = .ok (.invokevirtual 272, 3) := by decide +kernel
theorem dd_X8_find_77 : decode X8_find.2.1 77 = .ok (.goto 8, 3) := by decide +kernel
theorem dd_X8_find_80 : decode X8_find.2.1 80 = .ok (.aload 4, 2) := by decide +kernel
theorem dd_X8_find_82 : decode X8_find.2.1 82 = .ok (.invokevirtual 275, 3) := by decide +kernel
theorem dd_X8_find_85 : decode X8_find.2.1 85 = .ok (.istore 5, 2) := by decide +kernel
theorem dd_X8_find_87 : decode X8_find.2.1 87 = .ok (.iload 5, 2) := by decide +kernel
theorem dd_X8_find_89 : decode X8_find.2.1 89 = .ok (.ldc_w 268, 3) := by decide +kernel
theorem dd_X8_find_92 : decode X8_find.2.1 92 = .ok (.iadd, 1) := by decide +kernel
theorem dd_X8_find_93 : decode X8_find.2.1 93 = .ok (.ireturn, 1) := by decide +kernel
theorem dd_X8_strike_0 : decode X8_strike.2.1 0 = .ok (.aload_n 0, 1) := by decide +kernel
theorem dd_X8_strike_1 : decode X8_strike.2.1 1 = .ok (.iload_n 1, 1) := by decide +kernel
theorem dd_X8_strike_2 : decode X8_strike.2.1 2 = .ok (.invokevirtual 112, 3) := by decide +kernel
theorem dd_X8_strike_5 : decode X8_strike.2.1 5 = .ok (.astore_n 3, 1) := by decide +kernel
theorem dd_X8_strike_6 : decode X8_strike.2.1 6 = .ok (.aload_n 3, 1) := by decide +kernel
theorem dd_X8_strike_7 : decode X8_strike.2.1 7 = .ok (.ifnonnull 6, 3) := by decide +kernel
theorem dd_X8_strike_10 : decode X8_strike.2.1 10 = .ok (.bipush (-2), 2) := by decide +kernel
theorem dd_X8_strike_12 : decode X8_strike.2.1 12 = .ok (.ireturn, 1) := by decide +kernel
theorem dd_X8_strike_13 : decode X8_strike.2.1 13 = .ok (.iload_n 2, 1) := by decide +kernel
theorem dd_X8_strike_14 : decode X8_strike.2.1 14 = .ok (.invokestatic 249, 3) := by decide +kernel
theorem dd_X8_strike_17 : decode X8_strike.2.1 17 = .ok (.ifCond .ne 6, 3) := by decide +kernel
theorem dd_X8_strike_20 : decode X8_strike.2.1 20 = .ok (.bipush (-3), 2) := by decide +kernel
theorem dd_X8_strike_22 : decode X8_strike.2.1 22 = .ok (.ireturn, 1) := by decide +kernel
theorem dd_X8_strike_23 : decode X8_strike.2.1 23 = .ok (.aload_n 3, 1) := by decide +kernel
theorem dd_X8_strike_24 : decode X8_strike.2.1 24 = .ok (.getfield 252, 3) := by decide +kernel
theorem dd_X8_strike_27 : decode X8_strike.2.1 27 = .ok (.ifCond .ne 6, 3) := by decide +kernel
theorem dd_X8_strike_30 : decode X8_strike.2.1 30 = .ok (.bipush (-11), 2) := by decide +kernel
theorem dd_X8_strike_32 : decode X8_strike.2.1 32 = .ok (.ireturn, 1) := by decide +kernel
theorem dd_X8_strike_33 : decode X8_strike.2.1 33 = .ok (.aload_n 3, 1) := by decide +kernel
theorem dd_X8_strike_34 : decode X8_strike.2.1 34 = .ok (.iload_n 2, 1) := by decide +kernel
theorem dd_X8_strike_35 : decode X8_strike.2.1 35 = .ok (.invokevirtual 278, 3) := by decide +kernel
theorem dd_X8_strike_38 : decode X8_strike.2.1 38 = .ok (.ireturn, 1) := by decide +kernel
theorem dd_X8_load_0 : decode X8_load.2.1 0 = .ok (.aload_n 0, 1) := by decide +kernel
theorem dd_X8_load_1 : decode X8_load.2.1 1 = .ok (.iload_n 1, 1) := by decide +kernel
theorem dd_X8_load_2 : decode X8_load.2.1 2 = .ok (.invokevirtual 112, 3) := by decide +kernel
theorem dd_X8_load_5 : decode X8_load.2.1 5 = .ok (.astore 4, 2) := by decide +kernel
theorem dd_X8_load_7 : decode X8_load.2.1 7 = .ok (.aload 4, 2) := by decide +kernel
theorem dd_X8_load_9 : decode X8_load.2.1 9 = .ok (.ifnull 14, 3) := by decide +kernel
theorem dd_X8_load_12 : decode X8_load.2.1 12 = .ok (.aload_n 0, 1) := by decide +kernel
theorem dd_X8_load_13 : decode X8_load.2.1 13 = .ok (.getfield 19, 3) := by decide +kernel
theorem dd_X8_load_16 : decode X8_load.2.1 16 = .ok (.iload_n 2, 1) := by decide +kernel
theorem dd_X8_load_17 : decode X8_load.2.1 17 = .ok (.invokevirtual 119, 3) := by decide +kernel
theorem dd_X8_load_20 : decode X8_load.2.1 20 = .ok (.ifCond .ne 6, 3) := by decide +kernel
theorem dd_X8_load_23 : decode X8_load.2.1 23 = .ok (.bipush (-2), 2) := by decide +kernel
theorem dd_X8_load_25 : decode X8_load.2.1 25 = .ok (.ireturn, 1) := by decide +kernel
theorem dd_X8_load_26 : decode X8_load.2.1 26 = .ok (.iload_n 3, 1) := by decide +kernel
theorem dd_X8_load_27 : decode X8_load.2.1 27 = .ok (.ifCond .lt 14, 3) := by decide +kernel
theorem dd_X8_load_30 : decode X8_load.2.1 30 = .ok (.iload_n 3, 1) := by decide +kernel
theorem dd_X8_load_31 : decode X8_load.2.1 31 = .ok (.aload_n 0, 1) := by decide +kernel
theorem dd_X8_load_32 : decode X8_load.2.1 32 = .ok (.getfield 19, 3) := by decide +kernel
theorem dd_X8_load_35 : decode X8_load.2.1 35 = .ok (.getfield 201, 3) := by decide +kernel
theorem dd_X8_load_38 : decode X8_load.2.1 38 = .ok (.if_icmp .lt 6, 3) := by decide +kernel
theorem dd_X8_load_41 : decode X8_load.2.1 41 = .ok (.bipush (-3), 2) := by decide +kernel
theorem dd_X8_load_43 : decode X8_load.2.1 43 = .ok (.ireturn, 1) := by decide +kernel
theorem dd_X8_load_44 : decode X8_load.2.1 44 = .ok (.aload 4, 2) := by decide +kernel
theorem dd_X8_load_46 : decode X8_load.2.1 46 = .ok (.getfield 252, 3) := by decide +kernel
theorem dd_X8_load_49 : decode X8_load.2.1 49 = .ok (.ifCond .ne 6, 3) := by decide +kernel
theorem dd_X8_load_52 : decode X8_load.2.1 52 = .ok (.bipush (-11), 2) := by decide +kernel
theorem dd_X8_load_54 : decode X8_load.2.1 54 = .ok (.ireturn, 1) := by decide +kernel
theorem dd_X8_load_55 : decode X8_load.2.1 55 = .ok (.aload 4, 2) := by decide +kernel
theorem dd_X8_load_57 : decode X8_load.2.1 57 = .ok (.getfield 255, 3) := by decide +kernel
theorem dd_X8_load_60 : decode X8_load.2.1 60 = .ok (.aload_n 0, 1) := by decide +kernel
theorem dd_X8_load_61 : decode X8_load.2.1 61 = .ok (.getfield 19, 3) := by decide +kernel
theorem dd_X8_load_64 : decode X8_load.2.1 64 = .ok (.getfield 201, 3) := by decide +kernel
theorem dd_X8_load_67 : decode X8_load.2.1 67 = .ok (.iadd, 1) := by decide +kernel
theorem dd_X8_load_68 : decode X8_load.2.1 68 = .ok (.bipush 12, 2) := by decide +kernel
theorem dd_X8_load_70 : decode X8_load.2.1 70 = .ok (.if_icmp .le 6, 3) := by decide +kernel
theorem dd_X8_load_73 : decode X8_load.2.1 73 = .ok (.bipush (-13), 2) := by decide +kernel
theorem dd_X8_load_75 : decode X8_load.2.1 75 = .ok (.ireturn, 1) := by decide +kernel
theorem dd_X8_load_76 : decode X8_load.2.1 76 = .ok (.aload_n 0, 1) := by decide +kernel
theorem dd_X8_load_77 : decode X8_load.2.1 77 = .ok (.getfield 19, 3) := by decide +kernel
theorem dd_X8_load_80 : decode X8_load.2.1 80 = .ok (.iload_n 2, 1) := by decide +kernel
theorem dd_X8_load_81 : decode X8_load.2.1 81 = .ok (.iload_n 3, 1) := by decide +kernel
theorem dd_X8_load_82 : decode X8_load.2.1 82 = .ok (.invokevirtual 131, 3) := by decide +kernel
theorem dd_X8_load_85 : decode X8_load.2.1 85 = .ok (.istore 5, 2) := by decide +kernel
theorem dd_X8_load_87 : decode X8_load.2.1 87 = .ok (.aload_n 0, 1) := by decide +kernel
theorem dd_X8_load_88 : decode X8_load.2.1 88 = .ok (.getfield 19, 3) := by decide +kernel
theorem dd_X8_load_91 : decode X8_load.2.1 91 = .ok (.getfield 201, 3) := by decide +kernel
theorem dd_X8_load_94 : decode X8_load.2.1 94 = .ok (.iconst 1, 1) := by decide +kernel
theorem dd_X8_load_95 : decode X8_load.2.1 95 = .ok (.isub, 1) := by decide +kernel
theorem dd_X8_load_96 : decode X8_load.2.1 96 = .ok (.istore 6, 2) := by decide +kernel
theorem dd_X8_load_98 : decode X8_load.2.1 98 = .ok (.iload 6, 2) := by decide +kernel
theorem dd_X8_load_100 : decode X8_load.2.1 100 = .ok (.ifCond .lt 21, 3) := by decide +kernel
theorem dd_X8_load_103 : decode X8_load.2.1 103 = .ok (.aload 4, 2) := by decide +kernel
theorem dd_X8_load_105 : decode X8_load.2.1 105 = .ok (.iload 5, 2) := by decide +kernel
theorem dd_X8_load_107 : decode X8_load.2.1 107 = .ok (.iload 6, 2) := by decide +kernel
theorem dd_X8_load_109 : decode X8_load.2.1 109 = .ok (.ishr, 1) := by decide +kernel
theorem dd_X8_load_110 : decode X8_load.2.1 110 = .ok (.iconst 1, 1) := by decide +kernel
theorem dd_X8_load_111 : decode X8_load.2.1 111 = .ok (.iand, 1) := by decide +kernel
theorem dd_X8_load_112 : decode X8_load.2.1 112 = .ok (.invokevirtual 259, 3) := by decide +kernel
theorem dd_X8_load_115 : decode X8_load.2.1 115 = .ok (.iinc 6 (-1), 3) := by decide +kernel
theorem dd_X8_load_118 : decode X8_load.2.1 118 = .ok (.goto (-20), 3) := by decide +kernel
theorem dd_X8_load_121 : decode X8_load.2.1 121 = .ok (.aload 4, 2) := by decide +kernel
theorem dd_X8_load_123 : decode X8_load.2.1 123 = .ok (.getfield 255, 3) := by decide +kernel
theorem dd_X8_load_126 : decode X8_load.2.1 126 = .ok (.ireturn, 1) := by decide +kernel
theorem dd_X8_drop_0 : decode X8_drop.2.1 0 = .ok (.aload_n 0, 1) := by decide +kernel
theorem dd_X8_drop_1 : decode X8_drop.2.1 1 = .ok (.iload_n 1, 1) := by decide +kernel
theorem dd_X8_drop_2 : decode X8_drop.2.1 2 = .ok (.invokevirtual 112, 3) := by decide +kernel
theorem dd_X8_drop_5 : decode X8_drop.2.1 5 = .ok (.astore_n 2, 1) := by decide +kernel
theorem dd_X8_drop_6 : decode X8_drop.2.1 6 = .ok (.aload_n 2, 1) := by decide +kernel
theorem dd_X8_drop_7 : decode X8_drop.2.1 7 = .ok (.ifnonnull 6, 3) := by decide +kernel
theorem dd_X8_drop_10 : decode X8_drop.2.1 10 = .ok (.bipush (-2), 2) := by decide +kernel
theorem dd_X8_drop_12 : decode X8_drop.2.1 12 = .ok (.ireturn, 1) := by decide +kernel
theorem dd_X8_drop_13 : decode X8_drop.2.1 13 = .ok (.aload_n 2, 1) := by decide +kernel
theorem dd_X8_drop_14 : decode X8_drop.2.1 14 = .ok (.getfield 252, 3) := by decide +kernel
theorem dd_X8_drop_17 : decode X8_drop.2.1 17 = .ok (.ifCond .ne 6, 3) := by decide +kernel
theorem dd_X8_drop_20 : decode X8_drop.2.1 20 = .ok (.bipush (-11), 2) := by decide +kernel
theorem dd_X8_drop_22 : decode X8_drop.2.1 22 = .ok (.ireturn, 1) := by decide +kernel
theorem dd_X8_drop_23 : decode X8_drop.2.1 23 = .ok (.aload_n 2, 1) := by decide +kernel
theorem dd_X8_drop_24 : decode X8_drop.2.1 24 = .ok (.getfield 255, 3) := by decide +kernel
theorem dd_X8_drop_27 : decode X8_drop.2.1 27 = .ok (.istore_n 3, 1) := by decide +kernel
theorem dd_X8_drop_28 : decode X8_drop.2.1 28 = .ok (.aload_n 2, 1) := by decide +kernel
theorem dd_X8_drop_29 : decode X8_drop.2.1 29 = .ok (.invokevirtual 116, 3) := by decide +kernel
theorem dd_X8_drop_32 : decode X8_drop.2.1 32 = .ok (.iload_n 3, 1) := by decide +kernel
theorem dd_X8_drop_33 : decode X8_drop.2.1 33 = .ok (.ireturn, 1) := by decide +kernel
theorem dd_X8_count_0 : decode X8_count.2.1 0 = .ok (.iload_n 1, 1) := by decide +kernel
theorem dd_X8_count_1 : decode X8_count.2.1 1 = .ok (.tableswitch 141 0 10 #[59, 67, 75, 83, 91, 99, 107, 112, 120, 125, 133], 59) := by decide +kernel
theorem dd_X8_count_60 : decode X8_count.2.1 60 = .ok (.aload_n 0, 1) := by decide +kernel
theorem dd_X8_count_61 : decode X8_count.2.1 61 = .ok (.getfield 19, 3) := by decide +kernel
theorem dd_X8_count_64 : decode X8_count.2.1 64 = .ok (.getfield 201, 3) := by decide +kernel
theorem dd_X8_count_67 : decode X8_count.2.1 67 = .ok (.ireturn, 1) := by decide +kernel
theorem dd_X8_count_68 : decode X8_count.2.1 68 = .ok (.aload_n 0, 1) := by decide +kernel
theorem dd_X8_count_69 : decode X8_count.2.1 69 = .ok (.getfield 19, 3) := by decide +kernel
theorem dd_X8_count_72 : decode X8_count.2.1 72 = .ok (.getfield 281, 3) := by decide +kernel
theorem dd_X8_count_75 : decode X8_count.2.1 75 = .ok (.ireturn, 1) := by decide +kernel
theorem dd_X8_count_76 : decode X8_count.2.1 76 = .ok (.aload_n 0, 1) := by decide +kernel
theorem dd_X8_count_77 : decode X8_count.2.1 77 = .ok (.getfield 19, 3) := by decide +kernel
theorem dd_X8_count_80 : decode X8_count.2.1 80 = .ok (.getfield 152, 3) := by decide +kernel
theorem dd_X8_count_83 : decode X8_count.2.1 83 = .ok (.ireturn, 1) := by decide +kernel
theorem dd_X8_count_84 : decode X8_count.2.1 84 = .ok (.aload_n 0, 1) := by decide +kernel
theorem dd_X8_count_85 : decode X8_count.2.1 85 = .ok (.getfield 19, 3) := by decide +kernel
theorem dd_X8_count_88 : decode X8_count.2.1 88 = .ok (.getfield 284, 3) := by decide +kernel
theorem dd_X8_count_91 : decode X8_count.2.1 91 = .ok (.ireturn, 1) := by decide +kernel
theorem dd_X8_count_92 : decode X8_count.2.1 92 = .ok (.aload_n 0, 1) := by decide +kernel
theorem dd_X8_count_93 : decode X8_count.2.1 93 = .ok (.getfield 29, 3) := by decide +kernel
theorem dd_X8_count_96 : decode X8_count.2.1 96 = .ok (.getfield 161, 3) := by decide +kernel
theorem dd_X8_count_99 : decode X8_count.2.1 99 = .ok (.ireturn, 1) := by decide +kernel
theorem dd_X8_count_100 : decode X8_count.2.1 100 = .ok (.aload_n 0, 1) := by decide +kernel
theorem dd_X8_count_101 : decode X8_count.2.1 101 = .ok (.getfield 29, 3) := by decide +kernel
theorem dd_X8_count_104 : decode X8_count.2.1 104 = .ok (.invokevirtual 183, 3) := by decide +kernel
theorem dd_X8_count_107 : decode X8_count.2.1 107 = .ok (.ireturn, 1) := by decide +kernel
theorem dd_X8_count_108 : decode X8_count.2.1 108 = .ok (.aload_n 0, 1) := by decide +kernel
theorem dd_X8_count_109 : decode X8_count.2.1 109 = .ok (.invokevirtual 285, 3) := by decide +kernel
theorem dd_X8_count_112 : decode X8_count.2.1 112 = .ok (.ireturn, 1) := by decide +kernel
theorem dd_X8_count_113 : decode X8_count.2.1 113 = .ok (.aload_n 0, 1) := by decide +kernel
theorem dd_X8_count_114 : decode X8_count.2.1 114 = .ok (.getfield 63, 3) := by decide +kernel
theorem dd_X8_count_117 : decode X8_count.2.1 117 = .ok (.invokevirtual 226, 3) := by decide +kernel
theorem dd_X8_count_120 : decode X8_count.2.1 120 = .ok (.ireturn, 1) := by decide +kernel
theorem dd_X8_count_121 : decode X8_count.2.1 121 = .ok (.aload_n 0, 1) := by decide +kernel
theorem dd_X8_count_122 : decode X8_count.2.1 122 = .ok (.invokevirtual 288, 3) := by decide +kernel
theorem dd_X8_count_125 : decode X8_count.2.1 125 = .ok (.ireturn, 1) := by decide +kernel
theorem dd_X8_count_126 : decode X8_count.2.1 126 = .ok (.aload_n 0, 1) := by decide +kernel
theorem dd_X8_count_127 : decode X8_count.2.1 127 = .ok (.getfield 36, 3) := by decide +kernel
theorem dd_X8_count_130 : decode X8_count.2.1 130 = .ok (.getfield 105, 3) := by decide +kernel
theorem dd_X8_count_133 : decode X8_count.2.1 133 = .ok (.ireturn, 1) := by decide +kernel
theorem dd_X8_count_134 : decode X8_count.2.1 134 = .ok (.aload_n 0, 1) := by decide +kernel
theorem dd_X8_count_135 : decode X8_count.2.1 135 = .ok (.getfield 12, 3) := by decide +kernel
theorem dd_X8_count_138 : decode X8_count.2.1 138 = .ok (.getfield 74, 3) := by decide +kernel
theorem dd_X8_count_141 : decode X8_count.2.1 141 = .ok (.ireturn, 1) := by decide +kernel
theorem dd_X8_count_142 : decode X8_count.2.1 142 = .ok (.bipush (-3), 2) := by decide +kernel
theorem dd_X8_count_144 : decode X8_count.2.1 144 = .ok (.ireturn, 1) := by decide +kernel
theorem dd_X8_clashes_0 : decode X8_clashes.2.1 0 = .ok (.iconst 0, 1) := by decide +kernel
theorem dd_X8_clashes_1 : decode X8_clashes.2.1 1 = .ok (.istore_n 1, 1) := by decide +kernel
theorem dd_X8_clashes_2 : decode X8_clashes.2.1 2 = .ok (.iconst 0, 1) := by decide +kernel
theorem dd_X8_clashes_3 : decode X8_clashes.2.1 3 = .ok (.istore_n 2, 1) := by decide +kernel
theorem dd_X8_clashes_4 : decode X8_clashes.2.1 4 = .ok (.iload_n 2, 1) := by decide +kernel
theorem dd_X8_clashes_5 : decode X8_clashes.2.1 5 = .ok (.aload_n 0, 1) := by decide +kernel
theorem dd_X8_clashes_6 : decode X8_clashes.2.1 6 = .ok (.getfield 29, 3) := by decide +kernel
theorem dd_X8_clashes_9 : decode X8_clashes.2.1 9 = .ok (.getfield 161, 3) := by decide +kernel
theorem dd_X8_clashes_12 : decode X8_clashes.2.1 12 = .ok (.if_icmp .ge 20, 3) := by decide +kernel
theorem dd_X8_clashes_15 : decode X8_clashes.2.1 15 = .ok (.iload_n 1, 1) := by decide +kernel
theorem dd_X8_clashes_16 : decode X8_clashes.2.1 16 = .ok (.aload_n 0, 1) := by decide +kernel
theorem dd_X8_clashes_17 : decode X8_clashes.2.1 17 = .ok (.iload_n 2, 1) := by decide +kernel
theorem dd_X8_clashes_18 : decode X8_clashes.2.1 18 = .ok (.invokevirtual 158, 3) := by decide +kernel
theorem dd_X8_clashes_21 : decode X8_clashes.2.1 21 = .ok (.invokestatic 138, 3) := by decide +kernel
theorem dd_X8_clashes_24 : decode X8_clashes.2.1 24 = .ok (.iadd, 1) := by decide +kernel
theorem dd_X8_clashes_25 : decode X8_clashes.2.1 25 = .ok (.istore_n 1, 1) := by decide +kernel
theorem dd_X8_clashes_26 : decode X8_clashes.2.1 26 = .ok (.iinc 2 1, 3) := by decide +kernel
theorem dd_X8_clashes_29 : decode X8_clashes.2.1 29 = .ok (.goto (-25), 3) := by decide +kernel
theorem dd_X8_clashes_32 : decode X8_clashes.2.1 32 = .ok (.iload_n 1, 1) := by decide +kernel
theorem dd_X8_clashes_33 : decode X8_clashes.2.1 33 = .ok (.iconst 1, 1) := by decide +kernel
theorem dd_X8_clashes_34 : decode X8_clashes.2.1 34 = .ok (.ishr, 1) := by decide +kernel
theorem dd_X8_clashes_35 : decode X8_clashes.2.1 35 = .ok (.ireturn, 1) := by decide +kernel
theorem dd_X8_numbersOnTapes_0 : decode X8_numbersOnTapes.2.1 0 = .ok (.iconst 0, 1) := by decide +kernel
theorem dd_X8_numbersOnTapes_1 : decode X8_numbersOnTapes.2.1 1 = .ok (.istore_n 1, 1) := by decide +kernel
theorem dd_X8_numbersOnTapes_2 : decode X8_numbersOnTapes.2.1 2 = .ok (.iconst 0, 1) := by decide +kernel
theorem dd_X8_numbersOnTapes_3 : decode X8_numbersOnTapes.2.1 3 = .ok (.istore_n 2, 1) := by decide +kernel
theorem dd_X8_numbersOnTapes_4 : decode X8_numbersOnTapes.2.1 4 = .ok (.iload_n 2, 1) := by decide +kernel
theorem dd_X8_numbersOnTapes_5 : decode X8_numbersOnTapes.2.1 5 = .ok (.iconst 3, 1) := by decide +kernel
theorem dd_X8_numbersOnTapes_6 : decode X8_numbersOnTapes.2.1 6 = .ok (.if_icmp .ge 26, 3) := by decide +kernel
theorem dd_X8_numbersOnTapes_9 : decode X8_numbersOnTapes.2.1 9 = .ok (.aload_n 0, 1) := by decide +kernel
theorem dd_X8_numbersOnTapes_10 : decode X8_numbersOnTapes.2.1 10 = .ok (.iload_n 2, 1) := by decide +kernel
theorem dd_X8_numbersOnTapes_11 : decode X8_numbersOnTapes.2.1 11 = .ok (.invokevirtual 112, 3) := by decide +kernel
theorem dd_X8_numbersOnTapes_14 : decode X8_numbersOnTapes.2.1 14 = .ok (.astore_n 3, 1) := by decide +kernel
theorem dd_X8_numbersOnTapes_15 : decode X8_numbersOnTapes.2.1 15 = .ok (.aload_n 3, 1) := by decide +kernel
theorem dd_X8_numbersOnTapes_16 : decode X8_numbersOnTapes.2.1 16 = .ok (.ifnull 10, 3) := by decide +kernel
theorem dd_X8_numbersOnTapes_19 : decode X8_numbersOnTapes.2.1 19 = .ok (.iload_n 1, 1) := by decide +kernel
theorem dd_X8_numbersOnTapes_20 : decode X8_numbersOnTapes.2.1 20 = .ok (.aload_n 3, 1) := by decide +kernel
theorem dd_X8_numbersOnTapes_21 : decode X8_numbersOnTapes.2.1 21 = .ok (.getfield 255, 3) := by decide +kernel
theorem dd_X8_numbersOnTapes_24 : decode X8_numbersOnTapes.2.1 24 = .ok (.iadd, 1) := by decide +kernel
theorem dd_X8_numbersOnTapes_25 : decode X8_numbersOnTapes.2.1 25 = .ok (.istore_n 1, 1) := by decide +kernel
theorem dd_X8_numbersOnTapes_26 : decode X8_numbersOnTapes.2.1 26 = .ok (.iinc 2 1, 3) := by decide +kernel
theorem dd_X8_numbersOnTapes_29 : decode X8_numbersOnTapes.2.1 29 = .ok (.goto (-25), 3) := by decide +kernel
theorem dd_X8_numbersOnTapes_32 : decode X8_numbersOnTapes.2.1 32 = .ok (.iload_n 1, 1) := by decide +kernel
theorem dd_X8_numbersOnTapes_33 : decode X8_numbersOnTapes.2.1 33 = .ok (.ireturn, 1) := by decide +kernel
theorem dd_X8_tapeAt_0 : decode X8_tapeAt.2.1 0 = .ok (.iload_n 1, 1) := by decide +kernel
theorem dd_X8_tapeAt_1 : decode X8_tapeAt.2.1 1 = .ok (.ifCond .lt 8, 3) := by decide +kernel
theorem dd_X8_tapeAt_4 : decode X8_tapeAt.2.1 4 = .ok (.iload_n 1, 1) := by decide +kernel
theorem dd_X8_tapeAt_5 : decode X8_tapeAt.2.1 5 = .ok (.iconst 3, 1) := by decide +kernel
theorem dd_X8_tapeAt_6 : decode X8_tapeAt.2.1 6 = .ok (.if_icmp .lt 7, 3) := by decide +kernel
theorem dd_X8_tapeAt_9 : decode X8_tapeAt.2.1 9 = .ok (.aconst_null, 1) := by decide +kernel
theorem dd_X8_tapeAt_10 : decode X8_tapeAt.2.1 10 = .ok (.goto 9, 3) := by decide +kernel
theorem dd_X8_tapeAt_13 : decode X8_tapeAt.2.1 13 = .ok (.aload_n 0, 1) := by decide +kernel
theorem dd_X8_tapeAt_14 : decode X8_tapeAt.2.1 14 = .ok (.getfield 69, 3) := by decide +kernel
theorem dd_X8_tapeAt_17 : decode X8_tapeAt.2.1 17 = .ok (.iload_n 1, 1) := by decide +kernel
theorem dd_X8_tapeAt_18 : decode X8_tapeAt.2.1 18 = .ok (.aaload, 1) := by decide +kernel
theorem dd_X8_tapeAt_19 : decode X8_tapeAt.2.1 19 = .ok (.areturn, 1) := by decide +kernel
theorem dd_X8_isPlace_0 : decode X8_isPlace.2.1 0 = .ok (.iload_n 0, 1) := by decide +kernel
theorem dd_X8_isPlace_1 : decode X8_isPlace.2.1 1 = .ok (.ifCond .lt 13, 3) := by decide +kernel
theorem dd_X8_isPlace_4 : decode X8_isPlace.2.1 4 = .ok (.iload_n 0, 1) := by decide +kernel
theorem dd_X8_isPlace_5 : decode X8_isPlace.2.1 5 = .ok (.bipush 99, 2) := by decide +kernel
theorem dd_X8_isPlace_7 : decode X8_isPlace.2.1 7 = .ok (.if_icmp .gt 7, 3) := by decide +kernel
theorem dd_X8_isPlace_10 : decode X8_isPlace.2.1 10 = .ok (.iconst 1, 1) := by decide +kernel
theorem dd_X8_isPlace_11 : decode X8_isPlace.2.1 11 = .ok (.goto 4, 3) := by decide +kernel
theorem dd_X8_isPlace_14 : decode X8_isPlace.2.1 14 = .ok (.iconst 0, 1) := by decide +kernel
theorem dd_X8_isPlace_15 : decode X8_isPlace.2.1 15 = .ok (.ireturn, 1) := by decide +kernel
theorem dd_X8_isEnd_0 : decode X8_isEnd.2.1 0 = .ok (.iload_n 0, 1) := by decide +kernel
theorem dd_X8_isEnd_1 : decode X8_isEnd.2.1 1 = .ok (.ifCond .eq 8, 3) := by decide +kernel
theorem dd_X8_isEnd_4 : decode X8_isEnd.2.1 4 = .ok (.iload_n 0, 1) := by decide +kernel
theorem dd_X8_isEnd_5 : decode X8_isEnd.2.1 5 = .ok (.iconst 1, 1) := by decide +kernel
theorem dd_X8_isEnd_6 : decode X8_isEnd.2.1 6 = .ok (.if_icmp .ne 7, 3) := by decide +kernel
theorem dd_X8_isEnd_9 : decode X8_isEnd.2.1 9 = .ok (.iconst 1, 1) := by decide +kernel
theorem dd_X8_isEnd_10 : decode X8_isEnd.2.1 10 = .ok (.goto 4, 3) := by decide +kernel
theorem dd_X8_isEnd_13 : decode X8_isEnd.2.1 13 = .ok (.iconst 0, 1) := by decide +kernel
theorem dd_X8_isEnd_14 : decode X8_isEnd.2.1 14 = .ok (.ireturn, 1) := by decide +kernel
theorem dd_X8_isNumber_0 : decode X8_isNumber.2.1 0 = .ok (.iload_n 0, 1) := by decide +kernel
theorem dd_X8_isNumber_1 : decode X8_isNumber.2.1 1 = .ok (.sipush (-9999), 3) := by decide +kernel
theorem dd_X8_isNumber_4 : decode X8_isNumber.2.1 4 = .ok (.if_icmp .lt 14, 3) := by decide +kernel
theorem dd_X8_isNumber_7 : decode X8_isNumber.2.1 7 = .ok (.iload_n 0, 1) := by decide +kernel
theorem dd_X8_isNumber_8 : decode X8_isNumber.2.1 8 = .ok (.sipush 9999, 3) := by decide +kernel
theorem dd_X8_isNumber_11 : decode X8_isNumber.2.1 11 = .ok (.if_icmp .gt 7, 3) := by decide +kernel
theorem dd_X8_isNumber_14 : decode X8_isNumber.2.1 14 = .ok (.iconst 1, 1) := by decide +kernel
theorem dd_X8_isNumber_15 : decode X8_isNumber.2.1 15 = .ok (.goto 4, 3) := by decide +kernel
theorem dd_X8_isNumber_18 : decode X8_isNumber.2.1 18 = .ok (.iconst 0, 1) := by decide +kernel
theorem dd_X8_isNumber_19 : decode X8_isNumber.2.1 19 = .ok (.ireturn, 1) := by decide +kernel
theorem dd_X8_lightsIn_0 : decode X8_lightsIn.2.1 0 = .ok (.ldc2_w 291, 3) := by decide +kernel
theorem dd_X8_lightsIn_3 : decode X8_lightsIn.2.1 3 = .ok (.lstore_n 2, 1) := by decide +kernel
theorem dd_X8_lightsIn_4 : decode X8_lightsIn.2.1 4 = .ok (.iconst 0, 1) := by decide +kernel
theorem dd_X8_lightsIn_5 : decode X8_lightsIn.2.1 5 = .ok (.istore 4, 2) := by decide +kernel
theorem dd_X8_lightsIn_7 : decode X8_lightsIn.2.1 7 = .ok (.iconst 0, 1) := by decide +kernel
theorem dd_X8_lightsIn_8 : decode X8_lightsIn.2.1 8 = .ok (.istore 5, 2) := by decide +kernel
theorem dd_X8_lightsIn_10 : decode X8_lightsIn.2.1 10 = .ok (.iload 5, 2) := by decide +kernel
theorem dd_X8_lightsIn_12 : decode X8_lightsIn.2.1 12 = .ok (.bipush 6, 2) := by decide +kernel
theorem dd_X8_lightsIn_14 : decode X8_lightsIn.2.1 14 = .ok (.if_icmp .ge 32, 3) := by decide +kernel
theorem dd_X8_lightsIn_17 : decode X8_lightsIn.2.1 17 = .ok (.lload_n 0, 1) := by decide +kernel
theorem dd_X8_lightsIn_18 : decode X8_lightsIn.2.1 18 = .ok (.lload_n 2, 1) := by decide +kernel
theorem dd_X8_lightsIn_19 : decode X8_lightsIn.2.1 19 = .ok (.iload 5, 2) := by decide +kernel
theorem dd_X8_lightsIn_21 : decode X8_lightsIn.2.1 21 = .ok (.bipush 8, 2) := by decide +kernel
theorem dd_X8_lightsIn_23 : decode X8_lightsIn.2.1 23 = .ok (.imul, 1) := by decide +kernel
theorem dd_X8_lightsIn_24 : decode X8_lightsIn.2.1 24 = .ok (.lshl, 1) := by decide +kernel
theorem dd_X8_lightsIn_25 : decode X8_lightsIn.2.1 25 = .ok (.land, 1) := by decide +kernel
theorem dd_X8_lightsIn_26 : decode X8_lightsIn.2.1 26 = .ok (.lconst 0, 1) := by decide +kernel
theorem dd_X8_lightsIn_27 : decode X8_lightsIn.2.1 27 = .ok (.lcmp, 1) := by decide +kernel
theorem dd_X8_lightsIn_28 : decode X8_lightsIn.2.1 28 = .ok (.ifCond .eq 12, 3) := by decide +kernel
theorem dd_X8_lightsIn_31 : decode X8_lightsIn.2.1 31 = .ok (.iload 4, 2) := by decide +kernel
theorem dd_X8_lightsIn_33 : decode X8_lightsIn.2.1 33 = .ok (.iconst 1, 1) := by decide +kernel
theorem dd_X8_lightsIn_34 : decode X8_lightsIn.2.1 34 = .ok (.iload 5, 2) := by decide +kernel
theorem dd_X8_lightsIn_36 : decode X8_lightsIn.2.1 36 = .ok (.ishl, 1) := by decide +kernel
theorem dd_X8_lightsIn_37 : decode X8_lightsIn.2.1 37 = .ok (.ior, 1) := by decide +kernel
theorem dd_X8_lightsIn_38 : decode X8_lightsIn.2.1 38 = .ok (.istore 4, 2) := by decide +kernel
theorem dd_X8_lightsIn_40 : decode X8_lightsIn.2.1 40 = .ok (.iinc 5 1, 3) := by decide +kernel
theorem dd_X8_lightsIn_43 : decode X8_lightsIn.2.1 43 = .ok (.goto (-33), 3) := by decide +kernel
theorem dd_X8_lightsIn_46 : decode X8_lightsIn.2.1 46 = .ok (.iload 4, 2) := by decide +kernel
theorem dd_X8_lightsIn_48 : decode X8_lightsIn.2.1 48 = .ok (.ireturn, 1) := by decide +kernel
theorem dd_J6_bitCount_0f7a4_0 : decode J6_bitCount_0f7a4.2.1 0 = .ok (.iload_n 0, 1) := by decide +kernel
theorem dd_J6_bitCount_0f7a4_1 : decode J6_bitCount_0f7a4.2.1 1 = .ok (.iload_n 0, 1) := by decide +kernel
theorem dd_J6_bitCount_0f7a4_2 : decode J6_bitCount_0f7a4.2.1 2 = .ok (.iconst 1, 1) := by decide +kernel
theorem dd_J6_bitCount_0f7a4_3 : decode J6_bitCount_0f7a4.2.1 3 = .ok (.iushr, 1) := by decide +kernel
theorem dd_J6_bitCount_0f7a4_4 : decode J6_bitCount_0f7a4.2.1 4 = .ok (.ldc_w 265, 3) := by decide +kernel
theorem dd_J6_bitCount_0f7a4_7 : decode J6_bitCount_0f7a4.2.1 7 = .ok (.iand, 1) := by decide +kernel
theorem dd_J6_bitCount_0f7a4_8 : decode J6_bitCount_0f7a4.2.1 8 = .ok (.isub, 1) := by decide +kernel
theorem dd_J6_bitCount_0f7a4_9 : decode J6_bitCount_0f7a4.2.1 9 = .ok (.istore_n 0, 1) := by decide +kernel
theorem dd_J6_bitCount_0f7a4_10 : decode J6_bitCount_0f7a4.2.1 10 = .ok (.iload_n 0, 1) := by decide +kernel
theorem dd_J6_bitCount_0f7a4_11 : decode J6_bitCount_0f7a4.2.1 11 = .ok (.ldc_w 266, 3) := by decide +kernel
theorem dd_J6_bitCount_0f7a4_14 : decode J6_bitCount_0f7a4.2.1 14 = .ok (.iand, 1) := by decide +kernel
theorem dd_J6_bitCount_0f7a4_15 : decode J6_bitCount_0f7a4.2.1 15 = .ok (.iload_n 0, 1) := by decide +kernel
theorem dd_J6_bitCount_0f7a4_16 : decode J6_bitCount_0f7a4.2.1 16 = .ok (.iconst 2, 1) := by decide +kernel
theorem dd_J6_bitCount_0f7a4_17 : decode J6_bitCount_0f7a4.2.1 17 = .ok (.iushr, 1) := by decide +kernel
theorem dd_J6_bitCount_0f7a4_18 : decode J6_bitCount_0f7a4.2.1 18 = .ok (.ldc_w 266, 3) := by decide +kernel
theorem dd_J6_bitCount_0f7a4_21 : decode J6_bitCount_0f7a4.2.1 21 = .ok (.iand, 1) := by decide +kernel
theorem dd_J6_bitCount_0f7a4_22 : decode J6_bitCount_0f7a4.2.1 22 = .ok (.iadd, 1) := by decide +kernel
theorem dd_J6_bitCount_0f7a4_23 : decode J6_bitCount_0f7a4.2.1 23 = .ok (.istore_n 0, 1) := by decide +kernel
theorem dd_J6_bitCount_0f7a4_24 : decode J6_bitCount_0f7a4.2.1 24 = .ok (.iload_n 0, 1) := by decide +kernel
theorem dd_J6_bitCount_0f7a4_25 : decode J6_bitCount_0f7a4.2.1 25 = .ok (.iload_n 0, 1) := by decide +kernel
theorem dd_J6_bitCount_0f7a4_26 : decode J6_bitCount_0f7a4.2.1 26 = .ok (.iconst 4, 1) := by decide +kernel
theorem dd_J6_bitCount_0f7a4_27 : decode J6_bitCount_0f7a4.2.1 27 = .ok (.iushr, 1) := by decide +kernel
theorem dd_J6_bitCount_0f7a4_28 : decode J6_bitCount_0f7a4.2.1 28 = .ok (.iadd, 1) := by decide +kernel
theorem dd_J6_bitCount_0f7a4_29 : decode J6_bitCount_0f7a4.2.1 29 = .ok (.ldc_w 267, 3) := by decide +kernel
theorem dd_J6_bitCount_0f7a4_32 : decode J6_bitCount_0f7a4.2.1 32 = .ok (.iand, 1) := by decide +kernel
theorem dd_J6_bitCount_0f7a4_33 : decode J6_bitCount_0f7a4.2.1 33 = .ok (.istore_n 0, 1) := by decide +kernel
theorem dd_J6_bitCount_0f7a4_34 : decode J6_bitCount_0f7a4.2.1 34 = .ok (.iload_n 0, 1) := by decide +kernel
theorem dd_J6_bitCount_0f7a4_35 : decode J6_bitCount_0f7a4.2.1 35 = .ok (.iload_n 0, 1) := by decide +kernel
theorem dd_J6_bitCount_0f7a4_36 : decode J6_bitCount_0f7a4.2.1 36 = .ok (.bipush 8, 2) := by decide +kernel
theorem dd_J6_bitCount_0f7a4_38 : decode J6_bitCount_0f7a4.2.1 38 = .ok (.iushr, 1) := by decide +kernel
theorem dd_J6_bitCount_0f7a4_39 : decode J6_bitCount_0f7a4.2.1 39 = .ok (.iadd, 1) := by decide +kernel
theorem dd_J6_bitCount_0f7a4_40 : decode J6_bitCount_0f7a4.2.1 40 = .ok (.istore_n 0, 1) := by decide +kernel
theorem dd_J6_bitCount_0f7a4_41 : decode J6_bitCount_0f7a4.2.1 41 = .ok (.iload_n 0, 1) := by decide +kernel
theorem dd_J6_bitCount_0f7a4_42 : decode J6_bitCount_0f7a4.2.1 42 = .ok (.iload_n 0, 1) := by decide +kernel
theorem dd_J6_bitCount_0f7a4_43 : decode J6_bitCount_0f7a4.2.1 43 = .ok (.bipush 16, 2) := by decide +kernel
theorem dd_J6_bitCount_0f7a4_45 : decode J6_bitCount_0f7a4.2.1 45 = .ok (.iushr, 1) := by decide +kernel
theorem dd_J6_bitCount_0f7a4_46 : decode J6_bitCount_0f7a4.2.1 46 = .ok (.iadd, 1) := by decide +kernel
theorem dd_J6_bitCount_0f7a4_47 : decode J6_bitCount_0f7a4.2.1 47 = .ok (.istore_n 0, 1) := by decide +kernel
theorem dd_J6_bitCount_0f7a4_48 : decode J6_bitCount_0f7a4.2.1 48 = .ok (.iload_n 0, 1) := by decide +kernel
theorem dd_J6_bitCount_0f7a4_49 : decode J6_bitCount_0f7a4.2.1 49 = .ok (.bipush 63, 2) := by decide +kernel
theorem dd_J6_bitCount_0f7a4_51 : decode J6_bitCount_0f7a4.2.1 51 = .ok (.iand, 1) := by decide +kernel
theorem dd_J6_bitCount_0f7a4_52 : decode J6_bitCount_0f7a4.2.1 52 = .ok (.ireturn, 1) := by decide +kernel
theorem dd_J13_bitCount_95d88_0 : decode J13_bitCount_95d88.2.1 0 = .ok (.lload_n 0, 1) := by decide +kernel
theorem dd_J13_bitCount_95d88_1 : decode J13_bitCount_95d88.2.1 1 = .ok (.lload_n 0, 1) := by decide +kernel
theorem dd_J13_bitCount_95d88_2 : decode J13_bitCount_95d88.2.1 2 = .ok (.iconst 1, 1) := by decide +kernel
theorem dd_J13_bitCount_95d88_3 : decode J13_bitCount_95d88.2.1 3 = .ok (.lushr, 1) := by decide +kernel
theorem dd_J13_bitCount_95d88_4 : decode J13_bitCount_95d88.2.1 4 = .ok (.ldc2_w 314, 3) := by decide +kernel
theorem dd_J13_bitCount_95d88_7 : decode J13_bitCount_95d88.2.1 7 = .ok (.land, 1) := by decide +kernel
theorem dd_J13_bitCount_95d88_8 : decode J13_bitCount_95d88.2.1 8 = .ok (.lsub, 1) := by decide +kernel
theorem dd_J13_bitCount_95d88_9 : decode J13_bitCount_95d88.2.1 9 = .ok (.lstore_n 0, 1) := by decide +kernel
theorem dd_J13_bitCount_95d88_10 : decode J13_bitCount_95d88.2.1 10 = .ok (.lload_n 0, 1) := by decide +kernel
theorem dd_J13_bitCount_95d88_11 : decode J13_bitCount_95d88.2.1 11 = .ok (.ldc2_w 316, 3) := by decide +kernel
theorem dd_J13_bitCount_95d88_14 : decode J13_bitCount_95d88.2.1 14 = .ok (.land, 1) := by decide +kernel
theorem dd_J13_bitCount_95d88_15 : decode J13_bitCount_95d88.2.1 15 = .ok (.lload_n 0, 1) := by decide +kernel
theorem dd_J13_bitCount_95d88_16 : decode J13_bitCount_95d88.2.1 16 = .ok (.iconst 2, 1) := by decide +kernel
theorem dd_J13_bitCount_95d88_17 : decode J13_bitCount_95d88.2.1 17 = .ok (.lushr, 1) := by decide +kernel
theorem dd_J13_bitCount_95d88_18 : decode J13_bitCount_95d88.2.1 18 = .ok (.ldc2_w 316, 3) := by decide +kernel
theorem dd_J13_bitCount_95d88_21 : decode J13_bitCount_95d88.2.1 21 = .ok (.land, 1) := by decide +kernel
theorem dd_J13_bitCount_95d88_22 : decode J13_bitCount_95d88.2.1 22 = .ok (.ladd, 1) := by decide +kernel
theorem dd_J13_bitCount_95d88_23 : decode J13_bitCount_95d88.2.1 23 = .ok (.lstore_n 0, 1) := by decide +kernel
theorem dd_J13_bitCount_95d88_24 : decode J13_bitCount_95d88.2.1 24 = .ok (.lload_n 0, 1) := by decide +kernel
theorem dd_J13_bitCount_95d88_25 : decode J13_bitCount_95d88.2.1 25 = .ok (.lload_n 0, 1) := by decide +kernel
theorem dd_J13_bitCount_95d88_26 : decode J13_bitCount_95d88.2.1 26 = .ok (.iconst 4, 1) := by decide +kernel
theorem dd_J13_bitCount_95d88_27 : decode J13_bitCount_95d88.2.1 27 = .ok (.lushr, 1) := by decide +kernel
theorem dd_J13_bitCount_95d88_28 : decode J13_bitCount_95d88.2.1 28 = .ok (.ladd, 1) := by decide +kernel
theorem dd_J13_bitCount_95d88_29 : decode J13_bitCount_95d88.2.1 29 = .ok (.ldc2_w 318, 3) := by decide +kernel
theorem dd_J13_bitCount_95d88_32 : decode J13_bitCount_95d88.2.1 32 = .ok (.land, 1) := by decide +kernel
theorem dd_J13_bitCount_95d88_33 : decode J13_bitCount_95d88.2.1 33 = .ok (.lstore_n 0, 1) := by decide +kernel
theorem dd_J13_bitCount_95d88_34 : decode J13_bitCount_95d88.2.1 34 = .ok (.lload_n 0, 1) := by decide +kernel
theorem dd_J13_bitCount_95d88_35 : decode J13_bitCount_95d88.2.1 35 = .ok (.lload_n 0, 1) := by decide +kernel
theorem dd_J13_bitCount_95d88_36 : decode J13_bitCount_95d88.2.1 36 = .ok (.bipush 8, 2) := by decide +kernel
theorem dd_J13_bitCount_95d88_38 : decode J13_bitCount_95d88.2.1 38 = .ok (.lushr, 1) := by decide +kernel
theorem dd_J13_bitCount_95d88_39 : decode J13_bitCount_95d88.2.1 39 = .ok (.ladd, 1) := by decide +kernel
theorem dd_J13_bitCount_95d88_40 : decode J13_bitCount_95d88.2.1 40 = .ok (.lstore_n 0, 1) := by decide +kernel
theorem dd_J13_bitCount_95d88_41 : decode J13_bitCount_95d88.2.1 41 = .ok (.lload_n 0, 1) := by decide +kernel
theorem dd_J13_bitCount_95d88_42 : decode J13_bitCount_95d88.2.1 42 = .ok (.lload_n 0, 1) := by decide +kernel
theorem dd_J13_bitCount_95d88_43 : decode J13_bitCount_95d88.2.1 43 = .ok (.bipush 16, 2) := by decide +kernel
theorem dd_J13_bitCount_95d88_45 : decode J13_bitCount_95d88.2.1 45 = .ok (.lushr, 1) := by decide +kernel
theorem dd_J13_bitCount_95d88_46 : decode J13_bitCount_95d88.2.1 46 = .ok (.ladd, 1) := by decide +kernel
theorem dd_J13_bitCount_95d88_47 : decode J13_bitCount_95d88.2.1 47 = .ok (.lstore_n 0, 1) := by decide +kernel
theorem dd_J13_bitCount_95d88_48 : decode J13_bitCount_95d88.2.1 48 = .ok (.lload_n 0, 1) := by decide +kernel
theorem dd_J13_bitCount_95d88_49 : decode J13_bitCount_95d88.2.1 49 = .ok (.lload_n 0, 1) := by decide +kernel
theorem dd_J13_bitCount_95d88_50 : decode J13_bitCount_95d88.2.1 50 = .ok (.bipush 32, 2) := by decide +kernel
theorem dd_J13_bitCount_95d88_52 : decode J13_bitCount_95d88.2.1 52 = .ok (.lushr, 1) := by decide +kernel
theorem dd_J13_bitCount_95d88_53 : decode J13_bitCount_95d88.2.1 53 = .ok (.ladd, 1) := by decide +kernel
theorem dd_J13_bitCount_95d88_54 : decode J13_bitCount_95d88.2.1 54 = .ok (.lstore_n 0, 1) := by decide +kernel
theorem dd_J13_bitCount_95d88_55 : decode J13_bitCount_95d88.2.1 55 = .ok (.lload_n 0, 1) := by decide +kernel
theorem dd_J13_bitCount_95d88_56 : decode J13_bitCount_95d88.2.1 56 = .ok (.l2i, 1) := by decide +kernel
theorem dd_J13_bitCount_95d88_57 : decode J13_bitCount_95d88.2.1 57 = .ok (.bipush 127, 2) := by decide +kernel
theorem dd_J13_bitCount_95d88_59 : decode J13_bitCount_95d88.2.1 59 = .ok (.iand, 1) := by decide +kernel
theorem dd_J13_bitCount_95d88_60 : decode J13_bitCount_95d88.2.1 60 = .ok (.ireturn, 1) := by decide +kernel
end
section
/-! DECODE ROWS, by program. -/
theorem dd_X9_in_0 : decode X9_in.2.1 0 = .ok (.lload_n 0, 1) := by decide +kernel
theorem dd_X9_in_1 : decode X9_in.2.1 1 = .ok (.lload_n 2, 1) := by decide +kernel
theorem dd_X9_in_2 : decode X9_in.2.1 2 = .ok (.lcmp, 1) := by decide +kernel
theorem dd_X9_in_3 : decode X9_in.2.1 3 = .ok (.ifCond .lt 14, 3) := by decide +kernel
theorem dd_X9_in_6 : decode X9_in.2.1 6 = .ok (.lload_n 0, 1) := by decide +kernel
theorem dd_X9_in_7 : decode X9_in.2.1 7 = .ok (.lload 4, 2) := by decide +kernel
theorem dd_X9_in_9 : decode X9_in.2.1 9 = .ok (.lcmp, 1) := by decide +kernel
theorem dd_X9_in_10 : decode X9_in.2.1 10 = .ok (.ifCond .gt 7, 3) := by decide +kernel
theorem dd_X9_in_13 : decode X9_in.2.1 13 = .ok (.iconst 1, 1) := by decide +kernel
theorem dd_X9_in_14 : decode X9_in.2.1 14 = .ok (.goto 4, 3) := by decide +kernel
theorem dd_X9_in_17 : decode X9_in.2.1 17 = .ok (.iconst 0, 1) := by decide +kernel
theorem dd_X9_in_18 : decode X9_in.2.1 18 = .ok (.ireturn, 1) := by decide +kernel
theorem dd_X9_has_0 : decode X9_has.2.1 0 = .ok (.iload_n 0, 1) := by decide +kernel
theorem dd_X9_has_1 : decode X9_has.2.1 1 = .ok (.iload_n 1, 1) := by decide +kernel
theorem dd_X9_has_2 : decode X9_has.2.1 2 = .ok (.ishr, 1) := by decide +kernel
theorem dd_X9_has_3 : decode X9_has.2.1 3 = .ok (.iconst 1, 1) := by decide +kernel
theorem dd_X9_has_4 : decode X9_has.2.1 4 = .ok (.iand, 1) := by decide +kernel
theorem dd_X9_has_5 : decode X9_has.2.1 5 = .ok (.iconst 1, 1) := by decide +kernel
theorem dd_X9_has_6 : decode X9_has.2.1 6 = .ok (.if_icmp .ne 7, 3) := by decide +kernel
theorem dd_X9_has_9 : decode X9_has.2.1 9 = .ok (.iconst 1, 1) := by decide +kernel
theorem dd_X9_has_10 : decode X9_has.2.1 10 = .ok (.goto 4, 3) := by decide +kernel
theorem dd_X9_has_13 : decode X9_has.2.1 13 = .ok (.iconst 0, 1) := by decide +kernel
theorem dd_X9_has_14 : decode X9_has.2.1 14 = .ok (.ireturn, 1) := by decide +kernel
theorem dd_X9_ones_0 : decode X9_ones.2.1 0 = .ok (.iconst 0, 1) := by decide +kernel
theorem dd_X9_ones_1 : decode X9_ones.2.1 1 = .ok (.istore_n 1, 1) := by decide +kernel
theorem dd_X9_ones_2 : decode X9_ones.2.1 2 = .ok (.iconst 0, 1) := by decide +kernel
theorem dd_X9_ones_3 : decode X9_ones.2.1 3 = .ok (.istore_n 2, 1) := by decide +kernel
theorem dd_X9_ones_4 : decode X9_ones.2.1 4 = .ok (.iload_n 2, 1) := by decide +kernel
theorem dd_X9_ones_5 : decode X9_ones.2.1 5 = .ok (.bipush 8, 2) := by decide +kernel
theorem dd_X9_ones_7 : decode X9_ones.2.1 7 = .ok (.if_icmp .ge 17, 3) := by decide +kernel
theorem dd_X9_ones_10 : decode X9_ones.2.1 10 = .ok (.iload_n 1, 1) := by decide +kernel
theorem dd_X9_ones_11 : decode X9_ones.2.1 11 = .ok (.iload_n 0, 1) := by decide +kernel
theorem dd_X9_ones_12 : decode X9_ones.2.1 12 = .ok (.iload_n 2, 1) := by decide +kernel
theorem dd_X9_ones_13 : decode X9_ones.2.1 13 = .ok (.ishr, 1) := by decide +kernel
theorem dd_X9_ones_14 : decode X9_ones.2.1 14 = .ok (.iconst 1, 1) := by decide +kernel
theorem dd_X9_ones_15 : decode X9_ones.2.1 15 = .ok (.iand, 1) := by decide +kernel
theorem dd_X9_ones_16 : decode X9_ones.2.1 16 = .ok (.iadd, 1) := by decide +kernel
theorem dd_X9_ones_17 : decode X9_ones.2.1 17 = .ok (.istore_n 1, 1) := by decide +kernel
theorem dd_X9_ones_18 : decode X9_ones.2.1 18 = .ok (.iinc 2 1, 3) := by decide +kernel
theorem dd_X9_ones_21 : decode X9_ones.2.1 21 = .ok (.goto (-17), 3) := by decide +kernel
theorem dd_X9_ones_24 : decode X9_ones.2.1 24 = .ok (.iload_n 1, 1) := by decide +kernel
theorem dd_X9_ones_25 : decode X9_ones.2.1 25 = .ok (.ireturn, 1) := by decide +kernel
theorem dd_X9_copyRow_0 : decode X9_copyRow.2.1 0 = .ok (.iconst 0, 1) := by decide +kernel
theorem dd_X9_copyRow_1 : decode X9_copyRow.2.1 1 = .ok (.istore_n 3, 1) := by decide +kernel
theorem dd_X9_copyRow_2 : decode X9_copyRow.2.1 2 = .ok (.iload_n 3, 1) := by decide +kernel
theorem dd_X9_copyRow_3 : decode X9_copyRow.2.1 3 = .ok (.bipush 12, 2) := by decide +kernel
theorem dd_X9_copyRow_5 : decode X9_copyRow.2.1 5 = .ok (.if_icmp .ge 25, 3) := by decide +kernel
theorem dd_X9_copyRow_8 : decode X9_copyRow.2.1 8 = .ok (.aload_n 0, 1) := by decide +kernel
theorem dd_X9_copyRow_9 : decode X9_copyRow.2.1 9 = .ok (.getfield 7, 3) := by decide +kernel
theorem dd_X9_copyRow_12 : decode X9_copyRow.2.1 12 = .ok (.iload_n 2, 1) := by decide +kernel
theorem dd_X9_copyRow_13 : decode X9_copyRow.2.1 13 = .ok (.iload_n 3, 1) := by decide +kernel
theorem dd_X9_copyRow_14 : decode X9_copyRow.2.1 14 = .ok (.iadd, 1) := by decide +kernel
theorem dd_X9_copyRow_15 : decode X9_copyRow.2.1 15 = .ok (.aload_n 0, 1) := by decide +kernel
theorem dd_X9_copyRow_16 : decode X9_copyRow.2.1 16 = .ok (.getfield 7, 3) := by decide +kernel
theorem dd_X9_copyRow_19 : decode X9_copyRow.2.1 19 = .ok (.iload_n 1, 1) := by decide +kernel
theorem dd_X9_copyRow_20 : decode X9_copyRow.2.1 20 = .ok (.iload_n 3, 1) := by decide +kernel
theorem dd_X9_copyRow_21 : decode X9_copyRow.2.1 21 = .ok (.iadd, 1) := by decide +kernel
theorem dd_X9_copyRow_22 : decode X9_copyRow.2.1 22 = .ok (.iaload, 1) := by decide +kernel
theorem dd_X9_copyRow_23 : decode X9_copyRow.2.1 23 = .ok (.iastore, 1) := by decide +kernel
theorem dd_X9_copyRow_24 : decode X9_copyRow.2.1 24 = .ok (.iinc 3 1, 3) := by decide +kernel
theorem dd_X9_copyRow_27 : decode X9_copyRow.2.1 27 = .ok (.goto (-25), 3) := by decide +kernel
theorem dd_X9_copyRow_30 : decode X9_copyRow.2.1 30 = .ok (.return_, 1) := by decide +kernel
theorem dd_X9_anew_0 : decode X9_anew.2.1 0 = .ok (.aload_n 0, 1) := by decide +kernel
theorem dd_X9_anew_1 : decode X9_anew.2.1 1 = .ok (.iload_n 1, 1) := by decide +kernel
theorem dd_X9_anew_2 : decode X9_anew.2.1 2 = .ok (.putfield 86, 3) := by decide +kernel
theorem dd_X9_anew_5 : decode X9_anew.2.1 5 = .ok (.aload_n 0, 1) := by decide +kernel
theorem dd_X9_anew_6 : decode X9_anew.2.1 6 = .ok (.iconst 2, 1) := by decide +kernel
theorem dd_X9_anew_7 : decode X9_anew.2.1 7 = .ok (.putfield 90, 3) := by decide +kernel
theorem dd_X9_anew_10 : decode X9_anew.2.1 10 = .ok (.aload_n 0, 1) := by decide +kernel
theorem dd_X9_anew_11 : decode X9_anew.2.1 11 = .ok (.bipush 20, 2) := by decide +kernel
theorem dd_X9_anew_13 : decode X9_anew.2.1 13 = .ok (.putfield 93, 3) := by decide +kernel
theorem dd_X9_anew_16 : decode X9_anew.2.1 16 = .ok (.aload_n 0, 1) := by decide +kernel
theorem dd_X9_anew_17 : decode X9_anew.2.1 17 = .ok (.iconst 0, 1) := by decide +kernel
theorem dd_X9_anew_18 : decode X9_anew.2.1 18 = .ok (.putfield 96, 3) := by decide +kernel
theorem dd_X9_anew_21 : decode X9_anew.2.1 21 = .ok (.aload_n 0, 1) := by decide +kernel
theorem dd_X9_anew_22 : decode X9_anew.2.1 22 = .ok (.iconst 0, 1) := by decide +kernel
theorem dd_X9_anew_23 : decode X9_anew.2.1 23 = .ok (.putfield 99, 3) := by decide +kernel
theorem dd_X9_anew_26 : decode X9_anew.2.1 26 = .ok (.iconst 0, 1) := by decide +kernel
theorem dd_X9_anew_27 : decode X9_anew.2.1 27 = .ok (.istore_n 2, 1) := by decide +kernel
theorem dd_X9_anew_28 : decode X9_anew.2.1 28 = .ok (.iload_n 2, 1) := by decide +kernel
theorem dd_X9_anew_29 : decode X9_anew.2.1 29 = .ok (.bipush 6, 2) := by decide +kernel
theorem dd_X9_anew_31 : decode X9_anew.2.1 31 = .ok (.if_icmp .ge 28, 3) := by decide +kernel
theorem dd_X9_anew_34 : decode X9_anew.2.1 34 = .ok (.aload_n 0, 1) := by decide +kernel
theorem dd_X9_anew_35 : decode X9_anew.2.1 35 = .ok (.getfield 7, 3) := by decide +kernel
theorem dd_X9_anew_38 : decode X9_anew.2.1 38 = .ok (.iconst 0, 1) := by decide +kernel
theorem dd_X9_anew_39 : decode X9_anew.2.1 39 = .ok (.iload_n 2, 1) := by decide +kernel
theorem dd_X9_anew_40 : decode X9_anew.2.1 40 = .ok (.iadd, 1) := by decide +kernel
theorem dd_X9_anew_41 : decode X9_anew.2.1 41 = .ok (.iconst 0, 1) := by decide +kernel
theorem dd_X9_anew_42 : decode X9_anew.2.1 42 = .ok (.iastore, 1) := by decide +kernel
theorem dd_X9_anew_43 : decode X9_anew.2.1 43 = .ok (.aload_n 0, 1) := by decide +kernel
theorem dd_X9_anew_44 : decode X9_anew.2.1 44 = .ok (.getfield 7, 3) := by decide +kernel
theorem dd_X9_anew_47 : decode X9_anew.2.1 47 = .ok (.bipush 6, 2) := by decide +kernel
theorem dd_X9_anew_49 : decode X9_anew.2.1 49 = .ok (.iload_n 2, 1) := by decide +kernel
theorem dd_X9_anew_50 : decode X9_anew.2.1 50 = .ok (.iadd, 1) := by decide +kernel
theorem dd_X9_anew_51 : decode X9_anew.2.1 51 = .ok (.iconst (-1), 1) := by decide +kernel
theorem dd_X9_anew_52 : decode X9_anew.2.1 52 = .ok (.iastore, 1) := by decide +kernel
theorem dd_X9_anew_53 : decode X9_anew.2.1 53 = .ok (.iinc 2 1, 3) := by decide +kernel
theorem dd_X9_anew_56 : decode X9_anew.2.1 56 = .ok (.goto (-28), 3) := by decide +kernel
theorem dd_X9_anew_59 : decode X9_anew.2.1 59 = .ok (.return_, 1) := by decide +kernel
theorem dd_X9_write_0 : decode X9_write.2.1 0 = .ok (.iload_n 1, 1) := by decide +kernel
theorem dd_X9_write_1 : decode X9_write.2.1 1 = .ok (.i2l, 1) := by decide +kernel
theorem dd_X9_write_2 : decode X9_write.2.1 2 = .ok (.lconst 0, 1) := by decide +kernel
theorem dd_X9_write_3 : decode X9_write.2.1 3 = .ok (.ldc2_w 102, 3) := by decide +kernel
theorem dd_X9_write_6 : decode X9_write.2.1 6 = .ok (.invokestatic 104, 3) := by decide +kernel
theorem dd_X9_write_9 : decode X9_write.2.1 9 = .ok (.ifCond .ne 6, 3) := by decide +kernel
theorem dd_X9_write_12 : decode X9_write.2.1 12 = .ok (.bipush (-3), 2) := by decide +kernel
theorem dd_X9_write_14 : decode X9_write.2.1 14 = .ok (.ireturn, 1) := by decide +kernel
theorem dd_X9_write_15 : decode X9_write.2.1 15 = .ok (.aload_n 0, 1) := by decide +kernel
theorem dd_X9_write_16 : decode X9_write.2.1 16 = .ok (.getfield 108, 3) := by decide +kernel
theorem dd_X9_write_19 : decode X9_write.2.1 19 = .ok (.sipush 200, 3) := by decide +kernel
theorem dd_X9_write_22 : decode X9_write.2.1 22 = .ok (.if_icmp .ne 6, 3) := by decide +kernel
theorem dd_X9_write_25 : decode X9_write.2.1 25 = .ok (.bipush (-5), 2) := by decide +kernel
theorem dd_X9_write_27 : decode X9_write.2.1 27 = .ok (.ireturn, 1) := by decide +kernel
theorem dd_X9_write_28 : decode X9_write.2.1 28 = .ok (.aload_n 0, 1) := by decide +kernel
theorem dd_X9_write_29 : decode X9_write.2.1 29 = .ok (.getfield 20, 3) := by decide +kernel
theorem dd_X9_write_32 : decode X9_write.2.1 32 = .ok (.aload_n 0, 1) := by decide +kernel
theorem dd_X9_write_33 : decode X9_write.2.1 33 = .ok (.getfield 108, 3) := by decide +kernel
theorem dd_X9_write_36 : decode X9_write.2.1 36 = .ok (.iload_n 1, 1) := by decide +kernel
theorem dd_X9_write_37 : decode X9_write.2.1 37 = .ok (.iastore, 1) := by decide +kernel
theorem dd_X9_write_38 : decode X9_write.2.1 38 = .ok (.aload_n 0, 1) := by decide +kernel
theorem dd_X9_write_39 : decode X9_write.2.1 39 = .ok (.dup, 1) := by decide +kernel
theorem dd_X9_write_40 : decode X9_write.2.1 40 = .ok (.getfield 108, 3) := by decide +kernel
theorem dd_X9_write_43 : decode X9_write.2.1 43 = .ok (.iconst 1, 1) := by decide +kernel
theorem dd_X9_write_44 : decode X9_write.2.1 44 = .ok (.iadd, 1) := by decide +kernel
theorem dd_X9_write_45 : decode X9_write.2.1 45 = .ok (.putfield 108, 3) := by decide +kernel
theorem dd_X9_write_48 : decode X9_write.2.1 48 = .ok (.aload_n 0, 1) := by decide +kernel
theorem dd_X9_write_49 : decode X9_write.2.1 49 = .ok (.getfield 108, 3) := by decide +kernel
theorem dd_X9_write_52 : decode X9_write.2.1 52 = .ok (.ireturn, 1) := by decide +kernel
theorem dd_X9_erase_0 : decode X9_erase.2.1 0 = .ok (.aload_n 0, 1) := by decide +kernel
theorem dd_X9_erase_1 : decode X9_erase.2.1 1 = .ok (.getfield 108, 3) := by decide +kernel
theorem dd_X9_erase_4 : decode X9_erase.2.1 4 = .ok (.istore_n 1, 1) := by decide +kernel
theorem dd_X9_erase_5 : decode X9_erase.2.1 5 = .ok (.aload_n 0, 1) := by decide +kernel
theorem dd_X9_erase_6 : decode X9_erase.2.1 6 = .ok (.iconst 0, 1) := by decide +kernel
theorem dd_X9_erase_7 : decode X9_erase.2.1 7 = .ok (.putfield 108, 3) := by decide +kernel
theorem dd_X9_erase_10 : decode X9_erase.2.1 10 = .ok (.iload_n 1, 1) := by decide +kernel
theorem dd_X9_erase_11 : decode X9_erase.2.1 11 = .ok (.ireturn, 1) := by decide +kernel
theorem dd_X9_isLetter_0 : decode X9_isLetter.2.1 0 = .ok (.iload_n 0, 1) := by decide +kernel
theorem dd_X9_isLetter_1 : decode X9_isLetter.2.1 1 = .ok (.i2l, 1) := by decide +kernel
theorem dd_X9_isLetter_2 : decode X9_isLetter.2.1 2 = .ok (.ldc2_w 111, 3) := by decide +kernel
theorem dd_X9_isLetter_5 : decode X9_isLetter.2.1 5 = .ok (.ldc2_w 113, 3) := by decide +kernel
theorem dd_X9_isLetter_8 : decode X9_isLetter.2.1 8 = .ok (.invokestatic 104, 3) := by decide +kernel
theorem dd_X9_isLetter_11 : decode X9_isLetter.2.1 11 = .ok (.ireturn, 1) := by decide +kernel
theorem dd_X9_isDigit_0 : decode X9_isDigit.2.1 0 = .ok (.iload_n 0, 1) := by decide +kernel
theorem dd_X9_isDigit_1 : decode X9_isDigit.2.1 1 = .ok (.i2l, 1) := by decide +kernel
theorem dd_X9_isDigit_2 : decode X9_isDigit.2.1 2 = .ok (.ldc2_w 115, 3) := by decide +kernel
theorem dd_X9_isDigit_5 : decode X9_isDigit.2.1 5 = .ok (.ldc2_w 117, 3) := by decide +kernel
theorem dd_X9_isDigit_8 : decode X9_isDigit.2.1 8 = .ok (.invokestatic 104, 3) := by decide +kernel
theorem dd_X9_isDigit_11 : decode X9_isDigit.2.1 11 = .ok (.ireturn, 1) := by decide +kernel
theorem dd_X9_nextToken_0 : decode X9_nextToken.2.1 0 = .ok (.aload_n 0, 1) := by decide +kernel
theorem dd_X9_nextToken_1 : decode X9_nextToken.2.1 1 = .ok (.aload_n 0, 1) := by decide +kernel
theorem dd_X9_nextToken_2 : decode X9_nextToken.2.1 2 = .ok (.getfield 119, 3) := by decide +kernel
theorem dd_X9_nextToken_5 : decode X9_nextToken.2.1 5 = .ok (.putfield 122, 3) := by decide +kernel
theorem dd_X9_nextToken_8 : decode X9_nextToken.2.1 8 = .ok (.aload_n 0, 1) := by decide +kernel
theorem dd_X9_nextToken_9 : decode X9_nextToken.2.1 9 = .ok (.getfield 122, 3) := by decide +kernel
theorem dd_X9_nextToken_12 : decode X9_nextToken.2.1 12 = .ok (.aload_n 0, 1) := by decide +kernel
theorem dd_X9_nextToken_13 : decode X9_nextToken.2.1 13 = .ok (.getfield 108, 3) := by decide +kernel
theorem dd_X9_nextToken_16 : decode X9_nextToken.2.1 16 = .ok (.if_icmp .ge 30, 3) := by decide +kernel
theorem dd_X9_nextToken_19 : decode X9_nextToken.2.1 19 = .ok (.aload_n 0, 1) := by decide +kernel
theorem dd_X9_nextToken_20 : decode X9_nextToken.2.1 20 = .ok (.getfield 20, 3) := by decide +kernel
theorem dd_X9_nextToken_23 : decode X9_nextToken.2.1 23 = .ok (.aload_n 0, 1) := by decide +kernel
theorem dd_X9_nextToken_24 : decode X9_nextToken.2.1 24 = .ok (.getfield 122, 3) := by decide +kernel
theorem dd_X9_nextToken_27 : decode X9_nextToken.2.1 27 = .ok (.iaload, 1) := by decide +kernel
theorem dd_X9_nextToken_28 : decode X9_nextToken.2.1 28 = .ok (.bipush 32, 2) := by decide +kernel
theorem dd_X9_nextToken_30 : decode X9_nextToken.2.1 30 = .ok (.if_icmp .ne 16, 3) := by decide +kernel
theorem dd_X9_nextToken_33 : decode X9_nextToken.2.1 33 = .ok (.aload_n 0, 1) := by decide +kernel
theorem dd_X9_nextToken_34 : decode X9_nextToken.2.1 34 = .ok (.dup, 1) := by decide +kernel
theorem dd_X9_nextToken_35 : decode X9_nextToken.2.1 35 = .ok (.getfield 122, 3) := by decide +kernel
theorem dd_X9_nextToken_38 : decode X9_nextToken.2.1 38 = .ok (.iconst 1, 1) := by decide +kernel
theorem dd_X9_nextToken_39 : decode X9_nextToken.2.1 39 = .ok (.iadd, 1) := by decide +kernel
theorem dd_X9_nextToken_40 : decode X9_nextToken.2.1 40 = .ok (.putfield 122, 3) := by decide +kernel
theorem dd_X9_nextToken_43 : decode X9_nextToken.2.1 43 = .ok (.goto (-35), 3) := by decide +kernel
theorem dd_X9_nextToken_46 : decode X9_nextToken.2.1 46 = .ok (.aload_n 0, 1) := by decide +kernel
theorem dd_X9_nextToken_47 : decode X9_nextToken.2.1 47 = .ok (.aload_n 0, 1) := by decide +kernel
theorem dd_X9_nextToken_48 : decode X9_nextToken.2.1 48 = .ok (.getfield 122, 3) := by decide +kernel
theorem dd_X9_nextToken_51 : decode X9_nextToken.2.1 51 = .ok (.aload_n 0, 1) := by decide +kernel
theorem dd_X9_nextToken_52 : decode X9_nextToken.2.1 52 = .ok (.getfield 108, 3) := by decide +kernel
theorem dd_X9_nextToken_55 : decode X9_nextToken.2.1 55 = .ok (.if_icmp .ge 12, 3) := by decide +kernel
theorem dd_X9_nextToken_58 : decode X9_nextToken.2.1 58 = .ok (.aload_n 0, 1) := by decide +kernel
theorem dd_X9_nextToken_59 : decode X9_nextToken.2.1 59 = .ok (.getfield 122, 3) := by decide +kernel
theorem dd_X9_nextToken_62 : decode X9_nextToken.2.1 62 = .ok (.iconst 1, 1) := by decide +kernel
theorem dd_X9_nextToken_63 : decode X9_nextToken.2.1 63 = .ok (.iadd, 1) := by decide +kernel
theorem dd_X9_nextToken_64 : decode X9_nextToken.2.1 64 = .ok (.goto 7, 3) := by decide +kernel
theorem dd_X9_nextToken_67 : decode X9_nextToken.2.1 67 = .ok (.aload_n 0, 1) := by decide +kernel
theorem dd_X9_nextToken_68 : decode X9_nextToken.2.1 68 = .ok (.getfield 122, 3) := by decide +kernel
theorem dd_X9_nextToken_71 : decode X9_nextToken.2.1 71 = .ok (.putfield 119, 3) := by decide +kernel
theorem dd_X9_nextToken_74 : decode X9_nextToken.2.1 74 = .ok (.aload_n 0, 1) := by decide +kernel
theorem dd_X9_nextToken_75 : decode X9_nextToken.2.1 75 = .ok (.getfield 122, 3) := by decide +kernel
theorem dd_X9_nextToken_78 : decode X9_nextToken.2.1 78 = .ok (.aload_n 0, 1) := by decide +kernel
theorem dd_X9_nextToken_79 : decode X9_nextToken.2.1 79 = .ok (.getfield 108, 3) := by decide +kernel
theorem dd_X9_nextToken_82 : decode X9_nextToken.2.1 82 = .ok (.if_icmp .ge 57, 3) := by decide +kernel
theorem dd_X9_nextToken_85 : decode X9_nextToken.2.1 85 = .ok (.aload_n 0, 1) := by decide +kernel
theorem dd_X9_nextToken_86 : decode X9_nextToken.2.1 86 = .ok (.getfield 20, 3) := by decide +kernel
theorem dd_X9_nextToken_89 : decode X9_nextToken.2.1 89 = .ok (.aload_n 0, 1) := by decide +kernel
theorem dd_X9_nextToken_90 : decode X9_nextToken.2.1 90 = .ok (.getfield 122, 3) := by decide +kernel
theorem dd_X9_nextToken_93 : decode X9_nextToken.2.1 93 = .ok (.iaload, 1) := by decide +kernel
theorem dd_X9_nextToken_94 : decode X9_nextToken.2.1 94 = .ok (.invokestatic 125, 3) := by decide +kernel
theorem dd_X9_nextToken_97 : decode X9_nextToken.2.1 97 = .ok (.ifCond .eq 42, 3) := by decide +kernel
theorem dd_X9_nextToken_100 : decode X9_nextToken.2.1 100 = .ok (.aload_n 0, 1) := by decide +kernel
theorem dd_X9_nextToken_101 : decode X9_nextToken.2.1 101 = .ok (.getfield 119, 3) := by decide +kernel
theorem dd_X9_nextToken_104 : decode X9_nextToken.2.1 104 = .ok (.aload_n 0, 1) := by decide +kernel
theorem dd_X9_nextToken_105 : decode X9_nextToken.2.1 105 = .ok (.getfield 108, 3) := by decide +kernel
theorem dd_X9_nextToken_108 : decode X9_nextToken.2.1 108 = .ok (.if_icmp .ge 96, 3) := by decide +kernel
theorem dd_X9_nextToken_111 : decode X9_nextToken.2.1 111 = .ok (.aload_n 0, 1) := by decide +kernel
theorem dd_X9_nextToken_112 : decode X9_nextToken.2.1 112 = .ok (.getfield 20, 3) := by decide +kernel
theorem dd_X9_nextToken_115 : decode X9_nextToken.2.1 115 = .ok (.aload_n 0, 1) := by decide +kernel
theorem dd_X9_nextToken_116 : decode X9_nextToken.2.1 116 = .ok (.getfield 119, 3) := by decide +kernel
theorem dd_X9_nextToken_119 : decode X9_nextToken.2.1 119 = .ok (.iaload, 1) := by decide +kernel
theorem dd_X9_nextToken_120 : decode X9_nextToken.2.1 120 = .ok (.invokestatic 125, 3) := by decide +kernel
theorem dd_X9_nextToken_123 : decode X9_nextToken.2.1 123 = .ok (.ifCond .eq 81, 3) := by decide +kernel
theorem dd_X9_nextToken_126 : decode X9_nextToken.2.1 126 = .ok (.aload_n 0, 1) := by decide +kernel
theorem dd_X9_nextToken_127 : decode X9_nextToken.2.1 127 = .ok (.dup, 1) := by decide +kernel
theorem dd_X9_nextToken_128 : decode X9_nextToken.2.1 128 = .ok (.getfield 119, 3) := by decide +kernel
theorem dd_X9_nextToken_131 : decode X9_nextToken.2.1 131 = .ok (.iconst 1, 1) := by decide +kernel
theorem dd_X9_nextToken_132 : decode X9_nextToken.2.1 132 = .ok (.iadd, 1) := by decide +kernel
theorem dd_X9_nextToken_133 : decode X9_nextToken.2.1 133 = .ok (.putfield 119, 3) := by decide +kernel
theorem dd_X9_nextToken_136 : decode X9_nextToken.2.1 136 = .ok (.goto (-36), 3) := by decide +kernel
theorem dd_X9_nextToken_139 : decode X9_nextToken.2.1 139 = .ok (.aload_n 0, 1) := by decide +kernel
theorem dd_X9_nextToken_140 : decode X9_nextToken.2.1 140 = .ok (.getfield 122, 3) := by decide +kernel
theorem dd_X9_nextToken_143 : decode X9_nextToken.2.1 143 = .ok (.aload_n 0, 1) := by decide +kernel
theorem dd_X9_nextToken_144 : decode X9_nextToken.2.1 144 = .ok (.getfield 108, 3) := by decide +kernel
theorem dd_X9_nextToken_147 : decode X9_nextToken.2.1 147 = .ok (.if_icmp .ge 57, 3) := by decide +kernel
theorem dd_X9_nextToken_150 : decode X9_nextToken.2.1 150 = .ok (.aload_n 0, 1) := by decide +kernel
theorem dd_X9_nextToken_151 : decode X9_nextToken.2.1 151 = .ok (.getfield 20, 3) := by decide +kernel
theorem dd_X9_nextToken_154 : decode X9_nextToken.2.1 154 = .ok (.aload_n 0, 1) := by decide +kernel
theorem dd_X9_nextToken_155 : decode X9_nextToken.2.1 155 = .ok (.getfield 122, 3) := by decide +kernel
theorem dd_X9_nextToken_158 : decode X9_nextToken.2.1 158 = .ok (.iaload, 1) := by decide +kernel
theorem dd_X9_nextToken_159 : decode X9_nextToken.2.1 159 = .ok (.invokestatic 129, 3) := by decide +kernel
theorem dd_X9_nextToken_162 : decode X9_nextToken.2.1 162 = .ok (.ifCond .eq 42, 3) := by decide +kernel
theorem dd_X9_nextToken_165 : decode X9_nextToken.2.1 165 = .ok (.aload_n 0, 1) := by decide +kernel
theorem dd_X9_nextToken_166 : decode X9_nextToken.2.1 166 = .ok (.getfield 119, 3) := by decide +kernel
theorem dd_X9_nextToken_169 : decode X9_nextToken.2.1 169 = .ok (.aload_n 0, 1) := by decide +kernel
theorem dd_X9_nextToken_170 : decode X9_nextToken.2.1 170 = .ok (.getfield 108, 3) := by decide +kernel
theorem dd_X9_nextToken_173 : decode X9_nextToken.2.1 173 = .ok (.if_icmp .ge 31, 3) := by decide +kernel
theorem dd_X9_nextToken_176 : decode X9_nextToken.2.1 176 = .ok (.aload_n 0, 1) := by decide +kernel
theorem dd_X9_nextToken_177 : decode X9_nextToken.2.1 177 = .ok (.getfield 20, 3) := by decide +kernel
theorem dd_X9_nextToken_180 : decode X9_nextToken.2.1 180 = .ok (.aload_n 0, 1) := by decide +kernel
theorem dd_X9_nextToken_181 : decode X9_nextToken.2.1 181 = .ok (.getfield 119, 3) := by decide +kernel
theorem dd_X9_nextToken_184 : decode X9_nextToken.2.1 184 = .ok (.iaload, 1) := by decide +kernel
theorem dd_X9_nextToken_185 : decode X9_nextToken.2.1 185 = .ok (.invokestatic 129, 3) := by decide +kernel
theorem dd_X9_nextToken_188 : decode X9_nextToken.2.1 188 = .ok (.ifCond .eq 16, 3) := by decide +kernel
theorem dd_X9_nextToken_191 : decode X9_nextToken.2.1 191 = .ok (.aload_n 0, 1) := by decide +kernel
theorem dd_X9_nextToken_192 : decode X9_nextToken.2.1 192 = .ok (.dup, 1) := by decide +kernel
theorem dd_X9_nextToken_193 : decode X9_nextToken.2.1 193 = .ok (.getfield 119, 3) := by decide +kernel
theorem dd_X9_nextToken_196 : decode X9_nextToken.2.1 196 = .ok (.iconst 1, 1) := by decide +kernel
theorem dd_X9_nextToken_197 : decode X9_nextToken.2.1 197 = .ok (.iadd, 1) := by decide +kernel
theorem dd_X9_nextToken_198 : decode X9_nextToken.2.1 198 = .ok (.putfield 119, 3) := by decide +kernel
theorem dd_X9_nextToken_201 : decode X9_nextToken.2.1 201 = .ok (.goto (-36), 3) := by decide +kernel
theorem dd_X9_nextToken_204 : decode X9_nextToken.2.1 204 = .ok (.return_, 1) := by decide +kernel
theorem dd_X9_isWord_0 : decode X9_isWord.2.1 0 = .ok (.aload_n 0, 1) := by decide +kernel
theorem dd_X9_isWord_1 : decode X9_isWord.2.1 1 = .ok (.getfield 119, 3) := by decide +kernel
theorem dd_X9_isWord_4 : decode X9_isWord.2.1 4 = .ok (.aload_n 0, 1) := by decide +kernel
theorem dd_X9_isWord_5 : decode X9_isWord.2.1 5 = .ok (.getfield 122, 3) := by decide +kernel
theorem dd_X9_isWord_8 : decode X9_isWord.2.1 8 = .ok (.isub, 1) := by decide +kernel
theorem dd_X9_isWord_9 : decode X9_isWord.2.1 9 = .ok (.aload_n 1, 1) := by decide +kernel
theorem dd_X9_isWord_10 : decode X9_isWord.2.1 10 = .ok (.arraylength, 1) := by decide +kernel
theorem dd_X9_isWord_11 : decode X9_isWord.2.1 11 = .ok (.if_icmp .ne 7, 3) := by decide +kernel
theorem dd_X9_isWord_14 : decode X9_isWord.2.1 14 = .ok (.iconst 1, 1) := by decide +kernel
theorem dd_X9_isWord_15 : decode X9_isWord.2.1 15 = .ok (.goto 4, 3) := by decide +kernel
theorem dd_X9_isWord_18 : decode X9_isWord.2.1 18 = .ok (.iconst 0, 1) := by decide +kernel
theorem dd_X9_isWord_19 : decode X9_isWord.2.1 19 = .ok (.istore_n 2, 1) := by decide +kernel
theorem dd_X9_isWord_20 : decode X9_isWord.2.1 20 = .ok (.iconst 0, 1) := by decide +kernel
theorem dd_X9_isWord_21 : decode X9_isWord.2.1 21 = .ok (.istore_n 3, 1) := by decide +kernel
theorem dd_X9_isWord_22 : decode X9_isWord.2.1 22 = .ok (.iload_n 3, 1) := by decide +kernel
theorem dd_X9_isWord_23 : decode X9_isWord.2.1 23 = .ok (.aload_n 1, 1) := by decide +kernel
theorem dd_X9_isWord_24 : decode X9_isWord.2.1 24 = .ok (.arraylength, 1) := by decide +kernel
theorem dd_X9_isWord_25 : decode X9_isWord.2.1 25 = .ok (.if_icmp .ge 36, 3) := by decide +kernel
theorem dd_X9_isWord_28 : decode X9_isWord.2.1 28 = .ok (.iload_n 2, 1) := by decide +kernel
theorem dd_X9_isWord_29 : decode X9_isWord.2.1 29 = .ok (.ifCond .eq 32, 3) := by decide +kernel
theorem dd_X9_isWord_32 : decode X9_isWord.2.1 32 = .ok (.aload_n 0, 1) := by decide +kernel
theorem dd_X9_isWord_33 : decode X9_isWord.2.1 33 = .ok (.getfield 20, 3) := by decide +kernel
theorem dd_X9_isWord_36 : decode X9_isWord.2.1 36 = .ok (.aload_n 0, 1) := by decide +kernel
theorem dd_X9_isWord_37 : decode X9_isWord.2.1 37 = .ok (.getfield 122, 3) := by decide +kernel
theorem dd_X9_isWord_40 : decode X9_isWord.2.1 40 = .ok (.iload_n 3, 1) := by decide +kernel
theorem dd_X9_isWord_41 : decode X9_isWord.2.1 41 = .ok (.iadd, 1) := by decide +kernel
theorem dd_X9_isWord_42 : decode X9_isWord.2.1 42 = .ok (.iaload, 1) := by decide +kernel
theorem dd_X9_isWord_43 : decode X9_isWord.2.1 43 = .ok (.aload_n 1, 1) := by decide +kernel
theorem dd_X9_isWord_44 : decode X9_isWord.2.1 44 = .ok (.iload_n 3, 1) := by decide +kernel
theorem dd_X9_isWord_45 : decode X9_isWord.2.1 45 = .ok (.iaload, 1) := by decide +kernel
theorem dd_X9_isWord_46 : decode X9_isWord.2.1 46 = .ok (.if_icmp .ne 7, 3) := by decide +kernel
theorem dd_X9_isWord_49 : decode X9_isWord.2.1 49 = .ok (.iconst 1, 1) := by decide +kernel
theorem dd_X9_isWord_50 : decode X9_isWord.2.1 50 = .ok (.goto 4, 3) := by decide +kernel
theorem dd_X9_isWord_53 : decode X9_isWord.2.1 53 = .ok (.iconst 0, 1) := by decide +kernel
theorem dd_X9_isWord_54 : decode X9_isWord.2.1 54 = .ok (.istore_n 2, 1) := by decide +kernel
theorem dd_X9_isWord_55 : decode X9_isWord.2.1 55 = .ok (.iinc 3 1, 3) := by decide +kernel
theorem dd_X9_isWord_58 : decode X9_isWord.2.1 58 = .ok (.goto (-36), 3) := by decide +kernel
theorem dd_X9_isWord_61 : decode X9_isWord.2.1 61 = .ok (.iload_n 2, 1) := by decide +kernel
theorem dd_X9_isWord_62 : decode X9_isWord.2.1 62 = .ok (.ireturn, 1) := by decide +kernel
theorem dd_X9_number_0 : decode X9_number.2.1 0 = .ok (.aload_n 0, 1) := by decide +kernel
theorem dd_X9_number_1 : decode X9_number.2.1 1 = .ok (.getfield 122, 3) := by decide +kernel
theorem dd_X9_number_4 : decode X9_number.2.1 4 = .ok (.aload_n 0, 1) := by decide +kernel
theorem dd_X9_number_5 : decode X9_number.2.1 5 = .ok (.getfield 108, 3) := by decide +kernel
theorem dd_X9_number_8 : decode X9_number.2.1 8 = .ok (.if_icmp .eq 31, 3) := by decide +kernel
theorem dd_X9_number_11 : decode X9_number.2.1 11 = .ok (.aload_n 0, 1) := by decide +kernel
theorem dd_X9_number_12 : decode X9_number.2.1 12 = .ok (.getfield 20, 3) := by decide +kernel
theorem dd_X9_number_15 : decode X9_number.2.1 15 = .ok (.aload_n 0, 1) := by decide +kernel
theorem dd_X9_number_16 : decode X9_number.2.1 16 = .ok (.getfield 122, 3) := by decide +kernel
theorem dd_X9_number_19 : decode X9_number.2.1 19 = .ok (.iaload, 1) := by decide +kernel
theorem dd_X9_number_20 : decode X9_number.2.1 20 = .ok (.invokestatic 129, 3) := by decide +kernel
theorem dd_X9_number_23 : decode X9_number.2.1 23 = .ok (.ifCond .eq 16, 3) := by decide +kernel
theorem dd_X9_number_26 : decode X9_number.2.1 26 = .ok (.aload_n 0, 1) := by decide +kernel
theorem dd_X9_number_27 : decode X9_number.2.1 27 = .ok (.getfield 119, 3) := by decide +kernel
theorem dd_X9_number_30 : decode X9_number.2.1 30 = .ok (.aload_n 0, 1) := by decide +kernel
theorem dd_X9_number_31 : decode X9_number.2.1 31 = .ok (.getfield 122, 3) := by decide +kernel
theorem dd_X9_number_34 : decode X9_number.2.1 34 = .ok (.isub, 1) := by decide +kernel
theorem dd_X9_number_35 : decode X9_number.2.1 35 = .ok (.iconst 2, 1) := by decide +kernel
theorem dd_X9_number_36 : decode X9_number.2.1 36 = .ok (.if_icmp .le 5, 3) := by decide +kernel
theorem dd_X9_number_39 : decode X9_number.2.1 39 = .ok (.iconst 0, 1) := by decide +kernel
theorem dd_X9_number_40 : decode X9_number.2.1 40 = .ok (.ireturn, 1) := by decide +kernel
theorem dd_X9_number_41 : decode X9_number.2.1 41 = .ok (.aload_n 0, 1) := by decide +kernel
theorem dd_X9_number_42 : decode X9_number.2.1 42 = .ok (.getfield 20, 3) := by decide +kernel
theorem dd_X9_number_45 : decode X9_number.2.1 45 = .ok (.aload_n 0, 1) := by decide +kernel
theorem dd_X9_number_46 : decode X9_number.2.1 46 = .ok (.getfield 122, 3) := by decide +kernel
theorem dd_X9_number_49 : decode X9_number.2.1 49 = .ok (.iaload, 1) := by decide +kernel
theorem dd_X9_number_50 : decode X9_number.2.1 50 = .ok (.bipush 48, 2) := by decide +kernel
theorem dd_X9_number_52 : decode X9_number.2.1 52 = .ok (.isub, 1) := by decide +kernel
theorem dd_X9_number_53 : decode X9_number.2.1 53 = .ok (.istore 4, 2) := by decide +kernel
theorem dd_X9_number_55 : decode X9_number.2.1 55 = .ok (.aload_n 0, 1) := by decide +kernel
theorem dd_X9_number_56 : decode X9_number.2.1 56 = .ok (.getfield 119, 3) := by decide +kernel
theorem dd_X9_number_59 : decode X9_number.2.1 59 = .ok (.aload_n 0, 1) := by decide +kernel
theorem dd_X9_number_60 : decode X9_number.2.1 60 = .ok (.getfield 122, 3) := by decide +kernel
theorem dd_X9_number_63 : decode X9_number.2.1 63 = .ok (.isub, 1) := by decide +kernel
theorem dd_X9_number_64 : decode X9_number.2.1 64 = .ok (.iconst 2, 1) := by decide +kernel
theorem dd_X9_number_65 : decode X9_number.2.1 65 = .ok (.if_icmp .ne 26, 3) := by decide +kernel
theorem dd_X9_number_68 : decode X9_number.2.1 68 = .ok (.bipush 10, 2) := by decide +kernel
theorem dd_X9_number_70 : decode X9_number.2.1 70 = .ok (.iload 4, 2) := by decide +kernel
theorem dd_X9_number_72 : decode X9_number.2.1 72 = .ok (.imul, 1) := by decide +kernel
theorem dd_X9_number_73 : decode X9_number.2.1 73 = .ok (.aload_n 0, 1) := by decide +kernel
theorem dd_X9_number_74 : decode X9_number.2.1 74 = .ok (.getfield 20, 3) := by decide +kernel
theorem dd_X9_number_77 : decode X9_number.2.1 77 = .ok (.aload_n 0, 1) := by decide +kernel
theorem dd_X9_number_78 : decode X9_number.2.1 78 = .ok (.getfield 122, 3) := by decide +kernel
theorem dd_X9_number_81 : decode X9_number.2.1 81 = .ok (.iconst 1, 1) := by decide +kernel
theorem dd_X9_number_82 : decode X9_number.2.1 82 = .ok (.iadd, 1) := by decide +kernel
theorem dd_X9_number_83 : decode X9_number.2.1 83 = .ok (.iaload, 1) := by decide +kernel
theorem dd_X9_number_84 : decode X9_number.2.1 84 = .ok (.iadd, 1) := by decide +kernel
theorem dd_X9_number_85 : decode X9_number.2.1 85 = .ok (.bipush 48, 2) := by decide +kernel
theorem dd_X9_number_87 : decode X9_number.2.1 87 = .ok (.isub, 1) := by decide +kernel
theorem dd_X9_number_88 : decode X9_number.2.1 88 = .ok (.goto 5, 3) := by decide +kernel
theorem dd_X9_number_91 : decode X9_number.2.1 91 = .ok (.iload 4, 2) := by decide +kernel
theorem dd_X9_number_93 : decode X9_number.2.1 93 = .ok (.istore 4, 2) := by decide +kernel
theorem dd_X9_number_95 : decode X9_number.2.1 95 = .ok (.iload 4, 2) := by decide +kernel
theorem dd_X9_number_97 : decode X9_number.2.1 97 = .ok (.i2l, 1) := by decide +kernel
theorem dd_X9_number_98 : decode X9_number.2.1 98 = .ok (.iload_n 2, 1) := by decide +kernel
theorem dd_X9_number_99 : decode X9_number.2.1 99 = .ok (.i2l, 1) := by decide +kernel
theorem dd_X9_number_100 : decode X9_number.2.1 100 = .ok (.iload_n 3, 1) := by decide +kernel
theorem dd_X9_number_101 : decode X9_number.2.1 101 = .ok (.i2l, 1) := by decide +kernel
theorem dd_X9_number_102 : decode X9_number.2.1 102 = .ok (.invokestatic 104, 3) := by decide +kernel
theorem dd_X9_number_105 : decode X9_number.2.1 105 = .ok (.istore 5, 2) := by decide +kernel
theorem dd_X9_number_107 : decode X9_number.2.1 107 = .ok (.iload 5, 2) := by decide +kernel
theorem dd_X9_number_109 : decode X9_number.2.1 109 = .ok (.ifCond .eq 15, 3) := by decide +kernel
theorem dd_X9_number_112 : decode X9_number.2.1 112 = .ok (.aload_n 0, 1) := by decide +kernel
theorem dd_X9_number_113 : decode X9_number.2.1 113 = .ok (.getfield 38, 3) := by decide +kernel
theorem dd_X9_number_116 : decode X9_number.2.1 116 = .ok (.iload_n 1, 1) := by decide +kernel
theorem dd_X9_number_117 : decode X9_number.2.1 117 = .ok (.iload 4, 2) := by decide +kernel
theorem dd_X9_number_119 : decode X9_number.2.1 119 = .ok (.iastore, 1) := by decide +kernel
theorem dd_X9_number_120 : decode X9_number.2.1 120 = .ok (.aload_n 0, 1) := by decide +kernel
theorem dd_X9_number_121 : decode X9_number.2.1 121 = .ok (.invokevirtual 132, 3) := by decide +kernel
theorem dd_X9_number_124 : decode X9_number.2.1 124 = .ok (.iload 5, 2) := by decide +kernel
theorem dd_X9_number_126 : decode X9_number.2.1 126 = .ok (.ireturn, 1) := by decide +kernel
theorem dd_X9_readsBeats_0 : decode X9_readsBeats.2.1 0 = .ok (.aload_n 0, 1) := by decide +kernel
theorem dd_X9_readsBeats_1 : decode X9_readsBeats.2.1 1 = .ok (.getfield 122, 3) := by decide +kernel
theorem dd_X9_readsBeats_4 : decode X9_readsBeats.2.1 4 = .ok (.aload_n 0, 1) := by decide +kernel
theorem dd_X9_readsBeats_5 : decode X9_readsBeats.2.1 5 = .ok (.getfield 108, 3) := by decide +kernel
theorem dd_X9_readsBeats_8 : decode X9_readsBeats.2.1 8 = .ok (.if_icmp .ge 23, 3) := by decide +kernel
theorem dd_X9_readsBeats_11 : decode X9_readsBeats.2.1 11 = .ok (.aload_n 0, 1) := by decide +kernel
theorem dd_X9_readsBeats_12 : decode X9_readsBeats.2.1 12 = .ok (.getfield 119, 3) := by decide +kernel
theorem dd_X9_readsBeats_15 : decode X9_readsBeats.2.1 15 = .ok (.aload_n 0, 1) := by decide +kernel
theorem dd_X9_readsBeats_16 : decode X9_readsBeats.2.1 16 = .ok (.getfield 122, 3) := by decide +kernel
theorem dd_X9_readsBeats_19 : decode X9_readsBeats.2.1 19 = .ok (.isub, 1) := by decide +kernel
theorem dd_X9_readsBeats_20 : decode X9_readsBeats.2.1 20 = .ok (.aload_n 0, 1) := by decide +kernel
theorem dd_X9_readsBeats_21 : decode X9_readsBeats.2.1 21 = .ok (.getfield 135, 3) := by decide +kernel
theorem dd_X9_readsBeats_24 : decode X9_readsBeats.2.1 24 = .ok (.if_icmp .ne 7, 3) := by decide +kernel
theorem dd_X9_readsBeats_27 : decode X9_readsBeats.2.1 27 = .ok (.iconst 1, 1) := by decide +kernel
theorem dd_X9_readsBeats_28 : decode X9_readsBeats.2.1 28 = .ok (.goto 4, 3) := by decide +kernel
theorem dd_X9_readsBeats_31 : decode X9_readsBeats.2.1 31 = .ok (.iconst 0, 1) := by decide +kernel
theorem dd_X9_readsBeats_32 : decode X9_readsBeats.2.1 32 = .ok (.istore_n 1, 1) := by decide +kernel
theorem dd_X9_readsBeats_33 : decode X9_readsBeats.2.1 33 = .ok (.iconst 0, 1) := by decide +kernel
theorem dd_X9_readsBeats_34 : decode X9_readsBeats.2.1 34 = .ok (.istore_n 2, 1) := by decide +kernel
theorem dd_X9_readsBeats_35 : decode X9_readsBeats.2.1 35 = .ok (.aload_n 0, 1) := by decide +kernel
theorem dd_X9_readsBeats_36 : decode X9_readsBeats.2.1 36 = .ok (.getfield 122, 3) := by decide +kernel
theorem dd_X9_readsBeats_39 : decode X9_readsBeats.2.1 39 = .ok (.istore_n 3, 1) := by decide +kernel
theorem dd_X9_readsBeats_40 : decode X9_readsBeats.2.1 40 = .ok (.iload_n 3, 1) := by decide +kernel
theorem dd_X9_readsBeats_41 : decode X9_readsBeats.2.1 41 = .ok (.aload_n 0, 1) := by decide +kernel
theorem dd_X9_readsBeats_42 : decode X9_readsBeats.2.1 42 = .ok (.getfield 119, 3) := by decide +kernel
theorem dd_X9_readsBeats_45 : decode X9_readsBeats.2.1 45 = .ok (.if_icmp .ge 62, 3) := by decide +kernel
theorem dd_X9_readsBeats_48 : decode X9_readsBeats.2.1 48 = .ok (.iload_n 1, 1) := by decide +kernel
theorem dd_X9_readsBeats_49 : decode X9_readsBeats.2.1 49 = .ok (.ifCond .eq 58, 3) := by decide +kernel
theorem dd_X9_readsBeats_52 : decode X9_readsBeats.2.1 52 = .ok (.aload_n 0, 1) := by decide +kernel
theorem dd_X9_readsBeats_53 : decode X9_readsBeats.2.1 53 = .ok (.getfield 20, 3) := by decide +kernel
theorem dd_X9_readsBeats_56 : decode X9_readsBeats.2.1 56 = .ok (.iload_n 3, 1) := by decide +kernel
theorem dd_X9_readsBeats_57 : decode X9_readsBeats.2.1 57 = .ok (.iaload, 1) := by decide +kernel
theorem dd_X9_readsBeats_58 : decode X9_readsBeats.2.1 58 = .ok (.bipush 100, 2) := by decide +kernel
theorem dd_X9_readsBeats_60 : decode X9_readsBeats.2.1 60 = .ok (.if_icmp .eq 14, 3) := by decide +kernel
theorem dd_X9_readsBeats_63 : decode X9_readsBeats.2.1 63 = .ok (.aload_n 0, 1) := by decide +kernel
theorem dd_X9_readsBeats_64 : decode X9_readsBeats.2.1 64 = .ok (.getfield 20, 3) := by decide +kernel
theorem dd_X9_readsBeats_67 : decode X9_readsBeats.2.1 67 = .ok (.iload_n 3, 1) := by decide +kernel
theorem dd_X9_readsBeats_68 : decode X9_readsBeats.2.1 68 = .ok (.iaload, 1) := by decide +kernel
theorem dd_X9_readsBeats_69 : decode X9_readsBeats.2.1 69 = .ok (.bipush 102, 2) := by decide +kernel
theorem dd_X9_readsBeats_71 : decode X9_readsBeats.2.1 71 = .ok (.if_icmp .ne 7, 3) := by decide +kernel
theorem dd_X9_readsBeats_74 : decode X9_readsBeats.2.1 74 = .ok (.iconst 1, 1) := by decide +kernel
theorem dd_X9_readsBeats_75 : decode X9_readsBeats.2.1 75 = .ok (.goto 4, 3) := by decide +kernel
theorem dd_X9_readsBeats_78 : decode X9_readsBeats.2.1 78 = .ok (.iconst 0, 1) := by decide +kernel
theorem dd_X9_readsBeats_79 : decode X9_readsBeats.2.1 79 = .ok (.istore_n 1, 1) := by decide +kernel
theorem dd_X9_readsBeats_80 : decode X9_readsBeats.2.1 80 = .ok (.iconst 2, 1) := by decide +kernel
theorem dd_X9_readsBeats_81 : decode X9_readsBeats.2.1 81 = .ok (.iload_n 2, 1) := by decide +kernel
theorem dd_X9_readsBeats_82 : decode X9_readsBeats.2.1 82 = .ok (.imul, 1) := by decide +kernel
theorem dd_X9_readsBeats_83 : decode X9_readsBeats.2.1 83 = .ok (.aload_n 0, 1) := by decide +kernel
theorem dd_X9_readsBeats_84 : decode X9_readsBeats.2.1 84 = .ok (.getfield 20, 3) := by decide +kernel
theorem dd_X9_readsBeats_87 : decode X9_readsBeats.2.1 87 = .ok (.iload_n 3, 1) := by decide +kernel
theorem dd_X9_readsBeats_88 : decode X9_readsBeats.2.1 88 = .ok (.iaload, 1) := by decide +kernel
theorem dd_X9_readsBeats_89 : decode X9_readsBeats.2.1 89 = .ok (.bipush 102, 2) := by decide +kernel
theorem dd_X9_readsBeats_91 : decode X9_readsBeats.2.1 91 = .ok (.if_icmp .ne 7, 3) := by decide +kernel
theorem dd_X9_readsBeats_94 : decode X9_readsBeats.2.1 94 = .ok (.iconst 1, 1) := by decide +kernel
theorem dd_X9_readsBeats_95 : decode X9_readsBeats.2.1 95 = .ok (.goto 4, 3) := by decide +kernel
theorem dd_X9_readsBeats_98 : decode X9_readsBeats.2.1 98 = .ok (.iconst 0, 1) := by decide +kernel
theorem dd_X9_readsBeats_99 : decode X9_readsBeats.2.1 99 = .ok (.iadd, 1) := by decide +kernel
theorem dd_X9_readsBeats_100 : decode X9_readsBeats.2.1 100 = .ok (.istore_n 2, 1) := by decide +kernel
theorem dd_X9_readsBeats_101 : decode X9_readsBeats.2.1 101 = .ok (.iinc 3 1, 3) := by decide +kernel
theorem dd_X9_readsBeats_104 : decode X9_readsBeats.2.1 104 = .ok (.goto (-64), 3) := by decide +kernel
theorem dd_X9_readsBeats_107 : decode X9_readsBeats.2.1 107 = .ok (.iload_n 1, 1) := by decide +kernel
theorem dd_X9_readsBeats_108 : decode X9_readsBeats.2.1 108 = .ok (.ifCond .eq 14, 3) := by decide +kernel
theorem dd_X9_readsBeats_111 : decode X9_readsBeats.2.1 111 = .ok (.aload_n 0, 1) := by decide +kernel
theorem dd_X9_readsBeats_112 : decode X9_readsBeats.2.1 112 = .ok (.getfield 38, 3) := by decide +kernel
theorem dd_X9_readsBeats_115 : decode X9_readsBeats.2.1 115 = .ok (.iconst 0, 1) := by decide +kernel
theorem dd_X9_readsBeats_116 : decode X9_readsBeats.2.1 116 = .ok (.iload_n 2, 1) := by decide +kernel
theorem dd_X9_readsBeats_117 : decode X9_readsBeats.2.1 117 = .ok (.iastore, 1) := by decide +kernel
theorem dd_X9_readsBeats_118 : decode X9_readsBeats.2.1 118 = .ok (.aload_n 0, 1) := by decide +kernel
theorem dd_X9_readsBeats_119 : decode X9_readsBeats.2.1 119 = .ok (.invokevirtual 132, 3) := by decide +kernel
theorem dd_X9_readsBeats_122 : decode X9_readsBeats.2.1 122 = .ok (.iload_n 1, 1) := by decide +kernel
theorem dd_X9_readsBeats_123 : decode X9_readsBeats.2.1 123 = .ok (.ireturn, 1) := by decide +kernel
theorem dd_X9_wordHere_0 : decode X9_wordHere.2.1 0 = .ok (.aload_n 0, 1) := by decide +kernel
theorem dd_X9_wordHere_1 : decode X9_wordHere.2.1 1 = .ok (.aload_n 0, 1) := by decide +kernel
theorem dd_X9_wordHere_2 : decode X9_wordHere.2.1 2 = .ok (.getfield 41, 3) := by decide +kernel
theorem dd_X9_wordHere_5 : decode X9_wordHere.2.1 5 = .ok (.invokevirtual 138, 3) := by decide +kernel
theorem dd_X9_wordHere_8 : decode X9_wordHere.2.1 8 = .ok (.ifCond .eq 7, 3) := by decide +kernel
theorem dd_X9_wordHere_11 : decode X9_wordHere.2.1 11 = .ok (.iconst 0, 1) := by decide +kernel
theorem dd_X9_wordHere_12 : decode X9_wordHere.2.1 12 = .ok (.goto 79, 3) := by decide +kernel
theorem dd_X9_wordHere_15 : decode X9_wordHere.2.1 15 = .ok (.aload_n 0, 1) := by decide +kernel
theorem dd_X9_wordHere_16 : decode X9_wordHere.2.1 16 = .ok (.aload_n 0, 1) := by decide +kernel
theorem dd_X9_wordHere_17 : decode X9_wordHere.2.1 17 = .ok (.getfield 44, 3) := by decide +kernel
theorem dd_X9_wordHere_20 : decode X9_wordHere.2.1 20 = .ok (.invokevirtual 138, 3) := by decide +kernel
theorem dd_X9_wordHere_23 : decode X9_wordHere.2.1 23 = .ok (.ifCond .eq 7, 3) := by decide +kernel
theorem dd_X9_wordHere_26 : decode X9_wordHere.2.1 26 = .ok (.iconst 1, 1) := by decide +kernel
theorem dd_X9_wordHere_27 : decode X9_wordHere.2.1 27 = .ok (.goto 64, 3) := by decide +kernel
theorem dd_X9_wordHere_30 : decode X9_wordHere.2.1 30 = .ok (.aload_n 0, 1) := by decide +kernel
theorem dd_X9_wordHere_31 : decode X9_wordHere.2.1 31 = .ok (.aload_n 0, 1) := by decide +kernel
theorem dd_X9_wordHere_32 : decode X9_wordHere.2.1 32 = .ok (.getfield 47, 3) := by decide +kernel
theorem dd_X9_wordHere_35 : decode X9_wordHere.2.1 35 = .ok (.invokevirtual 138, 3) := by decide +kernel
theorem dd_X9_wordHere_38 : decode X9_wordHere.2.1 38 = .ok (.ifCond .eq 7, 3) := by decide +kernel
theorem dd_X9_wordHere_41 : decode X9_wordHere.2.1 41 = .ok (.iconst 2, 1) := by decide +kernel
theorem dd_X9_wordHere_42 : decode X9_wordHere.2.1 42 = .ok (.goto 49, 3) := by decide +kernel
theorem dd_X9_wordHere_45 : decode X9_wordHere.2.1 45 = .ok (.aload_n 0, 1) := by decide +kernel
theorem dd_X9_wordHere_46 : decode X9_wordHere.2.1 46 = .ok (.aload_n 0, 1) := by decide +kernel
theorem dd_X9_wordHere_47 : decode X9_wordHere.2.1 47 = .ok (.getfield 50, 3) := by decide +kernel
theorem dd_X9_wordHere_50 : decode X9_wordHere.2.1 50 = .ok (.invokevirtual 138, 3) := by decide +kernel
theorem dd_X9_wordHere_53 : decode X9_wordHere.2.1 53 = .ok (.ifCond .eq 7, 3) := by decide +kernel
theorem dd_X9_wordHere_56 : decode X9_wordHere.2.1 56 = .ok (.iconst 3, 1) := by decide +kernel
theorem dd_X9_wordHere_57 : decode X9_wordHere.2.1 57 = .ok (.goto 34, 3) := by decide +kernel
theorem dd_X9_wordHere_60 : decode X9_wordHere.2.1 60 = .ok (.aload_n 0, 1) := by decide +kernel
theorem dd_X9_wordHere_61 : decode X9_wordHere.2.1 61 = .ok (.aload_n 0, 1) := by decide +kernel
theorem dd_X9_wordHere_62 : decode X9_wordHere.2.1 62 = .ok (.getfield 53, 3) := by decide +kernel
theorem dd_X9_wordHere_65 : decode X9_wordHere.2.1 65 = .ok (.invokevirtual 138, 3) := by decide +kernel
theorem dd_X9_wordHere_68 : decode X9_wordHere.2.1 68 = .ok (.ifCond .eq 7, 3) := by decide +kernel
theorem dd_X9_wordHere_71 : decode X9_wordHere.2.1 71 = .ok (.iconst 4, 1) := by decide +kernel
theorem dd_X9_wordHere_72 : decode X9_wordHere.2.1 72 = .ok (.goto 19, 3) := by decide +kernel
theorem dd_X9_wordHere_75 : decode X9_wordHere.2.1 75 = .ok (.aload_n 0, 1) := by decide +kernel
theorem dd_X9_wordHere_76 : decode X9_wordHere.2.1 76 = .ok (.aload_n 0, 1) := by decide +kernel
theorem dd_X9_wordHere_77 : decode X9_wordHere.2.1 77 = .ok (.getfield 56, 3) := by decide +kernel
theorem dd_X9_wordHere_80 : decode X9_wordHere.2.1 80 = .ok (.invokevirtual 138, 3) := by decide +kernel
theorem dd_X9_wordHere_83 : decode X9_wordHere.2.1 83 = .ok (.ifCond .eq 7, 3) := by decide +kernel
theorem dd_X9_wordHere_86 : decode X9_wordHere.2.1 86 = .ok (.iconst 5, 1) := by decide +kernel
theorem dd_X9_wordHere_87 : decode X9_wordHere.2.1 87 = .ok (.goto 4, 3) := by decide +kernel
theorem dd_X9_wordHere_90 : decode X9_wordHere.2.1 90 = .ok (.iconst (-1), 1) := by decide +kernel
theorem dd_X9_wordHere_91 : decode X9_wordHere.2.1 91 = .ok (.ireturn, 1) := by decide +kernel
theorem dd_X9_readsRest_0 : decode X9_readsRest.2.1 0 = .ok (.iload_n 1, 1) := by decide +kernel
theorem dd_X9_readsRest_1 : decode X9_readsRest.2.1 1 = .ok (.tableswitch 78 0 4 #[35, 44, 55, 64, 69], 35) := by decide +kernel
theorem dd_X9_readsRest_36 : decode X9_readsRest.2.1 36 = .ok (.aload_n 0, 1) := by decide +kernel
theorem dd_X9_readsRest_37 : decode X9_readsRest.2.1 37 = .ok (.iconst 0, 1) := by decide +kernel
theorem dd_X9_readsRest_38 : decode X9_readsRest.2.1 38 = .ok (.iconst 3, 1) := by decide +kernel
theorem dd_X9_readsRest_39 : decode X9_readsRest.2.1 39 = .ok (.bipush 8, 2) := by decide +kernel
theorem dd_X9_readsRest_41 : decode X9_readsRest.2.1 41 = .ok (.invokevirtual 142, 3) := by decide +kernel
theorem dd_X9_readsRest_44 : decode X9_readsRest.2.1 44 = .ok (.ireturn, 1) := by decide +kernel
theorem dd_X9_readsRest_45 : decode X9_readsRest.2.1 45 = .ok (.aload_n 0, 1) := by decide +kernel
theorem dd_X9_readsRest_46 : decode X9_readsRest.2.1 46 = .ok (.iconst 0, 1) := by decide +kernel
theorem dd_X9_readsRest_47 : decode X9_readsRest.2.1 47 = .ok (.iconst 2, 1) := by decide +kernel
theorem dd_X9_readsRest_48 : decode X9_readsRest.2.1 48 = .ok (.aload_n 0, 1) := by decide +kernel
theorem dd_X9_readsRest_49 : decode X9_readsRest.2.1 49 = .ok (.getfield 135, 3) := by decide +kernel
theorem dd_X9_readsRest_52 : decode X9_readsRest.2.1 52 = .ok (.invokevirtual 142, 3) := by decide +kernel
theorem dd_X9_readsRest_55 : decode X9_readsRest.2.1 55 = .ok (.ireturn, 1) := by decide +kernel
theorem dd_X9_readsRest_56 : decode X9_readsRest.2.1 56 = .ok (.aload_n 0, 1) := by decide +kernel
theorem dd_X9_readsRest_57 : decode X9_readsRest.2.1 57 = .ok (.iconst 0, 1) := by decide +kernel
theorem dd_X9_readsRest_58 : decode X9_readsRest.2.1 58 = .ok (.iconst 1, 1) := by decide +kernel
theorem dd_X9_readsRest_59 : decode X9_readsRest.2.1 59 = .ok (.bipush 99, 2) := by decide +kernel
theorem dd_X9_readsRest_61 : decode X9_readsRest.2.1 61 = .ok (.invokevirtual 142, 3) := by decide +kernel
theorem dd_X9_readsRest_64 : decode X9_readsRest.2.1 64 = .ok (.ireturn, 1) := by decide +kernel
theorem dd_X9_readsRest_65 : decode X9_readsRest.2.1 65 = .ok (.aload_n 0, 1) := by decide +kernel
theorem dd_X9_readsRest_66 : decode X9_readsRest.2.1 66 = .ok (.invokevirtual 146, 3) := by decide +kernel
theorem dd_X9_readsRest_69 : decode X9_readsRest.2.1 69 = .ok (.ireturn, 1) := by decide +kernel
theorem dd_X9_readsRest_70 : decode X9_readsRest.2.1 70 = .ok (.aload_n 0, 1) := by decide +kernel
theorem dd_X9_readsRest_71 : decode X9_readsRest.2.1 71 = .ok (.iconst 0, 1) := by decide +kernel
theorem dd_X9_readsRest_72 : decode X9_readsRest.2.1 72 = .ok (.iconst 0, 1) := by decide +kernel
theorem dd_X9_readsRest_73 : decode X9_readsRest.2.1 73 = .ok (.bipush 99, 2) := by decide +kernel
theorem dd_X9_readsRest_75 : decode X9_readsRest.2.1 75 = .ok (.invokevirtual 142, 3) := by decide +kernel
theorem dd_X9_readsRest_78 : decode X9_readsRest.2.1 78 = .ok (.ireturn, 1) := by decide +kernel
theorem dd_X9_readsRest_79 : decode X9_readsRest.2.1 79 = .ok (.aload_n 0, 1) := by decide +kernel
theorem dd_X9_readsRest_80 : decode X9_readsRest.2.1 80 = .ok (.iconst 0, 1) := by decide +kernel
theorem dd_X9_readsRest_81 : decode X9_readsRest.2.1 81 = .ok (.iconst 0, 1) := by decide +kernel
theorem dd_X9_readsRest_82 : decode X9_readsRest.2.1 82 = .ok (.aload_n 0, 1) := by decide +kernel
theorem dd_X9_readsRest_83 : decode X9_readsRest.2.1 83 = .ok (.getfield 150, 3) := by decide +kernel
theorem dd_X9_readsRest_86 : decode X9_readsRest.2.1 86 = .ok (.iconst 1, 1) := by decide +kernel
theorem dd_X9_readsRest_87 : decode X9_readsRest.2.1 87 = .ok (.isub, 1) := by decide +kernel
theorem dd_X9_readsRest_88 : decode X9_readsRest.2.1 88 = .ok (.invokevirtual 142, 3) := by decide +kernel
theorem dd_X9_readsRest_91 : decode X9_readsRest.2.1 91 = .ok (.ifCond .eq 22, 3) := by decide +kernel
theorem dd_X9_readsRest_94 : decode X9_readsRest.2.1 94 = .ok (.aload_n 0, 1) := by decide +kernel
theorem dd_X9_readsRest_95 : decode X9_readsRest.2.1 95 = .ok (.iconst 1, 1) := by decide +kernel
theorem dd_X9_readsRest_96 : decode X9_readsRest.2.1 96 = .ok (.iconst 0, 1) := by decide +kernel
theorem dd_X9_readsRest_97 : decode X9_readsRest.2.1 97 = .ok (.aload_n 0, 1) := by decide +kernel
theorem dd_X9_readsRest_98 : decode X9_readsRest.2.1 98 = .ok (.getfield 153, 3) := by decide +kernel
theorem dd_X9_readsRest_101 : decode X9_readsRest.2.1 101 = .ok (.iconst 1, 1) := by decide +kernel
theorem dd_X9_readsRest_102 : decode X9_readsRest.2.1 102 = .ok (.isub, 1) := by decide +kernel
theorem dd_X9_readsRest_103 : decode X9_readsRest.2.1 103 = .ok (.invokevirtual 142, 3) := by decide +kernel
theorem dd_X9_readsRest_106 : decode X9_readsRest.2.1 106 = .ok (.ifCond .eq 7, 3) := by decide +kernel
theorem dd_X9_readsRest_109 : decode X9_readsRest.2.1 109 = .ok (.iconst 1, 1) := by decide +kernel
theorem dd_X9_readsRest_110 : decode X9_readsRest.2.1 110 = .ok (.goto 4, 3) := by decide +kernel
theorem dd_X9_readsRest_113 : decode X9_readsRest.2.1 113 = .ok (.iconst 0, 1) := by decide +kernel
theorem dd_X9_readsRest_114 : decode X9_readsRest.2.1 114 = .ok (.ireturn, 1) := by decide +kernel
theorem dd_X9_does_0 : decode X9_does.2.1 0 = .ok (.iload_n 1, 1) := by decide +kernel
theorem dd_X9_does_1 : decode X9_does.2.1 1 = .ok (.tableswitch 132 0 4 #[35, 48, 61, 74, 102], 35) := by decide +kernel
theorem dd_X9_does_36 : decode X9_does.2.1 36 = .ok (.aload_n 0, 1) := by decide +kernel
theorem dd_X9_does_37 : decode X9_does.2.1 37 = .ok (.aload_n 0, 1) := by decide +kernel
theorem dd_X9_does_38 : decode X9_does.2.1 38 = .ok (.getfield 38, 3) := by decide +kernel
theorem dd_X9_does_41 : decode X9_does.2.1 41 = .ok (.iconst 0, 1) := by decide +kernel
theorem dd_X9_does_42 : decode X9_does.2.1 42 = .ok (.iaload, 1) := by decide +kernel
theorem dd_X9_does_43 : decode X9_does.2.1 43 = .ok (.invokevirtual 78, 3) := by decide +kernel
theorem dd_X9_does_46 : decode X9_does.2.1 46 = .ok (.goto 107, 3) := by decide +kernel
theorem dd_X9_does_49 : decode X9_does.2.1 49 = .ok (.aload_n 0, 1) := by decide +kernel
theorem dd_X9_does_50 : decode X9_does.2.1 50 = .ok (.aload_n 0, 1) := by decide +kernel
theorem dd_X9_does_51 : decode X9_does.2.1 51 = .ok (.getfield 38, 3) := by decide +kernel
theorem dd_X9_does_54 : decode X9_does.2.1 54 = .ok (.iconst 0, 1) := by decide +kernel
theorem dd_X9_does_55 : decode X9_does.2.1 55 = .ok (.iaload, 1) := by decide +kernel
theorem dd_X9_does_56 : decode X9_does.2.1 56 = .ok (.putfield 90, 3) := by decide +kernel
theorem dd_X9_does_59 : decode X9_does.2.1 59 = .ok (.goto 94, 3) := by decide +kernel
theorem dd_X9_does_62 : decode X9_does.2.1 62 = .ok (.aload_n 0, 1) := by decide +kernel
theorem dd_X9_does_63 : decode X9_does.2.1 63 = .ok (.aload_n 0, 1) := by decide +kernel
theorem dd_X9_does_64 : decode X9_does.2.1 64 = .ok (.getfield 38, 3) := by decide +kernel
theorem dd_X9_does_67 : decode X9_does.2.1 67 = .ok (.iconst 0, 1) := by decide +kernel
theorem dd_X9_does_68 : decode X9_does.2.1 68 = .ok (.iaload, 1) := by decide +kernel
theorem dd_X9_does_69 : decode X9_does.2.1 69 = .ok (.putfield 93, 3) := by decide +kernel
theorem dd_X9_does_72 : decode X9_does.2.1 72 = .ok (.goto 81, 3) := by decide +kernel
theorem dd_X9_does_75 : decode X9_does.2.1 75 = .ok (.aload_n 0, 1) := by decide +kernel
theorem dd_X9_does_76 : decode X9_does.2.1 76 = .ok (.getfield 13, 3) := by decide +kernel
theorem dd_X9_does_79 : decode X9_does.2.1 79 = .ok (.aload_n 0, 1) := by decide +kernel
theorem dd_X9_does_80 : decode X9_does.2.1 80 = .ok (.getfield 96, 3) := by decide +kernel
theorem dd_X9_does_83 : decode X9_does.2.1 83 = .ok (.aload_n 0, 1) := by decide +kernel
theorem dd_X9_does_84 : decode X9_does.2.1 84 = .ok (.getfield 38, 3) := by decide +kernel
theorem dd_X9_does_87 : decode X9_does.2.1 87 = .ok (.iconst 0, 1) := by decide +kernel
theorem dd_X9_does_88 : decode X9_does.2.1 88 = .ok (.iaload, 1) := by decide +kernel
theorem dd_X9_does_89 : decode X9_does.2.1 89 = .ok (.iastore, 1) := by decide +kernel
theorem dd_X9_does_90 : decode X9_does.2.1 90 = .ok (.aload_n 0, 1) := by decide +kernel
theorem dd_X9_does_91 : decode X9_does.2.1 91 = .ok (.dup, 1) := by decide +kernel
theorem dd_X9_does_92 : decode X9_does.2.1 92 = .ok (.getfield 96, 3) := by decide +kernel
theorem dd_X9_does_95 : decode X9_does.2.1 95 = .ok (.iconst 1, 1) := by decide +kernel
theorem dd_X9_does_96 : decode X9_does.2.1 96 = .ok (.iadd, 1) := by decide +kernel
theorem dd_X9_does_97 : decode X9_does.2.1 97 = .ok (.putfield 96, 3) := by decide +kernel
theorem dd_X9_does_100 : decode X9_does.2.1 100 = .ok (.goto 53, 3) := by decide +kernel
theorem dd_X9_does_103 : decode X9_does.2.1 103 = .ok (.aload_n 0, 1) := by decide +kernel
theorem dd_X9_does_104 : decode X9_does.2.1 104 = .ok (.getfield 7, 3) := by decide +kernel
theorem dd_X9_does_107 : decode X9_does.2.1 107 = .ok (.iconst 0, 1) := by decide +kernel
theorem dd_X9_does_108 : decode X9_does.2.1 108 = .ok (.aload_n 0, 1) := by decide +kernel
theorem dd_X9_does_109 : decode X9_does.2.1 109 = .ok (.getfield 99, 3) := by decide +kernel
theorem dd_X9_does_112 : decode X9_does.2.1 112 = .ok (.iadd, 1) := by decide +kernel
theorem dd_X9_does_113 : decode X9_does.2.1 113 = .ok (.aload_n 0, 1) := by decide +kernel
theorem dd_X9_does_114 : decode X9_does.2.1 114 = .ok (.getfield 38, 3) := by decide +kernel
theorem dd_X9_does_117 : decode X9_does.2.1 117 = .ok (.iconst 0, 1) := by decide +kernel
theorem dd_X9_does_118 : decode X9_does.2.1 118 = .ok (.iaload, 1) := by decide +kernel
theorem dd_X9_does_119 : decode X9_does.2.1 119 = .ok (.iastore, 1) := by decide +kernel
theorem dd_X9_does_120 : decode X9_does.2.1 120 = .ok (.aload_n 0, 1) := by decide +kernel
theorem dd_X9_does_121 : decode X9_does.2.1 121 = .ok (.dup, 1) := by decide +kernel
theorem dd_X9_does_122 : decode X9_does.2.1 122 = .ok (.getfield 99, 3) := by decide +kernel
theorem dd_X9_does_125 : decode X9_does.2.1 125 = .ok (.iconst 1, 1) := by decide +kernel
theorem dd_X9_does_126 : decode X9_does.2.1 126 = .ok (.iadd, 1) := by decide +kernel
theorem dd_X9_does_127 : decode X9_does.2.1 127 = .ok (.putfield 99, 3) := by decide +kernel
theorem dd_X9_does_130 : decode X9_does.2.1 130 = .ok (.goto 23, 3) := by decide +kernel
theorem dd_X9_does_133 : decode X9_does.2.1 133 = .ok (.aload_n 0, 1) := by decide +kernel
theorem dd_X9_does_134 : decode X9_does.2.1 134 = .ok (.getfield 7, 3) := by decide +kernel
theorem dd_X9_does_137 : decode X9_does.2.1 137 = .ok (.bipush 6, 2) := by decide +kernel
theorem dd_X9_does_139 : decode X9_does.2.1 139 = .ok (.aload_n 0, 1) := by decide +kernel
theorem dd_X9_does_140 : decode X9_does.2.1 140 = .ok (.getfield 38, 3) := by decide +kernel
theorem dd_X9_does_143 : decode X9_does.2.1 143 = .ok (.iconst 0, 1) := by decide +kernel
theorem dd_X9_does_144 : decode X9_does.2.1 144 = .ok (.iaload, 1) := by decide +kernel
theorem dd_X9_does_145 : decode X9_does.2.1 145 = .ok (.iadd, 1) := by decide +kernel
theorem dd_X9_does_146 : decode X9_does.2.1 146 = .ok (.aload_n 0, 1) := by decide +kernel
theorem dd_X9_does_147 : decode X9_does.2.1 147 = .ok (.getfield 38, 3) := by decide +kernel
theorem dd_X9_does_150 : decode X9_does.2.1 150 = .ok (.iconst 1, 1) := by decide +kernel
theorem dd_X9_does_151 : decode X9_does.2.1 151 = .ok (.iaload, 1) := by decide +kernel
theorem dd_X9_does_152 : decode X9_does.2.1 152 = .ok (.iastore, 1) := by decide +kernel
theorem dd_X9_does_153 : decode X9_does.2.1 153 = .ok (.return_, 1) := by decide +kernel
theorem dd_X9_readsClause_0 : decode X9_readsClause.2.1 0 = .ok (.aload_n 0, 1) := by decide +kernel
theorem dd_X9_readsClause_1 : decode X9_readsClause.2.1 1 = .ok (.invokevirtual 156, 3) := by decide +kernel
theorem dd_X9_readsClause_4 : decode X9_readsClause.2.1 4 = .ok (.istore_n 1, 1) := by decide +kernel
theorem dd_X9_readsClause_5 : decode X9_readsClause.2.1 5 = .ok (.iload_n 1, 1) := by decide +kernel
theorem dd_X9_readsClause_6 : decode X9_readsClause.2.1 6 = .ok (.iconst (-1), 1) := by decide +kernel
theorem dd_X9_readsClause_7 : decode X9_readsClause.2.1 7 = .ok (.if_icmp .eq 31, 3) := by decide +kernel
theorem dd_X9_readsClause_10 : decode X9_readsClause.2.1 10 = .ok (.iload_n 1, 1) := by decide +kernel
theorem dd_X9_readsClause_11 : decode X9_readsClause.2.1 11 = .ok (.iconst 3, 1) := by decide +kernel
theorem dd_X9_readsClause_12 : decode X9_readsClause.2.1 12 = .ok (.if_icmp .ne 12, 3) := by decide +kernel
theorem dd_X9_readsClause_15 : decode X9_readsClause.2.1 15 = .ok (.aload_n 0, 1) := by decide +kernel
theorem dd_X9_readsClause_16 : decode X9_readsClause.2.1 16 = .ok (.getfield 153, 3) := by decide +kernel
theorem dd_X9_readsClause_19 : decode X9_readsClause.2.1 19 = .ok (.bipush 8, 2) := by decide +kernel
theorem dd_X9_readsClause_21 : decode X9_readsClause.2.1 21 = .ok (.if_icmp .eq 17, 3) := by decide +kernel
theorem dd_X9_readsClause_24 : decode X9_readsClause.2.1 24 = .ok (.iload_n 1, 1) := by decide +kernel
theorem dd_X9_readsClause_25 : decode X9_readsClause.2.1 25 = .ok (.iconst 4, 1) := by decide +kernel
theorem dd_X9_readsClause_26 : decode X9_readsClause.2.1 26 = .ok (.if_icmp .ne 14, 3) := by decide +kernel
theorem dd_X9_readsClause_29 : decode X9_readsClause.2.1 29 = .ok (.aload_n 0, 1) := by decide +kernel
theorem dd_X9_readsClause_30 : decode X9_readsClause.2.1 30 = .ok (.getfield 150, 3) := by decide +kernel
theorem dd_X9_readsClause_33 : decode X9_readsClause.2.1 33 = .ok (.bipush 6, 2) := by decide +kernel
theorem dd_X9_readsClause_35 : decode X9_readsClause.2.1 35 = .ok (.if_icmp .ne 5, 3) := by decide +kernel
theorem dd_X9_readsClause_38 : decode X9_readsClause.2.1 38 = .ok (.iconst 0, 1) := by decide +kernel
theorem dd_X9_readsClause_39 : decode X9_readsClause.2.1 39 = .ok (.ireturn, 1) := by decide +kernel
theorem dd_X9_readsClause_40 : decode X9_readsClause.2.1 40 = .ok (.aload_n 0, 1) := by decide +kernel
theorem dd_X9_readsClause_41 : decode X9_readsClause.2.1 41 = .ok (.invokevirtual 132, 3) := by decide +kernel
theorem dd_X9_readsClause_44 : decode X9_readsClause.2.1 44 = .ok (.aload_n 0, 1) := by decide +kernel
theorem dd_X9_readsClause_45 : decode X9_readsClause.2.1 45 = .ok (.iload_n 1, 1) := by decide +kernel
theorem dd_X9_readsClause_46 : decode X9_readsClause.2.1 46 = .ok (.invokevirtual 160, 3) := by decide +kernel
theorem dd_X9_readsClause_49 : decode X9_readsClause.2.1 49 = .ok (.ifCond .ne 5, 3) := by decide +kernel
theorem dd_X9_readsClause_52 : decode X9_readsClause.2.1 52 = .ok (.iconst 0, 1) := by decide +kernel
theorem dd_X9_readsClause_53 : decode X9_readsClause.2.1 53 = .ok (.ireturn, 1) := by decide +kernel
theorem dd_X9_readsClause_54 : decode X9_readsClause.2.1 54 = .ok (.aload_n 0, 1) := by decide +kernel
theorem dd_X9_readsClause_55 : decode X9_readsClause.2.1 55 = .ok (.iload_n 1, 1) := by decide +kernel
theorem dd_X9_readsClause_56 : decode X9_readsClause.2.1 56 = .ok (.ifCond .ne 12, 3) := by decide +kernel
theorem dd_X9_readsClause_59 : decode X9_readsClause.2.1 59 = .ok (.aload_n 0, 1) := by decide +kernel
theorem dd_X9_readsClause_60 : decode X9_readsClause.2.1 60 = .ok (.getfield 38, 3) := by decide +kernel
theorem dd_X9_readsClause_63 : decode X9_readsClause.2.1 63 = .ok (.iconst 0, 1) := by decide +kernel
theorem dd_X9_readsClause_64 : decode X9_readsClause.2.1 64 = .ok (.iaload, 1) := by decide +kernel
theorem dd_X9_readsClause_65 : decode X9_readsClause.2.1 65 = .ok (.goto 7, 3) := by decide +kernel
theorem dd_X9_readsClause_68 : decode X9_readsClause.2.1 68 = .ok (.aload_n 0, 1) := by decide +kernel
theorem dd_X9_readsClause_69 : decode X9_readsClause.2.1 69 = .ok (.getfield 135, 3) := by decide +kernel
theorem dd_X9_readsClause_72 : decode X9_readsClause.2.1 72 = .ok (.putfield 135, 3) := by decide +kernel
theorem dd_X9_readsClause_75 : decode X9_readsClause.2.1 75 = .ok (.aload_n 0, 1) := by decide +kernel
theorem dd_X9_readsClause_76 : decode X9_readsClause.2.1 76 = .ok (.iload_n 1, 1) := by decide +kernel
theorem dd_X9_readsClause_77 : decode X9_readsClause.2.1 77 = .ok (.ifCond .ne 7, 3) := by decide +kernel
theorem dd_X9_readsClause_80 : decode X9_readsClause.2.1 80 = .ok (.iconst 0, 1) := by decide +kernel
theorem dd_X9_readsClause_81 : decode X9_readsClause.2.1 81 = .ok (.goto 21, 3) := by decide +kernel
theorem dd_X9_readsClause_84 : decode X9_readsClause.2.1 84 = .ok (.iload_n 1, 1) := by decide +kernel
theorem dd_X9_readsClause_85 : decode X9_readsClause.2.1 85 = .ok (.iconst 3, 1) := by decide +kernel
theorem dd_X9_readsClause_86 : decode X9_readsClause.2.1 86 = .ok (.if_icmp .ne 12, 3) := by decide +kernel
theorem dd_X9_readsClause_89 : decode X9_readsClause.2.1 89 = .ok (.aload_n 0, 1) := by decide +kernel
theorem dd_X9_readsClause_90 : decode X9_readsClause.2.1 90 = .ok (.getfield 153, 3) := by decide +kernel
theorem dd_X9_readsClause_93 : decode X9_readsClause.2.1 93 = .ok (.iconst 1, 1) := by decide +kernel
theorem dd_X9_readsClause_94 : decode X9_readsClause.2.1 94 = .ok (.iadd, 1) := by decide +kernel
theorem dd_X9_readsClause_95 : decode X9_readsClause.2.1 95 = .ok (.goto 7, 3) := by decide +kernel
theorem dd_X9_readsClause_98 : decode X9_readsClause.2.1 98 = .ok (.aload_n 0, 1) := by decide +kernel
theorem dd_X9_readsClause_99 : decode X9_readsClause.2.1 99 = .ok (.getfield 153, 3) := by decide +kernel
theorem dd_X9_readsClause_102 : decode X9_readsClause.2.1 102 = .ok (.putfield 153, 3) := by decide +kernel
theorem dd_X9_readsClause_105 : decode X9_readsClause.2.1 105 = .ok (.aload_n 0, 1) := by decide +kernel
theorem dd_X9_readsClause_106 : decode X9_readsClause.2.1 106 = .ok (.iload_n 1, 1) := by decide +kernel
theorem dd_X9_readsClause_107 : decode X9_readsClause.2.1 107 = .ok (.ifCond .ne 7, 3) := by decide +kernel
theorem dd_X9_readsClause_110 : decode X9_readsClause.2.1 110 = .ok (.iconst 0, 1) := by decide +kernel
theorem dd_X9_readsClause_111 : decode X9_readsClause.2.1 111 = .ok (.goto 21, 3) := by decide +kernel
theorem dd_X9_readsClause_114 : decode X9_readsClause.2.1 114 = .ok (.iload_n 1, 1) := by decide +kernel
theorem dd_X9_readsClause_115 : decode X9_readsClause.2.1 115 = .ok (.iconst 4, 1) := by decide +kernel
theorem dd_X9_readsClause_116 : decode X9_readsClause.2.1 116 = .ok (.if_icmp .ne 12, 3) := by decide +kernel
theorem dd_X9_readsClause_119 : decode X9_readsClause.2.1 119 = .ok (.aload_n 0, 1) := by decide +kernel
theorem dd_X9_readsClause_120 : decode X9_readsClause.2.1 120 = .ok (.getfield 150, 3) := by decide +kernel
theorem dd_X9_readsClause_123 : decode X9_readsClause.2.1 123 = .ok (.iconst 1, 1) := by decide +kernel
theorem dd_X9_readsClause_124 : decode X9_readsClause.2.1 124 = .ok (.iadd, 1) := by decide +kernel
theorem dd_X9_readsClause_125 : decode X9_readsClause.2.1 125 = .ok (.goto 7, 3) := by decide +kernel
theorem dd_X9_readsClause_128 : decode X9_readsClause.2.1 128 = .ok (.aload_n 0, 1) := by decide +kernel
theorem dd_X9_readsClause_129 : decode X9_readsClause.2.1 129 = .ok (.getfield 150, 3) := by decide +kernel
theorem dd_X9_readsClause_132 : decode X9_readsClause.2.1 132 = .ok (.putfield 150, 3) := by decide +kernel
theorem dd_X9_readsClause_135 : decode X9_readsClause.2.1 135 = .ok (.aload_n 0, 1) := by decide +kernel
theorem dd_X9_readsClause_136 : decode X9_readsClause.2.1 136 = .ok (.getfield 163, 3) := by decide +kernel
theorem dd_X9_readsClause_139 : decode X9_readsClause.2.1 139 = .ok (.ifCond .eq 8, 3) := by decide +kernel
theorem dd_X9_readsClause_142 : decode X9_readsClause.2.1 142 = .ok (.aload_n 0, 1) := by decide +kernel
theorem dd_X9_readsClause_143 : decode X9_readsClause.2.1 143 = .ok (.iload_n 1, 1) := by decide +kernel
theorem dd_X9_readsClause_144 : decode X9_readsClause.2.1 144 = .ok (.invokevirtual 167, 3) := by decide +kernel
theorem dd_X9_readsClause_147 : decode X9_readsClause.2.1 147 = .ok (.iconst 1, 1) := by decide +kernel
theorem dd_X9_readsClause_148 : decode X9_readsClause.2.1 148 = .ok (.ireturn, 1) := by decide +kernel
theorem dd_X9_reads_0 : decode X9_reads.2.1 0 = .ok (.aload_n 0, 1) := by decide +kernel
theorem dd_X9_reads_1 : decode X9_reads.2.1 1 = .ok (.iload_n 1, 1) := by decide +kernel
theorem dd_X9_reads_2 : decode X9_reads.2.1 2 = .ok (.putfield 163, 3) := by decide +kernel
theorem dd_X9_reads_5 : decode X9_reads.2.1 5 = .ok (.aload_n 0, 1) := by decide +kernel
theorem dd_X9_reads_6 : decode X9_reads.2.1 6 = .ok (.iconst 0, 1) := by decide +kernel
theorem dd_X9_reads_7 : decode X9_reads.2.1 7 = .ok (.putfield 119, 3) := by decide +kernel
theorem dd_X9_reads_10 : decode X9_reads.2.1 10 = .ok (.aload_n 0, 1) := by decide +kernel
theorem dd_X9_reads_11 : decode X9_reads.2.1 11 = .ok (.iconst 1, 1) := by decide +kernel
theorem dd_X9_reads_12 : decode X9_reads.2.1 12 = .ok (.putfield 170, 3) := by decide +kernel
theorem dd_X9_reads_15 : decode X9_reads.2.1 15 = .ok (.aload_n 0, 1) := by decide +kernel
theorem dd_X9_reads_16 : decode X9_reads.2.1 16 = .ok (.aload_n 0, 1) := by decide +kernel
theorem dd_X9_reads_17 : decode X9_reads.2.1 17 = .ok (.getfield 86, 3) := by decide +kernel
theorem dd_X9_reads_20 : decode X9_reads.2.1 20 = .ok (.putfield 135, 3) := by decide +kernel
theorem dd_X9_reads_23 : decode X9_reads.2.1 23 = .ok (.aload_n 0, 1) := by decide +kernel
theorem dd_X9_reads_24 : decode X9_reads.2.1 24 = .ok (.aload_n 0, 1) := by decide +kernel
theorem dd_X9_reads_25 : decode X9_reads.2.1 25 = .ok (.getfield 96, 3) := by decide +kernel
theorem dd_X9_reads_28 : decode X9_reads.2.1 28 = .ok (.putfield 153, 3) := by decide +kernel
theorem dd_X9_reads_31 : decode X9_reads.2.1 31 = .ok (.aload_n 0, 1) := by decide +kernel
theorem dd_X9_reads_32 : decode X9_reads.2.1 32 = .ok (.aload_n 0, 1) := by decide +kernel
theorem dd_X9_reads_33 : decode X9_reads.2.1 33 = .ok (.getfield 99, 3) := by decide +kernel
theorem dd_X9_reads_36 : decode X9_reads.2.1 36 = .ok (.putfield 150, 3) := by decide +kernel
theorem dd_X9_reads_39 : decode X9_reads.2.1 39 = .ok (.aload_n 0, 1) := by decide +kernel
theorem dd_X9_reads_40 : decode X9_reads.2.1 40 = .ok (.invokevirtual 132, 3) := by decide +kernel
theorem dd_X9_reads_43 : decode X9_reads.2.1 43 = .ok (.aload_n 0, 1) := by decide +kernel
theorem dd_X9_reads_44 : decode X9_reads.2.1 44 = .ok (.invokevirtual 173, 3) := by decide +kernel
theorem dd_X9_reads_47 : decode X9_reads.2.1 47 = .ok (.istore_n 2, 1) := by decide +kernel
theorem dd_X9_reads_48 : decode X9_reads.2.1 48 = .ok (.iload_n 2, 1) := by decide +kernel
theorem dd_X9_reads_49 : decode X9_reads.2.1 49 = .ok (.ifCond .eq 69, 3) := by decide +kernel
theorem dd_X9_reads_52 : decode X9_reads.2.1 52 = .ok (.aload_n 0, 1) := by decide +kernel
theorem dd_X9_reads_53 : decode X9_reads.2.1 53 = .ok (.getfield 122, 3) := by decide +kernel
theorem dd_X9_reads_56 : decode X9_reads.2.1 56 = .ok (.aload_n 0, 1) := by decide +kernel
theorem dd_X9_reads_57 : decode X9_reads.2.1 57 = .ok (.getfield 108, 3) := by decide +kernel
theorem dd_X9_reads_60 : decode X9_reads.2.1 60 = .ok (.if_icmp .ge 58, 3) := by decide +kernel
theorem dd_X9_reads_63 : decode X9_reads.2.1 63 = .ok (.aload_n 0, 1) := by decide +kernel
theorem dd_X9_reads_64 : decode X9_reads.2.1 64 = .ok (.getfield 170, 3) := by decide +kernel
theorem dd_X9_reads_67 : decode X9_reads.2.1 67 = .ok (.bipush 24, 2) := by decide +kernel
theorem dd_X9_reads_69 : decode X9_reads.2.1 69 = .ok (.if_icmp .ge 21, 3) := by decide +kernel
theorem dd_X9_reads_72 : decode X9_reads.2.1 72 = .ok (.aload_n 0, 1) := by decide +kernel
theorem dd_X9_reads_73 : decode X9_reads.2.1 73 = .ok (.getfield 20, 3) := by decide +kernel
theorem dd_X9_reads_76 : decode X9_reads.2.1 76 = .ok (.aload_n 0, 1) := by decide +kernel
theorem dd_X9_reads_77 : decode X9_reads.2.1 77 = .ok (.getfield 122, 3) := by decide +kernel
theorem dd_X9_reads_80 : decode X9_reads.2.1 80 = .ok (.iaload, 1) := by decide +kernel
theorem dd_X9_reads_81 : decode X9_reads.2.1 81 = .ok (.bipush 59, 2) := by decide +kernel
theorem dd_X9_reads_83 : decode X9_reads.2.1 83 = .ok (.if_icmp .ne 7, 3) := by decide +kernel
theorem dd_X9_reads_86 : decode X9_reads.2.1 86 = .ok (.iconst 1, 1) := by decide +kernel
theorem dd_X9_reads_87 : decode X9_reads.2.1 87 = .ok (.goto 4, 3) := by decide +kernel
theorem dd_X9_reads_90 : decode X9_reads.2.1 90 = .ok (.iconst 0, 1) := by decide +kernel
theorem dd_X9_reads_91 : decode X9_reads.2.1 91 = .ok (.istore_n 2, 1) := by decide +kernel
theorem dd_X9_reads_92 : decode X9_reads.2.1 92 = .ok (.iload_n 2, 1) := by decide +kernel
theorem dd_X9_reads_93 : decode X9_reads.2.1 93 = .ok (.ifCond .eq (-45), 3) := by decide +kernel
theorem dd_X9_reads_96 : decode X9_reads.2.1 96 = .ok (.aload_n 0, 1) := by decide +kernel
theorem dd_X9_reads_97 : decode X9_reads.2.1 97 = .ok (.invokevirtual 132, 3) := by decide +kernel
theorem dd_X9_reads_100 : decode X9_reads.2.1 100 = .ok (.aload_n 0, 1) := by decide +kernel
theorem dd_X9_reads_101 : decode X9_reads.2.1 101 = .ok (.invokevirtual 173, 3) := by decide +kernel
theorem dd_X9_reads_104 : decode X9_reads.2.1 104 = .ok (.istore_n 2, 1) := by decide +kernel
theorem dd_X9_reads_105 : decode X9_reads.2.1 105 = .ok (.aload_n 0, 1) := by decide +kernel
theorem dd_X9_reads_106 : decode X9_reads.2.1 106 = .ok (.dup, 1) := by decide +kernel
theorem dd_X9_reads_107 : decode X9_reads.2.1 107 = .ok (.getfield 170, 3) := by decide +kernel
theorem dd_X9_reads_110 : decode X9_reads.2.1 110 = .ok (.iconst 1, 1) := by decide +kernel
theorem dd_X9_reads_111 : decode X9_reads.2.1 111 = .ok (.iadd, 1) := by decide +kernel
theorem dd_X9_reads_112 : decode X9_reads.2.1 112 = .ok (.putfield 170, 3) := by decide +kernel
theorem dd_X9_reads_115 : decode X9_reads.2.1 115 = .ok (.goto (-67), 3) := by decide +kernel
theorem dd_X9_reads_118 : decode X9_reads.2.1 118 = .ok (.iload_n 2, 1) := by decide +kernel
theorem dd_X9_reads_119 : decode X9_reads.2.1 119 = .ok (.ireturn, 1) := by decide +kernel
theorem dd_X9_fault_0 : decode X9_fault.2.1 0 = .ok (.aload_n 0, 1) := by decide +kernel
theorem dd_X9_fault_1 : decode X9_fault.2.1 1 = .ok (.iconst 0, 1) := by decide +kernel
theorem dd_X9_fault_2 : decode X9_fault.2.1 2 = .ok (.invokevirtual 176, 3) := by decide +kernel
theorem dd_X9_fault_5 : decode X9_fault.2.1 5 = .ok (.ifCond .eq 7, 3) := by decide +kernel
theorem dd_X9_fault_8 : decode X9_fault.2.1 8 = .ok (.iconst (-1), 1) := by decide +kernel
theorem dd_X9_fault_9 : decode X9_fault.2.1 9 = .ok (.goto 7, 3) := by decide +kernel
theorem dd_X9_fault_12 : decode X9_fault.2.1 12 = .ok (.aload_n 0, 1) := by decide +kernel
theorem dd_X9_fault_13 : decode X9_fault.2.1 13 = .ok (.getfield 122, 3) := by decide +kernel
theorem dd_X9_fault_16 : decode X9_fault.2.1 16 = .ok (.ireturn, 1) := by decide +kernel
theorem dd_X9_office_0 : decode X9_office.2.1 0 = .ok (.aload_n 0, 1) := by decide +kernel
theorem dd_X9_office_1 : decode X9_office.2.1 1 = .ok (.iconst 0, 1) := by decide +kernel
theorem dd_X9_office_2 : decode X9_office.2.1 2 = .ok (.invokevirtual 176, 3) := by decide +kernel
theorem dd_X9_office_5 : decode X9_office.2.1 5 = .ok (.ifCond .ne 6, 3) := by decide +kernel
theorem dd_X9_office_8 : decode X9_office.2.1 8 = .ok (.bipush (-4), 2) := by decide +kernel
theorem dd_X9_office_10 : decode X9_office.2.1 10 = .ok (.ireturn, 1) := by decide +kernel
theorem dd_X9_office_11 : decode X9_office.2.1 11 = .ok (.aload_n 0, 1) := by decide +kernel
theorem dd_X9_office_12 : decode X9_office.2.1 12 = .ok (.sipush 132, 3) := by decide +kernel
theorem dd_X9_office_15 : decode X9_office.2.1 15 = .ok (.iconst 0, 1) := by decide +kernel
theorem dd_X9_office_16 : decode X9_office.2.1 16 = .ok (.invokevirtual 82, 3) := by decide +kernel
theorem dd_X9_office_19 : decode X9_office.2.1 19 = .ok (.aload_n 0, 1) := by decide +kernel
theorem dd_X9_office_20 : decode X9_office.2.1 20 = .ok (.iconst 1, 1) := by decide +kernel
theorem dd_X9_office_21 : decode X9_office.2.1 21 = .ok (.invokevirtual 176, 3) := by decide +kernel
theorem dd_X9_office_24 : decode X9_office.2.1 24 = .ok (.pop, 1) := by decide +kernel
theorem dd_X9_office_25 : decode X9_office.2.1 25 = .ok (.aload_n 0, 1) := by decide +kernel
theorem dd_X9_office_26 : decode X9_office.2.1 26 = .ok (.iconst 0, 1) := by decide +kernel
theorem dd_X9_office_27 : decode X9_office.2.1 27 = .ok (.sipush 132, 3) := by decide +kernel
theorem dd_X9_office_30 : decode X9_office.2.1 30 = .ok (.invokevirtual 82, 3) := by decide +kernel
theorem dd_X9_office_33 : decode X9_office.2.1 33 = .ok (.aload_n 0, 1) := by decide +kernel
theorem dd_X9_office_34 : decode X9_office.2.1 34 = .ok (.iconst 0, 1) := by decide +kernel
theorem dd_X9_office_35 : decode X9_office.2.1 35 = .ok (.putfield 108, 3) := by decide +kernel
theorem dd_X9_office_38 : decode X9_office.2.1 38 = .ok (.aload_n 0, 1) := by decide +kernel
theorem dd_X9_office_39 : decode X9_office.2.1 39 = .ok (.iconst 0, 1) := by decide +kernel
theorem dd_X9_office_40 : decode X9_office.2.1 40 = .ok (.putfield 180, 3) := by decide +kernel
theorem dd_X9_office_43 : decode X9_office.2.1 43 = .ok (.aload_n 0, 1) := by decide +kernel
theorem dd_X9_office_44 : decode X9_office.2.1 44 = .ok (.getfield 16, 3) := by decide +kernel
theorem dd_X9_office_47 : decode X9_office.2.1 47 = .ok (.iconst 0, 1) := by decide +kernel
theorem dd_X9_office_48 : decode X9_office.2.1 48 = .ok (.iconst 0, 1) := by decide +kernel
theorem dd_X9_office_49 : decode X9_office.2.1 49 = .ok (.bastore, 1) := by decide +kernel
theorem dd_X9_office_50 : decode X9_office.2.1 50 = .ok (.aload_n 0, 1) := by decide +kernel
theorem dd_X9_office_51 : decode X9_office.2.1 51 = .ok (.getfield 16, 3) := by decide +kernel
theorem dd_X9_office_54 : decode X9_office.2.1 54 = .ok (.iconst 1, 1) := by decide +kernel
theorem dd_X9_office_55 : decode X9_office.2.1 55 = .ok (.iconst 0, 1) := by decide +kernel
theorem dd_X9_office_56 : decode X9_office.2.1 56 = .ok (.bastore, 1) := by decide +kernel
theorem dd_X9_office_57 : decode X9_office.2.1 57 = .ok (.aload_n 0, 1) := by decide +kernel
theorem dd_X9_office_58 : decode X9_office.2.1 58 = .ok (.iconst 0, 1) := by decide +kernel
theorem dd_X9_office_59 : decode X9_office.2.1 59 = .ok (.putfield 183, 3) := by decide +kernel
theorem dd_X9_office_62 : decode X9_office.2.1 62 = .ok (.iconst 0, 1) := by decide +kernel
theorem dd_X9_office_63 : decode X9_office.2.1 63 = .ok (.istore_n 1, 1) := by decide +kernel
theorem dd_X9_office_64 : decode X9_office.2.1 64 = .ok (.iload_n 1, 1) := by decide +kernel
theorem dd_X9_office_65 : decode X9_office.2.1 65 = .ok (.iconst 3, 1) := by decide +kernel
theorem dd_X9_office_66 : decode X9_office.2.1 66 = .ok (.if_icmp .ge 16, 3) := by decide +kernel
theorem dd_X9_office_69 : decode X9_office.2.1 69 = .ok (.aload_n 0, 1) := by decide +kernel
theorem dd_X9_office_70 : decode X9_office.2.1 70 = .ok (.getfield 32, 3) := by decide +kernel
theorem dd_X9_office_73 : decode X9_office.2.1 73 = .ok (.iload_n 1, 1) := by decide +kernel
theorem dd_X9_office_74 : decode X9_office.2.1 74 = .ok (.iconst (-1), 1) := by decide +kernel
theorem dd_X9_office_75 : decode X9_office.2.1 75 = .ok (.iastore, 1) := by decide +kernel
theorem dd_X9_office_76 : decode X9_office.2.1 76 = .ok (.iinc 1 1, 3) := by decide +kernel
theorem dd_X9_office_79 : decode X9_office.2.1 79 = .ok (.goto (-15), 3) := by decide +kernel
theorem dd_X9_office_82 : decode X9_office.2.1 82 = .ok (.aload_n 0, 1) := by decide +kernel
theorem dd_X9_office_83 : decode X9_office.2.1 83 = .ok (.getfield 170, 3) := by decide +kernel
theorem dd_X9_office_86 : decode X9_office.2.1 86 = .ok (.ireturn, 1) := by decide +kernel
theorem dd_X9_isRhythm_0 : decode X9_isRhythm.2.1 0 = .ok (.iload_n 1, 1) := by decide +kernel
theorem dd_X9_isRhythm_1 : decode X9_isRhythm.2.1 1 = .ok (.i2l, 1) := by decide +kernel
theorem dd_X9_isRhythm_2 : decode X9_isRhythm.2.1 2 = .ok (.lconst 0, 1) := by decide +kernel
theorem dd_X9_isRhythm_3 : decode X9_isRhythm.2.1 3 = .ok (.aload_n 0, 1) := by decide +kernel
theorem dd_X9_isRhythm_4 : decode X9_isRhythm.2.1 4 = .ok (.getfield 96, 3) := by decide +kernel
theorem dd_X9_isRhythm_7 : decode X9_isRhythm.2.1 7 = .ok (.iconst 1, 1) := by decide +kernel
theorem dd_X9_isRhythm_8 : decode X9_isRhythm.2.1 8 = .ok (.isub, 1) := by decide +kernel
theorem dd_X9_isRhythm_9 : decode X9_isRhythm.2.1 9 = .ok (.i2l, 1) := by decide +kernel
theorem dd_X9_isRhythm_10 : decode X9_isRhythm.2.1 10 = .ok (.invokestatic 104, 3) := by decide +kernel
theorem dd_X9_isRhythm_13 : decode X9_isRhythm.2.1 13 = .ok (.ireturn, 1) := by decide +kernel
theorem dd_X9_isLight_0 : decode X9_isLight.2.1 0 = .ok (.iload_n 1, 1) := by decide +kernel
theorem dd_X9_isLight_1 : decode X9_isLight.2.1 1 = .ok (.i2l, 1) := by decide +kernel
theorem dd_X9_isLight_2 : decode X9_isLight.2.1 2 = .ok (.lconst 0, 1) := by decide +kernel
theorem dd_X9_isLight_3 : decode X9_isLight.2.1 3 = .ok (.aload_n 0, 1) := by decide +kernel
theorem dd_X9_isLight_4 : decode X9_isLight.2.1 4 = .ok (.getfield 99, 3) := by decide +kernel
theorem dd_X9_isLight_7 : decode X9_isLight.2.1 7 = .ok (.iconst 1, 1) := by decide +kernel
theorem dd_X9_isLight_8 : decode X9_isLight.2.1 8 = .ok (.isub, 1) := by decide +kernel
theorem dd_X9_isLight_9 : decode X9_isLight.2.1 9 = .ok (.i2l, 1) := by decide +kernel
theorem dd_X9_isLight_10 : decode X9_isLight.2.1 10 = .ok (.invokestatic 104, 3) := by decide +kernel
theorem dd_X9_isLight_13 : decode X9_isLight.2.1 13 = .ok (.ireturn, 1) := by decide +kernel
theorem dd_X9_beatOf_0 : decode X9_beatOf.2.1 0 = .ok (.aload_n 0, 1) := by decide +kernel
theorem dd_X9_beatOf_1 : decode X9_beatOf.2.1 1 = .ok (.getfield 13, 3) := by decide +kernel
theorem dd_X9_beatOf_4 : decode X9_beatOf.2.1 4 = .ok (.iload_n 1, 1) := by decide +kernel
theorem dd_X9_beatOf_5 : decode X9_beatOf.2.1 5 = .ok (.iaload, 1) := by decide +kernel
theorem dd_X9_beatOf_6 : decode X9_beatOf.2.1 6 = .ok (.aload_n 0, 1) := by decide +kernel
theorem dd_X9_beatOf_7 : decode X9_beatOf.2.1 7 = .ok (.getfield 86, 3) := by decide +kernel
theorem dd_X9_beatOf_10 : decode X9_beatOf.2.1 10 = .ok (.iconst 1, 1) := by decide +kernel
theorem dd_X9_beatOf_11 : decode X9_beatOf.2.1 11 = .ok (.isub, 1) := by decide +kernel
theorem dd_X9_beatOf_12 : decode X9_beatOf.2.1 12 = .ok (.iload_n 2, 1) := by decide +kernel
theorem dd_X9_beatOf_13 : decode X9_beatOf.2.1 13 = .ok (.aload_n 0, 1) := by decide +kernel
theorem dd_X9_beatOf_14 : decode X9_beatOf.2.1 14 = .ok (.getfield 86, 3) := by decide +kernel
theorem dd_X9_beatOf_17 : decode X9_beatOf.2.1 17 = .ok (.irem, 1) := by decide +kernel
theorem dd_X9_beatOf_18 : decode X9_beatOf.2.1 18 = .ok (.isub, 1) := by decide +kernel
theorem dd_X9_beatOf_19 : decode X9_beatOf.2.1 19 = .ok (.ishr, 1) := by decide +kernel
theorem dd_X9_beatOf_20 : decode X9_beatOf.2.1 20 = .ok (.iconst 1, 1) := by decide +kernel
theorem dd_X9_beatOf_21 : decode X9_beatOf.2.1 21 = .ok (.iand, 1) := by decide +kernel
theorem dd_X9_beatOf_22 : decode X9_beatOf.2.1 22 = .ok (.ireturn, 1) := by decide +kernel
theorem dd_X9_rowOf_0 : decode X9_rowOf.2.1 0 = .ok (.iconst 0, 1) := by decide +kernel
theorem dd_X9_rowOf_1 : decode X9_rowOf.2.1 1 = .ok (.istore 4, 2) := by decide +kernel
theorem dd_X9_rowOf_3 : decode X9_rowOf.2.1 3 = .ok (.iconst 0, 1) := by decide +kernel
theorem dd_X9_rowOf_4 : decode X9_rowOf.2.1 4 = .ok (.istore 5, 2) := by decide +kernel
theorem dd_X9_rowOf_6 : decode X9_rowOf.2.1 6 = .ok (.iload 5, 2) := by decide +kernel
theorem dd_X9_rowOf_8 : decode X9_rowOf.2.1 8 = .ok (.iload_n 3, 1) := by decide +kernel
theorem dd_X9_rowOf_9 : decode X9_rowOf.2.1 9 = .ok (.if_icmp .ge 25, 3) := by decide +kernel
theorem dd_X9_rowOf_12 : decode X9_rowOf.2.1 12 = .ok (.iconst 2, 1) := by decide +kernel
theorem dd_X9_rowOf_13 : decode X9_rowOf.2.1 13 = .ok (.iload 4, 2) := by decide +kernel
theorem dd_X9_rowOf_15 : decode X9_rowOf.2.1 15 = .ok (.imul, 1) := by decide +kernel
theorem dd_X9_rowOf_16 : decode X9_rowOf.2.1 16 = .ok (.aload_n 0, 1) := by decide +kernel
theorem dd_X9_rowOf_17 : decode X9_rowOf.2.1 17 = .ok (.iload_n 1, 1) := by decide +kernel
theorem dd_X9_rowOf_18 : decode X9_rowOf.2.1 18 = .ok (.iload_n 2, 1) := by decide +kernel
theorem dd_X9_rowOf_19 : decode X9_rowOf.2.1 19 = .ok (.iload 5, 2) := by decide +kernel
theorem dd_X9_rowOf_21 : decode X9_rowOf.2.1 21 = .ok (.iadd, 1) := by decide +kernel
theorem dd_X9_rowOf_22 : decode X9_rowOf.2.1 22 = .ok (.invokevirtual 186, 3) := by decide +kernel
theorem dd_X9_rowOf_25 : decode X9_rowOf.2.1 25 = .ok (.iadd, 1) := by decide +kernel
theorem dd_X9_rowOf_26 : decode X9_rowOf.2.1 26 = .ok (.istore 4, 2) := by decide +kernel
theorem dd_X9_rowOf_28 : decode X9_rowOf.2.1 28 = .ok (.iinc 5 1, 3) := by decide +kernel
theorem dd_X9_rowOf_31 : decode X9_rowOf.2.1 31 = .ok (.goto (-25), 3) := by decide +kernel
theorem dd_X9_rowOf_34 : decode X9_rowOf.2.1 34 = .ok (.iload 4, 2) := by decide +kernel
theorem dd_X9_rowOf_36 : decode X9_rowOf.2.1 36 = .ok (.ireturn, 1) := by decide +kernel
theorem dd_X9_flashes_0 : decode X9_flashes.2.1 0 = .ok (.aload_n 0, 1) := by decide +kernel
theorem dd_X9_flashes_1 : decode X9_flashes.2.1 1 = .ok (.getfield 13, 3) := by decide +kernel
theorem dd_X9_flashes_4 : decode X9_flashes.2.1 4 = .ok (.iload_n 1, 1) := by decide +kernel
theorem dd_X9_flashes_5 : decode X9_flashes.2.1 5 = .ok (.iaload, 1) := by decide +kernel
theorem dd_X9_flashes_6 : decode X9_flashes.2.1 6 = .ok (.invokestatic 190, 3) := by decide +kernel
theorem dd_X9_flashes_9 : decode X9_flashes.2.1 9 = .ok (.ireturn, 1) := by decide +kernel
theorem dd_X9_leastTurn_0 : decode X9_leastTurn.2.1 0 = .ok (.iconst 0, 1) := by decide +kernel
theorem dd_X9_leastTurn_1 : decode X9_leastTurn.2.1 1 = .ok (.istore_n 2, 1) := by decide +kernel
theorem dd_X9_leastTurn_2 : decode X9_leastTurn.2.1 2 = .ok (.iconst 1, 1) := by decide +kernel
theorem dd_X9_leastTurn_3 : decode X9_leastTurn.2.1 3 = .ok (.istore_n 3, 1) := by decide +kernel
theorem dd_X9_leastTurn_4 : decode X9_leastTurn.2.1 4 = .ok (.iload_n 3, 1) := by decide +kernel
theorem dd_X9_leastTurn_5 : decode X9_leastTurn.2.1 5 = .ok (.aload_n 0, 1) := by decide +kernel
theorem dd_X9_leastTurn_6 : decode X9_leastTurn.2.1 6 = .ok (.getfield 86, 3) := by decide +kernel
theorem dd_X9_leastTurn_9 : decode X9_leastTurn.2.1 9 = .ok (.if_icmp .ge 38, 3) := by decide +kernel
theorem dd_X9_leastTurn_12 : decode X9_leastTurn.2.1 12 = .ok (.aload_n 0, 1) := by decide +kernel
theorem dd_X9_leastTurn_13 : decode X9_leastTurn.2.1 13 = .ok (.iload_n 1, 1) := by decide +kernel
theorem dd_X9_leastTurn_14 : decode X9_leastTurn.2.1 14 = .ok (.iload_n 3, 1) := by decide +kernel
theorem dd_X9_leastTurn_15 : decode X9_leastTurn.2.1 15 = .ok (.aload_n 0, 1) := by decide +kernel
theorem dd_X9_leastTurn_16 : decode X9_leastTurn.2.1 16 = .ok (.getfield 86, 3) := by decide +kernel
theorem dd_X9_leastTurn_19 : decode X9_leastTurn.2.1 19 = .ok (.invokevirtual 194, 3) := by decide +kernel
theorem dd_X9_leastTurn_22 : decode X9_leastTurn.2.1 22 = .ok (.aload_n 0, 1) := by decide +kernel
theorem dd_X9_leastTurn_23 : decode X9_leastTurn.2.1 23 = .ok (.iload_n 1, 1) := by decide +kernel
theorem dd_X9_leastTurn_24 : decode X9_leastTurn.2.1 24 = .ok (.iload_n 2, 1) := by decide +kernel
theorem dd_X9_leastTurn_25 : decode X9_leastTurn.2.1 25 = .ok (.aload_n 0, 1) := by decide +kernel
theorem dd_X9_leastTurn_26 : decode X9_leastTurn.2.1 26 = .ok (.getfield 86, 3) := by decide +kernel
theorem dd_X9_leastTurn_29 : decode X9_leastTurn.2.1 29 = .ok (.invokevirtual 194, 3) := by decide +kernel
theorem dd_X9_leastTurn_32 : decode X9_leastTurn.2.1 32 = .ok (.if_icmp .ge 7, 3) := by decide +kernel
theorem dd_X9_leastTurn_35 : decode X9_leastTurn.2.1 35 = .ok (.iload_n 3, 1) := by decide +kernel
theorem dd_X9_leastTurn_36 : decode X9_leastTurn.2.1 36 = .ok (.goto 4, 3) := by decide +kernel
theorem dd_X9_leastTurn_39 : decode X9_leastTurn.2.1 39 = .ok (.iload_n 2, 1) := by decide +kernel
theorem dd_X9_leastTurn_40 : decode X9_leastTurn.2.1 40 = .ok (.istore_n 2, 1) := by decide +kernel
theorem dd_X9_leastTurn_41 : decode X9_leastTurn.2.1 41 = .ok (.iinc 3 1, 3) := by decide +kernel
theorem dd_X9_leastTurn_44 : decode X9_leastTurn.2.1 44 = .ok (.goto (-40), 3) := by decide +kernel
theorem dd_X9_leastTurn_47 : decode X9_leastTurn.2.1 47 = .ok (.iload_n 2, 1) := by decide +kernel
theorem dd_X9_leastTurn_48 : decode X9_leastTurn.2.1 48 = .ok (.ireturn, 1) := by decide +kernel
theorem dd_X9_repeats_0 : decode X9_repeats.2.1 0 = .ok (.iconst 1, 1) := by decide +kernel
theorem dd_X9_repeats_1 : decode X9_repeats.2.1 1 = .ok (.istore_n 2, 1) := by decide +kernel
theorem dd_X9_repeats_2 : decode X9_repeats.2.1 2 = .ok (.aload_n 0, 1) := by decide +kernel
theorem dd_X9_repeats_3 : decode X9_repeats.2.1 3 = .ok (.iload_n 1, 1) := by decide +kernel
theorem dd_X9_repeats_4 : decode X9_repeats.2.1 4 = .ok (.iload_n 2, 1) := by decide +kernel
theorem dd_X9_repeats_5 : decode X9_repeats.2.1 5 = .ok (.aload_n 0, 1) := by decide +kernel
theorem dd_X9_repeats_6 : decode X9_repeats.2.1 6 = .ok (.getfield 86, 3) := by decide +kernel
theorem dd_X9_repeats_9 : decode X9_repeats.2.1 9 = .ok (.invokevirtual 194, 3) := by decide +kernel
theorem dd_X9_repeats_12 : decode X9_repeats.2.1 12 = .ok (.aload_n 0, 1) := by decide +kernel
theorem dd_X9_repeats_13 : decode X9_repeats.2.1 13 = .ok (.getfield 13, 3) := by decide +kernel
theorem dd_X9_repeats_16 : decode X9_repeats.2.1 16 = .ok (.iload_n 1, 1) := by decide +kernel
theorem dd_X9_repeats_17 : decode X9_repeats.2.1 17 = .ok (.iaload, 1) := by decide +kernel
theorem dd_X9_repeats_18 : decode X9_repeats.2.1 18 = .ok (.if_icmp .eq 9, 3) := by decide +kernel
theorem dd_X9_repeats_21 : decode X9_repeats.2.1 21 = .ok (.iinc 2 1, 3) := by decide +kernel
theorem dd_X9_repeats_24 : decode X9_repeats.2.1 24 = .ok (.goto (-22), 3) := by decide +kernel
theorem dd_X9_repeats_27 : decode X9_repeats.2.1 27 = .ok (.iload_n 2, 1) := by decide +kernel
theorem dd_X9_repeats_28 : decode X9_repeats.2.1 28 = .ok (.ireturn, 1) := by decide +kernel
theorem dd_X9_rhythm_0 : decode X9_rhythm.2.1 0 = .ok (.aload_n 0, 1) := by decide +kernel
theorem dd_X9_rhythm_1 : decode X9_rhythm.2.1 1 = .ok (.iload_n 1, 1) := by decide +kernel
theorem dd_X9_rhythm_2 : decode X9_rhythm.2.1 2 = .ok (.invokevirtual 198, 3) := by decide +kernel
theorem dd_X9_rhythm_5 : decode X9_rhythm.2.1 5 = .ok (.ifCond .ne 6, 3) := by decide +kernel
theorem dd_X9_rhythm_8 : decode X9_rhythm.2.1 8 = .ok (.bipush (-2), 2) := by decide +kernel
theorem dd_X9_rhythm_10 : decode X9_rhythm.2.1 10 = .ok (.ireturn, 1) := by decide +kernel
theorem dd_X9_rhythm_11 : decode X9_rhythm.2.1 11 = .ok (.iload_n 2, 1) := by decide +kernel
theorem dd_X9_rhythm_12 : decode X9_rhythm.2.1 12 = .ok (.tableswitch 76 0 4 #[36, 43, 58, 64, 70], 36) := by decide +kernel
theorem dd_X9_rhythm_48 : decode X9_rhythm.2.1 48 = .ok (.aload_n 0, 1) := by decide +kernel
theorem dd_X9_rhythm_49 : decode X9_rhythm.2.1 49 = .ok (.getfield 13, 3) := by decide +kernel
theorem dd_X9_rhythm_52 : decode X9_rhythm.2.1 52 = .ok (.iload_n 1, 1) := by decide +kernel
theorem dd_X9_rhythm_53 : decode X9_rhythm.2.1 53 = .ok (.iaload, 1) := by decide +kernel
theorem dd_X9_rhythm_54 : decode X9_rhythm.2.1 54 = .ok (.ireturn, 1) := by decide +kernel
theorem dd_X9_rhythm_55 : decode X9_rhythm.2.1 55 = .ok (.aload_n 0, 1) := by decide +kernel
theorem dd_X9_rhythm_56 : decode X9_rhythm.2.1 56 = .ok (.iload_n 1, 1) := by decide +kernel
theorem dd_X9_rhythm_57 : decode X9_rhythm.2.1 57 = .ok (.aload_n 0, 1) := by decide +kernel
theorem dd_X9_rhythm_58 : decode X9_rhythm.2.1 58 = .ok (.iload_n 1, 1) := by decide +kernel
theorem dd_X9_rhythm_59 : decode X9_rhythm.2.1 59 = .ok (.invokevirtual 201, 3) := by decide +kernel
theorem dd_X9_rhythm_62 : decode X9_rhythm.2.1 62 = .ok (.aload_n 0, 1) := by decide +kernel
theorem dd_X9_rhythm_63 : decode X9_rhythm.2.1 63 = .ok (.getfield 86, 3) := by decide +kernel
theorem dd_X9_rhythm_66 : decode X9_rhythm.2.1 66 = .ok (.invokevirtual 194, 3) := by decide +kernel
theorem dd_X9_rhythm_69 : decode X9_rhythm.2.1 69 = .ok (.ireturn, 1) := by decide +kernel
theorem dd_X9_rhythm_70 : decode X9_rhythm.2.1 70 = .ok (.aload_n 0, 1) := by decide +kernel
theorem dd_X9_rhythm_71 : decode X9_rhythm.2.1 71 = .ok (.iload_n 1, 1) := by decide +kernel
theorem dd_X9_rhythm_72 : decode X9_rhythm.2.1 72 = .ok (.invokevirtual 204, 3) := by decide +kernel
theorem dd_X9_rhythm_75 : decode X9_rhythm.2.1 75 = .ok (.ireturn, 1) := by decide +kernel
theorem dd_X9_rhythm_76 : decode X9_rhythm.2.1 76 = .ok (.aload_n 0, 1) := by decide +kernel
theorem dd_X9_rhythm_77 : decode X9_rhythm.2.1 77 = .ok (.iload_n 1, 1) := by decide +kernel
theorem dd_X9_rhythm_78 : decode X9_rhythm.2.1 78 = .ok (.invokevirtual 207, 3) := by decide +kernel
theorem dd_X9_rhythm_81 : decode X9_rhythm.2.1 81 = .ok (.ireturn, 1) := by decide +kernel
theorem dd_X9_rhythm_82 : decode X9_rhythm.2.1 82 = .ok (.aload_n 0, 1) := by decide +kernel
theorem dd_X9_rhythm_83 : decode X9_rhythm.2.1 83 = .ok (.iload_n 1, 1) := by decide +kernel
theorem dd_X9_rhythm_84 : decode X9_rhythm.2.1 84 = .ok (.invokevirtual 201, 3) := by decide +kernel
theorem dd_X9_rhythm_87 : decode X9_rhythm.2.1 87 = .ok (.ireturn, 1) := by decide +kernel
theorem dd_X9_rhythm_88 : decode X9_rhythm.2.1 88 = .ok (.bipush (-3), 2) := by decide +kernel
theorem dd_X9_rhythm_90 : decode X9_rhythm.2.1 90 = .ok (.ireturn, 1) := by decide +kernel
theorem dd_X9_isDimmed_0 : decode X9_isDimmed.2.1 0 = .ok (.iload_n 0, 1) := by decide +kernel
theorem dd_X9_isDimmed_1 : decode X9_isDimmed.2.1 1 = .ok (.iload_n 1, 1) := by decide +kernel
theorem dd_X9_isDimmed_2 : decode X9_isDimmed.2.1 2 = .ok (.iconst (-1), 1) := by decide +kernel
theorem dd_X9_isDimmed_3 : decode X9_isDimmed.2.1 3 = .ok (.ixor, 1) := by decide +kernel
theorem dd_X9_isDimmed_4 : decode X9_isDimmed.2.1 4 = .ok (.iand, 1) := by decide +kernel
theorem dd_X9_isDimmed_5 : decode X9_isDimmed.2.1 5 = .ok (.istore_n 2, 1) := by decide +kernel
theorem dd_X9_isDimmed_6 : decode X9_isDimmed.2.1 6 = .ok (.iload_n 1, 1) := by decide +kernel
theorem dd_X9_isDimmed_7 : decode X9_isDimmed.2.1 7 = .ok (.iload_n 0, 1) := by decide +kernel
theorem dd_X9_isDimmed_8 : decode X9_isDimmed.2.1 8 = .ok (.iconst (-1), 1) := by decide +kernel
theorem dd_X9_isDimmed_9 : decode X9_isDimmed.2.1 9 = .ok (.ixor, 1) := by decide +kernel
theorem dd_X9_isDimmed_10 : decode X9_isDimmed.2.1 10 = .ok (.iand, 1) := by decide +kernel
theorem dd_X9_isDimmed_11 : decode X9_isDimmed.2.1 11 = .ok (.ifCond .ne 15, 3) := by decide +kernel
theorem dd_X9_isDimmed_14 : decode X9_isDimmed.2.1 14 = .ok (.iload_n 2, 1) := by decide +kernel
theorem dd_X9_isDimmed_15 : decode X9_isDimmed.2.1 15 = .ok (.iload_n 2, 1) := by decide +kernel
theorem dd_X9_isDimmed_16 : decode X9_isDimmed.2.1 16 = .ok (.iconst 1, 1) := by decide +kernel
theorem dd_X9_isDimmed_17 : decode X9_isDimmed.2.1 17 = .ok (.isub, 1) := by decide +kernel
theorem dd_X9_isDimmed_18 : decode X9_isDimmed.2.1 18 = .ok (.iand, 1) := by decide +kernel
theorem dd_X9_isDimmed_19 : decode X9_isDimmed.2.1 19 = .ok (.ifCond .ne 7, 3) := by decide +kernel
theorem dd_X9_isDimmed_22 : decode X9_isDimmed.2.1 22 = .ok (.iconst 1, 1) := by decide +kernel
theorem dd_X9_isDimmed_23 : decode X9_isDimmed.2.1 23 = .ok (.goto 4, 3) := by decide +kernel
theorem dd_X9_isDimmed_26 : decode X9_isDimmed.2.1 26 = .ok (.iconst 0, 1) := by decide +kernel
theorem dd_X9_isDimmed_27 : decode X9_isDimmed.2.1 27 = .ok (.ireturn, 1) := by decide +kernel
theorem dd_X9_areLike_0 : decode X9_areLike.2.1 0 = .ok (.iconst 0, 1) := by decide +kernel
theorem dd_X9_areLike_1 : decode X9_areLike.2.1 1 = .ok (.istore 5, 2) := by decide +kernel
theorem dd_X9_areLike_3 : decode X9_areLike.2.1 3 = .ok (.iconst 0, 1) := by decide +kernel
theorem dd_X9_areLike_4 : decode X9_areLike.2.1 4 = .ok (.istore 6, 2) := by decide +kernel
theorem dd_X9_areLike_6 : decode X9_areLike.2.1 6 = .ok (.iload 6, 2) := by decide +kernel
theorem dd_X9_areLike_8 : decode X9_areLike.2.1 8 = .ok (.aload_n 0, 1) := by decide +kernel
theorem dd_X9_areLike_9 : decode X9_areLike.2.1 9 = .ok (.getfield 86, 3) := by decide +kernel
theorem dd_X9_areLike_12 : decode X9_areLike.2.1 12 = .ok (.aload_n 0, 1) := by decide +kernel
theorem dd_X9_areLike_13 : decode X9_areLike.2.1 13 = .ok (.getfield 86, 3) := by decide +kernel
theorem dd_X9_areLike_16 : decode X9_areLike.2.1 16 = .ok (.imul, 1) := by decide +kernel
theorem dd_X9_areLike_17 : decode X9_areLike.2.1 17 = .ok (.if_icmp .ge 83, 3) := by decide +kernel
theorem dd_X9_areLike_20 : decode X9_areLike.2.1 20 = .ok (.aload_n 0, 1) := by decide +kernel
theorem dd_X9_areLike_21 : decode X9_areLike.2.1 21 = .ok (.iload_n 1, 1) := by decide +kernel
theorem dd_X9_areLike_22 : decode X9_areLike.2.1 22 = .ok (.iload 6, 2) := by decide +kernel
theorem dd_X9_areLike_24 : decode X9_areLike.2.1 24 = .ok (.aload_n 0, 1) := by decide +kernel
theorem dd_X9_areLike_25 : decode X9_areLike.2.1 25 = .ok (.getfield 86, 3) := by decide +kernel
theorem dd_X9_areLike_28 : decode X9_areLike.2.1 28 = .ok (.idiv, 1) := by decide +kernel
theorem dd_X9_areLike_29 : decode X9_areLike.2.1 29 = .ok (.iload_n 3, 1) := by decide +kernel
theorem dd_X9_areLike_30 : decode X9_areLike.2.1 30 = .ok (.invokevirtual 194, 3) := by decide +kernel
theorem dd_X9_areLike_33 : decode X9_areLike.2.1 33 = .ok (.istore 7, 2) := by decide +kernel
theorem dd_X9_areLike_35 : decode X9_areLike.2.1 35 = .ok (.aload_n 0, 1) := by decide +kernel
theorem dd_X9_areLike_36 : decode X9_areLike.2.1 36 = .ok (.iload_n 2, 1) := by decide +kernel
theorem dd_X9_areLike_37 : decode X9_areLike.2.1 37 = .ok (.iload 6, 2) := by decide +kernel
theorem dd_X9_areLike_39 : decode X9_areLike.2.1 39 = .ok (.aload_n 0, 1) := by decide +kernel
theorem dd_X9_areLike_40 : decode X9_areLike.2.1 40 = .ok (.getfield 86, 3) := by decide +kernel
theorem dd_X9_areLike_43 : decode X9_areLike.2.1 43 = .ok (.irem, 1) := by decide +kernel
theorem dd_X9_areLike_44 : decode X9_areLike.2.1 44 = .ok (.iload_n 3, 1) := by decide +kernel
theorem dd_X9_areLike_45 : decode X9_areLike.2.1 45 = .ok (.invokevirtual 194, 3) := by decide +kernel
theorem dd_X9_areLike_48 : decode X9_areLike.2.1 48 = .ok (.istore 8, 2) := by decide +kernel
theorem dd_X9_areLike_50 : decode X9_areLike.2.1 50 = .ok (.iload 5, 2) := by decide +kernel
theorem dd_X9_areLike_52 : decode X9_areLike.2.1 52 = .ok (.ifCond .ne 35, 3) := by decide +kernel
theorem dd_X9_areLike_55 : decode X9_areLike.2.1 55 = .ok (.iload 7, 2) := by decide +kernel
theorem dd_X9_areLike_57 : decode X9_areLike.2.1 57 = .ok (.iload 8, 2) := by decide +kernel
theorem dd_X9_areLike_59 : decode X9_areLike.2.1 59 = .ok (.if_icmp .eq 28, 3) := by decide +kernel
theorem dd_X9_areLike_62 : decode X9_areLike.2.1 62 = .ok (.iload 4, 2) := by decide +kernel
theorem dd_X9_areLike_64 : decode X9_areLike.2.1 64 = .ok (.ifCond .eq 27, 3) := by decide +kernel
theorem dd_X9_areLike_67 : decode X9_areLike.2.1 67 = .ok (.iload 7, 2) := by decide +kernel
theorem dd_X9_areLike_69 : decode X9_areLike.2.1 69 = .ok (.iload 8, 2) := by decide +kernel
theorem dd_X9_areLike_71 : decode X9_areLike.2.1 71 = .ok (.invokestatic 210, 3) := by decide +kernel
theorem dd_X9_areLike_74 : decode X9_areLike.2.1 74 = .ok (.ifCond .ne 13, 3) := by decide +kernel
theorem dd_X9_areLike_77 : decode X9_areLike.2.1 77 = .ok (.iload 8, 2) := by decide +kernel
theorem dd_X9_areLike_79 : decode X9_areLike.2.1 79 = .ok (.iload 7, 2) := by decide +kernel
theorem dd_X9_areLike_81 : decode X9_areLike.2.1 81 = .ok (.invokestatic 210, 3) := by decide +kernel
theorem dd_X9_areLike_84 : decode X9_areLike.2.1 84 = .ok (.ifCond .eq 7, 3) := by decide +kernel
theorem dd_X9_areLike_87 : decode X9_areLike.2.1 87 = .ok (.iconst 1, 1) := by decide +kernel
theorem dd_X9_areLike_88 : decode X9_areLike.2.1 88 = .ok (.goto 4, 3) := by decide +kernel
theorem dd_X9_areLike_91 : decode X9_areLike.2.1 91 = .ok (.iconst 0, 1) := by decide +kernel
theorem dd_X9_areLike_92 : decode X9_areLike.2.1 92 = .ok (.istore 5, 2) := by decide +kernel
theorem dd_X9_areLike_94 : decode X9_areLike.2.1 94 = .ok (.iinc 6 1, 3) := by decide +kernel
theorem dd_X9_areLike_97 : decode X9_areLike.2.1 97 = .ok (.goto (-91), 3) := by decide +kernel
theorem dd_X9_areLike_100 : decode X9_areLike.2.1 100 = .ok (.iload 5, 2) := by decide +kernel
theorem dd_X9_areLike_102 : decode X9_areLike.2.1 102 = .ok (.ireturn, 1) := by decide +kernel
theorem dd_X9_like_0 : decode X9_like.2.1 0 = .ok (.aload_n 0, 1) := by decide +kernel
theorem dd_X9_like_1 : decode X9_like.2.1 1 = .ok (.iload_n 1, 1) := by decide +kernel
theorem dd_X9_like_2 : decode X9_like.2.1 2 = .ok (.invokevirtual 198, 3) := by decide +kernel
theorem dd_X9_like_5 : decode X9_like.2.1 5 = .ok (.ifCond .eq 11, 3) := by decide +kernel
theorem dd_X9_like_8 : decode X9_like.2.1 8 = .ok (.aload_n 0, 1) := by decide +kernel
theorem dd_X9_like_9 : decode X9_like.2.1 9 = .ok (.iload_n 2, 1) := by decide +kernel
theorem dd_X9_like_10 : decode X9_like.2.1 10 = .ok (.invokevirtual 198, 3) := by decide +kernel
theorem dd_X9_like_13 : decode X9_like.2.1 13 = .ok (.ifCond .ne 6, 3) := by decide +kernel
theorem dd_X9_like_16 : decode X9_like.2.1 16 = .ok (.bipush (-2), 2) := by decide +kernel
theorem dd_X9_like_18 : decode X9_like.2.1 18 = .ok (.ireturn, 1) := by decide +kernel
theorem dd_X9_like_19 : decode X9_like.2.1 19 = .ok (.iload_n 3, 1) := by decide +kernel
theorem dd_X9_like_20 : decode X9_like.2.1 20 = .ok (.i2l, 1) := by decide +kernel
theorem dd_X9_like_21 : decode X9_like.2.1 21 = .ok (.lconst 0, 1) := by decide +kernel
theorem dd_X9_like_22 : decode X9_like.2.1 22 = .ok (.lconst 1, 1) := by decide +kernel
theorem dd_X9_like_23 : decode X9_like.2.1 23 = .ok (.invokestatic 104, 3) := by decide +kernel
theorem dd_X9_like_26 : decode X9_like.2.1 26 = .ok (.ifCond .ne 8, 3) := by decide +kernel
theorem dd_X9_like_29 : decode X9_like.2.1 29 = .ok (.bipush (-3), 2) := by decide +kernel
theorem dd_X9_like_31 : decode X9_like.2.1 31 = .ok (.goto 31, 3) := by decide +kernel
theorem dd_X9_like_34 : decode X9_like.2.1 34 = .ok (.aload_n 0, 1) := by decide +kernel
theorem dd_X9_like_35 : decode X9_like.2.1 35 = .ok (.iload_n 1, 1) := by decide +kernel
theorem dd_X9_like_36 : decode X9_like.2.1 36 = .ok (.iload_n 2, 1) := by decide +kernel
theorem dd_X9_like_37 : decode X9_like.2.1 37 = .ok (.aload_n 0, 1) := by decide +kernel
theorem dd_X9_like_38 : decode X9_like.2.1 38 = .ok (.getfield 90, 3) := by decide +kernel
theorem dd_X9_like_41 : decode X9_like.2.1 41 = .ok (.iload_n 3, 1) := by decide +kernel
theorem dd_X9_like_42 : decode X9_like.2.1 42 = .ok (.iconst 1, 1) := by decide +kernel
theorem dd_X9_like_43 : decode X9_like.2.1 43 = .ok (.if_icmp .ne 7, 3) := by decide +kernel
theorem dd_X9_like_46 : decode X9_like.2.1 46 = .ok (.iconst 1, 1) := by decide +kernel
theorem dd_X9_like_47 : decode X9_like.2.1 47 = .ok (.goto 4, 3) := by decide +kernel
theorem dd_X9_like_50 : decode X9_like.2.1 50 = .ok (.iconst 0, 1) := by decide +kernel
theorem dd_X9_like_51 : decode X9_like.2.1 51 = .ok (.invokevirtual 214, 3) := by decide +kernel
theorem dd_X9_like_54 : decode X9_like.2.1 54 = .ok (.ifCond .eq 7, 3) := by decide +kernel
theorem dd_X9_like_57 : decode X9_like.2.1 57 = .ok (.iconst 1, 1) := by decide +kernel
theorem dd_X9_like_58 : decode X9_like.2.1 58 = .ok (.goto 4, 3) := by decide +kernel
theorem dd_X9_like_61 : decode X9_like.2.1 61 = .ok (.iconst 0, 1) := by decide +kernel
theorem dd_X9_like_62 : decode X9_like.2.1 62 = .ok (.ireturn, 1) := by decide +kernel
theorem dd_X9_areNeighbours_0 : decode X9_areNeighbours.2.1 0 = .ok (.iload_n 1, 1) := by decide +kernel
theorem dd_X9_areNeighbours_1 : decode X9_areNeighbours.2.1 1 = .ok (.iload_n 2, 1) := by decide +kernel
theorem dd_X9_areNeighbours_2 : decode X9_areNeighbours.2.1 2 = .ok (.if_icmp .eq 42, 3) := by decide +kernel
theorem dd_X9_areNeighbours_5 : decode X9_areNeighbours.2.1 5 = .ok (.aload_n 0, 1) := by decide +kernel
theorem dd_X9_areNeighbours_6 : decode X9_areNeighbours.2.1 6 = .ok (.getfield 7, 3) := by decide +kernel
theorem dd_X9_areNeighbours_9 : decode X9_areNeighbours.2.1 9 = .ok (.iconst 0, 1) := by decide +kernel
theorem dd_X9_areNeighbours_10 : decode X9_areNeighbours.2.1 10 = .ok (.iload_n 1, 1) := by decide +kernel
theorem dd_X9_areNeighbours_11 : decode X9_areNeighbours.2.1 11 = .ok (.iadd, 1) := by decide +kernel
theorem dd_X9_areNeighbours_12 : decode X9_areNeighbours.2.1 12 = .ok (.iaload, 1) := by decide +kernel
theorem dd_X9_areNeighbours_13 : decode X9_areNeighbours.2.1 13 = .ok (.aload_n 0, 1) := by decide +kernel
theorem dd_X9_areNeighbours_14 : decode X9_areNeighbours.2.1 14 = .ok (.getfield 7, 3) := by decide +kernel
theorem dd_X9_areNeighbours_17 : decode X9_areNeighbours.2.1 17 = .ok (.iconst 0, 1) := by decide +kernel
theorem dd_X9_areNeighbours_18 : decode X9_areNeighbours.2.1 18 = .ok (.iload_n 2, 1) := by decide +kernel
theorem dd_X9_areNeighbours_19 : decode X9_areNeighbours.2.1 19 = .ok (.iadd, 1) := by decide +kernel
theorem dd_X9_areNeighbours_20 : decode X9_areNeighbours.2.1 20 = .ok (.iaload, 1) := by decide +kernel
theorem dd_X9_areNeighbours_21 : decode X9_areNeighbours.2.1 21 = .ok (.isub, 1) := by decide +kernel
theorem dd_X9_areNeighbours_22 : decode X9_areNeighbours.2.1 22 = .ok (.i2l, 1) := by decide +kernel
theorem dd_X9_areNeighbours_23 : decode X9_areNeighbours.2.1 23 = .ok (.aload_n 0, 1) := by decide +kernel
theorem dd_X9_areNeighbours_24 : decode X9_areNeighbours.2.1 24 = .ok (.getfield 93, 3) := by decide +kernel
theorem dd_X9_areNeighbours_27 : decode X9_areNeighbours.2.1 27 = .ok (.ineg, 1) := by decide +kernel
theorem dd_X9_areNeighbours_28 : decode X9_areNeighbours.2.1 28 = .ok (.i2l, 1) := by decide +kernel
theorem dd_X9_areNeighbours_29 : decode X9_areNeighbours.2.1 29 = .ok (.aload_n 0, 1) := by decide +kernel
theorem dd_X9_areNeighbours_30 : decode X9_areNeighbours.2.1 30 = .ok (.getfield 93, 3) := by decide +kernel
theorem dd_X9_areNeighbours_33 : decode X9_areNeighbours.2.1 33 = .ok (.i2l, 1) := by decide +kernel
theorem dd_X9_areNeighbours_34 : decode X9_areNeighbours.2.1 34 = .ok (.invokestatic 104, 3) := by decide +kernel
theorem dd_X9_areNeighbours_37 : decode X9_areNeighbours.2.1 37 = .ok (.ifCond .eq 7, 3) := by decide +kernel
theorem dd_X9_areNeighbours_40 : decode X9_areNeighbours.2.1 40 = .ok (.iconst 1, 1) := by decide +kernel
theorem dd_X9_areNeighbours_41 : decode X9_areNeighbours.2.1 41 = .ok (.goto 4, 3) := by decide +kernel
theorem dd_X9_areNeighbours_44 : decode X9_areNeighbours.2.1 44 = .ok (.iconst 0, 1) := by decide +kernel
theorem dd_X9_areNeighbours_45 : decode X9_areNeighbours.2.1 45 = .ok (.ireturn, 1) := by decide +kernel
theorem dd_X9_doClash_0 : decode X9_doClash.2.1 0 = .ok (.aload_n 0, 1) := by decide +kernel
theorem dd_X9_doClash_1 : decode X9_doClash.2.1 1 = .ok (.iload_n 1, 1) := by decide +kernel
theorem dd_X9_doClash_2 : decode X9_doClash.2.1 2 = .ok (.iload_n 2, 1) := by decide +kernel
theorem dd_X9_doClash_3 : decode X9_doClash.2.1 3 = .ok (.invokevirtual 218, 3) := by decide +kernel
theorem dd_X9_doClash_6 : decode X9_doClash.2.1 6 = .ok (.ifCond .eq 63, 3) := by decide +kernel
theorem dd_X9_doClash_9 : decode X9_doClash.2.1 9 = .ok (.aload_n 0, 1) := by decide +kernel
theorem dd_X9_doClash_10 : decode X9_doClash.2.1 10 = .ok (.getfield 7, 3) := by decide +kernel
theorem dd_X9_doClash_13 : decode X9_doClash.2.1 13 = .ok (.bipush 6, 2) := by decide +kernel
theorem dd_X9_doClash_15 : decode X9_doClash.2.1 15 = .ok (.iload_n 1, 1) := by decide +kernel
theorem dd_X9_doClash_16 : decode X9_doClash.2.1 16 = .ok (.iadd, 1) := by decide +kernel
theorem dd_X9_doClash_17 : decode X9_doClash.2.1 17 = .ok (.iaload, 1) := by decide +kernel
theorem dd_X9_doClash_18 : decode X9_doClash.2.1 18 = .ok (.iconst (-1), 1) := by decide +kernel
theorem dd_X9_doClash_19 : decode X9_doClash.2.1 19 = .ok (.if_icmp .eq 50, 3) := by decide +kernel
theorem dd_X9_doClash_22 : decode X9_doClash.2.1 22 = .ok (.aload_n 0, 1) := by decide +kernel
theorem dd_X9_doClash_23 : decode X9_doClash.2.1 23 = .ok (.getfield 7, 3) := by decide +kernel
theorem dd_X9_doClash_26 : decode X9_doClash.2.1 26 = .ok (.bipush 6, 2) := by decide +kernel
theorem dd_X9_doClash_28 : decode X9_doClash.2.1 28 = .ok (.iload_n 2, 1) := by decide +kernel
theorem dd_X9_doClash_29 : decode X9_doClash.2.1 29 = .ok (.iadd, 1) := by decide +kernel
theorem dd_X9_doClash_30 : decode X9_doClash.2.1 30 = .ok (.iaload, 1) := by decide +kernel
theorem dd_X9_doClash_31 : decode X9_doClash.2.1 31 = .ok (.iconst (-1), 1) := by decide +kernel
theorem dd_X9_doClash_32 : decode X9_doClash.2.1 32 = .ok (.if_icmp .eq 37, 3) := by decide +kernel
theorem dd_X9_doClash_35 : decode X9_doClash.2.1 35 = .ok (.aload_n 0, 1) := by decide +kernel
theorem dd_X9_doClash_36 : decode X9_doClash.2.1 36 = .ok (.aload_n 0, 1) := by decide +kernel
theorem dd_X9_doClash_37 : decode X9_doClash.2.1 37 = .ok (.getfield 7, 3) := by decide +kernel
theorem dd_X9_doClash_40 : decode X9_doClash.2.1 40 = .ok (.bipush 6, 2) := by decide +kernel
theorem dd_X9_doClash_42 : decode X9_doClash.2.1 42 = .ok (.iload_n 1, 1) := by decide +kernel
theorem dd_X9_doClash_43 : decode X9_doClash.2.1 43 = .ok (.iadd, 1) := by decide +kernel
theorem dd_X9_doClash_44 : decode X9_doClash.2.1 44 = .ok (.iaload, 1) := by decide +kernel
theorem dd_X9_doClash_45 : decode X9_doClash.2.1 45 = .ok (.aload_n 0, 1) := by decide +kernel
theorem dd_X9_doClash_46 : decode X9_doClash.2.1 46 = .ok (.getfield 7, 3) := by decide +kernel
theorem dd_X9_doClash_49 : decode X9_doClash.2.1 49 = .ok (.bipush 6, 2) := by decide +kernel
theorem dd_X9_doClash_51 : decode X9_doClash.2.1 51 = .ok (.iload_n 2, 1) := by decide +kernel
theorem dd_X9_doClash_52 : decode X9_doClash.2.1 52 = .ok (.iadd, 1) := by decide +kernel
theorem dd_X9_doClash_53 : decode X9_doClash.2.1 53 = .ok (.iaload, 1) := by decide +kernel
theorem dd_X9_doClash_54 : decode X9_doClash.2.1 54 = .ok (.aload_n 0, 1) := by decide +kernel
theorem dd_X9_doClash_55 : decode X9_doClash.2.1 55 = .ok (.getfield 90, 3) := by decide +kernel
theorem dd_X9_doClash_58 : decode X9_doClash.2.1 58 = .ok (.iconst 0, 1) := by decide +kernel
theorem dd_X9_doClash_59 : decode X9_doClash.2.1 59 = .ok (.invokevirtual 214, 3) := by decide +kernel
theorem dd_X9_doClash_62 : decode X9_doClash.2.1 62 = .ok (.ifCond .eq 7, 3) := by decide +kernel
theorem dd_X9_doClash_65 : decode X9_doClash.2.1 65 = .ok (.iconst 1, 1) := by decide +kernel
theorem dd_X9_doClash_66 : decode X9_doClash.2.1 66 = .ok (.goto 4, 3) := by decide +kernel
theorem dd_X9_doClash_69 : decode X9_doClash.2.1 69 = .ok (.iconst 0, 1) := by decide +kernel
theorem dd_X9_doClash_70 : decode X9_doClash.2.1 70 = .ok (.ireturn, 1) := by decide +kernel
theorem dd_X9_thoseOf_0 : decode X9_thoseOf.2.1 0 = .ok (.iconst 0, 1) := by decide +kernel
theorem dd_X9_thoseOf_1 : decode X9_thoseOf.2.1 1 = .ok (.istore_n 3, 1) := by decide +kernel
theorem dd_X9_thoseOf_2 : decode X9_thoseOf.2.1 2 = .ok (.iconst 0, 1) := by decide +kernel
theorem dd_X9_thoseOf_3 : decode X9_thoseOf.2.1 3 = .ok (.istore 4, 2) := by decide +kernel
theorem dd_X9_thoseOf_5 : decode X9_thoseOf.2.1 5 = .ok (.iload 4, 2) := by decide +kernel
theorem dd_X9_thoseOf_7 : decode X9_thoseOf.2.1 7 = .ok (.aload_n 0, 1) := by decide +kernel
theorem dd_X9_thoseOf_8 : decode X9_thoseOf.2.1 8 = .ok (.getfield 99, 3) := by decide +kernel
theorem dd_X9_thoseOf_11 : decode X9_thoseOf.2.1 11 = .ok (.if_icmp .ge 47, 3) := by decide +kernel
theorem dd_X9_thoseOf_14 : decode X9_thoseOf.2.1 14 = .ok (.iload_n 3, 1) := by decide +kernel
theorem dd_X9_thoseOf_15 : decode X9_thoseOf.2.1 15 = .ok (.iload_n 2, 1) := by decide +kernel
theorem dd_X9_thoseOf_16 : decode X9_thoseOf.2.1 16 = .ok (.ifCond .eq 16, 3) := by decide +kernel
theorem dd_X9_thoseOf_19 : decode X9_thoseOf.2.1 19 = .ok (.aload_n 0, 1) := by decide +kernel
theorem dd_X9_thoseOf_20 : decode X9_thoseOf.2.1 20 = .ok (.iload_n 1, 1) := by decide +kernel
theorem dd_X9_thoseOf_21 : decode X9_thoseOf.2.1 21 = .ok (.iload 4, 2) := by decide +kernel
theorem dd_X9_thoseOf_23 : decode X9_thoseOf.2.1 23 = .ok (.invokevirtual 221, 3) := by decide +kernel
theorem dd_X9_thoseOf_26 : decode X9_thoseOf.2.1 26 = .ok (.ifCond .eq 23, 3) := by decide +kernel
theorem dd_X9_thoseOf_29 : decode X9_thoseOf.2.1 29 = .ok (.goto 13, 3) := by decide +kernel
theorem dd_X9_thoseOf_32 : decode X9_thoseOf.2.1 32 = .ok (.aload_n 0, 1) := by decide +kernel
theorem dd_X9_thoseOf_33 : decode X9_thoseOf.2.1 33 = .ok (.iload_n 1, 1) := by decide +kernel
theorem dd_X9_thoseOf_34 : decode X9_thoseOf.2.1 34 = .ok (.iload 4, 2) := by decide +kernel
theorem dd_X9_thoseOf_36 : decode X9_thoseOf.2.1 36 = .ok (.invokevirtual 218, 3) := by decide +kernel
theorem dd_X9_thoseOf_39 : decode X9_thoseOf.2.1 39 = .ok (.ifCond .eq 10, 3) := by decide +kernel
theorem dd_X9_thoseOf_42 : decode X9_thoseOf.2.1 42 = .ok (.iconst 1, 1) := by decide +kernel
theorem dd_X9_thoseOf_43 : decode X9_thoseOf.2.1 43 = .ok (.iload 4, 2) := by decide +kernel
theorem dd_X9_thoseOf_45 : decode X9_thoseOf.2.1 45 = .ok (.ishl, 1) := by decide +kernel
theorem dd_X9_thoseOf_46 : decode X9_thoseOf.2.1 46 = .ok (.goto 4, 3) := by decide +kernel
theorem dd_X9_thoseOf_49 : decode X9_thoseOf.2.1 49 = .ok (.iconst 0, 1) := by decide +kernel
theorem dd_X9_thoseOf_50 : decode X9_thoseOf.2.1 50 = .ok (.ior, 1) := by decide +kernel
theorem dd_X9_thoseOf_51 : decode X9_thoseOf.2.1 51 = .ok (.istore_n 3, 1) := by decide +kernel
theorem dd_X9_thoseOf_52 : decode X9_thoseOf.2.1 52 = .ok (.iinc 4 1, 3) := by decide +kernel
theorem dd_X9_thoseOf_55 : decode X9_thoseOf.2.1 55 = .ok (.goto (-50), 3) := by decide +kernel
theorem dd_X9_thoseOf_58 : decode X9_thoseOf.2.1 58 = .ok (.iload_n 3, 1) := by decide +kernel
theorem dd_X9_thoseOf_59 : decode X9_thoseOf.2.1 59 = .ok (.ireturn, 1) := by decide +kernel
theorem dd_X9_light_0 : decode X9_light.2.1 0 = .ok (.aload_n 0, 1) := by decide +kernel
theorem dd_X9_light_1 : decode X9_light.2.1 1 = .ok (.iload_n 1, 1) := by decide +kernel
theorem dd_X9_light_2 : decode X9_light.2.1 2 = .ok (.invokevirtual 224, 3) := by decide +kernel
theorem dd_X9_light_5 : decode X9_light.2.1 5 = .ok (.ifCond .ne 6, 3) := by decide +kernel
theorem dd_X9_light_8 : decode X9_light.2.1 8 = .ok (.bipush (-2), 2) := by decide +kernel
theorem dd_X9_light_10 : decode X9_light.2.1 10 = .ok (.ireturn, 1) := by decide +kernel
theorem dd_X9_light_11 : decode X9_light.2.1 11 = .ok (.iload_n 2, 1) := by decide +kernel
theorem dd_X9_light_12 : decode X9_light.2.1 12 = .ok (.tableswitch 65 0 3 #[32, 41, 51, 58], 32) := by decide +kernel
theorem dd_X9_light_44 : decode X9_light.2.1 44 = .ok (.aload_n 0, 1) := by decide +kernel
theorem dd_X9_light_45 : decode X9_light.2.1 45 = .ok (.getfield 7, 3) := by decide +kernel
theorem dd_X9_light_48 : decode X9_light.2.1 48 = .ok (.iconst 0, 1) := by decide +kernel
theorem dd_X9_light_49 : decode X9_light.2.1 49 = .ok (.iload_n 1, 1) := by decide +kernel
theorem dd_X9_light_50 : decode X9_light.2.1 50 = .ok (.iadd, 1) := by decide +kernel
theorem dd_X9_light_51 : decode X9_light.2.1 51 = .ok (.iaload, 1) := by decide +kernel
theorem dd_X9_light_52 : decode X9_light.2.1 52 = .ok (.ireturn, 1) := by decide +kernel
theorem dd_X9_light_53 : decode X9_light.2.1 53 = .ok (.aload_n 0, 1) := by decide +kernel
theorem dd_X9_light_54 : decode X9_light.2.1 54 = .ok (.getfield 7, 3) := by decide +kernel
theorem dd_X9_light_57 : decode X9_light.2.1 57 = .ok (.bipush 6, 2) := by decide +kernel
theorem dd_X9_light_59 : decode X9_light.2.1 59 = .ok (.iload_n 1, 1) := by decide +kernel
theorem dd_X9_light_60 : decode X9_light.2.1 60 = .ok (.iadd, 1) := by decide +kernel
theorem dd_X9_light_61 : decode X9_light.2.1 61 = .ok (.iaload, 1) := by decide +kernel
theorem dd_X9_light_62 : decode X9_light.2.1 62 = .ok (.ireturn, 1) := by decide +kernel
theorem dd_X9_light_63 : decode X9_light.2.1 63 = .ok (.aload_n 0, 1) := by decide +kernel
theorem dd_X9_light_64 : decode X9_light.2.1 64 = .ok (.iload_n 1, 1) := by decide +kernel
theorem dd_X9_light_65 : decode X9_light.2.1 65 = .ok (.iconst 0, 1) := by decide +kernel
theorem dd_X9_light_66 : decode X9_light.2.1 66 = .ok (.invokevirtual 227, 3) := by decide +kernel
theorem dd_X9_light_69 : decode X9_light.2.1 69 = .ok (.ireturn, 1) := by decide +kernel
theorem dd_X9_light_70 : decode X9_light.2.1 70 = .ok (.aload_n 0, 1) := by decide +kernel
theorem dd_X9_light_71 : decode X9_light.2.1 71 = .ok (.iload_n 1, 1) := by decide +kernel
theorem dd_X9_light_72 : decode X9_light.2.1 72 = .ok (.iconst 1, 1) := by decide +kernel
theorem dd_X9_light_73 : decode X9_light.2.1 73 = .ok (.invokevirtual 227, 3) := by decide +kernel
theorem dd_X9_light_76 : decode X9_light.2.1 76 = .ok (.ireturn, 1) := by decide +kernel
theorem dd_X9_light_77 : decode X9_light.2.1 77 = .ok (.bipush (-3), 2) := by decide +kernel
theorem dd_X9_light_79 : decode X9_light.2.1 79 = .ok (.ireturn, 1) := by decide +kernel
theorem dd_X9_become_0 : decode X9_become.2.1 0 = .ok (.iconst 0, 1) := by decide +kernel
theorem dd_X9_become_1 : decode X9_become.2.1 1 = .ok (.istore_n 3, 1) := by decide +kernel
theorem dd_X9_become_2 : decode X9_become.2.1 2 = .ok (.iload_n 3, 1) := by decide +kernel
theorem dd_X9_become_3 : decode X9_become.2.1 3 = .ok (.bipush 84, 2) := by decide +kernel
theorem dd_X9_become_5 : decode X9_become.2.1 5 = .ok (.if_icmp .ge 36, 3) := by decide +kernel
theorem dd_X9_become_8 : decode X9_become.2.1 8 = .ok (.aload_n 0, 1) := by decide +kernel
theorem dd_X9_become_9 : decode X9_become.2.1 9 = .ok (.getfield 180, 3) := by decide +kernel
theorem dd_X9_become_12 : decode X9_become.2.1 12 = .ok (.bipush 8, 2) := by decide +kernel
theorem dd_X9_become_14 : decode X9_become.2.1 14 = .ok (.if_icmp .ne 27, 3) := by decide +kernel
theorem dd_X9_become_17 : decode X9_become.2.1 17 = .ok (.aload_n 0, 1) := by decide +kernel
theorem dd_X9_become_18 : decode X9_become.2.1 18 = .ok (.getfield 7, 3) := by decide +kernel
theorem dd_X9_become_21 : decode X9_become.2.1 21 = .ok (.bipush 12, 2) := by decide +kernel
theorem dd_X9_become_23 : decode X9_become.2.1 23 = .ok (.iload_n 3, 1) := by decide +kernel
theorem dd_X9_become_24 : decode X9_become.2.1 24 = .ok (.iadd, 1) := by decide +kernel
theorem dd_X9_become_25 : decode X9_become.2.1 25 = .ok (.aload_n 0, 1) := by decide +kernel
theorem dd_X9_become_26 : decode X9_become.2.1 26 = .ok (.getfield 7, 3) := by decide +kernel
theorem dd_X9_become_29 : decode X9_become.2.1 29 = .ok (.bipush 24, 2) := by decide +kernel
theorem dd_X9_become_31 : decode X9_become.2.1 31 = .ok (.iload_n 3, 1) := by decide +kernel
theorem dd_X9_become_32 : decode X9_become.2.1 32 = .ok (.iadd, 1) := by decide +kernel
theorem dd_X9_become_33 : decode X9_become.2.1 33 = .ok (.iaload, 1) := by decide +kernel
theorem dd_X9_become_34 : decode X9_become.2.1 34 = .ok (.iastore, 1) := by decide +kernel
theorem dd_X9_become_35 : decode X9_become.2.1 35 = .ok (.iinc 3 1, 3) := by decide +kernel
theorem dd_X9_become_38 : decode X9_become.2.1 38 = .ok (.goto (-36), 3) := by decide +kernel
theorem dd_X9_become_41 : decode X9_become.2.1 41 = .ok (.aload_n 0, 1) := by decide +kernel
theorem dd_X9_become_42 : decode X9_become.2.1 42 = .ok (.dup, 1) := by decide +kernel
theorem dd_X9_become_43 : decode X9_become.2.1 43 = .ok (.getfield 180, 3) := by decide +kernel
theorem dd_X9_become_46 : decode X9_become.2.1 46 = .ok (.aload_n 0, 1) := by decide +kernel
theorem dd_X9_become_47 : decode X9_become.2.1 47 = .ok (.getfield 180, 3) := by decide +kernel
theorem dd_X9_become_50 : decode X9_become.2.1 50 = .ok (.bipush 8, 2) := by decide +kernel
theorem dd_X9_become_52 : decode X9_become.2.1 52 = .ok (.if_icmp .ne 7, 3) := by decide +kernel
theorem dd_X9_become_55 : decode X9_become.2.1 55 = .ok (.iconst 1, 1) := by decide +kernel
theorem dd_X9_become_56 : decode X9_become.2.1 56 = .ok (.goto 4, 3) := by decide +kernel
theorem dd_X9_become_59 : decode X9_become.2.1 59 = .ok (.iconst 0, 1) := by decide +kernel
theorem dd_X9_become_60 : decode X9_become.2.1 60 = .ok (.isub, 1) := by decide +kernel
theorem dd_X9_become_61 : decode X9_become.2.1 61 = .ok (.putfield 180, 3) := by decide +kernel
theorem dd_X9_become_64 : decode X9_become.2.1 64 = .ok (.aload_n 0, 1) := by decide +kernel
theorem dd_X9_become_65 : decode X9_become.2.1 65 = .ok (.iconst 0, 1) := by decide +kernel
theorem dd_X9_become_66 : decode X9_become.2.1 66 = .ok (.bipush 12, 2) := by decide +kernel
theorem dd_X9_become_68 : decode X9_become.2.1 68 = .ok (.bipush 12, 2) := by decide +kernel
theorem dd_X9_become_70 : decode X9_become.2.1 70 = .ok (.aload_n 0, 1) := by decide +kernel
theorem dd_X9_become_71 : decode X9_become.2.1 71 = .ok (.getfield 180, 3) := by decide +kernel
theorem dd_X9_become_74 : decode X9_become.2.1 74 = .ok (.imul, 1) := by decide +kernel
theorem dd_X9_become_75 : decode X9_become.2.1 75 = .ok (.iadd, 1) := by decide +kernel
theorem dd_X9_become_76 : decode X9_become.2.1 76 = .ok (.invokevirtual 82, 3) := by decide +kernel
theorem dd_X9_become_79 : decode X9_become.2.1 79 = .ok (.aload_n 0, 1) := by decide +kernel
theorem dd_X9_become_80 : decode X9_become.2.1 80 = .ok (.dup, 1) := by decide +kernel
theorem dd_X9_become_81 : decode X9_become.2.1 81 = .ok (.getfield 180, 3) := by decide +kernel
theorem dd_X9_become_84 : decode X9_become.2.1 84 = .ok (.iconst 1, 1) := by decide +kernel
theorem dd_X9_become_85 : decode X9_become.2.1 85 = .ok (.iadd, 1) := by decide +kernel
theorem dd_X9_become_86 : decode X9_become.2.1 86 = .ok (.putfield 180, 3) := by decide +kernel
theorem dd_X9_become_89 : decode X9_become.2.1 89 = .ok (.aload_n 0, 1) := by decide +kernel
theorem dd_X9_become_90 : decode X9_become.2.1 90 = .ok (.getfield 7, 3) := by decide +kernel
theorem dd_X9_become_93 : decode X9_become.2.1 93 = .ok (.iload_n 1, 1) := by decide +kernel
theorem dd_X9_become_94 : decode X9_become.2.1 94 = .ok (.iload_n 2, 1) := by decide +kernel
theorem dd_X9_become_95 : decode X9_become.2.1 95 = .ok (.iastore, 1) := by decide +kernel
theorem dd_X9_become_96 : decode X9_become.2.1 96 = .ok (.aload_n 0, 1) := by decide +kernel
theorem dd_X9_become_97 : decode X9_become.2.1 97 = .ok (.iconst 0, 1) := by decide +kernel
theorem dd_X9_become_98 : decode X9_become.2.1 98 = .ok (.putfield 183, 3) := by decide +kernel
theorem dd_X9_become_101 : decode X9_become.2.1 101 = .ok (.return_, 1) := by decide +kernel
theorem dd_X9_lit_0 : decode X9_lit.2.1 0 = .ok (.aload_n 0, 1) := by decide +kernel
theorem dd_X9_lit_1 : decode X9_lit.2.1 1 = .ok (.iload_n 1, 1) := by decide +kernel
theorem dd_X9_lit_2 : decode X9_lit.2.1 2 = .ok (.invokevirtual 224, 3) := by decide +kernel
theorem dd_X9_lit_5 : decode X9_lit.2.1 5 = .ok (.ifCond .eq 11, 3) := by decide +kernel
theorem dd_X9_lit_8 : decode X9_lit.2.1 8 = .ok (.aload_n 0, 1) := by decide +kernel
theorem dd_X9_lit_9 : decode X9_lit.2.1 9 = .ok (.iload_n 2, 1) := by decide +kernel
theorem dd_X9_lit_10 : decode X9_lit.2.1 10 = .ok (.invokevirtual 198, 3) := by decide +kernel
theorem dd_X9_lit_13 : decode X9_lit.2.1 13 = .ok (.ifCond .ne 6, 3) := by decide +kernel
theorem dd_X9_lit_16 : decode X9_lit.2.1 16 = .ok (.bipush (-2), 2) := by decide +kernel
theorem dd_X9_lit_18 : decode X9_lit.2.1 18 = .ok (.ireturn, 1) := by decide +kernel
theorem dd_X9_lit_19 : decode X9_lit.2.1 19 = .ok (.aload_n 0, 1) := by decide +kernel
theorem dd_X9_lit_20 : decode X9_lit.2.1 20 = .ok (.getfield 7, 3) := by decide +kernel
theorem dd_X9_lit_23 : decode X9_lit.2.1 23 = .ok (.bipush 6, 2) := by decide +kernel
theorem dd_X9_lit_25 : decode X9_lit.2.1 25 = .ok (.iload_n 1, 1) := by decide +kernel
theorem dd_X9_lit_26 : decode X9_lit.2.1 26 = .ok (.iadd, 1) := by decide +kernel
theorem dd_X9_lit_27 : decode X9_lit.2.1 27 = .ok (.iaload, 1) := by decide +kernel
theorem dd_X9_lit_28 : decode X9_lit.2.1 28 = .ok (.istore_n 3, 1) := by decide +kernel
theorem dd_X9_lit_29 : decode X9_lit.2.1 29 = .ok (.iload_n 3, 1) := by decide +kernel
theorem dd_X9_lit_30 : decode X9_lit.2.1 30 = .ok (.iload_n 2, 1) := by decide +kernel
theorem dd_X9_lit_31 : decode X9_lit.2.1 31 = .ok (.if_icmp .ne 6, 3) := by decide +kernel
theorem dd_X9_lit_34 : decode X9_lit.2.1 34 = .ok (.bipush (-4), 2) := by decide +kernel
theorem dd_X9_lit_36 : decode X9_lit.2.1 36 = .ok (.ireturn, 1) := by decide +kernel
theorem dd_X9_lit_37 : decode X9_lit.2.1 37 = .ok (.aload_n 0, 1) := by decide +kernel
theorem dd_X9_lit_38 : decode X9_lit.2.1 38 = .ok (.bipush 6, 2) := by decide +kernel
theorem dd_X9_lit_40 : decode X9_lit.2.1 40 = .ok (.iload_n 1, 1) := by decide +kernel
theorem dd_X9_lit_41 : decode X9_lit.2.1 41 = .ok (.iadd, 1) := by decide +kernel
theorem dd_X9_lit_42 : decode X9_lit.2.1 42 = .ok (.iload_n 2, 1) := by decide +kernel
theorem dd_X9_lit_43 : decode X9_lit.2.1 43 = .ok (.invokevirtual 231, 3) := by decide +kernel
theorem dd_X9_lit_46 : decode X9_lit.2.1 46 = .ok (.iload_n 3, 1) := by decide +kernel
theorem dd_X9_lit_47 : decode X9_lit.2.1 47 = .ok (.ireturn, 1) := by decide +kernel
theorem dd_X9_dark_0 : decode X9_dark.2.1 0 = .ok (.aload_n 0, 1) := by decide +kernel
theorem dd_X9_dark_1 : decode X9_dark.2.1 1 = .ok (.iload_n 1, 1) := by decide +kernel
theorem dd_X9_dark_2 : decode X9_dark.2.1 2 = .ok (.invokevirtual 224, 3) := by decide +kernel
theorem dd_X9_dark_5 : decode X9_dark.2.1 5 = .ok (.ifCond .ne 6, 3) := by decide +kernel
theorem dd_X9_dark_8 : decode X9_dark.2.1 8 = .ok (.bipush (-2), 2) := by decide +kernel
theorem dd_X9_dark_10 : decode X9_dark.2.1 10 = .ok (.ireturn, 1) := by decide +kernel
theorem dd_X9_dark_11 : decode X9_dark.2.1 11 = .ok (.aload_n 0, 1) := by decide +kernel
theorem dd_X9_dark_12 : decode X9_dark.2.1 12 = .ok (.getfield 7, 3) := by decide +kernel
theorem dd_X9_dark_15 : decode X9_dark.2.1 15 = .ok (.bipush 6, 2) := by decide +kernel
theorem dd_X9_dark_17 : decode X9_dark.2.1 17 = .ok (.iload_n 1, 1) := by decide +kernel
theorem dd_X9_dark_18 : decode X9_dark.2.1 18 = .ok (.iadd, 1) := by decide +kernel
theorem dd_X9_dark_19 : decode X9_dark.2.1 19 = .ok (.iaload, 1) := by decide +kernel
theorem dd_X9_dark_20 : decode X9_dark.2.1 20 = .ok (.istore_n 2, 1) := by decide +kernel
theorem dd_X9_dark_21 : decode X9_dark.2.1 21 = .ok (.iload_n 2, 1) := by decide +kernel
theorem dd_X9_dark_22 : decode X9_dark.2.1 22 = .ok (.iconst (-1), 1) := by decide +kernel
theorem dd_X9_dark_23 : decode X9_dark.2.1 23 = .ok (.if_icmp .ne 6, 3) := by decide +kernel
theorem dd_X9_dark_26 : decode X9_dark.2.1 26 = .ok (.bipush (-4), 2) := by decide +kernel
theorem dd_X9_dark_28 : decode X9_dark.2.1 28 = .ok (.ireturn, 1) := by decide +kernel
theorem dd_X9_dark_29 : decode X9_dark.2.1 29 = .ok (.aload_n 0, 1) := by decide +kernel
theorem dd_X9_dark_30 : decode X9_dark.2.1 30 = .ok (.bipush 6, 2) := by decide +kernel
theorem dd_X9_dark_32 : decode X9_dark.2.1 32 = .ok (.iload_n 1, 1) := by decide +kernel
theorem dd_X9_dark_33 : decode X9_dark.2.1 33 = .ok (.iadd, 1) := by decide +kernel
theorem dd_X9_dark_34 : decode X9_dark.2.1 34 = .ok (.iconst (-1), 1) := by decide +kernel
theorem dd_X9_dark_35 : decode X9_dark.2.1 35 = .ok (.invokevirtual 231, 3) := by decide +kernel
theorem dd_X9_dark_38 : decode X9_dark.2.1 38 = .ok (.iload_n 2, 1) := by decide +kernel
theorem dd_X9_dark_39 : decode X9_dark.2.1 39 = .ok (.ireturn, 1) := by decide +kernel
theorem dd_X9_move_0 : decode X9_move.2.1 0 = .ok (.aload_n 0, 1) := by decide +kernel
theorem dd_X9_move_1 : decode X9_move.2.1 1 = .ok (.iload_n 1, 1) := by decide +kernel
theorem dd_X9_move_2 : decode X9_move.2.1 2 = .ok (.invokevirtual 224, 3) := by decide +kernel
theorem dd_X9_move_5 : decode X9_move.2.1 5 = .ok (.ifCond .ne 6, 3) := by decide +kernel
theorem dd_X9_move_8 : decode X9_move.2.1 8 = .ok (.bipush (-2), 2) := by decide +kernel
theorem dd_X9_move_10 : decode X9_move.2.1 10 = .ok (.ireturn, 1) := by decide +kernel
theorem dd_X9_move_11 : decode X9_move.2.1 11 = .ok (.iload_n 2, 1) := by decide +kernel
theorem dd_X9_move_12 : decode X9_move.2.1 12 = .ok (.i2l, 1) := by decide +kernel
theorem dd_X9_move_13 : decode X9_move.2.1 13 = .ok (.lconst 0, 1) := by decide +kernel
theorem dd_X9_move_14 : decode X9_move.2.1 14 = .ok (.ldc2_w 234, 3) := by decide +kernel
theorem dd_X9_move_17 : decode X9_move.2.1 17 = .ok (.invokestatic 104, 3) := by decide +kernel
theorem dd_X9_move_20 : decode X9_move.2.1 20 = .ok (.ifCond .ne 6, 3) := by decide +kernel
theorem dd_X9_move_23 : decode X9_move.2.1 23 = .ok (.bipush (-3), 2) := by decide +kernel
theorem dd_X9_move_25 : decode X9_move.2.1 25 = .ok (.ireturn, 1) := by decide +kernel
theorem dd_X9_move_26 : decode X9_move.2.1 26 = .ok (.aload_n 0, 1) := by decide +kernel
theorem dd_X9_move_27 : decode X9_move.2.1 27 = .ok (.getfield 7, 3) := by decide +kernel
theorem dd_X9_move_30 : decode X9_move.2.1 30 = .ok (.iconst 0, 1) := by decide +kernel
theorem dd_X9_move_31 : decode X9_move.2.1 31 = .ok (.iload_n 1, 1) := by decide +kernel
theorem dd_X9_move_32 : decode X9_move.2.1 32 = .ok (.iadd, 1) := by decide +kernel
theorem dd_X9_move_33 : decode X9_move.2.1 33 = .ok (.iaload, 1) := by decide +kernel
theorem dd_X9_move_34 : decode X9_move.2.1 34 = .ok (.istore_n 3, 1) := by decide +kernel
theorem dd_X9_move_35 : decode X9_move.2.1 35 = .ok (.iload_n 3, 1) := by decide +kernel
theorem dd_X9_move_36 : decode X9_move.2.1 36 = .ok (.iload_n 2, 1) := by decide +kernel
theorem dd_X9_move_37 : decode X9_move.2.1 37 = .ok (.if_icmp .ne 6, 3) := by decide +kernel
theorem dd_X9_move_40 : decode X9_move.2.1 40 = .ok (.bipush (-4), 2) := by decide +kernel
theorem dd_X9_move_42 : decode X9_move.2.1 42 = .ok (.ireturn, 1) := by decide +kernel
theorem dd_X9_move_43 : decode X9_move.2.1 43 = .ok (.aload_n 0, 1) := by decide +kernel
theorem dd_X9_move_44 : decode X9_move.2.1 44 = .ok (.iconst 0, 1) := by decide +kernel
theorem dd_X9_move_45 : decode X9_move.2.1 45 = .ok (.iload_n 1, 1) := by decide +kernel
theorem dd_X9_move_46 : decode X9_move.2.1 46 = .ok (.iadd, 1) := by decide +kernel
theorem dd_X9_move_47 : decode X9_move.2.1 47 = .ok (.iload_n 2, 1) := by decide +kernel
theorem dd_X9_move_48 : decode X9_move.2.1 48 = .ok (.invokevirtual 231, 3) := by decide +kernel
theorem dd_X9_move_51 : decode X9_move.2.1 51 = .ok (.iload_n 3, 1) := by decide +kernel
theorem dd_X9_move_52 : decode X9_move.2.1 52 = .ok (.ireturn, 1) := by decide +kernel
theorem dd_X9_undo_0 : decode X9_undo.2.1 0 = .ok (.aload_n 0, 1) := by decide +kernel
theorem dd_X9_undo_1 : decode X9_undo.2.1 1 = .ok (.getfield 180, 3) := by decide +kernel
theorem dd_X9_undo_4 : decode X9_undo.2.1 4 = .ok (.ifCond .ne 6, 3) := by decide +kernel
theorem dd_X9_undo_7 : decode X9_undo.2.1 7 = .ok (.bipush (-4), 2) := by decide +kernel
theorem dd_X9_undo_9 : decode X9_undo.2.1 9 = .ok (.ireturn, 1) := by decide +kernel
theorem dd_X9_undo_10 : decode X9_undo.2.1 10 = .ok (.aload_n 0, 1) := by decide +kernel
theorem dd_X9_undo_11 : decode X9_undo.2.1 11 = .ok (.dup, 1) := by decide +kernel
theorem dd_X9_undo_12 : decode X9_undo.2.1 12 = .ok (.getfield 180, 3) := by decide +kernel
theorem dd_X9_undo_15 : decode X9_undo.2.1 15 = .ok (.iconst 1, 1) := by decide +kernel
theorem dd_X9_undo_16 : decode X9_undo.2.1 16 = .ok (.isub, 1) := by decide +kernel
theorem dd_X9_undo_17 : decode X9_undo.2.1 17 = .ok (.putfield 180, 3) := by decide +kernel
theorem dd_X9_undo_20 : decode X9_undo.2.1 20 = .ok (.aload_n 0, 1) := by decide +kernel
theorem dd_X9_undo_21 : decode X9_undo.2.1 21 = .ok (.bipush 12, 2) := by decide +kernel
theorem dd_X9_undo_23 : decode X9_undo.2.1 23 = .ok (.bipush 12, 2) := by decide +kernel
theorem dd_X9_undo_25 : decode X9_undo.2.1 25 = .ok (.aload_n 0, 1) := by decide +kernel
theorem dd_X9_undo_26 : decode X9_undo.2.1 26 = .ok (.getfield 180, 3) := by decide +kernel
theorem dd_X9_undo_29 : decode X9_undo.2.1 29 = .ok (.imul, 1) := by decide +kernel
theorem dd_X9_undo_30 : decode X9_undo.2.1 30 = .ok (.iadd, 1) := by decide +kernel
theorem dd_X9_undo_31 : decode X9_undo.2.1 31 = .ok (.iconst 0, 1) := by decide +kernel
theorem dd_X9_undo_32 : decode X9_undo.2.1 32 = .ok (.invokevirtual 82, 3) := by decide +kernel
theorem dd_X9_undo_35 : decode X9_undo.2.1 35 = .ok (.aload_n 0, 1) := by decide +kernel
theorem dd_X9_undo_36 : decode X9_undo.2.1 36 = .ok (.iconst 0, 1) := by decide +kernel
theorem dd_X9_undo_37 : decode X9_undo.2.1 37 = .ok (.putfield 183, 3) := by decide +kernel
theorem dd_X9_undo_40 : decode X9_undo.2.1 40 = .ok (.aload_n 0, 1) := by decide +kernel
theorem dd_X9_undo_41 : decode X9_undo.2.1 41 = .ok (.getfield 180, 3) := by decide +kernel
theorem dd_X9_undo_44 : decode X9_undo.2.1 44 = .ok (.ireturn, 1) := by decide +kernel
theorem dd_X9_litOnes_0 : decode X9_litOnes.2.1 0 = .ok (.iconst 0, 1) := by decide +kernel
theorem dd_X9_litOnes_1 : decode X9_litOnes.2.1 1 = .ok (.istore_n 1, 1) := by decide +kernel
theorem dd_X9_litOnes_2 : decode X9_litOnes.2.1 2 = .ok (.iconst 0, 1) := by decide +kernel
theorem dd_X9_litOnes_3 : decode X9_litOnes.2.1 3 = .ok (.istore_n 2, 1) := by decide +kernel
theorem dd_X9_litOnes_4 : decode X9_litOnes.2.1 4 = .ok (.iload_n 2, 1) := by decide +kernel
theorem dd_X9_litOnes_5 : decode X9_litOnes.2.1 5 = .ok (.aload_n 0, 1) := by decide +kernel
theorem dd_X9_litOnes_6 : decode X9_litOnes.2.1 6 = .ok (.getfield 99, 3) := by decide +kernel
theorem dd_X9_litOnes_9 : decode X9_litOnes.2.1 9 = .ok (.if_icmp .ge 32, 3) := by decide +kernel
theorem dd_X9_litOnes_12 : decode X9_litOnes.2.1 12 = .ok (.iload_n 1, 1) := by decide +kernel
theorem dd_X9_litOnes_13 : decode X9_litOnes.2.1 13 = .ok (.aload_n 0, 1) := by decide +kernel
theorem dd_X9_litOnes_14 : decode X9_litOnes.2.1 14 = .ok (.getfield 7, 3) := by decide +kernel
theorem dd_X9_litOnes_17 : decode X9_litOnes.2.1 17 = .ok (.bipush 6, 2) := by decide +kernel
theorem dd_X9_litOnes_19 : decode X9_litOnes.2.1 19 = .ok (.iload_n 2, 1) := by decide +kernel
theorem dd_X9_litOnes_20 : decode X9_litOnes.2.1 20 = .ok (.iadd, 1) := by decide +kernel
theorem dd_X9_litOnes_21 : decode X9_litOnes.2.1 21 = .ok (.iaload, 1) := by decide +kernel
theorem dd_X9_litOnes_22 : decode X9_litOnes.2.1 22 = .ok (.iconst (-1), 1) := by decide +kernel
theorem dd_X9_litOnes_23 : decode X9_litOnes.2.1 23 = .ok (.if_icmp .ne 7, 3) := by decide +kernel
theorem dd_X9_litOnes_26 : decode X9_litOnes.2.1 26 = .ok (.iconst 0, 1) := by decide +kernel
theorem dd_X9_litOnes_27 : decode X9_litOnes.2.1 27 = .ok (.goto 6, 3) := by decide +kernel
theorem dd_X9_litOnes_30 : decode X9_litOnes.2.1 30 = .ok (.iconst 1, 1) := by decide +kernel
theorem dd_X9_litOnes_31 : decode X9_litOnes.2.1 31 = .ok (.iload_n 2, 1) := by decide +kernel
theorem dd_X9_litOnes_32 : decode X9_litOnes.2.1 32 = .ok (.ishl, 1) := by decide +kernel
theorem dd_X9_litOnes_33 : decode X9_litOnes.2.1 33 = .ok (.ior, 1) := by decide +kernel
theorem dd_X9_litOnes_34 : decode X9_litOnes.2.1 34 = .ok (.istore_n 1, 1) := by decide +kernel
theorem dd_X9_litOnes_35 : decode X9_litOnes.2.1 35 = .ok (.iinc 2 1, 3) := by decide +kernel
theorem dd_X9_litOnes_38 : decode X9_litOnes.2.1 38 = .ok (.goto (-34), 3) := by decide +kernel
theorem dd_X9_litOnes_41 : decode X9_litOnes.2.1 41 = .ok (.iload_n 1, 1) := by decide +kernel
theorem dd_X9_litOnes_42 : decode X9_litOnes.2.1 42 = .ok (.ireturn, 1) := by decide +kernel
theorem dd_X9_keep_0 : decode X9_keep.2.1 0 = .ok (.iload_n 1, 1) := by decide +kernel
theorem dd_X9_keep_1 : decode X9_keep.2.1 1 = .ok (.i2l, 1) := by decide +kernel
theorem dd_X9_keep_2 : decode X9_keep.2.1 2 = .ok (.lconst 0, 1) := by decide +kernel
theorem dd_X9_keep_3 : decode X9_keep.2.1 3 = .ok (.lconst 1, 1) := by decide +kernel
theorem dd_X9_keep_4 : decode X9_keep.2.1 4 = .ok (.invokestatic 104, 3) := by decide +kernel
theorem dd_X9_keep_7 : decode X9_keep.2.1 7 = .ok (.ifCond .ne 6, 3) := by decide +kernel
theorem dd_X9_keep_10 : decode X9_keep.2.1 10 = .ok (.bipush (-2), 2) := by decide +kernel
theorem dd_X9_keep_12 : decode X9_keep.2.1 12 = .ok (.ireturn, 1) := by decide +kernel
theorem dd_X9_keep_13 : decode X9_keep.2.1 13 = .ok (.aload_n 0, 1) := by decide +kernel
theorem dd_X9_keep_14 : decode X9_keep.2.1 14 = .ok (.iconst 0, 1) := by decide +kernel
theorem dd_X9_keep_15 : decode X9_keep.2.1 15 = .ok (.bipush 108, 2) := by decide +kernel
theorem dd_X9_keep_17 : decode X9_keep.2.1 17 = .ok (.bipush 12, 2) := by decide +kernel
theorem dd_X9_keep_19 : decode X9_keep.2.1 19 = .ok (.iload_n 1, 1) := by decide +kernel
theorem dd_X9_keep_20 : decode X9_keep.2.1 20 = .ok (.imul, 1) := by decide +kernel
theorem dd_X9_keep_21 : decode X9_keep.2.1 21 = .ok (.iadd, 1) := by decide +kernel
theorem dd_X9_keep_22 : decode X9_keep.2.1 22 = .ok (.invokevirtual 82, 3) := by decide +kernel
theorem dd_X9_keep_25 : decode X9_keep.2.1 25 = .ok (.aload_n 0, 1) := by decide +kernel
theorem dd_X9_keep_26 : decode X9_keep.2.1 26 = .ok (.getfield 16, 3) := by decide +kernel
theorem dd_X9_keep_29 : decode X9_keep.2.1 29 = .ok (.iload_n 1, 1) := by decide +kernel
theorem dd_X9_keep_30 : decode X9_keep.2.1 30 = .ok (.iconst 1, 1) := by decide +kernel
theorem dd_X9_keep_31 : decode X9_keep.2.1 31 = .ok (.bastore, 1) := by decide +kernel
theorem dd_X9_keep_32 : decode X9_keep.2.1 32 = .ok (.aload_n 0, 1) := by decide +kernel
theorem dd_X9_keep_33 : decode X9_keep.2.1 33 = .ok (.invokevirtual 236, 3) := by decide +kernel
theorem dd_X9_keep_36 : decode X9_keep.2.1 36 = .ok (.invokestatic 190, 3) := by decide +kernel
theorem dd_X9_keep_39 : decode X9_keep.2.1 39 = .ok (.ireturn, 1) := by decide +kernel
theorem dd_X9_back_0 : decode X9_back.2.1 0 = .ok (.iload_n 1, 1) := by decide +kernel
theorem dd_X9_back_1 : decode X9_back.2.1 1 = .ok (.i2l, 1) := by decide +kernel
theorem dd_X9_back_2 : decode X9_back.2.1 2 = .ok (.lconst 0, 1) := by decide +kernel
theorem dd_X9_back_3 : decode X9_back.2.1 3 = .ok (.lconst 1, 1) := by decide +kernel
theorem dd_X9_back_4 : decode X9_back.2.1 4 = .ok (.invokestatic 104, 3) := by decide +kernel
theorem dd_X9_back_7 : decode X9_back.2.1 7 = .ok (.ifCond .ne 6, 3) := by decide +kernel
theorem dd_X9_back_10 : decode X9_back.2.1 10 = .ok (.bipush (-2), 2) := by decide +kernel
theorem dd_X9_back_12 : decode X9_back.2.1 12 = .ok (.ireturn, 1) := by decide +kernel
theorem dd_X9_back_13 : decode X9_back.2.1 13 = .ok (.aload_n 0, 1) := by decide +kernel
theorem dd_X9_back_14 : decode X9_back.2.1 14 = .ok (.getfield 16, 3) := by decide +kernel
theorem dd_X9_back_17 : decode X9_back.2.1 17 = .ok (.iload_n 1, 1) := by decide +kernel
theorem dd_X9_back_18 : decode X9_back.2.1 18 = .ok (.baload, 1) := by decide +kernel
theorem dd_X9_back_19 : decode X9_back.2.1 19 = .ok (.ifCond .ne 6, 3) := by decide +kernel
theorem dd_X9_back_22 : decode X9_back.2.1 22 = .ok (.bipush (-4), 2) := by decide +kernel
theorem dd_X9_back_24 : decode X9_back.2.1 24 = .ok (.ireturn, 1) := by decide +kernel
theorem dd_X9_back_25 : decode X9_back.2.1 25 = .ok (.aload_n 0, 1) := by decide +kernel
theorem dd_X9_back_26 : decode X9_back.2.1 26 = .ok (.bipush 108, 2) := by decide +kernel
theorem dd_X9_back_28 : decode X9_back.2.1 28 = .ok (.bipush 12, 2) := by decide +kernel
theorem dd_X9_back_30 : decode X9_back.2.1 30 = .ok (.iload_n 1, 1) := by decide +kernel
theorem dd_X9_back_31 : decode X9_back.2.1 31 = .ok (.imul, 1) := by decide +kernel
theorem dd_X9_back_32 : decode X9_back.2.1 32 = .ok (.iadd, 1) := by decide +kernel
theorem dd_X9_back_33 : decode X9_back.2.1 33 = .ok (.iconst 0, 1) := by decide +kernel
theorem dd_X9_back_34 : decode X9_back.2.1 34 = .ok (.invokevirtual 82, 3) := by decide +kernel
theorem dd_X9_back_37 : decode X9_back.2.1 37 = .ok (.aload_n 0, 1) := by decide +kernel
theorem dd_X9_back_38 : decode X9_back.2.1 38 = .ok (.iconst 0, 1) := by decide +kernel
theorem dd_X9_back_39 : decode X9_back.2.1 39 = .ok (.putfield 180, 3) := by decide +kernel
theorem dd_X9_back_42 : decode X9_back.2.1 42 = .ok (.aload_n 0, 1) := by decide +kernel
theorem dd_X9_back_43 : decode X9_back.2.1 43 = .ok (.iconst 0, 1) := by decide +kernel
theorem dd_X9_back_44 : decode X9_back.2.1 44 = .ok (.putfield 183, 3) := by decide +kernel
theorem dd_X9_back_47 : decode X9_back.2.1 47 = .ok (.aload_n 0, 1) := by decide +kernel
theorem dd_X9_back_48 : decode X9_back.2.1 48 = .ok (.invokevirtual 236, 3) := by decide +kernel
theorem dd_X9_back_51 : decode X9_back.2.1 51 = .ok (.invokestatic 190, 3) := by decide +kernel
theorem dd_X9_back_54 : decode X9_back.2.1 54 = .ok (.ireturn, 1) := by decide +kernel
theorem dd_X9_layBars_0 : decode X9_layBars.2.1 0 = .ok (.iconst 0, 1) := by decide +kernel
theorem dd_X9_layBars_1 : decode X9_layBars.2.1 1 = .ok (.istore_n 2, 1) := by decide +kernel
theorem dd_X9_layBars_2 : decode X9_layBars.2.1 2 = .ok (.iload_n 2, 1) := by decide +kernel
theorem dd_X9_layBars_3 : decode X9_layBars.2.1 3 = .ok (.aload_n 0, 1) := by decide +kernel
theorem dd_X9_layBars_4 : decode X9_layBars.2.1 4 = .ok (.getfield 96, 3) := by decide +kernel
theorem dd_X9_layBars_7 : decode X9_layBars.2.1 7 = .ok (.if_icmp .ge 62, 3) := by decide +kernel
theorem dd_X9_layBars_10 : decode X9_layBars.2.1 10 = .ok (.aload_n 0, 1) := by decide +kernel
theorem dd_X9_layBars_11 : decode X9_layBars.2.1 11 = .ok (.getfield 59, 3) := by decide +kernel
theorem dd_X9_layBars_14 : decode X9_layBars.2.1 14 = .ok (.iload_n 2, 1) := by decide +kernel
theorem dd_X9_layBars_15 : decode X9_layBars.2.1 15 = .ok (.iconst 0, 1) := by decide +kernel
theorem dd_X9_layBars_16 : decode X9_layBars.2.1 16 = .ok (.iastore, 1) := by decide +kernel
theorem dd_X9_layBars_17 : decode X9_layBars.2.1 17 = .ok (.iconst 0, 1) := by decide +kernel
theorem dd_X9_layBars_18 : decode X9_layBars.2.1 18 = .ok (.istore_n 3, 1) := by decide +kernel
theorem dd_X9_layBars_19 : decode X9_layBars.2.1 19 = .ok (.iload_n 3, 1) := by decide +kernel
theorem dd_X9_layBars_20 : decode X9_layBars.2.1 20 = .ok (.aload_n 0, 1) := by decide +kernel
theorem dd_X9_layBars_21 : decode X9_layBars.2.1 21 = .ok (.getfield 96, 3) := by decide +kernel
theorem dd_X9_layBars_24 : decode X9_layBars.2.1 24 = .ok (.if_icmp .ge 39, 3) := by decide +kernel
theorem dd_X9_layBars_27 : decode X9_layBars.2.1 27 = .ok (.aload_n 0, 1) := by decide +kernel
theorem dd_X9_layBars_28 : decode X9_layBars.2.1 28 = .ok (.getfield 59, 3) := by decide +kernel
theorem dd_X9_layBars_31 : decode X9_layBars.2.1 31 = .ok (.iload_n 2, 1) := by decide +kernel
theorem dd_X9_layBars_32 : decode X9_layBars.2.1 32 = .ok (.dup2, 1) := by decide +kernel
theorem dd_X9_layBars_33 : decode X9_layBars.2.1 33 = .ok (.iaload, 1) := by decide +kernel
theorem dd_X9_layBars_34 : decode X9_layBars.2.1 34 = .ok (.aload_n 0, 1) := by decide +kernel
theorem dd_X9_layBars_35 : decode X9_layBars.2.1 35 = .ok (.iload_n 2, 1) := by decide +kernel
theorem dd_X9_layBars_36 : decode X9_layBars.2.1 36 = .ok (.iload_n 3, 1) := by decide +kernel
theorem dd_X9_layBars_37 : decode X9_layBars.2.1 37 = .ok (.aload_n 0, 1) := by decide +kernel
theorem dd_X9_layBars_38 : decode X9_layBars.2.1 38 = .ok (.getfield 90, 3) := by decide +kernel
theorem dd_X9_layBars_41 : decode X9_layBars.2.1 41 = .ok (.iload_n 1, 1) := by decide +kernel
theorem dd_X9_layBars_42 : decode X9_layBars.2.1 42 = .ok (.invokevirtual 214, 3) := by decide +kernel
theorem dd_X9_layBars_45 : decode X9_layBars.2.1 45 = .ok (.ifCond .eq 9, 3) := by decide +kernel
theorem dd_X9_layBars_48 : decode X9_layBars.2.1 48 = .ok (.iconst 1, 1) := by decide +kernel
theorem dd_X9_layBars_49 : decode X9_layBars.2.1 49 = .ok (.iload_n 3, 1) := by decide +kernel
theorem dd_X9_layBars_50 : decode X9_layBars.2.1 50 = .ok (.ishl, 1) := by decide +kernel
theorem dd_X9_layBars_51 : decode X9_layBars.2.1 51 = .ok (.goto 4, 3) := by decide +kernel
theorem dd_X9_layBars_54 : decode X9_layBars.2.1 54 = .ok (.iconst 0, 1) := by decide +kernel
theorem dd_X9_layBars_55 : decode X9_layBars.2.1 55 = .ok (.ior, 1) := by decide +kernel
theorem dd_X9_layBars_56 : decode X9_layBars.2.1 56 = .ok (.iastore, 1) := by decide +kernel
theorem dd_X9_layBars_57 : decode X9_layBars.2.1 57 = .ok (.iinc 3 1, 3) := by decide +kernel
theorem dd_X9_layBars_60 : decode X9_layBars.2.1 60 = .ok (.goto (-41), 3) := by decide +kernel
theorem dd_X9_layBars_63 : decode X9_layBars.2.1 63 = .ok (.iinc 2 1, 3) := by decide +kernel
theorem dd_X9_layBars_66 : decode X9_layBars.2.1 66 = .ok (.goto (-64), 3) := by decide +kernel
theorem dd_X9_layBars_69 : decode X9_layBars.2.1 69 = .ok (.return_, 1) := by decide +kernel
theorem dd_X9_isPlan_0 : decode X9_isPlan.2.1 0 = .ok (.iconst 0, 1) := by decide +kernel
theorem dd_X9_isPlan_1 : decode X9_isPlan.2.1 1 = .ok (.istore_n 1, 1) := by decide +kernel
theorem dd_X9_isPlan_2 : decode X9_isPlan.2.1 2 = .ok (.iload_n 1, 1) := by decide +kernel
theorem dd_X9_isPlan_3 : decode X9_isPlan.2.1 3 = .ok (.aload_n 0, 1) := by decide +kernel
theorem dd_X9_isPlan_4 : decode X9_isPlan.2.1 4 = .ok (.getfield 99, 3) := by decide +kernel
theorem dd_X9_isPlan_7 : decode X9_isPlan.2.1 7 = .ok (.if_icmp .ge 56, 3) := by decide +kernel
theorem dd_X9_isPlan_10 : decode X9_isPlan.2.1 10 = .ok (.iconst 0, 1) := by decide +kernel
theorem dd_X9_isPlan_11 : decode X9_isPlan.2.1 11 = .ok (.istore_n 2, 1) := by decide +kernel
theorem dd_X9_isPlan_12 : decode X9_isPlan.2.1 12 = .ok (.iload_n 2, 1) := by decide +kernel
theorem dd_X9_isPlan_13 : decode X9_isPlan.2.1 13 = .ok (.iload_n 1, 1) := by decide +kernel
theorem dd_X9_isPlan_14 : decode X9_isPlan.2.1 14 = .ok (.if_icmp .ge 43, 3) := by decide +kernel
theorem dd_X9_isPlan_17 : decode X9_isPlan.2.1 17 = .ok (.aload_n 0, 1) := by decide +kernel
theorem dd_X9_isPlan_18 : decode X9_isPlan.2.1 18 = .ok (.iload_n 1, 1) := by decide +kernel
theorem dd_X9_isPlan_19 : decode X9_isPlan.2.1 19 = .ok (.iload_n 2, 1) := by decide +kernel
theorem dd_X9_isPlan_20 : decode X9_isPlan.2.1 20 = .ok (.invokevirtual 218, 3) := by decide +kernel
theorem dd_X9_isPlan_23 : decode X9_isPlan.2.1 23 = .ok (.ifCond .eq 28, 3) := by decide +kernel
theorem dd_X9_isPlan_26 : decode X9_isPlan.2.1 26 = .ok (.aload_n 0, 1) := by decide +kernel
theorem dd_X9_isPlan_27 : decode X9_isPlan.2.1 27 = .ok (.getfield 59, 3) := by decide +kernel
theorem dd_X9_isPlan_30 : decode X9_isPlan.2.1 30 = .ok (.aload_n 0, 1) := by decide +kernel
theorem dd_X9_isPlan_31 : decode X9_isPlan.2.1 31 = .ok (.getfield 62, 3) := by decide +kernel
theorem dd_X9_isPlan_34 : decode X9_isPlan.2.1 34 = .ok (.iload_n 1, 1) := by decide +kernel
theorem dd_X9_isPlan_35 : decode X9_isPlan.2.1 35 = .ok (.iaload, 1) := by decide +kernel
theorem dd_X9_isPlan_36 : decode X9_isPlan.2.1 36 = .ok (.iaload, 1) := by decide +kernel
theorem dd_X9_isPlan_37 : decode X9_isPlan.2.1 37 = .ok (.aload_n 0, 1) := by decide +kernel
theorem dd_X9_isPlan_38 : decode X9_isPlan.2.1 38 = .ok (.getfield 62, 3) := by decide +kernel
theorem dd_X9_isPlan_41 : decode X9_isPlan.2.1 41 = .ok (.iload_n 2, 1) := by decide +kernel
theorem dd_X9_isPlan_42 : decode X9_isPlan.2.1 42 = .ok (.iaload, 1) := by decide +kernel
theorem dd_X9_isPlan_43 : decode X9_isPlan.2.1 43 = .ok (.invokestatic 239, 3) := by decide +kernel
theorem dd_X9_isPlan_46 : decode X9_isPlan.2.1 46 = .ok (.ifCond .eq 5, 3) := by decide +kernel
theorem dd_X9_isPlan_49 : decode X9_isPlan.2.1 49 = .ok (.iconst 0, 1) := by decide +kernel
theorem dd_X9_isPlan_50 : decode X9_isPlan.2.1 50 = .ok (.ireturn, 1) := by decide +kernel
theorem dd_X9_isPlan_51 : decode X9_isPlan.2.1 51 = .ok (.iinc 2 1, 3) := by decide +kernel
theorem dd_X9_isPlan_54 : decode X9_isPlan.2.1 54 = .ok (.goto (-42), 3) := by decide +kernel
theorem dd_X9_isPlan_57 : decode X9_isPlan.2.1 57 = .ok (.iinc 1 1, 3) := by decide +kernel
theorem dd_X9_isPlan_60 : decode X9_isPlan.2.1 60 = .ok (.goto (-58), 3) := by decide +kernel
theorem dd_X9_isPlan_63 : decode X9_isPlan.2.1 63 = .ok (.iconst 1, 1) := by decide +kernel
theorem dd_X9_isPlan_64 : decode X9_isPlan.2.1 64 = .ok (.ireturn, 1) := by decide +kernel
theorem dd_X9_layPlan_0 : decode X9_layPlan.2.1 0 = .ok (.aload_n 0, 1) := by decide +kernel
theorem dd_X9_layPlan_1 : decode X9_layPlan.2.1 1 = .ok (.iload_n 1, 1) := by decide +kernel
theorem dd_X9_layPlan_2 : decode X9_layPlan.2.1 2 = .ok (.invokevirtual 242, 3) := by decide +kernel
theorem dd_X9_layPlan_5 : decode X9_layPlan.2.1 5 = .ok (.iconst 1, 1) := by decide +kernel
theorem dd_X9_layPlan_6 : decode X9_layPlan.2.1 6 = .ok (.istore_n 2, 1) := by decide +kernel
theorem dd_X9_layPlan_7 : decode X9_layPlan.2.1 7 = .ok (.iconst 0, 1) := by decide +kernel
theorem dd_X9_layPlan_8 : decode X9_layPlan.2.1 8 = .ok (.istore_n 3, 1) := by decide +kernel
theorem dd_X9_layPlan_9 : decode X9_layPlan.2.1 9 = .ok (.iload_n 3, 1) := by decide +kernel
theorem dd_X9_layPlan_10 : decode X9_layPlan.2.1 10 = .ok (.aload_n 0, 1) := by decide +kernel
theorem dd_X9_layPlan_11 : decode X9_layPlan.2.1 11 = .ok (.getfield 99, 3) := by decide +kernel
theorem dd_X9_layPlan_14 : decode X9_layPlan.2.1 14 = .ok (.if_icmp .ge 16, 3) := by decide +kernel
theorem dd_X9_layPlan_17 : decode X9_layPlan.2.1 17 = .ok (.iload_n 2, 1) := by decide +kernel
theorem dd_X9_layPlan_18 : decode X9_layPlan.2.1 18 = .ok (.aload_n 0, 1) := by decide +kernel
theorem dd_X9_layPlan_19 : decode X9_layPlan.2.1 19 = .ok (.getfield 96, 3) := by decide +kernel
theorem dd_X9_layPlan_22 : decode X9_layPlan.2.1 22 = .ok (.imul, 1) := by decide +kernel
theorem dd_X9_layPlan_23 : decode X9_layPlan.2.1 23 = .ok (.istore_n 2, 1) := by decide +kernel
theorem dd_X9_layPlan_24 : decode X9_layPlan.2.1 24 = .ok (.iinc 3 1, 3) := by decide +kernel
theorem dd_X9_layPlan_27 : decode X9_layPlan.2.1 27 = .ok (.goto (-18), 3) := by decide +kernel
theorem dd_X9_layPlan_30 : decode X9_layPlan.2.1 30 = .ok (.iconst (-1), 1) := by decide +kernel
theorem dd_X9_layPlan_31 : decode X9_layPlan.2.1 31 = .ok (.istore_n 3, 1) := by decide +kernel
theorem dd_X9_layPlan_32 : decode X9_layPlan.2.1 32 = .ok (.iconst 0, 1) := by decide +kernel
theorem dd_X9_layPlan_33 : decode X9_layPlan.2.1 33 = .ok (.istore 4, 2) := by decide +kernel
theorem dd_X9_layPlan_35 : decode X9_layPlan.2.1 35 = .ok (.iload 4, 2) := by decide +kernel
theorem dd_X9_layPlan_37 : decode X9_layPlan.2.1 37 = .ok (.iload_n 2, 1) := by decide +kernel
theorem dd_X9_layPlan_38 : decode X9_layPlan.2.1 38 = .ok (.if_icmp .ge 132, 3) := by decide +kernel
theorem dd_X9_layPlan_41 : decode X9_layPlan.2.1 41 = .ok (.iload 4, 2) := by decide +kernel
theorem dd_X9_layPlan_43 : decode X9_layPlan.2.1 43 = .ok (.istore 5, 2) := by decide +kernel
theorem dd_X9_layPlan_45 : decode X9_layPlan.2.1 45 = .ok (.iconst 0, 1) := by decide +kernel
theorem dd_X9_layPlan_46 : decode X9_layPlan.2.1 46 = .ok (.istore 6, 2) := by decide +kernel
theorem dd_X9_layPlan_48 : decode X9_layPlan.2.1 48 = .ok (.aload_n 0, 1) := by decide +kernel
theorem dd_X9_layPlan_49 : decode X9_layPlan.2.1 49 = .ok (.getfield 99, 3) := by decide +kernel
theorem dd_X9_layPlan_52 : decode X9_layPlan.2.1 52 = .ok (.iconst 1, 1) := by decide +kernel
theorem dd_X9_layPlan_53 : decode X9_layPlan.2.1 53 = .ok (.isub, 1) := by decide +kernel
theorem dd_X9_layPlan_54 : decode X9_layPlan.2.1 54 = .ok (.istore 7, 2) := by decide +kernel
theorem dd_X9_layPlan_56 : decode X9_layPlan.2.1 56 = .ok (.iload 7, 2) := by decide +kernel
theorem dd_X9_layPlan_58 : decode X9_layPlan.2.1 58 = .ok (.ifCond .lt 46, 3) := by decide +kernel
theorem dd_X9_layPlan_61 : decode X9_layPlan.2.1 61 = .ok (.aload_n 0, 1) := by decide +kernel
theorem dd_X9_layPlan_62 : decode X9_layPlan.2.1 62 = .ok (.getfield 62, 3) := by decide +kernel
theorem dd_X9_layPlan_65 : decode X9_layPlan.2.1 65 = .ok (.iload 7, 2) := by decide +kernel
theorem dd_X9_layPlan_67 : decode X9_layPlan.2.1 67 = .ok (.iload 5, 2) := by decide +kernel
theorem dd_X9_layPlan_69 : decode X9_layPlan.2.1 69 = .ok (.aload_n 0, 1) := by decide +kernel
theorem dd_X9_layPlan_70 : decode X9_layPlan.2.1 70 = .ok (.getfield 96, 3) := by decide +kernel
theorem dd_X9_layPlan_73 : decode X9_layPlan.2.1 73 = .ok (.irem, 1) := by decide +kernel
theorem dd_X9_layPlan_74 : decode X9_layPlan.2.1 74 = .ok (.iastore, 1) := by decide +kernel
theorem dd_X9_layPlan_75 : decode X9_layPlan.2.1 75 = .ok (.iload 5, 2) := by decide +kernel
theorem dd_X9_layPlan_77 : decode X9_layPlan.2.1 77 = .ok (.aload_n 0, 1) := by decide +kernel
theorem dd_X9_layPlan_78 : decode X9_layPlan.2.1 78 = .ok (.getfield 96, 3) := by decide +kernel
theorem dd_X9_layPlan_81 : decode X9_layPlan.2.1 81 = .ok (.idiv, 1) := by decide +kernel
theorem dd_X9_layPlan_82 : decode X9_layPlan.2.1 82 = .ok (.istore 5, 2) := by decide +kernel
theorem dd_X9_layPlan_84 : decode X9_layPlan.2.1 84 = .ok (.iload 6, 2) := by decide +kernel
theorem dd_X9_layPlan_86 : decode X9_layPlan.2.1 86 = .ok (.iconst 1, 1) := by decide +kernel
theorem dd_X9_layPlan_87 : decode X9_layPlan.2.1 87 = .ok (.aload_n 0, 1) := by decide +kernel
theorem dd_X9_layPlan_88 : decode X9_layPlan.2.1 88 = .ok (.getfield 62, 3) := by decide +kernel
theorem dd_X9_layPlan_91 : decode X9_layPlan.2.1 91 = .ok (.iload 7, 2) := by decide +kernel
theorem dd_X9_layPlan_93 : decode X9_layPlan.2.1 93 = .ok (.iaload, 1) := by decide +kernel
theorem dd_X9_layPlan_94 : decode X9_layPlan.2.1 94 = .ok (.ishl, 1) := by decide +kernel
theorem dd_X9_layPlan_95 : decode X9_layPlan.2.1 95 = .ok (.ior, 1) := by decide +kernel
theorem dd_X9_layPlan_96 : decode X9_layPlan.2.1 96 = .ok (.istore 6, 2) := by decide +kernel
theorem dd_X9_layPlan_98 : decode X9_layPlan.2.1 98 = .ok (.iinc 7 (-1), 3) := by decide +kernel
theorem dd_X9_layPlan_101 : decode X9_layPlan.2.1 101 = .ok (.goto (-45), 3) := by decide +kernel
theorem dd_X9_layPlan_104 : decode X9_layPlan.2.1 104 = .ok (.iload 6, 2) := by decide +kernel
theorem dd_X9_layPlan_106 : decode X9_layPlan.2.1 106 = .ok (.invokestatic 190, 3) := by decide +kernel
theorem dd_X9_layPlan_109 : decode X9_layPlan.2.1 109 = .ok (.istore 7, 2) := by decide +kernel
theorem dd_X9_layPlan_111 : decode X9_layPlan.2.1 111 = .ok (.iload_n 3, 1) := by decide +kernel
theorem dd_X9_layPlan_112 : decode X9_layPlan.2.1 112 = .ok (.iconst (-1), 1) := by decide +kernel
theorem dd_X9_layPlan_113 : decode X9_layPlan.2.1 113 = .ok (.if_icmp .eq 9, 3) := by decide +kernel
theorem dd_X9_layPlan_116 : decode X9_layPlan.2.1 116 = .ok (.iload 7, 2) := by decide +kernel
theorem dd_X9_layPlan_118 : decode X9_layPlan.2.1 118 = .ok (.iload_n 3, 1) := by decide +kernel
theorem dd_X9_layPlan_119 : decode X9_layPlan.2.1 119 = .ok (.if_icmp .ge 45, 3) := by decide +kernel
theorem dd_X9_layPlan_122 : decode X9_layPlan.2.1 122 = .ok (.aload_n 0, 1) := by decide +kernel
theorem dd_X9_layPlan_123 : decode X9_layPlan.2.1 123 = .ok (.invokevirtual 246, 3) := by decide +kernel
theorem dd_X9_layPlan_126 : decode X9_layPlan.2.1 126 = .ok (.ifCond .eq 38, 3) := by decide +kernel
theorem dd_X9_layPlan_129 : decode X9_layPlan.2.1 129 = .ok (.iload 7, 2) := by decide +kernel
theorem dd_X9_layPlan_131 : decode X9_layPlan.2.1 131 = .ok (.istore_n 3, 1) := by decide +kernel
theorem dd_X9_layPlan_132 : decode X9_layPlan.2.1 132 = .ok (.iconst 0, 1) := by decide +kernel
theorem dd_X9_layPlan_133 : decode X9_layPlan.2.1 133 = .ok (.istore 8, 2) := by decide +kernel
theorem dd_X9_layPlan_135 : decode X9_layPlan.2.1 135 = .ok (.iload 8, 2) := by decide +kernel
theorem dd_X9_layPlan_137 : decode X9_layPlan.2.1 137 = .ok (.aload_n 0, 1) := by decide +kernel
theorem dd_X9_layPlan_138 : decode X9_layPlan.2.1 138 = .ok (.getfield 99, 3) := by decide +kernel
theorem dd_X9_layPlan_141 : decode X9_layPlan.2.1 141 = .ok (.if_icmp .ge 23, 3) := by decide +kernel
theorem dd_X9_layPlan_144 : decode X9_layPlan.2.1 144 = .ok (.aload_n 0, 1) := by decide +kernel
theorem dd_X9_layPlan_145 : decode X9_layPlan.2.1 145 = .ok (.getfield 65, 3) := by decide +kernel
theorem dd_X9_layPlan_148 : decode X9_layPlan.2.1 148 = .ok (.iload 8, 2) := by decide +kernel
theorem dd_X9_layPlan_150 : decode X9_layPlan.2.1 150 = .ok (.aload_n 0, 1) := by decide +kernel
theorem dd_X9_layPlan_151 : decode X9_layPlan.2.1 151 = .ok (.getfield 62, 3) := by decide +kernel
theorem dd_X9_layPlan_154 : decode X9_layPlan.2.1 154 = .ok (.iload 8, 2) := by decide +kernel
theorem dd_X9_layPlan_156 : decode X9_layPlan.2.1 156 = .ok (.iaload, 1) := by decide +kernel
theorem dd_X9_layPlan_157 : decode X9_layPlan.2.1 157 = .ok (.iastore, 1) := by decide +kernel
theorem dd_X9_layPlan_158 : decode X9_layPlan.2.1 158 = .ok (.iinc 8 1, 3) := by decide +kernel
theorem dd_X9_layPlan_161 : decode X9_layPlan.2.1 161 = .ok (.goto (-26), 3) := by decide +kernel
theorem dd_X9_layPlan_164 : decode X9_layPlan.2.1 164 = .ok (.iinc 4 1, 3) := by decide +kernel
theorem dd_X9_layPlan_167 : decode X9_layPlan.2.1 167 = .ok (.goto (-132), 3) := by decide +kernel
theorem dd_X9_layPlan_170 : decode X9_layPlan.2.1 170 = .ok (.iload_n 3, 1) := by decide +kernel
theorem dd_X9_layPlan_171 : decode X9_layPlan.2.1 171 = .ok (.ireturn, 1) := by decide +kernel
theorem dd_X9_plan_0 : decode X9_plan.2.1 0 = .ok (.iload_n 2, 1) := by decide +kernel
theorem dd_X9_plan_1 : decode X9_plan.2.1 1 = .ok (.iconst (-1), 1) := by decide +kernel
theorem dd_X9_plan_2 : decode X9_plan.2.1 2 = .ok (.if_icmp .eq 14, 3) := by decide +kernel
theorem dd_X9_plan_5 : decode X9_plan.2.1 5 = .ok (.aload_n 0, 1) := by decide +kernel
theorem dd_X9_plan_6 : decode X9_plan.2.1 6 = .ok (.iload_n 2, 1) := by decide +kernel
theorem dd_X9_plan_7 : decode X9_plan.2.1 7 = .ok (.invokevirtual 224, 3) := by decide +kernel
theorem dd_X9_plan_10 : decode X9_plan.2.1 10 = .ok (.ifCond .ne 6, 3) := by decide +kernel
theorem dd_X9_plan_13 : decode X9_plan.2.1 13 = .ok (.bipush (-2), 2) := by decide +kernel
theorem dd_X9_plan_15 : decode X9_plan.2.1 15 = .ok (.ireturn, 1) := by decide +kernel
theorem dd_X9_plan_16 : decode X9_plan.2.1 16 = .ok (.iload_n 1, 1) := by decide +kernel
theorem dd_X9_plan_17 : decode X9_plan.2.1 17 = .ok (.i2l, 1) := by decide +kernel
theorem dd_X9_plan_18 : decode X9_plan.2.1 18 = .ok (.lconst 0, 1) := by decide +kernel
theorem dd_X9_plan_19 : decode X9_plan.2.1 19 = .ok (.lconst 1, 1) := by decide +kernel
theorem dd_X9_plan_20 : decode X9_plan.2.1 20 = .ok (.invokestatic 104, 3) := by decide +kernel
theorem dd_X9_plan_23 : decode X9_plan.2.1 23 = .ok (.ifCond .ne 6, 3) := by decide +kernel
theorem dd_X9_plan_26 : decode X9_plan.2.1 26 = .ok (.bipush (-3), 2) := by decide +kernel
theorem dd_X9_plan_28 : decode X9_plan.2.1 28 = .ok (.ireturn, 1) := by decide +kernel
theorem dd_X9_plan_29 : decode X9_plan.2.1 29 = .ok (.aload_n 0, 1) := by decide +kernel
theorem dd_X9_plan_30 : decode X9_plan.2.1 30 = .ok (.iload_n 1, 1) := by decide +kernel
theorem dd_X9_plan_31 : decode X9_plan.2.1 31 = .ok (.iconst 1, 1) := by decide +kernel
theorem dd_X9_plan_32 : decode X9_plan.2.1 32 = .ok (.if_icmp .ne 7, 3) := by decide +kernel
theorem dd_X9_plan_35 : decode X9_plan.2.1 35 = .ok (.iconst 1, 1) := by decide +kernel
theorem dd_X9_plan_36 : decode X9_plan.2.1 36 = .ok (.goto 4, 3) := by decide +kernel
theorem dd_X9_plan_39 : decode X9_plan.2.1 39 = .ok (.iconst 0, 1) := by decide +kernel
theorem dd_X9_plan_40 : decode X9_plan.2.1 40 = .ok (.invokevirtual 249, 3) := by decide +kernel
theorem dd_X9_plan_43 : decode X9_plan.2.1 43 = .ok (.istore_n 3, 1) := by decide +kernel
theorem dd_X9_plan_44 : decode X9_plan.2.1 44 = .ok (.iload_n 2, 1) := by decide +kernel
theorem dd_X9_plan_45 : decode X9_plan.2.1 45 = .ok (.iconst (-1), 1) := by decide +kernel
theorem dd_X9_plan_46 : decode X9_plan.2.1 46 = .ok (.if_icmp .eq 8, 3) := by decide +kernel
theorem dd_X9_plan_49 : decode X9_plan.2.1 49 = .ok (.iload_n 3, 1) := by decide +kernel
theorem dd_X9_plan_50 : decode X9_plan.2.1 50 = .ok (.iconst (-1), 1) := by decide +kernel
theorem dd_X9_plan_51 : decode X9_plan.2.1 51 = .ok (.if_icmp .ne 7, 3) := by decide +kernel
theorem dd_X9_plan_54 : decode X9_plan.2.1 54 = .ok (.iload_n 3, 1) := by decide +kernel
theorem dd_X9_plan_55 : decode X9_plan.2.1 55 = .ok (.goto 9, 3) := by decide +kernel
theorem dd_X9_plan_58 : decode X9_plan.2.1 58 = .ok (.aload_n 0, 1) := by decide +kernel
theorem dd_X9_plan_59 : decode X9_plan.2.1 59 = .ok (.getfield 65, 3) := by decide +kernel
theorem dd_X9_plan_62 : decode X9_plan.2.1 62 = .ok (.iload_n 2, 1) := by decide +kernel
theorem dd_X9_plan_63 : decode X9_plan.2.1 63 = .ok (.iaload, 1) := by decide +kernel
theorem dd_X9_plan_64 : decode X9_plan.2.1 64 = .ok (.ireturn, 1) := by decide +kernel
end
section
/-! DECODE ROWS, by program. -/
theorem dd_X9_most_0 : decode X9_most.2.1 0 = .ok (.iload_n 1, 1) := by decide +kernel
theorem dd_X9_most_1 : decode X9_most.2.1 1 = .ok (.i2l, 1) := by decide +kernel
theorem dd_X9_most_2 : decode X9_most.2.1 2 = .ok (.lconst 0, 1) := by decide +kernel
theorem dd_X9_most_3 : decode X9_most.2.1 3 = .ok (.lconst 1, 1) := by decide +kernel
theorem dd_X9_most_4 : decode X9_most.2.1 4 = .ok (.invokestatic 104, 3) := by decide +kernel
theorem dd_X9_most_7 : decode X9_most.2.1 7 = .ok (.ifCond .ne 6, 3) := by decide +kernel
theorem dd_X9_most_10 : decode X9_most.2.1 10 = .ok (.bipush (-3), 2) := by decide +kernel
theorem dd_X9_most_12 : decode X9_most.2.1 12 = .ok (.ireturn, 1) := by decide +kernel
theorem dd_X9_most_13 : decode X9_most.2.1 13 = .ok (.aload_n 0, 1) := by decide +kernel
theorem dd_X9_most_14 : decode X9_most.2.1 14 = .ok (.iload_n 1, 1) := by decide +kernel
theorem dd_X9_most_15 : decode X9_most.2.1 15 = .ok (.iconst 1, 1) := by decide +kernel
theorem dd_X9_most_16 : decode X9_most.2.1 16 = .ok (.if_icmp .ne 7, 3) := by decide +kernel
theorem dd_X9_most_19 : decode X9_most.2.1 19 = .ok (.iconst 1, 1) := by decide +kernel
theorem dd_X9_most_20 : decode X9_most.2.1 20 = .ok (.goto 4, 3) := by decide +kernel
theorem dd_X9_most_23 : decode X9_most.2.1 23 = .ok (.iconst 0, 1) := by decide +kernel
theorem dd_X9_most_24 : decode X9_most.2.1 24 = .ok (.invokevirtual 242, 3) := by decide +kernel
theorem dd_X9_most_27 : decode X9_most.2.1 27 = .ok (.iconst 0, 1) := by decide +kernel
theorem dd_X9_most_28 : decode X9_most.2.1 28 = .ok (.istore_n 2, 1) := by decide +kernel
theorem dd_X9_most_29 : decode X9_most.2.1 29 = .ok (.iconst 1, 1) := by decide +kernel
theorem dd_X9_most_30 : decode X9_most.2.1 30 = .ok (.istore_n 3, 1) := by decide +kernel
theorem dd_X9_most_31 : decode X9_most.2.1 31 = .ok (.iload_n 3, 1) := by decide +kernel
theorem dd_X9_most_32 : decode X9_most.2.1 32 = .ok (.iconst 1, 1) := by decide +kernel
theorem dd_X9_most_33 : decode X9_most.2.1 33 = .ok (.aload_n 0, 1) := by decide +kernel
theorem dd_X9_most_34 : decode X9_most.2.1 34 = .ok (.getfield 96, 3) := by decide +kernel
theorem dd_X9_most_37 : decode X9_most.2.1 37 = .ok (.ishl, 1) := by decide +kernel
theorem dd_X9_most_38 : decode X9_most.2.1 38 = .ok (.if_icmp .ge 92, 3) := by decide +kernel
theorem dd_X9_most_41 : decode X9_most.2.1 41 = .ok (.iconst 1, 1) := by decide +kernel
theorem dd_X9_most_42 : decode X9_most.2.1 42 = .ok (.istore 4, 2) := by decide +kernel
theorem dd_X9_most_44 : decode X9_most.2.1 44 = .ok (.iconst 0, 1) := by decide +kernel
theorem dd_X9_most_45 : decode X9_most.2.1 45 = .ok (.istore 5, 2) := by decide +kernel
theorem dd_X9_most_47 : decode X9_most.2.1 47 = .ok (.iload 5, 2) := by decide +kernel
theorem dd_X9_most_49 : decode X9_most.2.1 49 = .ok (.aload_n 0, 1) := by decide +kernel
theorem dd_X9_most_50 : decode X9_most.2.1 50 = .ok (.getfield 96, 3) := by decide +kernel
theorem dd_X9_most_53 : decode X9_most.2.1 53 = .ok (.if_icmp .ge 49, 3) := by decide +kernel
theorem dd_X9_most_56 : decode X9_most.2.1 56 = .ok (.iload 4, 2) := by decide +kernel
theorem dd_X9_most_58 : decode X9_most.2.1 58 = .ok (.ifCond .eq 35, 3) := by decide +kernel
theorem dd_X9_most_61 : decode X9_most.2.1 61 = .ok (.iload_n 3, 1) := by decide +kernel
theorem dd_X9_most_62 : decode X9_most.2.1 62 = .ok (.iload 5, 2) := by decide +kernel
theorem dd_X9_most_64 : decode X9_most.2.1 64 = .ok (.invokestatic 239, 3) := by decide +kernel
theorem dd_X9_most_67 : decode X9_most.2.1 67 = .ok (.ifCond .eq 22, 3) := by decide +kernel
theorem dd_X9_most_70 : decode X9_most.2.1 70 = .ok (.aload_n 0, 1) := by decide +kernel
theorem dd_X9_most_71 : decode X9_most.2.1 71 = .ok (.getfield 59, 3) := by decide +kernel
theorem dd_X9_most_74 : decode X9_most.2.1 74 = .ok (.iload 5, 2) := by decide +kernel
theorem dd_X9_most_76 : decode X9_most.2.1 76 = .ok (.iaload, 1) := by decide +kernel
theorem dd_X9_most_77 : decode X9_most.2.1 77 = .ok (.iload_n 3, 1) := by decide +kernel
theorem dd_X9_most_78 : decode X9_most.2.1 78 = .ok (.iand, 1) := by decide +kernel
theorem dd_X9_most_79 : decode X9_most.2.1 79 = .ok (.iconst 1, 1) := by decide +kernel
theorem dd_X9_most_80 : decode X9_most.2.1 80 = .ok (.iload 5, 2) := by decide +kernel
theorem dd_X9_most_82 : decode X9_most.2.1 82 = .ok (.ishl, 1) := by decide +kernel
theorem dd_X9_most_83 : decode X9_most.2.1 83 = .ok (.iconst (-1), 1) := by decide +kernel
theorem dd_X9_most_84 : decode X9_most.2.1 84 = .ok (.ixor, 1) := by decide +kernel
theorem dd_X9_most_85 : decode X9_most.2.1 85 = .ok (.iand, 1) := by decide +kernel
theorem dd_X9_most_86 : decode X9_most.2.1 86 = .ok (.ifCond .ne 7, 3) := by decide +kernel
theorem dd_X9_most_89 : decode X9_most.2.1 89 = .ok (.iconst 1, 1) := by decide +kernel
theorem dd_X9_most_90 : decode X9_most.2.1 90 = .ok (.goto 4, 3) := by decide +kernel
theorem dd_X9_most_93 : decode X9_most.2.1 93 = .ok (.iconst 0, 1) := by decide +kernel
theorem dd_X9_most_94 : decode X9_most.2.1 94 = .ok (.istore 4, 2) := by decide +kernel
theorem dd_X9_most_96 : decode X9_most.2.1 96 = .ok (.iinc 5 1, 3) := by decide +kernel
theorem dd_X9_most_99 : decode X9_most.2.1 99 = .ok (.goto (-52), 3) := by decide +kernel
theorem dd_X9_most_102 : decode X9_most.2.1 102 = .ok (.iload 4, 2) := by decide +kernel
theorem dd_X9_most_104 : decode X9_most.2.1 104 = .ok (.ifCond .eq 18, 3) := by decide +kernel
theorem dd_X9_most_107 : decode X9_most.2.1 107 = .ok (.iload_n 3, 1) := by decide +kernel
theorem dd_X9_most_108 : decode X9_most.2.1 108 = .ok (.invokestatic 190, 3) := by decide +kernel
theorem dd_X9_most_111 : decode X9_most.2.1 111 = .ok (.iload_n 2, 1) := by decide +kernel
theorem dd_X9_most_112 : decode X9_most.2.1 112 = .ok (.invokestatic 190, 3) := by decide +kernel
theorem dd_X9_most_115 : decode X9_most.2.1 115 = .ok (.if_icmp .le 7, 3) := by decide +kernel
theorem dd_X9_most_118 : decode X9_most.2.1 118 = .ok (.iload_n 3, 1) := by decide +kernel
theorem dd_X9_most_119 : decode X9_most.2.1 119 = .ok (.goto 4, 3) := by decide +kernel
theorem dd_X9_most_122 : decode X9_most.2.1 122 = .ok (.iload_n 2, 1) := by decide +kernel
theorem dd_X9_most_123 : decode X9_most.2.1 123 = .ok (.istore_n 2, 1) := by decide +kernel
theorem dd_X9_most_124 : decode X9_most.2.1 124 = .ok (.iinc 3 1, 3) := by decide +kernel
theorem dd_X9_most_127 : decode X9_most.2.1 127 = .ok (.goto (-96), 3) := by decide +kernel
theorem dd_X9_most_130 : decode X9_most.2.1 130 = .ok (.iload_n 2, 1) := by decide +kernel
theorem dd_X9_most_131 : decode X9_most.2.1 131 = .ok (.ireturn, 1) := by decide +kernel
theorem dd_X9_apart_0 : decode X9_apart.2.1 0 = .ok (.aload_n 0, 1) := by decide +kernel
theorem dd_X9_apart_1 : decode X9_apart.2.1 1 = .ok (.iload_n 1, 1) := by decide +kernel
theorem dd_X9_apart_2 : decode X9_apart.2.1 2 = .ok (.invokevirtual 198, 3) := by decide +kernel
theorem dd_X9_apart_5 : decode X9_apart.2.1 5 = .ok (.ifCond .eq 11, 3) := by decide +kernel
theorem dd_X9_apart_8 : decode X9_apart.2.1 8 = .ok (.aload_n 0, 1) := by decide +kernel
theorem dd_X9_apart_9 : decode X9_apart.2.1 9 = .ok (.iload_n 2, 1) := by decide +kernel
theorem dd_X9_apart_10 : decode X9_apart.2.1 10 = .ok (.invokevirtual 198, 3) := by decide +kernel
theorem dd_X9_apart_13 : decode X9_apart.2.1 13 = .ok (.ifCond .ne 6, 3) := by decide +kernel
theorem dd_X9_apart_16 : decode X9_apart.2.1 16 = .ok (.bipush (-2), 2) := by decide +kernel
theorem dd_X9_apart_18 : decode X9_apart.2.1 18 = .ok (.ireturn, 1) := by decide +kernel
theorem dd_X9_apart_19 : decode X9_apart.2.1 19 = .ok (.iconst 1, 1) := by decide +kernel
theorem dd_X9_apart_20 : decode X9_apart.2.1 20 = .ok (.istore_n 3, 1) := by decide +kernel
theorem dd_X9_apart_21 : decode X9_apart.2.1 21 = .ok (.iload_n 3, 1) := by decide +kernel
theorem dd_X9_apart_22 : decode X9_apart.2.1 22 = .ok (.aload_n 0, 1) := by decide +kernel
theorem dd_X9_apart_23 : decode X9_apart.2.1 23 = .ok (.getfield 86, 3) := by decide +kernel
theorem dd_X9_apart_26 : decode X9_apart.2.1 26 = .ok (.if_icmp .gt 22, 3) := by decide +kernel
theorem dd_X9_apart_29 : decode X9_apart.2.1 29 = .ok (.aload_n 0, 1) := by decide +kernel
theorem dd_X9_apart_30 : decode X9_apart.2.1 30 = .ok (.iload_n 1, 1) := by decide +kernel
theorem dd_X9_apart_31 : decode X9_apart.2.1 31 = .ok (.iload_n 2, 1) := by decide +kernel
theorem dd_X9_apart_32 : decode X9_apart.2.1 32 = .ok (.iload_n 3, 1) := by decide +kernel
theorem dd_X9_apart_33 : decode X9_apart.2.1 33 = .ok (.iconst 0, 1) := by decide +kernel
theorem dd_X9_apart_34 : decode X9_apart.2.1 34 = .ok (.invokevirtual 214, 3) := by decide +kernel
theorem dd_X9_apart_37 : decode X9_apart.2.1 37 = .ok (.ifCond .ne 5, 3) := by decide +kernel
theorem dd_X9_apart_40 : decode X9_apart.2.1 40 = .ok (.iload_n 3, 1) := by decide +kernel
theorem dd_X9_apart_41 : decode X9_apart.2.1 41 = .ok (.ireturn, 1) := by decide +kernel
theorem dd_X9_apart_42 : decode X9_apart.2.1 42 = .ok (.iinc 3 1, 3) := by decide +kernel
theorem dd_X9_apart_45 : decode X9_apart.2.1 45 = .ok (.goto (-24), 3) := by decide +kernel
theorem dd_X9_apart_48 : decode X9_apart.2.1 48 = .ok (.iconst (-1), 1) := by decide +kernel
theorem dd_X9_apart_49 : decode X9_apart.2.1 49 = .ok (.ireturn, 1) := by decide +kernel
theorem dd_X9_firstSet_0 : decode X9_firstSet.2.1 0 = .ok (.lconst 0, 1) := by decide +kernel
theorem dd_X9_firstSet_1 : decode X9_firstSet.2.1 1 = .ok (.lstore_n 2, 1) := by decide +kernel
theorem dd_X9_firstSet_2 : decode X9_firstSet.2.1 2 = .ok (.iconst 0, 1) := by decide +kernel
theorem dd_X9_firstSet_3 : decode X9_firstSet.2.1 3 = .ok (.istore 4, 2) := by decide +kernel
theorem dd_X9_firstSet_5 : decode X9_firstSet.2.1 5 = .ok (.iload 4, 2) := by decide +kernel
theorem dd_X9_firstSet_7 : decode X9_firstSet.2.1 7 = .ok (.aload_n 0, 1) := by decide +kernel
theorem dd_X9_firstSet_8 : decode X9_firstSet.2.1 8 = .ok (.getfield 99, 3) := by decide +kernel
theorem dd_X9_firstSet_11 : decode X9_firstSet.2.1 11 = .ok (.if_icmp .ge 83, 3) := by decide +kernel
theorem dd_X9_firstSet_14 : decode X9_firstSet.2.1 14 = .ok (.aload_n 0, 1) := by decide +kernel
theorem dd_X9_firstSet_15 : decode X9_firstSet.2.1 15 = .ok (.getfield 7, 3) := by decide +kernel
theorem dd_X9_firstSet_18 : decode X9_firstSet.2.1 18 = .ok (.bipush 6, 2) := by decide +kernel
theorem dd_X9_firstSet_20 : decode X9_firstSet.2.1 20 = .ok (.iload 4, 2) := by decide +kernel
theorem dd_X9_firstSet_22 : decode X9_firstSet.2.1 22 = .ok (.iadd, 1) := by decide +kernel
theorem dd_X9_firstSet_23 : decode X9_firstSet.2.1 23 = .ok (.iaload, 1) := by decide +kernel
theorem dd_X9_firstSet_24 : decode X9_firstSet.2.1 24 = .ok (.iconst (-1), 1) := by decide +kernel
theorem dd_X9_firstSet_25 : decode X9_firstSet.2.1 25 = .ok (.if_icmp .eq 63, 3) := by decide +kernel
theorem dd_X9_firstSet_28 : decode X9_firstSet.2.1 28 = .ok (.aload_n 0, 1) := by decide +kernel
theorem dd_X9_firstSet_29 : decode X9_firstSet.2.1 29 = .ok (.getfield 7, 3) := by decide +kernel
theorem dd_X9_firstSet_32 : decode X9_firstSet.2.1 32 = .ok (.iconst 0, 1) := by decide +kernel
theorem dd_X9_firstSet_33 : decode X9_firstSet.2.1 33 = .ok (.iload 4, 2) := by decide +kernel
theorem dd_X9_firstSet_35 : decode X9_firstSet.2.1 35 = .ok (.iadd, 1) := by decide +kernel
theorem dd_X9_firstSet_36 : decode X9_firstSet.2.1 36 = .ok (.iaload, 1) := by decide +kernel
theorem dd_X9_firstSet_37 : decode X9_firstSet.2.1 37 = .ok (.iload_n 1, 1) := by decide +kernel
theorem dd_X9_firstSet_38 : decode X9_firstSet.2.1 38 = .ok (.isub, 1) := by decide +kernel
theorem dd_X9_firstSet_39 : decode X9_firstSet.2.1 39 = .ok (.i2l, 1) := by decide +kernel
theorem dd_X9_firstSet_40 : decode X9_firstSet.2.1 40 = .ok (.aload_n 0, 1) := by decide +kernel
theorem dd_X9_firstSet_41 : decode X9_firstSet.2.1 41 = .ok (.getfield 93, 3) := by decide +kernel
theorem dd_X9_firstSet_44 : decode X9_firstSet.2.1 44 = .ok (.ineg, 1) := by decide +kernel
theorem dd_X9_firstSet_45 : decode X9_firstSet.2.1 45 = .ok (.i2l, 1) := by decide +kernel
theorem dd_X9_firstSet_46 : decode X9_firstSet.2.1 46 = .ok (.aload_n 0, 1) := by decide +kernel
theorem dd_X9_firstSet_47 : decode X9_firstSet.2.1 47 = .ok (.getfield 93, 3) := by decide +kernel
theorem dd_X9_firstSet_50 : decode X9_firstSet.2.1 50 = .ok (.i2l, 1) := by decide +kernel
theorem dd_X9_firstSet_51 : decode X9_firstSet.2.1 51 = .ok (.invokestatic 104, 3) := by decide +kernel
theorem dd_X9_firstSet_54 : decode X9_firstSet.2.1 54 = .ok (.ifCond .eq 34, 3) := by decide +kernel
theorem dd_X9_firstSet_57 : decode X9_firstSet.2.1 57 = .ok (.iconst 0, 1) := by decide +kernel
theorem dd_X9_firstSet_58 : decode X9_firstSet.2.1 58 = .ok (.istore 5, 2) := by decide +kernel
theorem dd_X9_firstSet_60 : decode X9_firstSet.2.1 60 = .ok (.iload 5, 2) := by decide +kernel
theorem dd_X9_firstSet_62 : decode X9_firstSet.2.1 62 = .ok (.aload_n 0, 1) := by decide +kernel
theorem dd_X9_firstSet_63 : decode X9_firstSet.2.1 63 = .ok (.getfield 86, 3) := by decide +kernel
theorem dd_X9_firstSet_66 : decode X9_firstSet.2.1 66 = .ok (.if_icmp .ge 22, 3) := by decide +kernel
theorem dd_X9_firstSet_69 : decode X9_firstSet.2.1 69 = .ok (.lload_n 2, 1) := by decide +kernel
theorem dd_X9_firstSet_70 : decode X9_firstSet.2.1 70 = .ok (.lconst 1, 1) := by decide +kernel
theorem dd_X9_firstSet_71 : decode X9_firstSet.2.1 71 = .ok (.bipush 8, 2) := by decide +kernel
theorem dd_X9_firstSet_73 : decode X9_firstSet.2.1 73 = .ok (.iload 4, 2) := by decide +kernel
theorem dd_X9_firstSet_75 : decode X9_firstSet.2.1 75 = .ok (.imul, 1) := by decide +kernel
theorem dd_X9_firstSet_76 : decode X9_firstSet.2.1 76 = .ok (.iload 5, 2) := by decide +kernel
theorem dd_X9_firstSet_78 : decode X9_firstSet.2.1 78 = .ok (.iadd, 1) := by decide +kernel
theorem dd_X9_firstSet_79 : decode X9_firstSet.2.1 79 = .ok (.lshl, 1) := by decide +kernel
theorem dd_X9_firstSet_80 : decode X9_firstSet.2.1 80 = .ok (.lor, 1) := by decide +kernel
theorem dd_X9_firstSet_81 : decode X9_firstSet.2.1 81 = .ok (.lstore_n 2, 1) := by decide +kernel
theorem dd_X9_firstSet_82 : decode X9_firstSet.2.1 82 = .ok (.iinc 5 1, 3) := by decide +kernel
theorem dd_X9_firstSet_85 : decode X9_firstSet.2.1 85 = .ok (.goto (-25), 3) := by decide +kernel
theorem dd_X9_firstSet_88 : decode X9_firstSet.2.1 88 = .ok (.iinc 4 1, 3) := by decide +kernel
theorem dd_X9_firstSet_91 : decode X9_firstSet.2.1 91 = .ok (.goto (-86), 3) := by decide +kernel
theorem dd_X9_firstSet_94 : decode X9_firstSet.2.1 94 = .ok (.lload_n 2, 1) := by decide +kernel
theorem dd_X9_firstSet_95 : decode X9_firstSet.2.1 95 = .ok (.lreturn, 1) := by decide +kernel
theorem dd_X9_becomes_0 : decode X9_becomes.2.1 0 = .ok (.lconst 0, 1) := by decide +kernel
theorem dd_X9_becomes_1 : decode X9_becomes.2.1 1 = .ok (.lstore 4, 2) := by decide +kernel
theorem dd_X9_becomes_3 : decode X9_becomes.2.1 3 = .ok (.iconst 0, 1) := by decide +kernel
theorem dd_X9_becomes_4 : decode X9_becomes.2.1 4 = .ok (.istore 6, 2) := by decide +kernel
theorem dd_X9_becomes_6 : decode X9_becomes.2.1 6 = .ok (.iload 6, 2) := by decide +kernel
theorem dd_X9_becomes_8 : decode X9_becomes.2.1 8 = .ok (.bipush 48, 2) := by decide +kernel
theorem dd_X9_becomes_10 : decode X9_becomes.2.1 10 = .ok (.if_icmp .ge 76, 3) := by decide +kernel
theorem dd_X9_becomes_13 : decode X9_becomes.2.1 13 = .ok (.iload 6, 2) := by decide +kernel
theorem dd_X9_becomes_15 : decode X9_becomes.2.1 15 = .ok (.bipush 8, 2) := by decide +kernel
theorem dd_X9_becomes_17 : decode X9_becomes.2.1 17 = .ok (.idiv, 1) := by decide +kernel
theorem dd_X9_becomes_18 : decode X9_becomes.2.1 18 = .ok (.istore 7, 2) := by decide +kernel
theorem dd_X9_becomes_20 : decode X9_becomes.2.1 20 = .ok (.iload 6, 2) := by decide +kernel
theorem dd_X9_becomes_22 : decode X9_becomes.2.1 22 = .ok (.bipush 8, 2) := by decide +kernel
theorem dd_X9_becomes_24 : decode X9_becomes.2.1 24 = .ok (.irem, 1) := by decide +kernel
theorem dd_X9_becomes_25 : decode X9_becomes.2.1 25 = .ok (.istore 8, 2) := by decide +kernel
theorem dd_X9_becomes_27 : decode X9_becomes.2.1 27 = .ok (.lload_n 1, 1) := by decide +kernel
theorem dd_X9_becomes_28 : decode X9_becomes.2.1 28 = .ok (.iload 6, 2) := by decide +kernel
theorem dd_X9_becomes_30 : decode X9_becomes.2.1 30 = .ok (.lshr, 1) := by decide +kernel
theorem dd_X9_becomes_31 : decode X9_becomes.2.1 31 = .ok (.lconst 1, 1) := by decide +kernel
theorem dd_X9_becomes_32 : decode X9_becomes.2.1 32 = .ok (.land, 1) := by decide +kernel
theorem dd_X9_becomes_33 : decode X9_becomes.2.1 33 = .ok (.lconst 1, 1) := by decide +kernel
theorem dd_X9_becomes_34 : decode X9_becomes.2.1 34 = .ok (.lcmp, 1) := by decide +kernel
theorem dd_X9_becomes_35 : decode X9_becomes.2.1 35 = .ok (.ifCond .ne 45, 3) := by decide +kernel
theorem dd_X9_becomes_38 : decode X9_becomes.2.1 38 = .ok (.aload_n 0, 1) := by decide +kernel
theorem dd_X9_becomes_39 : decode X9_becomes.2.1 39 = .ok (.aload_n 0, 1) := by decide +kernel
theorem dd_X9_becomes_40 : decode X9_becomes.2.1 40 = .ok (.getfield 7, 3) := by decide +kernel
theorem dd_X9_becomes_43 : decode X9_becomes.2.1 43 = .ok (.bipush 6, 2) := by decide +kernel
theorem dd_X9_becomes_45 : decode X9_becomes.2.1 45 = .ok (.iload 7, 2) := by decide +kernel
theorem dd_X9_becomes_47 : decode X9_becomes.2.1 47 = .ok (.iadd, 1) := by decide +kernel
theorem dd_X9_becomes_48 : decode X9_becomes.2.1 48 = .ok (.iaload, 1) := by decide +kernel
theorem dd_X9_becomes_49 : decode X9_becomes.2.1 49 = .ok (.iload 8, 2) := by decide +kernel
theorem dd_X9_becomes_51 : decode X9_becomes.2.1 51 = .ok (.invokevirtual 186, 3) := by decide +kernel
theorem dd_X9_becomes_54 : decode X9_becomes.2.1 54 = .ok (.iload_n 3, 1) := by decide +kernel
theorem dd_X9_becomes_55 : decode X9_becomes.2.1 55 = .ok (.if_icmp .ne 25, 3) := by decide +kernel
theorem dd_X9_becomes_58 : decode X9_becomes.2.1 58 = .ok (.lload 4, 2) := by decide +kernel
theorem dd_X9_becomes_60 : decode X9_becomes.2.1 60 = .ok (.lconst 1, 1) := by decide +kernel
theorem dd_X9_becomes_61 : decode X9_becomes.2.1 61 = .ok (.bipush 8, 2) := by decide +kernel
theorem dd_X9_becomes_63 : decode X9_becomes.2.1 63 = .ok (.iload 7, 2) := by decide +kernel
theorem dd_X9_becomes_65 : decode X9_becomes.2.1 65 = .ok (.imul, 1) := by decide +kernel
theorem dd_X9_becomes_66 : decode X9_becomes.2.1 66 = .ok (.iload 8, 2) := by decide +kernel
theorem dd_X9_becomes_68 : decode X9_becomes.2.1 68 = .ok (.iconst 1, 1) := by decide +kernel
theorem dd_X9_becomes_69 : decode X9_becomes.2.1 69 = .ok (.iadd, 1) := by decide +kernel
theorem dd_X9_becomes_70 : decode X9_becomes.2.1 70 = .ok (.aload_n 0, 1) := by decide +kernel
theorem dd_X9_becomes_71 : decode X9_becomes.2.1 71 = .ok (.getfield 86, 3) := by decide +kernel
theorem dd_X9_becomes_74 : decode X9_becomes.2.1 74 = .ok (.irem, 1) := by decide +kernel
theorem dd_X9_becomes_75 : decode X9_becomes.2.1 75 = .ok (.iadd, 1) := by decide +kernel
theorem dd_X9_becomes_76 : decode X9_becomes.2.1 76 = .ok (.lshl, 1) := by decide +kernel
theorem dd_X9_becomes_77 : decode X9_becomes.2.1 77 = .ok (.lor, 1) := by decide +kernel
theorem dd_X9_becomes_78 : decode X9_becomes.2.1 78 = .ok (.lstore 4, 2) := by decide +kernel
theorem dd_X9_becomes_80 : decode X9_becomes.2.1 80 = .ok (.iinc 6 1, 3) := by decide +kernel
theorem dd_X9_becomes_83 : decode X9_becomes.2.1 83 = .ok (.goto (-77), 3) := by decide +kernel
theorem dd_X9_becomes_86 : decode X9_becomes.2.1 86 = .ok (.lload 4, 2) := by decide +kernel
theorem dd_X9_becomes_88 : decode X9_becomes.2.1 88 = .ok (.lreturn, 1) := by decide +kernel
theorem dd_X9_statesOf_0 : decode X9_statesOf.2.1 0 = .ok (.aload_n 0, 1) := by decide +kernel
theorem dd_X9_statesOf_1 : decode X9_statesOf.2.1 1 = .ok (.getfield 68, 3) := by decide +kernel
theorem dd_X9_statesOf_4 : decode X9_statesOf.2.1 4 = .ok (.iconst 0, 1) := by decide +kernel
theorem dd_X9_statesOf_5 : decode X9_statesOf.2.1 5 = .ok (.aload_n 0, 1) := by decide +kernel
theorem dd_X9_statesOf_6 : decode X9_statesOf.2.1 6 = .ok (.iload_n 1, 1) := by decide +kernel
theorem dd_X9_statesOf_7 : decode X9_statesOf.2.1 7 = .ok (.invokevirtual 253, 3) := by decide +kernel
theorem dd_X9_statesOf_10 : decode X9_statesOf.2.1 10 = .ok (.lastore, 1) := by decide +kernel
theorem dd_X9_statesOf_11 : decode X9_statesOf.2.1 11 = .ok (.aload_n 0, 1) := by decide +kernel
theorem dd_X9_statesOf_12 : decode X9_statesOf.2.1 12 = .ok (.getfield 68, 3) := by decide +kernel
theorem dd_X9_statesOf_15 : decode X9_statesOf.2.1 15 = .ok (.iconst 0, 1) := by decide +kernel
theorem dd_X9_statesOf_16 : decode X9_statesOf.2.1 16 = .ok (.laload, 1) := by decide +kernel
theorem dd_X9_statesOf_17 : decode X9_statesOf.2.1 17 = .ok (.lconst 0, 1) := by decide +kernel
theorem dd_X9_statesOf_18 : decode X9_statesOf.2.1 18 = .ok (.lcmp, 1) := by decide +kernel
theorem dd_X9_statesOf_19 : decode X9_statesOf.2.1 19 = .ok (.ifCond .ne 7, 3) := by decide +kernel
theorem dd_X9_statesOf_22 : decode X9_statesOf.2.1 22 = .ok (.iconst 0, 1) := by decide +kernel
theorem dd_X9_statesOf_23 : decode X9_statesOf.2.1 23 = .ok (.goto 4, 3) := by decide +kernel
theorem dd_X9_statesOf_26 : decode X9_statesOf.2.1 26 = .ok (.iconst 1, 1) := by decide +kernel
theorem dd_X9_statesOf_27 : decode X9_statesOf.2.1 27 = .ok (.istore_n 2, 1) := by decide +kernel
theorem dd_X9_statesOf_28 : decode X9_statesOf.2.1 28 = .ok (.iconst 0, 1) := by decide +kernel
theorem dd_X9_statesOf_29 : decode X9_statesOf.2.1 29 = .ok (.istore_n 3, 1) := by decide +kernel
theorem dd_X9_statesOf_30 : decode X9_statesOf.2.1 30 = .ok (.iload_n 3, 1) := by decide +kernel
theorem dd_X9_statesOf_31 : decode X9_statesOf.2.1 31 = .ok (.iload_n 2, 1) := by decide +kernel
theorem dd_X9_statesOf_32 : decode X9_statesOf.2.1 32 = .ok (.if_icmp .ge 108, 3) := by decide +kernel
theorem dd_X9_statesOf_35 : decode X9_statesOf.2.1 35 = .ok (.iconst 0, 1) := by decide +kernel
theorem dd_X9_statesOf_36 : decode X9_statesOf.2.1 36 = .ok (.istore 4, 2) := by decide +kernel
theorem dd_X9_statesOf_38 : decode X9_statesOf.2.1 38 = .ok (.iload 4, 2) := by decide +kernel
theorem dd_X9_statesOf_40 : decode X9_statesOf.2.1 40 = .ok (.iconst 2, 1) := by decide +kernel
theorem dd_X9_statesOf_41 : decode X9_statesOf.2.1 41 = .ok (.if_icmp .ge 93, 3) := by decide +kernel
theorem dd_X9_statesOf_44 : decode X9_statesOf.2.1 44 = .ok (.aload_n 0, 1) := by decide +kernel
theorem dd_X9_statesOf_45 : decode X9_statesOf.2.1 45 = .ok (.aload_n 0, 1) := by decide +kernel
theorem dd_X9_statesOf_46 : decode X9_statesOf.2.1 46 = .ok (.getfield 68, 3) := by decide +kernel
theorem dd_X9_statesOf_49 : decode X9_statesOf.2.1 49 = .ok (.iload_n 3, 1) := by decide +kernel
theorem dd_X9_statesOf_50 : decode X9_statesOf.2.1 50 = .ok (.laload, 1) := by decide +kernel
theorem dd_X9_statesOf_51 : decode X9_statesOf.2.1 51 = .ok (.iload 4, 2) := by decide +kernel
theorem dd_X9_statesOf_53 : decode X9_statesOf.2.1 53 = .ok (.invokevirtual 257, 3) := by decide +kernel
theorem dd_X9_statesOf_56 : decode X9_statesOf.2.1 56 = .ok (.lstore 5, 2) := by decide +kernel
theorem dd_X9_statesOf_58 : decode X9_statesOf.2.1 58 = .ok (.lload 5, 2) := by decide +kernel
theorem dd_X9_statesOf_60 : decode X9_statesOf.2.1 60 = .ok (.lconst 0, 1) := by decide +kernel
theorem dd_X9_statesOf_61 : decode X9_statesOf.2.1 61 = .ok (.lcmp, 1) := by decide +kernel
theorem dd_X9_statesOf_62 : decode X9_statesOf.2.1 62 = .ok (.ifCond .eq 7, 3) := by decide +kernel
theorem dd_X9_statesOf_65 : decode X9_statesOf.2.1 65 = .ok (.iconst 1, 1) := by decide +kernel
theorem dd_X9_statesOf_66 : decode X9_statesOf.2.1 66 = .ok (.goto 4, 3) := by decide +kernel
theorem dd_X9_statesOf_69 : decode X9_statesOf.2.1 69 = .ok (.iconst 0, 1) := by decide +kernel
theorem dd_X9_statesOf_70 : decode X9_statesOf.2.1 70 = .ok (.istore 7, 2) := by decide +kernel
theorem dd_X9_statesOf_72 : decode X9_statesOf.2.1 72 = .ok (.iconst 0, 1) := by decide +kernel
theorem dd_X9_statesOf_73 : decode X9_statesOf.2.1 73 = .ok (.istore 8, 2) := by decide +kernel
theorem dd_X9_statesOf_75 : decode X9_statesOf.2.1 75 = .ok (.iload 8, 2) := by decide +kernel
theorem dd_X9_statesOf_77 : decode X9_statesOf.2.1 77 = .ok (.iload_n 2, 1) := by decide +kernel
theorem dd_X9_statesOf_78 : decode X9_statesOf.2.1 78 = .ok (.if_icmp .ge 34, 3) := by decide +kernel
theorem dd_X9_statesOf_81 : decode X9_statesOf.2.1 81 = .ok (.iload 7, 2) := by decide +kernel
theorem dd_X9_statesOf_83 : decode X9_statesOf.2.1 83 = .ok (.ifCond .eq 29, 3) := by decide +kernel
theorem dd_X9_statesOf_86 : decode X9_statesOf.2.1 86 = .ok (.aload_n 0, 1) := by decide +kernel
theorem dd_X9_statesOf_87 : decode X9_statesOf.2.1 87 = .ok (.getfield 68, 3) := by decide +kernel
theorem dd_X9_statesOf_90 : decode X9_statesOf.2.1 90 = .ok (.iload 8, 2) := by decide +kernel
theorem dd_X9_statesOf_92 : decode X9_statesOf.2.1 92 = .ok (.laload, 1) := by decide +kernel
theorem dd_X9_statesOf_93 : decode X9_statesOf.2.1 93 = .ok (.lload 5, 2) := by decide +kernel
theorem dd_X9_statesOf_95 : decode X9_statesOf.2.1 95 = .ok (.lcmp, 1) := by decide +kernel
theorem dd_X9_statesOf_96 : decode X9_statesOf.2.1 96 = .ok (.ifCond .eq 7, 3) := by decide +kernel
theorem dd_X9_statesOf_99 : decode X9_statesOf.2.1 99 = .ok (.iconst 1, 1) := by decide +kernel
theorem dd_X9_statesOf_100 : decode X9_statesOf.2.1 100 = .ok (.goto 4, 3) := by decide +kernel
theorem dd_X9_statesOf_103 : decode X9_statesOf.2.1 103 = .ok (.iconst 0, 1) := by decide +kernel
theorem dd_X9_statesOf_104 : decode X9_statesOf.2.1 104 = .ok (.istore 7, 2) := by decide +kernel
theorem dd_X9_statesOf_106 : decode X9_statesOf.2.1 106 = .ok (.iinc 8 1, 3) := by decide +kernel
theorem dd_X9_statesOf_109 : decode X9_statesOf.2.1 109 = .ok (.goto (-34), 3) := by decide +kernel
theorem dd_X9_statesOf_112 : decode X9_statesOf.2.1 112 = .ok (.iload 7, 2) := by decide +kernel
theorem dd_X9_statesOf_114 : decode X9_statesOf.2.1 114 = .ok (.ifCond .eq 14, 3) := by decide +kernel
theorem dd_X9_statesOf_117 : decode X9_statesOf.2.1 117 = .ok (.aload_n 0, 1) := by decide +kernel
theorem dd_X9_statesOf_118 : decode X9_statesOf.2.1 118 = .ok (.getfield 68, 3) := by decide +kernel
theorem dd_X9_statesOf_121 : decode X9_statesOf.2.1 121 = .ok (.iload_n 2, 1) := by decide +kernel
theorem dd_X9_statesOf_122 : decode X9_statesOf.2.1 122 = .ok (.lload 5, 2) := by decide +kernel
theorem dd_X9_statesOf_124 : decode X9_statesOf.2.1 124 = .ok (.lastore, 1) := by decide +kernel
theorem dd_X9_statesOf_125 : decode X9_statesOf.2.1 125 = .ok (.iinc 2 1, 3) := by decide +kernel
theorem dd_X9_statesOf_128 : decode X9_statesOf.2.1 128 = .ok (.iinc 4 1, 3) := by decide +kernel
theorem dd_X9_statesOf_131 : decode X9_statesOf.2.1 131 = .ok (.goto (-93), 3) := by decide +kernel
theorem dd_X9_statesOf_134 : decode X9_statesOf.2.1 134 = .ok (.iinc 3 1, 3) := by decide +kernel
theorem dd_X9_statesOf_137 : decode X9_statesOf.2.1 137 = .ok (.goto (-107), 3) := by decide +kernel
theorem dd_X9_statesOf_140 : decode X9_statesOf.2.1 140 = .ok (.iload_n 2, 1) := by decide +kernel
theorem dd_X9_statesOf_141 : decode X9_statesOf.2.1 141 = .ok (.ireturn, 1) := by decide +kernel
theorem dd_X9_isOfOne_0 : decode X9_isOfOne.2.1 0 = .ok (.iconst 0, 1) := by decide +kernel
theorem dd_X9_isOfOne_1 : decode X9_isOfOne.2.1 1 = .ok (.istore_n 2, 1) := by decide +kernel
theorem dd_X9_isOfOne_2 : decode X9_isOfOne.2.1 2 = .ok (.iconst 0, 1) := by decide +kernel
theorem dd_X9_isOfOne_3 : decode X9_isOfOne.2.1 3 = .ok (.istore_n 3, 1) := by decide +kernel
theorem dd_X9_isOfOne_4 : decode X9_isOfOne.2.1 4 = .ok (.iload_n 3, 1) := by decide +kernel
theorem dd_X9_isOfOne_5 : decode X9_isOfOne.2.1 5 = .ok (.bipush 6, 2) := by decide +kernel
theorem dd_X9_isOfOne_7 : decode X9_isOfOne.2.1 7 = .ok (.if_icmp .ge 32, 3) := by decide +kernel
theorem dd_X9_isOfOne_10 : decode X9_isOfOne.2.1 10 = .ok (.iload_n 2, 1) := by decide +kernel
theorem dd_X9_isOfOne_11 : decode X9_isOfOne.2.1 11 = .ok (.lload_n 0, 1) := by decide +kernel
theorem dd_X9_isOfOne_12 : decode X9_isOfOne.2.1 12 = .ok (.bipush 8, 2) := by decide +kernel
theorem dd_X9_isOfOne_14 : decode X9_isOfOne.2.1 14 = .ok (.iload_n 3, 1) := by decide +kernel
theorem dd_X9_isOfOne_15 : decode X9_isOfOne.2.1 15 = .ok (.imul, 1) := by decide +kernel
theorem dd_X9_isOfOne_16 : decode X9_isOfOne.2.1 16 = .ok (.lshr, 1) := by decide +kernel
theorem dd_X9_isOfOne_17 : decode X9_isOfOne.2.1 17 = .ok (.ldc2_w 102, 3) := by decide +kernel
theorem dd_X9_isOfOne_20 : decode X9_isOfOne.2.1 20 = .ok (.land, 1) := by decide +kernel
theorem dd_X9_isOfOne_21 : decode X9_isOfOne.2.1 21 = .ok (.lconst 0, 1) := by decide +kernel
theorem dd_X9_isOfOne_22 : decode X9_isOfOne.2.1 22 = .ok (.lcmp, 1) := by decide +kernel
theorem dd_X9_isOfOne_23 : decode X9_isOfOne.2.1 23 = .ok (.ifCond .ne 7, 3) := by decide +kernel
theorem dd_X9_isOfOne_26 : decode X9_isOfOne.2.1 26 = .ok (.iconst 0, 1) := by decide +kernel
theorem dd_X9_isOfOne_27 : decode X9_isOfOne.2.1 27 = .ok (.goto 4, 3) := by decide +kernel
theorem dd_X9_isOfOne_30 : decode X9_isOfOne.2.1 30 = .ok (.iconst 1, 1) := by decide +kernel
theorem dd_X9_isOfOne_31 : decode X9_isOfOne.2.1 31 = .ok (.iadd, 1) := by decide +kernel
theorem dd_X9_isOfOne_32 : decode X9_isOfOne.2.1 32 = .ok (.istore_n 2, 1) := by decide +kernel
theorem dd_X9_isOfOne_33 : decode X9_isOfOne.2.1 33 = .ok (.iinc 3 1, 3) := by decide +kernel
theorem dd_X9_isOfOne_36 : decode X9_isOfOne.2.1 36 = .ok (.goto (-32), 3) := by decide +kernel
theorem dd_X9_isOfOne_39 : decode X9_isOfOne.2.1 39 = .ok (.iload_n 2, 1) := by decide +kernel
theorem dd_X9_isOfOne_40 : decode X9_isOfOne.2.1 40 = .ok (.iconst 1, 1) := by decide +kernel
theorem dd_X9_isOfOne_41 : decode X9_isOfOne.2.1 41 = .ok (.if_icmp .ne 7, 3) := by decide +kernel
theorem dd_X9_isOfOne_44 : decode X9_isOfOne.2.1 44 = .ok (.iconst 1, 1) := by decide +kernel
theorem dd_X9_isOfOne_45 : decode X9_isOfOne.2.1 45 = .ok (.goto 4, 3) := by decide +kernel
theorem dd_X9_isOfOne_48 : decode X9_isOfOne.2.1 48 = .ok (.iconst 0, 1) := by decide +kernel
theorem dd_X9_isOfOne_49 : decode X9_isOfOne.2.1 49 = .ok (.ireturn, 1) := by decide +kernel
theorem dd_X9_namedAt_0 : decode X9_namedAt.2.1 0 = .ok (.aload_n 0, 1) := by decide +kernel
theorem dd_X9_namedAt_1 : decode X9_namedAt.2.1 1 = .ok (.getfield 72, 3) := by decide +kernel
theorem dd_X9_namedAt_4 : decode X9_namedAt.2.1 4 = .ok (.iconst 0, 1) := by decide +kernel
theorem dd_X9_namedAt_5 : decode X9_namedAt.2.1 5 = .ok (.aload_n 0, 1) := by decide +kernel
theorem dd_X9_namedAt_6 : decode X9_namedAt.2.1 6 = .ok (.iload_n 1, 1) := by decide +kernel
theorem dd_X9_namedAt_7 : decode X9_namedAt.2.1 7 = .ok (.invokevirtual 253, 3) := by decide +kernel
theorem dd_X9_namedAt_10 : decode X9_namedAt.2.1 10 = .ok (.lastore, 1) := by decide +kernel
theorem dd_X9_namedAt_11 : decode X9_namedAt.2.1 11 = .ok (.aload_n 0, 1) := by decide +kernel
theorem dd_X9_namedAt_12 : decode X9_namedAt.2.1 12 = .ok (.getfield 72, 3) := by decide +kernel
theorem dd_X9_namedAt_15 : decode X9_namedAt.2.1 15 = .ok (.iconst 0, 1) := by decide +kernel
theorem dd_X9_namedAt_16 : decode X9_namedAt.2.1 16 = .ok (.laload, 1) := by decide +kernel
theorem dd_X9_namedAt_17 : decode X9_namedAt.2.1 17 = .ok (.lconst 0, 1) := by decide +kernel
theorem dd_X9_namedAt_18 : decode X9_namedAt.2.1 18 = .ok (.lcmp, 1) := by decide +kernel
theorem dd_X9_namedAt_19 : decode X9_namedAt.2.1 19 = .ok (.ifCond .ne 7, 3) := by decide +kernel
theorem dd_X9_namedAt_22 : decode X9_namedAt.2.1 22 = .ok (.iconst 0, 1) := by decide +kernel
theorem dd_X9_namedAt_23 : decode X9_namedAt.2.1 23 = .ok (.goto 4, 3) := by decide +kernel
theorem dd_X9_namedAt_26 : decode X9_namedAt.2.1 26 = .ok (.iconst 1, 1) := by decide +kernel
theorem dd_X9_namedAt_27 : decode X9_namedAt.2.1 27 = .ok (.istore_n 2, 1) := by decide +kernel
theorem dd_X9_namedAt_28 : decode X9_namedAt.2.1 28 = .ok (.iconst 0, 1) := by decide +kernel
theorem dd_X9_namedAt_29 : decode X9_namedAt.2.1 29 = .ok (.istore_n 3, 1) := by decide +kernel
theorem dd_X9_namedAt_30 : decode X9_namedAt.2.1 30 = .ok (.iload_n 3, 1) := by decide +kernel
theorem dd_X9_namedAt_31 : decode X9_namedAt.2.1 31 = .ok (.bipush 41, 2) := by decide +kernel
theorem dd_X9_namedAt_33 : decode X9_namedAt.2.1 33 = .ok (.if_icmp .ge 153, 3) := by decide +kernel
theorem dd_X9_namedAt_36 : decode X9_namedAt.2.1 36 = .ok (.iload_n 2, 1) := by decide +kernel
theorem dd_X9_namedAt_37 : decode X9_namedAt.2.1 37 = .ok (.ifCond .le 149, 3) := by decide +kernel
theorem dd_X9_namedAt_40 : decode X9_namedAt.2.1 40 = .ok (.iconst 1, 1) := by decide +kernel
theorem dd_X9_namedAt_41 : decode X9_namedAt.2.1 41 = .ok (.istore 4, 2) := by decide +kernel
theorem dd_X9_namedAt_43 : decode X9_namedAt.2.1 43 = .ok (.iconst 0, 1) := by decide +kernel
theorem dd_X9_namedAt_44 : decode X9_namedAt.2.1 44 = .ok (.istore 5, 2) := by decide +kernel
theorem dd_X9_namedAt_46 : decode X9_namedAt.2.1 46 = .ok (.iload 5, 2) := by decide +kernel
theorem dd_X9_namedAt_48 : decode X9_namedAt.2.1 48 = .ok (.iload_n 2, 1) := by decide +kernel
theorem dd_X9_namedAt_49 : decode X9_namedAt.2.1 49 = .ok (.if_icmp .ge 34, 3) := by decide +kernel
theorem dd_X9_namedAt_52 : decode X9_namedAt.2.1 52 = .ok (.iload 4, 2) := by decide +kernel
theorem dd_X9_namedAt_54 : decode X9_namedAt.2.1 54 = .ok (.ifCond .eq 20, 3) := by decide +kernel
theorem dd_X9_namedAt_57 : decode X9_namedAt.2.1 57 = .ok (.aload_n 0, 1) := by decide +kernel
theorem dd_X9_namedAt_58 : decode X9_namedAt.2.1 58 = .ok (.getfield 72, 3) := by decide +kernel
theorem dd_X9_namedAt_61 : decode X9_namedAt.2.1 61 = .ok (.iload 5, 2) := by decide +kernel
theorem dd_X9_namedAt_63 : decode X9_namedAt.2.1 63 = .ok (.laload, 1) := by decide +kernel
theorem dd_X9_namedAt_64 : decode X9_namedAt.2.1 64 = .ok (.invokestatic 261, 3) := by decide +kernel
theorem dd_X9_namedAt_67 : decode X9_namedAt.2.1 67 = .ok (.ifCond .eq 7, 3) := by decide +kernel
theorem dd_X9_namedAt_70 : decode X9_namedAt.2.1 70 = .ok (.iconst 1, 1) := by decide +kernel
theorem dd_X9_namedAt_71 : decode X9_namedAt.2.1 71 = .ok (.goto 4, 3) := by decide +kernel
theorem dd_X9_namedAt_74 : decode X9_namedAt.2.1 74 = .ok (.iconst 0, 1) := by decide +kernel
theorem dd_X9_namedAt_75 : decode X9_namedAt.2.1 75 = .ok (.istore 4, 2) := by decide +kernel
theorem dd_X9_namedAt_77 : decode X9_namedAt.2.1 77 = .ok (.iinc 5 1, 3) := by decide +kernel
theorem dd_X9_namedAt_80 : decode X9_namedAt.2.1 80 = .ok (.goto (-34), 3) := by decide +kernel
theorem dd_X9_namedAt_83 : decode X9_namedAt.2.1 83 = .ok (.iload 4, 2) := by decide +kernel
theorem dd_X9_namedAt_85 : decode X9_namedAt.2.1 85 = .ok (.ifCond .eq 5, 3) := by decide +kernel
theorem dd_X9_namedAt_88 : decode X9_namedAt.2.1 88 = .ok (.iload_n 3, 1) := by decide +kernel
theorem dd_X9_namedAt_89 : decode X9_namedAt.2.1 89 = .ok (.ireturn, 1) := by decide +kernel
theorem dd_X9_namedAt_90 : decode X9_namedAt.2.1 90 = .ok (.iconst 0, 1) := by decide +kernel
theorem dd_X9_namedAt_91 : decode X9_namedAt.2.1 91 = .ok (.istore 5, 2) := by decide +kernel
theorem dd_X9_namedAt_93 : decode X9_namedAt.2.1 93 = .ok (.iconst 0, 1) := by decide +kernel
theorem dd_X9_namedAt_94 : decode X9_namedAt.2.1 94 = .ok (.istore 6, 2) := by decide +kernel
theorem dd_X9_namedAt_96 : decode X9_namedAt.2.1 96 = .ok (.iload 6, 2) := by decide +kernel
theorem dd_X9_namedAt_98 : decode X9_namedAt.2.1 98 = .ok (.iconst 2, 1) := by decide +kernel
theorem dd_X9_namedAt_99 : decode X9_namedAt.2.1 99 = .ok (.iload_n 2, 1) := by decide +kernel
theorem dd_X9_namedAt_100 : decode X9_namedAt.2.1 100 = .ok (.imul, 1) := by decide +kernel
theorem dd_X9_namedAt_101 : decode X9_namedAt.2.1 101 = .ok (.if_icmp .ge 47, 3) := by decide +kernel
theorem dd_X9_namedAt_104 : decode X9_namedAt.2.1 104 = .ok (.aload_n 0, 1) := by decide +kernel
theorem dd_X9_namedAt_105 : decode X9_namedAt.2.1 105 = .ok (.aload_n 0, 1) := by decide +kernel
theorem dd_X9_namedAt_106 : decode X9_namedAt.2.1 106 = .ok (.getfield 72, 3) := by decide +kernel
theorem dd_X9_namedAt_109 : decode X9_namedAt.2.1 109 = .ok (.iload 6, 2) := by decide +kernel
theorem dd_X9_namedAt_111 : decode X9_namedAt.2.1 111 = .ok (.iconst 2, 1) := by decide +kernel
theorem dd_X9_namedAt_112 : decode X9_namedAt.2.1 112 = .ok (.idiv, 1) := by decide +kernel
theorem dd_X9_namedAt_113 : decode X9_namedAt.2.1 113 = .ok (.laload, 1) := by decide +kernel
theorem dd_X9_namedAt_114 : decode X9_namedAt.2.1 114 = .ok (.iload 6, 2) := by decide +kernel
theorem dd_X9_namedAt_116 : decode X9_namedAt.2.1 116 = .ok (.iconst 2, 1) := by decide +kernel
theorem dd_X9_namedAt_117 : decode X9_namedAt.2.1 117 = .ok (.irem, 1) := by decide +kernel
theorem dd_X9_namedAt_118 : decode X9_namedAt.2.1 118 = .ok (.invokevirtual 257, 3) := by decide +kernel
theorem dd_X9_namedAt_121 : decode X9_namedAt.2.1 121 = .ok (.lstore 7, 2) := by decide +kernel
theorem dd_X9_namedAt_123 : decode X9_namedAt.2.1 123 = .ok (.lload 7, 2) := by decide +kernel
theorem dd_X9_namedAt_125 : decode X9_namedAt.2.1 125 = .ok (.lconst 0, 1) := by decide +kernel
theorem dd_X9_namedAt_126 : decode X9_namedAt.2.1 126 = .ok (.lcmp, 1) := by decide +kernel
theorem dd_X9_namedAt_127 : decode X9_namedAt.2.1 127 = .ok (.ifCond .eq 15, 3) := by decide +kernel
theorem dd_X9_namedAt_130 : decode X9_namedAt.2.1 130 = .ok (.aload_n 0, 1) := by decide +kernel
theorem dd_X9_namedAt_131 : decode X9_namedAt.2.1 131 = .ok (.getfield 75, 3) := by decide +kernel
theorem dd_X9_namedAt_134 : decode X9_namedAt.2.1 134 = .ok (.iload 5, 2) := by decide +kernel
theorem dd_X9_namedAt_136 : decode X9_namedAt.2.1 136 = .ok (.lload 7, 2) := by decide +kernel
theorem dd_X9_namedAt_138 : decode X9_namedAt.2.1 138 = .ok (.lastore, 1) := by decide +kernel
theorem dd_X9_namedAt_139 : decode X9_namedAt.2.1 139 = .ok (.iinc 5 1, 3) := by decide +kernel
theorem dd_X9_namedAt_142 : decode X9_namedAt.2.1 142 = .ok (.iinc 6 1, 3) := by decide +kernel
theorem dd_X9_namedAt_145 : decode X9_namedAt.2.1 145 = .ok (.goto (-49), 3) := by decide +kernel
theorem dd_X9_namedAt_148 : decode X9_namedAt.2.1 148 = .ok (.iload 5, 2) := by decide +kernel
theorem dd_X9_namedAt_150 : decode X9_namedAt.2.1 150 = .ok (.istore_n 2, 1) := by decide +kernel
theorem dd_X9_namedAt_151 : decode X9_namedAt.2.1 151 = .ok (.iconst 0, 1) := by decide +kernel
theorem dd_X9_namedAt_152 : decode X9_namedAt.2.1 152 = .ok (.istore 6, 2) := by decide +kernel
theorem dd_X9_namedAt_154 : decode X9_namedAt.2.1 154 = .ok (.iload 6, 2) := by decide +kernel
theorem dd_X9_namedAt_156 : decode X9_namedAt.2.1 156 = .ok (.iload_n 2, 1) := by decide +kernel
theorem dd_X9_namedAt_157 : decode X9_namedAt.2.1 157 = .ok (.if_icmp .ge 23, 3) := by decide +kernel
theorem dd_X9_namedAt_160 : decode X9_namedAt.2.1 160 = .ok (.aload_n 0, 1) := by decide +kernel
theorem dd_X9_namedAt_161 : decode X9_namedAt.2.1 161 = .ok (.getfield 72, 3) := by decide +kernel
theorem dd_X9_namedAt_164 : decode X9_namedAt.2.1 164 = .ok (.iload 6, 2) := by decide +kernel
theorem dd_X9_namedAt_166 : decode X9_namedAt.2.1 166 = .ok (.aload_n 0, 1) := by decide +kernel
theorem dd_X9_namedAt_167 : decode X9_namedAt.2.1 167 = .ok (.getfield 75, 3) := by decide +kernel
theorem dd_X9_namedAt_170 : decode X9_namedAt.2.1 170 = .ok (.iload 6, 2) := by decide +kernel
theorem dd_X9_namedAt_172 : decode X9_namedAt.2.1 172 = .ok (.laload, 1) := by decide +kernel
theorem dd_X9_namedAt_173 : decode X9_namedAt.2.1 173 = .ok (.lastore, 1) := by decide +kernel
theorem dd_X9_namedAt_174 : decode X9_namedAt.2.1 174 = .ok (.iinc 6 1, 3) := by decide +kernel
theorem dd_X9_namedAt_177 : decode X9_namedAt.2.1 177 = .ok (.goto (-23), 3) := by decide +kernel
theorem dd_X9_namedAt_180 : decode X9_namedAt.2.1 180 = .ok (.iinc 3 1, 3) := by decide +kernel
theorem dd_X9_namedAt_183 : decode X9_namedAt.2.1 183 = .ok (.goto (-153), 3) := by decide +kernel
theorem dd_X9_namedAt_186 : decode X9_namedAt.2.1 186 = .ok (.iconst (-1), 1) := by decide +kernel
theorem dd_X9_namedAt_187 : decode X9_namedAt.2.1 187 = .ok (.ireturn, 1) := by decide +kernel
theorem dd_X9_machine_0 : decode X9_machine.2.1 0 = .ok (.iload_n 1, 1) := by decide +kernel
theorem dd_X9_machine_1 : decode X9_machine.2.1 1 = .ok (.i2l, 1) := by decide +kernel
theorem dd_X9_machine_2 : decode X9_machine.2.1 2 = .ok (.lconst 0, 1) := by decide +kernel
theorem dd_X9_machine_3 : decode X9_machine.2.1 3 = .ok (.ldc2_w 234, 3) := by decide +kernel
theorem dd_X9_machine_6 : decode X9_machine.2.1 6 = .ok (.invokestatic 104, 3) := by decide +kernel
theorem dd_X9_machine_9 : decode X9_machine.2.1 9 = .ok (.ifCond .eq 13, 3) := by decide +kernel
theorem dd_X9_machine_12 : decode X9_machine.2.1 12 = .ok (.iload_n 2, 1) := by decide +kernel
theorem dd_X9_machine_13 : decode X9_machine.2.1 13 = .ok (.i2l, 1) := by decide +kernel
theorem dd_X9_machine_14 : decode X9_machine.2.1 14 = .ok (.lconst 0, 1) := by decide +kernel
theorem dd_X9_machine_15 : decode X9_machine.2.1 15 = .ok (.lconst 1, 1) := by decide +kernel
theorem dd_X9_machine_16 : decode X9_machine.2.1 16 = .ok (.invokestatic 104, 3) := by decide +kernel
theorem dd_X9_machine_19 : decode X9_machine.2.1 19 = .ok (.ifCond .ne 8, 3) := by decide +kernel
theorem dd_X9_machine_22 : decode X9_machine.2.1 22 = .ok (.bipush (-3), 2) := by decide +kernel
theorem dd_X9_machine_24 : decode X9_machine.2.1 24 = .ok (.goto 20, 3) := by decide +kernel
theorem dd_X9_machine_27 : decode X9_machine.2.1 27 = .ok (.iload_n 2, 1) := by decide +kernel
theorem dd_X9_machine_28 : decode X9_machine.2.1 28 = .ok (.ifCond .ne 11, 3) := by decide +kernel
theorem dd_X9_machine_31 : decode X9_machine.2.1 31 = .ok (.aload_n 0, 1) := by decide +kernel
theorem dd_X9_machine_32 : decode X9_machine.2.1 32 = .ok (.iload_n 1, 1) := by decide +kernel
theorem dd_X9_machine_33 : decode X9_machine.2.1 33 = .ok (.invokevirtual 265, 3) := by decide +kernel
theorem dd_X9_machine_36 : decode X9_machine.2.1 36 = .ok (.goto 8, 3) := by decide +kernel
theorem dd_X9_machine_39 : decode X9_machine.2.1 39 = .ok (.aload_n 0, 1) := by decide +kernel
theorem dd_X9_machine_40 : decode X9_machine.2.1 40 = .ok (.iload_n 1, 1) := by decide +kernel
theorem dd_X9_machine_41 : decode X9_machine.2.1 41 = .ok (.invokevirtual 268, 3) := by decide +kernel
theorem dd_X9_machine_44 : decode X9_machine.2.1 44 = .ok (.ireturn, 1) := by decide +kernel
theorem dd_X9_pairsLeft_0 : decode X9_pairsLeft.2.1 0 = .ok (.iconst 0, 1) := by decide +kernel
theorem dd_X9_pairsLeft_1 : decode X9_pairsLeft.2.1 1 = .ok (.istore_n 1, 1) := by decide +kernel
theorem dd_X9_pairsLeft_2 : decode X9_pairsLeft.2.1 2 = .ok (.iconst 0, 1) := by decide +kernel
theorem dd_X9_pairsLeft_3 : decode X9_pairsLeft.2.1 3 = .ok (.istore_n 2, 1) := by decide +kernel
theorem dd_X9_pairsLeft_4 : decode X9_pairsLeft.2.1 4 = .ok (.iload_n 2, 1) := by decide +kernel
theorem dd_X9_pairsLeft_5 : decode X9_pairsLeft.2.1 5 = .ok (.bipush 48, 2) := by decide +kernel
theorem dd_X9_pairsLeft_7 : decode X9_pairsLeft.2.1 7 = .ok (.if_icmp .ge 33, 3) := by decide +kernel
theorem dd_X9_pairsLeft_10 : decode X9_pairsLeft.2.1 10 = .ok (.iload_n 1, 1) := by decide +kernel
theorem dd_X9_pairsLeft_11 : decode X9_pairsLeft.2.1 11 = .ok (.aload_n 0, 1) := by decide +kernel
theorem dd_X9_pairsLeft_12 : decode X9_pairsLeft.2.1 12 = .ok (.getfield 183, 3) := by decide +kernel
theorem dd_X9_pairsLeft_15 : decode X9_pairsLeft.2.1 15 = .ok (.ifCond .eq 16, 3) := by decide +kernel
theorem dd_X9_pairsLeft_18 : decode X9_pairsLeft.2.1 18 = .ok (.aload_n 0, 1) := by decide +kernel
theorem dd_X9_pairsLeft_19 : decode X9_pairsLeft.2.1 19 = .ok (.getfield 23, 3) := by decide +kernel
theorem dd_X9_pairsLeft_22 : decode X9_pairsLeft.2.1 22 = .ok (.iload_n 2, 1) := by decide +kernel
theorem dd_X9_pairsLeft_23 : decode X9_pairsLeft.2.1 23 = .ok (.baload, 1) := by decide +kernel
theorem dd_X9_pairsLeft_24 : decode X9_pairsLeft.2.1 24 = .ok (.ifCond .eq 7, 3) := by decide +kernel
theorem dd_X9_pairsLeft_27 : decode X9_pairsLeft.2.1 27 = .ok (.iconst 1, 1) := by decide +kernel
theorem dd_X9_pairsLeft_28 : decode X9_pairsLeft.2.1 28 = .ok (.goto 4, 3) := by decide +kernel
theorem dd_X9_pairsLeft_31 : decode X9_pairsLeft.2.1 31 = .ok (.iconst 0, 1) := by decide +kernel
theorem dd_X9_pairsLeft_32 : decode X9_pairsLeft.2.1 32 = .ok (.iadd, 1) := by decide +kernel
theorem dd_X9_pairsLeft_33 : decode X9_pairsLeft.2.1 33 = .ok (.istore_n 1, 1) := by decide +kernel
theorem dd_X9_pairsLeft_34 : decode X9_pairsLeft.2.1 34 = .ok (.iinc 2 1, 3) := by decide +kernel
theorem dd_X9_pairsLeft_37 : decode X9_pairsLeft.2.1 37 = .ok (.goto (-33), 3) := by decide +kernel
theorem dd_X9_pairsLeft_40 : decode X9_pairsLeft.2.1 40 = .ok (.iload_n 1, 1) := by decide +kernel
theorem dd_X9_pairsLeft_41 : decode X9_pairsLeft.2.1 41 = .ok (.ireturn, 1) := by decide +kernel
theorem dd_X9_watch_0 : decode X9_watch.2.1 0 = .ok (.iload_n 1, 1) := by decide +kernel
theorem dd_X9_watch_1 : decode X9_watch.2.1 1 = .ok (.i2l, 1) := by decide +kernel
theorem dd_X9_watch_2 : decode X9_watch.2.1 2 = .ok (.lconst 0, 1) := by decide +kernel
theorem dd_X9_watch_3 : decode X9_watch.2.1 3 = .ok (.ldc2_w 234, 3) := by decide +kernel
theorem dd_X9_watch_6 : decode X9_watch.2.1 6 = .ok (.invokestatic 104, 3) := by decide +kernel
theorem dd_X9_watch_9 : decode X9_watch.2.1 9 = .ok (.ifCond .eq 13, 3) := by decide +kernel
theorem dd_X9_watch_12 : decode X9_watch.2.1 12 = .ok (.iload_n 2, 1) := by decide +kernel
theorem dd_X9_watch_13 : decode X9_watch.2.1 13 = .ok (.i2l, 1) := by decide +kernel
theorem dd_X9_watch_14 : decode X9_watch.2.1 14 = .ok (.lconst 0, 1) := by decide +kernel
theorem dd_X9_watch_15 : decode X9_watch.2.1 15 = .ok (.lconst 1, 1) := by decide +kernel
theorem dd_X9_watch_16 : decode X9_watch.2.1 16 = .ok (.invokestatic 104, 3) := by decide +kernel
theorem dd_X9_watch_19 : decode X9_watch.2.1 19 = .ok (.ifCond .ne 6, 3) := by decide +kernel
theorem dd_X9_watch_22 : decode X9_watch.2.1 22 = .ok (.bipush (-3), 2) := by decide +kernel
theorem dd_X9_watch_24 : decode X9_watch.2.1 24 = .ok (.ireturn, 1) := by decide +kernel
theorem dd_X9_watch_25 : decode X9_watch.2.1 25 = .ok (.aload_n 0, 1) := by decide +kernel
theorem dd_X9_watch_26 : decode X9_watch.2.1 26 = .ok (.iload_n 1, 1) := by decide +kernel
theorem dd_X9_watch_27 : decode X9_watch.2.1 27 = .ok (.invokevirtual 253, 3) := by decide +kernel
theorem dd_X9_watch_30 : decode X9_watch.2.1 30 = .ok (.lstore_n 3, 1) := by decide +kernel
theorem dd_X9_watch_31 : decode X9_watch.2.1 31 = .ok (.iconst 0, 1) := by decide +kernel
theorem dd_X9_watch_32 : decode X9_watch.2.1 32 = .ok (.istore 5, 2) := by decide +kernel
theorem dd_X9_watch_34 : decode X9_watch.2.1 34 = .ok (.iload 5, 2) := by decide +kernel
theorem dd_X9_watch_36 : decode X9_watch.2.1 36 = .ok (.bipush 48, 2) := by decide +kernel
theorem dd_X9_watch_38 : decode X9_watch.2.1 38 = .ok (.if_icmp .ge 52, 3) := by decide +kernel
theorem dd_X9_watch_41 : decode X9_watch.2.1 41 = .ok (.aload_n 0, 1) := by decide +kernel
theorem dd_X9_watch_42 : decode X9_watch.2.1 42 = .ok (.getfield 23, 3) := by decide +kernel
theorem dd_X9_watch_45 : decode X9_watch.2.1 45 = .ok (.iload 5, 2) := by decide +kernel
theorem dd_X9_watch_47 : decode X9_watch.2.1 47 = .ok (.lload_n 3, 1) := by decide +kernel
theorem dd_X9_watch_48 : decode X9_watch.2.1 48 = .ok (.iload 5, 2) := by decide +kernel
theorem dd_X9_watch_50 : decode X9_watch.2.1 50 = .ok (.lshr, 1) := by decide +kernel
theorem dd_X9_watch_51 : decode X9_watch.2.1 51 = .ok (.lconst 1, 1) := by decide +kernel
theorem dd_X9_watch_52 : decode X9_watch.2.1 52 = .ok (.land, 1) := by decide +kernel
theorem dd_X9_watch_53 : decode X9_watch.2.1 53 = .ok (.lconst 1, 1) := by decide +kernel
theorem dd_X9_watch_54 : decode X9_watch.2.1 54 = .ok (.lcmp, 1) := by decide +kernel
theorem dd_X9_watch_55 : decode X9_watch.2.1 55 = .ok (.ifCond .ne 7, 3) := by decide +kernel
theorem dd_X9_watch_58 : decode X9_watch.2.1 58 = .ok (.iconst 1, 1) := by decide +kernel
theorem dd_X9_watch_59 : decode X9_watch.2.1 59 = .ok (.goto 4, 3) := by decide +kernel
theorem dd_X9_watch_62 : decode X9_watch.2.1 62 = .ok (.iconst 0, 1) := by decide +kernel
theorem dd_X9_watch_63 : decode X9_watch.2.1 63 = .ok (.bastore, 1) := by decide +kernel
theorem dd_X9_watch_64 : decode X9_watch.2.1 64 = .ok (.aload_n 0, 1) := by decide +kernel
theorem dd_X9_watch_65 : decode X9_watch.2.1 65 = .ok (.getfield 26, 3) := by decide +kernel
theorem dd_X9_watch_68 : decode X9_watch.2.1 68 = .ok (.iload 5, 2) := by decide +kernel
theorem dd_X9_watch_70 : decode X9_watch.2.1 70 = .ok (.iload 5, 2) := by decide +kernel
theorem dd_X9_watch_72 : decode X9_watch.2.1 72 = .ok (.bipush 8, 2) := by decide +kernel
theorem dd_X9_watch_74 : decode X9_watch.2.1 74 = .ok (.irem, 1) := by decide +kernel
theorem dd_X9_watch_75 : decode X9_watch.2.1 75 = .ok (.iastore, 1) := by decide +kernel
theorem dd_X9_watch_76 : decode X9_watch.2.1 76 = .ok (.aload_n 0, 1) := by decide +kernel
theorem dd_X9_watch_77 : decode X9_watch.2.1 77 = .ok (.getfield 29, 3) := by decide +kernel
theorem dd_X9_watch_80 : decode X9_watch.2.1 80 = .ok (.iload 5, 2) := by decide +kernel
theorem dd_X9_watch_82 : decode X9_watch.2.1 82 = .ok (.iconst 0, 1) := by decide +kernel
theorem dd_X9_watch_83 : decode X9_watch.2.1 83 = .ok (.bastore, 1) := by decide +kernel
theorem dd_X9_watch_84 : decode X9_watch.2.1 84 = .ok (.iinc 5 1, 3) := by decide +kernel
theorem dd_X9_watch_87 : decode X9_watch.2.1 87 = .ok (.goto (-53), 3) := by decide +kernel
theorem dd_X9_watch_90 : decode X9_watch.2.1 90 = .ok (.aload_n 0, 1) := by decide +kernel
theorem dd_X9_watch_91 : decode X9_watch.2.1 91 = .ok (.iconst 1, 1) := by decide +kernel
theorem dd_X9_watch_92 : decode X9_watch.2.1 92 = .ok (.putfield 183, 3) := by decide +kernel
theorem dd_X9_watch_95 : decode X9_watch.2.1 95 = .ok (.aload_n 0, 1) := by decide +kernel
theorem dd_X9_watch_96 : decode X9_watch.2.1 96 = .ok (.iload_n 2, 1) := by decide +kernel
theorem dd_X9_watch_97 : decode X9_watch.2.1 97 = .ok (.iconst 1, 1) := by decide +kernel
theorem dd_X9_watch_98 : decode X9_watch.2.1 98 = .ok (.if_icmp .ne 7, 3) := by decide +kernel
theorem dd_X9_watch_101 : decode X9_watch.2.1 101 = .ok (.iconst 1, 1) := by decide +kernel
theorem dd_X9_watch_102 : decode X9_watch.2.1 102 = .ok (.goto 4, 3) := by decide +kernel
theorem dd_X9_watch_105 : decode X9_watch.2.1 105 = .ok (.iconst 0, 1) := by decide +kernel
theorem dd_X9_watch_106 : decode X9_watch.2.1 106 = .ok (.putfield 271, 3) := by decide +kernel
theorem dd_X9_watch_109 : decode X9_watch.2.1 109 = .ok (.aload_n 0, 1) := by decide +kernel
theorem dd_X9_watch_110 : decode X9_watch.2.1 110 = .ok (.invokevirtual 274, 3) := by decide +kernel
theorem dd_X9_watch_113 : decode X9_watch.2.1 113 = .ok (.ireturn, 1) := by decide +kernel
theorem dd_X9_seePair_0 : decode X9_seePair.2.1 0 = .ok (.aload_n 0, 1) := by decide +kernel
theorem dd_X9_seePair_1 : decode X9_seePair.2.1 1 = .ok (.aload_n 0, 1) := by decide +kernel
theorem dd_X9_seePair_2 : decode X9_seePair.2.1 2 = .ok (.getfield 7, 3) := by decide +kernel
theorem dd_X9_seePair_5 : decode X9_seePair.2.1 5 = .ok (.bipush 6, 2) := by decide +kernel
theorem dd_X9_seePair_7 : decode X9_seePair.2.1 7 = .ok (.iload_n 1, 1) := by decide +kernel
theorem dd_X9_seePair_8 : decode X9_seePair.2.1 8 = .ok (.bipush 8, 2) := by decide +kernel
theorem dd_X9_seePair_10 : decode X9_seePair.2.1 10 = .ok (.idiv, 1) := by decide +kernel
theorem dd_X9_seePair_11 : decode X9_seePair.2.1 11 = .ok (.iadd, 1) := by decide +kernel
theorem dd_X9_seePair_12 : decode X9_seePair.2.1 12 = .ok (.iaload, 1) := by decide +kernel
theorem dd_X9_seePair_13 : decode X9_seePair.2.1 13 = .ok (.aload_n 0, 1) := by decide +kernel
theorem dd_X9_seePair_14 : decode X9_seePair.2.1 14 = .ok (.getfield 26, 3) := by decide +kernel
theorem dd_X9_seePair_17 : decode X9_seePair.2.1 17 = .ok (.iload_n 1, 1) := by decide +kernel
theorem dd_X9_seePair_18 : decode X9_seePair.2.1 18 = .ok (.iaload, 1) := by decide +kernel
theorem dd_X9_seePair_19 : decode X9_seePair.2.1 19 = .ok (.invokevirtual 186, 3) := by decide +kernel
theorem dd_X9_seePair_22 : decode X9_seePair.2.1 22 = .ok (.istore_n 3, 1) := by decide +kernel
theorem dd_X9_seePair_23 : decode X9_seePair.2.1 23 = .ok (.iload_n 3, 1) := by decide +kernel
theorem dd_X9_seePair_24 : decode X9_seePair.2.1 24 = .ok (.iload_n 2, 1) := by decide +kernel
theorem dd_X9_seePair_25 : decode X9_seePair.2.1 25 = .ok (.if_icmp .eq 42, 3) := by decide +kernel
theorem dd_X9_seePair_28 : decode X9_seePair.2.1 28 = .ok (.aload_n 0, 1) := by decide +kernel
theorem dd_X9_seePair_29 : decode X9_seePair.2.1 29 = .ok (.getfield 23, 3) := by decide +kernel
theorem dd_X9_seePair_32 : decode X9_seePair.2.1 32 = .ok (.iload_n 1, 1) := by decide +kernel
theorem dd_X9_seePair_33 : decode X9_seePair.2.1 33 = .ok (.aload_n 0, 1) := by decide +kernel
theorem dd_X9_seePair_34 : decode X9_seePair.2.1 34 = .ok (.getfield 271, 3) := by decide +kernel
theorem dd_X9_seePair_37 : decode X9_seePair.2.1 37 = .ok (.ifCond .eq 21, 3) := by decide +kernel
theorem dd_X9_seePair_40 : decode X9_seePair.2.1 40 = .ok (.iload_n 3, 1) := by decide +kernel
theorem dd_X9_seePair_41 : decode X9_seePair.2.1 41 = .ok (.iconst 1, 1) := by decide +kernel
theorem dd_X9_seePair_42 : decode X9_seePair.2.1 42 = .ok (.if_icmp .ne 16, 3) := by decide +kernel
theorem dd_X9_seePair_45 : decode X9_seePair.2.1 45 = .ok (.aload_n 0, 1) := by decide +kernel
theorem dd_X9_seePair_46 : decode X9_seePair.2.1 46 = .ok (.getfield 29, 3) := by decide +kernel
theorem dd_X9_seePair_49 : decode X9_seePair.2.1 49 = .ok (.iload_n 1, 1) := by decide +kernel
theorem dd_X9_seePair_50 : decode X9_seePair.2.1 50 = .ok (.baload, 1) := by decide +kernel
theorem dd_X9_seePair_51 : decode X9_seePair.2.1 51 = .ok (.ifCond .ne 7, 3) := by decide +kernel
theorem dd_X9_seePair_54 : decode X9_seePair.2.1 54 = .ok (.iconst 1, 1) := by decide +kernel
theorem dd_X9_seePair_55 : decode X9_seePair.2.1 55 = .ok (.goto 4, 3) := by decide +kernel
theorem dd_X9_seePair_58 : decode X9_seePair.2.1 58 = .ok (.iconst 0, 1) := by decide +kernel
theorem dd_X9_seePair_59 : decode X9_seePair.2.1 59 = .ok (.bastore, 1) := by decide +kernel
theorem dd_X9_seePair_60 : decode X9_seePair.2.1 60 = .ok (.aload_n 0, 1) := by decide +kernel
theorem dd_X9_seePair_61 : decode X9_seePair.2.1 61 = .ok (.getfield 29, 3) := by decide +kernel
theorem dd_X9_seePair_64 : decode X9_seePair.2.1 64 = .ok (.iload_n 1, 1) := by decide +kernel
theorem dd_X9_seePair_65 : decode X9_seePair.2.1 65 = .ok (.iconst 1, 1) := by decide +kernel
theorem dd_X9_seePair_66 : decode X9_seePair.2.1 66 = .ok (.bastore, 1) := by decide +kernel
theorem dd_X9_seePair_67 : decode X9_seePair.2.1 67 = .ok (.aload_n 0, 1) := by decide +kernel
theorem dd_X9_seePair_68 : decode X9_seePair.2.1 68 = .ok (.getfield 26, 3) := by decide +kernel
theorem dd_X9_seePair_71 : decode X9_seePair.2.1 71 = .ok (.iload_n 1, 1) := by decide +kernel
theorem dd_X9_seePair_72 : decode X9_seePair.2.1 72 = .ok (.aload_n 0, 1) := by decide +kernel
theorem dd_X9_seePair_73 : decode X9_seePair.2.1 73 = .ok (.getfield 26, 3) := by decide +kernel
theorem dd_X9_seePair_76 : decode X9_seePair.2.1 76 = .ok (.iload_n 1, 1) := by decide +kernel
theorem dd_X9_seePair_77 : decode X9_seePair.2.1 77 = .ok (.iaload, 1) := by decide +kernel
theorem dd_X9_seePair_78 : decode X9_seePair.2.1 78 = .ok (.iconst 1, 1) := by decide +kernel
theorem dd_X9_seePair_79 : decode X9_seePair.2.1 79 = .ok (.iadd, 1) := by decide +kernel
theorem dd_X9_seePair_80 : decode X9_seePair.2.1 80 = .ok (.aload_n 0, 1) := by decide +kernel
theorem dd_X9_seePair_81 : decode X9_seePair.2.1 81 = .ok (.getfield 86, 3) := by decide +kernel
theorem dd_X9_seePair_84 : decode X9_seePair.2.1 84 = .ok (.irem, 1) := by decide +kernel
theorem dd_X9_seePair_85 : decode X9_seePair.2.1 85 = .ok (.iastore, 1) := by decide +kernel
theorem dd_X9_seePair_86 : decode X9_seePair.2.1 86 = .ok (.return_, 1) := by decide +kernel
theorem dd_X9_see_0 : decode X9_see.2.1 0 = .ok (.iload_n 1, 1) := by decide +kernel
theorem dd_X9_see_1 : decode X9_see.2.1 1 = .ok (.i2l, 1) := by decide +kernel
theorem dd_X9_see_2 : decode X9_see.2.1 2 = .ok (.lconst 0, 1) := by decide +kernel
theorem dd_X9_see_3 : decode X9_see.2.1 3 = .ok (.lconst 1, 1) := by decide +kernel
theorem dd_X9_see_4 : decode X9_see.2.1 4 = .ok (.invokestatic 104, 3) := by decide +kernel
theorem dd_X9_see_7 : decode X9_see.2.1 7 = .ok (.ifCond .ne 6, 3) := by decide +kernel
theorem dd_X9_see_10 : decode X9_see.2.1 10 = .ok (.bipush (-3), 2) := by decide +kernel
theorem dd_X9_see_12 : decode X9_see.2.1 12 = .ok (.ireturn, 1) := by decide +kernel
theorem dd_X9_see_13 : decode X9_see.2.1 13 = .ok (.aload_n 0, 1) := by decide +kernel
theorem dd_X9_see_14 : decode X9_see.2.1 14 = .ok (.getfield 183, 3) := by decide +kernel
theorem dd_X9_see_17 : decode X9_see.2.1 17 = .ok (.ifCond .ne 6, 3) := by decide +kernel
theorem dd_X9_see_20 : decode X9_see.2.1 20 = .ok (.bipush (-4), 2) := by decide +kernel
theorem dd_X9_see_22 : decode X9_see.2.1 22 = .ok (.ireturn, 1) := by decide +kernel
theorem dd_X9_see_23 : decode X9_see.2.1 23 = .ok (.iconst 0, 1) := by decide +kernel
theorem dd_X9_see_24 : decode X9_see.2.1 24 = .ok (.istore_n 2, 1) := by decide +kernel
theorem dd_X9_see_25 : decode X9_see.2.1 25 = .ok (.iload_n 2, 1) := by decide +kernel
theorem dd_X9_see_26 : decode X9_see.2.1 26 = .ok (.bipush 48, 2) := by decide +kernel
theorem dd_X9_see_28 : decode X9_see.2.1 28 = .ok (.if_icmp .ge 24, 3) := by decide +kernel
theorem dd_X9_see_31 : decode X9_see.2.1 31 = .ok (.aload_n 0, 1) := by decide +kernel
theorem dd_X9_see_32 : decode X9_see.2.1 32 = .ok (.getfield 23, 3) := by decide +kernel
theorem dd_X9_see_35 : decode X9_see.2.1 35 = .ok (.iload_n 2, 1) := by decide +kernel
theorem dd_X9_see_36 : decode X9_see.2.1 36 = .ok (.baload, 1) := by decide +kernel
theorem dd_X9_see_37 : decode X9_see.2.1 37 = .ok (.ifCond .eq 9, 3) := by decide +kernel
theorem dd_X9_see_40 : decode X9_see.2.1 40 = .ok (.aload_n 0, 1) := by decide +kernel
theorem dd_X9_see_41 : decode X9_see.2.1 41 = .ok (.iload_n 2, 1) := by decide +kernel
theorem dd_X9_see_42 : decode X9_see.2.1 42 = .ok (.iload_n 1, 1) := by decide +kernel
theorem dd_X9_see_43 : decode X9_see.2.1 43 = .ok (.invokevirtual 277, 3) := by decide +kernel
theorem dd_X9_see_46 : decode X9_see.2.1 46 = .ok (.iinc 2 1, 3) := by decide +kernel
theorem dd_X9_see_49 : decode X9_see.2.1 49 = .ok (.goto (-24), 3) := by decide +kernel
theorem dd_X9_see_52 : decode X9_see.2.1 52 = .ok (.aload_n 0, 1) := by decide +kernel
theorem dd_X9_see_53 : decode X9_see.2.1 53 = .ok (.invokevirtual 274, 3) := by decide +kernel
theorem dd_X9_see_56 : decode X9_see.2.1 56 = .ok (.ireturn, 1) := by decide +kernel
theorem dd_X9_left_0 : decode X9_left.2.1 0 = .ok (.iload_n 1, 1) := by decide +kernel
theorem dd_X9_left_1 : decode X9_left.2.1 1 = .ok (.i2l, 1) := by decide +kernel
theorem dd_X9_left_2 : decode X9_left.2.1 2 = .ok (.lconst 0, 1) := by decide +kernel
theorem dd_X9_left_3 : decode X9_left.2.1 3 = .ok (.lconst 1, 1) := by decide +kernel
theorem dd_X9_left_4 : decode X9_left.2.1 4 = .ok (.invokestatic 104, 3) := by decide +kernel
theorem dd_X9_left_7 : decode X9_left.2.1 7 = .ok (.ifCond .eq 7, 3) := by decide +kernel
theorem dd_X9_left_10 : decode X9_left.2.1 10 = .ok (.iload_n 2, 1) := by decide +kernel
theorem dd_X9_left_11 : decode X9_left.2.1 11 = .ok (.ifCond .ge 6, 3) := by decide +kernel
theorem dd_X9_left_14 : decode X9_left.2.1 14 = .ok (.bipush (-3), 2) := by decide +kernel
theorem dd_X9_left_16 : decode X9_left.2.1 16 = .ok (.ireturn, 1) := by decide +kernel
theorem dd_X9_left_17 : decode X9_left.2.1 17 = .ok (.aload_n 0, 1) := by decide +kernel
theorem dd_X9_left_18 : decode X9_left.2.1 18 = .ok (.getfield 183, 3) := by decide +kernel
theorem dd_X9_left_21 : decode X9_left.2.1 21 = .ok (.ifCond .ne 6, 3) := by decide +kernel
theorem dd_X9_left_24 : decode X9_left.2.1 24 = .ok (.bipush (-4), 2) := by decide +kernel
theorem dd_X9_left_26 : decode X9_left.2.1 26 = .ok (.ireturn, 1) := by decide +kernel
theorem dd_X9_left_27 : decode X9_left.2.1 27 = .ok (.iconst 0, 1) := by decide +kernel
theorem dd_X9_left_28 : decode X9_left.2.1 28 = .ok (.istore_n 3, 1) := by decide +kernel
theorem dd_X9_left_29 : decode X9_left.2.1 29 = .ok (.iconst 0, 1) := by decide +kernel
theorem dd_X9_left_30 : decode X9_left.2.1 30 = .ok (.istore 4, 2) := by decide +kernel
theorem dd_X9_left_32 : decode X9_left.2.1 32 = .ok (.iconst (-1), 1) := by decide +kernel
theorem dd_X9_left_33 : decode X9_left.2.1 33 = .ok (.istore 5, 2) := by decide +kernel
theorem dd_X9_left_35 : decode X9_left.2.1 35 = .ok (.iconst 0, 1) := by decide +kernel
theorem dd_X9_left_36 : decode X9_left.2.1 36 = .ok (.istore 6, 2) := by decide +kernel
theorem dd_X9_left_38 : decode X9_left.2.1 38 = .ok (.iload 6, 2) := by decide +kernel
theorem dd_X9_left_40 : decode X9_left.2.1 40 = .ok (.bipush 48, 2) := by decide +kernel
theorem dd_X9_left_42 : decode X9_left.2.1 42 = .ok (.if_icmp .ge 61, 3) := by decide +kernel
theorem dd_X9_left_45 : decode X9_left.2.1 45 = .ok (.aload_n 0, 1) := by decide +kernel
theorem dd_X9_left_46 : decode X9_left.2.1 46 = .ok (.getfield 23, 3) := by decide +kernel
theorem dd_X9_left_49 : decode X9_left.2.1 49 = .ok (.iload 6, 2) := by decide +kernel
theorem dd_X9_left_51 : decode X9_left.2.1 51 = .ok (.baload, 1) := by decide +kernel
theorem dd_X9_left_52 : decode X9_left.2.1 52 = .ok (.ifCond .eq 45, 3) := by decide +kernel
theorem dd_X9_left_55 : decode X9_left.2.1 55 = .ok (.iload_n 3, 1) := by decide +kernel
theorem dd_X9_left_56 : decode X9_left.2.1 56 = .ok (.iconst 1, 1) := by decide +kernel
theorem dd_X9_left_57 : decode X9_left.2.1 57 = .ok (.iload 6, 2) := by decide +kernel
theorem dd_X9_left_59 : decode X9_left.2.1 59 = .ok (.bipush 8, 2) := by decide +kernel
theorem dd_X9_left_61 : decode X9_left.2.1 61 = .ok (.idiv, 1) := by decide +kernel
theorem dd_X9_left_62 : decode X9_left.2.1 62 = .ok (.ishl, 1) := by decide +kernel
theorem dd_X9_left_63 : decode X9_left.2.1 63 = .ok (.ior, 1) := by decide +kernel
theorem dd_X9_left_64 : decode X9_left.2.1 64 = .ok (.istore_n 3, 1) := by decide +kernel
theorem dd_X9_left_65 : decode X9_left.2.1 65 = .ok (.iload 4, 2) := by decide +kernel
theorem dd_X9_left_67 : decode X9_left.2.1 67 = .ok (.iload_n 2, 1) := by decide +kernel
theorem dd_X9_left_68 : decode X9_left.2.1 68 = .ok (.if_icmp .ne 22, 3) := by decide +kernel
theorem dd_X9_left_71 : decode X9_left.2.1 71 = .ok (.bipush 10, 2) := by decide +kernel
theorem dd_X9_left_73 : decode X9_left.2.1 73 = .ok (.iload 6, 2) := by decide +kernel
theorem dd_X9_left_75 : decode X9_left.2.1 75 = .ok (.bipush 8, 2) := by decide +kernel
theorem dd_X9_left_77 : decode X9_left.2.1 77 = .ok (.idiv, 1) := by decide +kernel
theorem dd_X9_left_78 : decode X9_left.2.1 78 = .ok (.imul, 1) := by decide +kernel
theorem dd_X9_left_79 : decode X9_left.2.1 79 = .ok (.aload_n 0, 1) := by decide +kernel
theorem dd_X9_left_80 : decode X9_left.2.1 80 = .ok (.getfield 26, 3) := by decide +kernel
theorem dd_X9_left_83 : decode X9_left.2.1 83 = .ok (.iload 6, 2) := by decide +kernel
theorem dd_X9_left_85 : decode X9_left.2.1 85 = .ok (.iaload, 1) := by decide +kernel
theorem dd_X9_left_86 : decode X9_left.2.1 86 = .ok (.iadd, 1) := by decide +kernel
theorem dd_X9_left_87 : decode X9_left.2.1 87 = .ok (.goto 5, 3) := by decide +kernel
theorem dd_X9_left_90 : decode X9_left.2.1 90 = .ok (.iload 5, 2) := by decide +kernel
theorem dd_X9_left_92 : decode X9_left.2.1 92 = .ok (.istore 5, 2) := by decide +kernel
theorem dd_X9_left_94 : decode X9_left.2.1 94 = .ok (.iinc 4 1, 3) := by decide +kernel
theorem dd_X9_left_97 : decode X9_left.2.1 97 = .ok (.iinc 6 1, 3) := by decide +kernel
theorem dd_X9_left_100 : decode X9_left.2.1 100 = .ok (.goto (-62), 3) := by decide +kernel
theorem dd_X9_left_103 : decode X9_left.2.1 103 = .ok (.iload_n 1, 1) := by decide +kernel
theorem dd_X9_left_104 : decode X9_left.2.1 104 = .ok (.ifCond .ne 7, 3) := by decide +kernel
theorem dd_X9_left_107 : decode X9_left.2.1 107 = .ok (.iload_n 3, 1) := by decide +kernel
theorem dd_X9_left_108 : decode X9_left.2.1 108 = .ok (.goto 5, 3) := by decide +kernel
theorem dd_X9_left_111 : decode X9_left.2.1 111 = .ok (.iload 5, 2) := by decide +kernel
theorem dd_X9_left_113 : decode X9_left.2.1 113 = .ok (.ireturn, 1) := by decide +kernel
theorem dd_X9_isTape_0 : decode X9_isTape.2.1 0 = .ok (.iload_n 0, 1) := by decide +kernel
theorem dd_X9_isTape_1 : decode X9_isTape.2.1 1 = .ok (.i2l, 1) := by decide +kernel
theorem dd_X9_isTape_2 : decode X9_isTape.2.1 2 = .ok (.lconst 0, 1) := by decide +kernel
theorem dd_X9_isTape_3 : decode X9_isTape.2.1 3 = .ok (.ldc2_w 280, 3) := by decide +kernel
theorem dd_X9_isTape_6 : decode X9_isTape.2.1 6 = .ok (.invokestatic 104, 3) := by decide +kernel
theorem dd_X9_isTape_9 : decode X9_isTape.2.1 9 = .ok (.ireturn, 1) := by decide +kernel
theorem dd_X9_isNumber_0 : decode X9_isNumber.2.1 0 = .ok (.iload_n 0, 1) := by decide +kernel
theorem dd_X9_isNumber_1 : decode X9_isNumber.2.1 1 = .ok (.i2l, 1) := by decide +kernel
theorem dd_X9_isNumber_2 : decode X9_isNumber.2.1 2 = .ok (.ldc2_w 282, 3) := by decide +kernel
theorem dd_X9_isNumber_5 : decode X9_isNumber.2.1 5 = .ok (.ldc2_w 284, 3) := by decide +kernel
theorem dd_X9_isNumber_8 : decode X9_isNumber.2.1 8 = .ok (.invokestatic 104, 3) := by decide +kernel
theorem dd_X9_isNumber_11 : decode X9_isNumber.2.1 11 = .ok (.ireturn, 1) := by decide +kernel
theorem dd_X9_tape_0 : decode X9_tape.2.1 0 = .ok (.iload_n 1, 1) := by decide +kernel
theorem dd_X9_tape_1 : decode X9_tape.2.1 1 = .ok (.invokestatic 286, 3) := by decide +kernel
theorem dd_X9_tape_4 : decode X9_tape.2.1 4 = .ok (.ifCond .ne 6, 3) := by decide +kernel
theorem dd_X9_tape_7 : decode X9_tape.2.1 7 = .ok (.bipush (-2), 2) := by decide +kernel
theorem dd_X9_tape_9 : decode X9_tape.2.1 9 = .ok (.ireturn, 1) := by decide +kernel
theorem dd_X9_tape_10 : decode X9_tape.2.1 10 = .ok (.aload_n 0, 1) := by decide +kernel
theorem dd_X9_tape_11 : decode X9_tape.2.1 11 = .ok (.getfield 32, 3) := by decide +kernel
theorem dd_X9_tape_14 : decode X9_tape.2.1 14 = .ok (.iload_n 1, 1) := by decide +kernel
theorem dd_X9_tape_15 : decode X9_tape.2.1 15 = .ok (.iconst 0, 1) := by decide +kernel
theorem dd_X9_tape_16 : decode X9_tape.2.1 16 = .ok (.iastore, 1) := by decide +kernel
theorem dd_X9_tape_17 : decode X9_tape.2.1 17 = .ok (.iconst 0, 1) := by decide +kernel
theorem dd_X9_tape_18 : decode X9_tape.2.1 18 = .ok (.ireturn, 1) := by decide +kernel
theorem dd_X9_putAt_0 : decode X9_putAt.2.1 0 = .ok (.aload_n 0, 1) := by decide +kernel
theorem dd_X9_putAt_1 : decode X9_putAt.2.1 1 = .ok (.getfield 32, 3) := by decide +kernel
theorem dd_X9_putAt_4 : decode X9_putAt.2.1 4 = .ok (.iload_n 1, 1) := by decide +kernel
theorem dd_X9_putAt_5 : decode X9_putAt.2.1 5 = .ok (.iaload, 1) := by decide +kernel
theorem dd_X9_putAt_6 : decode X9_putAt.2.1 6 = .ok (.istore 4, 2) := by decide +kernel
theorem dd_X9_putAt_8 : decode X9_putAt.2.1 8 = .ok (.iload 4, 2) := by decide +kernel
theorem dd_X9_putAt_10 : decode X9_putAt.2.1 10 = .ok (.ifCond .le 39, 3) := by decide +kernel
theorem dd_X9_putAt_13 : decode X9_putAt.2.1 13 = .ok (.iload_n 2, 1) := by decide +kernel
theorem dd_X9_putAt_14 : decode X9_putAt.2.1 14 = .ok (.ifCond .ne 35, 3) := by decide +kernel
theorem dd_X9_putAt_17 : decode X9_putAt.2.1 17 = .ok (.aload_n 0, 1) := by decide +kernel
theorem dd_X9_putAt_18 : decode X9_putAt.2.1 18 = .ok (.getfield 35, 3) := by decide +kernel
theorem dd_X9_putAt_21 : decode X9_putAt.2.1 21 = .ok (.bipush 12, 2) := by decide +kernel
theorem dd_X9_putAt_23 : decode X9_putAt.2.1 23 = .ok (.iload_n 1, 1) := by decide +kernel
theorem dd_X9_putAt_24 : decode X9_putAt.2.1 24 = .ok (.imul, 1) := by decide +kernel
theorem dd_X9_putAt_25 : decode X9_putAt.2.1 25 = .ok (.iload 4, 2) := by decide +kernel
theorem dd_X9_putAt_27 : decode X9_putAt.2.1 27 = .ok (.iadd, 1) := by decide +kernel
theorem dd_X9_putAt_28 : decode X9_putAt.2.1 28 = .ok (.aload_n 0, 1) := by decide +kernel
theorem dd_X9_putAt_29 : decode X9_putAt.2.1 29 = .ok (.getfield 35, 3) := by decide +kernel
theorem dd_X9_putAt_32 : decode X9_putAt.2.1 32 = .ok (.bipush 12, 2) := by decide +kernel
theorem dd_X9_putAt_34 : decode X9_putAt.2.1 34 = .ok (.iload_n 1, 1) := by decide +kernel
theorem dd_X9_putAt_35 : decode X9_putAt.2.1 35 = .ok (.imul, 1) := by decide +kernel
theorem dd_X9_putAt_36 : decode X9_putAt.2.1 36 = .ok (.iload 4, 2) := by decide +kernel
theorem dd_X9_putAt_38 : decode X9_putAt.2.1 38 = .ok (.iadd, 1) := by decide +kernel
theorem dd_X9_putAt_39 : decode X9_putAt.2.1 39 = .ok (.iconst 1, 1) := by decide +kernel
theorem dd_X9_putAt_40 : decode X9_putAt.2.1 40 = .ok (.isub, 1) := by decide +kernel
theorem dd_X9_putAt_41 : decode X9_putAt.2.1 41 = .ok (.iaload, 1) := by decide +kernel
theorem dd_X9_putAt_42 : decode X9_putAt.2.1 42 = .ok (.iastore, 1) := by decide +kernel
theorem dd_X9_putAt_43 : decode X9_putAt.2.1 43 = .ok (.iinc 4 (-1), 3) := by decide +kernel
theorem dd_X9_putAt_46 : decode X9_putAt.2.1 46 = .ok (.goto (-38), 3) := by decide +kernel
theorem dd_X9_putAt_49 : decode X9_putAt.2.1 49 = .ok (.aload_n 0, 1) := by decide +kernel
theorem dd_X9_putAt_50 : decode X9_putAt.2.1 50 = .ok (.getfield 35, 3) := by decide +kernel
theorem dd_X9_putAt_53 : decode X9_putAt.2.1 53 = .ok (.bipush 12, 2) := by decide +kernel
theorem dd_X9_putAt_55 : decode X9_putAt.2.1 55 = .ok (.iload_n 1, 1) := by decide +kernel
theorem dd_X9_putAt_56 : decode X9_putAt.2.1 56 = .ok (.imul, 1) := by decide +kernel
theorem dd_X9_putAt_57 : decode X9_putAt.2.1 57 = .ok (.iload_n 2, 1) := by decide +kernel
theorem dd_X9_putAt_58 : decode X9_putAt.2.1 58 = .ok (.ifCond .ne 7, 3) := by decide +kernel
theorem dd_X9_putAt_61 : decode X9_putAt.2.1 61 = .ok (.iconst 0, 1) := by decide +kernel
theorem dd_X9_putAt_62 : decode X9_putAt.2.1 62 = .ok (.goto 9, 3) := by decide +kernel
theorem dd_X9_putAt_65 : decode X9_putAt.2.1 65 = .ok (.aload_n 0, 1) := by decide +kernel
theorem dd_X9_putAt_66 : decode X9_putAt.2.1 66 = .ok (.getfield 32, 3) := by decide +kernel
theorem dd_X9_putAt_69 : decode X9_putAt.2.1 69 = .ok (.iload_n 1, 1) := by decide +kernel
theorem dd_X9_putAt_70 : decode X9_putAt.2.1 70 = .ok (.iaload, 1) := by decide +kernel
theorem dd_X9_putAt_71 : decode X9_putAt.2.1 71 = .ok (.iadd, 1) := by decide +kernel
theorem dd_X9_putAt_72 : decode X9_putAt.2.1 72 = .ok (.iload_n 3, 1) := by decide +kernel
theorem dd_X9_putAt_73 : decode X9_putAt.2.1 73 = .ok (.iastore, 1) := by decide +kernel
theorem dd_X9_putAt_74 : decode X9_putAt.2.1 74 = .ok (.aload_n 0, 1) := by decide +kernel
theorem dd_X9_putAt_75 : decode X9_putAt.2.1 75 = .ok (.getfield 32, 3) := by decide +kernel
theorem dd_X9_putAt_78 : decode X9_putAt.2.1 78 = .ok (.iload_n 1, 1) := by decide +kernel
theorem dd_X9_putAt_79 : decode X9_putAt.2.1 79 = .ok (.dup2, 1) := by decide +kernel
theorem dd_X9_putAt_80 : decode X9_putAt.2.1 80 = .ok (.iaload, 1) := by decide +kernel
theorem dd_X9_putAt_81 : decode X9_putAt.2.1 81 = .ok (.iconst 1, 1) := by decide +kernel
theorem dd_X9_putAt_82 : decode X9_putAt.2.1 82 = .ok (.iadd, 1) := by decide +kernel
theorem dd_X9_putAt_83 : decode X9_putAt.2.1 83 = .ok (.iastore, 1) := by decide +kernel
theorem dd_X9_putAt_84 : decode X9_putAt.2.1 84 = .ok (.return_, 1) := by decide +kernel
theorem dd_X9_drawAt_0 : decode X9_drawAt.2.1 0 = .ok (.aload_n 0, 1) := by decide +kernel
theorem dd_X9_drawAt_1 : decode X9_drawAt.2.1 1 = .ok (.getfield 35, 3) := by decide +kernel
theorem dd_X9_drawAt_4 : decode X9_drawAt.2.1 4 = .ok (.bipush 12, 2) := by decide +kernel
theorem dd_X9_drawAt_6 : decode X9_drawAt.2.1 6 = .ok (.iload_n 1, 1) := by decide +kernel
theorem dd_X9_drawAt_7 : decode X9_drawAt.2.1 7 = .ok (.imul, 1) := by decide +kernel
theorem dd_X9_drawAt_8 : decode X9_drawAt.2.1 8 = .ok (.iload_n 2, 1) := by decide +kernel
theorem dd_X9_drawAt_9 : decode X9_drawAt.2.1 9 = .ok (.ifCond .ne 7, 3) := by decide +kernel
theorem dd_X9_drawAt_12 : decode X9_drawAt.2.1 12 = .ok (.iconst 0, 1) := by decide +kernel
theorem dd_X9_drawAt_13 : decode X9_drawAt.2.1 13 = .ok (.goto 11, 3) := by decide +kernel
theorem dd_X9_drawAt_16 : decode X9_drawAt.2.1 16 = .ok (.aload_n 0, 1) := by decide +kernel
theorem dd_X9_drawAt_17 : decode X9_drawAt.2.1 17 = .ok (.getfield 32, 3) := by decide +kernel
theorem dd_X9_drawAt_20 : decode X9_drawAt.2.1 20 = .ok (.iload_n 1, 1) := by decide +kernel
theorem dd_X9_drawAt_21 : decode X9_drawAt.2.1 21 = .ok (.iaload, 1) := by decide +kernel
theorem dd_X9_drawAt_22 : decode X9_drawAt.2.1 22 = .ok (.iconst 1, 1) := by decide +kernel
theorem dd_X9_drawAt_23 : decode X9_drawAt.2.1 23 = .ok (.isub, 1) := by decide +kernel
theorem dd_X9_drawAt_24 : decode X9_drawAt.2.1 24 = .ok (.iadd, 1) := by decide +kernel
theorem dd_X9_drawAt_25 : decode X9_drawAt.2.1 25 = .ok (.iaload, 1) := by decide +kernel
theorem dd_X9_drawAt_26 : decode X9_drawAt.2.1 26 = .ok (.istore_n 3, 1) := by decide +kernel
theorem dd_X9_drawAt_27 : decode X9_drawAt.2.1 27 = .ok (.aload_n 0, 1) := by decide +kernel
theorem dd_X9_drawAt_28 : decode X9_drawAt.2.1 28 = .ok (.getfield 32, 3) := by decide +kernel
theorem dd_X9_drawAt_31 : decode X9_drawAt.2.1 31 = .ok (.iload_n 1, 1) := by decide +kernel
theorem dd_X9_drawAt_32 : decode X9_drawAt.2.1 32 = .ok (.dup2, 1) := by decide +kernel
theorem dd_X9_drawAt_33 : decode X9_drawAt.2.1 33 = .ok (.iaload, 1) := by decide +kernel
theorem dd_X9_drawAt_34 : decode X9_drawAt.2.1 34 = .ok (.iconst 1, 1) := by decide +kernel
theorem dd_X9_drawAt_35 : decode X9_drawAt.2.1 35 = .ok (.isub, 1) := by decide +kernel
theorem dd_X9_drawAt_36 : decode X9_drawAt.2.1 36 = .ok (.iastore, 1) := by decide +kernel
theorem dd_X9_drawAt_37 : decode X9_drawAt.2.1 37 = .ok (.iconst 0, 1) := by decide +kernel
theorem dd_X9_drawAt_38 : decode X9_drawAt.2.1 38 = .ok (.istore 4, 2) := by decide +kernel
theorem dd_X9_drawAt_40 : decode X9_drawAt.2.1 40 = .ok (.iload 4, 2) := by decide +kernel
theorem dd_X9_drawAt_42 : decode X9_drawAt.2.1 42 = .ok (.aload_n 0, 1) := by decide +kernel
theorem dd_X9_drawAt_43 : decode X9_drawAt.2.1 43 = .ok (.getfield 32, 3) := by decide +kernel
theorem dd_X9_drawAt_46 : decode X9_drawAt.2.1 46 = .ok (.iload_n 1, 1) := by decide +kernel
theorem dd_X9_drawAt_47 : decode X9_drawAt.2.1 47 = .ok (.iaload, 1) := by decide +kernel
theorem dd_X9_drawAt_48 : decode X9_drawAt.2.1 48 = .ok (.if_icmp .ge 39, 3) := by decide +kernel
theorem dd_X9_drawAt_51 : decode X9_drawAt.2.1 51 = .ok (.iload_n 2, 1) := by decide +kernel
theorem dd_X9_drawAt_52 : decode X9_drawAt.2.1 52 = .ok (.ifCond .ne 35, 3) := by decide +kernel
theorem dd_X9_drawAt_55 : decode X9_drawAt.2.1 55 = .ok (.aload_n 0, 1) := by decide +kernel
theorem dd_X9_drawAt_56 : decode X9_drawAt.2.1 56 = .ok (.getfield 35, 3) := by decide +kernel
theorem dd_X9_drawAt_59 : decode X9_drawAt.2.1 59 = .ok (.bipush 12, 2) := by decide +kernel
theorem dd_X9_drawAt_61 : decode X9_drawAt.2.1 61 = .ok (.iload_n 1, 1) := by decide +kernel
theorem dd_X9_drawAt_62 : decode X9_drawAt.2.1 62 = .ok (.imul, 1) := by decide +kernel
theorem dd_X9_drawAt_63 : decode X9_drawAt.2.1 63 = .ok (.iload 4, 2) := by decide +kernel
theorem dd_X9_drawAt_65 : decode X9_drawAt.2.1 65 = .ok (.iadd, 1) := by decide +kernel
theorem dd_X9_drawAt_66 : decode X9_drawAt.2.1 66 = .ok (.aload_n 0, 1) := by decide +kernel
theorem dd_X9_drawAt_67 : decode X9_drawAt.2.1 67 = .ok (.getfield 35, 3) := by decide +kernel
theorem dd_X9_drawAt_70 : decode X9_drawAt.2.1 70 = .ok (.bipush 12, 2) := by decide +kernel
theorem dd_X9_drawAt_72 : decode X9_drawAt.2.1 72 = .ok (.iload_n 1, 1) := by decide +kernel
theorem dd_X9_drawAt_73 : decode X9_drawAt.2.1 73 = .ok (.imul, 1) := by decide +kernel
theorem dd_X9_drawAt_74 : decode X9_drawAt.2.1 74 = .ok (.iload 4, 2) := by decide +kernel
theorem dd_X9_drawAt_76 : decode X9_drawAt.2.1 76 = .ok (.iadd, 1) := by decide +kernel
theorem dd_X9_drawAt_77 : decode X9_drawAt.2.1 77 = .ok (.iconst 1, 1) := by decide +kernel
theorem dd_X9_drawAt_78 : decode X9_drawAt.2.1 78 = .ok (.iadd, 1) := by decide +kernel
theorem dd_X9_drawAt_79 : decode X9_drawAt.2.1 79 = .ok (.iaload, 1) := by decide +kernel
theorem dd_X9_drawAt_80 : decode X9_drawAt.2.1 80 = .ok (.iastore, 1) := by decide +kernel
theorem dd_X9_drawAt_81 : decode X9_drawAt.2.1 81 = .ok (.iinc 4 1, 3) := by decide +kernel
theorem dd_X9_drawAt_84 : decode X9_drawAt.2.1 84 = .ok (.goto (-44), 3) := by decide +kernel
theorem dd_X9_drawAt_87 : decode X9_drawAt.2.1 87 = .ok (.iload_n 3, 1) := by decide +kernel
theorem dd_X9_drawAt_88 : decode X9_drawAt.2.1 88 = .ok (.ireturn, 1) := by decide +kernel
theorem dd_X9_put_0 : decode X9_put.2.1 0 = .ok (.iload_n 1, 1) := by decide +kernel
theorem dd_X9_put_1 : decode X9_put.2.1 1 = .ok (.invokestatic 286, 3) := by decide +kernel
theorem dd_X9_put_4 : decode X9_put.2.1 4 = .ok (.ifCond .ne 6, 3) := by decide +kernel
theorem dd_X9_put_7 : decode X9_put.2.1 7 = .ok (.bipush (-2), 2) := by decide +kernel
theorem dd_X9_put_9 : decode X9_put.2.1 9 = .ok (.ireturn, 1) := by decide +kernel
theorem dd_X9_put_10 : decode X9_put.2.1 10 = .ok (.iload_n 2, 1) := by decide +kernel
theorem dd_X9_put_11 : decode X9_put.2.1 11 = .ok (.i2l, 1) := by decide +kernel
theorem dd_X9_put_12 : decode X9_put.2.1 12 = .ok (.lconst 0, 1) := by decide +kernel
theorem dd_X9_put_13 : decode X9_put.2.1 13 = .ok (.lconst 1, 1) := by decide +kernel
theorem dd_X9_put_14 : decode X9_put.2.1 14 = .ok (.invokestatic 104, 3) := by decide +kernel
theorem dd_X9_put_17 : decode X9_put.2.1 17 = .ok (.ifCond .eq 10, 3) := by decide +kernel
theorem dd_X9_put_20 : decode X9_put.2.1 20 = .ok (.iload_n 3, 1) := by decide +kernel
theorem dd_X9_put_21 : decode X9_put.2.1 21 = .ok (.invokestatic 289, 3) := by decide +kernel
theorem dd_X9_put_24 : decode X9_put.2.1 24 = .ok (.ifCond .ne 6, 3) := by decide +kernel
theorem dd_X9_put_27 : decode X9_put.2.1 27 = .ok (.bipush (-3), 2) := by decide +kernel
theorem dd_X9_put_29 : decode X9_put.2.1 29 = .ok (.ireturn, 1) := by decide +kernel
theorem dd_X9_put_30 : decode X9_put.2.1 30 = .ok (.aload_n 0, 1) := by decide +kernel
theorem dd_X9_put_31 : decode X9_put.2.1 31 = .ok (.getfield 32, 3) := by decide +kernel
theorem dd_X9_put_34 : decode X9_put.2.1 34 = .ok (.iload_n 1, 1) := by decide +kernel
theorem dd_X9_put_35 : decode X9_put.2.1 35 = .ok (.iaload, 1) := by decide +kernel
theorem dd_X9_put_36 : decode X9_put.2.1 36 = .ok (.ifCond .ge 6, 3) := by decide +kernel
theorem dd_X9_put_39 : decode X9_put.2.1 39 = .ok (.bipush (-11), 2) := by decide +kernel
theorem dd_X9_put_41 : decode X9_put.2.1 41 = .ok (.ireturn, 1) := by decide +kernel
theorem dd_X9_put_42 : decode X9_put.2.1 42 = .ok (.aload_n 0, 1) := by decide +kernel
theorem dd_X9_put_43 : decode X9_put.2.1 43 = .ok (.getfield 32, 3) := by decide +kernel
theorem dd_X9_put_46 : decode X9_put.2.1 46 = .ok (.iload_n 1, 1) := by decide +kernel
theorem dd_X9_put_47 : decode X9_put.2.1 47 = .ok (.iaload, 1) := by decide +kernel
theorem dd_X9_put_48 : decode X9_put.2.1 48 = .ok (.bipush 12, 2) := by decide +kernel
theorem dd_X9_put_50 : decode X9_put.2.1 50 = .ok (.if_icmp .ne 6, 3) := by decide +kernel
theorem dd_X9_put_53 : decode X9_put.2.1 53 = .ok (.bipush (-13), 2) := by decide +kernel
theorem dd_X9_put_55 : decode X9_put.2.1 55 = .ok (.ireturn, 1) := by decide +kernel
theorem dd_X9_put_56 : decode X9_put.2.1 56 = .ok (.aload_n 0, 1) := by decide +kernel
theorem dd_X9_put_57 : decode X9_put.2.1 57 = .ok (.iload_n 1, 1) := by decide +kernel
theorem dd_X9_put_58 : decode X9_put.2.1 58 = .ok (.iload_n 2, 1) := by decide +kernel
theorem dd_X9_put_59 : decode X9_put.2.1 59 = .ok (.iload_n 3, 1) := by decide +kernel
theorem dd_X9_put_60 : decode X9_put.2.1 60 = .ok (.invokevirtual 292, 3) := by decide +kernel
theorem dd_X9_put_63 : decode X9_put.2.1 63 = .ok (.aload_n 0, 1) := by decide +kernel
theorem dd_X9_put_64 : decode X9_put.2.1 64 = .ok (.getfield 32, 3) := by decide +kernel
theorem dd_X9_put_67 : decode X9_put.2.1 67 = .ok (.iload_n 1, 1) := by decide +kernel
theorem dd_X9_put_68 : decode X9_put.2.1 68 = .ok (.iaload, 1) := by decide +kernel
theorem dd_X9_put_69 : decode X9_put.2.1 69 = .ok (.ireturn, 1) := by decide +kernel
theorem dd_X9_draw_0 : decode X9_draw.2.1 0 = .ok (.iload_n 1, 1) := by decide +kernel
theorem dd_X9_draw_1 : decode X9_draw.2.1 1 = .ok (.invokestatic 286, 3) := by decide +kernel
theorem dd_X9_draw_4 : decode X9_draw.2.1 4 = .ok (.ifCond .ne 6, 3) := by decide +kernel
theorem dd_X9_draw_7 : decode X9_draw.2.1 7 = .ok (.bipush (-2), 2) := by decide +kernel
theorem dd_X9_draw_9 : decode X9_draw.2.1 9 = .ok (.ireturn, 1) := by decide +kernel
theorem dd_X9_draw_10 : decode X9_draw.2.1 10 = .ok (.iload_n 2, 1) := by decide +kernel
theorem dd_X9_draw_11 : decode X9_draw.2.1 11 = .ok (.i2l, 1) := by decide +kernel
theorem dd_X9_draw_12 : decode X9_draw.2.1 12 = .ok (.lconst 0, 1) := by decide +kernel
theorem dd_X9_draw_13 : decode X9_draw.2.1 13 = .ok (.lconst 1, 1) := by decide +kernel
theorem dd_X9_draw_14 : decode X9_draw.2.1 14 = .ok (.invokestatic 104, 3) := by decide +kernel
theorem dd_X9_draw_17 : decode X9_draw.2.1 17 = .ok (.ifCond .ne 6, 3) := by decide +kernel
theorem dd_X9_draw_20 : decode X9_draw.2.1 20 = .ok (.bipush (-3), 2) := by decide +kernel
theorem dd_X9_draw_22 : decode X9_draw.2.1 22 = .ok (.ireturn, 1) := by decide +kernel
theorem dd_X9_draw_23 : decode X9_draw.2.1 23 = .ok (.aload_n 0, 1) := by decide +kernel
theorem dd_X9_draw_24 : decode X9_draw.2.1 24 = .ok (.getfield 32, 3) := by decide +kernel
theorem dd_X9_draw_27 : decode X9_draw.2.1 27 = .ok (.iload_n 1, 1) := by decide +kernel
theorem dd_X9_draw_28 : decode X9_draw.2.1 28 = .ok (.iaload, 1) := by decide +kernel
theorem dd_X9_draw_29 : decode X9_draw.2.1 29 = .ok (.ifCond .ge 8, 3) := by decide +kernel
theorem dd_X9_draw_32 : decode X9_draw.2.1 32 = .ok (.bipush (-11), 2) := by decide +kernel
theorem dd_X9_draw_34 : decode X9_draw.2.1 34 = .ok (.goto 27, 3) := by decide +kernel
theorem dd_X9_draw_37 : decode X9_draw.2.1 37 = .ok (.aload_n 0, 1) := by decide +kernel
theorem dd_X9_draw_38 : decode X9_draw.2.1 38 = .ok (.getfield 32, 3) := by decide +kernel
theorem dd_X9_draw_41 : decode X9_draw.2.1 41 = .ok (.iload_n 1, 1) := by decide +kernel
theorem dd_X9_draw_42 : decode X9_draw.2.1 42 = .ok (.iaload, 1) := by decide +kernel
theorem dd_X9_draw_43 : decode X9_draw.2.1 43 = .ok (.ifCond .ne 8, 3) := by decide +kernel
theorem dd_X9_draw_46 : decode X9_draw.2.1 46 = .ok (.bipush (-12), 2) := by decide +kernel
theorem dd_X9_draw_48 : decode X9_draw.2.1 48 = .ok (.goto 13, 3) := by decide +kernel
theorem dd_X9_draw_51 : decode X9_draw.2.1 51 = .ok (.aload_n 0, 1) := by decide +kernel
theorem dd_X9_draw_52 : decode X9_draw.2.1 52 = .ok (.iload_n 1, 1) := by decide +kernel
theorem dd_X9_draw_53 : decode X9_draw.2.1 53 = .ok (.iload_n 2, 1) := by decide +kernel
theorem dd_X9_draw_54 : decode X9_draw.2.1 54 = .ok (.invokevirtual 296, 3) := by decide +kernel
theorem dd_X9_draw_57 : decode X9_draw.2.1 57 = .ok (.ldc_w 299, 3) := by decide +kernel
theorem dd_X9_draw_60 : decode X9_draw.2.1 60 = .ok (.iadd, 1) := by decide +kernel
theorem dd_X9_draw_61 : decode X9_draw.2.1 61 = .ok (.ireturn, 1) := by decide +kernel
theorem dd_X9_turn_0 : decode X9_turn.2.1 0 = .ok (.iload_n 1, 1) := by decide +kernel
theorem dd_X9_turn_1 : decode X9_turn.2.1 1 = .ok (.invokestatic 286, 3) := by decide +kernel
theorem dd_X9_turn_4 : decode X9_turn.2.1 4 = .ok (.ifCond .ne 6, 3) := by decide +kernel
theorem dd_X9_turn_7 : decode X9_turn.2.1 7 = .ok (.bipush (-2), 2) := by decide +kernel
theorem dd_X9_turn_9 : decode X9_turn.2.1 9 = .ok (.ireturn, 1) := by decide +kernel
theorem dd_X9_turn_10 : decode X9_turn.2.1 10 = .ok (.iload_n 2, 1) := by decide +kernel
theorem dd_X9_turn_11 : decode X9_turn.2.1 11 = .ok (.i2l, 1) := by decide +kernel
theorem dd_X9_turn_12 : decode X9_turn.2.1 12 = .ok (.lconst 0, 1) := by decide +kernel
theorem dd_X9_turn_13 : decode X9_turn.2.1 13 = .ok (.ldc2_w 234, 3) := by decide +kernel
theorem dd_X9_turn_16 : decode X9_turn.2.1 16 = .ok (.invokestatic 104, 3) := by decide +kernel
theorem dd_X9_turn_19 : decode X9_turn.2.1 19 = .ok (.ifCond .ne 6, 3) := by decide +kernel
theorem dd_X9_turn_22 : decode X9_turn.2.1 22 = .ok (.bipush (-3), 2) := by decide +kernel
theorem dd_X9_turn_24 : decode X9_turn.2.1 24 = .ok (.ireturn, 1) := by decide +kernel
theorem dd_X9_turn_25 : decode X9_turn.2.1 25 = .ok (.aload_n 0, 1) := by decide +kernel
theorem dd_X9_turn_26 : decode X9_turn.2.1 26 = .ok (.getfield 32, 3) := by decide +kernel
theorem dd_X9_turn_29 : decode X9_turn.2.1 29 = .ok (.iload_n 1, 1) := by decide +kernel
theorem dd_X9_turn_30 : decode X9_turn.2.1 30 = .ok (.iaload, 1) := by decide +kernel
theorem dd_X9_turn_31 : decode X9_turn.2.1 31 = .ok (.iconst 1, 1) := by decide +kernel
theorem dd_X9_turn_32 : decode X9_turn.2.1 32 = .ok (.if_icmp .ge 20, 3) := by decide +kernel
theorem dd_X9_turn_35 : decode X9_turn.2.1 35 = .ok (.aload_n 0, 1) := by decide +kernel
theorem dd_X9_turn_36 : decode X9_turn.2.1 36 = .ok (.getfield 32, 3) := by decide +kernel
theorem dd_X9_turn_39 : decode X9_turn.2.1 39 = .ok (.iload_n 1, 1) := by decide +kernel
theorem dd_X9_turn_40 : decode X9_turn.2.1 40 = .ok (.iaload, 1) := by decide +kernel
theorem dd_X9_turn_41 : decode X9_turn.2.1 41 = .ok (.ifCond .ge 8, 3) := by decide +kernel
theorem dd_X9_turn_44 : decode X9_turn.2.1 44 = .ok (.bipush (-11), 2) := by decide +kernel
theorem dd_X9_turn_46 : decode X9_turn.2.1 46 = .ok (.goto 5, 3) := by decide +kernel
theorem dd_X9_turn_49 : decode X9_turn.2.1 49 = .ok (.bipush (-12), 2) := by decide +kernel
theorem dd_X9_turn_51 : decode X9_turn.2.1 51 = .ok (.ireturn, 1) := by decide +kernel
theorem dd_X9_turn_52 : decode X9_turn.2.1 52 = .ok (.iconst 0, 1) := by decide +kernel
theorem dd_X9_turn_53 : decode X9_turn.2.1 53 = .ok (.istore_n 3, 1) := by decide +kernel
theorem dd_X9_turn_54 : decode X9_turn.2.1 54 = .ok (.iload_n 3, 1) := by decide +kernel
theorem dd_X9_turn_55 : decode X9_turn.2.1 55 = .ok (.iload_n 2, 1) := by decide +kernel
theorem dd_X9_turn_56 : decode X9_turn.2.1 56 = .ok (.if_icmp .ge 21, 3) := by decide +kernel
theorem dd_X9_turn_59 : decode X9_turn.2.1 59 = .ok (.aload_n 0, 1) := by decide +kernel
theorem dd_X9_turn_60 : decode X9_turn.2.1 60 = .ok (.iload_n 1, 1) := by decide +kernel
theorem dd_X9_turn_61 : decode X9_turn.2.1 61 = .ok (.iconst 1, 1) := by decide +kernel
theorem dd_X9_turn_62 : decode X9_turn.2.1 62 = .ok (.aload_n 0, 1) := by decide +kernel
theorem dd_X9_turn_63 : decode X9_turn.2.1 63 = .ok (.iload_n 1, 1) := by decide +kernel
theorem dd_X9_turn_64 : decode X9_turn.2.1 64 = .ok (.iconst 0, 1) := by decide +kernel
theorem dd_X9_turn_65 : decode X9_turn.2.1 65 = .ok (.invokevirtual 296, 3) := by decide +kernel
theorem dd_X9_turn_68 : decode X9_turn.2.1 68 = .ok (.invokevirtual 292, 3) := by decide +kernel
theorem dd_X9_turn_71 : decode X9_turn.2.1 71 = .ok (.iinc 3 1, 3) := by decide +kernel
theorem dd_X9_turn_74 : decode X9_turn.2.1 74 = .ok (.goto (-20), 3) := by decide +kernel
theorem dd_X9_turn_77 : decode X9_turn.2.1 77 = .ok (.aload_n 0, 1) := by decide +kernel
theorem dd_X9_turn_78 : decode X9_turn.2.1 78 = .ok (.getfield 32, 3) := by decide +kernel
theorem dd_X9_turn_81 : decode X9_turn.2.1 81 = .ok (.iload_n 1, 1) := by decide +kernel
theorem dd_X9_turn_82 : decode X9_turn.2.1 82 = .ok (.iaload, 1) := by decide +kernel
theorem dd_X9_turn_83 : decode X9_turn.2.1 83 = .ok (.ireturn, 1) := by decide +kernel
theorem dd_X9_find_0 : decode X9_find.2.1 0 = .ok (.iload_n 1, 1) := by decide +kernel
theorem dd_X9_find_1 : decode X9_find.2.1 1 = .ok (.invokestatic 286, 3) := by decide +kernel
theorem dd_X9_find_4 : decode X9_find.2.1 4 = .ok (.ifCond .ne 6, 3) := by decide +kernel
theorem dd_X9_find_7 : decode X9_find.2.1 7 = .ok (.bipush (-2), 2) := by decide +kernel
theorem dd_X9_find_9 : decode X9_find.2.1 9 = .ok (.ireturn, 1) := by decide +kernel
theorem dd_X9_find_10 : decode X9_find.2.1 10 = .ok (.iload_n 2, 1) := by decide +kernel
theorem dd_X9_find_11 : decode X9_find.2.1 11 = .ok (.i2l, 1) := by decide +kernel
theorem dd_X9_find_12 : decode X9_find.2.1 12 = .ok (.lconst 0, 1) := by decide +kernel
theorem dd_X9_find_13 : decode X9_find.2.1 13 = .ok (.ldc2_w 280, 3) := by decide +kernel
theorem dd_X9_find_16 : decode X9_find.2.1 16 = .ok (.invokestatic 104, 3) := by decide +kernel
theorem dd_X9_find_19 : decode X9_find.2.1 19 = .ok (.ifCond .eq 10, 3) := by decide +kernel
theorem dd_X9_find_22 : decode X9_find.2.1 22 = .ok (.iload_n 3, 1) := by decide +kernel
theorem dd_X9_find_23 : decode X9_find.2.1 23 = .ok (.invokestatic 289, 3) := by decide +kernel
theorem dd_X9_find_26 : decode X9_find.2.1 26 = .ok (.ifCond .ne 6, 3) := by decide +kernel
theorem dd_X9_find_29 : decode X9_find.2.1 29 = .ok (.bipush (-3), 2) := by decide +kernel
theorem dd_X9_find_31 : decode X9_find.2.1 31 = .ok (.ireturn, 1) := by decide +kernel
theorem dd_X9_find_32 : decode X9_find.2.1 32 = .ok (.aload_n 0, 1) := by decide +kernel
theorem dd_X9_find_33 : decode X9_find.2.1 33 = .ok (.getfield 32, 3) := by decide +kernel
theorem dd_X9_find_36 : decode X9_find.2.1 36 = .ok (.iload_n 1, 1) := by decide +kernel
theorem dd_X9_find_37 : decode X9_find.2.1 37 = .ok (.iaload, 1) := by decide +kernel
theorem dd_X9_find_38 : decode X9_find.2.1 38 = .ok (.ifCond .ge 6, 3) := by decide +kernel
theorem dd_X9_find_41 : decode X9_find.2.1 41 = .ok (.bipush (-11), 2) := by decide +kernel
theorem dd_X9_find_43 : decode X9_find.2.1 43 = .ok (.ireturn, 1) := by decide +kernel
theorem dd_X9_find_44 : decode X9_find.2.1 44 = .ok (.ldc_w 300, 3) := by decide +kernel
theorem dd_X9_find_47 : decode X9_find.2.1 47 = .ok (.istore 4, 2) := by decide +kernel
theorem dd_X9_find_49 : decode X9_find.2.1 49 = .ok (.ldc_w 301, 3) := by decide +kernel
theorem dd_X9_find_52 : decode X9_find.2.1 52 = .ok (.istore 5, 2) := by decide +kernel
theorem dd_X9_find_54 : decode X9_find.2.1 54 = .ok (.iconst 0, 1) := by decide +kernel
theorem dd_X9_find_55 : decode X9_find.2.1 55 = .ok (.istore 6, 2) := by decide +kernel
theorem dd_X9_find_57 : decode X9_find.2.1 57 = .ok (.bipush 12, 2) := by decide +kernel
theorem dd_X9_find_59 : decode X9_find.2.1 59 = .ok (.iload_n 1, 1) := by decide +kernel
theorem dd_X9_find_60 : decode X9_find.2.1 60 = .ok (.imul, 1) := by decide +kernel
theorem dd_X9_find_61 : decode X9_find.2.1 61 = .ok (.istore 7, 2) := by decide +kernel
theorem dd_X9_find_63 : decode X9_find.2.1 63 = .ok (.iload 7, 2) := by decide +kernel
theorem dd_X9_find_65 : decode X9_find.2.1 65 = .ok (.bipush 12, 2) := by decide +kernel
theorem dd_X9_find_67 : decode X9_find.2.1 67 = .ok (.iload_n 1, 1) := by decide +kernel
theorem dd_X9_find_68 : decode X9_find.2.1 68 = .ok (.imul, 1) := by decide +kernel
theorem dd_X9_find_69 : decode X9_find.2.1 69 = .ok (.aload_n 0, 1) := by decide +kernel
theorem dd_X9_find_70 : decode X9_find.2.1 70 = .ok (.getfield 32, 3) := by decide +kernel
theorem dd_X9_find_73 : decode X9_find.2.1 73 = .ok (.iload_n 1, 1) := by decide +kernel
theorem dd_X9_find_74 : decode X9_find.2.1 74 = .ok (.iaload, 1) := by decide +kernel
theorem dd_X9_find_75 : decode X9_find.2.1 75 = .ok (.iadd, 1) := by decide +kernel
theorem dd_X9_find_76 : decode X9_find.2.1 76 = .ok (.if_icmp .ge 82, 3) := by decide +kernel
theorem dd_X9_find_79 : decode X9_find.2.1 79 = .ok (.aload_n 0, 1) := by decide +kernel
theorem dd_X9_find_80 : decode X9_find.2.1 80 = .ok (.getfield 35, 3) := by decide +kernel
theorem dd_X9_find_83 : decode X9_find.2.1 83 = .ok (.iload 7, 2) := by decide +kernel
theorem dd_X9_find_85 : decode X9_find.2.1 85 = .ok (.iaload, 1) := by decide +kernel
theorem dd_X9_find_86 : decode X9_find.2.1 86 = .ok (.iload 4, 2) := by decide +kernel
theorem dd_X9_find_88 : decode X9_find.2.1 88 = .ok (.if_icmp .le 13, 3) := by decide +kernel
theorem dd_X9_find_91 : decode X9_find.2.1 91 = .ok (.aload_n 0, 1) := by decide +kernel
theorem dd_X9_find_92 : decode X9_find.2.1 92 = .ok (.getfield 35, 3) := by decide +kernel
theorem dd_X9_find_95 : decode X9_find.2.1 95 = .ok (.iload 7, 2) := by decide +kernel
theorem dd_X9_find_97 : decode X9_find.2.1 97 = .ok (.iaload, 1) := by decide +kernel
theorem dd_X9_find_98 : decode X9_find.2.1 98 = .ok (.goto 5, 3) := by decide +kernel
theorem dd_X9_find_101 : decode X9_find.2.1 101 = .ok (.iload 4, 2) := by decide +kernel
theorem dd_X9_find_103 : decode X9_find.2.1 103 = .ok (.istore 4, 2) := by decide +kernel
theorem dd_X9_find_105 : decode X9_find.2.1 105 = .ok (.aload_n 0, 1) := by decide +kernel
theorem dd_X9_find_106 : decode X9_find.2.1 106 = .ok (.getfield 35, 3) := by decide +kernel
theorem dd_X9_find_109 : decode X9_find.2.1 109 = .ok (.iload 7, 2) := by decide +kernel
theorem dd_X9_find_111 : decode X9_find.2.1 111 = .ok (.iaload, 1) := by decide +kernel
theorem dd_X9_find_112 : decode X9_find.2.1 112 = .ok (.iload 5, 2) := by decide +kernel
theorem dd_X9_find_114 : decode X9_find.2.1 114 = .ok (.if_icmp .ge 13, 3) := by decide +kernel
theorem dd_X9_find_117 : decode X9_find.2.1 117 = .ok (.aload_n 0, 1) := by decide +kernel
theorem dd_X9_find_118 : decode X9_find.2.1 118 = .ok (.getfield 35, 3) := by decide +kernel
theorem dd_X9_find_121 : decode X9_find.2.1 121 = .ok (.iload 7, 2) := by decide +kernel
theorem dd_X9_find_123 : decode X9_find.2.1 123 = .ok (.iaload, 1) := by decide +kernel
theorem dd_X9_find_124 : decode X9_find.2.1 124 = .ok (.goto 5, 3) := by decide +kernel
theorem dd_X9_find_127 : decode X9_find.2.1 127 = .ok (.iload 5, 2) := by decide +kernel
theorem dd_X9_find_129 : decode X9_find.2.1 129 = .ok (.istore 5, 2) := by decide +kernel
theorem dd_X9_find_131 : decode X9_find.2.1 131 = .ok (.iload 6, 2) := by decide +kernel
theorem dd_X9_find_133 : decode X9_find.2.1 133 = .ok (.aload_n 0, 1) := by decide +kernel
theorem dd_X9_find_134 : decode X9_find.2.1 134 = .ok (.getfield 35, 3) := by decide +kernel
theorem dd_X9_find_137 : decode X9_find.2.1 137 = .ok (.iload 7, 2) := by decide +kernel
theorem dd_X9_find_139 : decode X9_find.2.1 139 = .ok (.iaload, 1) := by decide +kernel
theorem dd_X9_find_140 : decode X9_find.2.1 140 = .ok (.iload_n 3, 1) := by decide +kernel
theorem dd_X9_find_141 : decode X9_find.2.1 141 = .ok (.if_icmp .ne 7, 3) := by decide +kernel
theorem dd_X9_find_144 : decode X9_find.2.1 144 = .ok (.iconst 1, 1) := by decide +kernel
theorem dd_X9_find_145 : decode X9_find.2.1 145 = .ok (.goto 4, 3) := by decide +kernel
theorem dd_X9_find_148 : decode X9_find.2.1 148 = .ok (.iconst 0, 1) := by decide +kernel
theorem dd_X9_find_149 : decode X9_find.2.1 149 = .ok (.iadd, 1) := by decide +kernel
theorem dd_X9_find_150 : decode X9_find.2.1 150 = .ok (.istore 6, 2) := by decide +kernel
theorem dd_X9_find_152 : decode X9_find.2.1 152 = .ok (.iinc 7 1, 3) := by decide +kernel
theorem dd_X9_find_155 : decode X9_find.2.1 155 = .ok (.goto (-92), 3) := by decide +kernel
theorem dd_X9_find_158 : decode X9_find.2.1 158 = .ok (.iload_n 2, 1) := by decide +kernel
theorem dd_X9_find_159 : decode X9_find.2.1 159 = .ok (.iconst 2, 1) := by decide +kernel
theorem dd_X9_find_160 : decode X9_find.2.1 160 = .ok (.if_icmp .ne 8, 3) := by decide +kernel
theorem dd_X9_find_163 : decode X9_find.2.1 163 = .ok (.iload 6, 2) := by decide +kernel
theorem dd_X9_find_165 : decode X9_find.2.1 165 = .ok (.goto 32, 3) := by decide +kernel
theorem dd_X9_find_168 : decode X9_find.2.1 168 = .ok (.aload_n 0, 1) := by decide +kernel
theorem dd_X9_find_169 : decode X9_find.2.1 169 = .ok (.getfield 32, 3) := by decide +kernel
theorem dd_X9_find_172 : decode X9_find.2.1 172 = .ok (.iload_n 1, 1) := by decide +kernel
theorem dd_X9_find_173 : decode X9_find.2.1 173 = .ok (.iaload, 1) := by decide +kernel
theorem dd_X9_find_174 : decode X9_find.2.1 174 = .ok (.ifCond .ne 8, 3) := by decide +kernel
theorem dd_X9_find_177 : decode X9_find.2.1 177 = .ok (.bipush (-12), 2) := by decide +kernel
theorem dd_X9_find_179 : decode X9_find.2.1 179 = .ok (.goto 18, 3) := by decide +kernel
theorem dd_X9_find_182 : decode X9_find.2.1 182 = .ok (.ldc_w 299, 3) := by decide +kernel
theorem dd_X9_find_185 : decode X9_find.2.1 185 = .ok (.iload_n 2, 1) := by decide +kernel
theorem dd_X9_find_186 : decode X9_find.2.1 186 = .ok (.ifCond .ne 8, 3) := by decide +kernel
theorem dd_X9_find_189 : decode X9_find.2.1 189 = .ok (.iload 4, 2) := by decide +kernel
theorem dd_X9_find_191 : decode X9_find.2.1 191 = .ok (.goto 5, 3) := by decide +kernel
theorem dd_X9_find_194 : decode X9_find.2.1 194 = .ok (.iload 5, 2) := by decide +kernel
theorem dd_X9_find_196 : decode X9_find.2.1 196 = .ok (.iadd, 1) := by decide +kernel
theorem dd_X9_find_197 : decode X9_find.2.1 197 = .ok (.ireturn, 1) := by decide +kernel
theorem dd_X9_strike_0 : decode X9_strike.2.1 0 = .ok (.iload_n 1, 1) := by decide +kernel
theorem dd_X9_strike_1 : decode X9_strike.2.1 1 = .ok (.invokestatic 286, 3) := by decide +kernel
theorem dd_X9_strike_4 : decode X9_strike.2.1 4 = .ok (.ifCond .ne 6, 3) := by decide +kernel
theorem dd_X9_strike_7 : decode X9_strike.2.1 7 = .ok (.bipush (-2), 2) := by decide +kernel
theorem dd_X9_strike_9 : decode X9_strike.2.1 9 = .ok (.ireturn, 1) := by decide +kernel
theorem dd_X9_strike_10 : decode X9_strike.2.1 10 = .ok (.iload_n 2, 1) := by decide +kernel
theorem dd_X9_strike_11 : decode X9_strike.2.1 11 = .ok (.invokestatic 289, 3) := by decide +kernel
theorem dd_X9_strike_14 : decode X9_strike.2.1 14 = .ok (.ifCond .ne 6, 3) := by decide +kernel
theorem dd_X9_strike_17 : decode X9_strike.2.1 17 = .ok (.bipush (-3), 2) := by decide +kernel
theorem dd_X9_strike_19 : decode X9_strike.2.1 19 = .ok (.ireturn, 1) := by decide +kernel
theorem dd_X9_strike_20 : decode X9_strike.2.1 20 = .ok (.aload_n 0, 1) := by decide +kernel
theorem dd_X9_strike_21 : decode X9_strike.2.1 21 = .ok (.getfield 32, 3) := by decide +kernel
theorem dd_X9_strike_24 : decode X9_strike.2.1 24 = .ok (.iload_n 1, 1) := by decide +kernel
theorem dd_X9_strike_25 : decode X9_strike.2.1 25 = .ok (.iaload, 1) := by decide +kernel
theorem dd_X9_strike_26 : decode X9_strike.2.1 26 = .ok (.ifCond .ge 6, 3) := by decide +kernel
theorem dd_X9_strike_29 : decode X9_strike.2.1 29 = .ok (.bipush (-11), 2) := by decide +kernel
theorem dd_X9_strike_31 : decode X9_strike.2.1 31 = .ok (.ireturn, 1) := by decide +kernel
theorem dd_X9_strike_32 : decode X9_strike.2.1 32 = .ok (.iconst 0, 1) := by decide +kernel
theorem dd_X9_strike_33 : decode X9_strike.2.1 33 = .ok (.istore_n 3, 1) := by decide +kernel
theorem dd_X9_strike_34 : decode X9_strike.2.1 34 = .ok (.iconst 0, 1) := by decide +kernel
theorem dd_X9_strike_35 : decode X9_strike.2.1 35 = .ok (.istore 4, 2) := by decide +kernel
theorem dd_X9_strike_37 : decode X9_strike.2.1 37 = .ok (.iload 4, 2) := by decide +kernel
theorem dd_X9_strike_39 : decode X9_strike.2.1 39 = .ok (.aload_n 0, 1) := by decide +kernel
theorem dd_X9_strike_40 : decode X9_strike.2.1 40 = .ok (.getfield 32, 3) := by decide +kernel
theorem dd_X9_strike_43 : decode X9_strike.2.1 43 = .ok (.iload_n 1, 1) := by decide +kernel
theorem dd_X9_strike_44 : decode X9_strike.2.1 44 = .ok (.iaload, 1) := by decide +kernel
theorem dd_X9_strike_45 : decode X9_strike.2.1 45 = .ok (.if_icmp .ge 51, 3) := by decide +kernel
theorem dd_X9_strike_48 : decode X9_strike.2.1 48 = .ok (.aload_n 0, 1) := by decide +kernel
theorem dd_X9_strike_49 : decode X9_strike.2.1 49 = .ok (.getfield 35, 3) := by decide +kernel
theorem dd_X9_strike_52 : decode X9_strike.2.1 52 = .ok (.bipush 12, 2) := by decide +kernel
theorem dd_X9_strike_54 : decode X9_strike.2.1 54 = .ok (.iload_n 1, 1) := by decide +kernel
theorem dd_X9_strike_55 : decode X9_strike.2.1 55 = .ok (.imul, 1) := by decide +kernel
theorem dd_X9_strike_56 : decode X9_strike.2.1 56 = .ok (.iload 4, 2) := by decide +kernel
theorem dd_X9_strike_58 : decode X9_strike.2.1 58 = .ok (.iadd, 1) := by decide +kernel
theorem dd_X9_strike_59 : decode X9_strike.2.1 59 = .ok (.iaload, 1) := by decide +kernel
theorem dd_X9_strike_60 : decode X9_strike.2.1 60 = .ok (.iload_n 2, 1) := by decide +kernel
theorem dd_X9_strike_61 : decode X9_strike.2.1 61 = .ok (.if_icmp .eq 29, 3) := by decide +kernel
theorem dd_X9_strike_64 : decode X9_strike.2.1 64 = .ok (.aload_n 0, 1) := by decide +kernel
theorem dd_X9_strike_65 : decode X9_strike.2.1 65 = .ok (.getfield 35, 3) := by decide +kernel
theorem dd_X9_strike_68 : decode X9_strike.2.1 68 = .ok (.bipush 12, 2) := by decide +kernel
theorem dd_X9_strike_70 : decode X9_strike.2.1 70 = .ok (.iload_n 1, 1) := by decide +kernel
theorem dd_X9_strike_71 : decode X9_strike.2.1 71 = .ok (.imul, 1) := by decide +kernel
theorem dd_X9_strike_72 : decode X9_strike.2.1 72 = .ok (.iload_n 3, 1) := by decide +kernel
theorem dd_X9_strike_73 : decode X9_strike.2.1 73 = .ok (.iadd, 1) := by decide +kernel
theorem dd_X9_strike_74 : decode X9_strike.2.1 74 = .ok (.aload_n 0, 1) := by decide +kernel
theorem dd_X9_strike_75 : decode X9_strike.2.1 75 = .ok (.getfield 35, 3) := by decide +kernel
theorem dd_X9_strike_78 : decode X9_strike.2.1 78 = .ok (.bipush 12, 2) := by decide +kernel
theorem dd_X9_strike_80 : decode X9_strike.2.1 80 = .ok (.iload_n 1, 1) := by decide +kernel
theorem dd_X9_strike_81 : decode X9_strike.2.1 81 = .ok (.imul, 1) := by decide +kernel
theorem dd_X9_strike_82 : decode X9_strike.2.1 82 = .ok (.iload 4, 2) := by decide +kernel
theorem dd_X9_strike_84 : decode X9_strike.2.1 84 = .ok (.iadd, 1) := by decide +kernel
theorem dd_X9_strike_85 : decode X9_strike.2.1 85 = .ok (.iaload, 1) := by decide +kernel
theorem dd_X9_strike_86 : decode X9_strike.2.1 86 = .ok (.iastore, 1) := by decide +kernel
theorem dd_X9_strike_87 : decode X9_strike.2.1 87 = .ok (.iinc 3 1, 3) := by decide +kernel
theorem dd_X9_strike_90 : decode X9_strike.2.1 90 = .ok (.iinc 4 1, 3) := by decide +kernel
theorem dd_X9_strike_93 : decode X9_strike.2.1 93 = .ok (.goto (-56), 3) := by decide +kernel
theorem dd_X9_strike_96 : decode X9_strike.2.1 96 = .ok (.aload_n 0, 1) := by decide +kernel
theorem dd_X9_strike_97 : decode X9_strike.2.1 97 = .ok (.getfield 32, 3) := by decide +kernel
theorem dd_X9_strike_100 : decode X9_strike.2.1 100 = .ok (.iload_n 1, 1) := by decide +kernel
theorem dd_X9_strike_101 : decode X9_strike.2.1 101 = .ok (.iaload, 1) := by decide +kernel
theorem dd_X9_strike_102 : decode X9_strike.2.1 102 = .ok (.iload_n 3, 1) := by decide +kernel
theorem dd_X9_strike_103 : decode X9_strike.2.1 103 = .ok (.isub, 1) := by decide +kernel
theorem dd_X9_strike_104 : decode X9_strike.2.1 104 = .ok (.istore 4, 2) := by decide +kernel
theorem dd_X9_strike_106 : decode X9_strike.2.1 106 = .ok (.aload_n 0, 1) := by decide +kernel
theorem dd_X9_strike_107 : decode X9_strike.2.1 107 = .ok (.getfield 32, 3) := by decide +kernel
theorem dd_X9_strike_110 : decode X9_strike.2.1 110 = .ok (.iload_n 1, 1) := by decide +kernel
theorem dd_X9_strike_111 : decode X9_strike.2.1 111 = .ok (.iload_n 3, 1) := by decide +kernel
theorem dd_X9_strike_112 : decode X9_strike.2.1 112 = .ok (.iastore, 1) := by decide +kernel
theorem dd_X9_strike_113 : decode X9_strike.2.1 113 = .ok (.iload 4, 2) := by decide +kernel
theorem dd_X9_strike_115 : decode X9_strike.2.1 115 = .ok (.ireturn, 1) := by decide +kernel
theorem dd_X9_load_0 : decode X9_load.2.1 0 = .ok (.iload_n 1, 1) := by decide +kernel
theorem dd_X9_load_1 : decode X9_load.2.1 1 = .ok (.invokestatic 286, 3) := by decide +kernel
theorem dd_X9_load_4 : decode X9_load.2.1 4 = .ok (.ifCond .eq 11, 3) := by decide +kernel
theorem dd_X9_load_7 : decode X9_load.2.1 7 = .ok (.aload_n 0, 1) := by decide +kernel
theorem dd_X9_load_8 : decode X9_load.2.1 8 = .ok (.iload_n 2, 1) := by decide +kernel
theorem dd_X9_load_9 : decode X9_load.2.1 9 = .ok (.invokevirtual 198, 3) := by decide +kernel
theorem dd_X9_load_12 : decode X9_load.2.1 12 = .ok (.ifCond .ne 6, 3) := by decide +kernel
theorem dd_X9_load_15 : decode X9_load.2.1 15 = .ok (.bipush (-2), 2) := by decide +kernel
theorem dd_X9_load_17 : decode X9_load.2.1 17 = .ok (.ireturn, 1) := by decide +kernel
theorem dd_X9_load_18 : decode X9_load.2.1 18 = .ok (.iload_n 3, 1) := by decide +kernel
theorem dd_X9_load_19 : decode X9_load.2.1 19 = .ok (.i2l, 1) := by decide +kernel
theorem dd_X9_load_20 : decode X9_load.2.1 20 = .ok (.lconst 0, 1) := by decide +kernel
theorem dd_X9_load_21 : decode X9_load.2.1 21 = .ok (.aload_n 0, 1) := by decide +kernel
theorem dd_X9_load_22 : decode X9_load.2.1 22 = .ok (.getfield 86, 3) := by decide +kernel
theorem dd_X9_load_25 : decode X9_load.2.1 25 = .ok (.iconst 1, 1) := by decide +kernel
theorem dd_X9_load_26 : decode X9_load.2.1 26 = .ok (.isub, 1) := by decide +kernel
theorem dd_X9_load_27 : decode X9_load.2.1 27 = .ok (.i2l, 1) := by decide +kernel
theorem dd_X9_load_28 : decode X9_load.2.1 28 = .ok (.invokestatic 104, 3) := by decide +kernel
theorem dd_X9_load_31 : decode X9_load.2.1 31 = .ok (.ifCond .ne 6, 3) := by decide +kernel
theorem dd_X9_load_34 : decode X9_load.2.1 34 = .ok (.bipush (-3), 2) := by decide +kernel
theorem dd_X9_load_36 : decode X9_load.2.1 36 = .ok (.ireturn, 1) := by decide +kernel
theorem dd_X9_load_37 : decode X9_load.2.1 37 = .ok (.aload_n 0, 1) := by decide +kernel
theorem dd_X9_load_38 : decode X9_load.2.1 38 = .ok (.getfield 32, 3) := by decide +kernel
theorem dd_X9_load_41 : decode X9_load.2.1 41 = .ok (.iload_n 1, 1) := by decide +kernel
theorem dd_X9_load_42 : decode X9_load.2.1 42 = .ok (.iaload, 1) := by decide +kernel
theorem dd_X9_load_43 : decode X9_load.2.1 43 = .ok (.ifCond .ge 6, 3) := by decide +kernel
theorem dd_X9_load_46 : decode X9_load.2.1 46 = .ok (.bipush (-11), 2) := by decide +kernel
theorem dd_X9_load_48 : decode X9_load.2.1 48 = .ok (.ireturn, 1) := by decide +kernel
theorem dd_X9_load_49 : decode X9_load.2.1 49 = .ok (.aload_n 0, 1) := by decide +kernel
theorem dd_X9_load_50 : decode X9_load.2.1 50 = .ok (.getfield 32, 3) := by decide +kernel
theorem dd_X9_load_53 : decode X9_load.2.1 53 = .ok (.iload_n 1, 1) := by decide +kernel
theorem dd_X9_load_54 : decode X9_load.2.1 54 = .ok (.iaload, 1) := by decide +kernel
theorem dd_X9_load_55 : decode X9_load.2.1 55 = .ok (.aload_n 0, 1) := by decide +kernel
theorem dd_X9_load_56 : decode X9_load.2.1 56 = .ok (.getfield 86, 3) := by decide +kernel
theorem dd_X9_load_59 : decode X9_load.2.1 59 = .ok (.iadd, 1) := by decide +kernel
theorem dd_X9_load_60 : decode X9_load.2.1 60 = .ok (.bipush 12, 2) := by decide +kernel
theorem dd_X9_load_62 : decode X9_load.2.1 62 = .ok (.if_icmp .le 6, 3) := by decide +kernel
theorem dd_X9_load_65 : decode X9_load.2.1 65 = .ok (.bipush (-13), 2) := by decide +kernel
theorem dd_X9_load_67 : decode X9_load.2.1 67 = .ok (.ireturn, 1) := by decide +kernel
theorem dd_X9_load_68 : decode X9_load.2.1 68 = .ok (.iconst 0, 1) := by decide +kernel
theorem dd_X9_load_69 : decode X9_load.2.1 69 = .ok (.istore 4, 2) := by decide +kernel
theorem dd_X9_load_71 : decode X9_load.2.1 71 = .ok (.iload 4, 2) := by decide +kernel
theorem dd_X9_load_73 : decode X9_load.2.1 73 = .ok (.aload_n 0, 1) := by decide +kernel
theorem dd_X9_load_74 : decode X9_load.2.1 74 = .ok (.getfield 86, 3) := by decide +kernel
theorem dd_X9_load_77 : decode X9_load.2.1 77 = .ok (.if_icmp .ge 24, 3) := by decide +kernel
theorem dd_X9_load_80 : decode X9_load.2.1 80 = .ok (.aload_n 0, 1) := by decide +kernel
theorem dd_X9_load_81 : decode X9_load.2.1 81 = .ok (.iload_n 1, 1) := by decide +kernel
theorem dd_X9_load_82 : decode X9_load.2.1 82 = .ok (.iconst 1, 1) := by decide +kernel
theorem dd_X9_load_83 : decode X9_load.2.1 83 = .ok (.aload_n 0, 1) := by decide +kernel
theorem dd_X9_load_84 : decode X9_load.2.1 84 = .ok (.iload_n 2, 1) := by decide +kernel
theorem dd_X9_load_85 : decode X9_load.2.1 85 = .ok (.iload_n 3, 1) := by decide +kernel
theorem dd_X9_load_86 : decode X9_load.2.1 86 = .ok (.iload 4, 2) := by decide +kernel
theorem dd_X9_load_88 : decode X9_load.2.1 88 = .ok (.iadd, 1) := by decide +kernel
theorem dd_X9_load_89 : decode X9_load.2.1 89 = .ok (.invokevirtual 186, 3) := by decide +kernel
theorem dd_X9_load_92 : decode X9_load.2.1 92 = .ok (.invokevirtual 292, 3) := by decide +kernel
theorem dd_X9_load_95 : decode X9_load.2.1 95 = .ok (.iinc 4 1, 3) := by decide +kernel
theorem dd_X9_load_98 : decode X9_load.2.1 98 = .ok (.goto (-27), 3) := by decide +kernel
theorem dd_X9_load_101 : decode X9_load.2.1 101 = .ok (.aload_n 0, 1) := by decide +kernel
theorem dd_X9_load_102 : decode X9_load.2.1 102 = .ok (.getfield 32, 3) := by decide +kernel
theorem dd_X9_load_105 : decode X9_load.2.1 105 = .ok (.iload_n 1, 1) := by decide +kernel
theorem dd_X9_load_106 : decode X9_load.2.1 106 = .ok (.iaload, 1) := by decide +kernel
theorem dd_X9_load_107 : decode X9_load.2.1 107 = .ok (.ireturn, 1) := by decide +kernel
theorem dd_X9_drop_0 : decode X9_drop.2.1 0 = .ok (.iload_n 1, 1) := by decide +kernel
theorem dd_X9_drop_1 : decode X9_drop.2.1 1 = .ok (.invokestatic 286, 3) := by decide +kernel
theorem dd_X9_drop_4 : decode X9_drop.2.1 4 = .ok (.ifCond .ne 6, 3) := by decide +kernel
theorem dd_X9_drop_7 : decode X9_drop.2.1 7 = .ok (.bipush (-2), 2) := by decide +kernel
theorem dd_X9_drop_9 : decode X9_drop.2.1 9 = .ok (.ireturn, 1) := by decide +kernel
theorem dd_X9_drop_10 : decode X9_drop.2.1 10 = .ok (.aload_n 0, 1) := by decide +kernel
theorem dd_X9_drop_11 : decode X9_drop.2.1 11 = .ok (.getfield 32, 3) := by decide +kernel
theorem dd_X9_drop_14 : decode X9_drop.2.1 14 = .ok (.iload_n 1, 1) := by decide +kernel
theorem dd_X9_drop_15 : decode X9_drop.2.1 15 = .ok (.iaload, 1) := by decide +kernel
theorem dd_X9_drop_16 : decode X9_drop.2.1 16 = .ok (.istore_n 2, 1) := by decide +kernel
theorem dd_X9_drop_17 : decode X9_drop.2.1 17 = .ok (.aload_n 0, 1) := by decide +kernel
theorem dd_X9_drop_18 : decode X9_drop.2.1 18 = .ok (.getfield 32, 3) := by decide +kernel
theorem dd_X9_drop_21 : decode X9_drop.2.1 21 = .ok (.iload_n 1, 1) := by decide +kernel
theorem dd_X9_drop_22 : decode X9_drop.2.1 22 = .ok (.iconst (-1), 1) := by decide +kernel
theorem dd_X9_drop_23 : decode X9_drop.2.1 23 = .ok (.iastore, 1) := by decide +kernel
theorem dd_X9_drop_24 : decode X9_drop.2.1 24 = .ok (.iload_n 2, 1) := by decide +kernel
theorem dd_X9_drop_25 : decode X9_drop.2.1 25 = .ok (.ifCond .ge 8, 3) := by decide +kernel
theorem dd_X9_drop_28 : decode X9_drop.2.1 28 = .ok (.bipush (-11), 2) := by decide +kernel
theorem dd_X9_drop_30 : decode X9_drop.2.1 30 = .ok (.goto 4, 3) := by decide +kernel
theorem dd_X9_drop_33 : decode X9_drop.2.1 33 = .ok (.iload_n 2, 1) := by decide +kernel
theorem dd_X9_drop_34 : decode X9_drop.2.1 34 = .ok (.ireturn, 1) := by decide +kernel
theorem dd_X9_clashes_0 : decode X9_clashes.2.1 0 = .ok (.iconst 0, 1) := by decide +kernel
theorem dd_X9_clashes_1 : decode X9_clashes.2.1 1 = .ok (.istore_n 1, 1) := by decide +kernel
theorem dd_X9_clashes_2 : decode X9_clashes.2.1 2 = .ok (.iconst 0, 1) := by decide +kernel
theorem dd_X9_clashes_3 : decode X9_clashes.2.1 3 = .ok (.istore_n 2, 1) := by decide +kernel
theorem dd_X9_clashes_4 : decode X9_clashes.2.1 4 = .ok (.iload_n 2, 1) := by decide +kernel
theorem dd_X9_clashes_5 : decode X9_clashes.2.1 5 = .ok (.aload_n 0, 1) := by decide +kernel
theorem dd_X9_clashes_6 : decode X9_clashes.2.1 6 = .ok (.getfield 99, 3) := by decide +kernel
theorem dd_X9_clashes_9 : decode X9_clashes.2.1 9 = .ok (.if_icmp .ge 39, 3) := by decide +kernel
theorem dd_X9_clashes_12 : decode X9_clashes.2.1 12 = .ok (.iconst 0, 1) := by decide +kernel
theorem dd_X9_clashes_13 : decode X9_clashes.2.1 13 = .ok (.istore_n 3, 1) := by decide +kernel
theorem dd_X9_clashes_14 : decode X9_clashes.2.1 14 = .ok (.iload_n 3, 1) := by decide +kernel
theorem dd_X9_clashes_15 : decode X9_clashes.2.1 15 = .ok (.iload_n 2, 1) := by decide +kernel
theorem dd_X9_clashes_16 : decode X9_clashes.2.1 16 = .ok (.if_icmp .ge 26, 3) := by decide +kernel
theorem dd_X9_clashes_19 : decode X9_clashes.2.1 19 = .ok (.iload_n 1, 1) := by decide +kernel
theorem dd_X9_clashes_20 : decode X9_clashes.2.1 20 = .ok (.aload_n 0, 1) := by decide +kernel
theorem dd_X9_clashes_21 : decode X9_clashes.2.1 21 = .ok (.iload_n 2, 1) := by decide +kernel
theorem dd_X9_clashes_22 : decode X9_clashes.2.1 22 = .ok (.iload_n 3, 1) := by decide +kernel
theorem dd_X9_clashes_23 : decode X9_clashes.2.1 23 = .ok (.invokevirtual 221, 3) := by decide +kernel
theorem dd_X9_clashes_26 : decode X9_clashes.2.1 26 = .ok (.ifCond .eq 7, 3) := by decide +kernel
theorem dd_X9_clashes_29 : decode X9_clashes.2.1 29 = .ok (.iconst 1, 1) := by decide +kernel
theorem dd_X9_clashes_30 : decode X9_clashes.2.1 30 = .ok (.goto 4, 3) := by decide +kernel
theorem dd_X9_clashes_33 : decode X9_clashes.2.1 33 = .ok (.iconst 0, 1) := by decide +kernel
theorem dd_X9_clashes_34 : decode X9_clashes.2.1 34 = .ok (.iadd, 1) := by decide +kernel
theorem dd_X9_clashes_35 : decode X9_clashes.2.1 35 = .ok (.istore_n 1, 1) := by decide +kernel
theorem dd_X9_clashes_36 : decode X9_clashes.2.1 36 = .ok (.iinc 3 1, 3) := by decide +kernel
theorem dd_X9_clashes_39 : decode X9_clashes.2.1 39 = .ok (.goto (-25), 3) := by decide +kernel
theorem dd_X9_clashes_42 : decode X9_clashes.2.1 42 = .ok (.iinc 2 1, 3) := by decide +kernel
theorem dd_X9_clashes_45 : decode X9_clashes.2.1 45 = .ok (.goto (-41), 3) := by decide +kernel
theorem dd_X9_clashes_48 : decode X9_clashes.2.1 48 = .ok (.iload_n 1, 1) := by decide +kernel
theorem dd_X9_clashes_49 : decode X9_clashes.2.1 49 = .ok (.ireturn, 1) := by decide +kernel
theorem dd_X9_allNumbers_0 : decode X9_allNumbers.2.1 0 = .ok (.iconst 0, 1) := by decide +kernel
theorem dd_X9_allNumbers_1 : decode X9_allNumbers.2.1 1 = .ok (.istore_n 1, 1) := by decide +kernel
theorem dd_X9_allNumbers_2 : decode X9_allNumbers.2.1 2 = .ok (.iconst 0, 1) := by decide +kernel
theorem dd_X9_allNumbers_3 : decode X9_allNumbers.2.1 3 = .ok (.istore_n 2, 1) := by decide +kernel
theorem dd_X9_allNumbers_4 : decode X9_allNumbers.2.1 4 = .ok (.iload_n 2, 1) := by decide +kernel
theorem dd_X9_allNumbers_5 : decode X9_allNumbers.2.1 5 = .ok (.iconst 3, 1) := by decide +kernel
theorem dd_X9_allNumbers_6 : decode X9_allNumbers.2.1 6 = .ok (.if_icmp .ge 31, 3) := by decide +kernel
theorem dd_X9_allNumbers_9 : decode X9_allNumbers.2.1 9 = .ok (.iload_n 1, 1) := by decide +kernel
theorem dd_X9_allNumbers_10 : decode X9_allNumbers.2.1 10 = .ok (.aload_n 0, 1) := by decide +kernel
theorem dd_X9_allNumbers_11 : decode X9_allNumbers.2.1 11 = .ok (.getfield 32, 3) := by decide +kernel
theorem dd_X9_allNumbers_14 : decode X9_allNumbers.2.1 14 = .ok (.iload_n 2, 1) := by decide +kernel
theorem dd_X9_allNumbers_15 : decode X9_allNumbers.2.1 15 = .ok (.iaload, 1) := by decide +kernel
theorem dd_X9_allNumbers_16 : decode X9_allNumbers.2.1 16 = .ok (.ifCond .ge 7, 3) := by decide +kernel
theorem dd_X9_allNumbers_19 : decode X9_allNumbers.2.1 19 = .ok (.iconst 0, 1) := by decide +kernel
theorem dd_X9_allNumbers_20 : decode X9_allNumbers.2.1 20 = .ok (.goto 9, 3) := by decide +kernel
theorem dd_X9_allNumbers_23 : decode X9_allNumbers.2.1 23 = .ok (.aload_n 0, 1) := by decide +kernel
theorem dd_X9_allNumbers_24 : decode X9_allNumbers.2.1 24 = .ok (.getfield 32, 3) := by decide +kernel
theorem dd_X9_allNumbers_27 : decode X9_allNumbers.2.1 27 = .ok (.iload_n 2, 1) := by decide +kernel
theorem dd_X9_allNumbers_28 : decode X9_allNumbers.2.1 28 = .ok (.iaload, 1) := by decide +kernel
theorem dd_X9_allNumbers_29 : decode X9_allNumbers.2.1 29 = .ok (.iadd, 1) := by decide +kernel
theorem dd_X9_allNumbers_30 : decode X9_allNumbers.2.1 30 = .ok (.istore_n 1, 1) := by decide +kernel
theorem dd_X9_allNumbers_31 : decode X9_allNumbers.2.1 31 = .ok (.iinc 2 1, 3) := by decide +kernel
theorem dd_X9_allNumbers_34 : decode X9_allNumbers.2.1 34 = .ok (.goto (-30), 3) := by decide +kernel
theorem dd_X9_allNumbers_37 : decode X9_allNumbers.2.1 37 = .ok (.iload_n 1, 1) := by decide +kernel
theorem dd_X9_allNumbers_38 : decode X9_allNumbers.2.1 38 = .ok (.ireturn, 1) := by decide +kernel
theorem dd_X9_count_0 : decode X9_count.2.1 0 = .ok (.iload_n 1, 1) := by decide +kernel
theorem dd_X9_count_1 : decode X9_count.2.1 1 = .ok (.tableswitch 114 0 10 #[59, 64, 69, 74, 79, 84, 89, 94, 99, 104, 109], 59) := by decide +kernel
theorem dd_X9_count_60 : decode X9_count.2.1 60 = .ok (.aload_n 0, 1) := by decide +kernel
theorem dd_X9_count_61 : decode X9_count.2.1 61 = .ok (.getfield 86, 3) := by decide +kernel
theorem dd_X9_count_64 : decode X9_count.2.1 64 = .ok (.ireturn, 1) := by decide +kernel
theorem dd_X9_count_65 : decode X9_count.2.1 65 = .ok (.aload_n 0, 1) := by decide +kernel
theorem dd_X9_count_66 : decode X9_count.2.1 66 = .ok (.getfield 90, 3) := by decide +kernel
theorem dd_X9_count_69 : decode X9_count.2.1 69 = .ok (.ireturn, 1) := by decide +kernel
theorem dd_X9_count_70 : decode X9_count.2.1 70 = .ok (.aload_n 0, 1) := by decide +kernel
theorem dd_X9_count_71 : decode X9_count.2.1 71 = .ok (.getfield 93, 3) := by decide +kernel
theorem dd_X9_count_74 : decode X9_count.2.1 74 = .ok (.ireturn, 1) := by decide +kernel
theorem dd_X9_count_75 : decode X9_count.2.1 75 = .ok (.aload_n 0, 1) := by decide +kernel
theorem dd_X9_count_76 : decode X9_count.2.1 76 = .ok (.getfield 96, 3) := by decide +kernel
theorem dd_X9_count_79 : decode X9_count.2.1 79 = .ok (.ireturn, 1) := by decide +kernel
theorem dd_X9_count_80 : decode X9_count.2.1 80 = .ok (.aload_n 0, 1) := by decide +kernel
theorem dd_X9_count_81 : decode X9_count.2.1 81 = .ok (.getfield 99, 3) := by decide +kernel
theorem dd_X9_count_84 : decode X9_count.2.1 84 = .ok (.ireturn, 1) := by decide +kernel
theorem dd_X9_count_85 : decode X9_count.2.1 85 = .ok (.aload_n 0, 1) := by decide +kernel
theorem dd_X9_count_86 : decode X9_count.2.1 86 = .ok (.invokevirtual 236, 3) := by decide +kernel
theorem dd_X9_count_89 : decode X9_count.2.1 89 = .ok (.ireturn, 1) := by decide +kernel
theorem dd_X9_count_90 : decode X9_count.2.1 90 = .ok (.aload_n 0, 1) := by decide +kernel
theorem dd_X9_count_91 : decode X9_count.2.1 91 = .ok (.invokevirtual 302, 3) := by decide +kernel
theorem dd_X9_count_94 : decode X9_count.2.1 94 = .ok (.ireturn, 1) := by decide +kernel
theorem dd_X9_count_95 : decode X9_count.2.1 95 = .ok (.aload_n 0, 1) := by decide +kernel
theorem dd_X9_count_96 : decode X9_count.2.1 96 = .ok (.invokevirtual 274, 3) := by decide +kernel
theorem dd_X9_count_99 : decode X9_count.2.1 99 = .ok (.ireturn, 1) := by decide +kernel
theorem dd_X9_count_100 : decode X9_count.2.1 100 = .ok (.aload_n 0, 1) := by decide +kernel
theorem dd_X9_count_101 : decode X9_count.2.1 101 = .ok (.invokevirtual 305, 3) := by decide +kernel
theorem dd_X9_count_104 : decode X9_count.2.1 104 = .ok (.ireturn, 1) := by decide +kernel
theorem dd_X9_count_105 : decode X9_count.2.1 105 = .ok (.aload_n 0, 1) := by decide +kernel
theorem dd_X9_count_106 : decode X9_count.2.1 106 = .ok (.getfield 180, 3) := by decide +kernel
theorem dd_X9_count_109 : decode X9_count.2.1 109 = .ok (.ireturn, 1) := by decide +kernel
theorem dd_X9_count_110 : decode X9_count.2.1 110 = .ok (.aload_n 0, 1) := by decide +kernel
theorem dd_X9_count_111 : decode X9_count.2.1 111 = .ok (.getfield 108, 3) := by decide +kernel
theorem dd_X9_count_114 : decode X9_count.2.1 114 = .ok (.ireturn, 1) := by decide +kernel
theorem dd_X9_count_115 : decode X9_count.2.1 115 = .ok (.bipush (-3), 2) := by decide +kernel
theorem dd_X9_count_117 : decode X9_count.2.1 117 = .ok (.ireturn, 1) := by decide +kernel
end
